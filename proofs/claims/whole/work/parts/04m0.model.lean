abbrev rm_X10_isIn : Room := { frames := 0, cells := 0, slots := 0, locals := 0 }
def w_X10_isIn (x0 : Int32) (x1 : Int32) (x2 : Int32)  (Q : Int32 →  Prop) : Prop :=
((x0 < x1 → Q (0 : Int32)) ∧
(¬ x0 < x1 → ((x2 < x0 → Q (0 : Int32)) ∧
(¬ x2 < x0 → Q (1 : Int32)))))
set_option maxHeartbeats 4000000 in
set_option maxRecDepth 100000 in
theorem c_X10_isIn (K : Kx) (hW : WFK K) (l : Launch) (x0 : Int32) (x1 : Int32) (x2 : Int32)  (I : MI) (J : MJ) (B : MR) (Q : Int32 →  Prop) (h : w_X10_isIn x0 x1 x2 Q) : Con K l yX10_isIn (wsT yX10_isIn cX10_isIn 3 (some .boolean)) rm_X10_isIn [.int x0, .int x1, .int x2] (I, J, B) (va_Qi (S := Unit) (fun r _ => Q r) (fun u t => HP K (I, J, B) t.heap) (AA K)) := by
  refine Con.ofJ RX10 rfl (by decide) (Nat.le_of_ble_eq_true rfl) (fun m H0 w G => ?_)
  unfold w_X10_isIn at h
  show Jg K m 3 H0 w 0 [(0, .int x0), (1, .int x1), (2, .int x2)] [] (I, J, B)
  refine j_iload_n G 0 0 dX10_isIn_0 rfl rfl ?_
  refine j_iload_n G 1 1 dX10_isIn_1 rfl rfl ?_
  refine j_icmp_lt G 14 dX10_isIn_2 (by decide) (fun c1 => ?_) (fun c1 => ?_)
  · have h := h.1 c1
    refine j_iconst G (0 : Int32) dX10_isIn_14 (by decide) ?_
    exact j_reti G () (by decide) dX10_isIn_15 h rfl
  · have h := h.2 c1
    refine j_iload_n G 0 0 dX10_isIn_5 rfl rfl ?_
    refine j_iload_n G 2 2 dX10_isIn_6 rfl rfl ?_
    refine j_icmp_gt G 14 dX10_isIn_7 (by decide) (fun c2 => ?_) (fun c2 => ?_)
    · have h := h.1 c2
      refine j_iconst G (0 : Int32) dX10_isIn_14 (by decide) ?_
      exact j_reti G () (by decide) dX10_isIn_15 h rfl
    · have h := h.2 c2
      refine j_iconst G (1 : Int32) dX10_isIn_10 (by decide) ?_
      refine j_goto G 15 dX10_isIn_11 (by decide) ?_
      exact j_reti G () (by decide) dX10_isIn_15 h rfl
abbrev rm_X10_has : Room := { frames := 0, cells := 0, slots := 0, locals := 0 }
def w_X10_has (x0 : Int32) (x1 : Int32)  (Q : Int32 →  Prop) : Prop :=
((¬ ((x0 >>> (x1 &&& 31)) &&& (1 : Int32)) = (1 : Int32) → Q (0 : Int32)) ∧
(((x0 >>> (x1 &&& 31)) &&& (1 : Int32)) = (1 : Int32) → Q (1 : Int32)))
set_option maxHeartbeats 4000000 in
set_option maxRecDepth 100000 in
theorem c_X10_has (K : Kx) (hW : WFK K) (l : Launch) (x0 : Int32) (x1 : Int32)  (I : MI) (J : MJ) (B : MR) (Q : Int32 →  Prop) (h : w_X10_has x0 x1 Q) : Con K l yX10_has (wsT yX10_has cX10_has 2 (some .boolean)) rm_X10_has [.int x0, .int x1] (I, J, B) (va_Qi (S := Unit) (fun r _ => Q r) (fun u t => HP K (I, J, B) t.heap) (AA K)) := by
  refine Con.ofJ RX10 rfl (by decide) (Nat.le_of_ble_eq_true rfl) (fun m H0 w G => ?_)
  unfold w_X10_has at h
  show Jg K m 2 H0 w 0 [(0, .int x0), (1, .int x1)] [] (I, J, B)
  refine j_iload_n G 0 0 dX10_has_0 rfl rfl ?_
  refine j_iload_n G 1 1 dX10_has_1 rfl rfl ?_
  refine j_ishr G dX10_has_2 ?_
  refine j_iconst G (1 : Int32) dX10_has_3 (by decide) ?_
  refine j_iand G dX10_has_4 ?_
  refine j_iconst G (1 : Int32) dX10_has_5 (by decide) ?_
  refine j_icmp_ne G 13 dX10_has_6 (by decide) (fun c1 => ?_) (fun c1 => ?_)
  · have h := h.1 c1
    refine j_iconst G (0 : Int32) dX10_has_13 (by decide) ?_
    exact j_reti G () (by decide) dX10_has_14 h rfl
  · have h := h.2 c1
    refine j_iconst G (1 : Int32) dX10_has_9 (by decide) ?_
    refine j_goto G 14 dX10_has_10 (by decide) ?_
    exact j_reti G () (by decide) dX10_has_14 h rfl
abbrev rm_X10_wrap : Room := { frames := 0, cells := 0, slots := 0, locals := 0 }
def w_X10_wrap (x0 : Int32)  (Q : Int32 →  Prop) : Prop :=
Q (((x0 - x0 / (1000 : Int32) * (1000 : Int32)) + (1000 : Int32)) - ((x0 - x0 / (1000 : Int32) * (1000 : Int32)) + (1000 : Int32)) / (1000 : Int32) * (1000 : Int32))
set_option maxHeartbeats 4000000 in
set_option maxRecDepth 100000 in
theorem c_X10_wrap (K : Kx) (hW : WFK K) (l : Launch) (x0 : Int32)  (I : MI) (J : MJ) (B : MR) (Q : Int32 →  Prop) (h : w_X10_wrap x0 Q) : Con K l yX10_wrap (wsT yX10_wrap cX10_wrap 1 (some .int)) rm_X10_wrap [.int x0] (I, J, B) (va_Qi (S := Unit) (fun r _ => Q r) (fun u t => HP K (I, J, B) t.heap) (AA K)) := by
  refine Con.ofJ RX10 rfl (by decide) (Nat.le_of_ble_eq_true rfl) (fun m H0 w G => ?_)
  unfold w_X10_wrap at h
  show Jg K m 1 H0 w 0 [(0, .int x0)] [] (I, J, B)
  refine j_iload_n G 0 0 dX10_wrap_0 rfl rfl ?_
  refine j_sipush G (1000 : Int32) dX10_wrap_1 (by decide) ?_
  refine j_irem G (by decide) dX10_wrap_4 ?_
  refine j_sipush G (1000 : Int32) dX10_wrap_5 (by decide) ?_
  refine j_iadd G dX10_wrap_8 ?_
  refine j_sipush G (1000 : Int32) dX10_wrap_9 (by decide) ?_
  refine j_irem G (by decide) dX10_wrap_12 ?_
  exact j_reti G () rfl dX10_wrap_13 h rfl
abbrev rm_X10_clears : Room := { frames := 0, cells := 0, slots := 0, locals := 0 }
def w_X10_clears_l2 (a0 : Nat) (x1 : Int32)  (ke24 : Int32 → MI → Prop) (Q : MI → Prop) (rec : Int32 → MI → Prop) (x2 : Int32) (I : MI) : Prop :=
(((516 : Int32) ≤ x2 → ke24 x2 I) ∧
(¬ (516 : Int32) ≤ x2 → (vp_in (x1 + x2) 4905 ∧
(∀ I4, I4 = ui I (a0 + 1) (ix (x1 + x2)) (0 : Int32) →
rec (x2 + 1) I4))))
set_option maxHeartbeats 4000000 in
set_option maxRecDepth 100000 in
theorem m_X10_clears_l2 {K : Kx} {l : Launch} {m : MethodId} {H0 : Heap} {Q : MI → Prop} {w : HW} {J : MJ} {B : MR} (G : Gd l rm_X10_clears K m RX10 cX10_clears 3 H0 none (va_Qv (S := MI) Q (fun u t => HP K (u, J, B) t.heap) (AA K)) w) (hW : WFK K) (a0 : Nat) (x1 : Int32) (x2 : Int32) (ka0 : (kG K a0).1 = 12) (I : MI) (ke24 : Int32 → MI → Prop) (hke24 : ∀ (x2 : Int32) (I : MI), ke24 x2 I → Jg K m 3 H0 w 24 [(0, .ref a0), (1, .int x1)] [] (I, J, B)) (h : Lp2 (w_X10_clears_l2 a0 x1 ke24 Q) x2 I) : Jg K m 3 H0 w 2 [(0, .ref a0), (1, .int x1), (2, .int x2)] [] (I, J, B) := by
  obtain ⟨n, h⟩ := h
  refine lpN2_ind (P := (fun (x2 : Int32) (I : MI) => Jg K m 3 H0 w 2 [(0, .ref a0), (1, .int x1), (2, .int x2)] [] (I, J, B))) (fun rec hrec x2 I h => ?_) n x2 I h
  unfold w_X10_clears_l2 at h
  refine j_iload_n G 2 2 dX10_clears_2 rfl rfl ?_
  refine j_sipush G (516 : Int32) dX10_clears_3 (by decide) ?_
  refine j_icmp_ge G 24 dX10_clears_6 (by decide) (fun c1 => ?_) (fun c1 => ?_)
  · have h := h.1 c1
    exact Jg.sub [0, 1] rfl (hke24 x2 I h)
  · have h := h.2 c1
    refine j_aload_n G 0 0 dX10_clears_9 rfl rfl ?_
    have kk2 : kG K (a0 + 1) = (20, 4905) := wk_12_1 hW ka0
    refine j_get G hW 11 0 4 (.ref (a0 + 1)) ka0 (by decide) rfl (by decide) rfl lay_X10 fl_X10_7 rfl rfl dX10_clears_10 ?_
    refine j_iload_n G 1 1 dX10_clears_13 rfl rfl ?_
    refine j_iload_n G 2 2 dX10_clears_14 rfl rfl ?_
    refine j_iadd G dX10_clears_15 ?_
    refine j_iconst G (0 : Int32) dX10_clears_16 (by decide) ?_
    obtain ⟨b3, h⟩ := h
    refine j_iast G hW kk2 b3 dX10_clears_17 ?_
    refine j_mI (fun I4 eI4 => ?_)
    have h := h I4 eI4
    refine j_iinc G 2 (x2 + 1) [(2, .int (x2 + 1)), (0, .ref a0), (1, .int x1)] dX10_clears_18 rfl rfl (by decide) rfl ?_
    refine j_goto G 2 dX10_clears_21 (by decide) ?_
    exact Jg.sub [1, 2, 0] rfl (hrec (x2 + 1) I4 h)
def w_X10_clears_l35 (a0 : Nat) (x1 : Int32)   (Q : MI → Prop) (rec : Int32 → MI → Prop) (x2 : Int32) (I : MI) : Prop :=
(((6 : Int32) ≤ x2 → Q I) ∧
(¬ (6 : Int32) ≤ x2 → (vp_in ((x1 + (1 : Int32)) + x2) 4905 ∧
(∀ I13, I13 = ui I (a0 + 1) (ix ((x1 + (1 : Int32)) + x2)) (4 : Int32) →
rec (x2 + 1) I13))))
set_option maxHeartbeats 4000000 in
set_option maxRecDepth 100000 in
theorem m_X10_clears_l35 {K : Kx} {l : Launch} {m : MethodId} {H0 : Heap} {Q : MI → Prop} {w : HW} {J : MJ} {B : MR} (G : Gd l rm_X10_clears K m RX10 cX10_clears 3 H0 none (va_Qv (S := MI) Q (fun u t => HP K (u, J, B) t.heap) (AA K)) w) (hW : WFK K) (a0 : Nat) (x1 : Int32) (x2 : Int32) (ka0 : (kG K a0).1 = 12) (I : MI)   (h : Lp2 (w_X10_clears_l35 a0 x1 Q) x2 I) : Jg K m 3 H0 w 35 [(0, .ref a0), (1, .int x1), (2, .int x2)] [] (I, J, B) := by
  obtain ⟨n, h⟩ := h
  refine lpN2_ind (P := (fun (x2 : Int32) (I : MI) => Jg K m 3 H0 w 35 [(0, .ref a0), (1, .int x1), (2, .int x2)] [] (I, J, B))) (fun rec hrec x2 I h => ?_) n x2 I h
  unfold w_X10_clears_l35 at h
  refine j_iload_n G 2 2 dX10_clears_35 rfl rfl ?_
  refine j_bipush G (6 : Int32) dX10_clears_36 (by decide) ?_
  refine j_icmp_ge G 58 dX10_clears_38 (by decide) (fun c10 => ?_) (fun c10 => ?_)
  · have h := h.1 c10
    exact j_retv G I dX10_clears_58 h rfl
  · have h := h.2 c10
    refine j_aload_n G 0 0 dX10_clears_41 rfl rfl ?_
    have kk11 : kG K (a0 + 1) = (20, 4905) := wk_12_1 hW ka0
    refine j_get G hW 11 0 4 (.ref (a0 + 1)) ka0 (by decide) rfl (by decide) rfl lay_X10 fl_X10_7 rfl rfl dX10_clears_42 ?_
    refine j_iload_n G 1 1 dX10_clears_45 rfl rfl ?_
    refine j_iconst G (1 : Int32) dX10_clears_46 (by decide) ?_
    refine j_iadd G dX10_clears_47 ?_
    refine j_iload_n G 2 2 dX10_clears_48 rfl rfl ?_
    refine j_iadd G dX10_clears_49 ?_
    refine j_iconst G (4 : Int32) dX10_clears_50 (by decide) ?_
    obtain ⟨b12, h⟩ := h
    refine j_iast G hW kk11 b12 dX10_clears_51 ?_
    refine j_mI (fun I13 eI13 => ?_)
    have h := h I13 eI13
    refine j_iinc G 2 (x2 + 1) [(2, .int (x2 + 1)), (0, .ref a0), (1, .int x1)] dX10_clears_52 rfl rfl (by decide) rfl ?_
    refine j_goto G 35 dX10_clears_55 (by decide) ?_
    exact Jg.sub [1, 2, 0] rfl (hrec (x2 + 1) I13 h)
def w_X10_clears (a0 : Nat) (x1 : Int32) (I : MI) (Q : MI → Prop) : Prop :=
Lp2 (w_X10_clears_l2 a0 x1 (fun x2_5 I6 => (vp_in (x1 + (0 : Int32)) 4905 ∧
(∀ I9, I9 = ui I6 (a0 + 1) (ix (x1 + (0 : Int32))) (3 : Int32) →
Lp2 (w_X10_clears_l35 a0 x1 Q) (0 : Int32) I9))) Q) (0 : Int32) I
set_option maxHeartbeats 4000000 in
set_option maxRecDepth 100000 in
theorem c_X10_clears (K : Kx) (hW : WFK K) (l : Launch) (a0 : Nat) (x1 : Int32) (k0 : (kG K a0).1 = 12) (I : MI) (J : MJ) (B : MR) (Q : MI → Prop) (h : w_X10_clears a0 x1 I Q) : Con K l yX10_clears (wsT yX10_clears cX10_clears 3 none) rm_X10_clears [.ref a0, .int x1] (I, J, B) (va_Qv (S := MI) Q (fun u t => HP K (u, J, B) t.heap) (AA K)) := by
  refine Con.ofJ RX10 rfl (by decide) (Nat.le_of_ble_eq_true rfl) (fun m H0 w G => ?_)
  unfold w_X10_clears at h
  show Jg K m 3 H0 w 0 [(0, .ref a0), (1, .int x1)] [] (I, J, B)
  refine j_iconst G (0 : Int32) dX10_clears_0 (by decide) ?_
  refine j_istore_n G 2 [(2, .int (0 : Int32)), (0, .ref a0), (1, .int x1)] dX10_clears_1 rfl (by decide) rfl ?_
  refine Jg.sub [1, 2, 0] rfl (m_X10_clears_l2 G hW a0 x1 (0 : Int32) k0 I _ ?_ h)
  intro x2_5 I6 h
  refine j_aload_n G 0 0 dX10_clears_24 rfl rfl ?_
  have kk7 : kG K (a0 + 1) = (20, 4905) := wk_12_1 hW k0
  refine j_get G hW 11 0 4 (.ref (a0 + 1)) k0 (by decide) rfl (by decide) rfl lay_X10 fl_X10_7 rfl rfl dX10_clears_25 ?_
  refine j_iload_n G 1 1 dX10_clears_28 rfl rfl ?_
  refine j_iconst G (0 : Int32) dX10_clears_29 (by decide) ?_
  refine j_iadd G dX10_clears_30 ?_
  refine j_iconst G (3 : Int32) dX10_clears_31 (by decide) ?_
  obtain ⟨b8, h⟩ := h
  refine j_iast G hW kk7 b8 dX10_clears_32 ?_
  refine j_mI (fun I9 eI9 => ?_)
  have h := h I9 eI9
  refine j_iconst G (0 : Int32) dX10_clears_33 (by decide) ?_
  refine j_istore_n G 2 [(2, .int (0 : Int32)), (0, .ref a0), (1, .int x1)] dX10_clears_34 rfl (by decide) rfl ?_
  refine Jg.sub [1, 2, 0] rfl (m_X10_clears_l35 G hW a0 x1 (0 : Int32) k0 I9 h)
abbrev rm_X10_copies : Room := { frames := 0, cells := 0, slots := 0, locals := 0 }
def w_X10_copies_l2 (a0 : Nat) (x1 : Int32) (x2 : Int32)   (Q : MI → Prop) (rec : Int32 → MI → Prop) (x3 : Int32) (I : MI) : Prop :=
(((516 : Int32) ≤ x3 → Q I) ∧
(¬ (516 : Int32) ≤ x3 → (vp_in (x1 + x3) 4905 ∧
(vp_in (x2 + x3) 4905 ∧
(∀ I5, I5 = ui I (a0 + 1) (ix (x2 + x3)) (I (a0 + 1) (ix (x1 + x3))) →
rec (x3 + 1) I5)))))
set_option maxHeartbeats 4000000 in
set_option maxRecDepth 100000 in
theorem m_X10_copies_l2 {K : Kx} {l : Launch} {m : MethodId} {H0 : Heap} {Q : MI → Prop} {w : HW} {J : MJ} {B : MR} (G : Gd l rm_X10_copies K m RX10 cX10_copies 4 H0 none (va_Qv (S := MI) Q (fun u t => HP K (u, J, B) t.heap) (AA K)) w) (hW : WFK K) (a0 : Nat) (x1 : Int32) (x2 : Int32) (x3 : Int32) (ka0 : (kG K a0).1 = 12) (I : MI)   (h : Lp2 (w_X10_copies_l2 a0 x1 x2 Q) x3 I) : Jg K m 4 H0 w 2 [(0, .ref a0), (1, .int x1), (2, .int x2), (3, .int x3)] [] (I, J, B) := by
  obtain ⟨n, h⟩ := h
  refine lpN2_ind (P := (fun (x3 : Int32) (I : MI) => Jg K m 4 H0 w 2 [(0, .ref a0), (1, .int x1), (2, .int x2), (3, .int x3)] [] (I, J, B))) (fun rec hrec x3 I h => ?_) n x3 I h
  unfold w_X10_copies_l2 at h
  refine j_iload_n G 3 3 dX10_copies_2 rfl rfl ?_
  refine j_sipush G (516 : Int32) dX10_copies_3 (by decide) ?_
  refine j_icmp_ge G 31 dX10_copies_6 (by decide) (fun c1 => ?_) (fun c1 => ?_)
  · have h := h.1 c1
    exact j_retv G I dX10_copies_31 h rfl
  · have h := h.2 c1
    refine j_aload_n G 0 0 dX10_copies_9 rfl rfl ?_
    have kk2 : kG K (a0 + 1) = (20, 4905) := wk_12_1 hW ka0
    refine j_get G hW 11 0 4 (.ref (a0 + 1)) ka0 (by decide) rfl (by decide) rfl lay_X10 fl_X10_7 rfl rfl dX10_copies_10 ?_
    refine j_iload_n G 2 2 dX10_copies_13 rfl rfl ?_
    refine j_iload_n G 3 3 dX10_copies_14 rfl rfl ?_
    refine j_iadd G dX10_copies_15 ?_
    refine j_aload_n G 0 0 dX10_copies_16 rfl rfl ?_
    refine j_get G hW 11 0 4 (.ref (a0 + 1)) ka0 (by decide) rfl (by decide) rfl lay_X10 fl_X10_7 rfl rfl dX10_copies_17 ?_
    refine j_iload_n G 1 1 dX10_copies_20 rfl rfl ?_
    refine j_iload_n G 3 3 dX10_copies_21 rfl rfl ?_
    refine j_iadd G dX10_copies_22 ?_
    obtain ⟨b3, h⟩ := h
    refine j_iald G hW kk2 b3 dX10_copies_23 ?_
    obtain ⟨b4, h⟩ := h
    refine j_iast G hW kk2 b4 dX10_copies_24 ?_
    refine j_mI (fun I5 eI5 => ?_)
    have h := h I5 eI5
    refine j_iinc G 3 (x3 + 1) [(3, .int (x3 + 1)), (0, .ref a0), (1, .int x1), (2, .int x2)] dX10_copies_25 rfl rfl (by decide) rfl ?_
    refine j_goto G 2 dX10_copies_28 (by decide) ?_
    exact Jg.sub [1, 2, 3, 0] rfl (hrec (x3 + 1) I5 h)
def w_X10_copies (a0 : Nat) (x1 : Int32) (x2 : Int32) (I : MI) (Q : MI → Prop) : Prop :=
Lp2 (w_X10_copies_l2 a0 x1 x2 Q) (0 : Int32) I
set_option maxHeartbeats 4000000 in
set_option maxRecDepth 100000 in
theorem c_X10_copies (K : Kx) (hW : WFK K) (l : Launch) (a0 : Nat) (x1 : Int32) (x2 : Int32) (k0 : (kG K a0).1 = 12) (I : MI) (J : MJ) (B : MR) (Q : MI → Prop) (h : w_X10_copies a0 x1 x2 I Q) : Con K l yX10_copies (wsT yX10_copies cX10_copies 4 none) rm_X10_copies [.ref a0, .int x1, .int x2] (I, J, B) (va_Qv (S := MI) Q (fun u t => HP K (u, J, B) t.heap) (AA K)) := by
  refine Con.ofJ RX10 rfl (by decide) (Nat.le_of_ble_eq_true rfl) (fun m H0 w G => ?_)
  unfold w_X10_copies at h
  show Jg K m 4 H0 w 0 [(0, .ref a0), (1, .int x1), (2, .int x2)] [] (I, J, B)
  refine j_iconst G (0 : Int32) dX10_copies_0 (by decide) ?_
  refine j_istore_n G 3 [(3, .int (0 : Int32)), (0, .ref a0), (1, .int x1), (2, .int x2)] dX10_copies_1 rfl (by decide) rfl ?_
  refine Jg.sub [1, 2, 3, 0] rfl (m_X10_copies_l2 G hW a0 x1 x2 (0 : Int32) k0 I h)
abbrev rm_X10_of : Room := { frames := 0, cells := 0, slots := 0, locals := 0 }
def w_X10_of (a0 : Nat) (x1 : Int32) (x2 : Int32) (x3 : Int32) (I : MI) (Q : Int32 →  Prop) : Prop :=
(vp_in (((x1 + (50 : Int32)) + ((5 : Int32) * x2)) + x3) 4905 ∧
Q (I (a0 + 1) (ix (((x1 + (50 : Int32)) + ((5 : Int32) * x2)) + x3))))
set_option maxHeartbeats 4000000 in
set_option maxRecDepth 100000 in
theorem c_X10_of (K : Kx) (hW : WFK K) (l : Launch) (a0 : Nat) (x1 : Int32) (x2 : Int32) (x3 : Int32) (k0 : (kG K a0).1 = 12) (I : MI) (J : MJ) (B : MR) (Q : Int32 →  Prop) (h : w_X10_of a0 x1 x2 x3 I Q) : Con K l yX10_of (wsT yX10_of cX10_of 4 (some .int)) rm_X10_of [.ref a0, .int x1, .int x2, .int x3] (I, J, B) (va_Qi (S := Unit) (fun r _ => Q r) (fun u t => HP K (I, J, B) t.heap) (AA K)) := by
  refine Con.ofJ RX10 rfl (by decide) (Nat.le_of_ble_eq_true rfl) (fun m H0 w G => ?_)
  unfold w_X10_of at h
  show Jg K m 4 H0 w 0 [(0, .ref a0), (1, .int x1), (2, .int x2), (3, .int x3)] [] (I, J, B)
  refine j_aload_n G 0 0 dX10_of_0 rfl rfl ?_
  have kk1 : kG K (a0 + 1) = (20, 4905) := wk_12_1 hW k0
  refine j_get G hW 11 0 4 (.ref (a0 + 1)) k0 (by decide) rfl (by decide) rfl lay_X10 fl_X10_7 rfl rfl dX10_of_1 ?_
  refine j_iload_n G 1 1 dX10_of_4 rfl rfl ?_
  refine j_bipush G (50 : Int32) dX10_of_5 (by decide) ?_
  refine j_iadd G dX10_of_7 ?_
  refine j_iconst G (5 : Int32) dX10_of_8 (by decide) ?_
  refine j_iload_n G 2 2 dX10_of_9 rfl rfl ?_
  refine j_imul G dX10_of_10 ?_
  refine j_iadd G dX10_of_11 ?_
  refine j_iload_n G 3 3 dX10_of_12 rfl rfl ?_
  refine j_iadd G dX10_of_13 ?_
  obtain ⟨b2, h⟩ := h
  refine j_iald G hW kk1 b2 dX10_of_14 ?_
  exact j_reti G () rfl dX10_of_15 h rfl
abbrev rm_X10_opOf : Room := { frames := 1, cells := 0, slots := 0, locals := 23 }
def w_X10_opOf (a0 : Nat) (x1 : Int32) (x2 : Int32) (I : MI) (Q : Int32 →  Prop) : Prop :=
(vp_in (x1 + (48 : Int32)) 4905 ∧
((¬ x2 = (I (a0 + 1) (ix (x1 + (48 : Int32)))) → (w_X10_of a0 x1 x2 (0 : Int32) I (fun r4 =>
Q r4))) ∧
(x2 = (I (a0 + 1) (ix (x1 + (48 : Int32)))) → Q (8 : Int32))))
set_option maxHeartbeats 4000000 in
set_option maxRecDepth 100000 in
theorem c_X10_opOf (K : Kx) (hW : WFK K) (l : Launch) (a0 : Nat) (x1 : Int32) (x2 : Int32) (k0 : (kG K a0).1 = 12) (I : MI) (J : MJ) (B : MR) (Q : Int32 →  Prop) (h : w_X10_opOf a0 x1 x2 I Q) : Con K l yX10_opOf (wsT yX10_opOf cX10_opOf 3 (some .int)) rm_X10_opOf [.ref a0, .int x1, .int x2] (I, J, B) (va_Qi (S := Unit) (fun r _ => Q r) (fun u t => HP K (I, J, B) t.heap) (AA K)) := by
  refine Con.ofJ RX10 rfl (by decide) (Nat.le_of_ble_eq_true rfl) (fun m H0 w G => ?_)
  unfold w_X10_opOf at h
  show Jg K m 3 H0 w 0 [(0, .ref a0), (1, .int x1), (2, .int x2)] [] (I, J, B)
  refine j_iload_n G 2 2 dX10_opOf_0 rfl rfl ?_
  refine j_aload_n G 0 0 dX10_opOf_1 rfl rfl ?_
  have kk1 : kG K (a0 + 1) = (20, 4905) := wk_12_1 hW k0
  refine j_get G hW 11 0 4 (.ref (a0 + 1)) k0 (by decide) rfl (by decide) rfl lay_X10 fl_X10_7 rfl rfl dX10_opOf_2 ?_
  refine j_iload_n G 1 1 dX10_opOf_5 rfl rfl ?_
  refine j_bipush G (48 : Int32) dX10_opOf_6 (by decide) ?_
  refine j_iadd G dX10_opOf_8 ?_
  obtain ⟨b2, h⟩ := h
  refine j_iald G hW kk1 b2 dX10_opOf_9 ?_
  refine j_icmp_ne G 18 dX10_opOf_10 (by decide) (fun c3 => ?_) (fun c3 => ?_)
  · have h := h.1 c3
    refine j_aload_n G 0 0 dX10_opOf_18 rfl rfl ?_
    refine j_iload_n G 1 1 dX10_opOf_19 rfl rfl ?_
    refine j_iload_n G 2 2 dX10_opOf_20 rfl rfl ?_
    refine j_iconst G (0 : Int32) dX10_opOf_21 (by decide) ?_
    refine j_ci (rn_V G hW (ci := 11) (n := 3) (As := [.int x1, .int x2, .int (0 : Int32)]) (rest := []) (c_X10_of K hW l a0 x1 x2 (0 : Int32) k0 I J B _ h) k0 (by decide) rfl ml_X10_54 im_X10_of se_X10_of in_X10 co_X10_of rfl (by decide +kernel) rfl rfl (by decide) (by decide) rfl rfl (Nat.le_of_ble_eq_true rfl) dX10_opOf_22) (fun r4 _ h => ?_)
    exact j_reti G () rfl dX10_opOf_25 h rfl
  · have h := h.2 c3
    refine j_bipush G (8 : Int32) dX10_opOf_13 (by decide) ?_
    refine j_goto G 25 dX10_opOf_15 (by decide) ?_
    exact j_reti G () rfl dX10_opOf_25 h rfl
abbrev rm_X10_isReckoning : Room := { frames := 0, cells := 0, slots := 0, locals := 0 }
def w_X10_isReckoning (x0 : Int32)  (Q : Int32 →  Prop) : Prop :=
((x0 = (1 : Int32) → Q (1 : Int32)) ∧
(¬ x0 = (1 : Int32) → ((x0 = (2 : Int32) → Q (1 : Int32)) ∧
(¬ x0 = (2 : Int32) → ((¬ x0 = (3 : Int32) → Q (0 : Int32)) ∧
(x0 = (3 : Int32) → Q (1 : Int32)))))))
set_option maxHeartbeats 4000000 in
set_option maxRecDepth 100000 in
theorem c_X10_isReckoning (K : Kx) (hW : WFK K) (l : Launch) (x0 : Int32)  (I : MI) (J : MJ) (B : MR) (Q : Int32 →  Prop) (h : w_X10_isReckoning x0 Q) : Con K l yX10_isReckoning (wsT yX10_isReckoning cX10_isReckoning 1 (some .boolean)) rm_X10_isReckoning [.int x0] (I, J, B) (va_Qi (S := Unit) (fun r _ => Q r) (fun u t => HP K (I, J, B) t.heap) (AA K)) := by
  refine Con.ofJ RX10 rfl (by decide) (Nat.le_of_ble_eq_true rfl) (fun m H0 w G => ?_)
  unfold w_X10_isReckoning at h
  show Jg K m 1 H0 w 0 [(0, .int x0)] [] (I, J, B)
  refine j_iload_n G 0 0 dX10_isReckoning_0 rfl rfl ?_
  refine j_iconst G (1 : Int32) dX10_isReckoning_1 (by decide) ?_
  refine j_icmp_eq G 15 dX10_isReckoning_2 (by decide) (fun c1 => ?_) (fun c1 => ?_)
  · have h := h.1 c1
    refine j_iconst G (1 : Int32) dX10_isReckoning_15 (by decide) ?_
    refine j_goto G 20 dX10_isReckoning_16 (by decide) ?_
    exact j_reti G () (by decide) dX10_isReckoning_20 h rfl
  · have h := h.2 c1
    refine j_iload_n G 0 0 dX10_isReckoning_5 rfl rfl ?_
    refine j_iconst G (2 : Int32) dX10_isReckoning_6 (by decide) ?_
    refine j_icmp_eq G 15 dX10_isReckoning_7 (by decide) (fun c2 => ?_) (fun c2 => ?_)
    · have h := h.1 c2
      refine j_iconst G (1 : Int32) dX10_isReckoning_15 (by decide) ?_
      refine j_goto G 20 dX10_isReckoning_16 (by decide) ?_
      exact j_reti G () (by decide) dX10_isReckoning_20 h rfl
    · have h := h.2 c2
      refine j_iload_n G 0 0 dX10_isReckoning_10 rfl rfl ?_
      refine j_iconst G (3 : Int32) dX10_isReckoning_11 (by decide) ?_
      refine j_icmp_ne G 19 dX10_isReckoning_12 (by decide) (fun c3 => ?_) (fun c3 => ?_)
      · have h := h.1 c3
        refine j_iconst G (0 : Int32) dX10_isReckoning_19 (by decide) ?_
        exact j_reti G () (by decide) dX10_isReckoning_20 h rfl
      · have h := h.2 c3
        refine j_iconst G (1 : Int32) dX10_isReckoning_15 (by decide) ?_
        refine j_goto G 20 dX10_isReckoning_16 (by decide) ?_
        exact j_reti G () (by decide) dX10_isReckoning_20 h rfl
abbrev rm_X10_aims : Room := { frames := 2, cells := 0, slots := 0, locals := 45 }
def w_X10_aims_p70 (a0 : Nat) (x1 : Int32) (x2 : Int32) (x3 : Int32) (x4 : Int32) (x5 : Int32)  (I : MI) (rec : Int32 → Int32 → Prop) (ke123 : Int32 → Int32 → Prop) (Q : Int32 →  Prop) : Prop :=
(w_X10_isReckoning x5 (fun r12 =>
((r12 = 0 → rec x2 (x4 + 1)) ∧
(¬ r12 = 0 → (w_X10_of a0 x1 x4 (1 : Int32) I (fun r14 =>
(w_X10_has x3 r14 (fun r15 =>
((r15 = 0 → rec x2 (x4 + 1)) ∧
(¬ r15 = 0 → (w_X10_of a0 x1 x4 (2 : Int32) I (fun r17 =>
(w_X10_of a0 x1 x4 (3 : Int32) I (fun r18 =>
(∀ x2_19, x2_19 = x2 ||| (((1 : Int32) <<< (r17 &&& 31)) ||| ((1 : Int32) <<< (r18 &&& 31))) →
rec x2_19 (x4 + 1))))))))))))))))
set_option maxHeartbeats 4000000 in
set_option maxRecDepth 100000 in
theorem m_X10_aims_p70 {K : Kx} {l : Launch} {m : MethodId} {H0 : Heap} {Q : Int32 →  Prop} {w : HW} {I : MI} {J : MJ} {B : MR} (G : Gd l rm_X10_aims K m RX10 cX10_aims 6 H0 (some .int) (va_Qi (S := Unit) (fun r _ => Q r) (fun u t => HP K (I, J, B) t.heap) (AA K)) w) (hW : WFK K) (a0 : Nat) (x1 : Int32) (x2 : Int32) (x3 : Int32) (x4 : Int32) (x5 : Int32)  (ka0 : (kG K a0).1 = 12)   (rec : Int32 → Int32 → Prop) (ke123 : Int32 → Int32 → Prop) (hrec : ∀ (x2 : Int32) (x4 : Int32), rec x2 x4 → Jg K m 6 H0 w 22 [(0, .ref a0), (1, .int x1), (2, .int x2), (3, .int x3), (4, .int x4)] [] (I, J, B)) (hke123 : ∀ (x2 : Int32) (x4 : Int32), ke123 x2 x4 → Jg K m 6 H0 w 123 [(0, .ref a0), (1, .int x1), (2, .int x2), (3, .int x3)] [] (I, J, B)) (h : w_X10_aims_p70 a0 x1 x2 x3 x4 x5 I rec ke123 Q) : Jg K m 6 H0 w 70 [(0, .ref a0), (1, .int x1), (2, .int x2), (3, .int x3), (4, .int x4), (5, .int x5)] [] (I, J, B) := by
  unfold w_X10_aims_p70 at h
  refine j_iload G 5 dX10_aims_70 rfl ?_
  refine j_ci (rn_S G (n := 1) (As := [.int x5]) (rest := []) (c_X10_isReckoning K hW l x5 I J B _ h) ml_X10_62 st_X10_isReckoning in_X10 co_X10_isReckoning (by decide +kernel) rfl rfl (by decide) (by decide) rfl rfl (Nat.le_of_ble_eq_true rfl) dX10_aims_72) (fun r12 _ h => ?_)
  refine j_if_eq G 117 dX10_aims_75 (by decide) (fun c13 => ?_) (fun c13 => ?_)
  · have h := h.1 c13
    refine j_iinc G 4 (x4 + 1) [(4, .int (x4 + 1)), (0, .ref a0), (1, .int x1), (2, .int x2), (3, .int x3), (5, .int x5)] dX10_aims_117 rfl rfl (by decide) rfl ?_
    refine j_goto G 22 dX10_aims_120 (by decide) ?_
    exact Jg.sub [1, 2, 3, 4, 0] rfl (hrec x2 (x4 + 1) h)
  · have h := h.2 c13
    refine j_iload_n G 3 3 dX10_aims_78 rfl rfl ?_
    refine j_aload_n G 0 0 dX10_aims_79 rfl rfl ?_
    refine j_iload_n G 1 1 dX10_aims_80 rfl rfl ?_
    refine j_iload G 4 dX10_aims_81 rfl ?_
    refine j_iconst G (1 : Int32) dX10_aims_83 (by decide) ?_
    refine j_ci (rn_V G hW (ci := 11) (n := 3) (As := [.int x1, .int x4, .int (1 : Int32)]) (rest := [.int x3]) (c_X10_of K hW l a0 x1 x4 (1 : Int32) ka0 I J B _ h) ka0 (by decide) rfl ml_X10_54 im_X10_of se_X10_of in_X10 co_X10_of rfl (by decide +kernel) rfl rfl (by decide) (by decide) rfl rfl (Nat.le_of_ble_eq_true rfl) dX10_aims_84) (fun r14 _ h => ?_)
    refine j_ci (rn_S G (n := 2) (As := [.int x3, .int r14]) (rest := []) (c_X10_has K hW l x3 r14 I J B _ h) ml_X10_66 st_X10_has in_X10 co_X10_has (by decide +kernel) rfl rfl (by decide) (by decide) rfl rfl (Nat.le_of_ble_eq_true rfl) dX10_aims_87) (fun r15 _ h => ?_)
    refine j_if_eq G 117 dX10_aims_90 (by decide) (fun c16 => ?_) (fun c16 => ?_)
    · have h := h.1 c16
      refine j_iinc G 4 (x4 + 1) [(4, .int (x4 + 1)), (0, .ref a0), (1, .int x1), (2, .int x2), (3, .int x3), (5, .int x5)] dX10_aims_117 rfl rfl (by decide) rfl ?_
      refine j_goto G 22 dX10_aims_120 (by decide) ?_
      exact Jg.sub [1, 2, 3, 4, 0] rfl (hrec x2 (x4 + 1) h)
    · have h := h.2 c16
      refine j_iload_n G 2 2 dX10_aims_93 rfl rfl ?_
      refine j_iconst G (1 : Int32) dX10_aims_94 (by decide) ?_
      refine j_aload_n G 0 0 dX10_aims_95 rfl rfl ?_
      refine j_iload_n G 1 1 dX10_aims_96 rfl rfl ?_
      refine j_iload G 4 dX10_aims_97 rfl ?_
      refine j_iconst G (2 : Int32) dX10_aims_99 (by decide) ?_
      refine j_ci (rn_V G hW (ci := 11) (n := 3) (As := [.int x1, .int x4, .int (2 : Int32)]) (rest := [.int (1 : Int32), .int x2]) (c_X10_of K hW l a0 x1 x4 (2 : Int32) ka0 I J B _ h) ka0 (by decide) rfl ml_X10_54 im_X10_of se_X10_of in_X10 co_X10_of rfl (by decide +kernel) rfl rfl (by decide) (by decide) rfl rfl (Nat.le_of_ble_eq_true rfl) dX10_aims_100) (fun r17 _ h => ?_)
      refine j_ishl G dX10_aims_103 ?_
      refine j_iconst G (1 : Int32) dX10_aims_104 (by decide) ?_
      refine j_aload_n G 0 0 dX10_aims_105 rfl rfl ?_
      refine j_iload_n G 1 1 dX10_aims_106 rfl rfl ?_
      refine j_iload G 4 dX10_aims_107 rfl ?_
      refine j_iconst G (3 : Int32) dX10_aims_109 (by decide) ?_
      refine j_ci (rn_V G hW (ci := 11) (n := 3) (As := [.int x1, .int x4, .int (3 : Int32)]) (rest := [.int (1 : Int32), .int ((1 : Int32) <<< (r17 &&& 31)), .int x2]) (c_X10_of K hW l a0 x1 x4 (3 : Int32) ka0 I J B _ h) ka0 (by decide) rfl ml_X10_54 im_X10_of se_X10_of in_X10 co_X10_of rfl (by decide +kernel) rfl rfl (by decide) (by decide) rfl rfl (Nat.le_of_ble_eq_true rfl) dX10_aims_110) (fun r18 _ h => ?_)
      refine j_ishl G dX10_aims_113 ?_
      refine j_ior G dX10_aims_114 ?_
      refine j_ior G dX10_aims_115 ?_
      refine j_nm (fun x2_19 ex2_19 => ?_)
      have h := h x2_19 ex2_19
      refine j_istore_n G 2 [(2, .int x2_19), (0, .ref a0), (1, .int x1), (3, .int x3), (4, .int x4), (5, .int x5)] dX10_aims_116 rfl (by decide) rfl ?_
      refine j_iinc G 4 (x4 + 1) [(4, .int (x4 + 1)), (2, .int x2_19), (0, .ref a0), (1, .int x1), (3, .int x3), (5, .int x5)] dX10_aims_117 rfl rfl (by decide) rfl ?_
      refine j_goto G 22 dX10_aims_120 (by decide) ?_
      exact Jg.sub [2, 3, 1, 4, 0] rfl (hrec x2_19 (x4 + 1) h)
def w_X10_aims_l22 (a0 : Nat) (x1 : Int32) (x3 : Int32) (I : MI) (ke123 : Int32 → Int32 → Prop) (Q : Int32 →  Prop) (rec : Int32 → Int32 → Prop) (x2 : Int32) (x4 : Int32) : Prop :=
(vp_in (x1 + (48 : Int32)) 4905 ∧
(((I (a0 + 1) (ix (x1 + (48 : Int32)))) ≤ x4 → ke123 x2 x4) ∧
(¬ (I (a0 + 1) (ix (x1 + (48 : Int32)))) ≤ x4 → (w_X10_opOf a0 x1 x4 I (fun r8 =>
((r8 = (4 : Int32) → (w_X10_of a0 x1 x4 (2 : Int32) I (fun r10 =>
(∀ x2_11, x2_11 = x2 ||| ((1 : Int32) <<< (r10 &&& 31)) →
w_X10_aims_p70 a0 x1 x2_11 x3 x4 r8 I rec ke123 Q)))) ∧
(¬ r8 = (4 : Int32) → ((¬ r8 = (5 : Int32) → w_X10_aims_p70 a0 x1 x2 x3 x4 r8 I rec ke123 Q) ∧
(r8 = (5 : Int32) → (w_X10_of a0 x1 x4 (2 : Int32) I (fun r21 =>
(∀ x2_22, x2_22 = x2 ||| ((1 : Int32) <<< (r21 &&& 31)) →
w_X10_aims_p70 a0 x1 x2_22 x3 x4 r8 I rec ke123 Q))))))))))))
set_option maxHeartbeats 4000000 in
set_option maxRecDepth 100000 in
theorem m_X10_aims_l22 {K : Kx} {l : Launch} {m : MethodId} {H0 : Heap} {Q : Int32 →  Prop} {w : HW} {I : MI} {J : MJ} {B : MR} (G : Gd l rm_X10_aims K m RX10 cX10_aims 6 H0 (some .int) (va_Qi (S := Unit) (fun r _ => Q r) (fun u t => HP K (I, J, B) t.heap) (AA K)) w) (hW : WFK K) (a0 : Nat) (x1 : Int32) (x2 : Int32) (x3 : Int32) (x4 : Int32) (ka0 : (kG K a0).1 = 12)  (ke123 : Int32 → Int32 → Prop) (hke123 : ∀ (x2 : Int32) (x4 : Int32), ke123 x2 x4 → Jg K m 6 H0 w 123 [(0, .ref a0), (1, .int x1), (2, .int x2), (3, .int x3)] [] (I, J, B)) (h : Lp2 (w_X10_aims_l22 a0 x1 x3 I ke123 Q) x2 x4) : Jg K m 6 H0 w 22 [(0, .ref a0), (1, .int x1), (2, .int x2), (3, .int x3), (4, .int x4)] [] (I, J, B) := by
  obtain ⟨n, h⟩ := h
  refine lpN2_ind (P := (fun (x2 : Int32) (x4 : Int32) => Jg K m 6 H0 w 22 [(0, .ref a0), (1, .int x1), (2, .int x2), (3, .int x3), (4, .int x4)] [] (I, J, B))) (fun rec hrec x2 x4 h => ?_) n x2 x4 h
  unfold w_X10_aims_l22 at h
  refine j_iload G 4 dX10_aims_22 rfl ?_
  refine j_aload_n G 0 0 dX10_aims_24 rfl rfl ?_
  have kk5 : kG K (a0 + 1) = (20, 4905) := wk_12_1 hW ka0
  refine j_get G hW 11 0 4 (.ref (a0 + 1)) ka0 (by decide) rfl (by decide) rfl lay_X10 fl_X10_7 rfl rfl dX10_aims_25 ?_
  refine j_iload_n G 1 1 dX10_aims_28 rfl rfl ?_
  refine j_bipush G (48 : Int32) dX10_aims_29 (by decide) ?_
  refine j_iadd G dX10_aims_31 ?_
  obtain ⟨b6, h⟩ := h
  refine j_iald G hW kk5 b6 dX10_aims_32 ?_
  refine j_icmp_ge G 123 dX10_aims_33 (by decide) (fun c7 => ?_) (fun c7 => ?_)
  · have h := h.1 c7
    exact Jg.sub [0, 1, 2, 3] rfl (hke123 x2 x4 h)
  · have h := h.2 c7
    refine j_aload_n G 0 0 dX10_aims_36 rfl rfl ?_
    refine j_iload_n G 1 1 dX10_aims_37 rfl rfl ?_
    refine j_iload G 4 dX10_aims_38 rfl ?_
    refine j_ci (rn_V G hW (ci := 11) (n := 2) (As := [.int x1, .int x4]) (rest := []) (c_X10_opOf K hW l a0 x1 x4 ka0 I J B _ h) ka0 (by decide) rfl ml_X10_58 im_X10_opOf se_X10_opOf in_X10 co_X10_opOf rfl (by decide +kernel) rfl rfl (by decide) (by decide) rfl rfl (Nat.le_of_ble_eq_true rfl) dX10_aims_40) (fun r8 _ h => ?_)
    refine j_istore G [(5, .int r8), (0, .ref a0), (1, .int x1), (2, .int x2), (3, .int x3), (4, .int x4)] dX10_aims_43 (by decide) rfl ?_
    refine j_iload G 0 dX10_aims_45 rfl ?_
    refine j_iconst G (4 : Int32) dX10_aims_47 (by decide) ?_
    refine j_icmp_eq G 57 dX10_aims_48 (by decide) (fun c9 => ?_) (fun c9 => ?_)
    · have h := h.1 c9
      refine j_iload_n G 3 2 dX10_aims_57 rfl rfl ?_
      refine j_iconst G (1 : Int32) dX10_aims_58 (by decide) ?_
      refine j_aload_n G 1 0 dX10_aims_59 rfl rfl ?_
      refine j_iload_n G 2 1 dX10_aims_60 rfl rfl ?_
      refine j_iload G 5 dX10_aims_61 rfl ?_
      refine j_iconst G (2 : Int32) dX10_aims_63 (by decide) ?_
      refine j_ci (rn_V G hW (ci := 11) (n := 3) (As := [.int x1, .int x4, .int (2 : Int32)]) (rest := [.int (1 : Int32), .int x2]) (c_X10_of K hW l a0 x1 x4 (2 : Int32) ka0 I J B _ h) ka0 (by decide) rfl ml_X10_54 im_X10_of se_X10_of in_X10 co_X10_of rfl (by decide +kernel) rfl rfl (by decide) (by decide) rfl rfl (Nat.le_of_ble_eq_true rfl) dX10_aims_64) (fun r10 _ h => ?_)
      refine j_ishl G dX10_aims_67 ?_
      refine j_ior G dX10_aims_68 ?_
      refine j_nm (fun x2_11 ex2_11 => ?_)
      have h := h x2_11 ex2_11
      refine j_istore_n G 2 [(2, .int x2_11), (5, .int r8), (0, .ref a0), (1, .int x1), (3, .int x3), (4, .int x4)] dX10_aims_69 rfl (by decide) rfl ?_
      exact Jg.sub [2, 3, 0, 4, 5, 1] rfl (m_X10_aims_p70 G hW a0 x1 x2_11 x3 x4 r8 ka0 rec ke123 hrec hke123 h)
    · have h := h.2 c9
      refine j_iload G 0 dX10_aims_51 rfl ?_
      refine j_iconst G (5 : Int32) dX10_aims_53 (by decide) ?_
      refine j_icmp_ne G 70 dX10_aims_54 (by decide) (fun c20 => ?_) (fun c20 => ?_)
      · have h := h.1 c20
        exact Jg.sub [1, 2, 3, 4, 5, 0] rfl (m_X10_aims_p70 G hW a0 x1 x2 x3 x4 r8 ka0 rec ke123 hrec hke123 h)
      · have h := h.2 c20
        refine j_iload_n G 3 2 dX10_aims_57 rfl rfl ?_
        refine j_iconst G (1 : Int32) dX10_aims_58 (by decide) ?_
        refine j_aload_n G 1 0 dX10_aims_59 rfl rfl ?_
        refine j_iload_n G 2 1 dX10_aims_60 rfl rfl ?_
        refine j_iload G 5 dX10_aims_61 rfl ?_
        refine j_iconst G (2 : Int32) dX10_aims_63 (by decide) ?_
        refine j_ci (rn_V G hW (ci := 11) (n := 3) (As := [.int x1, .int x4, .int (2 : Int32)]) (rest := [.int (1 : Int32), .int x2]) (c_X10_of K hW l a0 x1 x4 (2 : Int32) ka0 I J B _ h) ka0 (by decide) rfl ml_X10_54 im_X10_of se_X10_of in_X10 co_X10_of rfl (by decide +kernel) rfl rfl (by decide) (by decide) rfl rfl (Nat.le_of_ble_eq_true rfl) dX10_aims_64) (fun r21 _ h => ?_)
        refine j_ishl G dX10_aims_67 ?_
        refine j_ior G dX10_aims_68 ?_
        refine j_nm (fun x2_22 ex2_22 => ?_)
        have h := h x2_22 ex2_22
        refine j_istore_n G 2 [(2, .int x2_22), (5, .int r8), (0, .ref a0), (1, .int x1), (3, .int x3), (4, .int x4)] dX10_aims_69 rfl (by decide) rfl ?_
        exact Jg.sub [2, 3, 0, 4, 5, 1] rfl (m_X10_aims_p70 G hW a0 x1 x2_22 x3 x4 r8 ka0 rec ke123 hrec hke123 h)
def w_X10_aims_l12 (a0 : Nat) (x1 : Int32) (I : MI)  (Q : Int32 →  Prop) (rec : Int32 → Int32 → Prop) (x2 : Int32) (x3 : Int32) : Prop :=
((x2 = x3 → Q x2) ∧
(¬ x2 = x3 → Lp2 (w_X10_aims_l22 a0 x1 x2 I (fun x2_23 x4_24 => rec x2_23 x2) Q) x2 (0 : Int32)))
set_option maxHeartbeats 4000000 in
set_option maxRecDepth 100000 in
theorem m_X10_aims_l12 {K : Kx} {l : Launch} {m : MethodId} {H0 : Heap} {Q : Int32 →  Prop} {w : HW} {I : MI} {J : MJ} {B : MR} (G : Gd l rm_X10_aims K m RX10 cX10_aims 6 H0 (some .int) (va_Qi (S := Unit) (fun r _ => Q r) (fun u t => HP K (I, J, B) t.heap) (AA K)) w) (hW : WFK K) (a0 : Nat) (x1 : Int32) (x2 : Int32) (x3 : Int32) (ka0 : (kG K a0).1 = 12)    (h : Lp2 (w_X10_aims_l12 a0 x1 I Q) x2 x3) : Jg K m 6 H0 w 12 [(0, .ref a0), (1, .int x1), (2, .int x2), (3, .int x3)] [] (I, J, B) := by
  obtain ⟨n, h⟩ := h
  refine lpN2_ind (P := (fun (x2 : Int32) (x3 : Int32) => Jg K m 6 H0 w 12 [(0, .ref a0), (1, .int x1), (2, .int x2), (3, .int x3)] [] (I, J, B))) (fun rec hrec x2 x3 h => ?_) n x2 x3 h
  unfold w_X10_aims_l12 at h
  refine j_iload_n G 2 2 dX10_aims_12 rfl rfl ?_
  refine j_iload_n G 3 3 dX10_aims_13 rfl rfl ?_
  refine j_icmp_eq G 126 dX10_aims_14 (by decide) (fun c4 => ?_) (fun c4 => ?_)
  · have h := h.1 c4
    refine j_iload_n G 2 2 dX10_aims_126 rfl rfl ?_
    exact j_reti G () rfl dX10_aims_127 h rfl
  · have h := h.2 c4
    refine j_iload_n G 2 2 dX10_aims_17 rfl rfl ?_
    refine j_istore_n G 3 [(3, .int x2), (0, .ref a0), (1, .int x1), (2, .int x2)] dX10_aims_18 rfl (by decide) rfl ?_
    refine j_iconst G (0 : Int32) dX10_aims_19 (by decide) ?_
    refine j_istore G [(4, .int (0 : Int32)), (3, .int x2), (0, .ref a0), (1, .int x1), (2, .int x2)] dX10_aims_20 (by decide) rfl ?_
    refine Jg.sub [2, 3, 4, 1, 0] rfl (m_X10_aims_l22 G hW a0 x1 x2 x2 (0 : Int32) ka0 _ ?_ h)
    intro x2_23 x4_24 h
    refine j_goto G 12 dX10_aims_123 (by decide) ?_
    exact hrec x2_23 x2 h
def w_X10_aims (a0 : Nat) (x1 : Int32) (I : MI) (Q : Int32 →  Prop) : Prop :=
(vp_in (x1 + (47 : Int32)) 4905 ∧
(∀ x2_3, x2_3 = I (a0 + 1) (ix (x1 + (47 : Int32))) →
Lp2 (w_X10_aims_l12 a0 x1 I Q) x2_3 (-1 : Int32)))
set_option maxHeartbeats 4000000 in
set_option maxRecDepth 100000 in
theorem c_X10_aims (K : Kx) (hW : WFK K) (l : Launch) (a0 : Nat) (x1 : Int32) (k0 : (kG K a0).1 = 12) (I : MI) (J : MJ) (B : MR) (Q : Int32 →  Prop) (h : w_X10_aims a0 x1 I Q) : Con K l yX10_aims (wsT yX10_aims cX10_aims 6 (some .int)) rm_X10_aims [.ref a0, .int x1] (I, J, B) (va_Qi (S := Unit) (fun r _ => Q r) (fun u t => HP K (I, J, B) t.heap) (AA K)) := by
  refine Con.ofJ RX10 rfl (by decide) (Nat.le_of_ble_eq_true rfl) (fun m H0 w G => ?_)
  unfold w_X10_aims at h
  show Jg K m 6 H0 w 0 [(0, .ref a0), (1, .int x1)] [] (I, J, B)
  refine j_aload_n G 0 0 dX10_aims_0 rfl rfl ?_
  have kk1 : kG K (a0 + 1) = (20, 4905) := wk_12_1 hW k0
  refine j_get G hW 11 0 4 (.ref (a0 + 1)) k0 (by decide) rfl (by decide) rfl lay_X10 fl_X10_7 rfl rfl dX10_aims_1 ?_
  refine j_iload_n G 1 1 dX10_aims_4 rfl rfl ?_
  refine j_bipush G (47 : Int32) dX10_aims_5 (by decide) ?_
  refine j_iadd G dX10_aims_7 ?_
  obtain ⟨b2, h⟩ := h
  refine j_iald G hW kk1 b2 dX10_aims_8 ?_
  refine j_nm (fun x2_3 ex2_3 => ?_)
  have h := h x2_3 ex2_3
  refine j_istore_n G 2 [(2, .int x2_3), (0, .ref a0), (1, .int x1)] dX10_aims_9 rfl (by decide) rfl ?_
  refine j_iconst G (-1 : Int32) dX10_aims_10 (by decide) ?_
  refine j_istore_n G 3 [(3, .int (-1 : Int32)), (2, .int x2_3), (0, .ref a0), (1, .int x1)] dX10_aims_11 rfl (by decide) rfl ?_
  refine Jg.sub [2, 3, 1, 0] rfl (m_X10_aims_l12 G hW a0 x1 x2_3 (-1 : Int32) k0 h)
abbrev rm_X10_starts : Room := { frames := 3, cells := 0, slots := 0, locals := 70 }
def w_X10_starts_l4 (a0 : Nat) (x1 : Int32)  (ke26 : Int32 → MI → Prop) (Q : MI → Prop) (rec : Int32 → MI → Prop) (x2 : Int32) (I : MI) : Prop :=
(((516 : Int32) ≤ x2 → ke26 x2 I) ∧
(¬ (516 : Int32) ≤ x2 → (vp_in (x1 + x2) 4905 ∧
(∀ I4, I4 = ui I (a0 + 1) (ix (x1 + x2)) (0 : Int32) →
rec (x2 + 1) I4))))
set_option maxHeartbeats 4000000 in
set_option maxRecDepth 100000 in
theorem m_X10_starts_l4 {K : Kx} {l : Launch} {m : MethodId} {H0 : Heap} {Q : MI → Prop} {w : HW} {J : MJ} {B : MR} (G : Gd l rm_X10_starts K m RX10 cX10_starts 3 H0 none (va_Qv (S := MI) Q (fun u t => HP K (u, J, B) t.heap) (AA K)) w) (hW : WFK K) (a0 : Nat) (x1 : Int32) (x2 : Int32) (ka0 : (kG K a0).1 = 12) (I : MI) (ke26 : Int32 → MI → Prop) (hke26 : ∀ (x2 : Int32) (I : MI), ke26 x2 I → Jg K m 3 H0 w 26 [(0, .ref a0), (1, .int x1)] [] (I, J, B)) (h : Lp2 (w_X10_starts_l4 a0 x1 ke26 Q) x2 I) : Jg K m 3 H0 w 4 [(0, .ref a0), (1, .int x1), (2, .int x2)] [] (I, J, B) := by
  obtain ⟨n, h⟩ := h
  refine lpN2_ind (P := (fun (x2 : Int32) (I : MI) => Jg K m 3 H0 w 4 [(0, .ref a0), (1, .int x1), (2, .int x2)] [] (I, J, B))) (fun rec hrec x2 I h => ?_) n x2 I h
  unfold w_X10_starts_l4 at h
  refine j_iload_n G 2 2 dX10_starts_4 rfl rfl ?_
  refine j_sipush G (516 : Int32) dX10_starts_5 (by decide) ?_
  refine j_icmp_ge G 26 dX10_starts_8 (by decide) (fun c1 => ?_) (fun c1 => ?_)
  · have h := h.1 c1
    exact Jg.sub [0, 1] rfl (hke26 x2 I h)
  · have h := h.2 c1
    refine j_aload_n G 0 0 dX10_starts_11 rfl rfl ?_
    have kk2 : kG K (a0 + 1) = (20, 4905) := wk_12_1 hW ka0
    refine j_get G hW 11 0 4 (.ref (a0 + 1)) ka0 (by decide) rfl (by decide) rfl lay_X10 fl_X10_7 rfl rfl dX10_starts_12 ?_
    refine j_iload_n G 1 1 dX10_starts_15 rfl rfl ?_
    refine j_iload_n G 2 2 dX10_starts_16 rfl rfl ?_
    refine j_iadd G dX10_starts_17 ?_
    refine j_iconst G (0 : Int32) dX10_starts_18 (by decide) ?_
    obtain ⟨b3, h⟩ := h
    refine j_iast G hW kk2 b3 dX10_starts_19 ?_
    refine j_mI (fun I4 eI4 => ?_)
    have h := h I4 eI4
    refine j_iinc G 2 (x2 + 1) [(2, .int (x2 + 1)), (0, .ref a0), (1, .int x1)] dX10_starts_20 rfl rfl (by decide) rfl ?_
    refine j_goto G 4 dX10_starts_23 (by decide) ?_
    exact Jg.sub [1, 2, 0] rfl (hrec (x2 + 1) I4 h)
def w_X10_starts_l28 (a0 : Nat) (x1 : Int32)  (ke62 : Int32 → MI → Prop) (Q : MI → Prop) (rec : Int32 → MI → Prop) (x2 : Int32) (I : MI) : Prop :=
(((6 : Int32) ≤ x2 → ke62 x2 I) ∧
(¬ (6 : Int32) ≤ x2 → (vp_in ((x1 + (1 : Int32)) + x2) 4905 ∧
(vp_in ((x1 + (172 : Int32)) + x2) 4905 ∧
(∀ I11, I11 = ui I (a0 + 1) (ix ((x1 + (172 : Int32)) + x2)) (I (a0 + 1) (ix ((x1 + (1 : Int32)) + x2))) →
rec (x2 + 1) I11)))))
set_option maxHeartbeats 4000000 in
set_option maxRecDepth 100000 in
theorem m_X10_starts_l28 {K : Kx} {l : Launch} {m : MethodId} {H0 : Heap} {Q : MI → Prop} {w : HW} {J : MJ} {B : MR} (G : Gd l rm_X10_starts K m RX10 cX10_starts 3 H0 none (va_Qv (S := MI) Q (fun u t => HP K (u, J, B) t.heap) (AA K)) w) (hW : WFK K) (a0 : Nat) (x1 : Int32) (x2 : Int32) (ka0 : (kG K a0).1 = 12) (I : MI) (ke62 : Int32 → MI → Prop) (hke62 : ∀ (x2 : Int32) (I : MI), ke62 x2 I → Jg K m 3 H0 w 62 [(0, .ref a0), (1, .int x1)] [] (I, J, B)) (h : Lp2 (w_X10_starts_l28 a0 x1 ke62 Q) x2 I) : Jg K m 3 H0 w 28 [(0, .ref a0), (1, .int x1), (2, .int x2)] [] (I, J, B) := by
  obtain ⟨n, h⟩ := h
  refine lpN2_ind (P := (fun (x2 : Int32) (I : MI) => Jg K m 3 H0 w 28 [(0, .ref a0), (1, .int x1), (2, .int x2)] [] (I, J, B))) (fun rec hrec x2 I h => ?_) n x2 I h
  unfold w_X10_starts_l28 at h
  refine j_iload_n G 2 2 dX10_starts_28 rfl rfl ?_
  refine j_bipush G (6 : Int32) dX10_starts_29 (by decide) ?_
  refine j_icmp_ge G 62 dX10_starts_31 (by decide) (fun c7 => ?_) (fun c7 => ?_)
  · have h := h.1 c7
    exact Jg.sub [0, 1] rfl (hke62 x2 I h)
  · have h := h.2 c7
    refine j_aload_n G 0 0 dX10_starts_34 rfl rfl ?_
    have kk8 : kG K (a0 + 1) = (20, 4905) := wk_12_1 hW ka0
    refine j_get G hW 11 0 4 (.ref (a0 + 1)) ka0 (by decide) rfl (by decide) rfl lay_X10 fl_X10_7 rfl rfl dX10_starts_35 ?_
    refine j_iload_n G 1 1 dX10_starts_38 rfl rfl ?_
    refine j_sipush G (172 : Int32) dX10_starts_39 (by decide) ?_
    refine j_iadd G dX10_starts_42 ?_
    refine j_iload_n G 2 2 dX10_starts_43 rfl rfl ?_
    refine j_iadd G dX10_starts_44 ?_
    refine j_aload_n G 0 0 dX10_starts_45 rfl rfl ?_
    refine j_get G hW 11 0 4 (.ref (a0 + 1)) ka0 (by decide) rfl (by decide) rfl lay_X10 fl_X10_7 rfl rfl dX10_starts_46 ?_
    refine j_iload_n G 1 1 dX10_starts_49 rfl rfl ?_
    refine j_iconst G (1 : Int32) dX10_starts_50 (by decide) ?_
    refine j_iadd G dX10_starts_51 ?_
    refine j_iload_n G 2 2 dX10_starts_52 rfl rfl ?_
    refine j_iadd G dX10_starts_53 ?_
    obtain ⟨b9, h⟩ := h
    refine j_iald G hW kk8 b9 dX10_starts_54 ?_
    obtain ⟨b10, h⟩ := h
    refine j_iast G hW kk8 b10 dX10_starts_55 ?_
    refine j_mI (fun I11 eI11 => ?_)
    have h := h I11 eI11
    refine j_iinc G 2 (x2 + 1) [(2, .int (x2 + 1)), (0, .ref a0), (1, .int x1)] dX10_starts_56 rfl rfl (by decide) rfl ?_
    refine j_goto G 28 dX10_starts_59 (by decide) ?_
    exact Jg.sub [1, 2, 0] rfl (hrec (x2 + 1) I11 h)
def w_X10_starts_l64 (a0 : Nat) (x1 : Int32)  (ke99 : Int32 → MI → Prop) (Q : MI → Prop) (rec : Int32 → MI → Prop) (x2 : Int32) (I : MI) : Prop :=
(((32 : Int32) ≤ x2 → ke99 x2 I) ∧
(¬ (32 : Int32) ≤ x2 → (vp_in ((x1 + (7 : Int32)) + x2) 4905 ∧
(vp_in ((x1 + (178 : Int32)) + x2) 4905 ∧
(∀ I18, I18 = ui I (a0 + 1) (ix ((x1 + (178 : Int32)) + x2)) (I (a0 + 1) (ix ((x1 + (7 : Int32)) + x2))) →
rec (x2 + 1) I18)))))
set_option maxHeartbeats 4000000 in
set_option maxRecDepth 100000 in
theorem m_X10_starts_l64 {K : Kx} {l : Launch} {m : MethodId} {H0 : Heap} {Q : MI → Prop} {w : HW} {J : MJ} {B : MR} (G : Gd l rm_X10_starts K m RX10 cX10_starts 3 H0 none (va_Qv (S := MI) Q (fun u t => HP K (u, J, B) t.heap) (AA K)) w) (hW : WFK K) (a0 : Nat) (x1 : Int32) (x2 : Int32) (ka0 : (kG K a0).1 = 12) (I : MI) (ke99 : Int32 → MI → Prop) (hke99 : ∀ (x2 : Int32) (I : MI), ke99 x2 I → Jg K m 3 H0 w 99 [(0, .ref a0), (1, .int x1)] [] (I, J, B)) (h : Lp2 (w_X10_starts_l64 a0 x1 ke99 Q) x2 I) : Jg K m 3 H0 w 64 [(0, .ref a0), (1, .int x1), (2, .int x2)] [] (I, J, B) := by
  obtain ⟨n, h⟩ := h
  refine lpN2_ind (P := (fun (x2 : Int32) (I : MI) => Jg K m 3 H0 w 64 [(0, .ref a0), (1, .int x1), (2, .int x2)] [] (I, J, B))) (fun rec hrec x2 I h => ?_) n x2 I h
  unfold w_X10_starts_l64 at h
  refine j_iload_n G 2 2 dX10_starts_64 rfl rfl ?_
  refine j_bipush G (32 : Int32) dX10_starts_65 (by decide) ?_
  refine j_icmp_ge G 99 dX10_starts_67 (by decide) (fun c14 => ?_) (fun c14 => ?_)
  · have h := h.1 c14
    exact Jg.sub [0, 1] rfl (hke99 x2 I h)
  · have h := h.2 c14
    refine j_aload_n G 0 0 dX10_starts_70 rfl rfl ?_
    have kk15 : kG K (a0 + 1) = (20, 4905) := wk_12_1 hW ka0
    refine j_get G hW 11 0 4 (.ref (a0 + 1)) ka0 (by decide) rfl (by decide) rfl lay_X10 fl_X10_7 rfl rfl dX10_starts_71 ?_
    refine j_iload_n G 1 1 dX10_starts_74 rfl rfl ?_
    refine j_sipush G (178 : Int32) dX10_starts_75 (by decide) ?_
    refine j_iadd G dX10_starts_78 ?_
    refine j_iload_n G 2 2 dX10_starts_79 rfl rfl ?_
    refine j_iadd G dX10_starts_80 ?_
    refine j_aload_n G 0 0 dX10_starts_81 rfl rfl ?_
    refine j_get G hW 11 0 4 (.ref (a0 + 1)) ka0 (by decide) rfl (by decide) rfl lay_X10 fl_X10_7 rfl rfl dX10_starts_82 ?_
    refine j_iload_n G 1 1 dX10_starts_85 rfl rfl ?_
    refine j_bipush G (7 : Int32) dX10_starts_86 (by decide) ?_
    refine j_iadd G dX10_starts_88 ?_
    refine j_iload_n G 2 2 dX10_starts_89 rfl rfl ?_
    refine j_iadd G dX10_starts_90 ?_
    obtain ⟨b16, h⟩ := h
    refine j_iald G hW kk15 b16 dX10_starts_91 ?_
    obtain ⟨b17, h⟩ := h
    refine j_iast G hW kk15 b17 dX10_starts_92 ?_
    refine j_mI (fun I18 eI18 => ?_)
    have h := h I18 eI18
    refine j_iinc G 2 (x2 + 1) [(2, .int (x2 + 1)), (0, .ref a0), (1, .int x1)] dX10_starts_93 rfl rfl (by decide) rfl ?_
    refine j_goto G 64 dX10_starts_96 (by decide) ?_
    exact Jg.sub [1, 2, 0] rfl (hrec (x2 + 1) I18 h)
def w_X10_starts_l101 (a0 : Nat) (x1 : Int32)  (ke136 : Int32 → MI → Prop) (Q : MI → Prop) (rec : Int32 → MI → Prop) (x2 : Int32) (I : MI) : Prop :=
(((8 : Int32) ≤ x2 → ke136 x2 I) ∧
(¬ (8 : Int32) ≤ x2 → (vp_in ((x1 + (39 : Int32)) + x2) 4905 ∧
(vp_in ((x1 + (210 : Int32)) + x2) 4905 ∧
(∀ I25, I25 = ui I (a0 + 1) (ix ((x1 + (210 : Int32)) + x2)) (I (a0 + 1) (ix ((x1 + (39 : Int32)) + x2))) →
rec (x2 + 1) I25)))))
set_option maxHeartbeats 4000000 in
set_option maxRecDepth 100000 in
theorem m_X10_starts_l101 {K : Kx} {l : Launch} {m : MethodId} {H0 : Heap} {Q : MI → Prop} {w : HW} {J : MJ} {B : MR} (G : Gd l rm_X10_starts K m RX10 cX10_starts 3 H0 none (va_Qv (S := MI) Q (fun u t => HP K (u, J, B) t.heap) (AA K)) w) (hW : WFK K) (a0 : Nat) (x1 : Int32) (x2 : Int32) (ka0 : (kG K a0).1 = 12) (I : MI) (ke136 : Int32 → MI → Prop) (hke136 : ∀ (x2 : Int32) (I : MI), ke136 x2 I → Jg K m 3 H0 w 136 [(0, .ref a0), (1, .int x1)] [] (I, J, B)) (h : Lp2 (w_X10_starts_l101 a0 x1 ke136 Q) x2 I) : Jg K m 3 H0 w 101 [(0, .ref a0), (1, .int x1), (2, .int x2)] [] (I, J, B) := by
  obtain ⟨n, h⟩ := h
  refine lpN2_ind (P := (fun (x2 : Int32) (I : MI) => Jg K m 3 H0 w 101 [(0, .ref a0), (1, .int x1), (2, .int x2)] [] (I, J, B))) (fun rec hrec x2 I h => ?_) n x2 I h
  unfold w_X10_starts_l101 at h
  refine j_iload_n G 2 2 dX10_starts_101 rfl rfl ?_
  refine j_bipush G (8 : Int32) dX10_starts_102 (by decide) ?_
  refine j_icmp_ge G 136 dX10_starts_104 (by decide) (fun c21 => ?_) (fun c21 => ?_)
  · have h := h.1 c21
    exact Jg.sub [0, 1] rfl (hke136 x2 I h)
  · have h := h.2 c21
    refine j_aload_n G 0 0 dX10_starts_107 rfl rfl ?_
    have kk22 : kG K (a0 + 1) = (20, 4905) := wk_12_1 hW ka0
    refine j_get G hW 11 0 4 (.ref (a0 + 1)) ka0 (by decide) rfl (by decide) rfl lay_X10 fl_X10_7 rfl rfl dX10_starts_108 ?_
    refine j_iload_n G 1 1 dX10_starts_111 rfl rfl ?_
    refine j_sipush G (210 : Int32) dX10_starts_112 (by decide) ?_
    refine j_iadd G dX10_starts_115 ?_
    refine j_iload_n G 2 2 dX10_starts_116 rfl rfl ?_
    refine j_iadd G dX10_starts_117 ?_
    refine j_aload_n G 0 0 dX10_starts_118 rfl rfl ?_
    refine j_get G hW 11 0 4 (.ref (a0 + 1)) ka0 (by decide) rfl (by decide) rfl lay_X10 fl_X10_7 rfl rfl dX10_starts_119 ?_
    refine j_iload_n G 1 1 dX10_starts_122 rfl rfl ?_
    refine j_bipush G (39 : Int32) dX10_starts_123 (by decide) ?_
    refine j_iadd G dX10_starts_125 ?_
    refine j_iload_n G 2 2 dX10_starts_126 rfl rfl ?_
    refine j_iadd G dX10_starts_127 ?_
    obtain ⟨b23, h⟩ := h
    refine j_iald G hW kk22 b23 dX10_starts_128 ?_
    obtain ⟨b24, h⟩ := h
    refine j_iast G hW kk22 b24 dX10_starts_129 ?_
    refine j_mI (fun I25 eI25 => ?_)
    have h := h I25 eI25
    refine j_iinc G 2 (x2 + 1) [(2, .int (x2 + 1)), (0, .ref a0), (1, .int x1)] dX10_starts_130 rfl rfl (by decide) rfl ?_
    refine j_goto G 101 dX10_starts_133 (by decide) ?_
    exact Jg.sub [1, 2, 0] rfl (hrec (x2 + 1) I25 h)
def w_X10_starts (a0 : Nat) (x1 : Int32) (I : MI) (Q : MI → Prop) : Prop :=
Lp2 (w_X10_starts_l4 a0 x1 (fun x2_5 I6 => Lp2 (w_X10_starts_l28 a0 x1 (fun x2_12 I13 => Lp2 (w_X10_starts_l64 a0 x1 (fun x2_19 I20 => Lp2 (w_X10_starts_l101 a0 x1 (fun x2_26 I27 => (vp_in (x1 + (250 : Int32)) 4905 ∧
(∀ I30, I30 = ui I27 (a0 + 1) (ix (x1 + (250 : Int32))) (-1 : Int32) →
(w_X10_aims a0 x1 I30 (fun r31 =>
(vp_in (x1 + (49 : Int32)) 4905 ∧
(∀ I33, I33 = ui I30 (a0 + 1) (ix (x1 + (49 : Int32))) r31 →
Q I33))))))) Q) (0 : Int32) I20) Q) (0 : Int32) I13) Q) (0 : Int32) I6) Q) (170 : Int32) I
set_option maxHeartbeats 4000000 in
set_option maxRecDepth 100000 in
theorem c_X10_starts (K : Kx) (hW : WFK K) (l : Launch) (a0 : Nat) (x1 : Int32) (k0 : (kG K a0).1 = 12) (I : MI) (J : MJ) (B : MR) (Q : MI → Prop) (h : w_X10_starts a0 x1 I Q) : Con K l yX10_starts (wsT yX10_starts cX10_starts 3 none) rm_X10_starts [.ref a0, .int x1] (I, J, B) (va_Qv (S := MI) Q (fun u t => HP K (u, J, B) t.heap) (AA K)) := by
  refine Con.ofJ RX10 rfl (by decide) (Nat.le_of_ble_eq_true rfl) (fun m H0 w G => ?_)
  unfold w_X10_starts at h
  show Jg K m 3 H0 w 0 [(0, .ref a0), (1, .int x1)] [] (I, J, B)
  refine j_sipush G (170 : Int32) dX10_starts_0 (by decide) ?_
  refine j_istore_n G 2 [(2, .int (170 : Int32)), (0, .ref a0), (1, .int x1)] dX10_starts_3 rfl (by decide) rfl ?_
  refine Jg.sub [1, 2, 0] rfl (m_X10_starts_l4 G hW a0 x1 (170 : Int32) k0 I _ ?_ h)
  intro x2_5 I6 h
  refine j_iconst G (0 : Int32) dX10_starts_26 (by decide) ?_
  refine j_istore_n G 2 [(2, .int (0 : Int32)), (0, .ref a0), (1, .int x1)] dX10_starts_27 rfl (by decide) rfl ?_
  refine Jg.sub [1, 2, 0] rfl (m_X10_starts_l28 G hW a0 x1 (0 : Int32) k0 I6 _ ?_ h)
  intro x2_12 I13 h
  refine j_iconst G (0 : Int32) dX10_starts_62 (by decide) ?_
  refine j_istore_n G 2 [(2, .int (0 : Int32)), (0, .ref a0), (1, .int x1)] dX10_starts_63 rfl (by decide) rfl ?_
  refine Jg.sub [1, 2, 0] rfl (m_X10_starts_l64 G hW a0 x1 (0 : Int32) k0 I13 _ ?_ h)
  intro x2_19 I20 h
  refine j_iconst G (0 : Int32) dX10_starts_99 (by decide) ?_
  refine j_istore_n G 2 [(2, .int (0 : Int32)), (0, .ref a0), (1, .int x1)] dX10_starts_100 rfl (by decide) rfl ?_
  refine Jg.sub [1, 2, 0] rfl (m_X10_starts_l101 G hW a0 x1 (0 : Int32) k0 I20 _ ?_ h)
  intro x2_26 I27 h
  refine j_aload_n G 0 0 dX10_starts_136 rfl rfl ?_
  have kk28 : kG K (a0 + 1) = (20, 4905) := wk_12_1 hW k0
  refine j_get G hW 11 0 4 (.ref (a0 + 1)) k0 (by decide) rfl (by decide) rfl lay_X10 fl_X10_7 rfl rfl dX10_starts_137 ?_
  refine j_iload_n G 1 1 dX10_starts_140 rfl rfl ?_
  refine j_sipush G (250 : Int32) dX10_starts_141 (by decide) ?_
  refine j_iadd G dX10_starts_144 ?_
  refine j_iconst G (-1 : Int32) dX10_starts_145 (by decide) ?_
  obtain ⟨b29, h⟩ := h
  refine j_iast G hW kk28 b29 dX10_starts_146 ?_
  refine j_mI (fun I30 eI30 => ?_)
  have h := h I30 eI30
  refine j_aload_n G 0 0 dX10_starts_147 rfl rfl ?_
  refine j_get G hW 11 0 4 (.ref (a0 + 1)) k0 (by decide) rfl (by decide) rfl lay_X10 fl_X10_7 rfl rfl dX10_starts_148 ?_
  refine j_iload_n G 1 1 dX10_starts_151 rfl rfl ?_
  refine j_bipush G (49 : Int32) dX10_starts_152 (by decide) ?_
  refine j_iadd G dX10_starts_154 ?_
  refine j_aload_n G 0 0 dX10_starts_155 rfl rfl ?_
  refine j_iload_n G 1 1 dX10_starts_156 rfl rfl ?_
  refine j_ci (rn_V G hW (ci := 11) (n := 1) (As := [.int x1]) (rest := [.int (x1 + (49 : Int32)), .ref (a0 + 1)]) (c_X10_aims K hW l a0 x1 k0 I30 J B _ h) k0 (by decide) rfl ml_X10_50 im_X10_aims se_X10_aims in_X10 co_X10_aims rfl (by decide +kernel) rfl rfl (by decide) (by decide) rfl rfl (Nat.le_of_ble_eq_true rfl) dX10_starts_157) (fun r31 _ h => ?_)
  obtain ⟨b32, h⟩ := h
  refine j_iast G hW kk28 b32 dX10_starts_160 ?_
  refine j_mI (fun I33 eI33 => ?_)
  have h := h I33 eI33
  exact j_retv G I33 dX10_starts_161 h rfl
abbrev rm_X10_isAim : Room := { frames := 1, cells := 0, slots := 0, locals := 21 }
def w_X10_isAim (a0 : Nat) (x1 : Int32) (x2 : Int32) (I : MI) (Q : Int32 →  Prop) : Prop :=
(vp_in (x1 + (49 : Int32)) 4905 ∧
(w_X10_has (I (a0 + 1) (ix (x1 + (49 : Int32)))) x2 (fun r3 =>
(bln r3 ∧
Q r3))))
set_option maxHeartbeats 4000000 in
set_option maxRecDepth 100000 in
theorem c_X10_isAim (K : Kx) (hW : WFK K) (l : Launch) (a0 : Nat) (x1 : Int32) (x2 : Int32) (k0 : (kG K a0).1 = 12) (I : MI) (J : MJ) (B : MR) (Q : Int32 →  Prop) (h : w_X10_isAim a0 x1 x2 I Q) : Con K l yX10_isAim (wsT yX10_isAim cX10_isAim 3 (some .boolean)) rm_X10_isAim [.ref a0, .int x1, .int x2] (I, J, B) (va_Qi (S := Unit) (fun r _ => Q r) (fun u t => HP K (I, J, B) t.heap) (AA K)) := by
  refine Con.ofJ RX10 rfl (by decide) (Nat.le_of_ble_eq_true rfl) (fun m H0 w G => ?_)
  unfold w_X10_isAim at h
  show Jg K m 3 H0 w 0 [(0, .ref a0), (1, .int x1), (2, .int x2)] [] (I, J, B)
  refine j_aload_n G 0 0 dX10_isAim_0 rfl rfl ?_
  have kk1 : kG K (a0 + 1) = (20, 4905) := wk_12_1 hW k0
  refine j_get G hW 11 0 4 (.ref (a0 + 1)) k0 (by decide) rfl (by decide) rfl lay_X10 fl_X10_7 rfl rfl dX10_isAim_1 ?_
  refine j_iload_n G 1 1 dX10_isAim_4 rfl rfl ?_
  refine j_bipush G (49 : Int32) dX10_isAim_5 (by decide) ?_
  refine j_iadd G dX10_isAim_7 ?_
  obtain ⟨b2, h⟩ := h
  refine j_iald G hW kk1 b2 dX10_isAim_8 ?_
  refine j_iload_n G 2 2 dX10_isAim_9 rfl rfl ?_
  refine j_ci (rn_S G (n := 2) (As := [.int (I (a0 + 1) (ix (x1 + (49 : Int32)))), .int x2]) (rest := []) (c_X10_has K hW l (I (a0 + 1) (ix (x1 + (49 : Int32)))) x2 I J B _ h) ml_X10_66 st_X10_has in_X10 co_X10_has (by decide +kernel) rfl rfl (by decide) (by decide) rfl rfl (Nat.le_of_ble_eq_true rfl) dX10_isAim_10) (fun r3 _ h => ?_)
  obtain ⟨q4, h⟩ := h
  exact j_reti G () (bln_n q4) dX10_isAim_13 h rfl
abbrev rm_X10_send : Room := { frames := 2, cells := 0, slots := 0, locals := 43 }
def w_X10_send_p28 (a0 : Nat) (x1 : Int32) (x3 : Int32) (x5 : Int32)  (I : MI)  (Q : Int32 →  Prop) : Prop :=
(w_X10_isAim a0 x1 x3 I (fun r3 =>
((r3 = 0 → Q (0 : Int32)) ∧
(¬ r3 = 0 → ((¬ x5 = 0 → Q (0 : Int32)) ∧
(x5 = 0 → Q ((1 : Int32) + ((16 : Int32) * x3))))))))
set_option maxHeartbeats 4000000 in
set_option maxRecDepth 100000 in
theorem m_X10_send_p28 {K : Kx} {l : Launch} {m : MethodId} {H0 : Heap} {Q : Int32 →  Prop} {w : HW} {I : MI} {J : MJ} {B : MR} (G : Gd l rm_X10_send K m RX10 cX10_send 6 H0 (some .int) (va_Qi (S := Unit) (fun r _ => Q r) (fun u t => HP K (I, J, B) t.heap) (AA K)) w) (hW : WFK K) (a0 : Nat) (x1 : Int32) (x3 : Int32) (x5 : Int32)  (ka0 : (kG K a0).1 = 12)     (h : w_X10_send_p28 a0 x1 x3 x5 I Q) : Jg K m 6 H0 w 28 [(0, .ref a0), (1, .int x1), (3, .int x3), (5, .int x5)] [] (I, J, B) := by
  unfold w_X10_send_p28 at h
  refine j_aload_n G 0 0 dX10_send_28 rfl rfl ?_
  refine j_iload_n G 1 1 dX10_send_29 rfl rfl ?_
  refine j_iload_n G 2 3 dX10_send_30 rfl rfl ?_
  refine j_ci (rn_V G hW (ci := 11) (n := 2) (As := [.int x1, .int x3]) (rest := []) (c_X10_isAim K hW l a0 x1 x3 ka0 I J B _ h) ka0 (by decide) rfl ml_X10_70 im_X10_isAim se_X10_isAim in_X10 co_X10_isAim rfl (by decide +kernel) rfl rfl (by decide) (by decide) rfl rfl (Nat.le_of_ble_eq_true rfl) dX10_send_31) (fun r3 _ h => ?_)
  refine j_if_eq G 51 dX10_send_34 (by decide) (fun c4 => ?_) (fun c4 => ?_)
  · have h := h.1 c4
    refine j_iconst G (0 : Int32) dX10_send_51 (by decide) ?_
    exact j_reti G () rfl dX10_send_52 h rfl
  · have h := h.2 c4
    refine j_iload G 3 dX10_send_37 rfl ?_
    refine j_if_ne G 51 dX10_send_39 (by decide) (fun c5 => ?_) (fun c5 => ?_)
    · have h := h.1 c5
      refine j_iconst G (0 : Int32) dX10_send_51 (by decide) ?_
      exact j_reti G () rfl dX10_send_52 h rfl
    · have h := h.2 c5
      refine j_iconst G (1 : Int32) dX10_send_42 (by decide) ?_
      refine j_bipush G (16 : Int32) dX10_send_43 (by decide) ?_
      refine j_iload_n G 2 3 dX10_send_45 rfl rfl ?_
      refine j_imul G dX10_send_46 ?_
      refine j_iadd G dX10_send_47 ?_
      refine j_goto G 52 dX10_send_48 (by decide) ?_
      exact j_reti G () rfl dX10_send_52 h rfl
def w_X10_send (a0 : Nat) (x1 : Int32) (x2 : Int32) (x3 : Int32) (x4 : Int32) (I : MI) (Q : Int32 →  Prop) : Prop :=
(w_X10_isAim a0 x1 x2 I (fun r1 =>
((r1 = 0 → w_X10_send_p28 a0 x1 x3 x4 I Q) ∧
(¬ r1 = 0 → ((¬ x4 = 0 → w_X10_send_p28 a0 x1 x3 (x4 + (-1)) I Q) ∧
(x4 = 0 → Q ((1 : Int32) + ((16 : Int32) * x2))))))))
set_option maxHeartbeats 4000000 in
set_option maxRecDepth 100000 in
theorem c_X10_send (K : Kx) (hW : WFK K) (l : Launch) (a0 : Nat) (x1 : Int32) (x2 : Int32) (x3 : Int32) (x4 : Int32) (k0 : (kG K a0).1 = 12) (I : MI) (J : MJ) (B : MR) (Q : Int32 →  Prop) (h : w_X10_send a0 x1 x2 x3 x4 I Q) : Con K l yX10_send (wsT yX10_send cX10_send 6 (some .int)) rm_X10_send [.ref a0, .int x1, .int x2, .int x3, .int x4] (I, J, B) (va_Qi (S := Unit) (fun r _ => Q r) (fun u t => HP K (I, J, B) t.heap) (AA K)) := by
  refine Con.ofJ RX10 rfl (by decide) (Nat.le_of_ble_eq_true rfl) (fun m H0 w G => ?_)
  unfold w_X10_send at h
  show Jg K m 6 H0 w 0 [(0, .ref a0), (1, .int x1), (2, .int x2), (3, .int x3), (4, .int x4)] [] (I, J, B)
  refine j_iload G 4 dX10_send_0 rfl ?_
  refine j_istore G [(5, .int x4), (0, .ref a0), (1, .int x1), (2, .int x2), (3, .int x3), (4, .int x4)] dX10_send_2 (by decide) rfl ?_
  refine j_aload_n G 1 0 dX10_send_4 rfl rfl ?_
  refine j_iload_n G 2 1 dX10_send_5 rfl rfl ?_
  refine j_iload_n G 3 2 dX10_send_6 rfl rfl ?_
  refine j_ci (rn_V G hW (ci := 11) (n := 2) (As := [.int x1, .int x2]) (rest := []) (c_X10_isAim K hW l a0 x1 x2 k0 I J B _ h) k0 (by decide) rfl ml_X10_70 im_X10_isAim se_X10_isAim in_X10 co_X10_isAim rfl (by decide +kernel) rfl rfl (by decide) (by decide) rfl rfl (Nat.le_of_ble_eq_true rfl) dX10_send_7) (fun r1 _ h => ?_)
  refine j_if_eq G 28 dX10_send_10 (by decide) (fun c2 => ?_) (fun c2 => ?_)
  · have h := h.1 c2
    exact Jg.sub [1, 2, 4, 0] rfl (m_X10_send_p28 G hW a0 x1 x3 x4 k0 h)
  · have h := h.2 c2
    refine j_iload G 0 dX10_send_13 rfl ?_
    refine j_if_ne G 25 dX10_send_15 (by decide) (fun c6 => ?_) (fun c6 => ?_)
    · have h := h.1 c6
      refine j_iinc G 0 (x4 + (-1)) [(5, .int (x4 + (-1))), (0, .ref a0), (1, .int x1), (2, .int x2), (3, .int x3), (4, .int x4)] dX10_send_25 rfl rfl (by decide) rfl ?_
      exact Jg.sub [1, 2, 4, 0] rfl (m_X10_send_p28 G hW a0 x1 x3 (x4 + (-1)) k0 h)
    · have h := h.2 c6
      refine j_iconst G (1 : Int32) dX10_send_18 (by decide) ?_
      refine j_bipush G (16 : Int32) dX10_send_19 (by decide) ?_
      refine j_iload_n G 3 2 dX10_send_21 rfl rfl ?_
      refine j_imul G dX10_send_22 ?_
      refine j_iadd G dX10_send_23 ?_
      exact j_reti G () rfl dX10_send_24 h rfl
abbrev rm_X10_sends : Room := { frames := 2, cells := 0, slots := 0, locals := 43 }
def w_X10_sends (a0 : Nat) (x1 : Int32) (x2 : Int32) (x3 : Int32) (I : MI) (Q : Int32 →  Prop) : Prop :=
(w_X10_isAim a0 x1 x2 I (fun r1 =>
((r1 = 0 → (w_X10_isAim a0 x1 x3 I (fun r3 =>
((r3 = 0 → Q ((0 : Int32) + (0 : Int32))) ∧
(¬ r3 = 0 → Q ((0 : Int32) + (1 : Int32))))))) ∧
(¬ r1 = 0 → (w_X10_isAim a0 x1 x3 I (fun r5 =>
((r5 = 0 → Q ((1 : Int32) + (0 : Int32))) ∧
(¬ r5 = 0 → Q ((1 : Int32) + (1 : Int32))))))))))
set_option maxHeartbeats 4000000 in
set_option maxRecDepth 100000 in
theorem c_X10_sends (K : Kx) (hW : WFK K) (l : Launch) (a0 : Nat) (x1 : Int32) (x2 : Int32) (x3 : Int32) (k0 : (kG K a0).1 = 12) (I : MI) (J : MJ) (B : MR) (Q : Int32 →  Prop) (h : w_X10_sends a0 x1 x2 x3 I Q) : Con K l yX10_sends (wsT yX10_sends cX10_sends 4 (some .int)) rm_X10_sends [.ref a0, .int x1, .int x2, .int x3] (I, J, B) (va_Qi (S := Unit) (fun r _ => Q r) (fun u t => HP K (I, J, B) t.heap) (AA K)) := by
  refine Con.ofJ RX10 rfl (by decide) (Nat.le_of_ble_eq_true rfl) (fun m H0 w G => ?_)
  unfold w_X10_sends at h
  show Jg K m 4 H0 w 0 [(0, .ref a0), (1, .int x1), (2, .int x2), (3, .int x3)] [] (I, J, B)
  refine j_aload_n G 0 0 dX10_sends_0 rfl rfl ?_
  refine j_iload_n G 1 1 dX10_sends_1 rfl rfl ?_
  refine j_iload_n G 2 2 dX10_sends_2 rfl rfl ?_
  refine j_ci (rn_V G hW (ci := 11) (n := 2) (As := [.int x1, .int x2]) (rest := []) (c_X10_isAim K hW l a0 x1 x2 k0 I J B _ h) k0 (by decide) rfl ml_X10_70 im_X10_isAim se_X10_isAim in_X10 co_X10_isAim rfl (by decide +kernel) rfl rfl (by decide) (by decide) rfl rfl (Nat.le_of_ble_eq_true rfl) dX10_sends_3) (fun r1 _ h => ?_)
  refine j_if_eq G 13 dX10_sends_6 (by decide) (fun c2 => ?_) (fun c2 => ?_)
  · have h := h.1 c2
    refine j_iconst G (0 : Int32) dX10_sends_13 (by decide) ?_
    refine j_aload_n G 0 0 dX10_sends_14 rfl rfl ?_
    refine j_iload_n G 1 1 dX10_sends_15 rfl rfl ?_
    refine j_iload_n G 3 3 dX10_sends_16 rfl rfl ?_
    refine j_ci (rn_V G hW (ci := 11) (n := 2) (As := [.int x1, .int x3]) (rest := [.int (0 : Int32)]) (c_X10_isAim K hW l a0 x1 x3 k0 I J B _ h) k0 (by decide) rfl ml_X10_70 im_X10_isAim se_X10_isAim in_X10 co_X10_isAim rfl (by decide +kernel) rfl rfl (by decide) (by decide) rfl rfl (Nat.le_of_ble_eq_true rfl) dX10_sends_17) (fun r3 _ h => ?_)
    refine j_if_eq G 27 dX10_sends_20 (by decide) (fun c4 => ?_) (fun c4 => ?_)
    · have h := h.1 c4
      refine j_iconst G (0 : Int32) dX10_sends_27 (by decide) ?_
      refine j_iadd G dX10_sends_28 ?_
      exact j_reti G () rfl dX10_sends_29 h rfl
    · have h := h.2 c4
      refine j_iconst G (1 : Int32) dX10_sends_23 (by decide) ?_
      refine j_goto G 28 dX10_sends_24 (by decide) ?_
      refine j_iadd G dX10_sends_28 ?_
      exact j_reti G () rfl dX10_sends_29 h rfl
  · have h := h.2 c2
    refine j_iconst G (1 : Int32) dX10_sends_9 (by decide) ?_
    refine j_goto G 14 dX10_sends_10 (by decide) ?_
    refine j_aload_n G 0 0 dX10_sends_14 rfl rfl ?_
    refine j_iload_n G 1 1 dX10_sends_15 rfl rfl ?_
    refine j_iload_n G 3 3 dX10_sends_16 rfl rfl ?_
    refine j_ci (rn_V G hW (ci := 11) (n := 2) (As := [.int x1, .int x3]) (rest := [.int (1 : Int32)]) (c_X10_isAim K hW l a0 x1 x3 k0 I J B _ h) k0 (by decide) rfl ml_X10_70 im_X10_isAim se_X10_isAim in_X10 co_X10_isAim rfl (by decide +kernel) rfl rfl (by decide) (by decide) rfl rfl (Nat.le_of_ble_eq_true rfl) dX10_sends_17) (fun r5 _ h => ?_)
    refine j_if_eq G 27 dX10_sends_20 (by decide) (fun c6 => ?_) (fun c6 => ?_)
    · have h := h.1 c6
      refine j_iconst G (0 : Int32) dX10_sends_27 (by decide) ?_
      refine j_iadd G dX10_sends_28 ?_
      exact j_reti G () rfl dX10_sends_29 h rfl
    · have h := h.2 c6
      refine j_iconst G (1 : Int32) dX10_sends_23 (by decide) ?_
      refine j_goto G 28 dX10_sends_24 (by decide) ?_
      refine j_iadd G dX10_sends_28 ?_
      exact j_reti G () rfl dX10_sends_29 h rfl
abbrev rm_X10_deed : Room := { frames := 3, cells := 0, slots := 0, locals := 68 }
def w_X10_deed_p108 (a0 : Nat) (x1 : Int32) (x2 : Int32) (x4 : Int32) (x6 : Int32) (x7 : Int32) (x8 : Int32) (s0 : Int32) (I : MI)  (Q : Int32 →  Prop) : Prop :=
((¬ x2 = (1 : Int32) → ((s0 = 0 → (w_X10_sends a0 x1 x7 x8 I (fun r29 =>
((r29 ≤ x4 → (w_X10_sends a0 x1 x7 x8 I (fun r31 =>
((¬ x4 = r31 → Q (0 : Int32)) ∧
(x4 = r31 → Q (12 : Int32)))))) ∧
(¬ r29 ≤ x4 → (w_X10_send a0 x1 x7 x8 x4 I (fun r33 =>
Q r33))))))) ∧
(¬ s0 = 0 → ((x6 = 0 → Q (0 : Int32)) ∧
(¬ x6 = 0 → Q (10 : Int32)))))) ∧
(x2 = (1 : Int32) → ((¬ x6 = 0 → ((s0 = 0 → Q (13 : Int32)) ∧
(¬ s0 = 0 → Q (11 : Int32)))) ∧
(x6 = 0 → Q (0 : Int32)))))
set_option maxHeartbeats 4000000 in
set_option maxRecDepth 100000 in
theorem m_X10_deed_p108 {K : Kx} {l : Launch} {m : MethodId} {H0 : Heap} {Q : Int32 →  Prop} {w : HW} {I : MI} {J : MJ} {B : MR} (G : Gd l rm_X10_deed K m RX10 cX10_deed 10 H0 (some .int) (va_Qi (S := Unit) (fun r _ => Q r) (fun u t => HP K (I, J, B) t.heap) (AA K)) w) (hW : WFK K) (a0 : Nat) (x1 : Int32) (x2 : Int32) (x4 : Int32) (x6 : Int32) (x7 : Int32) (x8 : Int32) (s0 : Int32) (ka0 : (kG K a0).1 = 12)     (h : w_X10_deed_p108 a0 x1 x2 x4 x6 x7 x8 s0 I Q) : Jg K m 10 H0 w 108 [(0, .ref a0), (1, .int x1), (2, .int x2), (4, .int x4), (6, .int x6), (7, .int x7), (8, .int x8)] [.int s0] (I, J, B) := by
  unfold w_X10_deed_p108 at h
  refine j_istore G [(9, .int s0), (0, .ref a0), (1, .int x1), (2, .int x2), (4, .int x4), (6, .int x6), (7, .int x7), (8, .int x8)] dX10_deed_108 (by decide) rfl ?_
  refine j_iload_n G 3 2 dX10_deed_110 rfl rfl ?_
  refine j_iconst G (1 : Int32) dX10_deed_111 (by decide) ?_
  refine j_icmp_ne G 137 dX10_deed_112 (by decide) (fun c27 => ?_) (fun c27 => ?_)
  · have h := h.1 c27
    refine j_iload G 0 dX10_deed_137 rfl ?_
    refine j_if_eq G 154 dX10_deed_139 (by decide) (fun c28 => ?_) (fun c28 => ?_)
    · have h := h.1 c28
      refine j_iload G 4 dX10_deed_154 rfl ?_
      refine j_aload_n G 1 0 dX10_deed_156 rfl rfl ?_
      refine j_iload_n G 2 1 dX10_deed_157 rfl rfl ?_
      refine j_iload G 6 dX10_deed_158 rfl ?_
      refine j_iload G 7 dX10_deed_160 rfl ?_
      refine j_ci (rn_V G hW (ci := 11) (n := 3) (As := [.int x1, .int x7, .int x8]) (rest := [.int x4]) (c_X10_sends K hW l a0 x1 x7 x8 ka0 I J B _ h) ka0 (by decide) rfl ml_X10_73 im_X10_sends se_X10_sends in_X10 co_X10_sends rfl (by decide +kernel) rfl rfl (by decide) (by decide) rfl rfl (Nat.le_of_ble_eq_true rfl) dX10_deed_162) (fun r29 _ h => ?_)
      refine j_icmp_ge G 182 dX10_deed_165 (by decide) (fun c30 => ?_) (fun c30 => ?_)
      · have h := h.1 c30
        refine j_iload G 4 dX10_deed_182 rfl ?_
        refine j_aload_n G 1 0 dX10_deed_184 rfl rfl ?_
        refine j_iload_n G 2 1 dX10_deed_185 rfl rfl ?_
        refine j_iload G 6 dX10_deed_186 rfl ?_
        refine j_iload G 7 dX10_deed_188 rfl ?_
        refine j_ci (rn_V G hW (ci := 11) (n := 3) (As := [.int x1, .int x7, .int x8]) (rest := [.int x4]) (c_X10_sends K hW l a0 x1 x7 x8 ka0 I J B _ h) ka0 (by decide) rfl ml_X10_73 im_X10_sends se_X10_sends in_X10 co_X10_sends rfl (by decide +kernel) rfl rfl (by decide) (by decide) rfl rfl (Nat.le_of_ble_eq_true rfl) dX10_deed_190) (fun r31 _ h => ?_)
        refine j_icmp_ne G 201 dX10_deed_193 (by decide) (fun c32 => ?_) (fun c32 => ?_)
        · have h := h.1 c32
          refine j_iconst G (0 : Int32) dX10_deed_201 (by decide) ?_
          exact j_reti G () rfl dX10_deed_202 h rfl
        · have h := h.2 c32
          refine j_bipush G (12 : Int32) dX10_deed_196 (by decide) ?_
          refine j_goto G 202 dX10_deed_198 (by decide) ?_
          exact j_reti G () rfl dX10_deed_202 h rfl
      · have h := h.2 c30
        refine j_aload_n G 1 0 dX10_deed_168 rfl rfl ?_
        refine j_iload_n G 2 1 dX10_deed_169 rfl rfl ?_
        refine j_iload G 6 dX10_deed_170 rfl ?_
        refine j_iload G 7 dX10_deed_172 rfl ?_
        refine j_iload G 4 dX10_deed_174 rfl ?_
        refine j_ci (rn_V G hW (ci := 11) (n := 4) (As := [.int x1, .int x7, .int x8, .int x4]) (rest := []) (c_X10_send K hW l a0 x1 x7 x8 x4 ka0 I J B _ h) ka0 (by decide) rfl ml_X10_76 im_X10_send se_X10_send in_X10 co_X10_send rfl (by decide +kernel) rfl rfl (by decide) (by decide) rfl rfl (Nat.le_of_ble_eq_true rfl) dX10_deed_176) (fun r33 _ h => ?_)
        refine j_goto G 202 dX10_deed_179 (by decide) ?_
        exact j_reti G () rfl dX10_deed_202 h rfl
    · have h := h.2 c28
      refine j_iload G 5 dX10_deed_142 rfl ?_
      refine j_if_eq G 152 dX10_deed_144 (by decide) (fun c34 => ?_) (fun c34 => ?_)
      · have h := h.1 c34
        refine j_iconst G (0 : Int32) dX10_deed_152 (by decide) ?_
        exact j_reti G () rfl dX10_deed_153 h rfl
      · have h := h.2 c34
        refine j_bipush G (10 : Int32) dX10_deed_147 (by decide) ?_
        refine j_goto G 153 dX10_deed_149 (by decide) ?_
        exact j_reti G () rfl dX10_deed_153 h rfl
  · have h := h.2 c27
    refine j_iload G 5 dX10_deed_115 rfl ?_
    refine j_if_ne G 124 dX10_deed_117 (by decide) (fun c35 => ?_) (fun c35 => ?_)
    · have h := h.1 c35
      refine j_iload G 0 dX10_deed_124 rfl ?_
      refine j_if_eq G 134 dX10_deed_126 (by decide) (fun c36 => ?_) (fun c36 => ?_)
      · have h := h.1 c36
        refine j_bipush G (13 : Int32) dX10_deed_134 (by decide) ?_
        exact j_reti G () rfl dX10_deed_136 h rfl
      · have h := h.2 c36
        refine j_bipush G (11 : Int32) dX10_deed_129 (by decide) ?_
        refine j_goto G 136 dX10_deed_131 (by decide) ?_
        exact j_reti G () rfl dX10_deed_136 h rfl
    · have h := h.2 c35
      refine j_iconst G (0 : Int32) dX10_deed_120 (by decide) ?_
      refine j_goto G 136 dX10_deed_121 (by decide) ?_
      exact j_reti G () rfl dX10_deed_136 h rfl
def w_X10_deed_p18 (a0 : Nat) (x1 : Int32) (x2 : Int32) (x3 : Int32) (x4 : Int32) (x5 : Int32) (s0 : Int32) (I : MI)  (Q : Int32 →  Prop) : Prop :=
((¬ x5 = (8 : Int32) → ((¬ x5 = (6 : Int32) → (w_X10_of a0 x1 x3 (1 : Int32) I (fun r5 =>
(w_X10_of a0 x1 x3 (2 : Int32) I (fun r6 =>
((¬ x5 = (7 : Int32) → (w_X10_isAim a0 x1 r5 I (fun r8 =>
((r8 = 0 → ((¬ x2 = (1 : Int32) → ((¬ x5 = (4 : Int32) → ((¬ x5 = (5 : Int32) → ((¬ x5 = 0 → (w_X10_of a0 x1 x3 (3 : Int32) I (fun r14 =>
(w_X10_send a0 x1 r6 r14 x4 I (fun r15 =>
Q r15))))) ∧
(x5 = 0 → Q (0 : Int32)))) ∧
(x5 = (5 : Int32) → ((s0 = 0 → Q (0 : Int32)) ∧
(¬ s0 = 0 → Q (7 : Int32)))))) ∧
(x5 = (4 : Int32) → ((s0 = 0 → Q (0 : Int32)) ∧
(¬ s0 = 0 → Q (4 : Int32)))))) ∧
(x2 = (1 : Int32) → ((¬ s0 = 0 → ((¬ x5 = (4 : Int32) → ((¬ x5 = (5 : Int32) → Q (2 : Int32)) ∧
(x5 = (5 : Int32) → Q (8 : Int32)))) ∧
(x5 = (4 : Int32) → Q (5 : Int32)))) ∧
(s0 = 0 → Q (0 : Int32)))))) ∧
(¬ r8 = 0 → ((x2 = (1 : Int32) → Q (0 : Int32)) ∧
(¬ x2 = (1 : Int32) → ((¬ s0 = 0 → ((¬ x5 = (4 : Int32) → ((¬ x5 = (5 : Int32) → Q (2 : Int32)) ∧
(x5 = (5 : Int32) → Q (6 : Int32)))) ∧
(x5 = (4 : Int32) → Q (3 : Int32)))) ∧
(s0 = 0 → Q (0 : Int32)))))))))) ∧
(x5 = (7 : Int32) → (w_X10_isAim a0 x1 r5 I (fun r25 =>
((r25 = 0 → w_X10_deed_p108 a0 x1 x2 x4 s0 r5 r6 (0 : Int32) I Q) ∧
(¬ r25 = 0 → (w_X10_isAim a0 x1 r6 I (fun r37 =>
((r37 = 0 → w_X10_deed_p108 a0 x1 x2 x4 s0 r5 r6 (0 : Int32) I Q) ∧
(¬ r37 = 0 → w_X10_deed_p108 a0 x1 x2 x4 s0 r5 r6 (1 : Int32) I Q))))))))))))))) ∧
(x5 = (6 : Int32) → ((s0 = 0 → Q (0 : Int32)) ∧
(¬ s0 = 0 → Q (9 : Int32)))))) ∧
(x5 = (8 : Int32) → ((s0 = 0 → Q (0 : Int32)) ∧
(¬ s0 = 0 → Q (14 : Int32)))))
set_option maxHeartbeats 4000000 in
set_option maxRecDepth 100000 in
theorem m_X10_deed_p18 {K : Kx} {l : Launch} {m : MethodId} {H0 : Heap} {Q : Int32 →  Prop} {w : HW} {I : MI} {J : MJ} {B : MR} (G : Gd l rm_X10_deed K m RX10 cX10_deed 10 H0 (some .int) (va_Qi (S := Unit) (fun r _ => Q r) (fun u t => HP K (I, J, B) t.heap) (AA K)) w) (hW : WFK K) (a0 : Nat) (x1 : Int32) (x2 : Int32) (x3 : Int32) (x4 : Int32) (x5 : Int32) (s0 : Int32) (ka0 : (kG K a0).1 = 12)     (h : w_X10_deed_p18 a0 x1 x2 x3 x4 x5 s0 I Q) : Jg K m 10 H0 w 18 [(0, .ref a0), (1, .int x1), (2, .int x2), (3, .int x3), (4, .int x4), (5, .int x5)] [.int s0] (I, J, B) := by
  unfold w_X10_deed_p18 at h
  refine j_istore G [(6, .int s0), (0, .ref a0), (1, .int x1), (2, .int x2), (3, .int x3), (4, .int x4), (5, .int x5)] dX10_deed_18 (by decide) rfl ?_
  refine j_iload G 6 dX10_deed_20 rfl ?_
  refine j_bipush G (8 : Int32) dX10_deed_22 (by decide) ?_
  refine j_icmp_ne G 39 dX10_deed_24 (by decide) (fun c3 => ?_) (fun c3 => ?_)
  · have h := h.1 c3
    refine j_iload G 6 dX10_deed_39 rfl ?_
    refine j_bipush G (6 : Int32) dX10_deed_41 (by decide) ?_
    refine j_icmp_ne G 58 dX10_deed_43 (by decide) (fun c4 => ?_) (fun c4 => ?_)
    · have h := h.1 c4
      refine j_aload_n G 1 0 dX10_deed_58 rfl rfl ?_
      refine j_iload_n G 2 1 dX10_deed_59 rfl rfl ?_
      refine j_iload_n G 4 3 dX10_deed_60 rfl rfl ?_
      refine j_iconst G (1 : Int32) dX10_deed_61 (by decide) ?_
      refine j_ci (rn_V G hW (ci := 11) (n := 3) (As := [.int x1, .int x3, .int (1 : Int32)]) (rest := []) (c_X10_of K hW l a0 x1 x3 (1 : Int32) ka0 I J B _ h) ka0 (by decide) rfl ml_X10_54 im_X10_of se_X10_of in_X10 co_X10_of rfl (by decide +kernel) rfl rfl (by decide) (by decide) rfl rfl (Nat.le_of_ble_eq_true rfl) dX10_deed_62) (fun r5 _ h => ?_)
      refine j_istore G [(7, .int r5), (6, .int s0), (0, .ref a0), (1, .int x1), (2, .int x2), (3, .int x3), (4, .int x4), (5, .int x5)] dX10_deed_65 (by decide) rfl ?_
      refine j_aload_n G 2 0 dX10_deed_67 rfl rfl ?_
      refine j_iload_n G 3 1 dX10_deed_68 rfl rfl ?_
      refine j_iload_n G 5 3 dX10_deed_69 rfl rfl ?_
      refine j_iconst G (2 : Int32) dX10_deed_70 (by decide) ?_
      refine j_ci (rn_V G hW (ci := 11) (n := 3) (As := [.int x1, .int x3, .int (2 : Int32)]) (rest := []) (c_X10_of K hW l a0 x1 x3 (2 : Int32) ka0 I J B _ h) ka0 (by decide) rfl ml_X10_54 im_X10_of se_X10_of in_X10 co_X10_of rfl (by decide +kernel) rfl rfl (by decide) (by decide) rfl rfl (Nat.le_of_ble_eq_true rfl) dX10_deed_71) (fun r6 _ h => ?_)
      refine j_istore G [(8, .int r6), (7, .int r5), (6, .int s0), (0, .ref a0), (1, .int x1), (2, .int x2), (3, .int x3), (4, .int x4), (5, .int x5)] dX10_deed_74 (by decide) rfl ?_
      refine j_iload G 8 dX10_deed_76 rfl ?_
      refine j_bipush G (7 : Int32) dX10_deed_78 (by decide) ?_
      refine j_icmp_ne G 203 dX10_deed_80 (by decide) (fun c7 => ?_) (fun c7 => ?_)
      · have h := h.1 c7
        refine j_aload_n G 3 0 dX10_deed_203 rfl rfl ?_
        refine j_iload_n G 4 1 dX10_deed_204 rfl rfl ?_
        refine j_iload G 1 dX10_deed_205 rfl ?_
        refine j_ci (rn_V G hW (ci := 11) (n := 2) (As := [.int x1, .int r5]) (rest := []) (c_X10_isAim K hW l a0 x1 r5 ka0 I J B _ h) ka0 (by decide) rfl ml_X10_70 im_X10_isAim se_X10_isAim in_X10 co_X10_isAim rfl (by decide +kernel) rfl rfl (by decide) (by decide) rfl rfl (Nat.le_of_ble_eq_true rfl) dX10_deed_207) (fun r8 _ h => ?_)
        refine j_if_eq G 248 dX10_deed_210 (by decide) (fun c9 => ?_) (fun c9 => ?_)
        · have h := h.1 c9
          refine j_iload_n G 5 2 dX10_deed_248 rfl rfl ?_
          refine j_iconst G (1 : Int32) dX10_deed_249 (by decide) ?_
          refine j_icmp_ne G 285 dX10_deed_250 (by decide) (fun c10 => ?_) (fun c10 => ?_)
          · have h := h.1 c10
            refine j_iload G 8 dX10_deed_285 rfl ?_
            refine j_iconst G (4 : Int32) dX10_deed_287 (by decide) ?_
            refine j_icmp_ne G 302 dX10_deed_288 (by decide) (fun c11 => ?_) (fun c11 => ?_)
            · have h := h.1 c11
              refine j_iload G 8 dX10_deed_302 rfl ?_
              refine j_iconst G (5 : Int32) dX10_deed_304 (by decide) ?_
              refine j_icmp_ne G 320 dX10_deed_305 (by decide) (fun c12 => ?_) (fun c12 => ?_)
              · have h := h.1 c12
                refine j_iload G 8 dX10_deed_320 rfl ?_
                refine j_if_ne G 329 dX10_deed_322 (by decide) (fun c13 => ?_) (fun c13 => ?_)
                · have h := h.1 c13
                  refine j_aload_n G 3 0 dX10_deed_329 rfl rfl ?_
                  refine j_iload_n G 4 1 dX10_deed_330 rfl rfl ?_
                  refine j_iload G 0 dX10_deed_331 rfl ?_
                  refine j_aload_n G 3 0 dX10_deed_333 rfl rfl ?_
                  refine j_iload_n G 4 1 dX10_deed_334 rfl rfl ?_
                  refine j_iload_n G 6 3 dX10_deed_335 rfl rfl ?_
                  refine j_iconst G (3 : Int32) dX10_deed_336 (by decide) ?_
                  refine j_ci (rn_V G hW (ci := 11) (n := 3) (As := [.int x1, .int x3, .int (3 : Int32)]) (rest := [.int r6, .int x1, .ref a0]) (c_X10_of K hW l a0 x1 x3 (3 : Int32) ka0 I J B _ h) ka0 (by decide) rfl ml_X10_54 im_X10_of se_X10_of in_X10 co_X10_of rfl (by decide +kernel) rfl rfl (by decide) (by decide) rfl rfl (Nat.le_of_ble_eq_true rfl) dX10_deed_337) (fun r14 _ h => ?_)
                  refine j_iload G 7 dX10_deed_340 rfl ?_
                  refine j_ci (rn_V G hW (ci := 11) (n := 4) (As := [.int x1, .int r6, .int r14, .int x4]) (rest := []) (c_X10_send K hW l a0 x1 r6 r14 x4 ka0 I J B _ h) ka0 (by decide) rfl ml_X10_76 im_X10_send se_X10_send in_X10 co_X10_send rfl (by decide +kernel) rfl rfl (by decide) (by decide) rfl rfl (Nat.le_of_ble_eq_true rfl) dX10_deed_342) (fun r15 _ h => ?_)
                  exact j_reti G () rfl dX10_deed_345 h rfl
                · have h := h.2 c13
                  refine j_iconst G (0 : Int32) dX10_deed_325 (by decide) ?_
                  refine j_goto G 345 dX10_deed_326 (by decide) ?_
                  exact j_reti G () rfl dX10_deed_345 h rfl
              · have h := h.2 c12
                refine j_iload G 2 dX10_deed_308 rfl ?_
                refine j_if_eq G 318 dX10_deed_310 (by decide) (fun c16 => ?_) (fun c16 => ?_)
                · have h := h.1 c16
                  refine j_iconst G (0 : Int32) dX10_deed_318 (by decide) ?_
                  exact j_reti G () rfl dX10_deed_319 h rfl
                · have h := h.2 c16
                  refine j_bipush G (7 : Int32) dX10_deed_313 (by decide) ?_
                  refine j_goto G 319 dX10_deed_315 (by decide) ?_
                  exact j_reti G () rfl dX10_deed_319 h rfl
            · have h := h.2 c11
              refine j_iload G 2 dX10_deed_291 rfl ?_
              refine j_if_eq G 300 dX10_deed_293 (by decide) (fun c17 => ?_) (fun c17 => ?_)
              · have h := h.1 c17
                refine j_iconst G (0 : Int32) dX10_deed_300 (by decide) ?_
                exact j_reti G () rfl dX10_deed_301 h rfl
              · have h := h.2 c17
                refine j_iconst G (4 : Int32) dX10_deed_296 (by decide) ?_
                refine j_goto G 301 dX10_deed_297 (by decide) ?_
                exact j_reti G () rfl dX10_deed_301 h rfl
          · have h := h.2 c10
            refine j_iload G 2 dX10_deed_253 rfl ?_
            refine j_if_ne G 262 dX10_deed_255 (by decide) (fun c18 => ?_) (fun c18 => ?_)
            · have h := h.1 c18
              refine j_iload G 8 dX10_deed_262 rfl ?_
              refine j_iconst G (4 : Int32) dX10_deed_264 (by decide) ?_
              refine j_icmp_ne G 272 dX10_deed_265 (by decide) (fun c19 => ?_) (fun c19 => ?_)
              · have h := h.1 c19
                refine j_iload G 8 dX10_deed_272 rfl ?_
                refine j_iconst G (5 : Int32) dX10_deed_274 (by decide) ?_
                refine j_icmp_ne G 283 dX10_deed_275 (by decide) (fun c20 => ?_) (fun c20 => ?_)
                · have h := h.1 c20
                  refine j_iconst G (2 : Int32) dX10_deed_283 (by decide) ?_
                  exact j_reti G () rfl dX10_deed_284 h rfl
                · have h := h.2 c20
                  refine j_bipush G (8 : Int32) dX10_deed_278 (by decide) ?_
                  refine j_goto G 284 dX10_deed_280 (by decide) ?_
                  exact j_reti G () rfl dX10_deed_284 h rfl
              · have h := h.2 c19
                refine j_iconst G (5 : Int32) dX10_deed_268 (by decide) ?_
                refine j_goto G 284 dX10_deed_269 (by decide) ?_
                exact j_reti G () rfl dX10_deed_284 h rfl
            · have h := h.2 c18
              refine j_iconst G (0 : Int32) dX10_deed_258 (by decide) ?_
              refine j_goto G 284 dX10_deed_259 (by decide) ?_
              exact j_reti G () rfl dX10_deed_284 h rfl
        · have h := h.2 c9
          refine j_iload_n G 5 2 dX10_deed_213 rfl rfl ?_
          refine j_iconst G (1 : Int32) dX10_deed_214 (by decide) ?_
          refine j_icmp_eq G 223 dX10_deed_215 (by decide) (fun c21 => ?_) (fun c21 => ?_)
          · have h := h.1 c21
            refine j_iconst G (0 : Int32) dX10_deed_223 (by decide) ?_
            exact j_reti G () rfl dX10_deed_224 h rfl
          · have h := h.2 c21
            refine j_iload G 2 dX10_deed_218 rfl ?_
            refine j_if_ne G 225 dX10_deed_220 (by decide) (fun c22 => ?_) (fun c22 => ?_)
            · have h := h.1 c22
              refine j_iload G 8 dX10_deed_225 rfl ?_
              refine j_iconst G (4 : Int32) dX10_deed_227 (by decide) ?_
              refine j_icmp_ne G 235 dX10_deed_228 (by decide) (fun c23 => ?_) (fun c23 => ?_)
              · have h := h.1 c23
                refine j_iload G 8 dX10_deed_235 rfl ?_
                refine j_iconst G (5 : Int32) dX10_deed_237 (by decide) ?_
                refine j_icmp_ne G 246 dX10_deed_238 (by decide) (fun c24 => ?_) (fun c24 => ?_)
                · have h := h.1 c24
                  refine j_iconst G (2 : Int32) dX10_deed_246 (by decide) ?_
                  exact j_reti G () rfl dX10_deed_247 h rfl
                · have h := h.2 c24
                  refine j_bipush G (6 : Int32) dX10_deed_241 (by decide) ?_
                  refine j_goto G 247 dX10_deed_243 (by decide) ?_
                  exact j_reti G () rfl dX10_deed_247 h rfl
              · have h := h.2 c23
                refine j_iconst G (3 : Int32) dX10_deed_231 (by decide) ?_
                refine j_goto G 247 dX10_deed_232 (by decide) ?_
                exact j_reti G () rfl dX10_deed_247 h rfl
            · have h := h.2 c22
              refine j_iconst G (0 : Int32) dX10_deed_223 (by decide) ?_
              exact j_reti G () rfl dX10_deed_224 h rfl
      · have h := h.2 c7
        refine j_aload_n G 3 0 dX10_deed_83 rfl rfl ?_
        refine j_iload_n G 4 1 dX10_deed_84 rfl rfl ?_
        refine j_iload G 1 dX10_deed_85 rfl ?_
        refine j_ci (rn_V G hW (ci := 11) (n := 2) (As := [.int x1, .int r5]) (rest := []) (c_X10_isAim K hW l a0 x1 r5 ka0 I J B _ h) ka0 (by decide) rfl ml_X10_70 im_X10_isAim se_X10_isAim in_X10 co_X10_isAim rfl (by decide +kernel) rfl rfl (by decide) (by decide) rfl rfl (Nat.le_of_ble_eq_true rfl) dX10_deed_87) (fun r25 _ h => ?_)
        refine j_if_eq G 107 dX10_deed_90 (by decide) (fun c26 => ?_) (fun c26 => ?_)
        · have h := h.1 c26
          refine j_iconst G (0 : Int32) dX10_deed_107 (by decide) ?_
          exact Jg.sub [3, 4, 5, 7, 2, 1, 0] rfl (m_X10_deed_p108 G hW a0 x1 x2 x4 s0 r5 r6 (0 : Int32) ka0 h)
        · have h := h.2 c26
          refine j_aload_n G 3 0 dX10_deed_93 rfl rfl ?_
          refine j_iload_n G 4 1 dX10_deed_94 rfl rfl ?_
          refine j_iload G 0 dX10_deed_95 rfl ?_
          refine j_ci (rn_V G hW (ci := 11) (n := 2) (As := [.int x1, .int r6]) (rest := []) (c_X10_isAim K hW l a0 x1 r6 ka0 I J B _ h) ka0 (by decide) rfl ml_X10_70 im_X10_isAim se_X10_isAim in_X10 co_X10_isAim rfl (by decide +kernel) rfl rfl (by decide) (by decide) rfl rfl (Nat.le_of_ble_eq_true rfl) dX10_deed_97) (fun r37 _ h => ?_)
          refine j_if_eq G 107 dX10_deed_100 (by decide) (fun c38 => ?_) (fun c38 => ?_)
          · have h := h.1 c38
            refine j_iconst G (0 : Int32) dX10_deed_107 (by decide) ?_
            exact Jg.sub [3, 4, 5, 7, 2, 1, 0] rfl (m_X10_deed_p108 G hW a0 x1 x2 x4 s0 r5 r6 (0 : Int32) ka0 h)
          · have h := h.2 c38
            refine j_iconst G (1 : Int32) dX10_deed_103 (by decide) ?_
            refine j_goto G 108 dX10_deed_104 (by decide) ?_
            exact Jg.sub [3, 4, 5, 7, 2, 1, 0] rfl (m_X10_deed_p108 G hW a0 x1 x2 x4 s0 r5 r6 (1 : Int32) ka0 h)
    · have h := h.2 c4
      refine j_iload G 0 dX10_deed_46 rfl ?_
      refine j_if_eq G 56 dX10_deed_48 (by decide) (fun c39 => ?_) (fun c39 => ?_)
      · have h := h.1 c39
        refine j_iconst G (0 : Int32) dX10_deed_56 (by decide) ?_
        exact j_reti G () rfl dX10_deed_57 h rfl
      · have h := h.2 c39
        refine j_bipush G (9 : Int32) dX10_deed_51 (by decide) ?_
        refine j_goto G 57 dX10_deed_53 (by decide) ?_
        exact j_reti G () rfl dX10_deed_57 h rfl
  · have h := h.2 c3
    refine j_iload G 0 dX10_deed_27 rfl ?_
    refine j_if_eq G 37 dX10_deed_29 (by decide) (fun c40 => ?_) (fun c40 => ?_)
    · have h := h.1 c40
      refine j_iconst G (0 : Int32) dX10_deed_37 (by decide) ?_
      exact j_reti G () rfl dX10_deed_38 h rfl
    · have h := h.2 c40
      refine j_bipush G (14 : Int32) dX10_deed_32 (by decide) ?_
      refine j_goto G 38 dX10_deed_34 (by decide) ?_
      exact j_reti G () rfl dX10_deed_38 h rfl
def w_X10_deed (a0 : Nat) (x1 : Int32) (x2 : Int32) (x3 : Int32) (x4 : Int32) (I : MI) (Q : Int32 →  Prop) : Prop :=
(w_X10_opOf a0 x1 x3 I (fun r1 =>
((¬ x4 = 0 → w_X10_deed_p18 a0 x1 x2 x3 x4 r1 (0 : Int32) I Q) ∧
(x4 = 0 → w_X10_deed_p18 a0 x1 x2 x3 x4 r1 (1 : Int32) I Q))))
set_option maxHeartbeats 4000000 in
set_option maxRecDepth 100000 in
theorem c_X10_deed (K : Kx) (hW : WFK K) (l : Launch) (a0 : Nat) (x1 : Int32) (x2 : Int32) (x3 : Int32) (x4 : Int32) (k0 : (kG K a0).1 = 12) (I : MI) (J : MJ) (B : MR) (Q : Int32 →  Prop) (h : w_X10_deed a0 x1 x2 x3 x4 I Q) : Con K l yX10_deed (wsT yX10_deed cX10_deed 10 (some .int)) rm_X10_deed [.ref a0, .int x1, .int x2, .int x3, .int x4] (I, J, B) (va_Qi (S := Unit) (fun r _ => Q r) (fun u t => HP K (I, J, B) t.heap) (AA K)) := by
  refine Con.ofJ RX10 rfl (by decide) (Nat.le_of_ble_eq_true rfl) (fun m H0 w G => ?_)
  unfold w_X10_deed at h
  show Jg K m 10 H0 w 0 [(0, .ref a0), (1, .int x1), (2, .int x2), (3, .int x3), (4, .int x4)] [] (I, J, B)
  refine j_aload_n G 0 0 dX10_deed_0 rfl rfl ?_
  refine j_iload_n G 1 1 dX10_deed_1 rfl rfl ?_
  refine j_iload_n G 3 3 dX10_deed_2 rfl rfl ?_
  refine j_ci (rn_V G hW (ci := 11) (n := 2) (As := [.int x1, .int x3]) (rest := []) (c_X10_opOf K hW l a0 x1 x3 k0 I J B _ h) k0 (by decide) rfl ml_X10_58 im_X10_opOf se_X10_opOf in_X10 co_X10_opOf rfl (by decide +kernel) rfl rfl (by decide) (by decide) rfl rfl (Nat.le_of_ble_eq_true rfl) dX10_deed_3) (fun r1 _ h => ?_)
  refine j_istore G [(5, .int r1), (0, .ref a0), (1, .int x1), (2, .int x2), (3, .int x3), (4, .int x4)] dX10_deed_6 (by decide) rfl ?_
  refine j_iload G 5 dX10_deed_8 rfl ?_
  refine j_if_ne G 17 dX10_deed_10 (by decide) (fun c2 => ?_) (fun c2 => ?_)
  · have h := h.1 c2
    refine j_iconst G (0 : Int32) dX10_deed_17 (by decide) ?_
    exact Jg.sub [1, 2, 3, 4, 5, 0] rfl (m_X10_deed_p18 G hW a0 x1 x2 x3 x4 r1 (0 : Int32) k0 h)
  · have h := h.2 c2
    refine j_iconst G (1 : Int32) dX10_deed_13 (by decide) ?_
    refine j_goto G 18 dX10_deed_14 (by decide) ?_
    exact Jg.sub [1, 2, 3, 4, 5, 0] rfl (m_X10_deed_p18 G hW a0 x1 x2 x3 x4 r1 (1 : Int32) k0 h)
abbrev rm_X10_many : Room := { frames := 4, cells := 0, slots := 0, locals := 97 }
def w_X10_many_l3 (a0 : Nat) (x1 : Int32) (x2 : Int32) (x3 : Int32) (I : MI)  (Q : Int32 →  Prop) (rec : Int32 → Prop) (x4 : Int32) : Prop :=
(w_X10_deed a0 x1 x2 x3 x4 I (fun r1 =>
((r1 ≤ 0 → Q x4) ∧
(¬ r1 ≤ 0 → rec (x4 + 1)))))
set_option maxHeartbeats 4000000 in
set_option maxRecDepth 100000 in
theorem m_X10_many_l3 {K : Kx} {l : Launch} {m : MethodId} {H0 : Heap} {Q : Int32 →  Prop} {w : HW} {I : MI} {J : MJ} {B : MR} (G : Gd l rm_X10_many K m RX10 cX10_many 5 H0 (some .int) (va_Qi (S := Unit) (fun r _ => Q r) (fun u t => HP K (I, J, B) t.heap) (AA K)) w) (hW : WFK K) (a0 : Nat) (x1 : Int32) (x2 : Int32) (x3 : Int32) (x4 : Int32) (ka0 : (kG K a0).1 = 12)    (h : Lp1 (w_X10_many_l3 a0 x1 x2 x3 I Q) x4) : Jg K m 5 H0 w 3 [(0, .ref a0), (1, .int x1), (2, .int x2), (3, .int x3), (4, .int x4)] [] (I, J, B) := by
  obtain ⟨n, h⟩ := h
  refine lpN1_ind (P := (fun (x4 : Int32) => Jg K m 5 H0 w 3 [(0, .ref a0), (1, .int x1), (2, .int x2), (3, .int x3), (4, .int x4)] [] (I, J, B))) (fun rec hrec x4 h => ?_) n x4 h
  unfold w_X10_many_l3 at h
  refine j_aload_n G 0 0 dX10_many_3 rfl rfl ?_
  refine j_iload_n G 1 1 dX10_many_4 rfl rfl ?_
  refine j_iload_n G 2 2 dX10_many_5 rfl rfl ?_
  refine j_iload_n G 3 3 dX10_many_6 rfl rfl ?_
  refine j_iload G 4 dX10_many_7 rfl ?_
  refine j_ci (rn_V G hW (ci := 11) (n := 4) (As := [.int x1, .int x2, .int x3, .int x4]) (rest := []) (c_X10_deed K hW l a0 x1 x2 x3 x4 ka0 I J B _ h) ka0 (by decide) rfl ml_X10_80 im_X10_deed se_X10_deed in_X10 co_X10_deed rfl (by decide +kernel) rfl rfl (by decide) (by decide) rfl rfl (Nat.le_of_ble_eq_true rfl) dX10_many_9) (fun r1 _ h => ?_)
  refine j_if_le G 21 dX10_many_12 (by decide) (fun c2 => ?_) (fun c2 => ?_)
  · have h := h.1 c2
    refine j_iload G 4 dX10_many_21 rfl ?_
    exact j_reti G () rfl dX10_many_23 h rfl
  · have h := h.2 c2
    refine j_iinc G 4 (x4 + 1) [(4, .int (x4 + 1)), (0, .ref a0), (1, .int x1), (2, .int x2), (3, .int x3)] dX10_many_15 rfl rfl (by decide) rfl ?_
    refine j_goto G 3 dX10_many_18 (by decide) ?_
    exact Jg.sub [1, 2, 3, 4, 0] rfl (hrec (x4 + 1) h)
def w_X10_many (a0 : Nat) (x1 : Int32) (x2 : Int32) (x3 : Int32) (I : MI) (Q : Int32 →  Prop) : Prop :=
Lp1 (w_X10_many_l3 a0 x1 x2 x3 I Q) (0 : Int32)
set_option maxHeartbeats 4000000 in
set_option maxRecDepth 100000 in
theorem c_X10_many (K : Kx) (hW : WFK K) (l : Launch) (a0 : Nat) (x1 : Int32) (x2 : Int32) (x3 : Int32) (k0 : (kG K a0).1 = 12) (I : MI) (J : MJ) (B : MR) (Q : Int32 →  Prop) (h : w_X10_many a0 x1 x2 x3 I Q) : Con K l yX10_many (wsT yX10_many cX10_many 5 (some .int)) rm_X10_many [.ref a0, .int x1, .int x2, .int x3] (I, J, B) (va_Qi (S := Unit) (fun r _ => Q r) (fun u t => HP K (I, J, B) t.heap) (AA K)) := by
  refine Con.ofJ RX10 rfl (by decide) (Nat.le_of_ble_eq_true rfl) (fun m H0 w G => ?_)
  unfold w_X10_many at h
  show Jg K m 5 H0 w 0 [(0, .ref a0), (1, .int x1), (2, .int x2), (3, .int x3)] [] (I, J, B)
  refine j_iconst G (0 : Int32) dX10_many_0 (by decide) ?_
  refine j_istore G [(4, .int (0 : Int32)), (0, .ref a0), (1, .int x1), (2, .int x2), (3, .int x3)] dX10_many_1 (by decide) rfl ?_
  refine Jg.sub [1, 2, 3, 4, 0] rfl (m_X10_many_l3 G hW a0 x1 x2 x3 (0 : Int32) k0 h)
abbrev rm_X10_queueAt : Room := { frames := 0, cells := 0, slots := 0, locals := 0 }
def w_X10_queueAt (x0 : Int32) (x1 : Int32)  (Q : Int32 →  Prop) : Prop :=
Q ((x0 + (252 : Int32)) + ((19 : Int32) * x1))
set_option maxHeartbeats 4000000 in
set_option maxRecDepth 100000 in
theorem c_X10_queueAt (K : Kx) (hW : WFK K) (l : Launch) (x0 : Int32) (x1 : Int32)  (I : MI) (J : MJ) (B : MR) (Q : Int32 →  Prop) (h : w_X10_queueAt x0 x1 Q) : Con K l yX10_queueAt (wsT yX10_queueAt cX10_queueAt 2 (some .int)) rm_X10_queueAt [.int x0, .int x1] (I, J, B) (va_Qi (S := Unit) (fun r _ => Q r) (fun u t => HP K (I, J, B) t.heap) (AA K)) := by
  refine Con.ofJ RX10 rfl (by decide) (Nat.le_of_ble_eq_true rfl) (fun m H0 w G => ?_)
  unfold w_X10_queueAt at h
  show Jg K m 2 H0 w 0 [(0, .int x0), (1, .int x1)] [] (I, J, B)
  refine j_iload_n G 0 0 dX10_queueAt_0 rfl rfl ?_
  refine j_sipush G (252 : Int32) dX10_queueAt_1 (by decide) ?_
  refine j_iadd G dX10_queueAt_4 ?_
  refine j_bipush G (19 : Int32) dX10_queueAt_5 (by decide) ?_
  refine j_iload_n G 1 1 dX10_queueAt_7 rfl rfl ?_
  refine j_imul G dX10_queueAt_8 ?_
  refine j_iadd G dX10_queueAt_9 ?_
  exact j_reti G () rfl dX10_queueAt_10 h rfl
abbrev rm_X10_inQueue : Room := { frames := 1, cells := 0, slots := 0, locals := 21 }
def w_X10_inQueue (a0 : Nat) (x1 : Int32) (x2 : Int32) (I : MI) (Q : Int32 →  Prop) : Prop :=
(w_X10_queueAt x1 x2 (fun r2 =>
(vp_in r2 4905 ∧
Q (I (a0 + 1) (ix r2)))))
set_option maxHeartbeats 4000000 in
set_option maxRecDepth 100000 in
theorem c_X10_inQueue (K : Kx) (hW : WFK K) (l : Launch) (a0 : Nat) (x1 : Int32) (x2 : Int32) (k0 : (kG K a0).1 = 12) (I : MI) (J : MJ) (B : MR) (Q : Int32 →  Prop) (h : w_X10_inQueue a0 x1 x2 I Q) : Con K l yX10_inQueue (wsT yX10_inQueue cX10_inQueue 3 (some .int)) rm_X10_inQueue [.ref a0, .int x1, .int x2] (I, J, B) (va_Qi (S := Unit) (fun r _ => Q r) (fun u t => HP K (I, J, B) t.heap) (AA K)) := by
  refine Con.ofJ RX10 rfl (by decide) (Nat.le_of_ble_eq_true rfl) (fun m H0 w G => ?_)
  unfold w_X10_inQueue at h
  show Jg K m 3 H0 w 0 [(0, .ref a0), (1, .int x1), (2, .int x2)] [] (I, J, B)
  refine j_aload_n G 0 0 dX10_inQueue_0 rfl rfl ?_
  have kk1 : kG K (a0 + 1) = (20, 4905) := wk_12_1 hW k0
  refine j_get G hW 11 0 4 (.ref (a0 + 1)) k0 (by decide) rfl (by decide) rfl lay_X10 fl_X10_7 rfl rfl dX10_inQueue_1 ?_
  refine j_iload_n G 1 1 dX10_inQueue_4 rfl rfl ?_
  refine j_iload_n G 2 2 dX10_inQueue_5 rfl rfl ?_
  refine j_ci (rn_S G (n := 2) (As := [.int x1, .int x2]) (rest := [.ref (a0 + 1)]) (c_X10_queueAt K hW l x1 x2 I J B _ h) ml_X10_83 st_X10_queueAt in_X10 co_X10_queueAt (by decide +kernel) rfl rfl (by decide) (by decide) rfl rfl (Nat.le_of_ble_eq_true rfl) dX10_inQueue_6) (fun r2 _ h => ?_)
  obtain ⟨b3, h⟩ := h
  refine j_iald G hW kk1 b3 dX10_inQueue_9 ?_
  exact j_reti G () rfl dX10_inQueue_10 h rfl
abbrev rm_X10_isFull : Room := { frames := 2, cells := 0, slots := 0, locals := 43 }
def w_X10_isFull (a0 : Nat) (x1 : Int32) (x2 : Int32) (I : MI) (Q : Int32 →  Prop) : Prop :=
(w_X10_inQueue a0 x1 x2 I (fun r1 =>
(vp_in ((x1 + (172 : Int32)) + x2) 4905 ∧
((r1 < (I (a0 + 1) (ix ((x1 + (172 : Int32)) + x2))) → Q (0 : Int32)) ∧
(¬ r1 < (I (a0 + 1) (ix ((x1 + (172 : Int32)) + x2))) → Q (1 : Int32))))))
set_option maxHeartbeats 4000000 in
set_option maxRecDepth 100000 in
theorem c_X10_isFull (K : Kx) (hW : WFK K) (l : Launch) (a0 : Nat) (x1 : Int32) (x2 : Int32) (k0 : (kG K a0).1 = 12) (I : MI) (J : MJ) (B : MR) (Q : Int32 →  Prop) (h : w_X10_isFull a0 x1 x2 I Q) : Con K l yX10_isFull (wsT yX10_isFull cX10_isFull 3 (some .boolean)) rm_X10_isFull [.ref a0, .int x1, .int x2] (I, J, B) (va_Qi (S := Unit) (fun r _ => Q r) (fun u t => HP K (I, J, B) t.heap) (AA K)) := by
  refine Con.ofJ RX10 rfl (by decide) (Nat.le_of_ble_eq_true rfl) (fun m H0 w G => ?_)
  unfold w_X10_isFull at h
  show Jg K m 3 H0 w 0 [(0, .ref a0), (1, .int x1), (2, .int x2)] [] (I, J, B)
  refine j_aload_n G 0 0 dX10_isFull_0 rfl rfl ?_
  refine j_iload_n G 1 1 dX10_isFull_1 rfl rfl ?_
  refine j_iload_n G 2 2 dX10_isFull_2 rfl rfl ?_
  refine j_ci (rn_V G hW (ci := 11) (n := 2) (As := [.int x1, .int x2]) (rest := []) (c_X10_inQueue K hW l a0 x1 x2 k0 I J B _ h) k0 (by decide) rfl ml_X10_86 im_X10_inQueue se_X10_inQueue in_X10 co_X10_inQueue rfl (by decide +kernel) rfl rfl (by decide) (by decide) rfl rfl (Nat.le_of_ble_eq_true rfl) dX10_isFull_3) (fun r1 _ h => ?_)
  refine j_aload_n G 0 0 dX10_isFull_6 rfl rfl ?_
  have kk2 : kG K (a0 + 1) = (20, 4905) := wk_12_1 hW k0
  refine j_get G hW 11 0 4 (.ref (a0 + 1)) k0 (by decide) rfl (by decide) rfl lay_X10 fl_X10_7 rfl rfl dX10_isFull_7 ?_
  refine j_iload_n G 1 1 dX10_isFull_10 rfl rfl ?_
  refine j_sipush G (172 : Int32) dX10_isFull_11 (by decide) ?_
  refine j_iadd G dX10_isFull_14 ?_
  refine j_iload_n G 2 2 dX10_isFull_15 rfl rfl ?_
  refine j_iadd G dX10_isFull_16 ?_
  obtain ⟨b3, h⟩ := h
  refine j_iald G hW kk2 b3 dX10_isFull_17 ?_
  refine j_icmp_lt G 25 dX10_isFull_18 (by decide) (fun c4 => ?_) (fun c4 => ?_)
  · have h := h.1 c4
    refine j_iconst G (0 : Int32) dX10_isFull_25 (by decide) ?_
    exact j_reti G () (by decide) dX10_isFull_26 h rfl
  · have h := h.2 c4
    refine j_iconst G (1 : Int32) dX10_isFull_21 (by decide) ?_
    refine j_goto G 26 dX10_isFull_22 (by decide) ?_
    exact j_reti G () (by decide) dX10_isFull_26 h rfl
abbrev rm_X10_pushes : Room := { frames := 2, cells := 0, slots := 0, locals := 43 }
def w_X10_pushes (a0 : Nat) (x1 : Int32) (x2 : Int32) (x3 : Int32) (x4 : Int32) (x5 : Int32) (I : MI) (Q : MI → Prop) : Prop :=
(w_X10_queueAt x1 x2 (fun r1 =>
(w_X10_inQueue a0 x1 x2 I (fun r2 =>
(∀ x6_3, x6_3 = (r1 + (1 : Int32)) + ((3 : Int32) * r2) →
(vp_in x6_3 4905 ∧
(∀ I6, I6 = ui I (a0 + 1) (ix x6_3) x3 →
(vp_in (x6_3 + (1 : Int32)) 4905 ∧
(∀ I8, I8 = ui I6 (a0 + 1) (ix (x6_3 + (1 : Int32))) x4 →
(vp_in (x6_3 + (2 : Int32)) 4905 ∧
(∀ I10, I10 = ui I8 (a0 + 1) (ix (x6_3 + (2 : Int32))) x5 →
(w_X10_queueAt x1 x2 (fun r11 =>
(vp_in r11 4905 ∧
(vp_in r11 4905 ∧
(∀ I14, I14 = ui I10 (a0 + 1) (ix r11) ((I10 (a0 + 1) (ix r11)) + (1 : Int32)) →
Q I14))))))))))))))))
set_option maxHeartbeats 4000000 in
set_option maxRecDepth 100000 in
theorem c_X10_pushes (K : Kx) (hW : WFK K) (l : Launch) (a0 : Nat) (x1 : Int32) (x2 : Int32) (x3 : Int32) (x4 : Int32) (x5 : Int32) (k0 : (kG K a0).1 = 12) (I : MI) (J : MJ) (B : MR) (Q : MI → Prop) (h : w_X10_pushes a0 x1 x2 x3 x4 x5 I Q) : Con K l yX10_pushes (wsT yX10_pushes cX10_pushes 7 none) rm_X10_pushes [.ref a0, .int x1, .int x2, .int x3, .int x4, .int x5] (I, J, B) (va_Qv (S := MI) Q (fun u t => HP K (u, J, B) t.heap) (AA K)) := by
  refine Con.ofJ RX10 rfl (by decide) (Nat.le_of_ble_eq_true rfl) (fun m H0 w G => ?_)
  unfold w_X10_pushes at h
  show Jg K m 7 H0 w 0 [(0, .ref a0), (1, .int x1), (2, .int x2), (3, .int x3), (4, .int x4), (5, .int x5)] [] (I, J, B)
  refine j_iload_n G 1 1 dX10_pushes_0 rfl rfl ?_
  refine j_iload_n G 2 2 dX10_pushes_1 rfl rfl ?_
  refine j_ci (rn_S G (n := 2) (As := [.int x1, .int x2]) (rest := []) (c_X10_queueAt K hW l x1 x2 I J B _ h) ml_X10_83 st_X10_queueAt in_X10 co_X10_queueAt (by decide +kernel) rfl rfl (by decide) (by decide) rfl rfl (Nat.le_of_ble_eq_true rfl) dX10_pushes_2) (fun r1 _ h => ?_)
  refine j_iconst G (1 : Int32) dX10_pushes_5 (by decide) ?_
  refine j_iadd G dX10_pushes_6 ?_
  refine j_iconst G (3 : Int32) dX10_pushes_7 (by decide) ?_
  refine j_aload_n G 0 0 dX10_pushes_8 rfl rfl ?_
  refine j_iload_n G 1 1 dX10_pushes_9 rfl rfl ?_
  refine j_iload_n G 2 2 dX10_pushes_10 rfl rfl ?_
  refine j_ci (rn_V G hW (ci := 11) (n := 2) (As := [.int x1, .int x2]) (rest := [.int (3 : Int32), .int (r1 + (1 : Int32))]) (c_X10_inQueue K hW l a0 x1 x2 k0 I J B _ h) k0 (by decide) rfl ml_X10_86 im_X10_inQueue se_X10_inQueue in_X10 co_X10_inQueue rfl (by decide +kernel) rfl rfl (by decide) (by decide) rfl rfl (Nat.le_of_ble_eq_true rfl) dX10_pushes_11) (fun r2 _ h => ?_)
  refine j_imul G dX10_pushes_14 ?_
  refine j_iadd G dX10_pushes_15 ?_
  refine j_nm (fun x6_3 ex6_3 => ?_)
  have h := h x6_3 ex6_3
  refine j_istore G [(6, .int x6_3), (0, .ref a0), (1, .int x1), (2, .int x2), (3, .int x3), (4, .int x4), (5, .int x5)] dX10_pushes_16 (by decide) rfl ?_
  refine j_aload_n G 1 0 dX10_pushes_18 rfl rfl ?_
  have kk4 : kG K (a0 + 1) = (20, 4905) := wk_12_1 hW k0
  refine j_get G hW 11 0 4 (.ref (a0 + 1)) k0 (by decide) rfl (by decide) rfl lay_X10 fl_X10_7 rfl rfl dX10_pushes_19 ?_
  refine j_iload G 0 dX10_pushes_22 rfl ?_
  refine j_iload_n G 4 3 dX10_pushes_24 rfl rfl ?_
  obtain ⟨b5, h⟩ := h
  refine j_iast G hW kk4 b5 dX10_pushes_25 ?_
  refine j_mI (fun I6 eI6 => ?_)
  have h := h I6 eI6
  refine j_aload_n G 1 0 dX10_pushes_26 rfl rfl ?_
  refine j_get G hW 11 0 4 (.ref (a0 + 1)) k0 (by decide) rfl (by decide) rfl lay_X10 fl_X10_7 rfl rfl dX10_pushes_27 ?_
  refine j_iload G 0 dX10_pushes_30 rfl ?_
  refine j_iconst G (1 : Int32) dX10_pushes_32 (by decide) ?_
  refine j_iadd G dX10_pushes_33 ?_
  refine j_iload G 5 dX10_pushes_34 rfl ?_
  obtain ⟨b7, h⟩ := h
  refine j_iast G hW kk4 b7 dX10_pushes_36 ?_
  refine j_mI (fun I8 eI8 => ?_)
  have h := h I8 eI8
  refine j_aload_n G 1 0 dX10_pushes_37 rfl rfl ?_
  refine j_get G hW 11 0 4 (.ref (a0 + 1)) k0 (by decide) rfl (by decide) rfl lay_X10 fl_X10_7 rfl rfl dX10_pushes_38 ?_
  refine j_iload G 0 dX10_pushes_41 rfl ?_
  refine j_iconst G (2 : Int32) dX10_pushes_43 (by decide) ?_
  refine j_iadd G dX10_pushes_44 ?_
  refine j_iload G 6 dX10_pushes_45 rfl ?_
  obtain ⟨b9, h⟩ := h
  refine j_iast G hW kk4 b9 dX10_pushes_47 ?_
  refine j_mI (fun I10 eI10 => ?_)
  have h := h I10 eI10
  refine j_aload_n G 1 0 dX10_pushes_48 rfl rfl ?_
  refine j_get G hW 11 0 4 (.ref (a0 + 1)) k0 (by decide) rfl (by decide) rfl lay_X10 fl_X10_7 rfl rfl dX10_pushes_49 ?_
  refine j_iload_n G 2 1 dX10_pushes_52 rfl rfl ?_
  refine j_iload_n G 3 2 dX10_pushes_53 rfl rfl ?_
  refine j_ci (rn_S G (n := 2) (As := [.int x1, .int x2]) (rest := [.ref (a0 + 1)]) (c_X10_queueAt K hW l x1 x2 I10 J B _ h) ml_X10_83 st_X10_queueAt in_X10 co_X10_queueAt (by decide +kernel) rfl rfl (by decide) (by decide) rfl rfl (Nat.le_of_ble_eq_true rfl) dX10_pushes_54) (fun r11 _ h => ?_)
  refine j_dup2 G rfl rfl dX10_pushes_57 ?_
  obtain ⟨b12, h⟩ := h
  refine j_iald G hW kk4 b12 dX10_pushes_58 ?_
  refine j_iconst G (1 : Int32) dX10_pushes_59 (by decide) ?_
  refine j_iadd G dX10_pushes_60 ?_
  obtain ⟨b13, h⟩ := h
  refine j_iast G hW kk4 b13 dX10_pushes_61 ?_
  refine j_mI (fun I14 eI14 => ?_)
  have h := h I14 eI14
  exact j_retv G I14 dX10_pushes_62 h rfl
abbrev rm_X10_first : Room := { frames := 1, cells := 0, slots := 0, locals := 21 }
def w_X10_first (a0 : Nat) (x1 : Int32) (x2 : Int32) (x3 : Int32) (I : MI) (Q : Int32 →  Prop) : Prop :=
(w_X10_queueAt x1 x2 (fun r2 =>
(vp_in ((r2 + (1 : Int32)) + x3) 4905 ∧
Q (I (a0 + 1) (ix ((r2 + (1 : Int32)) + x3))))))
set_option maxHeartbeats 4000000 in
set_option maxRecDepth 100000 in
theorem c_X10_first (K : Kx) (hW : WFK K) (l : Launch) (a0 : Nat) (x1 : Int32) (x2 : Int32) (x3 : Int32) (k0 : (kG K a0).1 = 12) (I : MI) (J : MJ) (B : MR) (Q : Int32 →  Prop) (h : w_X10_first a0 x1 x2 x3 I Q) : Con K l yX10_first (wsT yX10_first cX10_first 4 (some .int)) rm_X10_first [.ref a0, .int x1, .int x2, .int x3] (I, J, B) (va_Qi (S := Unit) (fun r _ => Q r) (fun u t => HP K (I, J, B) t.heap) (AA K)) := by
  refine Con.ofJ RX10 rfl (by decide) (Nat.le_of_ble_eq_true rfl) (fun m H0 w G => ?_)
  unfold w_X10_first at h
  show Jg K m 4 H0 w 0 [(0, .ref a0), (1, .int x1), (2, .int x2), (3, .int x3)] [] (I, J, B)
  refine j_aload_n G 0 0 dX10_first_0 rfl rfl ?_
  have kk1 : kG K (a0 + 1) = (20, 4905) := wk_12_1 hW k0
  refine j_get G hW 11 0 4 (.ref (a0 + 1)) k0 (by decide) rfl (by decide) rfl lay_X10 fl_X10_7 rfl rfl dX10_first_1 ?_
  refine j_iload_n G 1 1 dX10_first_4 rfl rfl ?_
  refine j_iload_n G 2 2 dX10_first_5 rfl rfl ?_
  refine j_ci (rn_S G (n := 2) (As := [.int x1, .int x2]) (rest := [.ref (a0 + 1)]) (c_X10_queueAt K hW l x1 x2 I J B _ h) ml_X10_83 st_X10_queueAt in_X10 co_X10_queueAt (by decide +kernel) rfl rfl (by decide) (by decide) rfl rfl (Nat.le_of_ble_eq_true rfl) dX10_first_6) (fun r2 _ h => ?_)
  refine j_iconst G (1 : Int32) dX10_first_9 (by decide) ?_
  refine j_iadd G dX10_first_10 ?_
  refine j_iload_n G 3 3 dX10_first_11 rfl rfl ?_
  refine j_iadd G dX10_first_12 ?_
  obtain ⟨b3, h⟩ := h
  refine j_iald G hW kk1 b3 dX10_first_13 ?_
  exact j_reti G () rfl dX10_first_14 h rfl
abbrev rm_X10_takes : Room := { frames := 2, cells := 0, slots := 0, locals := 44 }
def w_X10_takes_l21 (a0 : Nat) (x3 : Int32) (x4 : Int32)   (Q : Int32 → MI → Prop) (rec : Int32 → MI → Prop) (x5 : Int32) (I : MI) : Prop :=
(((x4 + (16 : Int32)) ≤ x5 → (vp_in x4 4905 ∧
(vp_in x4 4905 ∧
(∀ I8, I8 = ui I (a0 + 1) (ix x4) ((I (a0 + 1) (ix x4)) - (1 : Int32)) →
Q x3 I8)))) ∧
(¬ (x4 + (16 : Int32)) ≤ x5 → (vp_in (x5 + (3 : Int32)) 4905 ∧
(vp_in x5 4905 ∧
(∀ I12, I12 = ui I (a0 + 1) (ix x5) (I (a0 + 1) (ix (x5 + (3 : Int32)))) →
rec (x5 + 1) I12)))))
set_option maxHeartbeats 4000000 in
set_option maxRecDepth 100000 in
theorem m_X10_takes_l21 {K : Kx} {l : Launch} {m : MethodId} {H0 : Heap} {Q : Int32 → MI → Prop} {w : HW} {J : MJ} {B : MR} (G : Gd l rm_X10_takes K m RX10 cX10_takes 6 H0 (some .int) (va_Qi (S := MI) Q (fun u t => HP K (u, J, B) t.heap) (AA K)) w) (hW : WFK K) (a0 : Nat) (x3 : Int32) (x4 : Int32) (x5 : Int32) (ka0 : (kG K a0).1 = 12) (I : MI)   (h : Lp2 (w_X10_takes_l21 a0 x3 x4 Q) x5 I) : Jg K m 6 H0 w 21 [(0, .ref a0), (3, .int x3), (4, .int x4), (5, .int x5)] [] (I, J, B) := by
  obtain ⟨n, h⟩ := h
  refine lpN2_ind (P := (fun (x5 : Int32) (I : MI) => Jg K m 6 H0 w 21 [(0, .ref a0), (3, .int x3), (4, .int x4), (5, .int x5)] [] (I, J, B))) (fun rec hrec x5 I h => ?_) n x5 I h
  unfold w_X10_takes_l21 at h
  refine j_iload G 3 dX10_takes_21 rfl ?_
  refine j_iload G 2 dX10_takes_23 rfl ?_
  refine j_bipush G (16 : Int32) dX10_takes_25 (by decide) ?_
  refine j_iadd G dX10_takes_27 ?_
  refine j_icmp_ge G 53 dX10_takes_28 (by decide) (fun c4 => ?_) (fun c4 => ?_)
  · have h := h.1 c4
    refine j_aload_n G 0 0 dX10_takes_53 rfl rfl ?_
    have kk5 : kG K (a0 + 1) = (20, 4905) := wk_12_1 hW ka0
    refine j_get G hW 11 0 4 (.ref (a0 + 1)) ka0 (by decide) rfl (by decide) rfl lay_X10 fl_X10_7 rfl rfl dX10_takes_54 ?_
    refine j_iload G 2 dX10_takes_57 rfl ?_
    refine j_dup2 G rfl rfl dX10_takes_59 ?_
    obtain ⟨b6, h⟩ := h
    refine j_iald G hW kk5 b6 dX10_takes_60 ?_
    refine j_iconst G (1 : Int32) dX10_takes_61 (by decide) ?_
    refine j_isub G dX10_takes_62 ?_
    obtain ⟨b7, h⟩ := h
    refine j_iast G hW kk5 b7 dX10_takes_63 ?_
    refine j_mI (fun I8 eI8 => ?_)
    have h := h I8 eI8
    refine j_iload_n G 1 3 dX10_takes_64 rfl rfl ?_
    exact j_reti G I8 rfl dX10_takes_65 h rfl
  · have h := h.2 c4
    refine j_aload_n G 0 0 dX10_takes_31 rfl rfl ?_
    have kk9 : kG K (a0 + 1) = (20, 4905) := wk_12_1 hW ka0
    refine j_get G hW 11 0 4 (.ref (a0 + 1)) ka0 (by decide) rfl (by decide) rfl lay_X10 fl_X10_7 rfl rfl dX10_takes_32 ?_
    refine j_iload G 3 dX10_takes_35 rfl ?_
    refine j_aload_n G 0 0 dX10_takes_37 rfl rfl ?_
    refine j_get G hW 11 0 4 (.ref (a0 + 1)) ka0 (by decide) rfl (by decide) rfl lay_X10 fl_X10_7 rfl rfl dX10_takes_38 ?_
    refine j_iload G 3 dX10_takes_41 rfl ?_
    refine j_iconst G (3 : Int32) dX10_takes_43 (by decide) ?_
    refine j_iadd G dX10_takes_44 ?_
    obtain ⟨b10, h⟩ := h
    refine j_iald G hW kk9 b10 dX10_takes_45 ?_
    obtain ⟨b11, h⟩ := h
    refine j_iast G hW kk9 b11 dX10_takes_46 ?_
    refine j_mI (fun I12 eI12 => ?_)
    have h := h I12 eI12
    refine j_iinc G 3 (x5 + 1) [(5, .int (x5 + 1)), (0, .ref a0), (3, .int x3), (4, .int x4)] dX10_takes_47 rfl rfl (by decide) rfl ?_
    refine j_goto G 21 dX10_takes_50 (by decide) ?_
    exact Jg.sub [1, 2, 3, 0] rfl (hrec (x5 + 1) I12 h)
def w_X10_takes (a0 : Nat) (x1 : Int32) (x2 : Int32) (I : MI) (Q : Int32 → MI → Prop) : Prop :=
(w_X10_first a0 x1 x2 (0 : Int32) I (fun r1 =>
(w_X10_queueAt x1 x2 (fun r2 =>
(∀ x5_3, x5_3 = r2 + (1 : Int32) →
Lp2 (w_X10_takes_l21 a0 r1 r2 Q) x5_3 I)))))
set_option maxHeartbeats 4000000 in
set_option maxRecDepth 100000 in
theorem c_X10_takes (K : Kx) (hW : WFK K) (l : Launch) (a0 : Nat) (x1 : Int32) (x2 : Int32) (k0 : (kG K a0).1 = 12) (I : MI) (J : MJ) (B : MR) (Q : Int32 → MI → Prop) (h : w_X10_takes a0 x1 x2 I Q) : Con K l yX10_takes (wsT yX10_takes cX10_takes 6 (some .int)) rm_X10_takes [.ref a0, .int x1, .int x2] (I, J, B) (va_Qi (S := MI) Q (fun u t => HP K (u, J, B) t.heap) (AA K)) := by
  refine Con.ofJ RX10 rfl (by decide) (Nat.le_of_ble_eq_true rfl) (fun m H0 w G => ?_)
  unfold w_X10_takes at h
  show Jg K m 6 H0 w 0 [(0, .ref a0), (1, .int x1), (2, .int x2)] [] (I, J, B)
  refine j_aload_n G 0 0 dX10_takes_0 rfl rfl ?_
  refine j_iload_n G 1 1 dX10_takes_1 rfl rfl ?_
  refine j_iload_n G 2 2 dX10_takes_2 rfl rfl ?_
  refine j_iconst G (0 : Int32) dX10_takes_3 (by decide) ?_
  refine j_ci (rn_V G hW (ci := 11) (n := 3) (As := [.int x1, .int x2, .int (0 : Int32)]) (rest := []) (c_X10_first K hW l a0 x1 x2 (0 : Int32) k0 I J B _ h) k0 (by decide) rfl ml_X10_89 im_X10_first se_X10_first in_X10 co_X10_first rfl (by decide +kernel) rfl rfl (by decide) (by decide) rfl rfl (Nat.le_of_ble_eq_true rfl) dX10_takes_4) (fun r1 _ h => ?_)
  refine j_istore_n G 3 [(3, .int r1), (0, .ref a0), (1, .int x1), (2, .int x2)] dX10_takes_7 rfl (by decide) rfl ?_
  refine j_iload_n G 2 1 dX10_takes_8 rfl rfl ?_
  refine j_iload_n G 3 2 dX10_takes_9 rfl rfl ?_
  refine j_ci (rn_S G (n := 2) (As := [.int x1, .int x2]) (rest := []) (c_X10_queueAt K hW l x1 x2 I J B _ h) ml_X10_83 st_X10_queueAt in_X10 co_X10_queueAt (by decide +kernel) rfl rfl (by decide) (by decide) rfl rfl (Nat.le_of_ble_eq_true rfl) dX10_takes_10) (fun r2 _ h => ?_)
  refine j_istore G [(4, .int r2), (3, .int r1), (0, .ref a0), (1, .int x1), (2, .int x2)] dX10_takes_13 (by decide) rfl ?_
  refine j_iload G 0 dX10_takes_15 rfl ?_
  refine j_iconst G (1 : Int32) dX10_takes_17 (by decide) ?_
  refine j_iadd G dX10_takes_18 ?_
  refine j_nm (fun x5_3 ex5_3 => ?_)
  have h := h x5_3 ex5_3
  refine j_istore G [(5, .int x5_3), (4, .int r2), (3, .int r1), (0, .ref a0), (1, .int x1), (2, .int x2)] dX10_takes_19 (by decide) rfl ?_
  refine Jg.sub [3, 2, 1, 0] rfl (m_X10_takes_l21 G hW a0 r1 r2 x5_3 k0 I h)
abbrev rm_X10_isStored : Room := { frames := 2, cells := 0, slots := 0, locals := 43 }
def w_X10_isStored_l2 (a0 : Nat) (x1 : Int32) (x2 : Int32) (I : MI)  (Q : Int32 →  Prop) (rec : Int32 → Prop) (x3 : Int32) : Prop :=
(w_X10_inQueue a0 x1 (1 : Int32) I (fun r1 =>
((r1 ≤ x3 → Q (0 : Int32)) ∧
(¬ r1 ≤ x3 → (w_X10_queueAt x1 (1 : Int32) (fun r4 =>
(vp_in ((r4 + (1 : Int32)) + ((3 : Int32) * x3)) 4905 ∧
((¬ (I (a0 + 1) (ix ((r4 + (1 : Int32)) + ((3 : Int32) * x3)))) = x2 → rec (x3 + 1)) ∧
((I (a0 + 1) (ix ((r4 + (1 : Int32)) + ((3 : Int32) * x3)))) = x2 → Q (1 : Int32))))))))))
set_option maxHeartbeats 4000000 in
set_option maxRecDepth 100000 in
theorem m_X10_isStored_l2 {K : Kx} {l : Launch} {m : MethodId} {H0 : Heap} {Q : Int32 →  Prop} {w : HW} {I : MI} {J : MJ} {B : MR} (G : Gd l rm_X10_isStored K m RX10 cX10_isStored 4 H0 (some .boolean) (va_Qi (S := Unit) (fun r _ => Q r) (fun u t => HP K (I, J, B) t.heap) (AA K)) w) (hW : WFK K) (a0 : Nat) (x1 : Int32) (x2 : Int32) (x3 : Int32) (ka0 : (kG K a0).1 = 12)    (h : Lp1 (w_X10_isStored_l2 a0 x1 x2 I Q) x3) : Jg K m 4 H0 w 2 [(0, .ref a0), (1, .int x1), (2, .int x2), (3, .int x3)] [] (I, J, B) := by
  obtain ⟨n, h⟩ := h
  refine lpN1_ind (P := (fun (x3 : Int32) => Jg K m 4 H0 w 2 [(0, .ref a0), (1, .int x1), (2, .int x2), (3, .int x3)] [] (I, J, B))) (fun rec hrec x3 h => ?_) n x3 h
  unfold w_X10_isStored_l2 at h
  refine j_iload_n G 3 3 dX10_isStored_2 rfl rfl ?_
  refine j_aload_n G 0 0 dX10_isStored_3 rfl rfl ?_
  refine j_iload_n G 1 1 dX10_isStored_4 rfl rfl ?_
  refine j_iconst G (1 : Int32) dX10_isStored_5 (by decide) ?_
  refine j_ci (rn_V G hW (ci := 11) (n := 2) (As := [.int x1, .int (1 : Int32)]) (rest := [.int x3]) (c_X10_inQueue K hW l a0 x1 (1 : Int32) ka0 I J B _ h) ka0 (by decide) rfl ml_X10_86 im_X10_inQueue se_X10_inQueue in_X10 co_X10_inQueue rfl (by decide +kernel) rfl rfl (by decide) (by decide) rfl rfl (Nat.le_of_ble_eq_true rfl) dX10_isStored_6) (fun r1 _ h => ?_)
  refine j_icmp_ge G 40 dX10_isStored_9 (by decide) (fun c2 => ?_) (fun c2 => ?_)
  · have h := h.1 c2
    refine j_iconst G (0 : Int32) dX10_isStored_40 (by decide) ?_
    exact j_reti G () (by decide) dX10_isStored_41 h rfl
  · have h := h.2 c2
    refine j_aload_n G 0 0 dX10_isStored_12 rfl rfl ?_
    have kk3 : kG K (a0 + 1) = (20, 4905) := wk_12_1 hW ka0
    refine j_get G hW 11 0 4 (.ref (a0 + 1)) ka0 (by decide) rfl (by decide) rfl lay_X10 fl_X10_7 rfl rfl dX10_isStored_13 ?_
    refine j_iload_n G 1 1 dX10_isStored_16 rfl rfl ?_
    refine j_iconst G (1 : Int32) dX10_isStored_17 (by decide) ?_
    refine j_ci (rn_S G (n := 2) (As := [.int x1, .int (1 : Int32)]) (rest := [.ref (a0 + 1)]) (c_X10_queueAt K hW l x1 (1 : Int32) I J B _ h) ml_X10_83 st_X10_queueAt in_X10 co_X10_queueAt (by decide +kernel) rfl rfl (by decide) (by decide) rfl rfl (Nat.le_of_ble_eq_true rfl) dX10_isStored_18) (fun r4 _ h => ?_)
    refine j_iconst G (1 : Int32) dX10_isStored_21 (by decide) ?_
    refine j_iadd G dX10_isStored_22 ?_
    refine j_iconst G (3 : Int32) dX10_isStored_23 (by decide) ?_
    refine j_iload_n G 3 3 dX10_isStored_24 rfl rfl ?_
    refine j_imul G dX10_isStored_25 ?_
    refine j_iadd G dX10_isStored_26 ?_
    obtain ⟨b5, h⟩ := h
    refine j_iald G hW kk3 b5 dX10_isStored_27 ?_
    refine j_iload_n G 2 2 dX10_isStored_28 rfl rfl ?_
    refine j_icmp_ne G 34 dX10_isStored_29 (by decide) (fun c6 => ?_) (fun c6 => ?_)
    · have h := h.1 c6
      refine j_iinc G 3 (x3 + 1) [(3, .int (x3 + 1)), (0, .ref a0), (1, .int x1), (2, .int x2)] dX10_isStored_34 rfl rfl (by decide) rfl ?_
      refine j_goto G 2 dX10_isStored_37 (by decide) ?_
      exact Jg.sub [1, 2, 3, 0] rfl (hrec (x3 + 1) h)
    · have h := h.2 c6
      refine j_iconst G (1 : Int32) dX10_isStored_32 (by decide) ?_
      exact j_reti G () (by decide) dX10_isStored_33 h rfl
def w_X10_isStored (a0 : Nat) (x1 : Int32) (x2 : Int32) (I : MI) (Q : Int32 →  Prop) : Prop :=
Lp1 (w_X10_isStored_l2 a0 x1 x2 I Q) (0 : Int32)
set_option maxHeartbeats 4000000 in
set_option maxRecDepth 100000 in
theorem c_X10_isStored (K : Kx) (hW : WFK K) (l : Launch) (a0 : Nat) (x1 : Int32) (x2 : Int32) (k0 : (kG K a0).1 = 12) (I : MI) (J : MJ) (B : MR) (Q : Int32 →  Prop) (h : w_X10_isStored a0 x1 x2 I Q) : Con K l yX10_isStored (wsT yX10_isStored cX10_isStored 4 (some .boolean)) rm_X10_isStored [.ref a0, .int x1, .int x2] (I, J, B) (va_Qi (S := Unit) (fun r _ => Q r) (fun u t => HP K (I, J, B) t.heap) (AA K)) := by
  refine Con.ofJ RX10 rfl (by decide) (Nat.le_of_ble_eq_true rfl) (fun m H0 w G => ?_)
  unfold w_X10_isStored at h
  show Jg K m 4 H0 w 0 [(0, .ref a0), (1, .int x1), (2, .int x2)] [] (I, J, B)
  refine j_iconst G (0 : Int32) dX10_isStored_0 (by decide) ?_
  refine j_istore_n G 3 [(3, .int (0 : Int32)), (0, .ref a0), (1, .int x1), (2, .int x2)] dX10_isStored_1 rfl (by decide) rfl ?_
  refine Jg.sub [1, 2, 3, 0] rfl (m_X10_isStored_l2 G hW a0 x1 x2 (0 : Int32) k0 h)
abbrev rm_X10_hasCome : Room := { frames := 1, cells := 0, slots := 0, locals := 21 }
def w_X10_hasCome (a0 : Nat) (x1 : Int32) (x2 : Int32) (I : MI) (Q : Int32 →  Prop) : Prop :=
(vp_in (x1 + (170 : Int32)) 4905 ∧
(w_X10_queueAt x1 (0 : Int32) (fun r3 =>
(vp_in ((r3 + (2 : Int32)) + ((3 : Int32) * x2)) 4905 ∧
(vp_in (x1 + (0 : Int32)) 4905 ∧
((((I (a0 + 1) (ix (x1 + (170 : Int32)))) - (I (a0 + 1) (ix ((r3 + (2 : Int32)) + ((3 : Int32) * x2))))) < (I (a0 + 1) (ix (x1 + (0 : Int32)))) → Q (0 : Int32)) ∧
(¬ ((I (a0 + 1) (ix (x1 + (170 : Int32)))) - (I (a0 + 1) (ix ((r3 + (2 : Int32)) + ((3 : Int32) * x2))))) < (I (a0 + 1) (ix (x1 + (0 : Int32)))) → Q (1 : Int32))))))))
set_option maxHeartbeats 4000000 in
set_option maxRecDepth 100000 in
theorem c_X10_hasCome (K : Kx) (hW : WFK K) (l : Launch) (a0 : Nat) (x1 : Int32) (x2 : Int32) (k0 : (kG K a0).1 = 12) (I : MI) (J : MJ) (B : MR) (Q : Int32 →  Prop) (h : w_X10_hasCome a0 x1 x2 I Q) : Con K l yX10_hasCome (wsT yX10_hasCome cX10_hasCome 3 (some .boolean)) rm_X10_hasCome [.ref a0, .int x1, .int x2] (I, J, B) (va_Qi (S := Unit) (fun r _ => Q r) (fun u t => HP K (I, J, B) t.heap) (AA K)) := by
  refine Con.ofJ RX10 rfl (by decide) (Nat.le_of_ble_eq_true rfl) (fun m H0 w G => ?_)
  unfold w_X10_hasCome at h
  show Jg K m 3 H0 w 0 [(0, .ref a0), (1, .int x1), (2, .int x2)] [] (I, J, B)
  refine j_aload_n G 0 0 dX10_hasCome_0 rfl rfl ?_
  have kk1 : kG K (a0 + 1) = (20, 4905) := wk_12_1 hW k0
  refine j_get G hW 11 0 4 (.ref (a0 + 1)) k0 (by decide) rfl (by decide) rfl lay_X10 fl_X10_7 rfl rfl dX10_hasCome_1 ?_
  refine j_iload_n G 1 1 dX10_hasCome_4 rfl rfl ?_
  refine j_sipush G (170 : Int32) dX10_hasCome_5 (by decide) ?_
  refine j_iadd G dX10_hasCome_8 ?_
  obtain ⟨b2, h⟩ := h
  refine j_iald G hW kk1 b2 dX10_hasCome_9 ?_
  refine j_aload_n G 0 0 dX10_hasCome_10 rfl rfl ?_
  refine j_get G hW 11 0 4 (.ref (a0 + 1)) k0 (by decide) rfl (by decide) rfl lay_X10 fl_X10_7 rfl rfl dX10_hasCome_11 ?_
  refine j_iload_n G 1 1 dX10_hasCome_14 rfl rfl ?_
  refine j_iconst G (0 : Int32) dX10_hasCome_15 (by decide) ?_
  refine j_ci (rn_S G (n := 2) (As := [.int x1, .int (0 : Int32)]) (rest := [.ref (a0 + 1), .int (I (a0 + 1) (ix (x1 + (170 : Int32))))]) (c_X10_queueAt K hW l x1 (0 : Int32) I J B _ h) ml_X10_83 st_X10_queueAt in_X10 co_X10_queueAt (by decide +kernel) rfl rfl (by decide) (by decide) rfl rfl (Nat.le_of_ble_eq_true rfl) dX10_hasCome_16) (fun r3 _ h => ?_)
  refine j_iconst G (2 : Int32) dX10_hasCome_19 (by decide) ?_
  refine j_iadd G dX10_hasCome_20 ?_
  refine j_iconst G (3 : Int32) dX10_hasCome_21 (by decide) ?_
  refine j_iload_n G 2 2 dX10_hasCome_22 rfl rfl ?_
  refine j_imul G dX10_hasCome_23 ?_
  refine j_iadd G dX10_hasCome_24 ?_
  obtain ⟨b4, h⟩ := h
  refine j_iald G hW kk1 b4 dX10_hasCome_25 ?_
  refine j_isub G dX10_hasCome_26 ?_
  refine j_aload_n G 0 0 dX10_hasCome_27 rfl rfl ?_
  refine j_get G hW 11 0 4 (.ref (a0 + 1)) k0 (by decide) rfl (by decide) rfl lay_X10 fl_X10_7 rfl rfl dX10_hasCome_28 ?_
  refine j_iload_n G 1 1 dX10_hasCome_31 rfl rfl ?_
  refine j_iconst G (0 : Int32) dX10_hasCome_32 (by decide) ?_
  refine j_iadd G dX10_hasCome_33 ?_
  obtain ⟨b5, h⟩ := h
  refine j_iald G hW kk1 b5 dX10_hasCome_34 ?_
  refine j_icmp_lt G 42 dX10_hasCome_35 (by decide) (fun c6 => ?_) (fun c6 => ?_)
  · have h := h.1 c6
    refine j_iconst G (0 : Int32) dX10_hasCome_42 (by decide) ?_
    exact j_reti G () (by decide) dX10_hasCome_43 h rfl
  · have h := h.2 c6
    refine j_iconst G (1 : Int32) dX10_hasCome_38 (by decide) ?_
    refine j_goto G 43 dX10_hasCome_39 (by decide) ?_
    exact j_reti G () (by decide) dX10_hasCome_43 h rfl
