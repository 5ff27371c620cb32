abbrev rm_X7_isBlank : Room := { frames := 0, cells := 0, slots := 0, locals := 0 }
def w_X7_isBlank (x0 : Int32)  (Q : Int32 →  Prop) : Prop :=
((x0 = (10 : Int32) → Q (1 : Int32)) ∧
(¬ x0 = (10 : Int32) → ((¬ x0 = (32 : Int32) → Q (0 : Int32)) ∧
(x0 = (32 : Int32) → Q (1 : Int32)))))
set_option maxHeartbeats 4000000 in
set_option maxRecDepth 100000 in
theorem c_X7_isBlank (K : Kx) (hW : WFK K) (l : Launch) (x0 : Int32)  (I : MI) (J : MJ) (B : MR) (Q : Int32 →  Prop) (h : w_X7_isBlank x0 Q) : Con K l yX7_isBlank (wsT yX7_isBlank cX7_isBlank 1 (some .boolean)) rm_X7_isBlank [.int x0] (I, J, B) (va_Qi (S := Unit) (fun r _ => Q r) (fun u t => HP K (I, J, B) t.heap) (AA K)) := by
  refine Con.ofJ RX7 rfl (by decide) (Nat.le_of_ble_eq_true rfl) (fun m H0 w G => ?_)
  unfold w_X7_isBlank at h
  show Jg K m 1 H0 w 0 [(0, .int x0)] [] (I, J, B)
  refine j_iload_n G 0 0 dX7_isBlank_0 rfl rfl ?_
  refine j_bipush G (10 : Int32) dX7_isBlank_1 (by decide) ?_
  refine j_icmp_eq G 12 dX7_isBlank_3 (by decide) (fun c1 => ?_) (fun c1 => ?_)
  · have h := h.1 c1
    refine j_iconst G (1 : Int32) dX7_isBlank_12 (by decide) ?_
    refine j_goto G 17 dX7_isBlank_13 (by decide) ?_
    exact j_reti G () (by decide) dX7_isBlank_17 h rfl
  · have h := h.2 c1
    refine j_iload_n G 0 0 dX7_isBlank_6 rfl rfl ?_
    refine j_bipush G (32 : Int32) dX7_isBlank_7 (by decide) ?_
    refine j_icmp_ne G 16 dX7_isBlank_9 (by decide) (fun c2 => ?_) (fun c2 => ?_)
    · have h := h.1 c2
      refine j_iconst G (0 : Int32) dX7_isBlank_16 (by decide) ?_
      exact j_reti G () (by decide) dX7_isBlank_17 h rfl
    · have h := h.2 c2
      refine j_iconst G (1 : Int32) dX7_isBlank_12 (by decide) ?_
      refine j_goto G 17 dX7_isBlank_13 (by decide) ?_
      exact j_reti G () (by decide) dX7_isBlank_17 h rfl
abbrev rm_X7_isLetter : Room := { frames := 0, cells := 0, slots := 0, locals := 0 }
def w_X7_isLetter (x0 : Int32)  (Q : Int32 →  Prop) : Prop :=
((x0 < (97 : Int32) → Q (0 : Int32)) ∧
(¬ x0 < (97 : Int32) → (((122 : Int32) < x0 → Q (0 : Int32)) ∧
(¬ (122 : Int32) < x0 → Q (1 : Int32)))))
set_option maxHeartbeats 4000000 in
set_option maxRecDepth 100000 in
theorem c_X7_isLetter (K : Kx) (hW : WFK K) (l : Launch) (x0 : Int32)  (I : MI) (J : MJ) (B : MR) (Q : Int32 →  Prop) (h : w_X7_isLetter x0 Q) : Con K l yX7_isLetter (wsT yX7_isLetter cX7_isLetter 1 (some .boolean)) rm_X7_isLetter [.int x0] (I, J, B) (va_Qi (S := Unit) (fun r _ => Q r) (fun u t => HP K (I, J, B) t.heap) (AA K)) := by
  refine Con.ofJ RX7 rfl (by decide) (Nat.le_of_ble_eq_true rfl) (fun m H0 w G => ?_)
  unfold w_X7_isLetter at h
  show Jg K m 1 H0 w 0 [(0, .int x0)] [] (I, J, B)
  refine j_iload_n G 0 0 dX7_isLetter_0 rfl rfl ?_
  refine j_bipush G (97 : Int32) dX7_isLetter_1 (by decide) ?_
  refine j_icmp_lt G 16 dX7_isLetter_3 (by decide) (fun c1 => ?_) (fun c1 => ?_)
  · have h := h.1 c1
    refine j_iconst G (0 : Int32) dX7_isLetter_16 (by decide) ?_
    exact j_reti G () (by decide) dX7_isLetter_17 h rfl
  · have h := h.2 c1
    refine j_iload_n G 0 0 dX7_isLetter_6 rfl rfl ?_
    refine j_bipush G (122 : Int32) dX7_isLetter_7 (by decide) ?_
    refine j_icmp_gt G 16 dX7_isLetter_9 (by decide) (fun c2 => ?_) (fun c2 => ?_)
    · have h := h.1 c2
      refine j_iconst G (0 : Int32) dX7_isLetter_16 (by decide) ?_
      exact j_reti G () (by decide) dX7_isLetter_17 h rfl
    · have h := h.2 c2
      refine j_iconst G (1 : Int32) dX7_isLetter_12 (by decide) ?_
      refine j_goto G 17 dX7_isLetter_13 (by decide) ?_
      exact j_reti G () (by decide) dX7_isLetter_17 h rfl
abbrev rm_X7_add : Room := { frames := 0, cells := 0, slots := 0, locals := 0 }
def w_X7_add (a0 : Nat) (x1 : Int32) (x2 : Int32) (x3 : Int32) (x4 : Int32) (I : MI) (Q : MI → Prop) : Prop :=
(((600 : Int32) < (I a0 4) → Q I) ∧
(¬ (600 : Int32) < (I a0 4) → (vp_in (I a0 4) 601 ∧
(∀ I4, I4 = ui I (a0 + 1) (ix (I a0 4)) x1 →
(vp_in (I4 a0 4) 601 ∧
(∀ I7, I7 = ui I4 (a0 + 2) (ix (I4 a0 4)) x2 →
(vp_in (I7 a0 4) 601 ∧
(∀ I10, I10 = ui I7 (a0 + 3) (ix (I7 a0 4)) x3 →
(vp_in (I10 a0 4) 601 ∧
(∀ I13, I13 = ui I10 (a0 + 4) (ix (I10 a0 4)) x4 →
(∀ I14, I14 = ui I13 a0 4 ((I13 a0 4) + (1 : Int32)) →
Q I14)))))))))))
set_option maxHeartbeats 4000000 in
set_option maxRecDepth 100000 in
theorem c_X7_add (K : Kx) (hW : WFK K) (l : Launch) (a0 : Nat) (x1 : Int32) (x2 : Int32) (x3 : Int32) (x4 : Int32) (k0 : (kG K a0).1 = 9) (I : MI) (J : MJ) (B : MR) (Q : MI → Prop) (h : w_X7_add a0 x1 x2 x3 x4 I Q) : Con K l yX7_add (wsT yX7_add cX7_add 5 none) rm_X7_add [.ref a0, .int x1, .int x2, .int x3, .int x4] (I, J, B) (va_Qv (S := MI) Q (fun u t => HP K (u, J, B) t.heap) (AA K)) := by
  refine Con.ofJ RX7 rfl (by decide) (Nat.le_of_ble_eq_true rfl) (fun m H0 w G => ?_)
  unfold w_X7_add at h
  show Jg K m 5 H0 w 0 [(0, .ref a0), (1, .int x1), (2, .int x2), (3, .int x3), (4, .int x4)] [] (I, J, B)
  refine j_aload_n G 0 0 dX7_add_0 rfl rfl ?_
  refine j_get G hW 8 4 0 (.int (I a0 4)) k0 (by decide) rfl (by decide) rfl lay_X7 fl_X7_41 rfl rfl dX7_add_1 ?_
  refine j_sipush G (600 : Int32) dX7_add_4 (by decide) ?_
  refine j_icmp_gt G 61 dX7_add_7 (by decide) (fun c1 => ?_) (fun c1 => ?_)
  · have h := h.1 c1
    exact j_retv G I dX7_add_61 h rfl
  · have h := h.2 c1
    refine j_aload_n G 0 0 dX7_add_10 rfl rfl ?_
    have kk2 : kG K (a0 + 1) = (20, 601) := wk_9_1 hW k0
    refine j_get G hW 8 0 4 (.ref (a0 + 1)) k0 (by decide) rfl (by decide) rfl lay_X7 fl_X7_9 rfl rfl dX7_add_11 ?_
    refine j_aload_n G 0 0 dX7_add_14 rfl rfl ?_
    refine j_get G hW 8 4 0 (.int (I a0 4)) k0 (by decide) rfl (by decide) rfl lay_X7 fl_X7_41 rfl rfl dX7_add_15 ?_
    refine j_iload_n G 1 1 dX7_add_18 rfl rfl ?_
    obtain ⟨b3, h⟩ := h
    refine j_iast G hW kk2 b3 dX7_add_19 ?_
    refine j_mI (fun I4 eI4 => ?_)
    have h := h I4 eI4
    refine j_aload_n G 0 0 dX7_add_20 rfl rfl ?_
    have kk5 : kG K (a0 + 2) = (20, 601) := wk_9_2 hW k0
    refine j_get G hW 8 1 5 (.ref (a0 + 2)) k0 (by decide) rfl (by decide) rfl lay_X7 fl_X7_15 rfl rfl dX7_add_21 ?_
    refine j_aload_n G 0 0 dX7_add_24 rfl rfl ?_
    refine j_get G hW 8 4 0 (.int (I4 a0 4)) k0 (by decide) rfl (by decide) rfl lay_X7 fl_X7_41 rfl rfl dX7_add_25 ?_
    refine j_iload_n G 2 2 dX7_add_28 rfl rfl ?_
    obtain ⟨b6, h⟩ := h
    refine j_iast G hW kk5 b6 dX7_add_29 ?_
    refine j_mI (fun I7 eI7 => ?_)
    have h := h I7 eI7
    refine j_aload_n G 0 0 dX7_add_30 rfl rfl ?_
    have kk8 : kG K (a0 + 3) = (20, 601) := wk_9_3 hW k0
    refine j_get G hW 8 2 6 (.ref (a0 + 3)) k0 (by decide) rfl (by decide) rfl lay_X7 fl_X7_18 rfl rfl dX7_add_31 ?_
    refine j_aload_n G 0 0 dX7_add_34 rfl rfl ?_
    refine j_get G hW 8 4 0 (.int (I7 a0 4)) k0 (by decide) rfl (by decide) rfl lay_X7 fl_X7_41 rfl rfl dX7_add_35 ?_
    refine j_iload_n G 3 3 dX7_add_38 rfl rfl ?_
    obtain ⟨b9, h⟩ := h
    refine j_iast G hW kk8 b9 dX7_add_39 ?_
    refine j_mI (fun I10 eI10 => ?_)
    have h := h I10 eI10
    refine j_aload_n G 0 0 dX7_add_40 rfl rfl ?_
    have kk11 : kG K (a0 + 4) = (20, 601) := wk_9_4 hW k0
    refine j_get G hW 8 3 7 (.ref (a0 + 4)) k0 (by decide) rfl (by decide) rfl lay_X7 fl_X7_21 rfl rfl dX7_add_41 ?_
    refine j_aload_n G 0 0 dX7_add_44 rfl rfl ?_
    refine j_get G hW 8 4 0 (.int (I10 a0 4)) k0 (by decide) rfl (by decide) rfl lay_X7 fl_X7_41 rfl rfl dX7_add_45 ?_
    refine j_iload G 4 dX7_add_48 rfl ?_
    obtain ⟨b12, h⟩ := h
    refine j_iast G hW kk11 b12 dX7_add_50 ?_
    refine j_mI (fun I13 eI13 => ?_)
    have h := h I13 eI13
    refine j_aload_n G 0 0 dX7_add_51 rfl rfl ?_
    refine j_dup G rfl dX7_add_52 ?_
    refine j_get G hW 8 4 0 (.int (I13 a0 4)) k0 (by decide) rfl (by decide) rfl lay_X7 fl_X7_41 rfl rfl dX7_add_53 ?_
    refine j_iconst G (1 : Int32) dX7_add_56 (by decide) ?_
    refine j_iadd G dX7_add_57 ?_
    refine j_put G hW 8 4 tyX7 (tyX7 4) tyX7_ok nmX7 k0 (by decide) rfl (by decide) rfl lay_X7 fl_X7_41 rfl rfl (tyX7_ok 4 (by decide)) rfl rfl dX7_add_58 ?_
    refine j_mI (fun I14 eI14 => ?_)
    have h := h I14 eI14
    exact j_retv G I14 dX7_add_61 h rfl
abbrev rm_X7_isWordAt : Room := { frames := 4, cells := 0, slots := 0, locals := 85 }
def w_X7_isWordAt_l3 (a0 : Nat) (x1 : Int32) (x2 : Int32) (x3 : Int32) (I : MI) (B : MR)  (Q : Int32 →  Prop) (rec : Int32 → Prop) (x4 : Int32) : Prop :=
((x3 ≤ x4 → Q (1 : Int32)) ∧
(¬ x3 ≤ x4 → (vp_in ((x1 + x4) - x2) 99 ∧
((B a0 5) + 101 = a0 ∧
(vp_in x4 600 ∧
(((sC 0 (ix ((x1 + x4) - x2))) = (I (B a0 5) (ix x4)) → rec (x4 + 1)) ∧
(¬ (sC 0 (ix ((x1 + x4) - x2))) = (I (B a0 5) (ix x4)) → Q (0 : Int32))))))))
set_option maxHeartbeats 4000000 in
set_option maxRecDepth 100000 in
theorem m_X7_isWordAt_l3 {K : Kx} {l : Launch} {m : MethodId} {H0 : Heap} {Q : Int32 →  Prop} {w : HW} {I : MI} {J : MJ} {B : MR} (G : Gd l rm_X7_isWordAt K m RX7 cX7_isWordAt 5 H0 (some .boolean) (va_Qi (S := Unit) (fun r _ => Q r) (fun u t => HP K (I, J, B) t.heap) (AA K)) w) (hW : WFK K) (a0 : Nat) (x1 : Int32) (x2 : Int32) (x3 : Int32) (x4 : Int32) (ka0 : (kG K a0).1 = 9)    (h : Lp1 (w_X7_isWordAt_l3 a0 x1 x2 x3 I B Q) x4) : Jg K m 5 H0 w 3 [(0, .ref a0), (1, .int x1), (2, .int x2), (3, .int x3), (4, .int x4)] [] (I, J, B) := by
  obtain ⟨n, h⟩ := h
  refine lpN1_ind (P := (fun (x4 : Int32) => Jg K m 5 H0 w 3 [(0, .ref a0), (1, .int x1), (2, .int x2), (3, .int x3), (4, .int x4)] [] (I, J, B))) (fun rec hrec x4 h => ?_) n x4 h
  unfold w_X7_isWordAt_l3 at h
  refine j_iload G 4 dX7_isWordAt_3 rfl ?_
  refine j_iload_n G 3 3 dX7_isWordAt_5 rfl rfl ?_
  refine j_icmp_ge G 38 dX7_isWordAt_6 (by decide) (fun c1 => ?_) (fun c1 => ?_)
  · have h := h.1 c1
    refine j_iconst G (1 : Int32) dX7_isWordAt_38 (by decide) ?_
    exact j_reti G () (by decide) dX7_isWordAt_39 h rfl
  · have h := h.2 c1
    refine j_ldcS G 0 (by decide) rfl rfl dX7_isWordAt_9 ?_
    refine j_iload_n G 1 1 dX7_isWordAt_11 rfl rfl ?_
    refine j_iload G 4 dX7_isWordAt_12 rfl ?_
    refine j_iadd G dX7_isWordAt_14 ?_
    refine j_iload_n G 2 2 dX7_isWordAt_15 rfl rfl ?_
    refine j_isub G dX7_isWordAt_16 ?_
    obtain ⟨b2, h⟩ := h
    refine j_schar G hW (by decide) b2 ml_X7_85 (by decide) (by decide) (Nat.le_of_ble_eq_true rfl) dX7_isWordAt_17 ?_
    refine j_aload_n G 0 0 dX7_isWordAt_20 rfl rfl ?_
    obtain ⟨q4, h⟩ := h
    have kk3 : kG K (B a0 5) = (21, 600) := wk_tape hW ka0 q4
    refine j_get G hW 8 5 2 (.ref (B a0 5)) ka0 (by decide) rfl (by decide) rfl lay_X7 fl_X7_24 rfl (vr_ne hW kk3) dX7_isWordAt_21 ?_
    refine j_iload G 4 dX7_isWordAt_24 rfl ?_
    obtain ⟨b5, h⟩ := h
    refine j_bald G hW kk3 b5 dX7_isWordAt_26 ?_
    refine j_icmp_eq G 32 dX7_isWordAt_27 (by decide) (fun c6 => ?_) (fun c6 => ?_)
    · have h := h.1 c6
      refine j_iinc G 4 (x4 + 1) [(4, .int (x4 + 1)), (0, .ref a0), (1, .int x1), (2, .int x2), (3, .int x3)] dX7_isWordAt_32 rfl rfl (by decide) rfl ?_
      refine j_goto G 3 dX7_isWordAt_35 (by decide) ?_
      exact Jg.sub [1, 2, 3, 4, 0] rfl (hrec (x4 + 1) h)
    · have h := h.2 c6
      refine j_iconst G (0 : Int32) dX7_isWordAt_30 (by decide) ?_
      exact j_reti G () (by decide) dX7_isWordAt_31 h rfl
def w_X7_isWordAt (a0 : Nat) (x1 : Int32) (x2 : Int32) (x3 : Int32) (I : MI) (B : MR) (Q : Int32 →  Prop) : Prop :=
Lp1 (w_X7_isWordAt_l3 a0 x1 x2 x3 I B Q) x2
set_option maxHeartbeats 4000000 in
set_option maxRecDepth 100000 in
theorem c_X7_isWordAt (K : Kx) (hW : WFK K) (l : Launch) (a0 : Nat) (x1 : Int32) (x2 : Int32) (x3 : Int32) (k0 : (kG K a0).1 = 9) (I : MI) (J : MJ) (B : MR) (Q : Int32 →  Prop) (h : w_X7_isWordAt a0 x1 x2 x3 I B Q) : Con K l yX7_isWordAt (wsT yX7_isWordAt cX7_isWordAt 5 (some .boolean)) rm_X7_isWordAt [.ref a0, .int x1, .int x2, .int x3] (I, J, B) (va_Qi (S := Unit) (fun r _ => Q r) (fun u t => HP K (I, J, B) t.heap) (AA K)) := by
  refine Con.ofJ RX7 rfl (by decide) (Nat.le_of_ble_eq_true rfl) (fun m H0 w G => ?_)
  unfold w_X7_isWordAt at h
  show Jg K m 5 H0 w 0 [(0, .ref a0), (1, .int x1), (2, .int x2), (3, .int x3)] [] (I, J, B)
  refine j_iload_n G 2 2 dX7_isWordAt_0 rfl rfl ?_
  refine j_istore G [(4, .int x2), (0, .ref a0), (1, .int x1), (2, .int x2), (3, .int x3)] dX7_isWordAt_1 (by decide) rfl ?_
  refine Jg.sub [1, 2, 3, 4, 0] rfl (m_X7_isWordAt_l3 G hW a0 x1 x2 x3 x2 k0 h)
abbrev rm_X7_wordNumber : Room := { frames := 5, cells := 0, slots := 0, locals := 109 }
def w_X7_wordNumber_l8 (a0 : Nat) (x1 : Int32) (x2 : Int32) (I : MI) (B : MR)  (Q : Int32 →  Prop) (rec : Int32 → Int32 → Int32 → Prop) (x3 : Int32) (x4 : Int32) (x5 : Int32) : Prop :=
(((99 : Int32) ≤ x5 → Q (-1 : Int32)) ∧
(¬ (99 : Int32) ≤ x5 → (vp_in x5 99 ∧
((¬ (sC 0 (ix x5)) = (32 : Int32) → rec x3 x4 (x5 + 1)) ∧
((sC 0 (ix x5)) = (32 : Int32) → ((¬ (x5 - x4) = (x2 - x1) → (∀ x4_5, x4_5 = x5 + (1 : Int32) →
rec (x3 + 1) x4_5 (x5 + 1))) ∧
((x5 - x4) = (x2 - x1) → (w_X7_isWordAt a0 x4 x1 x2 I B (fun r6 =>
((r6 = 0 → (∀ x4_8, x4_8 = x5 + (1 : Int32) →
rec (x3 + 1) x4_8 (x5 + 1))) ∧
(¬ r6 = 0 → Q x3)))))))))))
set_option maxHeartbeats 4000000 in
set_option maxRecDepth 100000 in
theorem m_X7_wordNumber_l8 {K : Kx} {l : Launch} {m : MethodId} {H0 : Heap} {Q : Int32 →  Prop} {w : HW} {I : MI} {J : MJ} {B : MR} (G : Gd l rm_X7_wordNumber K m RX7 cX7_wordNumber 6 H0 (some .int) (va_Qi (S := Unit) (fun r _ => Q r) (fun u t => HP K (I, J, B) t.heap) (AA K)) w) (hW : WFK K) (a0 : Nat) (x1 : Int32) (x2 : Int32) (x3 : Int32) (x4 : Int32) (x5 : Int32) (ka0 : (kG K a0).1 = 9)    (h : Lp3 (w_X7_wordNumber_l8 a0 x1 x2 I B Q) x3 x4 x5) : Jg K m 6 H0 w 8 [(0, .ref a0), (1, .int x1), (2, .int x2), (3, .int x3), (4, .int x4), (5, .int x5)] [] (I, J, B) := by
  obtain ⟨n, h⟩ := h
  refine lpN3_ind (P := (fun (x3 : Int32) (x4 : Int32) (x5 : Int32) => Jg K m 6 H0 w 8 [(0, .ref a0), (1, .int x1), (2, .int x2), (3, .int x3), (4, .int x4), (5, .int x5)] [] (I, J, B))) (fun rec hrec x3 x4 x5 h => ?_) n x3 x4 x5 h
  unfold w_X7_wordNumber_l8 at h
  refine j_iload G 5 dX7_wordNumber_8 rfl ?_
  refine j_ldcS G 0 (by decide) rfl rfl dX7_wordNumber_10 ?_
  refine j_slen G hW (99 : Int32) (by decide) rfl ml_X7_80 (by decide) (by decide) (Nat.le_of_ble_eq_true rfl) dX7_wordNumber_12 ?_
  refine j_icmp_ge G 69 dX7_wordNumber_15 (by decide) (fun c1 => ?_) (fun c1 => ?_)
  · have h := h.1 c1
    refine j_iconst G (-1 : Int32) dX7_wordNumber_69 (by decide) ?_
    exact j_reti G () rfl dX7_wordNumber_70 h rfl
  · have h := h.2 c1
    refine j_ldcS G 0 (by decide) rfl rfl dX7_wordNumber_18 ?_
    refine j_iload G 5 dX7_wordNumber_20 rfl ?_
    obtain ⟨b2, h⟩ := h
    refine j_schar G hW (by decide) b2 ml_X7_85 (by decide) (by decide) (Nat.le_of_ble_eq_true rfl) dX7_wordNumber_22 ?_
    refine j_bipush G (32 : Int32) dX7_wordNumber_25 (by decide) ?_
    refine j_icmp_ne G 63 dX7_wordNumber_27 (by decide) (fun c3 => ?_) (fun c3 => ?_)
    · have h := h.1 c3
      refine j_iinc G 5 (x5 + 1) [(5, .int (x5 + 1)), (0, .ref a0), (1, .int x1), (2, .int x2), (3, .int x3), (4, .int x4)] dX7_wordNumber_63 rfl rfl (by decide) rfl ?_
      refine j_goto G 8 dX7_wordNumber_66 (by decide) ?_
      exact Jg.sub [1, 2, 3, 4, 5, 0] rfl (hrec x3 x4 (x5 + 1) h)
    · have h := h.2 c3
      refine j_iload G 5 dX7_wordNumber_30 rfl ?_
      refine j_iload G 4 dX7_wordNumber_32 rfl ?_
      refine j_isub G dX7_wordNumber_34 ?_
      refine j_iload_n G 2 2 dX7_wordNumber_35 rfl rfl ?_
      refine j_iload_n G 1 1 dX7_wordNumber_36 rfl rfl ?_
      refine j_isub G dX7_wordNumber_37 ?_
      refine j_icmp_ne G 54 dX7_wordNumber_38 (by decide) (fun c4 => ?_) (fun c4 => ?_)
      · have h := h.1 c4
        refine j_iinc G 3 (x3 + 1) [(3, .int (x3 + 1)), (0, .ref a0), (1, .int x1), (2, .int x2), (4, .int x4), (5, .int x5)] dX7_wordNumber_54 rfl rfl (by decide) rfl ?_
        refine j_iload G 5 dX7_wordNumber_57 rfl ?_
        refine j_iconst G (1 : Int32) dX7_wordNumber_59 (by decide) ?_
        refine j_iadd G dX7_wordNumber_60 ?_
        refine j_nm (fun x4_5 ex4_5 => ?_)
        have h := h x4_5 ex4_5
        refine j_istore G [(4, .int x4_5), (3, .int (x3 + 1)), (0, .ref a0), (1, .int x1), (2, .int x2), (5, .int x5)] dX7_wordNumber_61 (by decide) rfl ?_
        refine j_iinc G 5 (x5 + 1) [(5, .int (x5 + 1)), (4, .int x4_5), (3, .int (x3 + 1)), (0, .ref a0), (1, .int x1), (2, .int x2)] dX7_wordNumber_63 rfl rfl (by decide) rfl ?_
        refine j_goto G 8 dX7_wordNumber_66 (by decide) ?_
        exact Jg.sub [3, 4, 5, 2, 1, 0] rfl (hrec (x3 + 1) x4_5 (x5 + 1) h)
      · have h := h.2 c4
        refine j_aload_n G 0 0 dX7_wordNumber_41 rfl rfl ?_
        refine j_iload G 4 dX7_wordNumber_42 rfl ?_
        refine j_iload_n G 1 1 dX7_wordNumber_44 rfl rfl ?_
        refine j_iload_n G 2 2 dX7_wordNumber_45 rfl rfl ?_
        refine j_ci (rn_V G hW (ci := 8) (n := 3) (As := [.int x4, .int x1, .int x2]) (rest := []) (c_X7_isWordAt K hW l a0 x4 x1 x2 ka0 I J B _ h) ka0 (by decide) rfl ml_X7_89 im_X7_isWordAt se_X7_isWordAt in_X7 co_X7_isWordAt rfl (by decide +kernel) rfl rfl (by decide) (by decide) rfl rfl (Nat.le_of_ble_eq_true rfl) dX7_wordNumber_46) (fun r6 _ h => ?_)
        refine j_if_eq G 54 dX7_wordNumber_49 (by decide) (fun c7 => ?_) (fun c7 => ?_)
        · have h := h.1 c7
          refine j_iinc G 3 (x3 + 1) [(3, .int (x3 + 1)), (0, .ref a0), (1, .int x1), (2, .int x2), (4, .int x4), (5, .int x5)] dX7_wordNumber_54 rfl rfl (by decide) rfl ?_
          refine j_iload G 5 dX7_wordNumber_57 rfl ?_
          refine j_iconst G (1 : Int32) dX7_wordNumber_59 (by decide) ?_
          refine j_iadd G dX7_wordNumber_60 ?_
          refine j_nm (fun x4_8 ex4_8 => ?_)
          have h := h x4_8 ex4_8
          refine j_istore G [(4, .int x4_8), (3, .int (x3 + 1)), (0, .ref a0), (1, .int x1), (2, .int x2), (5, .int x5)] dX7_wordNumber_61 (by decide) rfl ?_
          refine j_iinc G 5 (x5 + 1) [(5, .int (x5 + 1)), (4, .int x4_8), (3, .int (x3 + 1)), (0, .ref a0), (1, .int x1), (2, .int x2)] dX7_wordNumber_63 rfl rfl (by decide) rfl ?_
          refine j_goto G 8 dX7_wordNumber_66 (by decide) ?_
          exact Jg.sub [3, 4, 5, 2, 1, 0] rfl (hrec (x3 + 1) x4_8 (x5 + 1) h)
        · have h := h.2 c7
          refine j_iload_n G 3 3 dX7_wordNumber_52 rfl rfl ?_
          exact j_reti G () rfl dX7_wordNumber_53 h rfl
def w_X7_wordNumber (a0 : Nat) (x1 : Int32) (x2 : Int32) (I : MI) (B : MR) (Q : Int32 →  Prop) : Prop :=
Lp3 (w_X7_wordNumber_l8 a0 x1 x2 I B Q) (0 : Int32) (0 : Int32) (0 : Int32)
set_option maxHeartbeats 4000000 in
set_option maxRecDepth 100000 in
theorem c_X7_wordNumber (K : Kx) (hW : WFK K) (l : Launch) (a0 : Nat) (x1 : Int32) (x2 : Int32) (k0 : (kG K a0).1 = 9) (I : MI) (J : MJ) (B : MR) (Q : Int32 →  Prop) (h : w_X7_wordNumber a0 x1 x2 I B Q) : Con K l yX7_wordNumber (wsT yX7_wordNumber cX7_wordNumber 6 (some .int)) rm_X7_wordNumber [.ref a0, .int x1, .int x2] (I, J, B) (va_Qi (S := Unit) (fun r _ => Q r) (fun u t => HP K (I, J, B) t.heap) (AA K)) := by
  refine Con.ofJ RX7 rfl (by decide) (Nat.le_of_ble_eq_true rfl) (fun m H0 w G => ?_)
  unfold w_X7_wordNumber at h
  show Jg K m 6 H0 w 0 [(0, .ref a0), (1, .int x1), (2, .int x2)] [] (I, J, B)
  refine j_iconst G (0 : Int32) dX7_wordNumber_0 (by decide) ?_
  refine j_istore_n G 3 [(3, .int (0 : Int32)), (0, .ref a0), (1, .int x1), (2, .int x2)] dX7_wordNumber_1 rfl (by decide) rfl ?_
  refine j_iconst G (0 : Int32) dX7_wordNumber_2 (by decide) ?_
  refine j_istore G [(4, .int (0 : Int32)), (3, .int (0 : Int32)), (0, .ref a0), (1, .int x1), (2, .int x2)] dX7_wordNumber_3 (by decide) rfl ?_
  refine j_iconst G (0 : Int32) dX7_wordNumber_5 (by decide) ?_
  refine j_istore G [(5, .int (0 : Int32)), (4, .int (0 : Int32)), (3, .int (0 : Int32)), (0, .ref a0), (1, .int x1), (2, .int x2)] dX7_wordNumber_6 (by decide) rfl ?_
  refine Jg.sub [3, 4, 5, 2, 1, 0] rfl (m_X7_wordNumber_l8 G hW a0 x1 x2 (0 : Int32) (0 : Int32) (0 : Int32) k0 h)
abbrev rm_X7_addLetters : Room := { frames := 6, cells := 0, slots := 0, locals := 134 }
def w_X7_addLetters (a0 : Nat) (x1 : Int32) (x2 : Int32) (I : MI) (B : MR) (Q : MI → Prop) : Prop :=
(((x2 - x1) ≤ (8 : Int32) → ((¬ (x2 - x1) = (1 : Int32) → (w_X7_wordNumber a0 x1 x2 I B (fun r3 =>
((¬ r3 = (-1 : Int32) → (w_X7_add a0 (1 : Int32) r3 x1 x2 I (fun I5 =>
Q I5))) ∧
(r3 = (-1 : Int32) → (w_X7_add a0 (3 : Int32) r3 x1 x2 I (fun I6 =>
Q I6))))))) ∧
((x2 - x1) = (1 : Int32) → ((B a0 5) + 101 = a0 ∧
(vp_in x1 600 ∧
(∀ x3_10, x3_10 = (I (B a0 5) (ix x1)) - (97 : Int32) →
(w_X9_isRegister x3_10 (fun r11 =>
((r11 = 0 → (w_X7_add a0 (0 : Int32) x3_10 x1 x2 I (fun I13 =>
Q I13))) ∧
(¬ r11 = 0 → (w_X7_add a0 (2 : Int32) x3_10 x1 x2 I (fun I14 =>
Q I14)))))))))))) ∧
(¬ (x2 - x1) ≤ (8 : Int32) → (w_X7_add a0 (0 : Int32) (-1 : Int32) x1 x2 I (fun I15 =>
Q I15))))
set_option maxHeartbeats 4000000 in
set_option maxRecDepth 100000 in
theorem c_X7_addLetters (K : Kx) (hW : WFK K) (l : Launch) (a0 : Nat) (x1 : Int32) (x2 : Int32) (k0 : (kG K a0).1 = 9) (I : MI) (J : MJ) (B : MR) (Q : MI → Prop) (h : w_X7_addLetters a0 x1 x2 I B Q) : Con K l yX7_addLetters (wsT yX7_addLetters cX7_addLetters 4 none) rm_X7_addLetters [.ref a0, .int x1, .int x2] (I, J, B) (va_Qv (S := MI) Q (fun u t => HP K (u, J, B) t.heap) (AA K)) := by
  refine Con.ofJ RX7 rfl (by decide) (Nat.le_of_ble_eq_true rfl) (fun m H0 w G => ?_)
  unfold w_X7_addLetters at h
  show Jg K m 4 H0 w 0 [(0, .ref a0), (1, .int x1), (2, .int x2)] [] (I, J, B)
  refine j_iload_n G 2 2 dX7_addLetters_0 rfl rfl ?_
  refine j_iload_n G 1 1 dX7_addLetters_1 rfl rfl ?_
  refine j_isub G dX7_addLetters_2 ?_
  refine j_bipush G (8 : Int32) dX7_addLetters_3 (by decide) ?_
  refine j_icmp_le G 19 dX7_addLetters_5 (by decide) (fun c1 => ?_) (fun c1 => ?_)
  · have h := h.1 c1
    refine j_iload_n G 2 2 dX7_addLetters_19 rfl rfl ?_
    refine j_iload_n G 1 1 dX7_addLetters_20 rfl rfl ?_
    refine j_isub G dX7_addLetters_21 ?_
    refine j_iconst G (1 : Int32) dX7_addLetters_22 (by decide) ?_
    refine j_icmp_ne G 58 dX7_addLetters_23 (by decide) (fun c2 => ?_) (fun c2 => ?_)
    · have h := h.1 c2
      refine j_aload_n G 0 0 dX7_addLetters_58 rfl rfl ?_
      refine j_iload_n G 1 1 dX7_addLetters_59 rfl rfl ?_
      refine j_iload_n G 2 2 dX7_addLetters_60 rfl rfl ?_
      refine j_ci (rn_V G hW (ci := 8) (n := 2) (As := [.int x1, .int x2]) (rest := []) (c_X7_wordNumber K hW l a0 x1 x2 k0 I J B _ h) k0 (by decide) rfl ml_X7_75 im_X7_wordNumber se_X7_wordNumber in_X7 co_X7_wordNumber rfl (by decide +kernel) rfl rfl (by decide) (by decide) rfl rfl (Nat.le_of_ble_eq_true rfl) dX7_addLetters_61) (fun r3 _ h => ?_)
      refine j_istore_n G 3 [(3, .int r3), (0, .ref a0), (1, .int x1), (2, .int x2)] dX7_addLetters_64 rfl (by decide) rfl ?_
      refine j_aload_n G 1 0 dX7_addLetters_65 rfl rfl ?_
      refine j_iload_n G 0 3 dX7_addLetters_66 rfl rfl ?_
      refine j_iconst G (-1 : Int32) dX7_addLetters_67 (by decide) ?_
      refine j_icmp_ne G 75 dX7_addLetters_68 (by decide) (fun c4 => ?_) (fun c4 => ?_)
      · have h := h.1 c4
        refine j_iconst G (1 : Int32) dX7_addLetters_75 (by decide) ?_
        refine j_iload_n G 0 3 dX7_addLetters_76 rfl rfl ?_
        refine j_iload_n G 2 1 dX7_addLetters_77 rfl rfl ?_
        refine j_iload_n G 3 2 dX7_addLetters_78 rfl rfl ?_
        refine j_cv (rn_V G hW (ci := 8) (n := 4) (As := [.int (1 : Int32), .int r3, .int x1, .int x2]) (rest := []) (c_X7_add K hW l a0 (1 : Int32) r3 x1 x2 k0 I J B _ h) k0 (by decide) rfl ml_X7_52 im_X7_add se_X7_add in_X7 co_X7_add rfl (by decide +kernel) rfl rfl (by decide) (by decide) rfl rfl (Nat.le_of_ble_eq_true rfl) dX7_addLetters_79) (fun I5 h => ?_)
        exact j_retv G I5 dX7_addLetters_82 h rfl
      · have h := h.2 c4
        refine j_iconst G (3 : Int32) dX7_addLetters_71 (by decide) ?_
        refine j_goto G 76 dX7_addLetters_72 (by decide) ?_
        refine j_iload_n G 0 3 dX7_addLetters_76 rfl rfl ?_
        refine j_iload_n G 2 1 dX7_addLetters_77 rfl rfl ?_
        refine j_iload_n G 3 2 dX7_addLetters_78 rfl rfl ?_
        refine j_cv (rn_V G hW (ci := 8) (n := 4) (As := [.int (3 : Int32), .int r3, .int x1, .int x2]) (rest := []) (c_X7_add K hW l a0 (3 : Int32) r3 x1 x2 k0 I J B _ h) k0 (by decide) rfl ml_X7_52 im_X7_add se_X7_add in_X7 co_X7_add rfl (by decide +kernel) rfl rfl (by decide) (by decide) rfl rfl (Nat.le_of_ble_eq_true rfl) dX7_addLetters_79) (fun I6 h => ?_)
        exact j_retv G I6 dX7_addLetters_82 h rfl
    · have h := h.2 c2
      refine j_aload_n G 0 0 dX7_addLetters_26 rfl rfl ?_
      obtain ⟨q8, h⟩ := h
      have kk7 : kG K (B a0 5) = (21, 600) := wk_tape hW k0 q8
      refine j_get G hW 8 5 2 (.ref (B a0 5)) k0 (by decide) rfl (by decide) rfl lay_X7 fl_X7_24 rfl (vr_ne hW kk7) dX7_addLetters_27 ?_
      refine j_iload_n G 1 1 dX7_addLetters_30 rfl rfl ?_
      obtain ⟨b9, h⟩ := h
      refine j_bald G hW kk7 b9 dX7_addLetters_31 ?_
      refine j_bipush G (97 : Int32) dX7_addLetters_32 (by decide) ?_
      refine j_isub G dX7_addLetters_34 ?_
      refine j_nm (fun x3_10 ex3_10 => ?_)
      have h := h x3_10 ex3_10
      refine j_istore_n G 3 [(3, .int x3_10), (0, .ref a0), (1, .int x1), (2, .int x2)] dX7_addLetters_35 rfl (by decide) rfl ?_
      refine j_aload_n G 1 0 dX7_addLetters_36 rfl rfl ?_
      refine j_iload_n G 0 3 dX7_addLetters_37 rfl rfl ?_
      refine j_ci (rn_N G (n := 1) (As := [.int x3_10]) (rest := [.ref a0]) (c_X9_isRegister K hW l x3_10 I J B _ h) (List.mem_of_getElem? (i := 4) rfl) st_X9_isRegister in_X9 co_X9_isRegister (by decide +kernel) rfl rfl (by decide) (by decide) rfl rfl (Nat.le_of_ble_eq_true rfl) dX7_addLetters_38) (fun r11 _ h => ?_)
      refine j_if_eq G 48 dX7_addLetters_41 (by decide) (fun c12 => ?_) (fun c12 => ?_)
      · have h := h.1 c12
        refine j_iconst G (0 : Int32) dX7_addLetters_48 (by decide) ?_
        refine j_iload_n G 0 3 dX7_addLetters_49 rfl rfl ?_
        refine j_iload_n G 2 1 dX7_addLetters_50 rfl rfl ?_
        refine j_iload_n G 3 2 dX7_addLetters_51 rfl rfl ?_
        refine j_cv (rn_V G hW (ci := 8) (n := 4) (As := [.int (0 : Int32), .int x3_10, .int x1, .int x2]) (rest := []) (c_X7_add K hW l a0 (0 : Int32) x3_10 x1 x2 k0 I J B _ h) k0 (by decide) rfl ml_X7_52 im_X7_add se_X7_add in_X7 co_X7_add rfl (by decide +kernel) rfl rfl (by decide) (by decide) rfl rfl (Nat.le_of_ble_eq_true rfl) dX7_addLetters_52) (fun I13 h => ?_)
        refine j_goto G 82 dX7_addLetters_55 (by decide) ?_
        exact j_retv G I13 dX7_addLetters_82 h rfl
      · have h := h.2 c12
        refine j_iconst G (2 : Int32) dX7_addLetters_44 (by decide) ?_
        refine j_goto G 49 dX7_addLetters_45 (by decide) ?_
        refine j_iload_n G 0 3 dX7_addLetters_49 rfl rfl ?_
        refine j_iload_n G 2 1 dX7_addLetters_50 rfl rfl ?_
        refine j_iload_n G 3 2 dX7_addLetters_51 rfl rfl ?_
        refine j_cv (rn_V G hW (ci := 8) (n := 4) (As := [.int (2 : Int32), .int x3_10, .int x1, .int x2]) (rest := []) (c_X7_add K hW l a0 (2 : Int32) x3_10 x1 x2 k0 I J B _ h) k0 (by decide) rfl ml_X7_52 im_X7_add se_X7_add in_X7 co_X7_add rfl (by decide +kernel) rfl rfl (by decide) (by decide) rfl rfl (Nat.le_of_ble_eq_true rfl) dX7_addLetters_52) (fun I14 h => ?_)
        refine j_goto G 82 dX7_addLetters_55 (by decide) ?_
        exact j_retv G I14 dX7_addLetters_82 h rfl
  · have h := h.2 c1
    refine j_aload_n G 0 0 dX7_addLetters_8 rfl rfl ?_
    refine j_iconst G (0 : Int32) dX7_addLetters_9 (by decide) ?_
    refine j_iconst G (-1 : Int32) dX7_addLetters_10 (by decide) ?_
    refine j_iload_n G 1 1 dX7_addLetters_11 rfl rfl ?_
    refine j_iload_n G 2 2 dX7_addLetters_12 rfl rfl ?_
    refine j_cv (rn_V G hW (ci := 8) (n := 4) (As := [.int (0 : Int32), .int (-1 : Int32), .int x1, .int x2]) (rest := []) (c_X7_add K hW l a0 (0 : Int32) (-1 : Int32) x1 x2 k0 I J B _ h) k0 (by decide) rfl ml_X7_52 im_X7_add se_X7_add in_X7 co_X7_add rfl (by decide +kernel) rfl rfl (by decide) (by decide) rfl rfl (Nat.le_of_ble_eq_true rfl) dX7_addLetters_13) (fun I15 h => ?_)
    refine j_goto G 82 dX7_addLetters_16 (by decide) ?_
    exact j_retv G I15 dX7_addLetters_82 h rfl
abbrev rm_X7_isDigit : Room := { frames := 0, cells := 0, slots := 0, locals := 0 }
def w_X7_isDigit (x0 : Int32)  (Q : Int32 →  Prop) : Prop :=
((x0 < (48 : Int32) → Q (0 : Int32)) ∧
(¬ x0 < (48 : Int32) → (((57 : Int32) < x0 → Q (0 : Int32)) ∧
(¬ (57 : Int32) < x0 → Q (1 : Int32)))))
set_option maxHeartbeats 4000000 in
set_option maxRecDepth 100000 in
theorem c_X7_isDigit (K : Kx) (hW : WFK K) (l : Launch) (x0 : Int32)  (I : MI) (J : MJ) (B : MR) (Q : Int32 →  Prop) (h : w_X7_isDigit x0 Q) : Con K l yX7_isDigit (wsT yX7_isDigit cX7_isDigit 1 (some .boolean)) rm_X7_isDigit [.int x0] (I, J, B) (va_Qi (S := Unit) (fun r _ => Q r) (fun u t => HP K (I, J, B) t.heap) (AA K)) := by
  refine Con.ofJ RX7 rfl (by decide) (Nat.le_of_ble_eq_true rfl) (fun m H0 w G => ?_)
  unfold w_X7_isDigit at h
  show Jg K m 1 H0 w 0 [(0, .int x0)] [] (I, J, B)
  refine j_iload_n G 0 0 dX7_isDigit_0 rfl rfl ?_
  refine j_bipush G (48 : Int32) dX7_isDigit_1 (by decide) ?_
  refine j_icmp_lt G 16 dX7_isDigit_3 (by decide) (fun c1 => ?_) (fun c1 => ?_)
  · have h := h.1 c1
    refine j_iconst G (0 : Int32) dX7_isDigit_16 (by decide) ?_
    exact j_reti G () (by decide) dX7_isDigit_17 h rfl
  · have h := h.2 c1
    refine j_iload_n G 0 0 dX7_isDigit_6 rfl rfl ?_
    refine j_bipush G (57 : Int32) dX7_isDigit_7 (by decide) ?_
    refine j_icmp_gt G 16 dX7_isDigit_9 (by decide) (fun c2 => ?_) (fun c2 => ?_)
    · have h := h.1 c2
      refine j_iconst G (0 : Int32) dX7_isDigit_16 (by decide) ?_
      exact j_reti G () (by decide) dX7_isDigit_17 h rfl
    · have h := h.2 c2
      refine j_iconst G (1 : Int32) dX7_isDigit_12 (by decide) ?_
      refine j_goto G 17 dX7_isDigit_13 (by decide) ?_
      exact j_reti G () (by decide) dX7_isDigit_17 h rfl
abbrev rm_X7_addDigits : Room := { frames := 1, cells := 0, slots := 0, locals := 24 }
def w_X7_addDigits_l21 (a0 : Nat) (x1 : Int32) (x2 : Int32) (I : MI) (B : MR)  (Q : MI → Prop) (rec : Int32 → Int32 → Prop) (x3 : Int32) (x4 : Int32) : Prop :=
((x2 ≤ x4 → (w_X7_add a0 (4 : Int32) x3 x1 x2 I (fun I3 =>
Q I3))) ∧
(¬ x2 ≤ x4 → ((B a0 5) + 101 = a0 ∧
(vp_in x4 600 ∧
(∀ x3_7, x3_7 = ((x3 * (10 : Int32)) + (I (B a0 5) (ix x4))) - (48 : Int32) →
rec x3_7 (x4 + 1))))))
set_option maxHeartbeats 4000000 in
set_option maxRecDepth 100000 in
theorem m_X7_addDigits_l21 {K : Kx} {l : Launch} {m : MethodId} {H0 : Heap} {Q : MI → Prop} {w : HW} {J : MJ} {B : MR} (G : Gd l rm_X7_addDigits K m RX7 cX7_addDigits 5 H0 none (va_Qv (S := MI) Q (fun u t => HP K (u, J, B) t.heap) (AA K)) w) (hW : WFK K) (a0 : Nat) (x1 : Int32) (x2 : Int32) (x3 : Int32) (x4 : Int32) (ka0 : (kG K a0).1 = 9) (I : MI)   (h : Lp2 (w_X7_addDigits_l21 a0 x1 x2 I B Q) x3 x4) : Jg K m 5 H0 w 21 [(0, .ref a0), (1, .int x1), (2, .int x2), (3, .int x3), (4, .int x4)] [] (I, J, B) := by
  obtain ⟨n, h⟩ := h
  refine lpN2_ind (P := (fun (x3 : Int32) (x4 : Int32) => Jg K m 5 H0 w 21 [(0, .ref a0), (1, .int x1), (2, .int x2), (3, .int x3), (4, .int x4)] [] (I, J, B))) (fun rec hrec x3 x4 h => ?_) n x3 x4 h
  unfold w_X7_addDigits_l21 at h
  refine j_iload G 4 dX7_addDigits_21 rfl ?_
  refine j_iload_n G 2 2 dX7_addDigits_23 rfl rfl ?_
  refine j_icmp_ge G 49 dX7_addDigits_24 (by decide) (fun c2 => ?_) (fun c2 => ?_)
  · have h := h.1 c2
    refine j_aload_n G 0 0 dX7_addDigits_49 rfl rfl ?_
    refine j_iconst G (4 : Int32) dX7_addDigits_50 (by decide) ?_
    refine j_iload_n G 3 3 dX7_addDigits_51 rfl rfl ?_
    refine j_iload_n G 1 1 dX7_addDigits_52 rfl rfl ?_
    refine j_iload_n G 2 2 dX7_addDigits_53 rfl rfl ?_
    refine j_cv (rn_V G hW (ci := 8) (n := 4) (As := [.int (4 : Int32), .int x3, .int x1, .int x2]) (rest := []) (c_X7_add K hW l a0 (4 : Int32) x3 x1 x2 ka0 I J B _ h) ka0 (by decide) rfl ml_X7_52 im_X7_add se_X7_add in_X7 co_X7_add rfl (by decide +kernel) rfl rfl (by decide) (by decide) rfl rfl (Nat.le_of_ble_eq_true rfl) dX7_addDigits_54) (fun I3 h => ?_)
    exact j_retv G I3 dX7_addDigits_57 h rfl
  · have h := h.2 c2
    refine j_iload_n G 3 3 dX7_addDigits_27 rfl rfl ?_
    refine j_bipush G (10 : Int32) dX7_addDigits_28 (by decide) ?_
    refine j_imul G dX7_addDigits_30 ?_
    refine j_aload_n G 0 0 dX7_addDigits_31 rfl rfl ?_
    obtain ⟨q5, h⟩ := h
    have kk4 : kG K (B a0 5) = (21, 600) := wk_tape hW ka0 q5
    refine j_get G hW 8 5 2 (.ref (B a0 5)) ka0 (by decide) rfl (by decide) rfl lay_X7 fl_X7_24 rfl (vr_ne hW kk4) dX7_addDigits_32 ?_
    refine j_iload G 4 dX7_addDigits_35 rfl ?_
    obtain ⟨b6, h⟩ := h
    refine j_bald G hW kk4 b6 dX7_addDigits_37 ?_
    refine j_iadd G dX7_addDigits_38 ?_
    refine j_bipush G (48 : Int32) dX7_addDigits_39 (by decide) ?_
    refine j_isub G dX7_addDigits_41 ?_
    refine j_nm (fun x3_7 ex3_7 => ?_)
    have h := h x3_7 ex3_7
    refine j_istore_n G 3 [(3, .int x3_7), (0, .ref a0), (1, .int x1), (2, .int x2), (4, .int x4)] dX7_addDigits_42 rfl (by decide) rfl ?_
    refine j_iinc G 4 (x4 + 1) [(4, .int (x4 + 1)), (3, .int x3_7), (0, .ref a0), (1, .int x1), (2, .int x2)] dX7_addDigits_43 rfl rfl (by decide) rfl ?_
    refine j_goto G 21 dX7_addDigits_46 (by decide) ?_
    exact Jg.sub [2, 3, 4, 1, 0] rfl (hrec x3_7 (x4 + 1) h)
def w_X7_addDigits (a0 : Nat) (x1 : Int32) (x2 : Int32) (I : MI) (B : MR) (Q : MI → Prop) : Prop :=
(((x2 - x1) ≤ (3 : Int32) → Lp2 (w_X7_addDigits_l21 a0 x1 x2 I B Q) (0 : Int32) x1) ∧
(¬ (x2 - x1) ≤ (3 : Int32) → (w_X7_add a0 (0 : Int32) (-1 : Int32) x1 x2 I (fun I8 =>
Q I8))))
set_option maxHeartbeats 4000000 in
set_option maxRecDepth 100000 in
theorem c_X7_addDigits (K : Kx) (hW : WFK K) (l : Launch) (a0 : Nat) (x1 : Int32) (x2 : Int32) (k0 : (kG K a0).1 = 9) (I : MI) (J : MJ) (B : MR) (Q : MI → Prop) (h : w_X7_addDigits a0 x1 x2 I B Q) : Con K l yX7_addDigits (wsT yX7_addDigits cX7_addDigits 5 none) rm_X7_addDigits [.ref a0, .int x1, .int x2] (I, J, B) (va_Qv (S := MI) Q (fun u t => HP K (u, J, B) t.heap) (AA K)) := by
  refine Con.ofJ RX7 rfl (by decide) (Nat.le_of_ble_eq_true rfl) (fun m H0 w G => ?_)
  unfold w_X7_addDigits at h
  show Jg K m 5 H0 w 0 [(0, .ref a0), (1, .int x1), (2, .int x2)] [] (I, J, B)
  refine j_iload_n G 2 2 dX7_addDigits_0 rfl rfl ?_
  refine j_iload_n G 1 1 dX7_addDigits_1 rfl rfl ?_
  refine j_isub G dX7_addDigits_2 ?_
  refine j_iconst G (3 : Int32) dX7_addDigits_3 (by decide) ?_
  refine j_icmp_le G 16 dX7_addDigits_4 (by decide) (fun c1 => ?_) (fun c1 => ?_)
  · have h := h.1 c1
    refine j_iconst G (0 : Int32) dX7_addDigits_16 (by decide) ?_
    refine j_istore_n G 3 [(3, .int (0 : Int32)), (0, .ref a0), (1, .int x1), (2, .int x2)] dX7_addDigits_17 rfl (by decide) rfl ?_
    refine j_iload_n G 2 1 dX7_addDigits_18 rfl rfl ?_
    refine j_istore G [(4, .int x1), (3, .int (0 : Int32)), (0, .ref a0), (1, .int x1), (2, .int x2)] dX7_addDigits_19 (by decide) rfl ?_
    refine Jg.sub [2, 3, 4, 1, 0] rfl (m_X7_addDigits_l21 G hW a0 x1 x2 (0 : Int32) x1 k0 I h)
  · have h := h.2 c1
    refine j_aload_n G 0 0 dX7_addDigits_7 rfl rfl ?_
    refine j_iconst G (0 : Int32) dX7_addDigits_8 (by decide) ?_
    refine j_iconst G (-1 : Int32) dX7_addDigits_9 (by decide) ?_
    refine j_iload_n G 1 1 dX7_addDigits_10 rfl rfl ?_
    refine j_iload_n G 2 2 dX7_addDigits_11 rfl rfl ?_
    refine j_cv (rn_V G hW (ci := 8) (n := 4) (As := [.int (0 : Int32), .int (-1 : Int32), .int x1, .int x2]) (rest := []) (c_X7_add K hW l a0 (0 : Int32) (-1 : Int32) x1 x2 k0 I J B _ h) k0 (by decide) rfl ml_X7_52 im_X7_add se_X7_add in_X7 co_X7_add rfl (by decide +kernel) rfl rfl (by decide) (by decide) rfl rfl (Nat.le_of_ble_eq_true rfl) dX7_addDigits_12) (fun I8 h => ?_)
    exact j_retv G I8 dX7_addDigits_15 h rfl
abbrev rm_X7_isSign : Room := { frames := 0, cells := 0, slots := 0, locals := 0 }
def w_X7_isSign (x0 : Int32)  (Q : Int32 →  Prop) : Prop :=
((x0 = (59 : Int32) → Q (1 : Int32)) ∧
(¬ x0 = (59 : Int32) → ((x0 = (58 : Int32) → Q (1 : Int32)) ∧
(¬ x0 = (58 : Int32) → ((x0 = (60 : Int32) → Q (1 : Int32)) ∧
(¬ x0 = (60 : Int32) → ((x0 = (61 : Int32) → Q (1 : Int32)) ∧
(¬ x0 = (61 : Int32) → ((¬ x0 = (62 : Int32) → Q (0 : Int32)) ∧
(x0 = (62 : Int32) → Q (1 : Int32)))))))))))
set_option maxHeartbeats 4000000 in
set_option maxRecDepth 100000 in
theorem c_X7_isSign (K : Kx) (hW : WFK K) (l : Launch) (x0 : Int32)  (I : MI) (J : MJ) (B : MR) (Q : Int32 →  Prop) (h : w_X7_isSign x0 Q) : Con K l yX7_isSign (wsT yX7_isSign cX7_isSign 1 (some .boolean)) rm_X7_isSign [.int x0] (I, J, B) (va_Qi (S := Unit) (fun r _ => Q r) (fun u t => HP K (I, J, B) t.heap) (AA K)) := by
  refine Con.ofJ RX7 rfl (by decide) (Nat.le_of_ble_eq_true rfl) (fun m H0 w G => ?_)
  unfold w_X7_isSign at h
  show Jg K m 1 H0 w 0 [(0, .int x0)] [] (I, J, B)
  refine j_iload_n G 0 0 dX7_isSign_0 rfl rfl ?_
  refine j_bipush G (59 : Int32) dX7_isSign_1 (by decide) ?_
  refine j_icmp_eq G 30 dX7_isSign_3 (by decide) (fun c1 => ?_) (fun c1 => ?_)
  · have h := h.1 c1
    refine j_iconst G (1 : Int32) dX7_isSign_30 (by decide) ?_
    refine j_goto G 35 dX7_isSign_31 (by decide) ?_
    exact j_reti G () (by decide) dX7_isSign_35 h rfl
  · have h := h.2 c1
    refine j_iload_n G 0 0 dX7_isSign_6 rfl rfl ?_
    refine j_bipush G (58 : Int32) dX7_isSign_7 (by decide) ?_
    refine j_icmp_eq G 30 dX7_isSign_9 (by decide) (fun c2 => ?_) (fun c2 => ?_)
    · have h := h.1 c2
      refine j_iconst G (1 : Int32) dX7_isSign_30 (by decide) ?_
      refine j_goto G 35 dX7_isSign_31 (by decide) ?_
      exact j_reti G () (by decide) dX7_isSign_35 h rfl
    · have h := h.2 c2
      refine j_iload_n G 0 0 dX7_isSign_12 rfl rfl ?_
      refine j_bipush G (60 : Int32) dX7_isSign_13 (by decide) ?_
      refine j_icmp_eq G 30 dX7_isSign_15 (by decide) (fun c3 => ?_) (fun c3 => ?_)
      · have h := h.1 c3
        refine j_iconst G (1 : Int32) dX7_isSign_30 (by decide) ?_
        refine j_goto G 35 dX7_isSign_31 (by decide) ?_
        exact j_reti G () (by decide) dX7_isSign_35 h rfl
      · have h := h.2 c3
        refine j_iload_n G 0 0 dX7_isSign_18 rfl rfl ?_
        refine j_bipush G (61 : Int32) dX7_isSign_19 (by decide) ?_
        refine j_icmp_eq G 30 dX7_isSign_21 (by decide) (fun c4 => ?_) (fun c4 => ?_)
        · have h := h.1 c4
          refine j_iconst G (1 : Int32) dX7_isSign_30 (by decide) ?_
          refine j_goto G 35 dX7_isSign_31 (by decide) ?_
          exact j_reti G () (by decide) dX7_isSign_35 h rfl
        · have h := h.2 c4
          refine j_iload_n G 0 0 dX7_isSign_24 rfl rfl ?_
          refine j_bipush G (62 : Int32) dX7_isSign_25 (by decide) ?_
          refine j_icmp_ne G 34 dX7_isSign_27 (by decide) (fun c5 => ?_) (fun c5 => ?_)
          · have h := h.1 c5
            refine j_iconst G (0 : Int32) dX7_isSign_34 (by decide) ?_
            exact j_reti G () (by decide) dX7_isSign_35 h rfl
          · have h := h.2 c5
            refine j_iconst G (1 : Int32) dX7_isSign_30 (by decide) ?_
            refine j_goto G 35 dX7_isSign_31 (by decide) ?_
            exact j_reti G () (by decide) dX7_isSign_35 h rfl
abbrev rm_X7_scanOne : Room := { frames := 7, cells := 0, slots := 0, locals := 157 }
def w_X7_scanOne_l60 (a0 : Nat) (x1 : Int32) (I : MI) (B : MR)  (Q : Int32 → MI → Prop) (rec : Int32 → Prop) (x3 : Int32) : Prop :=
(((I a0 6) ≤ x3 → (w_X7_addDigits a0 x1 x3 I B (fun I15 =>
Q x3 I15))) ∧
(¬ (I a0 6) ≤ x3 → ((B a0 5) + 101 = a0 ∧
(vp_in x3 600 ∧
(w_X7_isDigit (I (B a0 5) (ix x3)) (fun r19 =>
((r19 = 0 → (w_X7_addDigits a0 x1 x3 I B (fun I21 =>
Q x3 I21))) ∧
(¬ r19 = 0 → rec (x3 + 1)))))))))
set_option maxHeartbeats 4000000 in
set_option maxRecDepth 100000 in
theorem m_X7_scanOne_l60 {K : Kx} {l : Launch} {m : MethodId} {H0 : Heap} {Q : Int32 → MI → Prop} {w : HW} {J : MJ} {B : MR} (G : Gd l rm_X7_scanOne K m RX7 cX7_scanOne 4 H0 (some .int) (va_Qi (S := MI) Q (fun u t => HP K (u, J, B) t.heap) (AA K)) w) (hW : WFK K) (a0 : Nat) (x1 : Int32) (x3 : Int32) (ka0 : (kG K a0).1 = 9) (I : MI)   (h : Lp1 (w_X7_scanOne_l60 a0 x1 I B Q) x3) : Jg K m 4 H0 w 60 [(0, .ref a0), (1, .int x1), (3, .int x3)] [] (I, J, B) := by
  obtain ⟨n, h⟩ := h
  refine lpN1_ind (P := (fun (x3 : Int32) => Jg K m 4 H0 w 60 [(0, .ref a0), (1, .int x1), (3, .int x3)] [] (I, J, B))) (fun rec hrec x3 h => ?_) n x3 h
  unfold w_X7_scanOne_l60 at h
  refine j_iload_n G 2 3 dX7_scanOne_60 rfl rfl ?_
  refine j_aload_n G 0 0 dX7_scanOne_61 rfl rfl ?_
  refine j_get G hW 8 6 0 (.int (I a0 6)) ka0 (by decide) rfl (by decide) rfl lay_X7 fl_X7_37 rfl rfl dX7_scanOne_62 ?_
  refine j_icmp_ge G 86 dX7_scanOne_65 (by decide) (fun c14 => ?_) (fun c14 => ?_)
  · have h := h.1 c14
    refine j_aload_n G 0 0 dX7_scanOne_86 rfl rfl ?_
    refine j_iload_n G 1 1 dX7_scanOne_87 rfl rfl ?_
    refine j_iload_n G 2 3 dX7_scanOne_88 rfl rfl ?_
    refine j_cv (rn_V G hW (ci := 8) (n := 2) (As := [.int x1, .int x3]) (rest := []) (c_X7_addDigits K hW l a0 x1 x3 ka0 I J B _ h) ka0 (by decide) rfl ml_X7_66 im_X7_addDigits se_X7_addDigits in_X7 co_X7_addDigits rfl (by decide +kernel) rfl rfl (by decide) (by decide) rfl rfl (Nat.le_of_ble_eq_true rfl) dX7_scanOne_89) (fun I15 h => ?_)
    refine j_goto G 114 dX7_scanOne_92 (by decide) ?_
    refine j_iload_n G 2 3 dX7_scanOne_114 rfl rfl ?_
    exact j_reti G I15 rfl dX7_scanOne_115 h rfl
  · have h := h.2 c14
    refine j_aload_n G 0 0 dX7_scanOne_68 rfl rfl ?_
    obtain ⟨q17, h⟩ := h
    have kk16 : kG K (B a0 5) = (21, 600) := wk_tape hW ka0 q17
    refine j_get G hW 8 5 2 (.ref (B a0 5)) ka0 (by decide) rfl (by decide) rfl lay_X7 fl_X7_24 rfl (vr_ne hW kk16) dX7_scanOne_69 ?_
    refine j_iload_n G 2 3 dX7_scanOne_72 rfl rfl ?_
    obtain ⟨b18, h⟩ := h
    refine j_bald G hW kk16 b18 dX7_scanOne_73 ?_
    refine j_ci (rn_S G (n := 1) (As := [.int (I (B a0 5) (ix x3))]) (rest := []) (c_X7_isDigit K hW l (I (B a0 5) (ix x3)) I J B _ h) ml_X7_63 st_X7_isDigit in_X7 co_X7_isDigit (by decide +kernel) rfl rfl (by decide) (by decide) rfl rfl (Nat.le_of_ble_eq_true rfl) dX7_scanOne_74) (fun r19 _ h => ?_)
    refine j_if_eq G 86 dX7_scanOne_77 (by decide) (fun c20 => ?_) (fun c20 => ?_)
    · have h := h.1 c20
      refine j_aload_n G 0 0 dX7_scanOne_86 rfl rfl ?_
      refine j_iload_n G 1 1 dX7_scanOne_87 rfl rfl ?_
      refine j_iload_n G 2 3 dX7_scanOne_88 rfl rfl ?_
      refine j_cv (rn_V G hW (ci := 8) (n := 2) (As := [.int x1, .int x3]) (rest := []) (c_X7_addDigits K hW l a0 x1 x3 ka0 I J B _ h) ka0 (by decide) rfl ml_X7_66 im_X7_addDigits se_X7_addDigits in_X7 co_X7_addDigits rfl (by decide +kernel) rfl rfl (by decide) (by decide) rfl rfl (Nat.le_of_ble_eq_true rfl) dX7_scanOne_89) (fun I21 h => ?_)
      refine j_goto G 114 dX7_scanOne_92 (by decide) ?_
      refine j_iload_n G 2 3 dX7_scanOne_114 rfl rfl ?_
      exact j_reti G I21 rfl dX7_scanOne_115 h rfl
    · have h := h.2 c20
      refine j_iinc G 2 (x3 + 1) [(3, .int (x3 + 1)), (0, .ref a0), (1, .int x1)] dX7_scanOne_80 rfl rfl (by decide) rfl ?_
      refine j_goto G 60 dX7_scanOne_83 (by decide) ?_
      exact Jg.sub [1, 2, 0] rfl (hrec (x3 + 1) h)
def w_X7_scanOne_l18 (a0 : Nat) (x1 : Int32) (I : MI) (B : MR)  (Q : Int32 → MI → Prop) (rec : Int32 → Prop) (x3 : Int32) : Prop :=
(((I a0 6) ≤ x3 → (w_X7_addLetters a0 x1 x3 I B (fun I23 =>
Q x3 I23))) ∧
(¬ (I a0 6) ≤ x3 → ((B a0 5) + 101 = a0 ∧
(vp_in x3 600 ∧
(w_X7_isLetter (I (B a0 5) (ix x3)) (fun r27 =>
((r27 = 0 → (w_X7_addLetters a0 x1 x3 I B (fun I29 =>
Q x3 I29))) ∧
(¬ r27 = 0 → rec (x3 + 1)))))))))
set_option maxHeartbeats 4000000 in
set_option maxRecDepth 100000 in
theorem m_X7_scanOne_l18 {K : Kx} {l : Launch} {m : MethodId} {H0 : Heap} {Q : Int32 → MI → Prop} {w : HW} {J : MJ} {B : MR} (G : Gd l rm_X7_scanOne K m RX7 cX7_scanOne 4 H0 (some .int) (va_Qi (S := MI) Q (fun u t => HP K (u, J, B) t.heap) (AA K)) w) (hW : WFK K) (a0 : Nat) (x1 : Int32) (x3 : Int32) (ka0 : (kG K a0).1 = 9) (I : MI)   (h : Lp1 (w_X7_scanOne_l18 a0 x1 I B Q) x3) : Jg K m 4 H0 w 18 [(0, .ref a0), (1, .int x1), (3, .int x3)] [] (I, J, B) := by
  obtain ⟨n, h⟩ := h
  refine lpN1_ind (P := (fun (x3 : Int32) => Jg K m 4 H0 w 18 [(0, .ref a0), (1, .int x1), (3, .int x3)] [] (I, J, B))) (fun rec hrec x3 h => ?_) n x3 h
  unfold w_X7_scanOne_l18 at h
  refine j_iload_n G 2 3 dX7_scanOne_18 rfl rfl ?_
  refine j_aload_n G 0 0 dX7_scanOne_19 rfl rfl ?_
  refine j_get G hW 8 6 0 (.int (I a0 6)) ka0 (by decide) rfl (by decide) rfl lay_X7 fl_X7_37 rfl rfl dX7_scanOne_20 ?_
  refine j_icmp_ge G 44 dX7_scanOne_23 (by decide) (fun c22 => ?_) (fun c22 => ?_)
  · have h := h.1 c22
    refine j_aload_n G 0 0 dX7_scanOne_44 rfl rfl ?_
    refine j_iload_n G 1 1 dX7_scanOne_45 rfl rfl ?_
    refine j_iload_n G 2 3 dX7_scanOne_46 rfl rfl ?_
    refine j_cv (rn_V G hW (ci := 8) (n := 2) (As := [.int x1, .int x3]) (rest := []) (c_X7_addLetters K hW l a0 x1 x3 ka0 I J B _ h) ka0 (by decide) rfl ml_X7_59 im_X7_addLetters se_X7_addLetters in_X7 co_X7_addLetters rfl (by decide +kernel) rfl rfl (by decide) (by decide) rfl rfl (Nat.le_of_ble_eq_true rfl) dX7_scanOne_47) (fun I23 h => ?_)
    refine j_goto G 114 dX7_scanOne_50 (by decide) ?_
    refine j_iload_n G 2 3 dX7_scanOne_114 rfl rfl ?_
    exact j_reti G I23 rfl dX7_scanOne_115 h rfl
  · have h := h.2 c22
    refine j_aload_n G 0 0 dX7_scanOne_26 rfl rfl ?_
    obtain ⟨q25, h⟩ := h
    have kk24 : kG K (B a0 5) = (21, 600) := wk_tape hW ka0 q25
    refine j_get G hW 8 5 2 (.ref (B a0 5)) ka0 (by decide) rfl (by decide) rfl lay_X7 fl_X7_24 rfl (vr_ne hW kk24) dX7_scanOne_27 ?_
    refine j_iload_n G 2 3 dX7_scanOne_30 rfl rfl ?_
    obtain ⟨b26, h⟩ := h
    refine j_bald G hW kk24 b26 dX7_scanOne_31 ?_
    refine j_ci (rn_S G (n := 1) (As := [.int (I (B a0 5) (ix x3))]) (rest := []) (c_X7_isLetter K hW l (I (B a0 5) (ix x3)) I J B _ h) ml_X7_56 st_X7_isLetter in_X7 co_X7_isLetter (by decide +kernel) rfl rfl (by decide) (by decide) rfl rfl (Nat.le_of_ble_eq_true rfl) dX7_scanOne_32) (fun r27 _ h => ?_)
    refine j_if_eq G 44 dX7_scanOne_35 (by decide) (fun c28 => ?_) (fun c28 => ?_)
    · have h := h.1 c28
      refine j_aload_n G 0 0 dX7_scanOne_44 rfl rfl ?_
      refine j_iload_n G 1 1 dX7_scanOne_45 rfl rfl ?_
      refine j_iload_n G 2 3 dX7_scanOne_46 rfl rfl ?_
      refine j_cv (rn_V G hW (ci := 8) (n := 2) (As := [.int x1, .int x3]) (rest := []) (c_X7_addLetters K hW l a0 x1 x3 ka0 I J B _ h) ka0 (by decide) rfl ml_X7_59 im_X7_addLetters se_X7_addLetters in_X7 co_X7_addLetters rfl (by decide +kernel) rfl rfl (by decide) (by decide) rfl rfl (Nat.le_of_ble_eq_true rfl) dX7_scanOne_47) (fun I29 h => ?_)
      refine j_goto G 114 dX7_scanOne_50 (by decide) ?_
      refine j_iload_n G 2 3 dX7_scanOne_114 rfl rfl ?_
      exact j_reti G I29 rfl dX7_scanOne_115 h rfl
    · have h := h.2 c28
      refine j_iinc G 2 (x3 + 1) [(3, .int (x3 + 1)), (0, .ref a0), (1, .int x1)] dX7_scanOne_38 rfl rfl (by decide) rfl ?_
      refine j_goto G 18 dX7_scanOne_41 (by decide) ?_
      exact Jg.sub [1, 2, 0] rfl (hrec (x3 + 1) h)
def w_X7_scanOne (a0 : Nat) (x1 : Int32) (I : MI) (B : MR) (Q : Int32 → MI → Prop) : Prop :=
((B a0 5) + 101 = a0 ∧
(vp_in x1 600 ∧
(∀ x2_4, x2_4 = I (B a0 5) (ix x1) →
(∀ x3_5, x3_5 = x1 + (1 : Int32) →
(w_X7_isLetter x2_4 (fun r6 =>
((r6 = 0 → (w_X7_isDigit x2_4 (fun r8 =>
((r8 = 0 → (w_X7_isSign x2_4 (fun r10 =>
((r10 = 0 → (w_X7_add a0 (0 : Int32) x2_4 x1 x3_5 I (fun I12 =>
Q x3_5 I12))) ∧
(¬ r10 = 0 → (w_X7_add a0 (5 : Int32) x2_4 x1 x3_5 I (fun I13 =>
Q x3_5 I13))))))) ∧
(¬ r8 = 0 → Lp1 (w_X7_scanOne_l60 a0 x1 I B Q) x3_5))))) ∧
(¬ r6 = 0 → Lp1 (w_X7_scanOne_l18 a0 x1 I B Q) x3_5))))))))
set_option maxHeartbeats 4000000 in
set_option maxRecDepth 100000 in
theorem c_X7_scanOne (K : Kx) (hW : WFK K) (l : Launch) (a0 : Nat) (x1 : Int32) (k0 : (kG K a0).1 = 9) (I : MI) (J : MJ) (B : MR) (Q : Int32 → MI → Prop) (h : w_X7_scanOne a0 x1 I B Q) : Con K l yX7_scanOne (wsT yX7_scanOne cX7_scanOne 4 (some .int)) rm_X7_scanOne [.ref a0, .int x1] (I, J, B) (va_Qi (S := MI) Q (fun u t => HP K (u, J, B) t.heap) (AA K)) := by
  refine Con.ofJ RX7 rfl (by decide) (Nat.le_of_ble_eq_true rfl) (fun m H0 w G => ?_)
  unfold w_X7_scanOne at h
  show Jg K m 4 H0 w 0 [(0, .ref a0), (1, .int x1)] [] (I, J, B)
  refine j_aload_n G 0 0 dX7_scanOne_0 rfl rfl ?_
  obtain ⟨q2, h⟩ := h
  have kk1 : kG K (B a0 5) = (21, 600) := wk_tape hW k0 q2
  refine j_get G hW 8 5 2 (.ref (B a0 5)) k0 (by decide) rfl (by decide) rfl lay_X7 fl_X7_24 rfl (vr_ne hW kk1) dX7_scanOne_1 ?_
  refine j_iload_n G 1 1 dX7_scanOne_4 rfl rfl ?_
  obtain ⟨b3, h⟩ := h
  refine j_bald G hW kk1 b3 dX7_scanOne_5 ?_
  refine j_nm (fun x2_4 ex2_4 => ?_)
  have h := h x2_4 ex2_4
  refine j_istore_n G 2 [(2, .int x2_4), (0, .ref a0), (1, .int x1)] dX7_scanOne_6 rfl (by decide) rfl ?_
  refine j_iload_n G 2 1 dX7_scanOne_7 rfl rfl ?_
  refine j_iconst G (1 : Int32) dX7_scanOne_8 (by decide) ?_
  refine j_iadd G dX7_scanOne_9 ?_
  refine j_nm (fun x3_5 ex3_5 => ?_)
  have h := h x3_5 ex3_5
  refine j_istore_n G 3 [(3, .int x3_5), (2, .int x2_4), (0, .ref a0), (1, .int x1)] dX7_scanOne_10 rfl (by decide) rfl ?_
  refine j_iload_n G 1 2 dX7_scanOne_11 rfl rfl ?_
  refine j_ci (rn_S G (n := 1) (As := [.int x2_4]) (rest := []) (c_X7_isLetter K hW l x2_4 I J B _ h) ml_X7_56 st_X7_isLetter in_X7 co_X7_isLetter (by decide +kernel) rfl rfl (by decide) (by decide) rfl rfl (Nat.le_of_ble_eq_true rfl) dX7_scanOne_12) (fun r6 _ h => ?_)
  refine j_if_eq G 53 dX7_scanOne_15 (by decide) (fun c7 => ?_) (fun c7 => ?_)
  · have h := h.1 c7
    refine j_iload_n G 1 2 dX7_scanOne_53 rfl rfl ?_
    refine j_ci (rn_S G (n := 1) (As := [.int x2_4]) (rest := []) (c_X7_isDigit K hW l x2_4 I J B _ h) ml_X7_63 st_X7_isDigit in_X7 co_X7_isDigit (by decide +kernel) rfl rfl (by decide) (by decide) rfl rfl (Nat.le_of_ble_eq_true rfl) dX7_scanOne_54) (fun r8 _ h => ?_)
    refine j_if_eq G 95 dX7_scanOne_57 (by decide) (fun c9 => ?_) (fun c9 => ?_)
    · have h := h.1 c9
      refine j_aload_n G 2 0 dX7_scanOne_95 rfl rfl ?_
      refine j_iload_n G 1 2 dX7_scanOne_96 rfl rfl ?_
      refine j_ci (rn_S G (n := 1) (As := [.int x2_4]) (rest := [.ref a0]) (c_X7_isSign K hW l x2_4 I J B _ h) ml_X7_69 st_X7_isSign in_X7 co_X7_isSign (by decide +kernel) rfl rfl (by decide) (by decide) rfl rfl (Nat.le_of_ble_eq_true rfl) dX7_scanOne_97) (fun r10 _ h => ?_)
      refine j_if_eq G 107 dX7_scanOne_100 (by decide) (fun c11 => ?_) (fun c11 => ?_)
      · have h := h.1 c11
        refine j_iconst G (0 : Int32) dX7_scanOne_107 (by decide) ?_
        refine j_iload_n G 1 2 dX7_scanOne_108 rfl rfl ?_
        refine j_iload_n G 3 1 dX7_scanOne_109 rfl rfl ?_
        refine j_iload_n G 0 3 dX7_scanOne_110 rfl rfl ?_
        refine j_cv (rn_V G hW (ci := 8) (n := 4) (As := [.int (0 : Int32), .int x2_4, .int x1, .int x3_5]) (rest := []) (c_X7_add K hW l a0 (0 : Int32) x2_4 x1 x3_5 k0 I J B _ h) k0 (by decide) rfl ml_X7_52 im_X7_add se_X7_add in_X7 co_X7_add rfl (by decide +kernel) rfl rfl (by decide) (by decide) rfl rfl (Nat.le_of_ble_eq_true rfl) dX7_scanOne_111) (fun I12 h => ?_)
        refine j_iload_n G 0 3 dX7_scanOne_114 rfl rfl ?_
        exact j_reti G I12 rfl dX7_scanOne_115 h rfl
      · have h := h.2 c11
        refine j_iconst G (5 : Int32) dX7_scanOne_103 (by decide) ?_
        refine j_goto G 108 dX7_scanOne_104 (by decide) ?_
        refine j_iload_n G 1 2 dX7_scanOne_108 rfl rfl ?_
        refine j_iload_n G 3 1 dX7_scanOne_109 rfl rfl ?_
        refine j_iload_n G 0 3 dX7_scanOne_110 rfl rfl ?_
        refine j_cv (rn_V G hW (ci := 8) (n := 4) (As := [.int (5 : Int32), .int x2_4, .int x1, .int x3_5]) (rest := []) (c_X7_add K hW l a0 (5 : Int32) x2_4 x1 x3_5 k0 I J B _ h) k0 (by decide) rfl ml_X7_52 im_X7_add se_X7_add in_X7 co_X7_add rfl (by decide +kernel) rfl rfl (by decide) (by decide) rfl rfl (Nat.le_of_ble_eq_true rfl) dX7_scanOne_111) (fun I13 h => ?_)
        refine j_iload_n G 0 3 dX7_scanOne_114 rfl rfl ?_
        exact j_reti G I13 rfl dX7_scanOne_115 h rfl
    · have h := h.2 c9
      refine Jg.sub [2, 3, 0] rfl (m_X7_scanOne_l60 G hW a0 x1 x3_5 k0 I h)
  · have h := h.2 c7
    refine Jg.sub [2, 3, 0] rfl (m_X7_scanOne_l18 G hW a0 x1 x3_5 k0 I h)
abbrev rm_X7_scan : Room := { frames := 8, cells := 0, slots := 0, locals := 180 }
def w_X7_scan_l35 (a0 : Nat) (B : MR)  (Q : MI → MR → Prop) (rec : Int32 → Int32 → MI → Prop) (x3 : Int32) (x4 : Int32) (I : MI) : Prop :=
(((I a0 6) ≤ x4 → (w_X7_add a0 (6 : Int32) (-1 : Int32) (I a0 6) (I a0 6) I (fun I5 =>
Q I5 B))) ∧
(¬ (I a0 6) ≤ x4 → (((I a0 6) ≤ x3 → (w_X7_add a0 (6 : Int32) (-1 : Int32) (I a0 6) (I a0 6) I (fun I7 =>
Q I7 B))) ∧
(¬ (I a0 6) ≤ x3 → ((B a0 5) + 101 = a0 ∧
(vp_in x3 600 ∧
(w_X7_isBlank (I (B a0 5) (ix x3)) (fun r11 =>
((r11 = 0 → (w_X7_scanOne a0 x3 I B (fun r13 I14 =>
rec r13 (x4 + 1) I14))) ∧
(¬ r11 = 0 → (∀ x3_15, x3_15 = x3 + (1 : Int32) →
rec x3_15 (x4 + 1) I)))))))))))
set_option maxHeartbeats 4000000 in
set_option maxRecDepth 100000 in
theorem m_X7_scan_l35 {K : Kx} {l : Launch} {m : MethodId} {H0 : Heap} {Q : MI → MR → Prop} {w : HW} {J : MJ} (G : Gd l rm_X7_scan K m RX7 cX7_scan 5 H0 none (va_Qv (S := (MI × MR)) (fun u => Q u.1 u.2) (fun u t => HP K (u.1, J, u.2) t.heap) (AA K)) w) (hW : WFK K) (a0 : Nat) (x3 : Int32) (x4 : Int32) (ka0 : (kG K a0).1 = 9) (I : MI) (B : MR)   (h : Lp3 (w_X7_scan_l35 a0 B Q) x3 x4 I) : Jg K m 5 H0 w 35 [(0, .ref a0), (3, .int x3), (4, .int x4)] [] (I, J, B) := by
  obtain ⟨n, h⟩ := h
  refine lpN3_ind (P := (fun (x3 : Int32) (x4 : Int32) (I : MI) => Jg K m 5 H0 w 35 [(0, .ref a0), (3, .int x3), (4, .int x4)] [] (I, J, B))) (fun rec hrec x3 x4 I h => ?_) n x3 x4 I h
  unfold w_X7_scan_l35 at h
  refine j_iload G 2 dX7_scan_35 rfl ?_
  refine j_aload_n G 0 0 dX7_scan_37 rfl rfl ?_
  refine j_get G hW 8 6 0 (.int (I a0 6)) ka0 (by decide) rfl (by decide) rfl lay_X7 fl_X7_37 rfl rfl dX7_scan_38 ?_
  refine j_icmp_ge G 82 dX7_scan_41 (by decide) (fun c4 => ?_) (fun c4 => ?_)
  · have h := h.1 c4
    refine j_aload_n G 0 0 dX7_scan_82 rfl rfl ?_
    refine j_bipush G (6 : Int32) dX7_scan_83 (by decide) ?_
    refine j_iconst G (-1 : Int32) dX7_scan_85 (by decide) ?_
    refine j_aload_n G 0 0 dX7_scan_86 rfl rfl ?_
    refine j_get G hW 8 6 0 (.int (I a0 6)) ka0 (by decide) rfl (by decide) rfl lay_X7 fl_X7_37 rfl rfl dX7_scan_87 ?_
    refine j_aload_n G 0 0 dX7_scan_90 rfl rfl ?_
    refine j_get G hW 8 6 0 (.int (I a0 6)) ka0 (by decide) rfl (by decide) rfl lay_X7 fl_X7_37 rfl rfl dX7_scan_91 ?_
    refine j_cv (rn_V G hW (ci := 8) (n := 4) (As := [.int (6 : Int32), .int (-1 : Int32), .int (I a0 6), .int (I a0 6)]) (rest := []) (c_X7_add K hW l a0 (6 : Int32) (-1 : Int32) (I a0 6) (I a0 6) ka0 I J B _ h) ka0 (by decide) rfl ml_X7_52 im_X7_add se_X7_add in_X7 co_X7_add rfl (by decide +kernel) rfl rfl (by decide) (by decide) rfl rfl (Nat.le_of_ble_eq_true rfl) dX7_scan_94) (fun I5 h => ?_)
    exact j_retv G (I5, B) dX7_scan_97 h rfl
  · have h := h.2 c4
    refine j_iload_n G 1 3 dX7_scan_44 rfl rfl ?_
    refine j_aload_n G 0 0 dX7_scan_45 rfl rfl ?_
    refine j_get G hW 8 6 0 (.int (I a0 6)) ka0 (by decide) rfl (by decide) rfl lay_X7 fl_X7_37 rfl rfl dX7_scan_46 ?_
    refine j_icmp_ge G 82 dX7_scan_49 (by decide) (fun c6 => ?_) (fun c6 => ?_)
    · have h := h.1 c6
      refine j_aload_n G 0 0 dX7_scan_82 rfl rfl ?_
      refine j_bipush G (6 : Int32) dX7_scan_83 (by decide) ?_
      refine j_iconst G (-1 : Int32) dX7_scan_85 (by decide) ?_
      refine j_aload_n G 0 0 dX7_scan_86 rfl rfl ?_
      refine j_get G hW 8 6 0 (.int (I a0 6)) ka0 (by decide) rfl (by decide) rfl lay_X7 fl_X7_37 rfl rfl dX7_scan_87 ?_
      refine j_aload_n G 0 0 dX7_scan_90 rfl rfl ?_
      refine j_get G hW 8 6 0 (.int (I a0 6)) ka0 (by decide) rfl (by decide) rfl lay_X7 fl_X7_37 rfl rfl dX7_scan_91 ?_
      refine j_cv (rn_V G hW (ci := 8) (n := 4) (As := [.int (6 : Int32), .int (-1 : Int32), .int (I a0 6), .int (I a0 6)]) (rest := []) (c_X7_add K hW l a0 (6 : Int32) (-1 : Int32) (I a0 6) (I a0 6) ka0 I J B _ h) ka0 (by decide) rfl ml_X7_52 im_X7_add se_X7_add in_X7 co_X7_add rfl (by decide +kernel) rfl rfl (by decide) (by decide) rfl rfl (Nat.le_of_ble_eq_true rfl) dX7_scan_94) (fun I7 h => ?_)
      exact j_retv G (I7, B) dX7_scan_97 h rfl
    · have h := h.2 c6
      refine j_aload_n G 0 0 dX7_scan_52 rfl rfl ?_
      obtain ⟨q9, h⟩ := h
      have kk8 : kG K (B a0 5) = (21, 600) := wk_tape hW ka0 q9
      refine j_get G hW 8 5 2 (.ref (B a0 5)) ka0 (by decide) rfl (by decide) rfl lay_X7 fl_X7_24 rfl (vr_ne hW kk8) dX7_scan_53 ?_
      refine j_iload_n G 1 3 dX7_scan_56 rfl rfl ?_
      obtain ⟨b10, h⟩ := h
      refine j_bald G hW kk8 b10 dX7_scan_57 ?_
      refine j_ci (rn_S G (n := 1) (As := [.int (I (B a0 5) (ix x3))]) (rest := []) (c_X7_isBlank K hW l (I (B a0 5) (ix x3)) I J B _ h) ml_X7_44 st_X7_isBlank in_X7 co_X7_isBlank (by decide +kernel) rfl rfl (by decide) (by decide) rfl rfl (Nat.le_of_ble_eq_true rfl) dX7_scan_58) (fun r11 _ h => ?_)
      refine j_if_eq G 70 dX7_scan_61 (by decide) (fun c12 => ?_) (fun c12 => ?_)
      · have h := h.1 c12
        refine j_aload_n G 0 0 dX7_scan_70 rfl rfl ?_
        refine j_iload_n G 1 3 dX7_scan_71 rfl rfl ?_
        refine j_ci (rn_V G hW (ci := 8) (n := 1) (As := [.int x3]) (rest := []) (c_X7_scanOne K hW l a0 x3 ka0 I J B _ h) ka0 (by decide) rfl ml_X7_48 im_X7_scanOne se_X7_scanOne in_X7 co_X7_scanOne rfl (by decide +kernel) rfl rfl (by decide) (by decide) rfl rfl (Nat.le_of_ble_eq_true rfl) dX7_scan_72) (fun r13 I14 h => ?_)
        refine j_istore_n G 3 [(3, .int r13), (0, .ref a0), (4, .int x4)] dX7_scan_75 rfl (by decide) rfl ?_
        refine j_iinc G 2 (x4 + 1) [(4, .int (x4 + 1)), (3, .int r13), (0, .ref a0)] dX7_scan_76 rfl rfl (by decide) rfl ?_
        refine j_goto G 35 dX7_scan_79 (by decide) ?_
        exact Jg.sub [2, 1, 0] rfl (hrec r13 (x4 + 1) I14 h)
      · have h := h.2 c12
        refine j_iload_n G 1 3 dX7_scan_64 rfl rfl ?_
        refine j_iconst G (1 : Int32) dX7_scan_65 (by decide) ?_
        refine j_iadd G dX7_scan_66 ?_
        refine j_goto G 75 dX7_scan_67 (by decide) ?_
        refine j_nm (fun x3_15 ex3_15 => ?_)
        have h := h x3_15 ex3_15
        refine j_istore_n G 3 [(3, .int x3_15), (0, .ref a0), (4, .int x4)] dX7_scan_75 rfl (by decide) rfl ?_
        refine j_iinc G 2 (x4 + 1) [(4, .int (x4 + 1)), (3, .int x3_15), (0, .ref a0)] dX7_scan_76 rfl rfl (by decide) rfl ?_
        refine j_goto G 35 dX7_scan_79 (by decide) ?_
        exact Jg.sub [2, 1, 0] rfl (hrec x3_15 (x4 + 1) I h)
def w_X7_scan (a0 : Nat) (a1 : Nat) (x2 : Int32) (I : MI) (B : MR) (Q : MI → MR → Prop) : Prop :=
(∀ B1, B1 = ur B a0 5 a1 →
(∀ I2, I2 = ui I a0 6 (if (0 : Int32) < (if (if (600 : Int32) < (600 : Int32) then (600 : Int32) else (600 : Int32)) < x2 then (if (600 : Int32) < (600 : Int32) then (600 : Int32) else (600 : Int32)) else x2) then (if (if (600 : Int32) < (600 : Int32) then (600 : Int32) else (600 : Int32)) < x2 then (if (600 : Int32) < (600 : Int32) then (600 : Int32) else (600 : Int32)) else x2) else (0 : Int32)) →
(∀ I3, I3 = ui I2 a0 4 (0 : Int32) →
Lp3 (w_X7_scan_l35 a0 B1 Q) (0 : Int32) (0 : Int32) I3)))
set_option maxHeartbeats 4000000 in
set_option maxRecDepth 100000 in
theorem c_X7_scan (K : Kx) (hW : WFK K) (l : Launch) (a0 : Nat) (a1 : Nat) (x2 : Int32) (k0 : (kG K a0).1 = 9) (k1 : kG K a1 = (21, 600)) (I : MI) (J : MJ) (B : MR) (Q : MI → MR → Prop) (h : w_X7_scan a0 a1 x2 I B Q) : Con K l yX7_scan (wsT yX7_scan cX7_scan 5 none) rm_X7_scan [.ref a0, .ref a1, .int x2] (I, J, B) (va_Qv (S := (MI × MR)) (fun u => Q u.1 u.2) (fun u t => HP K (u.1, J, u.2) t.heap) (AA K)) := by
  refine Con.ofJ RX7 rfl (by decide) (Nat.le_of_ble_eq_true rfl) (fun m H0 w G => ?_)
  unfold w_X7_scan at h
  show Jg K m 5 H0 w 0 [(0, .ref a0), (1, .ref a1), (2, .int x2)] [] (I, J, B)
  refine j_aload_n G 0 0 dX7_scan_0 rfl rfl ?_
  refine j_aload_n G 1 1 dX7_scan_1 rfl rfl ?_
  refine j_putR G hW 8 5 tyX7 (tyX7 5) tyX7_ok nmX7 k0 (by decide) rfl (by decide) rfl lay_X7 fl_X7_24 rfl rfl (tyX7_ok 5 (by decide)) rfl rfl k1 dX7_scan_2 ?_
  refine j_mB (fun B1 eB1 => ?_)
  have h := h B1 eB1
  refine j_aload_n G 0 0 dX7_scan_5 rfl rfl ?_
  refine j_iconst G (0 : Int32) dX7_scan_6 (by decide) ?_
  refine j_iload_n G 2 2 dX7_scan_7 rfl rfl ?_
  refine j_aload_n G 1 1 dX7_scan_8 rfl rfl ?_
  refine j_alen G hW (600 : Int32) k1 (by decide) (by decide) (by decide) rfl (by decide) dX7_scan_9 ?_
  refine j_sipush G (600 : Int32) dX7_scan_10 (by decide) ?_
  refine j_mmin G ml_X7_28 st_J9_min_7cf53 in_J9 co_J9_min_7cf53 (by decide) (by decide) (Nat.le_of_ble_eq_true rfl) dX7_scan_13 ?_
  refine j_mmin G ml_X7_28 st_J9_min_7cf53 in_J9 co_J9_min_7cf53 (by decide) (by decide) (Nat.le_of_ble_eq_true rfl) dX7_scan_16 ?_
  refine j_mmax G ml_X7_34 st_J9_max_7cf53 in_J9 co_J9_max_7cf53 (by decide) (by decide) (Nat.le_of_ble_eq_true rfl) dX7_scan_19 ?_
  refine j_put G hW 8 6 tyX7 (tyX7 6) tyX7_ok nmX7 k0 (by decide) rfl (by decide) rfl lay_X7 fl_X7_37 rfl rfl (tyX7_ok 6 (by decide)) rfl rfl dX7_scan_22 ?_
  refine j_mI (fun I2 eI2 => ?_)
  have h := h I2 eI2
  refine j_aload_n G 0 0 dX7_scan_25 rfl rfl ?_
  refine j_iconst G (0 : Int32) dX7_scan_26 (by decide) ?_
  refine j_put G hW 8 4 tyX7 (tyX7 4) tyX7_ok nmX7 k0 (by decide) rfl (by decide) rfl lay_X7 fl_X7_41 rfl rfl (tyX7_ok 4 (by decide)) rfl rfl dX7_scan_27 ?_
  refine j_mI (fun I3 eI3 => ?_)
  have h := h I3 eI3
  refine j_iconst G (0 : Int32) dX7_scan_30 (by decide) ?_
  refine j_istore_n G 3 [(3, .int (0 : Int32)), (0, .ref a0), (1, .ref a1), (2, .int x2)] dX7_scan_31 rfl (by decide) rfl ?_
  refine j_iconst G (0 : Int32) dX7_scan_32 (by decide) ?_
  refine j_istore G [(4, .int (0 : Int32)), (3, .int (0 : Int32)), (0, .ref a0), (1, .ref a1), (2, .int x2)] dX7_scan_33 (by decide) rfl ?_
  refine Jg.sub [2, 1, 0] rfl (m_X7_scan_l35 G hW a0 (0 : Int32) (0 : Int32) k0 I3 B1 h)
abbrev rm_X7_isSame : Room := { frames := 0, cells := 0, slots := 0, locals := 0 }
def w_X7_isSame_l36 (a0 : Nat) (x1 : Int32) (x2 : Int32) (x3 : Int32) (I : MI) (B : MR)  (Q : Int32 →  Prop) (rec : Int32 → Prop) (x4 : Int32) : Prop :=
((x3 ≤ x4 → Q (1 : Int32)) ∧
(¬ x3 ≤ x4 → ((B a0 5) + 101 = a0 ∧
(vp_in x1 601 ∧
(vp_in ((I (a0 + 3) (ix x1)) + x4) 600 ∧
(vp_in x2 601 ∧
(vp_in ((I (a0 + 3) (ix x2)) + x4) 600 ∧
(((I (B a0 5) (ix ((I (a0 + 3) (ix x1)) + x4))) = (I (B a0 5) (ix ((I (a0 + 3) (ix x2)) + x4))) → rec (x4 + 1)) ∧
(¬ (I (B a0 5) (ix ((I (a0 + 3) (ix x1)) + x4))) = (I (B a0 5) (ix ((I (a0 + 3) (ix x2)) + x4))) → Q (0 : Int32))))))))))
set_option maxHeartbeats 4000000 in
set_option maxRecDepth 100000 in
theorem m_X7_isSame_l36 {K : Kx} {l : Launch} {m : MethodId} {H0 : Heap} {Q : Int32 →  Prop} {w : HW} {I : MI} {J : MJ} {B : MR} (G : Gd l rm_X7_isSame K m RX7 cX7_isSame 5 H0 (some .boolean) (va_Qi (S := Unit) (fun r _ => Q r) (fun u t => HP K (I, J, B) t.heap) (AA K)) w) (hW : WFK K) (a0 : Nat) (x1 : Int32) (x2 : Int32) (x3 : Int32) (x4 : Int32) (ka0 : (kG K a0).1 = 9)    (h : Lp1 (w_X7_isSame_l36 a0 x1 x2 x3 I B Q) x4) : Jg K m 5 H0 w 36 [(0, .ref a0), (1, .int x1), (2, .int x2), (3, .int x3), (4, .int x4)] [] (I, J, B) := by
  obtain ⟨n, h⟩ := h
  refine lpN1_ind (P := (fun (x4 : Int32) => Jg K m 5 H0 w 36 [(0, .ref a0), (1, .int x1), (2, .int x2), (3, .int x3), (4, .int x4)] [] (I, J, B))) (fun rec hrec x4 h => ?_) n x4 h
  unfold w_X7_isSame_l36 at h
  refine j_iload G 4 dX7_isSame_36 rfl ?_
  refine j_iload_n G 3 3 dX7_isSame_38 rfl rfl ?_
  refine j_icmp_ge G 81 dX7_isSame_39 (by decide) (fun c9 => ?_) (fun c9 => ?_)
  · have h := h.1 c9
    refine j_iconst G (1 : Int32) dX7_isSame_81 (by decide) ?_
    exact j_reti G () (by decide) dX7_isSame_82 h rfl
  · have h := h.2 c9
    refine j_aload_n G 0 0 dX7_isSame_42 rfl rfl ?_
    obtain ⟨q11, h⟩ := h
    have kk10 : kG K (B a0 5) = (21, 600) := wk_tape hW ka0 q11
    refine j_get G hW 8 5 2 (.ref (B a0 5)) ka0 (by decide) rfl (by decide) rfl lay_X7 fl_X7_24 rfl (vr_ne hW kk10) dX7_isSame_43 ?_
    refine j_aload_n G 0 0 dX7_isSame_46 rfl rfl ?_
    have kk12 : kG K (a0 + 3) = (20, 601) := wk_9_3 hW ka0
    refine j_get G hW 8 2 6 (.ref (a0 + 3)) ka0 (by decide) rfl (by decide) rfl lay_X7 fl_X7_18 rfl rfl dX7_isSame_47 ?_
    refine j_iload_n G 1 1 dX7_isSame_50 rfl rfl ?_
    obtain ⟨b13, h⟩ := h
    refine j_iald G hW kk12 b13 dX7_isSame_51 ?_
    refine j_iload G 4 dX7_isSame_52 rfl ?_
    refine j_iadd G dX7_isSame_54 ?_
    obtain ⟨b14, h⟩ := h
    refine j_bald G hW kk10 b14 dX7_isSame_55 ?_
    refine j_aload_n G 0 0 dX7_isSame_56 rfl rfl ?_
    refine j_get G hW 8 5 2 (.ref (B a0 5)) ka0 (by decide) rfl (by decide) rfl lay_X7 fl_X7_24 rfl (vr_ne hW kk10) dX7_isSame_57 ?_
    refine j_aload_n G 0 0 dX7_isSame_60 rfl rfl ?_
    refine j_get G hW 8 2 6 (.ref (a0 + 3)) ka0 (by decide) rfl (by decide) rfl lay_X7 fl_X7_18 rfl rfl dX7_isSame_61 ?_
    refine j_iload_n G 2 2 dX7_isSame_64 rfl rfl ?_
    obtain ⟨b15, h⟩ := h
    refine j_iald G hW kk12 b15 dX7_isSame_65 ?_
    refine j_iload G 4 dX7_isSame_66 rfl ?_
    refine j_iadd G dX7_isSame_68 ?_
    obtain ⟨b16, h⟩ := h
    refine j_bald G hW kk10 b16 dX7_isSame_69 ?_
    refine j_icmp_eq G 75 dX7_isSame_70 (by decide) (fun c17 => ?_) (fun c17 => ?_)
    · have h := h.1 c17
      refine j_iinc G 4 (x4 + 1) [(4, .int (x4 + 1)), (0, .ref a0), (1, .int x1), (2, .int x2), (3, .int x3)] dX7_isSame_75 rfl rfl (by decide) rfl ?_
      refine j_goto G 36 dX7_isSame_78 (by decide) ?_
      exact Jg.sub [1, 2, 3, 4, 0] rfl (hrec (x4 + 1) h)
    · have h := h.2 c17
      refine j_iconst G (0 : Int32) dX7_isSame_73 (by decide) ?_
      exact j_reti G () (by decide) dX7_isSame_74 h rfl
def w_X7_isSame (a0 : Nat) (x1 : Int32) (x2 : Int32) (I : MI) (B : MR) (Q : Int32 →  Prop) : Prop :=
(vp_in x1 601 ∧
(vp_in x1 601 ∧
(∀ x3_5, x3_5 = (I (a0 + 4) (ix x1)) - (I (a0 + 3) (ix x1)) →
(vp_in x2 601 ∧
(vp_in x2 601 ∧
((x3_5 = ((I (a0 + 4) (ix x2)) - (I (a0 + 3) (ix x2))) → Lp1 (w_X7_isSame_l36 a0 x1 x2 x3_5 I B Q) (0 : Int32)) ∧
(¬ x3_5 = ((I (a0 + 4) (ix x2)) - (I (a0 + 3) (ix x2))) → Q (0 : Int32))))))))
set_option maxHeartbeats 4000000 in
set_option maxRecDepth 100000 in
theorem c_X7_isSame (K : Kx) (hW : WFK K) (l : Launch) (a0 : Nat) (x1 : Int32) (x2 : Int32) (k0 : (kG K a0).1 = 9) (I : MI) (J : MJ) (B : MR) (Q : Int32 →  Prop) (h : w_X7_isSame a0 x1 x2 I B Q) : Con K l yX7_isSame (wsT yX7_isSame cX7_isSame 5 (some .boolean)) rm_X7_isSame [.ref a0, .int x1, .int x2] (I, J, B) (va_Qi (S := Unit) (fun r _ => Q r) (fun u t => HP K (I, J, B) t.heap) (AA K)) := by
  refine Con.ofJ RX7 rfl (by decide) (Nat.le_of_ble_eq_true rfl) (fun m H0 w G => ?_)
  unfold w_X7_isSame at h
  show Jg K m 5 H0 w 0 [(0, .ref a0), (1, .int x1), (2, .int x2)] [] (I, J, B)
  refine j_aload_n G 0 0 dX7_isSame_0 rfl rfl ?_
  have kk1 : kG K (a0 + 4) = (20, 601) := wk_9_4 hW k0
  refine j_get G hW 8 3 7 (.ref (a0 + 4)) k0 (by decide) rfl (by decide) rfl lay_X7 fl_X7_21 rfl rfl dX7_isSame_1 ?_
  refine j_iload_n G 1 1 dX7_isSame_4 rfl rfl ?_
  obtain ⟨b2, h⟩ := h
  refine j_iald G hW kk1 b2 dX7_isSame_5 ?_
  refine j_aload_n G 0 0 dX7_isSame_6 rfl rfl ?_
  have kk3 : kG K (a0 + 3) = (20, 601) := wk_9_3 hW k0
  refine j_get G hW 8 2 6 (.ref (a0 + 3)) k0 (by decide) rfl (by decide) rfl lay_X7 fl_X7_18 rfl rfl dX7_isSame_7 ?_
  refine j_iload_n G 1 1 dX7_isSame_10 rfl rfl ?_
  obtain ⟨b4, h⟩ := h
  refine j_iald G hW kk3 b4 dX7_isSame_11 ?_
  refine j_isub G dX7_isSame_12 ?_
  refine j_nm (fun x3_5 ex3_5 => ?_)
  have h := h x3_5 ex3_5
  refine j_istore_n G 3 [(3, .int x3_5), (0, .ref a0), (1, .int x1), (2, .int x2)] dX7_isSame_13 rfl (by decide) rfl ?_
  refine j_iload_n G 0 3 dX7_isSame_14 rfl rfl ?_
  refine j_aload_n G 1 0 dX7_isSame_15 rfl rfl ?_
  refine j_get G hW 8 3 7 (.ref (a0 + 4)) k0 (by decide) rfl (by decide) rfl lay_X7 fl_X7_21 rfl rfl dX7_isSame_16 ?_
  refine j_iload_n G 3 2 dX7_isSame_19 rfl rfl ?_
  obtain ⟨b6, h⟩ := h
  refine j_iald G hW kk1 b6 dX7_isSame_20 ?_
  refine j_aload_n G 1 0 dX7_isSame_21 rfl rfl ?_
  refine j_get G hW 8 2 6 (.ref (a0 + 3)) k0 (by decide) rfl (by decide) rfl lay_X7 fl_X7_18 rfl rfl dX7_isSame_22 ?_
  refine j_iload_n G 3 2 dX7_isSame_25 rfl rfl ?_
  obtain ⟨b7, h⟩ := h
  refine j_iald G hW kk3 b7 dX7_isSame_26 ?_
  refine j_isub G dX7_isSame_27 ?_
  refine j_icmp_eq G 33 dX7_isSame_28 (by decide) (fun c8 => ?_) (fun c8 => ?_)
  · have h := h.1 c8
    refine j_iconst G (0 : Int32) dX7_isSame_33 (by decide) ?_
    refine j_istore G [(4, .int (0 : Int32)), (3, .int x3_5), (0, .ref a0), (1, .int x1), (2, .int x2)] dX7_isSame_34 (by decide) rfl ?_
    refine Jg.sub [2, 3, 4, 1, 0] rfl (m_X7_isSame_l36 G hW a0 x1 x2 x3_5 (0 : Int32) k0 h)
  · have h := h.2 c8
    refine j_iconst G (0 : Int32) dX7_isSame_31 (by decide) ?_
    exact j_reti G () (by decide) dX7_isSame_32 h rfl
abbrev rm_X4_isNext : Room := { frames := 0, cells := 0, slots := 0, locals := 0 }
def w_X4_isNext (a0 : Nat) (x1 : Int32) (I : MI) (Q : Int32 →  Prop) : Prop :=
(((I a0 1) = (1 : Int32) → Q (0 : Int32)) ∧
(¬ (I a0 1) = (1 : Int32) → (((600 : Int32) < (I a0 4) → Q (0 : Int32)) ∧
(¬ (600 : Int32) < (I a0 4) → (vp_in (I a0 4) 601 ∧
((¬ (I (a0 + 36) (ix (I a0 4))) = x1 → Q (0 : Int32)) ∧
((I (a0 + 36) (ix (I a0 4))) = x1 → Q (1 : Int32))))))))
set_option maxHeartbeats 4000000 in
set_option maxRecDepth 100000 in
theorem c_X4_isNext (K : Kx) (hW : WFK K) (l : Launch) (a0 : Nat) (x1 : Int32) (k0 : (kG K a0).1 = 6) (I : MI) (J : MJ) (B : MR) (Q : Int32 →  Prop) (h : w_X4_isNext a0 x1 I Q) : Con K l yX4_isNext (wsT yX4_isNext cX4_isNext 2 (some .boolean)) rm_X4_isNext [.ref a0, .int x1] (I, J, B) (va_Qi (S := Unit) (fun r _ => Q r) (fun u t => HP K (I, J, B) t.heap) (AA K)) := by
  refine Con.ofJ RX4 rfl (by decide) (Nat.le_of_ble_eq_true rfl) (fun m H0 w G => ?_)
  unfold w_X4_isNext at h
  show Jg K m 2 H0 w 0 [(0, .ref a0), (1, .int x1)] [] (I, J, B)
  refine j_aload_n G 0 0 dX4_isNext_0 rfl rfl ?_
  refine j_get G hW 5 1 0 (.int (I a0 1)) k0 (by decide) rfl (by decide) rfl lay_X4 fl_X4_43 rfl rfl dX4_isNext_1 ?_
  refine j_iconst G (1 : Int32) dX4_isNext_4 (by decide) ?_
  refine j_icmp_eq G 38 dX4_isNext_5 (by decide) (fun c1 => ?_) (fun c1 => ?_)
  · have h := h.1 c1
    refine j_iconst G (0 : Int32) dX4_isNext_38 (by decide) ?_
    exact j_reti G () (by decide) dX4_isNext_39 h rfl
  · have h := h.2 c1
    refine j_aload_n G 0 0 dX4_isNext_8 rfl rfl ?_
    refine j_get G hW 5 4 0 (.int (I a0 4)) k0 (by decide) rfl (by decide) rfl lay_X4 fl_X4_36 rfl rfl dX4_isNext_9 ?_
    refine j_sipush G (600 : Int32) dX4_isNext_12 (by decide) ?_
    refine j_icmp_gt G 38 dX4_isNext_15 (by decide) (fun c2 => ?_) (fun c2 => ?_)
    · have h := h.1 c2
      refine j_iconst G (0 : Int32) dX4_isNext_38 (by decide) ?_
      exact j_reti G () (by decide) dX4_isNext_39 h rfl
    · have h := h.2 c2
      refine j_aload_n G 0 0 dX4_isNext_18 rfl rfl ?_
      have kk3 : kG K (a0 + 35) = (9, 0) := wk_6_35 hW k0
      refine j_get G hW 5 3 38 (.ref (a0 + 35)) k0 (by decide) rfl (by decide) rfl lay_X4 fl_X4_21 rfl rfl dX4_isNext_19 ?_
      have kk4 : kG K (a0 + 36) = (20, 601) := wk_9_1 hW (congrArg Prod.fst kk3)
      refine j_get G hW 8 0 4 (.ref (a0 + 36)) (congrArg Prod.fst kk3) (by decide) rfl (by decide) rfl lay_X7 fl_X4_179 rfl rfl dX4_isNext_22 ?_
      refine j_aload_n G 0 0 dX4_isNext_25 rfl rfl ?_
      refine j_get G hW 5 4 0 (.int (I a0 4)) k0 (by decide) rfl (by decide) rfl lay_X4 fl_X4_36 rfl rfl dX4_isNext_26 ?_
      obtain ⟨b5, h⟩ := h
      refine j_iald G hW kk4 b5 dX4_isNext_29 ?_
      refine j_iload_n G 1 1 dX4_isNext_30 rfl rfl ?_
      refine j_icmp_ne G 38 dX4_isNext_31 (by decide) (fun c6 => ?_) (fun c6 => ?_)
      · have h := h.1 c6
        refine j_iconst G (0 : Int32) dX4_isNext_38 (by decide) ?_
        exact j_reti G () (by decide) dX4_isNext_39 h rfl
      · have h := h.2 c6
        refine j_iconst G (1 : Int32) dX4_isNext_34 (by decide) ?_
        refine j_goto G 39 dX4_isNext_35 (by decide) ?_
        exact j_reti G () (by decide) dX4_isNext_39 h rfl
abbrev rm_X4_isBroken : Room := { frames := 0, cells := 0, slots := 0, locals := 0 }
def w_X4_isBroken (a0 : Nat) (I : MI) (Q : Int32 →  Prop) : Prop :=
((¬ (I a0 1) = (1 : Int32) → Q (0 : Int32)) ∧
((I a0 1) = (1 : Int32) → Q (1 : Int32)))
set_option maxHeartbeats 4000000 in
set_option maxRecDepth 100000 in
theorem c_X4_isBroken (K : Kx) (hW : WFK K) (l : Launch) (a0 : Nat) (k0 : (kG K a0).1 = 6) (I : MI) (J : MJ) (B : MR) (Q : Int32 →  Prop) (h : w_X4_isBroken a0 I Q) : Con K l yX4_isBroken (wsT yX4_isBroken cX4_isBroken 1 (some .boolean)) rm_X4_isBroken [.ref a0] (I, J, B) (va_Qi (S := Unit) (fun r _ => Q r) (fun u t => HP K (I, J, B) t.heap) (AA K)) := by
  refine Con.ofJ RX4 rfl (by decide) (Nat.le_of_ble_eq_true rfl) (fun m H0 w G => ?_)
  unfold w_X4_isBroken at h
  show Jg K m 1 H0 w 0 [(0, .ref a0)] [] (I, J, B)
  refine j_aload_n G 0 0 dX4_isBroken_0 rfl rfl ?_
  refine j_get G hW 5 1 0 (.int (I a0 1)) k0 (by decide) rfl (by decide) rfl lay_X4 fl_X4_43 rfl rfl dX4_isBroken_1 ?_
  refine j_iconst G (1 : Int32) dX4_isBroken_4 (by decide) ?_
  refine j_icmp_ne G 12 dX4_isBroken_5 (by decide) (fun c1 => ?_) (fun c1 => ?_)
  · have h := h.1 c1
    refine j_iconst G (0 : Int32) dX4_isBroken_12 (by decide) ?_
    exact j_reti G () (by decide) dX4_isBroken_13 h rfl
  · have h := h.2 c1
    refine j_iconst G (1 : Int32) dX4_isBroken_8 (by decide) ?_
    refine j_goto G 13 dX4_isBroken_9 (by decide) ?_
    exact j_reti G () (by decide) dX4_isBroken_13 h rfl
abbrev rm_X4_breakOff : Room := { frames := 0, cells := 0, slots := 0, locals := 0 }
def w_X4_breakOff (a0 : Nat) (I : MI) (Q : MI → Prop) : Prop :=
(((I a0 1) = (1 : Int32) → Q I) ∧
(¬ (I a0 1) = (1 : Int32) → (((600 : Int32) < (I a0 4) → Q I) ∧
(¬ (600 : Int32) < (I a0 4) → (∀ I3, I3 = ui I a0 1 (1 : Int32) →
(vp_in (I3 a0 4) 601 ∧
(∀ I7, I7 = ui I3 a0 2 (I3 (a0 + 38) (ix (I3 a0 4))) →
Q I7)))))))
set_option maxHeartbeats 4000000 in
set_option maxRecDepth 100000 in
theorem c_X4_breakOff (K : Kx) (hW : WFK K) (l : Launch) (a0 : Nat) (k0 : (kG K a0).1 = 6) (I : MI) (J : MJ) (B : MR) (Q : MI → Prop) (h : w_X4_breakOff a0 I Q) : Con K l yX4_breakOff (wsT yX4_breakOff cX4_breakOff 1 none) rm_X4_breakOff [.ref a0] (I, J, B) (va_Qv (S := MI) Q (fun u t => HP K (u, J, B) t.heap) (AA K)) := by
  refine Con.ofJ RX4 rfl (by decide) (Nat.le_of_ble_eq_true rfl) (fun m H0 w G => ?_)
  unfold w_X4_breakOff at h
  show Jg K m 1 H0 w 0 [(0, .ref a0)] [] (I, J, B)
  refine j_aload_n G 0 0 dX4_breakOff_0 rfl rfl ?_
  refine j_get G hW 5 1 0 (.int (I a0 1)) k0 (by decide) rfl (by decide) rfl lay_X4 fl_X4_43 rfl rfl dX4_breakOff_1 ?_
  refine j_iconst G (1 : Int32) dX4_breakOff_4 (by decide) ?_
  refine j_icmp_eq G 39 dX4_breakOff_5 (by decide) (fun c1 => ?_) (fun c1 => ?_)
  · have h := h.1 c1
    exact j_retv G I dX4_breakOff_39 h rfl
  · have h := h.2 c1
    refine j_aload_n G 0 0 dX4_breakOff_8 rfl rfl ?_
    refine j_get G hW 5 4 0 (.int (I a0 4)) k0 (by decide) rfl (by decide) rfl lay_X4 fl_X4_36 rfl rfl dX4_breakOff_9 ?_
    refine j_sipush G (600 : Int32) dX4_breakOff_12 (by decide) ?_
    refine j_icmp_gt G 39 dX4_breakOff_15 (by decide) (fun c2 => ?_) (fun c2 => ?_)
    · have h := h.1 c2
      exact j_retv G I dX4_breakOff_39 h rfl
    · have h := h.2 c2
      refine j_aload_n G 0 0 dX4_breakOff_18 rfl rfl ?_
      refine j_iconst G (1 : Int32) dX4_breakOff_19 (by decide) ?_
      refine j_put G hW 5 1 tyX4 (tyX4 1) tyX4_ok nmX4 k0 (by decide) rfl (by decide) rfl lay_X4 fl_X4_43 rfl rfl (tyX4_ok 1 (by decide)) rfl rfl dX4_breakOff_20 ?_
      refine j_mI (fun I3 eI3 => ?_)
      have h := h I3 eI3
      refine j_aload_n G 0 0 dX4_breakOff_23 rfl rfl ?_
      refine j_aload_n G 0 0 dX4_breakOff_24 rfl rfl ?_
      have kk4 : kG K (a0 + 35) = (9, 0) := wk_6_35 hW k0
      refine j_get G hW 5 3 38 (.ref (a0 + 35)) k0 (by decide) rfl (by decide) rfl lay_X4 fl_X4_21 rfl rfl dX4_breakOff_25 ?_
      have kk5 : kG K (a0 + 38) = (20, 601) := wk_9_3 hW (congrArg Prod.fst kk4)
      refine j_get G hW 8 2 6 (.ref (a0 + 38)) (congrArg Prod.fst kk4) (by decide) rfl (by decide) rfl lay_X7 fl_X4_182 rfl rfl dX4_breakOff_28 ?_
      refine j_aload_n G 0 0 dX4_breakOff_31 rfl rfl ?_
      refine j_get G hW 5 4 0 (.int (I3 a0 4)) k0 (by decide) rfl (by decide) rfl lay_X4 fl_X4_36 rfl rfl dX4_breakOff_32 ?_
      obtain ⟨b6, h⟩ := h
      refine j_iald G hW kk5 b6 dX4_breakOff_35 ?_
      refine j_put G hW 5 2 tyX4 (tyX4 2) tyX4_ok nmX4 k0 (by decide) rfl (by decide) rfl lay_X4 fl_X4_46 rfl rfl (tyX4_ok 2 (by decide)) rfl rfl dX4_breakOff_36 ?_
      refine j_mI (fun I7 eI7 => ?_)
      have h := h I7 eI7
      exact j_retv G I7 dX4_breakOff_39 h rfl
abbrev rm_X4_take : Room := { frames := 1, cells := 0, slots := 0, locals := 21 }
def w_X4_take (a0 : Nat) (x1 : Int32) (I : MI) (Q : Int32 → MI → Prop) : Prop :=
(w_X4_isNext a0 x1 I (fun r1 =>
((¬ r1 = 0 → (vp_in (I a0 4) 601 ∧
(∀ x2_6, x2_6 = I (a0 + 37) (ix (I a0 4)) →
(∀ I7, I7 = ui I a0 4 ((I a0 4) + (1 : Int32)) →
Q x2_6 I7)))) ∧
(r1 = 0 → (w_X4_breakOff a0 I (fun I8 =>
Q (0 : Int32) I8))))))
set_option maxHeartbeats 4000000 in
set_option maxRecDepth 100000 in
theorem c_X4_take (K : Kx) (hW : WFK K) (l : Launch) (a0 : Nat) (x1 : Int32) (k0 : (kG K a0).1 = 6) (I : MI) (J : MJ) (B : MR) (Q : Int32 → MI → Prop) (h : w_X4_take a0 x1 I Q) : Con K l yX4_take (wsT yX4_take cX4_take 3 (some .int)) rm_X4_take [.ref a0, .int x1] (I, J, B) (va_Qi (S := MI) Q (fun u t => HP K (u, J, B) t.heap) (AA K)) := by
  refine Con.ofJ RX4 rfl (by decide) (Nat.le_of_ble_eq_true rfl) (fun m H0 w G => ?_)
  unfold w_X4_take at h
  show Jg K m 3 H0 w 0 [(0, .ref a0), (1, .int x1)] [] (I, J, B)
  refine j_aload_n G 0 0 dX4_take_0 rfl rfl ?_
  refine j_iload_n G 1 1 dX4_take_1 rfl rfl ?_
  refine j_ci (rn_V G hW (ci := 5) (n := 1) (As := [.int x1]) (rest := []) (c_X4_isNext K hW l a0 x1 k0 I J B _ h) k0 (by decide) rfl ml_X4_58 im_X4_isNext se_X4_isNext in_X4 co_X4_isNext rfl (by decide +kernel) rfl rfl (by decide) (by decide) rfl rfl (Nat.le_of_ble_eq_true rfl) dX4_take_2) (fun r1 _ h => ?_)
  refine j_if_ne G 14 dX4_take_5 (by decide) (fun c2 => ?_) (fun c2 => ?_)
  · have h := h.1 c2
    refine j_aload_n G 0 0 dX4_take_14 rfl rfl ?_
    have kk3 : kG K (a0 + 35) = (9, 0) := wk_6_35 hW k0
    refine j_get G hW 5 3 38 (.ref (a0 + 35)) k0 (by decide) rfl (by decide) rfl lay_X4 fl_X4_21 rfl rfl dX4_take_15 ?_
    have kk4 : kG K (a0 + 37) = (20, 601) := wk_9_2 hW (congrArg Prod.fst kk3)
    refine j_get G hW 8 1 5 (.ref (a0 + 37)) (congrArg Prod.fst kk3) (by decide) rfl (by decide) rfl lay_X7 fl_X4_90 rfl rfl dX4_take_18 ?_
    refine j_aload_n G 0 0 dX4_take_21 rfl rfl ?_
    refine j_get G hW 5 4 0 (.int (I a0 4)) k0 (by decide) rfl (by decide) rfl lay_X4 fl_X4_36 rfl rfl dX4_take_22 ?_
    obtain ⟨b5, h⟩ := h
    refine j_iald G hW kk4 b5 dX4_take_25 ?_
    refine j_nm (fun x2_6 ex2_6 => ?_)
    have h := h x2_6 ex2_6
    refine j_istore_n G 2 [(2, .int x2_6), (0, .ref a0), (1, .int x1)] dX4_take_26 rfl (by decide) rfl ?_
    refine j_aload_n G 1 0 dX4_take_27 rfl rfl ?_
    refine j_dup G rfl dX4_take_28 ?_
    refine j_get G hW 5 4 0 (.int (I a0 4)) k0 (by decide) rfl (by decide) rfl lay_X4 fl_X4_36 rfl rfl dX4_take_29 ?_
    refine j_iconst G (1 : Int32) dX4_take_32 (by decide) ?_
    refine j_iadd G dX4_take_33 ?_
    refine j_put G hW 5 4 tyX4 (tyX4 4) tyX4_ok nmX4 k0 (by decide) rfl (by decide) rfl lay_X4 fl_X4_36 rfl rfl (tyX4_ok 4 (by decide)) rfl rfl dX4_take_34 ?_
    refine j_mI (fun I7 eI7 => ?_)
    have h := h I7 eI7
    refine j_iload_n G 0 2 dX4_take_37 rfl rfl ?_
    exact j_reti G I7 rfl dX4_take_38 h rfl
  · have h := h.2 c2
    refine j_aload_n G 0 0 dX4_take_8 rfl rfl ?_
    refine j_cv (rn_V G hW (ci := 5) (n := 0) (As := []) (rest := []) (c_X4_breakOff K hW l a0 k0 I J B _ h) k0 (by decide) rfl ml_X4_142 im_X4_breakOff se_X4_breakOff in_X4 co_X4_breakOff rfl (by decide +kernel) rfl rfl (by decide) (by decide) rfl rfl (Nat.le_of_ble_eq_true rfl) dX4_take_9) (fun I8 h => ?_)
    refine j_iconst G (0 : Int32) dX4_take_12 (by decide) ?_
    exact j_reti G I8 rfl dX4_take_13 h rfl
abbrev rm_X4_note : Room := { frames := 0, cells := 0, slots := 0, locals := 0 }
def w_X4_note (a0 : Nat) (x1 : Int32) (x2 : Int32) (I : MI) (Q : MI → Prop) : Prop :=
(((I a0 1) = 0 → (∀ I2, I2 = ui I a0 1 x1 →
(vp_in x2 601 ∧
(∀ I6, I6 = ui I2 a0 2 (I2 (a0 + 38) (ix x2)) →
Q I6)))) ∧
(¬ (I a0 1) = 0 → (vp_in x2 601 ∧
(((I a0 2) ≤ (I (a0 + 38) (ix x2)) → Q I) ∧
(¬ (I a0 2) ≤ (I (a0 + 38) (ix x2)) → (∀ I11, I11 = ui I a0 1 x1 →
(vp_in x2 601 ∧
(∀ I13, I13 = ui I11 a0 2 (I11 (a0 + 38) (ix x2)) →
Q I13))))))))
set_option maxHeartbeats 4000000 in
set_option maxRecDepth 100000 in
theorem c_X4_note (K : Kx) (hW : WFK K) (l : Launch) (a0 : Nat) (x1 : Int32) (x2 : Int32) (k0 : (kG K a0).1 = 6) (I : MI) (J : MJ) (B : MR) (Q : MI → Prop) (h : w_X4_note a0 x1 x2 I Q) : Con K l yX4_note (wsT yX4_note cX4_note 3 none) rm_X4_note [.ref a0, .int x1, .int x2] (I, J, B) (va_Qv (S := MI) Q (fun u t => HP K (u, J, B) t.heap) (AA K)) := by
  refine Con.ofJ RX4 rfl (by decide) (Nat.le_of_ble_eq_true rfl) (fun m H0 w G => ?_)
  unfold w_X4_note at h
  show Jg K m 3 H0 w 0 [(0, .ref a0), (1, .int x1), (2, .int x2)] [] (I, J, B)
  refine j_aload_n G 0 0 dX4_note_0 rfl rfl ?_
  refine j_get G hW 5 1 0 (.int (I a0 1)) k0 (by decide) rfl (by decide) rfl lay_X4 fl_X4_43 rfl rfl dX4_note_1 ?_
  refine j_if_eq G 23 dX4_note_4 (by decide) (fun c1 => ?_) (fun c1 => ?_)
  · have h := h.1 c1
    refine j_aload_n G 0 0 dX4_note_23 rfl rfl ?_
    refine j_iload_n G 1 1 dX4_note_24 rfl rfl ?_
    refine j_put G hW 5 1 tyX4 (tyX4 1) tyX4_ok nmX4 k0 (by decide) rfl (by decide) rfl lay_X4 fl_X4_43 rfl rfl (tyX4_ok 1 (by decide)) rfl rfl dX4_note_25 ?_
    refine j_mI (fun I2 eI2 => ?_)
    have h := h I2 eI2
    refine j_aload_n G 0 0 dX4_note_28 rfl rfl ?_
    refine j_aload_n G 0 0 dX4_note_29 rfl rfl ?_
    have kk3 : kG K (a0 + 35) = (9, 0) := wk_6_35 hW k0
    refine j_get G hW 5 3 38 (.ref (a0 + 35)) k0 (by decide) rfl (by decide) rfl lay_X4 fl_X4_21 rfl rfl dX4_note_30 ?_
    have kk4 : kG K (a0 + 38) = (20, 601) := wk_9_3 hW (congrArg Prod.fst kk3)
    refine j_get G hW 8 2 6 (.ref (a0 + 38)) (congrArg Prod.fst kk3) (by decide) rfl (by decide) rfl lay_X7 fl_X4_182 rfl rfl dX4_note_33 ?_
    refine j_iload_n G 2 2 dX4_note_36 rfl rfl ?_
    obtain ⟨b5, h⟩ := h
    refine j_iald G hW kk4 b5 dX4_note_37 ?_
    refine j_put G hW 5 2 tyX4 (tyX4 2) tyX4_ok nmX4 k0 (by decide) rfl (by decide) rfl lay_X4 fl_X4_46 rfl rfl (tyX4_ok 2 (by decide)) rfl rfl dX4_note_38 ?_
    refine j_mI (fun I6 eI6 => ?_)
    have h := h I6 eI6
    exact j_retv G I6 dX4_note_41 h rfl
  · have h := h.2 c1
    refine j_aload_n G 0 0 dX4_note_7 rfl rfl ?_
    have kk7 : kG K (a0 + 35) = (9, 0) := wk_6_35 hW k0
    refine j_get G hW 5 3 38 (.ref (a0 + 35)) k0 (by decide) rfl (by decide) rfl lay_X4 fl_X4_21 rfl rfl dX4_note_8 ?_
    have kk8 : kG K (a0 + 38) = (20, 601) := wk_9_3 hW (congrArg Prod.fst kk7)
    refine j_get G hW 8 2 6 (.ref (a0 + 38)) (congrArg Prod.fst kk7) (by decide) rfl (by decide) rfl lay_X7 fl_X4_182 rfl rfl dX4_note_11 ?_
    refine j_iload_n G 2 2 dX4_note_14 rfl rfl ?_
    obtain ⟨b9, h⟩ := h
    refine j_iald G hW kk8 b9 dX4_note_15 ?_
    refine j_aload_n G 0 0 dX4_note_16 rfl rfl ?_
    refine j_get G hW 5 2 0 (.int (I a0 2)) k0 (by decide) rfl (by decide) rfl lay_X4 fl_X4_46 rfl rfl dX4_note_17 ?_
    refine j_icmp_ge G 41 dX4_note_20 (by decide) (fun c10 => ?_) (fun c10 => ?_)
    · have h := h.1 c10
      exact j_retv G I dX4_note_41 h rfl
    · have h := h.2 c10
      refine j_aload_n G 0 0 dX4_note_23 rfl rfl ?_
      refine j_iload_n G 1 1 dX4_note_24 rfl rfl ?_
      refine j_put G hW 5 1 tyX4 (tyX4 1) tyX4_ok nmX4 k0 (by decide) rfl (by decide) rfl lay_X4 fl_X4_43 rfl rfl (tyX4_ok 1 (by decide)) rfl rfl dX4_note_25 ?_
      refine j_mI (fun I11 eI11 => ?_)
      have h := h I11 eI11
      refine j_aload_n G 0 0 dX4_note_28 rfl rfl ?_
      refine j_aload_n G 0 0 dX4_note_29 rfl rfl ?_
      refine j_get G hW 5 3 38 (.ref (a0 + 35)) k0 (by decide) rfl (by decide) rfl lay_X4 fl_X4_21 rfl rfl dX4_note_30 ?_
      refine j_get G hW 8 2 6 (.ref (a0 + 38)) (congrArg Prod.fst kk7) (by decide) rfl (by decide) rfl lay_X7 fl_X4_182 rfl rfl dX4_note_33 ?_
      refine j_iload_n G 2 2 dX4_note_36 rfl rfl ?_
      obtain ⟨b12, h⟩ := h
      refine j_iald G hW kk8 b12 dX4_note_37 ?_
      refine j_put G hW 5 2 tyX4 (tyX4 2) tyX4_ok nmX4 k0 (by decide) rfl (by decide) rfl lay_X4 fl_X4_46 rfl rfl (tyX4_ok 2 (by decide)) rfl rfl dX4_note_38 ?_
      refine j_mI (fun I13 eI13 => ?_)
      have h := h I13 eI13
      exact j_retv G I13 dX4_note_41 h rfl
abbrev rm_X4_takeNumber : Room := { frames := 2, cells := 0, slots := 0, locals := 43 }
def w_X4_takeNumber (a0 : Nat) (x1 : Int32) (x2 : Int32) (I : MI) (Q : Int32 → MI → Prop) : Prop :=
(∀ x3_1, x3_1 = I a0 4 →
(w_X4_take a0 (4 : Int32) I (fun r2 I3 =>
(w_X4_isBroken a0 I3 (fun r4 =>
((¬ r4 = 0 → Q (if x1 < r2 then r2 else x1) I3) ∧
(r4 = 0 → ((r2 < x1 → (w_X4_note a0 (2 : Int32) x3_1 I3 (fun I7 =>
Q x1 I7))) ∧
(¬ r2 < x1 → ((x2 < r2 → (w_X4_note a0 (2 : Int32) x3_1 I3 (fun I9 =>
Q x1 I9))) ∧
(¬ x2 < r2 → Q (if x1 < r2 then r2 else x1) I3)))))))))))
set_option maxHeartbeats 4000000 in
set_option maxRecDepth 100000 in
theorem c_X4_takeNumber (K : Kx) (hW : WFK K) (l : Launch) (a0 : Nat) (x1 : Int32) (x2 : Int32) (k0 : (kG K a0).1 = 6) (I : MI) (J : MJ) (B : MR) (Q : Int32 → MI → Prop) (h : w_X4_takeNumber a0 x1 x2 I Q) : Con K l yX4_takeNumber (wsT yX4_takeNumber cX4_takeNumber 5 (some .int)) rm_X4_takeNumber [.ref a0, .int x1, .int x2] (I, J, B) (va_Qi (S := MI) Q (fun u t => HP K (u, J, B) t.heap) (AA K)) := by
  refine Con.ofJ RX4 rfl (by decide) (Nat.le_of_ble_eq_true rfl) (fun m H0 w G => ?_)
  unfold w_X4_takeNumber at h
  show Jg K m 5 H0 w 0 [(0, .ref a0), (1, .int x1), (2, .int x2)] [] (I, J, B)
  refine j_aload_n G 0 0 dX4_takeNumber_0 rfl rfl ?_
  refine j_get G hW 5 4 0 (.int (I a0 4)) k0 (by decide) rfl (by decide) rfl lay_X4 fl_X4_36 rfl rfl dX4_takeNumber_1 ?_
  refine j_nm (fun x3_1 ex3_1 => ?_)
  have h := h x3_1 ex3_1
  refine j_istore_n G 3 [(3, .int x3_1), (0, .ref a0), (1, .int x1), (2, .int x2)] dX4_takeNumber_4 rfl (by decide) rfl ?_
  refine j_aload_n G 1 0 dX4_takeNumber_5 rfl rfl ?_
  refine j_iconst G (4 : Int32) dX4_takeNumber_6 (by decide) ?_
  refine j_ci (rn_V G hW (ci := 5) (n := 1) (As := [.int (4 : Int32)]) (rest := []) (c_X4_take K hW l a0 (4 : Int32) k0 I J B _ h) k0 (by decide) rfl ml_X4_106 im_X4_take se_X4_take in_X4 co_X4_take rfl (by decide +kernel) rfl rfl (by decide) (by decide) rfl rfl (Nat.le_of_ble_eq_true rfl) dX4_takeNumber_7) (fun r2 I3 h => ?_)
  refine j_istore G [(4, .int r2), (3, .int x3_1), (0, .ref a0), (1, .int x1), (2, .int x2)] dX4_takeNumber_10 (by decide) rfl ?_
  refine j_aload_n G 2 0 dX4_takeNumber_12 rfl rfl ?_
  refine j_ci (rn_V G hW (ci := 5) (n := 0) (As := []) (rest := []) (c_X4_isBroken K hW l a0 k0 I3 J B _ h) k0 (by decide) rfl ml_X4_62 im_X4_isBroken se_X4_isBroken in_X4 co_X4_isBroken rfl (by decide +kernel) rfl rfl (by decide) (by decide) rfl rfl (Nat.le_of_ble_eq_true rfl) dX4_takeNumber_13) (fun r4 _ h => ?_)
  refine j_if_ne G 31 dX4_takeNumber_16 (by decide) (fun c5 => ?_) (fun c5 => ?_)
  · have h := h.1 c5
    refine j_iload_n G 3 1 dX4_takeNumber_31 rfl rfl ?_
    refine j_iload G 0 dX4_takeNumber_32 rfl ?_
    refine j_mmax G ml_X4_176 st_J9_max_7cf53 in_J9 co_J9_max_7cf53 (by decide) (by decide) (Nat.le_of_ble_eq_true rfl) dX4_takeNumber_34 ?_
    exact j_reti G I3 rfl dX4_takeNumber_37 h rfl
  · have h := h.2 c5
    refine j_iload G 0 dX4_takeNumber_19 rfl ?_
    refine j_iload_n G 3 1 dX4_takeNumber_21 rfl rfl ?_
    refine j_icmp_lt G 38 dX4_takeNumber_22 (by decide) (fun c6 => ?_) (fun c6 => ?_)
    · have h := h.1 c6
      refine j_aload_n G 2 0 dX4_takeNumber_38 rfl rfl ?_
      refine j_iconst G (2 : Int32) dX4_takeNumber_39 (by decide) ?_
      refine j_iload_n G 1 3 dX4_takeNumber_40 rfl rfl ?_
      refine j_cv (rn_V G hW (ci := 5) (n := 2) (As := [.int (2 : Int32), .int x3_1]) (rest := []) (c_X4_note K hW l a0 (2 : Int32) x3_1 k0 I3 J B _ h) k0 (by decide) rfl ml_X4_138 im_X4_note se_X4_note in_X4 co_X4_note rfl (by decide +kernel) rfl rfl (by decide) (by decide) rfl rfl (Nat.le_of_ble_eq_true rfl) dX4_takeNumber_41) (fun I7 h => ?_)
      refine j_iload_n G 3 1 dX4_takeNumber_44 rfl rfl ?_
      exact j_reti G I7 rfl dX4_takeNumber_45 h rfl
    · have h := h.2 c6
      refine j_iload G 0 dX4_takeNumber_25 rfl ?_
      refine j_iload_n G 4 2 dX4_takeNumber_27 rfl rfl ?_
      refine j_icmp_gt G 38 dX4_takeNumber_28 (by decide) (fun c8 => ?_) (fun c8 => ?_)
      · have h := h.1 c8
        refine j_aload_n G 2 0 dX4_takeNumber_38 rfl rfl ?_
        refine j_iconst G (2 : Int32) dX4_takeNumber_39 (by decide) ?_
        refine j_iload_n G 1 3 dX4_takeNumber_40 rfl rfl ?_
        refine j_cv (rn_V G hW (ci := 5) (n := 2) (As := [.int (2 : Int32), .int x3_1]) (rest := []) (c_X4_note K hW l a0 (2 : Int32) x3_1 k0 I3 J B _ h) k0 (by decide) rfl ml_X4_138 im_X4_note se_X4_note in_X4 co_X4_note rfl (by decide +kernel) rfl rfl (by decide) (by decide) rfl rfl (Nat.le_of_ble_eq_true rfl) dX4_takeNumber_41) (fun I9 h => ?_)
        refine j_iload_n G 3 1 dX4_takeNumber_44 rfl rfl ?_
        exact j_reti G I9 rfl dX4_takeNumber_45 h rfl
      · have h := h.2 c8
        refine j_iload_n G 3 1 dX4_takeNumber_31 rfl rfl ?_
        refine j_iload G 0 dX4_takeNumber_32 rfl ?_
        refine j_mmax G ml_X4_176 st_J9_max_7cf53 in_J9 co_J9_max_7cf53 (by decide) (by decide) (Nat.le_of_ble_eq_true rfl) dX4_takeNumber_34 ?_
        exact j_reti G I3 rfl dX4_takeNumber_37 h rfl
abbrev rm_X4_takeQueue : Room := { frames := 2, cells := 0, slots := 0, locals := 43 }
def w_X4_takeQueue (a0 : Nat) (I : MI) (Q : Int32 → MI → Prop) : Prop :=
(w_X4_isNext a0 (1 : Int32) I (fun r1 =>
((r1 = 0 → (w_X4_breakOff a0 I (fun I3 =>
Q (0 : Int32) I3))) ∧
(¬ r1 = 0 → (vp_in (I a0 4) 601 ∧
(((14 : Int32) ≤ (I (a0 + 37) (ix (I a0 4))) → (w_X4_take a0 (1 : Int32) I (fun r8 I9 =>
Q (r8 - (14 : Int32)) I9))) ∧
(¬ (14 : Int32) ≤ (I (a0 + 37) (ix (I a0 4))) → (w_X4_breakOff a0 I (fun I10 =>
Q (0 : Int32) I10)))))))))
set_option maxHeartbeats 4000000 in
set_option maxRecDepth 100000 in
theorem c_X4_takeQueue (K : Kx) (hW : WFK K) (l : Launch) (a0 : Nat) (k0 : (kG K a0).1 = 6) (I : MI) (J : MJ) (B : MR) (Q : Int32 → MI → Prop) (h : w_X4_takeQueue a0 I Q) : Con K l yX4_takeQueue (wsT yX4_takeQueue cX4_takeQueue 1 (some .int)) rm_X4_takeQueue [.ref a0] (I, J, B) (va_Qi (S := MI) Q (fun u t => HP K (u, J, B) t.heap) (AA K)) := by
  refine Con.ofJ RX4 rfl (by decide) (Nat.le_of_ble_eq_true rfl) (fun m H0 w G => ?_)
  unfold w_X4_takeQueue at h
  show Jg K m 1 H0 w 0 [(0, .ref a0)] [] (I, J, B)
  refine j_aload_n G 0 0 dX4_takeQueue_0 rfl rfl ?_
  refine j_iconst G (1 : Int32) dX4_takeQueue_1 (by decide) ?_
  refine j_ci (rn_V G hW (ci := 5) (n := 1) (As := [.int (1 : Int32)]) (rest := []) (c_X4_isNext K hW l a0 (1 : Int32) k0 I J B _ h) k0 (by decide) rfl ml_X4_58 im_X4_isNext se_X4_isNext in_X4 co_X4_isNext rfl (by decide +kernel) rfl rfl (by decide) (by decide) rfl rfl (Nat.le_of_ble_eq_true rfl) dX4_takeQueue_2) (fun r1 _ h => ?_)
  refine j_if_eq G 25 dX4_takeQueue_5 (by decide) (fun c2 => ?_) (fun c2 => ?_)
  · have h := h.1 c2
    refine j_aload_n G 0 0 dX4_takeQueue_25 rfl rfl ?_
    refine j_cv (rn_V G hW (ci := 5) (n := 0) (As := []) (rest := []) (c_X4_breakOff K hW l a0 k0 I J B _ h) k0 (by decide) rfl ml_X4_142 im_X4_breakOff se_X4_breakOff in_X4 co_X4_breakOff rfl (by decide +kernel) rfl rfl (by decide) (by decide) rfl rfl (Nat.le_of_ble_eq_true rfl) dX4_takeQueue_26) (fun I3 h => ?_)
    refine j_iconst G (0 : Int32) dX4_takeQueue_29 (by decide) ?_
    exact j_reti G I3 rfl dX4_takeQueue_30 h rfl
  · have h := h.2 c2
    refine j_aload_n G 0 0 dX4_takeQueue_8 rfl rfl ?_
    have kk4 : kG K (a0 + 35) = (9, 0) := wk_6_35 hW k0
    refine j_get G hW 5 3 38 (.ref (a0 + 35)) k0 (by decide) rfl (by decide) rfl lay_X4 fl_X4_21 rfl rfl dX4_takeQueue_9 ?_
    have kk5 : kG K (a0 + 37) = (20, 601) := wk_9_2 hW (congrArg Prod.fst kk4)
    refine j_get G hW 8 1 5 (.ref (a0 + 37)) (congrArg Prod.fst kk4) (by decide) rfl (by decide) rfl lay_X7 fl_X4_90 rfl rfl dX4_takeQueue_12 ?_
    refine j_aload_n G 0 0 dX4_takeQueue_15 rfl rfl ?_
    refine j_get G hW 5 4 0 (.int (I a0 4)) k0 (by decide) rfl (by decide) rfl lay_X4 fl_X4_36 rfl rfl dX4_takeQueue_16 ?_
    obtain ⟨b6, h⟩ := h
    refine j_iald G hW kk5 b6 dX4_takeQueue_19 ?_
    refine j_bipush G (14 : Int32) dX4_takeQueue_20 (by decide) ?_
    refine j_icmp_ge G 31 dX4_takeQueue_22 (by decide) (fun c7 => ?_) (fun c7 => ?_)
    · have h := h.1 c7
      refine j_aload_n G 0 0 dX4_takeQueue_31 rfl rfl ?_
      refine j_iconst G (1 : Int32) dX4_takeQueue_32 (by decide) ?_
      refine j_ci (rn_V G hW (ci := 5) (n := 1) (As := [.int (1 : Int32)]) (rest := []) (c_X4_take K hW l a0 (1 : Int32) k0 I J B _ h) k0 (by decide) rfl ml_X4_106 im_X4_take se_X4_take in_X4 co_X4_take rfl (by decide +kernel) rfl rfl (by decide) (by decide) rfl rfl (Nat.le_of_ble_eq_true rfl) dX4_takeQueue_33) (fun r8 I9 h => ?_)
      refine j_bipush G (14 : Int32) dX4_takeQueue_36 (by decide) ?_
      refine j_isub G dX4_takeQueue_38 ?_
      exact j_reti G I9 rfl dX4_takeQueue_39 h rfl
    · have h := h.2 c7
      refine j_aload_n G 0 0 dX4_takeQueue_25 rfl rfl ?_
      refine j_cv (rn_V G hW (ci := 5) (n := 0) (As := []) (rest := []) (c_X4_breakOff K hW l a0 k0 I J B _ h) k0 (by decide) rfl ml_X4_142 im_X4_breakOff se_X4_breakOff in_X4 co_X4_breakOff rfl (by decide +kernel) rfl rfl (by decide) (by decide) rfl rfl (Nat.le_of_ble_eq_true rfl) dX4_takeQueue_26) (fun I10 h => ?_)
      refine j_iconst G (0 : Int32) dX4_takeQueue_29 (by decide) ?_
      exact j_reti G I10 rfl dX4_takeQueue_30 h rfl
abbrev rm_X4_readSetting : Room := { frames := 3, cells := 0, slots := 0, locals := 67 }
def w_X4_readSetting (a0 : Nat) (I : MI) (Q : MI → Prop) : Prop :=
(w_X4_take a0 (1 : Int32) I (fun r1 I2 =>
((r1 = (0 : Int32) → (w_X4_takeNumber a0 (1 : Int32) (9 : Int32) I2 (fun r4 I5 =>
(∀ I6, I6 = ui I5 (a0 + 1) 2 r4 →
Q I6)))) ∧
(r1 = (1 : Int32) → (w_X4_takeQueue a0 I2 (fun r7 I8 =>
(w_X4_takeNumber a0 (1 : Int32) (6 : Int32) I8 (fun r11 I12 =>
(vp_in r7 6 ∧
(∀ I14, I14 = ui I12 (a0 + 3) (ix r7) r11 →
Q I14))))))) ∧
(r1 = (2 : Int32) → (w_X4_takeNumber a0 (0 : Int32) (31 : Int32) I2 (fun r15 I16 =>
(w_X4_takeNumber a0 (0 : Int32) (999 : Int32) I16 (fun r19 I20 =>
(vp_in r15 32 ∧
(∀ I22, I22 = ui I20 (a0 + 4) (ix r15) r19 →
Q I22))))))) ∧
(r1 = (3 : Int32) → (w_X4_take a0 (2 : Int32) I2 (fun r23 I24 =>
(w_X4_takeNumber a0 (0 : Int32) (999 : Int32) I24 (fun r27 I28 =>
(vp_in r23 8 ∧
(∀ I30, I30 = ui I28 (a0 + 5) (ix r23) r27 →
Q I30))))))) ∧
(¬ r1 = (0 : Int32) → ¬ r1 = (1 : Int32) → ¬ r1 = (2 : Int32) → ¬ r1 = (3 : Int32) → (w_X4_take a0 (2 : Int32) I2 (fun r32 I33 =>
(w_X9_bit r32 (fun r34 =>
(∀ I35, I35 = ui I33 (a0 + 1) 3 ((I2 (a0 + 1) 3) ||| r34) →
Q I35)))))))))
set_option maxHeartbeats 4000000 in
set_option maxRecDepth 100000 in
theorem c_X4_readSetting (K : Kx) (hW : WFK K) (l : Launch) (a0 : Nat) (k0 : (kG K a0).1 = 6) (I : MI) (J : MJ) (B : MR) (Q : MI → Prop) (h : w_X4_readSetting a0 I Q) : Con K l yX4_readSetting (wsT yX4_readSetting cX4_readSetting 5 none) rm_X4_readSetting [.ref a0] (I, J, B) (va_Qv (S := MI) Q (fun u t => HP K (u, J, B) t.heap) (AA K)) := by
  refine Con.ofJ RX4 rfl (by decide) (Nat.le_of_ble_eq_true rfl) (fun m H0 w G => ?_)
  unfold w_X4_readSetting at h
  show Jg K m 5 H0 w 0 [(0, .ref a0)] [] (I, J, B)
  refine j_aload_n G 0 0 dX4_readSetting_0 rfl rfl ?_
  refine j_iconst G (1 : Int32) dX4_readSetting_1 (by decide) ?_
  refine j_ci (rn_V G hW (ci := 5) (n := 1) (As := [.int (1 : Int32)]) (rest := []) (c_X4_take K hW l a0 (1 : Int32) k0 I J B _ h) k0 (by decide) rfl ml_X4_106 im_X4_take se_X4_take in_X4 co_X4_take rfl (by decide +kernel) rfl rfl (by decide) (by decide) rfl rfl (Nat.le_of_ble_eq_true rfl) dX4_readSetting_2) (fun r1 I2 h => ?_)
  refine j_istore_n G 1 [(1, .int r1), (0, .ref a0)] dX4_readSetting_5 rfl (by decide) rfl ?_
  refine j_iload_n G 0 1 dX4_readSetting_6 rfl rfl ?_
  by_cases c36 : r1 = (0 : Int32)
  · have h := h.1 (c36)
    refine j_tableIn G 36 dX4_readSetting_7 (by rw [c36]; decide) (by rw [c36]; decide) (by rw [c36] <;> rfl) (by decide) ?_
    refine j_aload_n G 1 0 dX4_readSetting_36 rfl rfl ?_
    have kk3 : kG K (a0 + 1) = (4, 0) := wk_6_1 hW k0
    refine j_get G hW 5 0 4 (.ref (a0 + 1)) k0 (by decide) rfl (by decide) rfl lay_X4 fl_X4_14 rfl rfl dX4_readSetting_37 ?_
    refine j_aload_n G 1 0 dX4_readSetting_40 rfl rfl ?_
    refine j_iconst G (1 : Int32) dX4_readSetting_41 (by decide) ?_
    refine j_bipush G (9 : Int32) dX4_readSetting_42 (by decide) ?_
    refine j_ci (rn_V G hW (ci := 5) (n := 2) (As := [.int (1 : Int32), .int (9 : Int32)]) (rest := [.ref (a0 + 1)]) (c_X4_takeNumber K hW l a0 (1 : Int32) (9 : Int32) k0 I2 J B _ h) k0 (by decide) rfl ml_X4_110 im_X4_takeNumber se_X4_takeNumber in_X4 co_X4_takeNumber rfl (by decide +kernel) rfl rfl (by decide) (by decide) rfl rfl (Nat.le_of_ble_eq_true rfl) dX4_readSetting_44) (fun r4 I5 h => ?_)
    refine j_put G hW 3 2 tyX2 (tyX2 2) tyX2_ok nmX2 (congrArg Prod.fst kk3) (by decide) rfl (by decide) rfl lay_X2 fl_X4_113 rfl rfl (tyX2_ok 2 (by decide)) rfl rfl dX4_readSetting_47 ?_
    refine j_mI (fun I6 eI6 => ?_)
    have h := h I6 eI6
    refine j_goto G 153 dX4_readSetting_50 (by decide) ?_
    exact j_retv G I6 dX4_readSetting_153 h rfl
  · skip
    by_cases c37 : r1 = (1 : Int32)
    · have h := h.2.1 (c37)
      refine j_tableIn G 53 dX4_readSetting_7 (by rw [c37]; decide) (by rw [c37]; decide) (by rw [c37] <;> rfl) (by decide) ?_
      refine j_aload_n G 1 0 dX4_readSetting_53 rfl rfl ?_
      refine j_ci (rn_V G hW (ci := 5) (n := 0) (As := []) (rest := []) (c_X4_takeQueue K hW l a0 k0 I2 J B _ h) k0 (by decide) rfl ml_X4_116 im_X4_takeQueue se_X4_takeQueue in_X4 co_X4_takeQueue rfl (by decide +kernel) rfl rfl (by decide) (by decide) rfl rfl (Nat.le_of_ble_eq_true rfl) dX4_readSetting_54) (fun r7 I8 h => ?_)
      refine j_istore_n G 2 [(2, .int r7), (1, .int r1), (0, .ref a0)] dX4_readSetting_57 rfl (by decide) rfl ?_
      refine j_aload_n G 2 0 dX4_readSetting_58 rfl rfl ?_
      have kk9 : kG K (a0 + 1) = (4, 0) := wk_6_1 hW k0
      refine j_get G hW 5 0 4 (.ref (a0 + 1)) k0 (by decide) rfl (by decide) rfl lay_X4 fl_X4_14 rfl rfl dX4_readSetting_59 ?_
      have kk10 : kG K (a0 + 3) = (20, 6) := wk_4_2 hW (congrArg Prod.fst kk9)
      refine j_get G hW 3 5 5 (.ref (a0 + 3)) (congrArg Prod.fst kk9) (by decide) rfl (by decide) rfl lay_X2 fl_X4_120 rfl rfl dX4_readSetting_62 ?_
      refine j_iload_n G 0 2 dX4_readSetting_65 rfl rfl ?_
      refine j_aload_n G 2 0 dX4_readSetting_66 rfl rfl ?_
      refine j_iconst G (1 : Int32) dX4_readSetting_67 (by decide) ?_
      refine j_bipush G (6 : Int32) dX4_readSetting_68 (by decide) ?_
      refine j_ci (rn_V G hW (ci := 5) (n := 2) (As := [.int (1 : Int32), .int (6 : Int32)]) (rest := [.int r7, .ref (a0 + 3)]) (c_X4_takeNumber K hW l a0 (1 : Int32) (6 : Int32) k0 I8 J B _ h) k0 (by decide) rfl ml_X4_110 im_X4_takeNumber se_X4_takeNumber in_X4 co_X4_takeNumber rfl (by decide +kernel) rfl rfl (by decide) (by decide) rfl rfl (Nat.le_of_ble_eq_true rfl) dX4_readSetting_70) (fun r11 I12 h => ?_)
      obtain ⟨b13, h⟩ := h
      refine j_iast G hW kk10 b13 dX4_readSetting_73 ?_
      refine j_mI (fun I14 eI14 => ?_)
      have h := h I14 eI14
      refine j_goto G 153 dX4_readSetting_74 (by decide) ?_
      exact j_retv G I14 dX4_readSetting_153 h rfl
    · skip
      by_cases c38 : r1 = (2 : Int32)
      · have h := h.2.2.1 (c38)
        refine j_tableIn G 77 dX4_readSetting_7 (by rw [c38]; decide) (by rw [c38]; decide) (by rw [c38] <;> rfl) (by decide) ?_
        refine j_aload_n G 1 0 dX4_readSetting_77 rfl rfl ?_
        refine j_iconst G (0 : Int32) dX4_readSetting_78 (by decide) ?_
        refine j_bipush G (31 : Int32) dX4_readSetting_79 (by decide) ?_
        refine j_ci (rn_V G hW (ci := 5) (n := 2) (As := [.int (0 : Int32), .int (31 : Int32)]) (rest := []) (c_X4_takeNumber K hW l a0 (0 : Int32) (31 : Int32) k0 I2 J B _ h) k0 (by decide) rfl ml_X4_110 im_X4_takeNumber se_X4_takeNumber in_X4 co_X4_takeNumber rfl (by decide +kernel) rfl rfl (by decide) (by decide) rfl rfl (Nat.le_of_ble_eq_true rfl) dX4_readSetting_81) (fun r15 I16 h => ?_)
        refine j_istore_n G 3 [(3, .int r15), (1, .int r1), (0, .ref a0)] dX4_readSetting_84 rfl (by decide) rfl ?_
        refine j_aload_n G 2 0 dX4_readSetting_85 rfl rfl ?_
        have kk17 : kG K (a0 + 1) = (4, 0) := wk_6_1 hW k0
        refine j_get G hW 5 0 4 (.ref (a0 + 1)) k0 (by decide) rfl (by decide) rfl lay_X4 fl_X4_14 rfl rfl dX4_readSetting_86 ?_
        have kk18 : kG K (a0 + 4) = (20, 32) := wk_4_3 hW (congrArg Prod.fst kk17)
        refine j_get G hW 3 6 6 (.ref (a0 + 4)) (congrArg Prod.fst kk17) (by decide) rfl (by decide) rfl lay_X2 fl_X4_123 rfl rfl dX4_readSetting_89 ?_
        refine j_iload_n G 0 3 dX4_readSetting_92 rfl rfl ?_
        refine j_aload_n G 2 0 dX4_readSetting_93 rfl rfl ?_
        refine j_iconst G (0 : Int32) dX4_readSetting_94 (by decide) ?_
        refine j_sipush G (999 : Int32) dX4_readSetting_95 (by decide) ?_
        refine j_ci (rn_V G hW (ci := 5) (n := 2) (As := [.int (0 : Int32), .int (999 : Int32)]) (rest := [.int r15, .ref (a0 + 4)]) (c_X4_takeNumber K hW l a0 (0 : Int32) (999 : Int32) k0 I16 J B _ h) k0 (by decide) rfl ml_X4_110 im_X4_takeNumber se_X4_takeNumber in_X4 co_X4_takeNumber rfl (by decide +kernel) rfl rfl (by decide) (by decide) rfl rfl (Nat.le_of_ble_eq_true rfl) dX4_readSetting_98) (fun r19 I20 h => ?_)
        obtain ⟨b21, h⟩ := h
        refine j_iast G hW kk18 b21 dX4_readSetting_101 ?_
        refine j_mI (fun I22 eI22 => ?_)
        have h := h I22 eI22
        refine j_goto G 153 dX4_readSetting_102 (by decide) ?_
        exact j_retv G I22 dX4_readSetting_153 h rfl
      · skip
        by_cases c39 : r1 = (3 : Int32)
        · have h := h.2.2.2.1 (c39)
          refine j_tableIn G 105 dX4_readSetting_7 (by rw [c39]; decide) (by rw [c39]; decide) (by rw [c39] <;> rfl) (by decide) ?_
          refine j_aload_n G 1 0 dX4_readSetting_105 rfl rfl ?_
          refine j_iconst G (2 : Int32) dX4_readSetting_106 (by decide) ?_
          refine j_ci (rn_V G hW (ci := 5) (n := 1) (As := [.int (2 : Int32)]) (rest := []) (c_X4_take K hW l a0 (2 : Int32) k0 I2 J B _ h) k0 (by decide) rfl ml_X4_106 im_X4_take se_X4_take in_X4 co_X4_take rfl (by decide +kernel) rfl rfl (by decide) (by decide) rfl rfl (Nat.le_of_ble_eq_true rfl) dX4_readSetting_107) (fun r23 I24 h => ?_)
          refine j_istore G [(4, .int r23), (1, .int r1), (0, .ref a0)] dX4_readSetting_110 (by decide) rfl ?_
          refine j_aload_n G 2 0 dX4_readSetting_112 rfl rfl ?_
          have kk25 : kG K (a0 + 1) = (4, 0) := wk_6_1 hW k0
          refine j_get G hW 5 0 4 (.ref (a0 + 1)) k0 (by decide) rfl (by decide) rfl lay_X4 fl_X4_14 rfl rfl dX4_readSetting_113 ?_
          have kk26 : kG K (a0 + 5) = (20, 8) := wk_4_4 hW (congrArg Prod.fst kk25)
          refine j_get G hW 3 7 7 (.ref (a0 + 5)) (congrArg Prod.fst kk25) (by decide) rfl (by decide) rfl lay_X2 fl_X4_126 rfl rfl dX4_readSetting_116 ?_
          refine j_iload G 0 dX4_readSetting_119 rfl ?_
          refine j_aload_n G 2 0 dX4_readSetting_121 rfl rfl ?_
          refine j_iconst G (0 : Int32) dX4_readSetting_122 (by decide) ?_
          refine j_sipush G (999 : Int32) dX4_readSetting_123 (by decide) ?_
          refine j_ci (rn_V G hW (ci := 5) (n := 2) (As := [.int (0 : Int32), .int (999 : Int32)]) (rest := [.int r23, .ref (a0 + 5)]) (c_X4_takeNumber K hW l a0 (0 : Int32) (999 : Int32) k0 I24 J B _ h) k0 (by decide) rfl ml_X4_110 im_X4_takeNumber se_X4_takeNumber in_X4 co_X4_takeNumber rfl (by decide +kernel) rfl rfl (by decide) (by decide) rfl rfl (Nat.le_of_ble_eq_true rfl) dX4_readSetting_126) (fun r27 I28 h => ?_)
          obtain ⟨b29, h⟩ := h
          refine j_iast G hW kk26 b29 dX4_readSetting_129 ?_
          refine j_mI (fun I30 eI30 => ?_)
          have h := h I30 eI30
          refine j_goto G 153 dX4_readSetting_130 (by decide) ?_
          exact j_retv G I30 dX4_readSetting_153 h rfl
        · skip
          have h := h.2.2.2.2 c36 c37 c38 c39
          have nc36 := sw_ne (n := 0) rfl c36
          have nc37 := sw_ne (n := 1) rfl c37
          have nc38 := sw_ne (n := 2) rfl c38
          have nc39 := sw_ne (n := 3) rfl c39
          refine j_tableOut G 133 dX4_readSetting_7 (by omega) (by decide) ?_
          refine j_aload_n G 1 0 dX4_readSetting_133 rfl rfl ?_
          have kk31 : kG K (a0 + 1) = (4, 0) := wk_6_1 hW k0
          refine j_get G hW 5 0 4 (.ref (a0 + 1)) k0 (by decide) rfl (by decide) rfl lay_X4 fl_X4_14 rfl rfl dX4_readSetting_134 ?_
          refine j_dup G rfl dX4_readSetting_137 ?_
          refine j_get G hW 3 3 0 (.int (I2 (a0 + 1) 3)) (congrArg Prod.fst kk31) (by decide) rfl (by decide) rfl lay_X2 fl_X4_129 rfl rfl dX4_readSetting_138 ?_
          refine j_aload_n G 1 0 dX4_readSetting_141 rfl rfl ?_
          refine j_iconst G (2 : Int32) dX4_readSetting_142 (by decide) ?_
          refine j_ci (rn_V G hW (ci := 5) (n := 1) (As := [.int (2 : Int32)]) (rest := [.int (I2 (a0 + 1) 3), .ref (a0 + 1)]) (c_X4_take K hW l a0 (2 : Int32) k0 I2 J B _ h) k0 (by decide) rfl ml_X4_106 im_X4_take se_X4_take in_X4 co_X4_take rfl (by decide +kernel) rfl rfl (by decide) (by decide) rfl rfl (Nat.le_of_ble_eq_true rfl) dX4_readSetting_143) (fun r32 I33 h => ?_)
          refine j_ci (rn_N G (n := 1) (As := [.int r32]) (rest := [.int (I2 (a0 + 1) 3), .ref (a0 + 1)]) (c_X9_bit K hW l r32 I33 J B _ h) (List.mem_of_getElem? (i := 5) rfl) st_X9_bit in_X9 co_X9_bit (by decide +kernel) rfl rfl (by decide) (by decide) rfl rfl (Nat.le_of_ble_eq_true rfl) dX4_readSetting_146) (fun r34 _ h => ?_)
          refine j_ior G dX4_readSetting_149 ?_
          refine j_put G hW 3 3 tyX2 (tyX2 3) tyX2_ok nmX2 (congrArg Prod.fst kk31) (by decide) rfl (by decide) rfl lay_X2 fl_X4_129 rfl rfl (tyX2_ok 3 (by decide)) rfl rfl dX4_readSetting_150 ?_
          refine j_mI (fun I35 eI35 => ?_)
          have h := h I35 eI35
          exact j_retv G I35 dX4_readSetting_153 h rfl
abbrev rm_X4_rowNamed : Room := { frames := 1, cells := 0, slots := 0, locals := 24 }
def w_X4_rowNamed_l2 (a0 : Nat) (x1 : Int32) (I : MI) (B : MR)  (Q : Int32 →  Prop) (rec : Int32 → Prop) (x2 : Int32) : Prop :=
(((I a0 5) ≤ x2 → Q (-1 : Int32)) ∧
(¬ (I a0 5) ≤ x2 → (((150 : Int32) ≤ x2 → Q (-1 : Int32)) ∧
(¬ (150 : Int32) ≤ x2 → (vp_in x2 150 ∧
(((I (a0 + 41) (ix x2)) = (-1 : Int32) → rec (x2 + 1)) ∧
(¬ (I (a0 + 41) (ix x2)) = (-1 : Int32) → (vp_in x2 150 ∧
(w_X7_isSame (a0 + 35) (I (a0 + 41) (ix x2)) x1 I B (fun r8 =>
((r8 = 0 → rec (x2 + 1)) ∧
(¬ r8 = 0 → Q x2))))))))))))
set_option maxHeartbeats 4000000 in
set_option maxRecDepth 100000 in
theorem m_X4_rowNamed_l2 {K : Kx} {l : Launch} {m : MethodId} {H0 : Heap} {Q : Int32 →  Prop} {w : HW} {I : MI} {J : MJ} {B : MR} (G : Gd l rm_X4_rowNamed K m RX4 cX4_rowNamed 3 H0 (some .int) (va_Qi (S := Unit) (fun r _ => Q r) (fun u t => HP K (I, J, B) t.heap) (AA K)) w) (hW : WFK K) (a0 : Nat) (x1 : Int32) (x2 : Int32) (ka0 : (kG K a0).1 = 6)    (h : Lp1 (w_X4_rowNamed_l2 a0 x1 I B Q) x2) : Jg K m 3 H0 w 2 [(0, .ref a0), (1, .int x1), (2, .int x2)] [] (I, J, B) := by
  obtain ⟨n, h⟩ := h
  refine lpN1_ind (P := (fun (x2 : Int32) => Jg K m 3 H0 w 2 [(0, .ref a0), (1, .int x1), (2, .int x2)] [] (I, J, B))) (fun rec hrec x2 h => ?_) n x2 h
  unfold w_X4_rowNamed_l2 at h
  refine j_iload_n G 2 2 dX4_rowNamed_2 rfl rfl ?_
  refine j_aload_n G 0 0 dX4_rowNamed_3 rfl rfl ?_
  refine j_get G hW 5 5 0 (.int (I a0 5)) ka0 (by decide) rfl (by decide) rfl lay_X4 fl_X4_40 rfl rfl dX4_rowNamed_4 ?_
  refine j_icmp_ge G 52 dX4_rowNamed_7 (by decide) (fun c1 => ?_) (fun c1 => ?_)
  · have h := h.1 c1
    refine j_iconst G (-1 : Int32) dX4_rowNamed_52 (by decide) ?_
    exact j_reti G () rfl dX4_rowNamed_53 h rfl
  · have h := h.2 c1
    refine j_iload_n G 2 2 dX4_rowNamed_10 rfl rfl ?_
    refine j_sipush G (150 : Int32) dX4_rowNamed_11 (by decide) ?_
    refine j_icmp_ge G 52 dX4_rowNamed_14 (by decide) (fun c2 => ?_) (fun c2 => ?_)
    · have h := h.1 c2
      refine j_iconst G (-1 : Int32) dX4_rowNamed_52 (by decide) ?_
      exact j_reti G () rfl dX4_rowNamed_53 h rfl
    · have h := h.2 c2
      refine j_aload_n G 0 0 dX4_rowNamed_17 rfl rfl ?_
      have kk3 : kG K (a0 + 41) = (20, 150) := wk_6_41 hW ka0
      refine j_get G hW 5 6 44 (.ref (a0 + 41)) ka0 (by decide) rfl (by decide) rfl lay_X4 fl_X4_25 rfl rfl dX4_rowNamed_18 ?_
      refine j_iload_n G 2 2 dX4_rowNamed_21 rfl rfl ?_
      obtain ⟨b4, h⟩ := h
      refine j_iald G hW kk3 b4 dX4_rowNamed_22 ?_
      refine j_iconst G (-1 : Int32) dX4_rowNamed_23 (by decide) ?_
      refine j_icmp_eq G 46 dX4_rowNamed_24 (by decide) (fun c5 => ?_) (fun c5 => ?_)
      · have h := h.1 c5
        refine j_iinc G 2 (x2 + 1) [(2, .int (x2 + 1)), (0, .ref a0), (1, .int x1)] dX4_rowNamed_46 rfl rfl (by decide) rfl ?_
        refine j_goto G 2 dX4_rowNamed_49 (by decide) ?_
        exact Jg.sub [1, 2, 0] rfl (hrec (x2 + 1) h)
      · have h := h.2 c5
        refine j_aload_n G 0 0 dX4_rowNamed_27 rfl rfl ?_
        have kk6 : kG K (a0 + 35) = (9, 0) := wk_6_35 hW ka0
        refine j_get G hW 5 3 38 (.ref (a0 + 35)) ka0 (by decide) rfl (by decide) rfl lay_X4 fl_X4_21 rfl rfl dX4_rowNamed_28 ?_
        refine j_aload_n G 0 0 dX4_rowNamed_31 rfl rfl ?_
        refine j_get G hW 5 6 44 (.ref (a0 + 41)) ka0 (by decide) rfl (by decide) rfl lay_X4 fl_X4_25 rfl rfl dX4_rowNamed_32 ?_
        refine j_iload_n G 2 2 dX4_rowNamed_35 rfl rfl ?_
        obtain ⟨b7, h⟩ := h
        refine j_iald G hW kk3 b7 dX4_rowNamed_36 ?_
        refine j_iload_n G 1 1 dX4_rowNamed_37 rfl rfl ?_
        refine j_ci (rn_V G hW (ci := 8) (n := 2) (As := [.int (I (a0 + 41) (ix x2)), .int x1]) (rest := []) (c_X7_isSame K hW l (a0 + 35) (I (a0 + 41) (ix x2)) x1 (congrArg Prod.fst kk6) I J B _ h) (congrArg Prod.fst kk6) (by decide) rfl ml_X4_172 im_X7_isSame se_X7_isSame in_X7 co_X7_isSame rfl (by decide +kernel) rfl rfl (by decide) (by decide) rfl rfl (Nat.le_of_ble_eq_true rfl) dX4_rowNamed_38) (fun r8 _ h => ?_)
        refine j_if_eq G 46 dX4_rowNamed_41 (by decide) (fun c9 => ?_) (fun c9 => ?_)
        · have h := h.1 c9
          refine j_iinc G 2 (x2 + 1) [(2, .int (x2 + 1)), (0, .ref a0), (1, .int x1)] dX4_rowNamed_46 rfl rfl (by decide) rfl ?_
          refine j_goto G 2 dX4_rowNamed_49 (by decide) ?_
          exact Jg.sub [1, 2, 0] rfl (hrec (x2 + 1) h)
        · have h := h.2 c9
          refine j_iload_n G 2 2 dX4_rowNamed_44 rfl rfl ?_
          exact j_reti G () rfl dX4_rowNamed_45 h rfl
def w_X4_rowNamed (a0 : Nat) (x1 : Int32) (I : MI) (B : MR) (Q : Int32 →  Prop) : Prop :=
Lp1 (w_X4_rowNamed_l2 a0 x1 I B Q) (0 : Int32)
set_option maxHeartbeats 4000000 in
set_option maxRecDepth 100000 in
theorem c_X4_rowNamed (K : Kx) (hW : WFK K) (l : Launch) (a0 : Nat) (x1 : Int32) (k0 : (kG K a0).1 = 6) (I : MI) (J : MJ) (B : MR) (Q : Int32 →  Prop) (h : w_X4_rowNamed a0 x1 I B Q) : Con K l yX4_rowNamed (wsT yX4_rowNamed cX4_rowNamed 3 (some .int)) rm_X4_rowNamed [.ref a0, .int x1] (I, J, B) (va_Qi (S := Unit) (fun r _ => Q r) (fun u t => HP K (I, J, B) t.heap) (AA K)) := by
  refine Con.ofJ RX4 rfl (by decide) (Nat.le_of_ble_eq_true rfl) (fun m H0 w G => ?_)
  unfold w_X4_rowNamed at h
  show Jg K m 3 H0 w 0 [(0, .ref a0), (1, .int x1)] [] (I, J, B)
  refine j_iconst G (0 : Int32) dX4_rowNamed_0 (by decide) ?_
  refine j_istore_n G 2 [(2, .int (0 : Int32)), (0, .ref a0), (1, .int x1)] dX4_rowNamed_1 rfl (by decide) rfl ?_
  refine Jg.sub [1, 2, 0] rfl (m_X4_rowNamed_l2 G hW a0 x1 (0 : Int32) k0 h)
abbrev rm_X4_takeSign : Room := { frames := 2, cells := 0, slots := 0, locals := 43 }
def w_X4_takeSign (a0 : Nat) (x1 : Int32) (I : MI) (Q : MI → Prop) : Prop :=
(w_X4_isNext a0 (5 : Int32) I (fun r1 =>
((r1 = 0 → (w_X4_take a0 (5 : Int32) I (fun r3 I4 =>
Q I4))) ∧
(¬ r1 = 0 → (vp_in (I a0 4) 601 ∧
(((I (a0 + 37) (ix (I a0 4))) = x1 → (w_X4_take a0 (5 : Int32) I (fun r9 I10 =>
Q I10))) ∧
(¬ (I (a0 + 37) (ix (I a0 4))) = x1 → (w_X4_breakOff a0 I (fun I11 =>
(w_X4_take a0 (5 : Int32) I11 (fun r12 I13 =>
Q I13)))))))))))
set_option maxHeartbeats 4000000 in
set_option maxRecDepth 100000 in
theorem c_X4_takeSign (K : Kx) (hW : WFK K) (l : Launch) (a0 : Nat) (x1 : Int32) (k0 : (kG K a0).1 = 6) (I : MI) (J : MJ) (B : MR) (Q : MI → Prop) (h : w_X4_takeSign a0 x1 I Q) : Con K l yX4_takeSign (wsT yX4_takeSign cX4_takeSign 2 none) rm_X4_takeSign [.ref a0, .int x1] (I, J, B) (va_Qv (S := MI) Q (fun u t => HP K (u, J, B) t.heap) (AA K)) := by
  refine Con.ofJ RX4 rfl (by decide) (Nat.le_of_ble_eq_true rfl) (fun m H0 w G => ?_)
  unfold w_X4_takeSign at h
  show Jg K m 2 H0 w 0 [(0, .ref a0), (1, .int x1)] [] (I, J, B)
  refine j_aload_n G 0 0 dX4_takeSign_0 rfl rfl ?_
  refine j_iconst G (5 : Int32) dX4_takeSign_1 (by decide) ?_
  refine j_ci (rn_V G hW (ci := 5) (n := 1) (As := [.int (5 : Int32)]) (rest := []) (c_X4_isNext K hW l a0 (5 : Int32) k0 I J B _ h) k0 (by decide) rfl ml_X4_58 im_X4_isNext se_X4_isNext in_X4 co_X4_isNext rfl (by decide +kernel) rfl rfl (by decide) (by decide) rfl rfl (Nat.le_of_ble_eq_true rfl) dX4_takeSign_2) (fun r1 _ h => ?_)
  refine j_if_eq G 28 dX4_takeSign_5 (by decide) (fun c2 => ?_) (fun c2 => ?_)
  · have h := h.1 c2
    refine j_aload_n G 0 0 dX4_takeSign_28 rfl rfl ?_
    refine j_iconst G (5 : Int32) dX4_takeSign_29 (by decide) ?_
    refine j_ci (rn_V G hW (ci := 5) (n := 1) (As := [.int (5 : Int32)]) (rest := []) (c_X4_take K hW l a0 (5 : Int32) k0 I J B _ h) k0 (by decide) rfl ml_X4_106 im_X4_take se_X4_take in_X4 co_X4_take rfl (by decide +kernel) rfl rfl (by decide) (by decide) rfl rfl (Nat.le_of_ble_eq_true rfl) dX4_takeSign_30) (fun r3 I4 h => ?_)
    refine j_pop G rfl dX4_takeSign_33 ?_
    exact j_retv G I4 dX4_takeSign_34 h rfl
  · have h := h.2 c2
    refine j_aload_n G 0 0 dX4_takeSign_8 rfl rfl ?_
    have kk5 : kG K (a0 + 35) = (9, 0) := wk_6_35 hW k0
    refine j_get G hW 5 3 38 (.ref (a0 + 35)) k0 (by decide) rfl (by decide) rfl lay_X4 fl_X4_21 rfl rfl dX4_takeSign_9 ?_
    have kk6 : kG K (a0 + 37) = (20, 601) := wk_9_2 hW (congrArg Prod.fst kk5)
    refine j_get G hW 8 1 5 (.ref (a0 + 37)) (congrArg Prod.fst kk5) (by decide) rfl (by decide) rfl lay_X7 fl_X4_90 rfl rfl dX4_takeSign_12 ?_
    refine j_aload_n G 0 0 dX4_takeSign_15 rfl rfl ?_
    refine j_get G hW 5 4 0 (.int (I a0 4)) k0 (by decide) rfl (by decide) rfl lay_X4 fl_X4_36 rfl rfl dX4_takeSign_16 ?_
    obtain ⟨b7, h⟩ := h
    refine j_iald G hW kk6 b7 dX4_takeSign_19 ?_
    refine j_iload_n G 1 1 dX4_takeSign_20 rfl rfl ?_
    refine j_icmp_eq G 28 dX4_takeSign_21 (by decide) (fun c8 => ?_) (fun c8 => ?_)
    · have h := h.1 c8
      refine j_aload_n G 0 0 dX4_takeSign_28 rfl rfl ?_
      refine j_iconst G (5 : Int32) dX4_takeSign_29 (by decide) ?_
      refine j_ci (rn_V G hW (ci := 5) (n := 1) (As := [.int (5 : Int32)]) (rest := []) (c_X4_take K hW l a0 (5 : Int32) k0 I J B _ h) k0 (by decide) rfl ml_X4_106 im_X4_take se_X4_take in_X4 co_X4_take rfl (by decide +kernel) rfl rfl (by decide) (by decide) rfl rfl (Nat.le_of_ble_eq_true rfl) dX4_takeSign_30) (fun r9 I10 h => ?_)
      refine j_pop G rfl dX4_takeSign_33 ?_
      exact j_retv G I10 dX4_takeSign_34 h rfl
    · have h := h.2 c8
      refine j_aload_n G 0 0 dX4_takeSign_24 rfl rfl ?_
      refine j_cv (rn_V G hW (ci := 5) (n := 0) (As := []) (rest := []) (c_X4_breakOff K hW l a0 k0 I J B _ h) k0 (by decide) rfl ml_X4_142 im_X4_breakOff se_X4_breakOff in_X4 co_X4_breakOff rfl (by decide +kernel) rfl rfl (by decide) (by decide) rfl rfl (Nat.le_of_ble_eq_true rfl) dX4_takeSign_25) (fun I11 h => ?_)
      refine j_aload_n G 0 0 dX4_takeSign_28 rfl rfl ?_
      refine j_iconst G (5 : Int32) dX4_takeSign_29 (by decide) ?_
      refine j_ci (rn_V G hW (ci := 5) (n := 1) (As := [.int (5 : Int32)]) (rest := []) (c_X4_take K hW l a0 (5 : Int32) k0 I11 J B _ h) k0 (by decide) rfl ml_X4_106 im_X4_take se_X4_take in_X4 co_X4_take rfl (by decide +kernel) rfl rfl (by decide) (by decide) rfl rfl (Nat.le_of_ble_eq_true rfl) dX4_takeSign_30) (fun r12 I13 h => ?_)
      refine j_pop G rfl dX4_takeSign_33 ?_
      exact j_retv G I13 dX4_takeSign_34 h rfl
abbrev rm_X4_readNameAhead : Room := { frames := 3, cells := 0, slots := 0, locals := 64 }
def w_X4_readNameAhead_p21 (a0 : Nat)  (I : MI) (B : MR)  (Q : MI → Prop) : Prop :=
(((150 : Int32) ≤ (I a0 5) → (w_X4_take a0 (3 : Int32) I (fun r4 I5 =>
(w_X4_takeSign a0 (58 : Int32) I5 (fun I6 =>
Q I6))))) ∧
(¬ (150 : Int32) ≤ (I a0 5) → (vp_in (I a0 5) 150 ∧
(∀ I9, I9 = ui I (a0 + 41) (ix (I a0 5)) (I a0 4) →
(w_X4_take a0 (3 : Int32) I9 (fun r10 I11 =>
(w_X4_takeSign a0 (58 : Int32) I11 (fun I12 =>
Q I12))))))))
set_option maxHeartbeats 4000000 in
set_option maxRecDepth 100000 in
theorem m_X4_readNameAhead_p21 {K : Kx} {l : Launch} {m : MethodId} {H0 : Heap} {Q : MI → Prop} {w : HW} {J : MJ} {B : MR} (G : Gd l rm_X4_readNameAhead K m RX4 cX4_readNameAhead 1 H0 none (va_Qv (S := MI) Q (fun u t => HP K (u, J, B) t.heap) (AA K)) w) (hW : WFK K) (a0 : Nat)  (ka0 : (kG K a0).1 = 6)  (I : MI)   (h : w_X4_readNameAhead_p21 a0 I B Q) : Jg K m 1 H0 w 21 [(0, .ref a0)] [] (I, J, B) := by
  unfold w_X4_readNameAhead_p21 at h
  refine j_aload_n G 0 0 dX4_readNameAhead_21 rfl rfl ?_
  refine j_get G hW 5 5 0 (.int (I a0 5)) ka0 (by decide) rfl (by decide) rfl lay_X4 fl_X4_40 rfl rfl dX4_readNameAhead_22 ?_
  refine j_sipush G (150 : Int32) dX4_readNameAhead_25 (by decide) ?_
  refine j_icmp_ge G 44 dX4_readNameAhead_28 (by decide) (fun c3 => ?_) (fun c3 => ?_)
  · have h := h.1 c3
    refine j_aload_n G 0 0 dX4_readNameAhead_44 rfl rfl ?_
    refine j_iconst G (3 : Int32) dX4_readNameAhead_45 (by decide) ?_
    refine j_ci (rn_V G hW (ci := 5) (n := 1) (As := [.int (3 : Int32)]) (rest := []) (c_X4_take K hW l a0 (3 : Int32) ka0 I J B _ h) ka0 (by decide) rfl ml_X4_106 im_X4_take se_X4_take in_X4 co_X4_take rfl (by decide +kernel) rfl rfl (by decide) (by decide) rfl rfl (Nat.le_of_ble_eq_true rfl) dX4_readNameAhead_46) (fun r4 I5 h => ?_)
    refine j_pop G rfl dX4_readNameAhead_49 ?_
    refine j_aload_n G 0 0 dX4_readNameAhead_50 rfl rfl ?_
    refine j_bipush G (58 : Int32) dX4_readNameAhead_51 (by decide) ?_
    refine j_cv (rn_V G hW (ci := 5) (n := 1) (As := [.int (58 : Int32)]) (rest := []) (c_X4_takeSign K hW l a0 (58 : Int32) ka0 I5 J B _ h) ka0 (by decide) rfl ml_X4_102 im_X4_takeSign se_X4_takeSign in_X4 co_X4_takeSign rfl (by decide +kernel) rfl rfl (by decide) (by decide) rfl rfl (Nat.le_of_ble_eq_true rfl) dX4_readNameAhead_53) (fun I6 h => ?_)
    exact j_retv G I6 dX4_readNameAhead_56 h rfl
  · have h := h.2 c3
    refine j_aload_n G 0 0 dX4_readNameAhead_31 rfl rfl ?_
    have kk7 : kG K (a0 + 41) = (20, 150) := wk_6_41 hW ka0
    refine j_get G hW 5 6 44 (.ref (a0 + 41)) ka0 (by decide) rfl (by decide) rfl lay_X4 fl_X4_25 rfl rfl dX4_readNameAhead_32 ?_
    refine j_aload_n G 0 0 dX4_readNameAhead_35 rfl rfl ?_
    refine j_get G hW 5 5 0 (.int (I a0 5)) ka0 (by decide) rfl (by decide) rfl lay_X4 fl_X4_40 rfl rfl dX4_readNameAhead_36 ?_
    refine j_aload_n G 0 0 dX4_readNameAhead_39 rfl rfl ?_
    refine j_get G hW 5 4 0 (.int (I a0 4)) ka0 (by decide) rfl (by decide) rfl lay_X4 fl_X4_36 rfl rfl dX4_readNameAhead_40 ?_
    obtain ⟨b8, h⟩ := h
    refine j_iast G hW kk7 b8 dX4_readNameAhead_43 ?_
    refine j_mI (fun I9 eI9 => ?_)
    have h := h I9 eI9
    refine j_aload_n G 0 0 dX4_readNameAhead_44 rfl rfl ?_
    refine j_iconst G (3 : Int32) dX4_readNameAhead_45 (by decide) ?_
    refine j_ci (rn_V G hW (ci := 5) (n := 1) (As := [.int (3 : Int32)]) (rest := []) (c_X4_take K hW l a0 (3 : Int32) ka0 I9 J B _ h) ka0 (by decide) rfl ml_X4_106 im_X4_take se_X4_take in_X4 co_X4_take rfl (by decide +kernel) rfl rfl (by decide) (by decide) rfl rfl (Nat.le_of_ble_eq_true rfl) dX4_readNameAhead_46) (fun r10 I11 h => ?_)
    refine j_pop G rfl dX4_readNameAhead_49 ?_
    refine j_aload_n G 0 0 dX4_readNameAhead_50 rfl rfl ?_
    refine j_bipush G (58 : Int32) dX4_readNameAhead_51 (by decide) ?_
    refine j_cv (rn_V G hW (ci := 5) (n := 1) (As := [.int (58 : Int32)]) (rest := []) (c_X4_takeSign K hW l a0 (58 : Int32) ka0 I11 J B _ h) ka0 (by decide) rfl ml_X4_102 im_X4_takeSign se_X4_takeSign in_X4 co_X4_takeSign rfl (by decide +kernel) rfl rfl (by decide) (by decide) rfl rfl (Nat.le_of_ble_eq_true rfl) dX4_readNameAhead_53) (fun I12 h => ?_)
    exact j_retv G I12 dX4_readNameAhead_56 h rfl
def w_X4_readNameAhead (a0 : Nat) (I : MI) (B : MR) (Q : MI → Prop) : Prop :=
(w_X4_rowNamed a0 (I a0 4) I B (fun r1 =>
((r1 = (-1 : Int32) → w_X4_readNameAhead_p21 a0 I B Q) ∧
(¬ r1 = (-1 : Int32) → (w_X4_note a0 (3 : Int32) (I a0 4) I (fun I13 =>
w_X4_readNameAhead_p21 a0 I13 B Q))))))
set_option maxHeartbeats 4000000 in
set_option maxRecDepth 100000 in
theorem c_X4_readNameAhead (K : Kx) (hW : WFK K) (l : Launch) (a0 : Nat) (k0 : (kG K a0).1 = 6) (I : MI) (J : MJ) (B : MR) (Q : MI → Prop) (h : w_X4_readNameAhead a0 I B Q) : Con K l yX4_readNameAhead (wsT yX4_readNameAhead cX4_readNameAhead 1 none) rm_X4_readNameAhead [.ref a0] (I, J, B) (va_Qv (S := MI) Q (fun u t => HP K (u, J, B) t.heap) (AA K)) := by
  refine Con.ofJ RX4 rfl (by decide) (Nat.le_of_ble_eq_true rfl) (fun m H0 w G => ?_)
  unfold w_X4_readNameAhead at h
  show Jg K m 1 H0 w 0 [(0, .ref a0)] [] (I, J, B)
  refine j_aload_n G 0 0 dX4_readNameAhead_0 rfl rfl ?_
  refine j_aload_n G 0 0 dX4_readNameAhead_1 rfl rfl ?_
  refine j_get G hW 5 4 0 (.int (I a0 4)) k0 (by decide) rfl (by decide) rfl lay_X4 fl_X4_36 rfl rfl dX4_readNameAhead_2 ?_
  refine j_ci (rn_V G hW (ci := 5) (n := 1) (As := [.int (I a0 4)]) (rest := []) (c_X4_rowNamed K hW l a0 (I a0 4) k0 I J B _ h) k0 (by decide) rfl ml_X4_135 im_X4_rowNamed se_X4_rowNamed in_X4 co_X4_rowNamed rfl (by decide +kernel) rfl rfl (by decide) (by decide) rfl rfl (Nat.le_of_ble_eq_true rfl) dX4_readNameAhead_5) (fun r1 _ h => ?_)
  refine j_iconst G (-1 : Int32) dX4_readNameAhead_8 (by decide) ?_
  refine j_icmp_eq G 21 dX4_readNameAhead_9 (by decide) (fun c2 => ?_) (fun c2 => ?_)
  · have h := h.1 c2
    exact m_X4_readNameAhead_p21 G hW a0 k0 I h
  · have h := h.2 c2
    refine j_aload_n G 0 0 dX4_readNameAhead_12 rfl rfl ?_
    refine j_iconst G (3 : Int32) dX4_readNameAhead_13 (by decide) ?_
    refine j_aload_n G 0 0 dX4_readNameAhead_14 rfl rfl ?_
    refine j_get G hW 5 4 0 (.int (I a0 4)) k0 (by decide) rfl (by decide) rfl lay_X4 fl_X4_36 rfl rfl dX4_readNameAhead_15 ?_
    refine j_cv (rn_V G hW (ci := 5) (n := 2) (As := [.int (3 : Int32), .int (I a0 4)]) (rest := []) (c_X4_note K hW l a0 (3 : Int32) (I a0 4) k0 I J B _ h) k0 (by decide) rfl ml_X4_138 im_X4_note se_X4_note in_X4 co_X4_note rfl (by decide +kernel) rfl rfl (by decide) (by decide) rfl rfl (Nat.le_of_ble_eq_true rfl) dX4_readNameAhead_18) (fun I13 h => ?_)
    exact m_X4_readNameAhead_p21 G hW a0 k0 I13 h
abbrev rm_X4_takeAim : Room := { frames := 2, cells := 0, slots := 0, locals := 43 }
def w_X4_takeAim (a0 : Nat) (I : MI) (Q : MI → Prop) : Prop :=
(w_X4_isNext a0 (3 : Int32) I (fun r1 =>
((r1 = 0 → (w_X4_take a0 (3 : Int32) I (fun r3 I4 =>
Q I4))) ∧
(¬ r1 = 0 → (((150 : Int32) ≤ (I a0 5) → (w_X4_take a0 (3 : Int32) I (fun r6 I7 =>
Q I7))) ∧
(¬ (150 : Int32) ≤ (I a0 5) → (vp_in (I a0 5) 150 ∧
(∀ I10, I10 = ui I (a0 + 42) (ix (I a0 5)) (I a0 4) →
(w_X4_take a0 (3 : Int32) I10 (fun r11 I12 =>
Q I12))))))))))
set_option maxHeartbeats 4000000 in
set_option maxRecDepth 100000 in
theorem c_X4_takeAim (K : Kx) (hW : WFK K) (l : Launch) (a0 : Nat) (k0 : (kG K a0).1 = 6) (I : MI) (J : MJ) (B : MR) (Q : MI → Prop) (h : w_X4_takeAim a0 I Q) : Con K l yX4_takeAim (wsT yX4_takeAim cX4_takeAim 1 none) rm_X4_takeAim [.ref a0] (I, J, B) (va_Qv (S := MI) Q (fun u t => HP K (u, J, B) t.heap) (AA K)) := by
  refine Con.ofJ RX4 rfl (by decide) (Nat.le_of_ble_eq_true rfl) (fun m H0 w G => ?_)
  unfold w_X4_takeAim at h
  show Jg K m 1 H0 w 0 [(0, .ref a0)] [] (I, J, B)
  refine j_aload_n G 0 0 dX4_takeAim_0 rfl rfl ?_
  refine j_iconst G (3 : Int32) dX4_takeAim_1 (by decide) ?_
  refine j_ci (rn_V G hW (ci := 5) (n := 1) (As := [.int (3 : Int32)]) (rest := []) (c_X4_isNext K hW l a0 (3 : Int32) k0 I J B _ h) k0 (by decide) rfl ml_X4_58 im_X4_isNext se_X4_isNext in_X4 co_X4_isNext rfl (by decide +kernel) rfl rfl (by decide) (by decide) rfl rfl (Nat.le_of_ble_eq_true rfl) dX4_takeAim_2) (fun r1 _ h => ?_)
  refine j_if_eq G 31 dX4_takeAim_5 (by decide) (fun c2 => ?_) (fun c2 => ?_)
  · have h := h.1 c2
    refine j_aload_n G 0 0 dX4_takeAim_31 rfl rfl ?_
    refine j_iconst G (3 : Int32) dX4_takeAim_32 (by decide) ?_
    refine j_ci (rn_V G hW (ci := 5) (n := 1) (As := [.int (3 : Int32)]) (rest := []) (c_X4_take K hW l a0 (3 : Int32) k0 I J B _ h) k0 (by decide) rfl ml_X4_106 im_X4_take se_X4_take in_X4 co_X4_take rfl (by decide +kernel) rfl rfl (by decide) (by decide) rfl rfl (Nat.le_of_ble_eq_true rfl) dX4_takeAim_33) (fun r3 I4 h => ?_)
    refine j_pop G rfl dX4_takeAim_36 ?_
    exact j_retv G I4 dX4_takeAim_37 h rfl
  · have h := h.2 c2
    refine j_aload_n G 0 0 dX4_takeAim_8 rfl rfl ?_
    refine j_get G hW 5 5 0 (.int (I a0 5)) k0 (by decide) rfl (by decide) rfl lay_X4 fl_X4_40 rfl rfl dX4_takeAim_9 ?_
    refine j_sipush G (150 : Int32) dX4_takeAim_12 (by decide) ?_
    refine j_icmp_ge G 31 dX4_takeAim_15 (by decide) (fun c5 => ?_) (fun c5 => ?_)
    · have h := h.1 c5
      refine j_aload_n G 0 0 dX4_takeAim_31 rfl rfl ?_
      refine j_iconst G (3 : Int32) dX4_takeAim_32 (by decide) ?_
      refine j_ci (rn_V G hW (ci := 5) (n := 1) (As := [.int (3 : Int32)]) (rest := []) (c_X4_take K hW l a0 (3 : Int32) k0 I J B _ h) k0 (by decide) rfl ml_X4_106 im_X4_take se_X4_take in_X4 co_X4_take rfl (by decide +kernel) rfl rfl (by decide) (by decide) rfl rfl (Nat.le_of_ble_eq_true rfl) dX4_takeAim_33) (fun r6 I7 h => ?_)
      refine j_pop G rfl dX4_takeAim_36 ?_
      exact j_retv G I7 dX4_takeAim_37 h rfl
    · have h := h.2 c5
      refine j_aload_n G 0 0 dX4_takeAim_18 rfl rfl ?_
      have kk8 : kG K (a0 + 42) = (20, 150) := wk_6_42 hW k0
      refine j_get G hW 5 7 45 (.ref (a0 + 42)) k0 (by decide) rfl (by decide) rfl lay_X4 fl_X4_29 rfl rfl dX4_takeAim_19 ?_
      refine j_aload_n G 0 0 dX4_takeAim_22 rfl rfl ?_
      refine j_get G hW 5 5 0 (.int (I a0 5)) k0 (by decide) rfl (by decide) rfl lay_X4 fl_X4_40 rfl rfl dX4_takeAim_23 ?_
      refine j_aload_n G 0 0 dX4_takeAim_26 rfl rfl ?_
      refine j_get G hW 5 4 0 (.int (I a0 4)) k0 (by decide) rfl (by decide) rfl lay_X4 fl_X4_36 rfl rfl dX4_takeAim_27 ?_
      obtain ⟨b9, h⟩ := h
      refine j_iast G hW kk8 b9 dX4_takeAim_30 ?_
      refine j_mI (fun I10 eI10 => ?_)
      have h := h I10 eI10
      refine j_aload_n G 0 0 dX4_takeAim_31 rfl rfl ?_
      refine j_iconst G (3 : Int32) dX4_takeAim_32 (by decide) ?_
      refine j_ci (rn_V G hW (ci := 5) (n := 1) (As := [.int (3 : Int32)]) (rest := []) (c_X4_take K hW l a0 (3 : Int32) k0 I10 J B _ h) k0 (by decide) rfl ml_X4_106 im_X4_take se_X4_take in_X4 co_X4_take rfl (by decide +kernel) rfl rfl (by decide) (by decide) rfl rfl (Nat.le_of_ble_eq_true rfl) dX4_takeAim_33) (fun r11 I12 h => ?_)
      refine j_pop G rfl dX4_takeAim_36 ?_
      exact j_retv G I12 dX4_takeAim_37 h rfl
abbrev rm_X4_takeRelation : Room := { frames := 2, cells := 0, slots := 0, locals := 43 }
def w_X4_takeRelation (a0 : Nat) (I : MI) (Q : Int32 → MI → Prop) : Prop :=
(w_X4_isNext a0 (5 : Int32) I (fun r1 =>
((r1 = 0 → (w_X4_take a0 (5 : Int32) I (fun r3 I4 =>
(chr ((Int32.toUInt32 r3 % 65536).toInt32) ∧
Q ((Int32.toUInt32 r3 % 65536).toInt32) I4)))) ∧
(¬ r1 = 0 → (vp_in (I a0 4) 601 ∧
(((I (a0 + 37) (ix (I a0 4))) = (59 : Int32) → (w_X4_breakOff a0 I (fun I10 =>
Q (61 : Int32) I10))) ∧
(¬ (I (a0 + 37) (ix (I a0 4))) = (59 : Int32) → (vp_in (I a0 4) 601 ∧
((¬ (I (a0 + 37) (ix (I a0 4))) = (58 : Int32) → (w_X4_take a0 (5 : Int32) I (fun r13 I14 =>
(chr ((Int32.toUInt32 r13 % 65536).toInt32) ∧
Q ((Int32.toUInt32 r13 % 65536).toInt32) I14)))) ∧
((I (a0 + 37) (ix (I a0 4))) = (58 : Int32) → (w_X4_breakOff a0 I (fun I16 =>
Q (61 : Int32) I16))))))))))))
set_option maxHeartbeats 4000000 in
set_option maxRecDepth 100000 in
theorem c_X4_takeRelation (K : Kx) (hW : WFK K) (l : Launch) (a0 : Nat) (k0 : (kG K a0).1 = 6) (I : MI) (J : MJ) (B : MR) (Q : Int32 → MI → Prop) (h : w_X4_takeRelation a0 I Q) : Con K l yX4_takeRelation (wsT yX4_takeRelation cX4_takeRelation 1 (some .char)) rm_X4_takeRelation [.ref a0] (I, J, B) (va_Qi (S := MI) Q (fun u t => HP K (u, J, B) t.heap) (AA K)) := by
  refine Con.ofJ RX4 rfl (by decide) (Nat.le_of_ble_eq_true rfl) (fun m H0 w G => ?_)
  unfold w_X4_takeRelation at h
  show Jg K m 1 H0 w 0 [(0, .ref a0)] [] (I, J, B)
  refine j_aload_n G 0 0 dX4_takeRelation_0 rfl rfl ?_
  refine j_iconst G (5 : Int32) dX4_takeRelation_1 (by decide) ?_
  refine j_ci (rn_V G hW (ci := 5) (n := 1) (As := [.int (5 : Int32)]) (rest := []) (c_X4_isNext K hW l a0 (5 : Int32) k0 I J B _ h) k0 (by decide) rfl ml_X4_58 im_X4_isNext se_X4_isNext in_X4 co_X4_isNext rfl (by decide +kernel) rfl rfl (by decide) (by decide) rfl rfl (Nat.le_of_ble_eq_true rfl) dX4_takeRelation_2) (fun r1 _ h => ?_)
  refine j_if_eq G 49 dX4_takeRelation_5 (by decide) (fun c2 => ?_) (fun c2 => ?_)
  · have h := h.1 c2
    refine j_aload_n G 0 0 dX4_takeRelation_49 rfl rfl ?_
    refine j_iconst G (5 : Int32) dX4_takeRelation_50 (by decide) ?_
    refine j_ci (rn_V G hW (ci := 5) (n := 1) (As := [.int (5 : Int32)]) (rest := []) (c_X4_take K hW l a0 (5 : Int32) k0 I J B _ h) k0 (by decide) rfl ml_X4_106 im_X4_take se_X4_take in_X4 co_X4_take rfl (by decide +kernel) rfl rfl (by decide) (by decide) rfl rfl (Nat.le_of_ble_eq_true rfl) dX4_takeRelation_51) (fun r3 I4 h => ?_)
    refine j_i2c G dX4_takeRelation_54 ?_
    obtain ⟨q5, h⟩ := h
    exact j_reti G I4 (chr_n q5) dX4_takeRelation_55 h rfl
  · have h := h.2 c2
    refine j_aload_n G 0 0 dX4_takeRelation_8 rfl rfl ?_
    have kk6 : kG K (a0 + 35) = (9, 0) := wk_6_35 hW k0
    refine j_get G hW 5 3 38 (.ref (a0 + 35)) k0 (by decide) rfl (by decide) rfl lay_X4 fl_X4_21 rfl rfl dX4_takeRelation_9 ?_
    have kk7 : kG K (a0 + 37) = (20, 601) := wk_9_2 hW (congrArg Prod.fst kk6)
    refine j_get G hW 8 1 5 (.ref (a0 + 37)) (congrArg Prod.fst kk6) (by decide) rfl (by decide) rfl lay_X7 fl_X4_90 rfl rfl dX4_takeRelation_12 ?_
    refine j_aload_n G 0 0 dX4_takeRelation_15 rfl rfl ?_
    refine j_get G hW 5 4 0 (.int (I a0 4)) k0 (by decide) rfl (by decide) rfl lay_X4 fl_X4_36 rfl rfl dX4_takeRelation_16 ?_
    obtain ⟨b8, h⟩ := h
    refine j_iald G hW kk7 b8 dX4_takeRelation_19 ?_
    refine j_bipush G (59 : Int32) dX4_takeRelation_20 (by decide) ?_
    refine j_icmp_eq G 42 dX4_takeRelation_22 (by decide) (fun c9 => ?_) (fun c9 => ?_)
    · have h := h.1 c9
      refine j_aload_n G 0 0 dX4_takeRelation_42 rfl rfl ?_
      refine j_cv (rn_V G hW (ci := 5) (n := 0) (As := []) (rest := []) (c_X4_breakOff K hW l a0 k0 I J B _ h) k0 (by decide) rfl ml_X4_142 im_X4_breakOff se_X4_breakOff in_X4 co_X4_breakOff rfl (by decide +kernel) rfl rfl (by decide) (by decide) rfl rfl (Nat.le_of_ble_eq_true rfl) dX4_takeRelation_43) (fun I10 h => ?_)
      refine j_bipush G (61 : Int32) dX4_takeRelation_46 (by decide) ?_
      exact j_reti G I10 (by decide) dX4_takeRelation_48 h rfl
    · have h := h.2 c9
      refine j_aload_n G 0 0 dX4_takeRelation_25 rfl rfl ?_
      refine j_get G hW 5 3 38 (.ref (a0 + 35)) k0 (by decide) rfl (by decide) rfl lay_X4 fl_X4_21 rfl rfl dX4_takeRelation_26 ?_
      refine j_get G hW 8 1 5 (.ref (a0 + 37)) (congrArg Prod.fst kk6) (by decide) rfl (by decide) rfl lay_X7 fl_X4_90 rfl rfl dX4_takeRelation_29 ?_
      refine j_aload_n G 0 0 dX4_takeRelation_32 rfl rfl ?_
      refine j_get G hW 5 4 0 (.int (I a0 4)) k0 (by decide) rfl (by decide) rfl lay_X4 fl_X4_36 rfl rfl dX4_takeRelation_33 ?_
      obtain ⟨b11, h⟩ := h
      refine j_iald G hW kk7 b11 dX4_takeRelation_36 ?_
      refine j_bipush G (58 : Int32) dX4_takeRelation_37 (by decide) ?_
      refine j_icmp_ne G 49 dX4_takeRelation_39 (by decide) (fun c12 => ?_) (fun c12 => ?_)
      · have h := h.1 c12
        refine j_aload_n G 0 0 dX4_takeRelation_49 rfl rfl ?_
        refine j_iconst G (5 : Int32) dX4_takeRelation_50 (by decide) ?_
        refine j_ci (rn_V G hW (ci := 5) (n := 1) (As := [.int (5 : Int32)]) (rest := []) (c_X4_take K hW l a0 (5 : Int32) k0 I J B _ h) k0 (by decide) rfl ml_X4_106 im_X4_take se_X4_take in_X4 co_X4_take rfl (by decide +kernel) rfl rfl (by decide) (by decide) rfl rfl (Nat.le_of_ble_eq_true rfl) dX4_takeRelation_51) (fun r13 I14 h => ?_)
        refine j_i2c G dX4_takeRelation_54 ?_
        obtain ⟨q15, h⟩ := h
        exact j_reti G I14 (chr_n q15) dX4_takeRelation_55 h rfl
      · have h := h.2 c12
        refine j_aload_n G 0 0 dX4_takeRelation_42 rfl rfl ?_
        refine j_cv (rn_V G hW (ci := 5) (n := 0) (As := []) (rest := []) (c_X4_breakOff K hW l a0 k0 I J B _ h) k0 (by decide) rfl ml_X4_142 im_X4_breakOff se_X4_breakOff in_X4 co_X4_breakOff rfl (by decide +kernel) rfl rfl (by decide) (by decide) rfl rfl (Nat.le_of_ble_eq_true rfl) dX4_takeRelation_43) (fun I16 h => ?_)
        refine j_bipush G (61 : Int32) dX4_takeRelation_46 (by decide) ?_
        exact j_reti G I16 (by decide) dX4_takeRelation_48 h rfl
abbrev rm_X4_readRest : Room := { frames := 3, cells := 0, slots := 0, locals := 67 }
def w_X4_readRest (a0 : Nat) (a1 : Nat) (I : MI) (Q : MI → Prop) : Prop :=
(((I a1 0) = (0 : Int32) → (w_X4_take a0 (2 : Int32) I (fun r1 I2 =>
(∀ I3, I3 = ui I2 a1 1 r1 →
(w_X4_takeNumber a0 (0 : Int32) (999 : Int32) I3 (fun r4 I5 =>
(∀ I6, I6 = ui I5 a1 4 r4 →
Q I6))))))) ∧
((I a1 0) = (1 : Int32) ∨ (I a1 0) = (2 : Int32) ∨ (I a1 0) = (3 : Int32) → (w_X4_take a0 (2 : Int32) I (fun r7 I8 =>
(∀ I9, I9 = ui I8 a1 1 r7 →
(w_X4_take a0 (2 : Int32) I9 (fun r10 I11 =>
(∀ I12, I12 = ui I11 a1 2 r10 →
(w_X4_take a0 (2 : Int32) I12 (fun r13 I14 =>
(∀ I15, I15 = ui I14 a1 3 r13 →
Q I15)))))))))) ∧
((I a1 0) = (4 : Int32) ∨ (I a1 0) = (5 : Int32) → (w_X4_take a0 (2 : Int32) I (fun r16 I17 =>
(∀ I18, I18 = ui I17 a1 1 r16 →
(w_X4_take a0 (2 : Int32) I18 (fun r19 I20 =>
(∀ I21, I21 = ui I20 a1 2 r19 →
(w_X4_takeNumber a0 (0 : Int32) (31 : Int32) I21 (fun r22 I23 =>
(∀ I24, I24 = ui I23 a1 4 r22 →
Q I24)))))))))) ∧
((I a1 0) = (6 : Int32) → (w_X4_takeAim a0 I (fun I25 =>
Q I25))) ∧
((I a1 0) = (7 : Int32) → (w_X4_take a0 (2 : Int32) I (fun r26 I27 =>
(∀ I28, I28 = ui I27 a1 2 r26 →
(w_X4_takeRelation a0 I28 (fun r29 I30 =>
(chr r29 ∧
(∀ I32, I32 = ui I30 a1 5 r29 →
(w_X4_take a0 (2 : Int32) I32 (fun r33 I34 =>
(∀ I35, I35 = ui I34 a1 3 r33 →
(w_X4_takeAim a0 I35 (fun I36 =>
Q I36))))))))))))) ∧
(¬ (I a1 0) = (0 : Int32) → ¬ (I a1 0) = (1 : Int32) → ¬ (I a1 0) = (2 : Int32) → ¬ (I a1 0) = (3 : Int32) → ¬ (I a1 0) = (4 : Int32) → ¬ (I a1 0) = (5 : Int32) → ¬ (I a1 0) = (6 : Int32) → ¬ (I a1 0) = (7 : Int32) → Q I))
set_option maxHeartbeats 4000000 in
set_option maxRecDepth 100000 in
theorem c_X4_readRest (K : Kx) (hW : WFK K) (l : Launch) (a0 : Nat) (a1 : Nat) (k0 : (kG K a0).1 = 6) (k1 : (kG K a1).1 = 2) (I : MI) (J : MJ) (B : MR) (Q : MI → Prop) (h : w_X4_readRest a0 a1 I Q) : Con K l yX4_readRest (wsT yX4_readRest cX4_readRest 2 none) rm_X4_readRest [.ref a0, .ref a1] (I, J, B) (va_Qv (S := MI) Q (fun u t => HP K (u, J, B) t.heap) (AA K)) := by
  refine Con.ofJ RX4 rfl (by decide) (Nat.le_of_ble_eq_true rfl) (fun m H0 w G => ?_)
  unfold w_X4_readRest at h
  show Jg K m 2 H0 w 0 [(0, .ref a0), (1, .ref a1)] [] (I, J, B)
  refine j_aload_n G 1 1 dX4_readRest_0 rfl rfl ?_
  refine j_get G hW 1 0 0 (.int (I a1 0)) k1 (by decide) rfl (by decide) rfl lay_X0 fl_X4_85 rfl rfl dX4_readRest_1 ?_
  by_cases c37 : (I a1 0) = (0 : Int32)
  · have h := h.1 (c37)
    refine j_tableIn G 52 dX4_readRest_4 (by rw [c37]; decide) (by rw [c37]; decide) (by rw [c37] <;> rfl) (by decide) ?_
    refine j_aload_n G 1 1 dX4_readRest_52 rfl rfl ?_
    refine j_aload_n G 0 0 dX4_readRest_53 rfl rfl ?_
    refine j_iconst G (2 : Int32) dX4_readRest_54 (by decide) ?_
    refine j_ci (rn_V G hW (ci := 5) (n := 1) (As := [.int (2 : Int32)]) (rest := [.ref a1]) (c_X4_take K hW l a0 (2 : Int32) k0 I J B _ h) k0 (by decide) rfl ml_X4_106 im_X4_take se_X4_take in_X4 co_X4_take rfl (by decide +kernel) rfl rfl (by decide) (by decide) rfl rfl (Nat.le_of_ble_eq_true rfl) dX4_readRest_55) (fun r1 I2 h => ?_)
    refine j_put G hW 1 1 tyX0 (tyX0 1) tyX0_ok nmX0 k1 (by decide) rfl (by decide) rfl lay_X0 fl_X4_149 rfl rfl (tyX0_ok 1 (by decide)) rfl rfl dX4_readRest_58 ?_
    refine j_mI (fun I3 eI3 => ?_)
    have h := h I3 eI3
    refine j_aload_n G 1 1 dX4_readRest_61 rfl rfl ?_
    refine j_aload_n G 0 0 dX4_readRest_62 rfl rfl ?_
    refine j_iconst G (0 : Int32) dX4_readRest_63 (by decide) ?_
    refine j_sipush G (999 : Int32) dX4_readRest_64 (by decide) ?_
    refine j_ci (rn_V G hW (ci := 5) (n := 2) (As := [.int (0 : Int32), .int (999 : Int32)]) (rest := [.ref a1]) (c_X4_takeNumber K hW l a0 (0 : Int32) (999 : Int32) k0 I3 J B _ h) k0 (by decide) rfl ml_X4_110 im_X4_takeNumber se_X4_takeNumber in_X4 co_X4_takeNumber rfl (by decide +kernel) rfl rfl (by decide) (by decide) rfl rfl (Nat.le_of_ble_eq_true rfl) dX4_readRest_67) (fun r4 I5 h => ?_)
    refine j_put G hW 1 4 tyX0 (tyX0 4) tyX0_ok nmX0 k1 (by decide) rfl (by decide) rfl lay_X0 fl_X4_152 rfl rfl (tyX0_ok 4 (by decide)) rfl rfl dX4_readRest_70 ?_
    refine j_mI (fun I6 eI6 => ?_)
    have h := h I6 eI6
    refine j_goto G 178 dX4_readRest_73 (by decide) ?_
    exact j_retv G I6 dX4_readRest_178 h rfl
  · skip
    by_cases c38 : (I a1 0) = (1 : Int32)
    · have h := h.2.1 (Or.inl c38)
      refine j_tableIn G 76 dX4_readRest_4 (by rw [c38]; decide) (by rw [c38]; decide) (by rw [c38] <;> rfl) (by decide) ?_
      refine j_aload_n G 1 1 dX4_readRest_76 rfl rfl ?_
      refine j_aload_n G 0 0 dX4_readRest_77 rfl rfl ?_
      refine j_iconst G (2 : Int32) dX4_readRest_78 (by decide) ?_
      refine j_ci (rn_V G hW (ci := 5) (n := 1) (As := [.int (2 : Int32)]) (rest := [.ref a1]) (c_X4_take K hW l a0 (2 : Int32) k0 I J B _ h) k0 (by decide) rfl ml_X4_106 im_X4_take se_X4_take in_X4 co_X4_take rfl (by decide +kernel) rfl rfl (by decide) (by decide) rfl rfl (Nat.le_of_ble_eq_true rfl) dX4_readRest_79) (fun r7 I8 h => ?_)
      refine j_put G hW 1 1 tyX0 (tyX0 1) tyX0_ok nmX0 k1 (by decide) rfl (by decide) rfl lay_X0 fl_X4_149 rfl rfl (tyX0_ok 1 (by decide)) rfl rfl dX4_readRest_82 ?_
      refine j_mI (fun I9 eI9 => ?_)
      have h := h I9 eI9
      refine j_aload_n G 1 1 dX4_readRest_85 rfl rfl ?_
      refine j_aload_n G 0 0 dX4_readRest_86 rfl rfl ?_
      refine j_iconst G (2 : Int32) dX4_readRest_87 (by decide) ?_
      refine j_ci (rn_V G hW (ci := 5) (n := 1) (As := [.int (2 : Int32)]) (rest := [.ref a1]) (c_X4_take K hW l a0 (2 : Int32) k0 I9 J B _ h) k0 (by decide) rfl ml_X4_106 im_X4_take se_X4_take in_X4 co_X4_take rfl (by decide +kernel) rfl rfl (by decide) (by decide) rfl rfl (Nat.le_of_ble_eq_true rfl) dX4_readRest_88) (fun r10 I11 h => ?_)
      refine j_put G hW 1 2 tyX0 (tyX0 2) tyX0_ok nmX0 k1 (by decide) rfl (by decide) rfl lay_X0 fl_X4_155 rfl rfl (tyX0_ok 2 (by decide)) rfl rfl dX4_readRest_91 ?_
      refine j_mI (fun I12 eI12 => ?_)
      have h := h I12 eI12
      refine j_aload_n G 1 1 dX4_readRest_94 rfl rfl ?_
      refine j_aload_n G 0 0 dX4_readRest_95 rfl rfl ?_
      refine j_iconst G (2 : Int32) dX4_readRest_96 (by decide) ?_
      refine j_ci (rn_V G hW (ci := 5) (n := 1) (As := [.int (2 : Int32)]) (rest := [.ref a1]) (c_X4_take K hW l a0 (2 : Int32) k0 I12 J B _ h) k0 (by decide) rfl ml_X4_106 im_X4_take se_X4_take in_X4 co_X4_take rfl (by decide +kernel) rfl rfl (by decide) (by decide) rfl rfl (Nat.le_of_ble_eq_true rfl) dX4_readRest_97) (fun r13 I14 h => ?_)
      refine j_put G hW 1 3 tyX0 (tyX0 3) tyX0_ok nmX0 k1 (by decide) rfl (by decide) rfl lay_X0 fl_X4_158 rfl rfl (tyX0_ok 3 (by decide)) rfl rfl dX4_readRest_100 ?_
      refine j_mI (fun I15 eI15 => ?_)
      have h := h I15 eI15
      refine j_goto G 178 dX4_readRest_103 (by decide) ?_
      exact j_retv G I15 dX4_readRest_178 h rfl
    · skip
      by_cases c39 : (I a1 0) = (2 : Int32)
      · have h := h.2.1 (Or.inr (Or.inl c39))
        refine j_tableIn G 76 dX4_readRest_4 (by rw [c39]; decide) (by rw [c39]; decide) (by rw [c39] <;> rfl) (by decide) ?_
        refine j_aload_n G 1 1 dX4_readRest_76 rfl rfl ?_
        refine j_aload_n G 0 0 dX4_readRest_77 rfl rfl ?_
        refine j_iconst G (2 : Int32) dX4_readRest_78 (by decide) ?_
        refine j_ci (rn_V G hW (ci := 5) (n := 1) (As := [.int (2 : Int32)]) (rest := [.ref a1]) (c_X4_take K hW l a0 (2 : Int32) k0 I J B _ h) k0 (by decide) rfl ml_X4_106 im_X4_take se_X4_take in_X4 co_X4_take rfl (by decide +kernel) rfl rfl (by decide) (by decide) rfl rfl (Nat.le_of_ble_eq_true rfl) dX4_readRest_79) (fun r7 I8 h => ?_)
        refine j_put G hW 1 1 tyX0 (tyX0 1) tyX0_ok nmX0 k1 (by decide) rfl (by decide) rfl lay_X0 fl_X4_149 rfl rfl (tyX0_ok 1 (by decide)) rfl rfl dX4_readRest_82 ?_
        refine j_mI (fun I9 eI9 => ?_)
        have h := h I9 eI9
        refine j_aload_n G 1 1 dX4_readRest_85 rfl rfl ?_
        refine j_aload_n G 0 0 dX4_readRest_86 rfl rfl ?_
        refine j_iconst G (2 : Int32) dX4_readRest_87 (by decide) ?_
        refine j_ci (rn_V G hW (ci := 5) (n := 1) (As := [.int (2 : Int32)]) (rest := [.ref a1]) (c_X4_take K hW l a0 (2 : Int32) k0 I9 J B _ h) k0 (by decide) rfl ml_X4_106 im_X4_take se_X4_take in_X4 co_X4_take rfl (by decide +kernel) rfl rfl (by decide) (by decide) rfl rfl (Nat.le_of_ble_eq_true rfl) dX4_readRest_88) (fun r10 I11 h => ?_)
        refine j_put G hW 1 2 tyX0 (tyX0 2) tyX0_ok nmX0 k1 (by decide) rfl (by decide) rfl lay_X0 fl_X4_155 rfl rfl (tyX0_ok 2 (by decide)) rfl rfl dX4_readRest_91 ?_
        refine j_mI (fun I12 eI12 => ?_)
        have h := h I12 eI12
        refine j_aload_n G 1 1 dX4_readRest_94 rfl rfl ?_
        refine j_aload_n G 0 0 dX4_readRest_95 rfl rfl ?_
        refine j_iconst G (2 : Int32) dX4_readRest_96 (by decide) ?_
        refine j_ci (rn_V G hW (ci := 5) (n := 1) (As := [.int (2 : Int32)]) (rest := [.ref a1]) (c_X4_take K hW l a0 (2 : Int32) k0 I12 J B _ h) k0 (by decide) rfl ml_X4_106 im_X4_take se_X4_take in_X4 co_X4_take rfl (by decide +kernel) rfl rfl (by decide) (by decide) rfl rfl (Nat.le_of_ble_eq_true rfl) dX4_readRest_97) (fun r13 I14 h => ?_)
        refine j_put G hW 1 3 tyX0 (tyX0 3) tyX0_ok nmX0 k1 (by decide) rfl (by decide) rfl lay_X0 fl_X4_158 rfl rfl (tyX0_ok 3 (by decide)) rfl rfl dX4_readRest_100 ?_
        refine j_mI (fun I15 eI15 => ?_)
        have h := h I15 eI15
        refine j_goto G 178 dX4_readRest_103 (by decide) ?_
        exact j_retv G I15 dX4_readRest_178 h rfl
      · skip
        by_cases c40 : (I a1 0) = (3 : Int32)
        · have h := h.2.1 (Or.inr (Or.inr (c40)))
          refine j_tableIn G 76 dX4_readRest_4 (by rw [c40]; decide) (by rw [c40]; decide) (by rw [c40] <;> rfl) (by decide) ?_
          refine j_aload_n G 1 1 dX4_readRest_76 rfl rfl ?_
          refine j_aload_n G 0 0 dX4_readRest_77 rfl rfl ?_
          refine j_iconst G (2 : Int32) dX4_readRest_78 (by decide) ?_
          refine j_ci (rn_V G hW (ci := 5) (n := 1) (As := [.int (2 : Int32)]) (rest := [.ref a1]) (c_X4_take K hW l a0 (2 : Int32) k0 I J B _ h) k0 (by decide) rfl ml_X4_106 im_X4_take se_X4_take in_X4 co_X4_take rfl (by decide +kernel) rfl rfl (by decide) (by decide) rfl rfl (Nat.le_of_ble_eq_true rfl) dX4_readRest_79) (fun r7 I8 h => ?_)
          refine j_put G hW 1 1 tyX0 (tyX0 1) tyX0_ok nmX0 k1 (by decide) rfl (by decide) rfl lay_X0 fl_X4_149 rfl rfl (tyX0_ok 1 (by decide)) rfl rfl dX4_readRest_82 ?_
          refine j_mI (fun I9 eI9 => ?_)
          have h := h I9 eI9
          refine j_aload_n G 1 1 dX4_readRest_85 rfl rfl ?_
          refine j_aload_n G 0 0 dX4_readRest_86 rfl rfl ?_
          refine j_iconst G (2 : Int32) dX4_readRest_87 (by decide) ?_
          refine j_ci (rn_V G hW (ci := 5) (n := 1) (As := [.int (2 : Int32)]) (rest := [.ref a1]) (c_X4_take K hW l a0 (2 : Int32) k0 I9 J B _ h) k0 (by decide) rfl ml_X4_106 im_X4_take se_X4_take in_X4 co_X4_take rfl (by decide +kernel) rfl rfl (by decide) (by decide) rfl rfl (Nat.le_of_ble_eq_true rfl) dX4_readRest_88) (fun r10 I11 h => ?_)
          refine j_put G hW 1 2 tyX0 (tyX0 2) tyX0_ok nmX0 k1 (by decide) rfl (by decide) rfl lay_X0 fl_X4_155 rfl rfl (tyX0_ok 2 (by decide)) rfl rfl dX4_readRest_91 ?_
          refine j_mI (fun I12 eI12 => ?_)
          have h := h I12 eI12
          refine j_aload_n G 1 1 dX4_readRest_94 rfl rfl ?_
          refine j_aload_n G 0 0 dX4_readRest_95 rfl rfl ?_
          refine j_iconst G (2 : Int32) dX4_readRest_96 (by decide) ?_
          refine j_ci (rn_V G hW (ci := 5) (n := 1) (As := [.int (2 : Int32)]) (rest := [.ref a1]) (c_X4_take K hW l a0 (2 : Int32) k0 I12 J B _ h) k0 (by decide) rfl ml_X4_106 im_X4_take se_X4_take in_X4 co_X4_take rfl (by decide +kernel) rfl rfl (by decide) (by decide) rfl rfl (Nat.le_of_ble_eq_true rfl) dX4_readRest_97) (fun r13 I14 h => ?_)
          refine j_put G hW 1 3 tyX0 (tyX0 3) tyX0_ok nmX0 k1 (by decide) rfl (by decide) rfl lay_X0 fl_X4_158 rfl rfl (tyX0_ok 3 (by decide)) rfl rfl dX4_readRest_100 ?_
          refine j_mI (fun I15 eI15 => ?_)
          have h := h I15 eI15
          refine j_goto G 178 dX4_readRest_103 (by decide) ?_
          exact j_retv G I15 dX4_readRest_178 h rfl
        · skip
          by_cases c41 : (I a1 0) = (4 : Int32)
          · have h := h.2.2.1 (Or.inl c41)
            refine j_tableIn G 106 dX4_readRest_4 (by rw [c41]; decide) (by rw [c41]; decide) (by rw [c41] <;> rfl) (by decide) ?_
            refine j_aload_n G 1 1 dX4_readRest_106 rfl rfl ?_
            refine j_aload_n G 0 0 dX4_readRest_107 rfl rfl ?_
            refine j_iconst G (2 : Int32) dX4_readRest_108 (by decide) ?_
            refine j_ci (rn_V G hW (ci := 5) (n := 1) (As := [.int (2 : Int32)]) (rest := [.ref a1]) (c_X4_take K hW l a0 (2 : Int32) k0 I J B _ h) k0 (by decide) rfl ml_X4_106 im_X4_take se_X4_take in_X4 co_X4_take rfl (by decide +kernel) rfl rfl (by decide) (by decide) rfl rfl (Nat.le_of_ble_eq_true rfl) dX4_readRest_109) (fun r16 I17 h => ?_)
            refine j_put G hW 1 1 tyX0 (tyX0 1) tyX0_ok nmX0 k1 (by decide) rfl (by decide) rfl lay_X0 fl_X4_149 rfl rfl (tyX0_ok 1 (by decide)) rfl rfl dX4_readRest_112 ?_
            refine j_mI (fun I18 eI18 => ?_)
            have h := h I18 eI18
            refine j_aload_n G 1 1 dX4_readRest_115 rfl rfl ?_
            refine j_aload_n G 0 0 dX4_readRest_116 rfl rfl ?_
            refine j_iconst G (2 : Int32) dX4_readRest_117 (by decide) ?_
            refine j_ci (rn_V G hW (ci := 5) (n := 1) (As := [.int (2 : Int32)]) (rest := [.ref a1]) (c_X4_take K hW l a0 (2 : Int32) k0 I18 J B _ h) k0 (by decide) rfl ml_X4_106 im_X4_take se_X4_take in_X4 co_X4_take rfl (by decide +kernel) rfl rfl (by decide) (by decide) rfl rfl (Nat.le_of_ble_eq_true rfl) dX4_readRest_118) (fun r19 I20 h => ?_)
            refine j_put G hW 1 2 tyX0 (tyX0 2) tyX0_ok nmX0 k1 (by decide) rfl (by decide) rfl lay_X0 fl_X4_155 rfl rfl (tyX0_ok 2 (by decide)) rfl rfl dX4_readRest_121 ?_
            refine j_mI (fun I21 eI21 => ?_)
            have h := h I21 eI21
            refine j_aload_n G 1 1 dX4_readRest_124 rfl rfl ?_
            refine j_aload_n G 0 0 dX4_readRest_125 rfl rfl ?_
            refine j_iconst G (0 : Int32) dX4_readRest_126 (by decide) ?_
            refine j_bipush G (31 : Int32) dX4_readRest_127 (by decide) ?_
            refine j_ci (rn_V G hW (ci := 5) (n := 2) (As := [.int (0 : Int32), .int (31 : Int32)]) (rest := [.ref a1]) (c_X4_takeNumber K hW l a0 (0 : Int32) (31 : Int32) k0 I21 J B _ h) k0 (by decide) rfl ml_X4_110 im_X4_takeNumber se_X4_takeNumber in_X4 co_X4_takeNumber rfl (by decide +kernel) rfl rfl (by decide) (by decide) rfl rfl (Nat.le_of_ble_eq_true rfl) dX4_readRest_129) (fun r22 I23 h => ?_)
            refine j_put G hW 1 4 tyX0 (tyX0 4) tyX0_ok nmX0 k1 (by decide) rfl (by decide) rfl lay_X0 fl_X4_152 rfl rfl (tyX0_ok 4 (by decide)) rfl rfl dX4_readRest_132 ?_
            refine j_mI (fun I24 eI24 => ?_)
            have h := h I24 eI24
            refine j_goto G 178 dX4_readRest_135 (by decide) ?_
            exact j_retv G I24 dX4_readRest_178 h rfl
          · skip
            by_cases c42 : (I a1 0) = (5 : Int32)
            · have h := h.2.2.1 (Or.inr (c42))
              refine j_tableIn G 106 dX4_readRest_4 (by rw [c42]; decide) (by rw [c42]; decide) (by rw [c42] <;> rfl) (by decide) ?_
              refine j_aload_n G 1 1 dX4_readRest_106 rfl rfl ?_
              refine j_aload_n G 0 0 dX4_readRest_107 rfl rfl ?_
              refine j_iconst G (2 : Int32) dX4_readRest_108 (by decide) ?_
              refine j_ci (rn_V G hW (ci := 5) (n := 1) (As := [.int (2 : Int32)]) (rest := [.ref a1]) (c_X4_take K hW l a0 (2 : Int32) k0 I J B _ h) k0 (by decide) rfl ml_X4_106 im_X4_take se_X4_take in_X4 co_X4_take rfl (by decide +kernel) rfl rfl (by decide) (by decide) rfl rfl (Nat.le_of_ble_eq_true rfl) dX4_readRest_109) (fun r16 I17 h => ?_)
              refine j_put G hW 1 1 tyX0 (tyX0 1) tyX0_ok nmX0 k1 (by decide) rfl (by decide) rfl lay_X0 fl_X4_149 rfl rfl (tyX0_ok 1 (by decide)) rfl rfl dX4_readRest_112 ?_
              refine j_mI (fun I18 eI18 => ?_)
              have h := h I18 eI18
              refine j_aload_n G 1 1 dX4_readRest_115 rfl rfl ?_
              refine j_aload_n G 0 0 dX4_readRest_116 rfl rfl ?_
              refine j_iconst G (2 : Int32) dX4_readRest_117 (by decide) ?_
              refine j_ci (rn_V G hW (ci := 5) (n := 1) (As := [.int (2 : Int32)]) (rest := [.ref a1]) (c_X4_take K hW l a0 (2 : Int32) k0 I18 J B _ h) k0 (by decide) rfl ml_X4_106 im_X4_take se_X4_take in_X4 co_X4_take rfl (by decide +kernel) rfl rfl (by decide) (by decide) rfl rfl (Nat.le_of_ble_eq_true rfl) dX4_readRest_118) (fun r19 I20 h => ?_)
              refine j_put G hW 1 2 tyX0 (tyX0 2) tyX0_ok nmX0 k1 (by decide) rfl (by decide) rfl lay_X0 fl_X4_155 rfl rfl (tyX0_ok 2 (by decide)) rfl rfl dX4_readRest_121 ?_
              refine j_mI (fun I21 eI21 => ?_)
              have h := h I21 eI21
              refine j_aload_n G 1 1 dX4_readRest_124 rfl rfl ?_
              refine j_aload_n G 0 0 dX4_readRest_125 rfl rfl ?_
              refine j_iconst G (0 : Int32) dX4_readRest_126 (by decide) ?_
              refine j_bipush G (31 : Int32) dX4_readRest_127 (by decide) ?_
              refine j_ci (rn_V G hW (ci := 5) (n := 2) (As := [.int (0 : Int32), .int (31 : Int32)]) (rest := [.ref a1]) (c_X4_takeNumber K hW l a0 (0 : Int32) (31 : Int32) k0 I21 J B _ h) k0 (by decide) rfl ml_X4_110 im_X4_takeNumber se_X4_takeNumber in_X4 co_X4_takeNumber rfl (by decide +kernel) rfl rfl (by decide) (by decide) rfl rfl (Nat.le_of_ble_eq_true rfl) dX4_readRest_129) (fun r22 I23 h => ?_)
              refine j_put G hW 1 4 tyX0 (tyX0 4) tyX0_ok nmX0 k1 (by decide) rfl (by decide) rfl lay_X0 fl_X4_152 rfl rfl (tyX0_ok 4 (by decide)) rfl rfl dX4_readRest_132 ?_
              refine j_mI (fun I24 eI24 => ?_)
              have h := h I24 eI24
              refine j_goto G 178 dX4_readRest_135 (by decide) ?_
              exact j_retv G I24 dX4_readRest_178 h rfl
            · skip
              by_cases c43 : (I a1 0) = (6 : Int32)
              · have h := h.2.2.2.1 (c43)
                refine j_tableIn G 138 dX4_readRest_4 (by rw [c43]; decide) (by rw [c43]; decide) (by rw [c43] <;> rfl) (by decide) ?_
                refine j_aload_n G 0 0 dX4_readRest_138 rfl rfl ?_
                refine j_cv (rn_V G hW (ci := 5) (n := 0) (As := []) (rest := []) (c_X4_takeAim K hW l a0 k0 I J B _ h) k0 (by decide) rfl ml_X4_161 im_X4_takeAim se_X4_takeAim in_X4 co_X4_takeAim rfl (by decide +kernel) rfl rfl (by decide) (by decide) rfl rfl (Nat.le_of_ble_eq_true rfl) dX4_readRest_139) (fun I25 h => ?_)
                refine j_goto G 178 dX4_readRest_142 (by decide) ?_
                exact j_retv G I25 dX4_readRest_178 h rfl
              · skip
                by_cases c44 : (I a1 0) = (7 : Int32)
                · have h := h.2.2.2.2.1 (c44)
                  refine j_tableIn G 145 dX4_readRest_4 (by rw [c44]; decide) (by rw [c44]; decide) (by rw [c44] <;> rfl) (by decide) ?_
                  refine j_aload_n G 1 1 dX4_readRest_145 rfl rfl ?_
                  refine j_aload_n G 0 0 dX4_readRest_146 rfl rfl ?_
                  refine j_iconst G (2 : Int32) dX4_readRest_147 (by decide) ?_
                  refine j_ci (rn_V G hW (ci := 5) (n := 1) (As := [.int (2 : Int32)]) (rest := [.ref a1]) (c_X4_take K hW l a0 (2 : Int32) k0 I J B _ h) k0 (by decide) rfl ml_X4_106 im_X4_take se_X4_take in_X4 co_X4_take rfl (by decide +kernel) rfl rfl (by decide) (by decide) rfl rfl (Nat.le_of_ble_eq_true rfl) dX4_readRest_148) (fun r26 I27 h => ?_)
                  refine j_put G hW 1 2 tyX0 (tyX0 2) tyX0_ok nmX0 k1 (by decide) rfl (by decide) rfl lay_X0 fl_X4_155 rfl rfl (tyX0_ok 2 (by decide)) rfl rfl dX4_readRest_151 ?_
                  refine j_mI (fun I28 eI28 => ?_)
                  have h := h I28 eI28
                  refine j_aload_n G 1 1 dX4_readRest_154 rfl rfl ?_
                  refine j_aload_n G 0 0 dX4_readRest_155 rfl rfl ?_
                  refine j_ci (rn_V G hW (ci := 5) (n := 0) (As := []) (rest := [.ref a1]) (c_X4_takeRelation K hW l a0 k0 I28 J B _ h) k0 (by decide) rfl ml_X4_164 im_X4_takeRelation se_X4_takeRelation in_X4 co_X4_takeRelation rfl (by decide +kernel) rfl rfl (by decide) (by decide) rfl rfl (Nat.le_of_ble_eq_true rfl) dX4_readRest_156) (fun r29 I30 h => ?_)
                  obtain ⟨q31, h⟩ := h
                  refine j_put G hW 1 5 tyX0 (tyX0 5) tyX0_ok nmX0 k1 (by decide) rfl (by decide) rfl lay_X0 fl_X4_168 rfl rfl (tyX0_ok 5 (by decide)) (chr_n q31) (chr_f q31) dX4_readRest_159 ?_
                  refine j_mI (fun I32 eI32 => ?_)
                  have h := h I32 eI32
                  refine j_aload_n G 1 1 dX4_readRest_162 rfl rfl ?_
                  refine j_aload_n G 0 0 dX4_readRest_163 rfl rfl ?_
                  refine j_iconst G (2 : Int32) dX4_readRest_164 (by decide) ?_
                  refine j_ci (rn_V G hW (ci := 5) (n := 1) (As := [.int (2 : Int32)]) (rest := [.ref a1]) (c_X4_take K hW l a0 (2 : Int32) k0 I32 J B _ h) k0 (by decide) rfl ml_X4_106 im_X4_take se_X4_take in_X4 co_X4_take rfl (by decide +kernel) rfl rfl (by decide) (by decide) rfl rfl (Nat.le_of_ble_eq_true rfl) dX4_readRest_165) (fun r33 I34 h => ?_)
                  refine j_put G hW 1 3 tyX0 (tyX0 3) tyX0_ok nmX0 k1 (by decide) rfl (by decide) rfl lay_X0 fl_X4_158 rfl rfl (tyX0_ok 3 (by decide)) rfl rfl dX4_readRest_168 ?_
                  refine j_mI (fun I35 eI35 => ?_)
                  have h := h I35 eI35
                  refine j_aload_n G 0 0 dX4_readRest_171 rfl rfl ?_
                  refine j_cv (rn_V G hW (ci := 5) (n := 0) (As := []) (rest := []) (c_X4_takeAim K hW l a0 k0 I35 J B _ h) k0 (by decide) rfl ml_X4_161 im_X4_takeAim se_X4_takeAim in_X4 co_X4_takeAim rfl (by decide +kernel) rfl rfl (by decide) (by decide) rfl rfl (Nat.le_of_ble_eq_true rfl) dX4_readRest_172) (fun I36 h => ?_)
                  refine j_goto G 178 dX4_readRest_175 (by decide) ?_
                  exact j_retv G I36 dX4_readRest_178 h rfl
                · skip
                  have h := h.2.2.2.2.2 c37 c38 c39 c40 c41 c42 c43 c44
                  have nc37 := sw_ne (n := 0) rfl c37
                  have nc38 := sw_ne (n := 1) rfl c38
                  have nc39 := sw_ne (n := 2) rfl c39
                  have nc40 := sw_ne (n := 3) rfl c40
                  have nc41 := sw_ne (n := 4) rfl c41
                  have nc42 := sw_ne (n := 5) rfl c42
                  have nc43 := sw_ne (n := 6) rfl c43
                  have nc44 := sw_ne (n := 7) rfl c44
                  refine j_tableOut G 178 dX4_readRest_4 (by omega) (by decide) ?_
                  exact j_retv G I dX4_readRest_178 h rfl
abbrev rm_X4_readInstruction : Room := { frames := 4, cells := 0, slots := 0, locals := 88 }
def w_X4_readInstruction_p61 (a0 : Nat) (x1 : Int32)  (I : MI)  (Q : MI → Prop) : Prop :=
(w_X4_take a0 (1 : Int32) I (fun r11 I12 =>
(vp_in (if (24 : Int32) < (I12 a0 5) then (24 : Int32) else (I12 a0 5)) 25 ∧
(∀ I17, I17 = ui I12 (a0 + 10 + ix (if (24 : Int32) < (I12 a0 5) then (24 : Int32) else (I12 a0 5))) 0 x1 →
(w_X4_readRest a0 (a0 + 10 + ix (if (24 : Int32) < (I12 a0 5) then (24 : Int32) else (I12 a0 5))) I17 (fun I18 =>
(∀ I19, I19 = ui I18 a0 5 ((I18 a0 5) + (1 : Int32)) →
Q I19)))))))
set_option maxHeartbeats 4000000 in
set_option maxRecDepth 100000 in
theorem m_X4_readInstruction_p61 {K : Kx} {l : Launch} {m : MethodId} {H0 : Heap} {Q : MI → Prop} {w : HW} {J : MJ} {B : MR} (G : Gd l rm_X4_readInstruction K m RX4 cX4_readInstruction 3 H0 none (va_Qv (S := MI) Q (fun u t => HP K (u, J, B) t.heap) (AA K)) w) (hW : WFK K) (a0 : Nat) (x1 : Int32)  (ka0 : (kG K a0).1 = 6)  (I : MI)   (h : w_X4_readInstruction_p61 a0 x1 I Q) : Jg K m 3 H0 w 61 [(0, .ref a0), (1, .int x1)] [] (I, J, B) := by
  unfold w_X4_readInstruction_p61 at h
  refine j_aload_n G 0 0 dX4_readInstruction_61 rfl rfl ?_
  refine j_iconst G (1 : Int32) dX4_readInstruction_62 (by decide) ?_
  refine j_ci (rn_V G hW (ci := 5) (n := 1) (As := [.int (1 : Int32)]) (rest := []) (c_X4_take K hW l a0 (1 : Int32) ka0 I J B _ h) ka0 (by decide) rfl ml_X4_106 im_X4_take se_X4_take in_X4 co_X4_take rfl (by decide +kernel) rfl rfl (by decide) (by decide) rfl rfl (Nat.le_of_ble_eq_true rfl) dX4_readInstruction_63) (fun r11 I12 h => ?_)
  refine j_pop G rfl dX4_readInstruction_66 ?_
  refine j_aload_n G 0 0 dX4_readInstruction_67 rfl rfl ?_
  have kk13 : kG K (a0 + 1) = (4, 0) := wk_6_1 hW ka0
  refine j_get G hW 5 0 4 (.ref (a0 + 1)) ka0 (by decide) rfl (by decide) rfl lay_X4 fl_X4_14 rfl rfl dX4_readInstruction_68 ?_
  have kk14 : kG K (a0 + 2) = (24, 25) := wk_4_1 hW (congrArg Prod.fst kk13)
  refine j_get G hW 3 0 4 (.ref (a0 + 2)) (congrArg Prod.fst kk13) (by decide) rfl (by decide) rfl lay_X2 fl_X4_81 rfl rfl dX4_readInstruction_71 ?_
  refine j_aload_n G 0 0 dX4_readInstruction_74 rfl rfl ?_
  refine j_get G hW 5 5 0 (.int (I12 a0 5)) ka0 (by decide) rfl (by decide) rfl lay_X4 fl_X4_40 rfl rfl dX4_readInstruction_75 ?_
  refine j_bipush G (24 : Int32) dX4_readInstruction_78 (by decide) ?_
  refine j_mmin G ml_X4_72 st_J9_min_7cf53 in_J9 co_J9_min_7cf53 (by decide) (by decide) (Nat.le_of_ble_eq_true rfl) dX4_readInstruction_80 ?_
  obtain ⟨b15, h⟩ := h
  have kk16 : (kG K (a0 + 10 + ix (if (24 : Int32) < (I12 a0 5) then (24 : Int32) else (I12 a0 5)))).1 = 2 := wk_a24 (i := (if (24 : Int32) < (I12 a0 5) then (24 : Int32) else (I12 a0 5))) hW kk14 b15 (ad3 rfl)
  refine j_aald24 G hW (i := (if (24 : Int32) < (I12 a0 5) then (24 : Int32) else (I12 a0 5))) (b := a0 + 10 + ix (if (24 : Int32) < (I12 a0 5) then (24 : Int32) else (I12 a0 5))) kk14 b15 (ad3 rfl) dX4_readInstruction_83 ?_
  refine j_astore_n G 2 [(2, .ref (a0 + 10 + ix (if (24 : Int32) < (I12 a0 5) then (24 : Int32) else (I12 a0 5)))), (0, .ref a0), (1, .int x1)] dX4_readInstruction_84 rfl (by decide) rfl ?_
  refine j_aload_n G 0 2 dX4_readInstruction_85 rfl rfl ?_
  refine j_iload_n G 2 1 dX4_readInstruction_86 rfl rfl ?_
  refine j_put G hW 1 0 tyX0 (tyX0 0) tyX0_ok nmX0 kk16 (by decide) rfl (by decide) rfl lay_X0 fl_X4_85 rfl rfl (tyX0_ok 0 (by decide)) rfl rfl dX4_readInstruction_87 ?_
  refine j_mI (fun I17 eI17 => ?_)
  have h := h I17 eI17
  refine j_aload_n G 1 0 dX4_readInstruction_90 rfl rfl ?_
  refine j_aload_n G 0 2 dX4_readInstruction_91 rfl rfl ?_
  refine j_cv (rn_V G hW (ci := 5) (n := 1) (As := [.ref (a0 + 10 + ix (if (24 : Int32) < (I12 a0 5) then (24 : Int32) else (I12 a0 5)))]) (rest := []) (c_X4_readRest K hW l a0 (a0 + 10 + ix (if (24 : Int32) < (I12 a0 5) then (24 : Int32) else (I12 a0 5))) ka0 kk16 I17 J B _ h) ka0 (by decide) rfl ml_X4_145 im_X4_readRest se_X4_readRest in_X4 co_X4_readRest rfl (by decide +kernel) rfl rfl (by decide) (by decide) rfl rfl (Nat.le_of_ble_eq_true rfl) dX4_readInstruction_92) (fun I18 h => ?_)
  refine j_aload_n G 1 0 dX4_readInstruction_95 rfl rfl ?_
  refine j_dup G rfl dX4_readInstruction_96 ?_
  refine j_get G hW 5 5 0 (.int (I18 a0 5)) ka0 (by decide) rfl (by decide) rfl lay_X4 fl_X4_40 rfl rfl dX4_readInstruction_97 ?_
  refine j_iconst G (1 : Int32) dX4_readInstruction_100 (by decide) ?_
  refine j_iadd G dX4_readInstruction_101 ?_
  refine j_put G hW 5 5 tyX4 (tyX4 5) tyX4_ok nmX4 ka0 (by decide) rfl (by decide) rfl lay_X4 fl_X4_40 rfl rfl (tyX4_ok 5 (by decide)) rfl rfl dX4_readInstruction_102 ?_
  refine j_mI (fun I19 eI19 => ?_)
  have h := h I19 eI19
  exact j_retv G I19 dX4_readInstruction_105 h rfl
def w_X4_readInstruction (a0 : Nat) (I : MI) (Q : MI → Prop) : Prop :=
(w_X4_isNext a0 (1 : Int32) I (fun r1 =>
((¬ r1 = 0 → (vp_in (I a0 4) 601 ∧
(∀ x1_6, x1_6 = (I (a0 + 37) (ix (I a0 4))) - (5 : Int32) →
((x1_6 < 0 → (w_X4_breakOff a0 I (fun I8 =>
Q I8))) ∧
(¬ x1_6 < 0 → ((x1_6 ≤ (8 : Int32) → (((I a0 5) < (24 : Int32) → w_X4_readInstruction_p61 a0 x1_6 I Q) ∧
(¬ (I a0 5) < (24 : Int32) → (w_X4_note a0 (4 : Int32) (I a0 4) I (fun I20 =>
w_X4_readInstruction_p61 a0 x1_6 I20 Q))))) ∧
(¬ x1_6 ≤ (8 : Int32) → (w_X4_breakOff a0 I (fun I21 =>
Q I21))))))))) ∧
(r1 = 0 → (w_X4_breakOff a0 I (fun I22 =>
Q I22))))))
set_option maxHeartbeats 4000000 in
set_option maxRecDepth 100000 in
theorem c_X4_readInstruction (K : Kx) (hW : WFK K) (l : Launch) (a0 : Nat) (k0 : (kG K a0).1 = 6) (I : MI) (J : MJ) (B : MR) (Q : MI → Prop) (h : w_X4_readInstruction a0 I Q) : Con K l yX4_readInstruction (wsT yX4_readInstruction cX4_readInstruction 3 none) rm_X4_readInstruction [.ref a0] (I, J, B) (va_Qv (S := MI) Q (fun u t => HP K (u, J, B) t.heap) (AA K)) := by
  refine Con.ofJ RX4 rfl (by decide) (Nat.le_of_ble_eq_true rfl) (fun m H0 w G => ?_)
  unfold w_X4_readInstruction at h
  show Jg K m 3 H0 w 0 [(0, .ref a0)] [] (I, J, B)
  refine j_aload_n G 0 0 dX4_readInstruction_0 rfl rfl ?_
  refine j_iconst G (1 : Int32) dX4_readInstruction_1 (by decide) ?_
  refine j_ci (rn_V G hW (ci := 5) (n := 1) (As := [.int (1 : Int32)]) (rest := []) (c_X4_isNext K hW l a0 (1 : Int32) k0 I J B _ h) k0 (by decide) rfl ml_X4_58 im_X4_isNext se_X4_isNext in_X4 co_X4_isNext rfl (by decide +kernel) rfl rfl (by decide) (by decide) rfl rfl (Nat.le_of_ble_eq_true rfl) dX4_readInstruction_2) (fun r1 _ h => ?_)
  refine j_if_ne G 13 dX4_readInstruction_5 (by decide) (fun c2 => ?_) (fun c2 => ?_)
  · have h := h.1 c2
    refine j_aload_n G 0 0 dX4_readInstruction_13 rfl rfl ?_
    have kk3 : kG K (a0 + 35) = (9, 0) := wk_6_35 hW k0
    refine j_get G hW 5 3 38 (.ref (a0 + 35)) k0 (by decide) rfl (by decide) rfl lay_X4 fl_X4_21 rfl rfl dX4_readInstruction_14 ?_
    have kk4 : kG K (a0 + 37) = (20, 601) := wk_9_2 hW (congrArg Prod.fst kk3)
    refine j_get G hW 8 1 5 (.ref (a0 + 37)) (congrArg Prod.fst kk3) (by decide) rfl (by decide) rfl lay_X7 fl_X4_90 rfl rfl dX4_readInstruction_17 ?_
    refine j_aload_n G 0 0 dX4_readInstruction_20 rfl rfl ?_
    refine j_get G hW 5 4 0 (.int (I a0 4)) k0 (by decide) rfl (by decide) rfl lay_X4 fl_X4_36 rfl rfl dX4_readInstruction_21 ?_
    obtain ⟨b5, h⟩ := h
    refine j_iald G hW kk4 b5 dX4_readInstruction_24 ?_
    refine j_iconst G (5 : Int32) dX4_readInstruction_25 (by decide) ?_
    refine j_isub G dX4_readInstruction_26 ?_
    refine j_nm (fun x1_6 ex1_6 => ?_)
    have h := h x1_6 ex1_6
    refine j_istore_n G 1 [(1, .int x1_6), (0, .ref a0)] dX4_readInstruction_27 rfl (by decide) rfl ?_
    refine j_iload_n G 0 1 dX4_readInstruction_28 rfl rfl ?_
    refine j_if_lt G 38 dX4_readInstruction_29 (by decide) (fun c7 => ?_) (fun c7 => ?_)
    · have h := h.1 c7
      refine j_aload_n G 1 0 dX4_readInstruction_38 rfl rfl ?_
      refine j_cv (rn_V G hW (ci := 5) (n := 0) (As := []) (rest := []) (c_X4_breakOff K hW l a0 k0 I J B _ h) k0 (by decide) rfl ml_X4_142 im_X4_breakOff se_X4_breakOff in_X4 co_X4_breakOff rfl (by decide +kernel) rfl rfl (by decide) (by decide) rfl rfl (Nat.le_of_ble_eq_true rfl) dX4_readInstruction_39) (fun I8 h => ?_)
      exact j_retv G I8 dX4_readInstruction_42 h rfl
    · have h := h.2 c7
      refine j_iload_n G 0 1 dX4_readInstruction_32 rfl rfl ?_
      refine j_bipush G (8 : Int32) dX4_readInstruction_33 (by decide) ?_
      refine j_icmp_le G 43 dX4_readInstruction_35 (by decide) (fun c9 => ?_) (fun c9 => ?_)
      · have h := h.1 c9
        refine j_aload_n G 1 0 dX4_readInstruction_43 rfl rfl ?_
        refine j_get G hW 5 5 0 (.int (I a0 5)) k0 (by decide) rfl (by decide) rfl lay_X4 fl_X4_40 rfl rfl dX4_readInstruction_44 ?_
        refine j_bipush G (24 : Int32) dX4_readInstruction_47 (by decide) ?_
        refine j_icmp_lt G 61 dX4_readInstruction_49 (by decide) (fun c10 => ?_) (fun c10 => ?_)
        · have h := h.1 c10
          exact Jg.sub [1, 0] rfl (m_X4_readInstruction_p61 G hW a0 x1_6 k0 I h)
        · have h := h.2 c10
          refine j_aload_n G 1 0 dX4_readInstruction_52 rfl rfl ?_
          refine j_iconst G (4 : Int32) dX4_readInstruction_53 (by decide) ?_
          refine j_aload_n G 1 0 dX4_readInstruction_54 rfl rfl ?_
          refine j_get G hW 5 4 0 (.int (I a0 4)) k0 (by decide) rfl (by decide) rfl lay_X4 fl_X4_36 rfl rfl dX4_readInstruction_55 ?_
          refine j_cv (rn_V G hW (ci := 5) (n := 2) (As := [.int (4 : Int32), .int (I a0 4)]) (rest := []) (c_X4_note K hW l a0 (4 : Int32) (I a0 4) k0 I J B _ h) k0 (by decide) rfl ml_X4_138 im_X4_note se_X4_note in_X4 co_X4_note rfl (by decide +kernel) rfl rfl (by decide) (by decide) rfl rfl (Nat.le_of_ble_eq_true rfl) dX4_readInstruction_58) (fun I20 h => ?_)
          exact Jg.sub [1, 0] rfl (m_X4_readInstruction_p61 G hW a0 x1_6 k0 I20 h)
      · have h := h.2 c9
        refine j_aload_n G 1 0 dX4_readInstruction_38 rfl rfl ?_
        refine j_cv (rn_V G hW (ci := 5) (n := 0) (As := []) (rest := []) (c_X4_breakOff K hW l a0 k0 I J B _ h) k0 (by decide) rfl ml_X4_142 im_X4_breakOff se_X4_breakOff in_X4 co_X4_breakOff rfl (by decide +kernel) rfl rfl (by decide) (by decide) rfl rfl (Nat.le_of_ble_eq_true rfl) dX4_readInstruction_39) (fun I21 h => ?_)
        exact j_retv G I21 dX4_readInstruction_42 h rfl
  · have h := h.2 c2
    refine j_aload_n G 0 0 dX4_readInstruction_8 rfl rfl ?_
    refine j_cv (rn_V G hW (ci := 5) (n := 0) (As := []) (rest := []) (c_X4_breakOff K hW l a0 k0 I J B _ h) k0 (by decide) rfl ml_X4_142 im_X4_breakOff se_X4_breakOff in_X4 co_X4_breakOff rfl (by decide +kernel) rfl rfl (by decide) (by decide) rfl rfl (Nat.le_of_ble_eq_true rfl) dX4_readInstruction_9) (fun I22 h => ?_)
    exact j_retv G I22 dX4_readInstruction_12 h rfl
abbrev rm_X4_readLine : Room := { frames := 5, cells := 0, slots := 0, locals := 110 }
def w_X4_readLine_p31 (a0 : Nat)  (I : MI) (B : MR)  (Q : MI → Prop) : Prop :=
(w_X4_isNext a0 (3 : Int32) I (fun r3 =>
((r3 = 0 → (w_X4_readInstruction a0 I (fun I5 =>
(w_X4_takeSign a0 (59 : Int32) I5 (fun I6 =>
Q I6))))) ∧
(¬ r3 = 0 → (w_X4_readNameAhead a0 I B (fun I7 =>
(w_X4_readInstruction a0 I7 (fun I8 =>
(w_X4_takeSign a0 (59 : Int32) I8 (fun I9 =>
Q I9))))))))))
set_option maxHeartbeats 4000000 in
set_option maxRecDepth 100000 in
theorem m_X4_readLine_p31 {K : Kx} {l : Launch} {m : MethodId} {H0 : Heap} {Q : MI → Prop} {w : HW} {J : MJ} {B : MR} (G : Gd l rm_X4_readLine K m RX4 cX4_readLine 1 H0 none (va_Qv (S := MI) Q (fun u t => HP K (u, J, B) t.heap) (AA K)) w) (hW : WFK K) (a0 : Nat)  (ka0 : (kG K a0).1 = 6)  (I : MI)   (h : w_X4_readLine_p31 a0 I B Q) : Jg K m 1 H0 w 31 [(0, .ref a0)] [] (I, J, B) := by
  unfold w_X4_readLine_p31 at h
  refine j_aload_n G 0 0 dX4_readLine_31 rfl rfl ?_
  refine j_iconst G (3 : Int32) dX4_readLine_32 (by decide) ?_
  refine j_ci (rn_V G hW (ci := 5) (n := 1) (As := [.int (3 : Int32)]) (rest := []) (c_X4_isNext K hW l a0 (3 : Int32) ka0 I J B _ h) ka0 (by decide) rfl ml_X4_58 im_X4_isNext se_X4_isNext in_X4 co_X4_isNext rfl (by decide +kernel) rfl rfl (by decide) (by decide) rfl rfl (Nat.le_of_ble_eq_true rfl) dX4_readLine_33) (fun r3 _ h => ?_)
  refine j_if_eq G 43 dX4_readLine_36 (by decide) (fun c4 => ?_) (fun c4 => ?_)
  · have h := h.1 c4
    refine j_aload_n G 0 0 dX4_readLine_43 rfl rfl ?_
    refine j_cv (rn_V G hW (ci := 5) (n := 0) (As := []) (rest := []) (c_X4_readInstruction K hW l a0 ka0 I J B _ h) ka0 (by decide) rfl ml_X4_99 im_X4_readInstruction se_X4_readInstruction in_X4 co_X4_readInstruction rfl (by decide +kernel) rfl rfl (by decide) (by decide) rfl rfl (Nat.le_of_ble_eq_true rfl) dX4_readLine_44) (fun I5 h => ?_)
    refine j_aload_n G 0 0 dX4_readLine_47 rfl rfl ?_
    refine j_bipush G (59 : Int32) dX4_readLine_48 (by decide) ?_
    refine j_cv (rn_V G hW (ci := 5) (n := 1) (As := [.int (59 : Int32)]) (rest := []) (c_X4_takeSign K hW l a0 (59 : Int32) ka0 I5 J B _ h) ka0 (by decide) rfl ml_X4_102 im_X4_takeSign se_X4_takeSign in_X4 co_X4_takeSign rfl (by decide +kernel) rfl rfl (by decide) (by decide) rfl rfl (Nat.le_of_ble_eq_true rfl) dX4_readLine_50) (fun I6 h => ?_)
    exact j_retv G I6 dX4_readLine_53 h rfl
  · have h := h.2 c4
    refine j_aload_n G 0 0 dX4_readLine_39 rfl rfl ?_
    refine j_cv (rn_V G hW (ci := 5) (n := 0) (As := []) (rest := []) (c_X4_readNameAhead K hW l a0 ka0 I J B _ h) ka0 (by decide) rfl ml_X4_96 im_X4_readNameAhead se_X4_readNameAhead in_X4 co_X4_readNameAhead rfl (by decide +kernel) rfl rfl (by decide) (by decide) rfl rfl (Nat.le_of_ble_eq_true rfl) dX4_readLine_40) (fun I7 h => ?_)
    refine j_aload_n G 0 0 dX4_readLine_43 rfl rfl ?_
    refine j_cv (rn_V G hW (ci := 5) (n := 0) (As := []) (rest := []) (c_X4_readInstruction K hW l a0 ka0 I7 J B _ h) ka0 (by decide) rfl ml_X4_99 im_X4_readInstruction se_X4_readInstruction in_X4 co_X4_readInstruction rfl (by decide +kernel) rfl rfl (by decide) (by decide) rfl rfl (Nat.le_of_ble_eq_true rfl) dX4_readLine_44) (fun I8 h => ?_)
    refine j_aload_n G 0 0 dX4_readLine_47 rfl rfl ?_
    refine j_bipush G (59 : Int32) dX4_readLine_48 (by decide) ?_
    refine j_cv (rn_V G hW (ci := 5) (n := 1) (As := [.int (59 : Int32)]) (rest := []) (c_X4_takeSign K hW l a0 (59 : Int32) ka0 I8 J B _ h) ka0 (by decide) rfl ml_X4_102 im_X4_takeSign se_X4_takeSign in_X4 co_X4_takeSign rfl (by decide +kernel) rfl rfl (by decide) (by decide) rfl rfl (Nat.le_of_ble_eq_true rfl) dX4_readLine_50) (fun I9 h => ?_)
    exact j_retv G I9 dX4_readLine_53 h rfl
def w_X4_readLine (a0 : Nat) (I : MI) (B : MR) (Q : MI → Prop) : Prop :=
(w_X4_isNext a0 (1 : Int32) I (fun r1 =>
((r1 = 0 → w_X4_readLine_p31 a0 I B Q) ∧
(¬ r1 = 0 → (vp_in (I a0 4) 601 ∧
(((5 : Int32) ≤ (I (a0 + 37) (ix (I a0 4))) → w_X4_readLine_p31 a0 I B Q) ∧
(¬ (5 : Int32) ≤ (I (a0 + 37) (ix (I a0 4))) → (w_X4_readSetting a0 I (fun I14 =>
(w_X4_takeSign a0 (59 : Int32) I14 (fun I15 =>
Q I15)))))))))))
set_option maxHeartbeats 4000000 in
set_option maxRecDepth 100000 in
theorem c_X4_readLine (K : Kx) (hW : WFK K) (l : Launch) (a0 : Nat) (k0 : (kG K a0).1 = 6) (I : MI) (J : MJ) (B : MR) (Q : MI → Prop) (h : w_X4_readLine a0 I B Q) : Con K l yX4_readLine (wsT yX4_readLine cX4_readLine 1 none) rm_X4_readLine [.ref a0] (I, J, B) (va_Qv (S := MI) Q (fun u t => HP K (u, J, B) t.heap) (AA K)) := by
  refine Con.ofJ RX4 rfl (by decide) (Nat.le_of_ble_eq_true rfl) (fun m H0 w G => ?_)
  unfold w_X4_readLine at h
  show Jg K m 1 H0 w 0 [(0, .ref a0)] [] (I, J, B)
  refine j_aload_n G 0 0 dX4_readLine_0 rfl rfl ?_
  refine j_iconst G (1 : Int32) dX4_readLine_1 (by decide) ?_
  refine j_ci (rn_V G hW (ci := 5) (n := 1) (As := [.int (1 : Int32)]) (rest := []) (c_X4_isNext K hW l a0 (1 : Int32) k0 I J B _ h) k0 (by decide) rfl ml_X4_58 im_X4_isNext se_X4_isNext in_X4 co_X4_isNext rfl (by decide +kernel) rfl rfl (by decide) (by decide) rfl rfl (Nat.le_of_ble_eq_true rfl) dX4_readLine_2) (fun r1 _ h => ?_)
  refine j_if_eq G 31 dX4_readLine_5 (by decide) (fun c2 => ?_) (fun c2 => ?_)
  · have h := h.1 c2
    exact m_X4_readLine_p31 G hW a0 k0 I h
  · have h := h.2 c2
    refine j_aload_n G 0 0 dX4_readLine_8 rfl rfl ?_
    have kk10 : kG K (a0 + 35) = (9, 0) := wk_6_35 hW k0
    refine j_get G hW 5 3 38 (.ref (a0 + 35)) k0 (by decide) rfl (by decide) rfl lay_X4 fl_X4_21 rfl rfl dX4_readLine_9 ?_
    have kk11 : kG K (a0 + 37) = (20, 601) := wk_9_2 hW (congrArg Prod.fst kk10)
    refine j_get G hW 8 1 5 (.ref (a0 + 37)) (congrArg Prod.fst kk10) (by decide) rfl (by decide) rfl lay_X7 fl_X4_90 rfl rfl dX4_readLine_12 ?_
    refine j_aload_n G 0 0 dX4_readLine_15 rfl rfl ?_
    refine j_get G hW 5 4 0 (.int (I a0 4)) k0 (by decide) rfl (by decide) rfl lay_X4 fl_X4_36 rfl rfl dX4_readLine_16 ?_
    obtain ⟨b12, h⟩ := h
    refine j_iald G hW kk11 b12 dX4_readLine_19 ?_
    refine j_iconst G (5 : Int32) dX4_readLine_20 (by decide) ?_
    refine j_icmp_ge G 31 dX4_readLine_21 (by decide) (fun c13 => ?_) (fun c13 => ?_)
    · have h := h.1 c13
      exact m_X4_readLine_p31 G hW a0 k0 I h
    · have h := h.2 c13
      refine j_aload_n G 0 0 dX4_readLine_24 rfl rfl ?_
      refine j_cv (rn_V G hW (ci := 5) (n := 0) (As := []) (rest := []) (c_X4_readSetting K hW l a0 k0 I J B _ h) k0 (by decide) rfl ml_X4_93 im_X4_readSetting se_X4_readSetting in_X4 co_X4_readSetting rfl (by decide +kernel) rfl rfl (by decide) (by decide) rfl rfl (Nat.le_of_ble_eq_true rfl) dX4_readLine_25) (fun I14 h => ?_)
      refine j_goto G 47 dX4_readLine_28 (by decide) ?_
      refine j_aload_n G 0 0 dX4_readLine_47 rfl rfl ?_
      refine j_bipush G (59 : Int32) dX4_readLine_48 (by decide) ?_
      refine j_cv (rn_V G hW (ci := 5) (n := 1) (As := [.int (59 : Int32)]) (rest := []) (c_X4_takeSign K hW l a0 (59 : Int32) k0 I14 J B _ h) k0 (by decide) rfl ml_X4_102 im_X4_takeSign se_X4_takeSign in_X4 co_X4_takeSign rfl (by decide +kernel) rfl rfl (by decide) (by decide) rfl rfl (Nat.le_of_ble_eq_true rfl) dX4_readLine_50) (fun I15 h => ?_)
      exact j_retv G I15 dX4_readLine_53 h rfl
abbrev rm_X4_findAims : Room := { frames := 2, cells := 0, slots := 0, locals := 46 }
def w_X4_findAims_l2 (a0 : Nat) (B : MR)  (Q : MI → Prop) (rec : Int32 → MI → Prop) (x1 : Int32) (I : MI) : Prop :=
(((I a0 5) ≤ x1 → Q I) ∧
(¬ (I a0 5) ≤ x1 → (((150 : Int32) ≤ x1 → Q I) ∧
(¬ (150 : Int32) ≤ x1 → (vp_in x1 150 ∧
(((I (a0 + 42) (ix x1)) = (-1 : Int32) → rec (x1 + 1) I) ∧
(¬ (I (a0 + 42) (ix x1)) = (-1 : Int32) → (vp_in x1 150 ∧
(w_X4_rowNamed a0 (I (a0 + 42) (ix x1)) I B (fun r7 =>
((¬ r7 = (-1 : Int32) → (vp_in (if (24 : Int32) < x1 then (24 : Int32) else x1) 25 ∧
(∀ I13, I13 = ui I (a0 + 10 + ix (if (24 : Int32) < x1 then (24 : Int32) else x1)) 4 r7 →
rec (x1 + 1) I13))) ∧
(r7 = (-1 : Int32) → (vp_in x1 150 ∧
(w_X4_note a0 (5 : Int32) (I (a0 + 42) (ix x1)) I (fun I15 =>
rec (x1 + 1) I15)))))))))))))))
set_option maxHeartbeats 4000000 in
set_option maxRecDepth 100000 in
theorem m_X4_findAims_l2 {K : Kx} {l : Launch} {m : MethodId} {H0 : Heap} {Q : MI → Prop} {w : HW} {J : MJ} {B : MR} (G : Gd l rm_X4_findAims K m RX4 cX4_findAims 3 H0 none (va_Qv (S := MI) Q (fun u t => HP K (u, J, B) t.heap) (AA K)) w) (hW : WFK K) (a0 : Nat) (x1 : Int32) (ka0 : (kG K a0).1 = 6) (I : MI)   (h : Lp2 (w_X4_findAims_l2 a0 B Q) x1 I) : Jg K m 3 H0 w 2 [(0, .ref a0), (1, .int x1)] [] (I, J, B) := by
  obtain ⟨n, h⟩ := h
  refine lpN2_ind (P := (fun (x1 : Int32) (I : MI) => Jg K m 3 H0 w 2 [(0, .ref a0), (1, .int x1)] [] (I, J, B))) (fun rec hrec x1 I h => ?_) n x1 I h
  unfold w_X4_findAims_l2 at h
  refine j_iload_n G 1 1 dX4_findAims_2 rfl rfl ?_
  refine j_aload_n G 0 0 dX4_findAims_3 rfl rfl ?_
  refine j_get G hW 5 5 0 (.int (I a0 5)) ka0 (by decide) rfl (by decide) rfl lay_X4 fl_X4_40 rfl rfl dX4_findAims_4 ?_
  refine j_icmp_ge G 81 dX4_findAims_7 (by decide) (fun c1 => ?_) (fun c1 => ?_)
  · have h := h.1 c1
    exact j_retv G I dX4_findAims_81 h rfl
  · have h := h.2 c1
    refine j_iload_n G 1 1 dX4_findAims_10 rfl rfl ?_
    refine j_sipush G (150 : Int32) dX4_findAims_11 (by decide) ?_
    refine j_icmp_ge G 81 dX4_findAims_14 (by decide) (fun c2 => ?_) (fun c2 => ?_)
    · have h := h.1 c2
      exact j_retv G I dX4_findAims_81 h rfl
    · have h := h.2 c2
      refine j_aload_n G 0 0 dX4_findAims_17 rfl rfl ?_
      have kk3 : kG K (a0 + 42) = (20, 150) := wk_6_42 hW ka0
      refine j_get G hW 5 7 45 (.ref (a0 + 42)) ka0 (by decide) rfl (by decide) rfl lay_X4 fl_X4_29 rfl rfl dX4_findAims_18 ?_
      refine j_iload_n G 1 1 dX4_findAims_21 rfl rfl ?_
      obtain ⟨b4, h⟩ := h
      refine j_iald G hW kk3 b4 dX4_findAims_22 ?_
      refine j_iconst G (-1 : Int32) dX4_findAims_23 (by decide) ?_
      refine j_icmp_eq G 75 dX4_findAims_24 (by decide) (fun c5 => ?_) (fun c5 => ?_)
      · have h := h.1 c5
        refine j_iinc G 1 (x1 + 1) [(1, .int (x1 + 1)), (0, .ref a0)] dX4_findAims_75 rfl rfl (by decide) rfl ?_
        refine j_goto G 2 dX4_findAims_78 (by decide) ?_
        exact Jg.sub [1, 0] rfl (hrec (x1 + 1) I h)
      · have h := h.2 c5
        refine j_aload_n G 0 0 dX4_findAims_27 rfl rfl ?_
        refine j_aload_n G 0 0 dX4_findAims_28 rfl rfl ?_
        refine j_get G hW 5 7 45 (.ref (a0 + 42)) ka0 (by decide) rfl (by decide) rfl lay_X4 fl_X4_29 rfl rfl dX4_findAims_29 ?_
        refine j_iload_n G 1 1 dX4_findAims_32 rfl rfl ?_
        obtain ⟨b6, h⟩ := h
        refine j_iald G hW kk3 b6 dX4_findAims_33 ?_
        refine j_ci (rn_V G hW (ci := 5) (n := 1) (As := [.int (I (a0 + 42) (ix x1))]) (rest := []) (c_X4_rowNamed K hW l a0 (I (a0 + 42) (ix x1)) ka0 I J B _ h) ka0 (by decide) rfl ml_X4_135 im_X4_rowNamed se_X4_rowNamed in_X4 co_X4_rowNamed rfl (by decide +kernel) rfl rfl (by decide) (by decide) rfl rfl (Nat.le_of_ble_eq_true rfl) dX4_findAims_34) (fun r7 _ h => ?_)
        refine j_istore_n G 2 [(2, .int r7), (0, .ref a0), (1, .int x1)] dX4_findAims_37 rfl (by decide) rfl ?_
        refine j_iload_n G 0 2 dX4_findAims_38 rfl rfl ?_
        refine j_iconst G (-1 : Int32) dX4_findAims_39 (by decide) ?_
        refine j_icmp_ne G 57 dX4_findAims_40 (by decide) (fun c8 => ?_) (fun c8 => ?_)
        · have h := h.1 c8
          refine j_aload_n G 1 0 dX4_findAims_57 rfl rfl ?_
          have kk9 : kG K (a0 + 1) = (4, 0) := wk_6_1 hW ka0
          refine j_get G hW 5 0 4 (.ref (a0 + 1)) ka0 (by decide) rfl (by decide) rfl lay_X4 fl_X4_14 rfl rfl dX4_findAims_58 ?_
          have kk10 : kG K (a0 + 2) = (24, 25) := wk_4_1 hW (congrArg Prod.fst kk9)
          refine j_get G hW 3 0 4 (.ref (a0 + 2)) (congrArg Prod.fst kk9) (by decide) rfl (by decide) rfl lay_X2 fl_X4_81 rfl rfl dX4_findAims_61 ?_
          refine j_iload_n G 2 1 dX4_findAims_64 rfl rfl ?_
          refine j_bipush G (24 : Int32) dX4_findAims_65 (by decide) ?_
          refine j_mmin G ml_X4_72 st_J9_min_7cf53 in_J9 co_J9_min_7cf53 (by decide) (by decide) (Nat.le_of_ble_eq_true rfl) dX4_findAims_67 ?_
          obtain ⟨b11, h⟩ := h
          have kk12 : (kG K (a0 + 10 + ix (if (24 : Int32) < x1 then (24 : Int32) else x1))).1 = 2 := wk_a24 (i := (if (24 : Int32) < x1 then (24 : Int32) else x1)) hW kk10 b11 (ad3 rfl)
          refine j_aald24 G hW (i := (if (24 : Int32) < x1 then (24 : Int32) else x1)) (b := a0 + 10 + ix (if (24 : Int32) < x1 then (24 : Int32) else x1)) kk10 b11 (ad3 rfl) dX4_findAims_70 ?_
          refine j_iload_n G 0 2 dX4_findAims_71 rfl rfl ?_
          refine j_put G hW 1 4 tyX0 (tyX0 4) tyX0_ok nmX0 kk12 (by decide) rfl (by decide) rfl lay_X0 fl_X4_152 rfl rfl (tyX0_ok 4 (by decide)) rfl rfl dX4_findAims_72 ?_
          refine j_mI (fun I13 eI13 => ?_)
          have h := h I13 eI13
          refine j_iinc G 2 (x1 + 1) [(1, .int (x1 + 1)), (2, .int r7), (0, .ref a0)] dX4_findAims_75 rfl rfl (by decide) rfl ?_
          refine j_goto G 2 dX4_findAims_78 (by decide) ?_
          exact Jg.sub [2, 0] rfl (hrec (x1 + 1) I13 h)
        · have h := h.2 c8
          refine j_aload_n G 1 0 dX4_findAims_43 rfl rfl ?_
          refine j_iconst G (5 : Int32) dX4_findAims_44 (by decide) ?_
          refine j_aload_n G 1 0 dX4_findAims_45 rfl rfl ?_
          refine j_get G hW 5 7 45 (.ref (a0 + 42)) ka0 (by decide) rfl (by decide) rfl lay_X4 fl_X4_29 rfl rfl dX4_findAims_46 ?_
          refine j_iload_n G 2 1 dX4_findAims_49 rfl rfl ?_
          obtain ⟨b14, h⟩ := h
          refine j_iald G hW kk3 b14 dX4_findAims_50 ?_
          refine j_cv (rn_V G hW (ci := 5) (n := 2) (As := [.int (5 : Int32), .int (I (a0 + 42) (ix x1))]) (rest := []) (c_X4_note K hW l a0 (5 : Int32) (I (a0 + 42) (ix x1)) ka0 I J B _ h) ka0 (by decide) rfl ml_X4_138 im_X4_note se_X4_note in_X4 co_X4_note rfl (by decide +kernel) rfl rfl (by decide) (by decide) rfl rfl (Nat.le_of_ble_eq_true rfl) dX4_findAims_51) (fun I15 h => ?_)
          refine j_goto G 75 dX4_findAims_54 (by decide) ?_
          refine j_iinc G 2 (x1 + 1) [(1, .int (x1 + 1)), (2, .int r7), (0, .ref a0)] dX4_findAims_75 rfl rfl (by decide) rfl ?_
          refine j_goto G 2 dX4_findAims_78 (by decide) ?_
          exact Jg.sub [2, 0] rfl (hrec (x1 + 1) I15 h)
def w_X4_findAims (a0 : Nat) (I : MI) (B : MR) (Q : MI → Prop) : Prop :=
Lp2 (w_X4_findAims_l2 a0 B Q) (0 : Int32) I
set_option maxHeartbeats 4000000 in
set_option maxRecDepth 100000 in
theorem c_X4_findAims (K : Kx) (hW : WFK K) (l : Launch) (a0 : Nat) (k0 : (kG K a0).1 = 6) (I : MI) (J : MJ) (B : MR) (Q : MI → Prop) (h : w_X4_findAims a0 I B Q) : Con K l yX4_findAims (wsT yX4_findAims cX4_findAims 3 none) rm_X4_findAims [.ref a0] (I, J, B) (va_Qv (S := MI) Q (fun u t => HP K (u, J, B) t.heap) (AA K)) := by
  refine Con.ofJ RX4 rfl (by decide) (Nat.le_of_ble_eq_true rfl) (fun m H0 w G => ?_)
  unfold w_X4_findAims at h
  show Jg K m 3 H0 w 0 [(0, .ref a0)] [] (I, J, B)
  refine j_iconst G (0 : Int32) dX4_findAims_0 (by decide) ?_
  refine j_istore_n G 1 [(1, .int (0 : Int32)), (0, .ref a0)] dX4_findAims_1 rfl (by decide) rfl ?_
  refine Jg.sub [1, 0] rfl (m_X4_findAims_l2 G hW a0 (0 : Int32) k0 I h)
abbrev rm_X4_read : Room := { frames := 9, cells := 0, slots := 0, locals := 204 }
def w_X4_read_l54 (a0 : Nat) (B : MR) (ke87 : Int32 → MI → Prop) (Q : MI → MR → Prop) (rec : Int32 → MI → Prop) (x3 : Int32) (I : MI) : Prop :=
(((600 : Int32) < x3 → ke87 x3 I) ∧
(¬ (600 : Int32) < x3 → (w_X4_isNext a0 (6 : Int32) I (fun r15 =>
((¬ r15 = 0 → ke87 x3 I) ∧
(r15 = 0 → (w_X4_isBroken a0 I (fun r17 =>
((¬ r17 = 0 → ke87 x3 I) ∧
(r17 = 0 → (w_X4_readLine a0 I B (fun I19 =>
rec (x3 + 1) I19))))))))))))
set_option maxHeartbeats 4000000 in
set_option maxRecDepth 100000 in
theorem m_X4_read_l54 {K : Kx} {l : Launch} {m : MethodId} {H0 : Heap} {Q : MI → MR → Prop} {w : HW} {J : MJ} (G : Gd l rm_X4_read K m RX4 cX4_read 4 H0 none (va_Qv (S := (MI × MR)) (fun u => Q u.1 u.2) (fun u t => HP K (u.1, J, u.2) t.heap) (AA K)) w) (hW : WFK K) (a0 : Nat) (x3 : Int32) (ka0 : (kG K a0).1 = 6) (I : MI) (B : MR) (ke87 : Int32 → MI → Prop) (hke87 : ∀ (x3 : Int32) (I : MI), ke87 x3 I → Jg K m 4 H0 w 87 [(0, .ref a0)] [] (I, J, B)) (h : Lp2 (w_X4_read_l54 a0 B ke87 Q) x3 I) : Jg K m 4 H0 w 54 [(0, .ref a0), (3, .int x3)] [] (I, J, B) := by
  obtain ⟨n, h⟩ := h
  refine lpN2_ind (P := (fun (x3 : Int32) (I : MI) => Jg K m 4 H0 w 54 [(0, .ref a0), (3, .int x3)] [] (I, J, B))) (fun rec hrec x3 I h => ?_) n x3 I h
  unfold w_X4_read_l54 at h
  refine j_iload_n G 1 3 dX4_read_54 rfl rfl ?_
  refine j_sipush G (600 : Int32) dX4_read_55 (by decide) ?_
  refine j_icmp_gt G 87 dX4_read_58 (by decide) (fun c14 => ?_) (fun c14 => ?_)
  · have h := h.1 c14
    exact Jg.sub [0] rfl (hke87 x3 I h)
  · have h := h.2 c14
    refine j_aload_n G 0 0 dX4_read_61 rfl rfl ?_
    refine j_bipush G (6 : Int32) dX4_read_62 (by decide) ?_
    refine j_ci (rn_V G hW (ci := 5) (n := 1) (As := [.int (6 : Int32)]) (rest := []) (c_X4_isNext K hW l a0 (6 : Int32) ka0 I J B _ h) ka0 (by decide) rfl ml_X4_58 im_X4_isNext se_X4_isNext in_X4 co_X4_isNext rfl (by decide +kernel) rfl rfl (by decide) (by decide) rfl rfl (Nat.le_of_ble_eq_true rfl) dX4_read_64) (fun r15 _ h => ?_)
    refine j_if_ne G 87 dX4_read_67 (by decide) (fun c16 => ?_) (fun c16 => ?_)
    · have h := h.1 c16
      exact Jg.sub [0] rfl (hke87 x3 I h)
    · have h := h.2 c16
      refine j_aload_n G 0 0 dX4_read_70 rfl rfl ?_
      refine j_ci (rn_V G hW (ci := 5) (n := 0) (As := []) (rest := []) (c_X4_isBroken K hW l a0 ka0 I J B _ h) ka0 (by decide) rfl ml_X4_62 im_X4_isBroken se_X4_isBroken in_X4 co_X4_isBroken rfl (by decide +kernel) rfl rfl (by decide) (by decide) rfl rfl (Nat.le_of_ble_eq_true rfl) dX4_read_71) (fun r17 _ h => ?_)
      refine j_if_ne G 87 dX4_read_74 (by decide) (fun c18 => ?_) (fun c18 => ?_)
      · have h := h.1 c18
        exact Jg.sub [0] rfl (hke87 x3 I h)
      · have h := h.2 c18
        refine j_aload_n G 0 0 dX4_read_77 rfl rfl ?_
        refine j_cv (rn_V G hW (ci := 5) (n := 0) (As := []) (rest := []) (c_X4_readLine K hW l a0 ka0 I J B _ h) ka0 (by decide) rfl ml_X4_66 im_X4_readLine se_X4_readLine in_X4 co_X4_readLine rfl (by decide +kernel) rfl rfl (by decide) (by decide) rfl rfl (Nat.le_of_ble_eq_true rfl) dX4_read_78) (fun I19 h => ?_)
        refine j_iinc G 1 (x3 + 1) [(3, .int (x3 + 1)), (0, .ref a0)] dX4_read_81 rfl rfl (by decide) rfl ?_
        refine j_goto G 54 dX4_read_84 (by decide) ?_
        exact Jg.sub [1, 0] rfl (hrec (x3 + 1) I19 h)
def w_X4_read_p98 (a0 : Nat)  (I : MI) (B : MR)  (Q : MI → MR → Prop) : Prop :=
((¬ (I a0 1) = 0 → Q I B) ∧
((I a0 1) = 0 → (∀ I26, I26 = ui I (a0 + 1) 1 (if (24 : Int32) < (I a0 5) then (24 : Int32) else (I a0 5)) →
(vp_in (I26 (a0 + 1) 1) 25 ∧
(∀ I30, I30 = ui I26 (a0 + 10 + ix (I26 (a0 + 1) 1)) 0 (8 : Int32) →
Q I30 B)))))
set_option maxHeartbeats 4000000 in
set_option maxRecDepth 100000 in
theorem m_X4_read_p98 {K : Kx} {l : Launch} {m : MethodId} {H0 : Heap} {Q : MI → MR → Prop} {w : HW} {J : MJ} (G : Gd l rm_X4_read K m RX4 cX4_read 4 H0 none (va_Qv (S := (MI × MR)) (fun u => Q u.1 u.2) (fun u t => HP K (u.1, J, u.2) t.heap) (AA K)) w) (hW : WFK K) (a0 : Nat)  (ka0 : (kG K a0).1 = 6)  (I : MI) (B : MR)   (h : w_X4_read_p98 a0 I B Q) : Jg K m 4 H0 w 98 [(0, .ref a0)] [] (I, J, B) := by
  unfold w_X4_read_p98 at h
  refine j_aload_n G 0 0 dX4_read_98 rfl rfl ?_
  refine j_get G hW 5 1 0 (.int (I a0 1)) ka0 (by decide) rfl (by decide) rfl lay_X4 fl_X4_43 rfl rfl dX4_read_99 ?_
  refine j_if_ne G 141 dX4_read_102 (by decide) (fun c24 => ?_) (fun c24 => ?_)
  · have h := h.1 c24
    exact j_retv G (I, B) dX4_read_141 h rfl
  · have h := h.2 c24
    refine j_aload_n G 0 0 dX4_read_105 rfl rfl ?_
    have kk25 : kG K (a0 + 1) = (4, 0) := wk_6_1 hW ka0
    refine j_get G hW 5 0 4 (.ref (a0 + 1)) ka0 (by decide) rfl (by decide) rfl lay_X4 fl_X4_14 rfl rfl dX4_read_106 ?_
    refine j_aload_n G 0 0 dX4_read_109 rfl rfl ?_
    refine j_get G hW 5 5 0 (.int (I a0 5)) ka0 (by decide) rfl (by decide) rfl lay_X4 fl_X4_40 rfl rfl dX4_read_110 ?_
    refine j_bipush G (24 : Int32) dX4_read_113 (by decide) ?_
    refine j_mmin G ml_X4_72 st_J9_min_7cf53 in_J9 co_J9_min_7cf53 (by decide) (by decide) (Nat.le_of_ble_eq_true rfl) dX4_read_115 ?_
    refine j_put G hW 3 1 tyX2 (tyX2 1) tyX2_ok nmX2 (congrArg Prod.fst kk25) (by decide) rfl (by decide) rfl lay_X2 fl_X4_78 rfl rfl (tyX2_ok 1 (by decide)) rfl rfl dX4_read_118 ?_
    refine j_mI (fun I26 eI26 => ?_)
    have h := h I26 eI26
    refine j_aload_n G 0 0 dX4_read_121 rfl rfl ?_
    refine j_get G hW 5 0 4 (.ref (a0 + 1)) ka0 (by decide) rfl (by decide) rfl lay_X4 fl_X4_14 rfl rfl dX4_read_122 ?_
    have kk27 : kG K (a0 + 2) = (24, 25) := wk_4_1 hW (congrArg Prod.fst kk25)
    refine j_get G hW 3 0 4 (.ref (a0 + 2)) (congrArg Prod.fst kk25) (by decide) rfl (by decide) rfl lay_X2 fl_X4_81 rfl rfl dX4_read_125 ?_
    refine j_aload_n G 0 0 dX4_read_128 rfl rfl ?_
    refine j_get G hW 5 0 4 (.ref (a0 + 1)) ka0 (by decide) rfl (by decide) rfl lay_X4 fl_X4_14 rfl rfl dX4_read_129 ?_
    refine j_get G hW 3 1 0 (.int (I26 (a0 + 1) 1)) (congrArg Prod.fst kk25) (by decide) rfl (by decide) rfl lay_X2 fl_X4_78 rfl rfl dX4_read_132 ?_
    obtain ⟨b28, h⟩ := h
    have kk29 : (kG K (a0 + 10 + ix (I26 (a0 + 1) 1))).1 = 2 := wk_a24 (i := I26 (a0 + 1) 1) hW kk27 b28 (ad3 rfl)
    refine j_aald24 G hW (i := I26 (a0 + 1) 1) (b := a0 + 10 + ix (I26 (a0 + 1) 1)) kk27 b28 (ad3 rfl) dX4_read_135 ?_
    refine j_bipush G (8 : Int32) dX4_read_136 (by decide) ?_
    refine j_put G hW 1 0 tyX0 (tyX0 0) tyX0_ok nmX0 kk29 (by decide) rfl (by decide) rfl lay_X0 fl_X4_85 rfl rfl (tyX0_ok 0 (by decide)) rfl rfl dX4_read_138 ?_
    refine j_mI (fun I30 eI30 => ?_)
    have h := h I30 eI30
    exact j_retv G (I30, B) dX4_read_141 h rfl
def w_X4_read (a0 : Nat) (a1 : Nat) (x2 : Int32) (I : MI) (B : MR) (Q : MI → MR → Prop) : Prop :=
(w_X7_scan (a0 + 35) a1 x2 I B (fun I2 B3 =>
(∀ I4, I4 = ui I2 a0 4 (0 : Int32) →
(∀ I5, I5 = ui I4 a0 5 (0 : Int32) →
(∀ I6, I6 = ui I5 a0 1 (0 : Int32) →
(∀ I7, I7 = ui I6 a0 2 (-1 : Int32) →
(∀ I9, I9 = uf I7 (a0 + 41) 150 (-1 : Int32) →
(∀ I11, I11 = uf I9 (a0 + 42) 150 (-1 : Int32) →
(w_X2_clear (a0 + 1) I11 (fun I13 =>
Lp2 (w_X4_read_l54 a0 B3 (fun x3_20 I21 => (w_X4_isBroken a0 I21 (fun r22 =>
((¬ r22 = 0 → w_X4_read_p98 a0 I21 B3 Q) ∧
(r22 = 0 → (w_X4_findAims a0 I21 B3 (fun I31 =>
w_X4_read_p98 a0 I31 B3 Q))))))) Q) (0 : Int32) I13))))))))))
set_option maxHeartbeats 4000000 in
set_option maxRecDepth 100000 in
theorem c_X4_read (K : Kx) (hW : WFK K) (l : Launch) (a0 : Nat) (a1 : Nat) (x2 : Int32) (k0 : (kG K a0).1 = 6) (k1 : kG K a1 = (21, 600)) (I : MI) (J : MJ) (B : MR) (Q : MI → MR → Prop) (h : w_X4_read a0 a1 x2 I B Q) : Con K l yX4_read (wsT yX4_read cX4_read 4 none) rm_X4_read [.ref a0, .ref a1, .int x2] (I, J, B) (va_Qv (S := (MI × MR)) (fun u => Q u.1 u.2) (fun u t => HP K (u.1, J, u.2) t.heap) (AA K)) := by
  refine Con.ofJ RX4 rfl (by decide) (Nat.le_of_ble_eq_true rfl) (fun m H0 w G => ?_)
  unfold w_X4_read at h
  show Jg K m 4 H0 w 0 [(0, .ref a0), (1, .ref a1), (2, .int x2)] [] (I, J, B)
  refine j_aload_n G 0 0 dX4_read_0 rfl rfl ?_
  have kk1 : kG K (a0 + 35) = (9, 0) := wk_6_35 hW k0
  refine j_get G hW 5 3 38 (.ref (a0 + 35)) k0 (by decide) rfl (by decide) rfl lay_X4 fl_X4_21 rfl rfl dX4_read_1 ?_
  refine j_aload_n G 1 1 dX4_read_4 rfl rfl ?_
  refine j_iload_n G 2 2 dX4_read_5 rfl rfl ?_
  refine j_cv (rn_V G hW (ci := 8) (n := 2) (As := [.ref a1, .int x2]) (rest := []) (c_X7_scan K hW l (a0 + 35) a1 x2 (congrArg Prod.fst kk1) k1 I J B _ h) (congrArg Prod.fst kk1) (by decide) rfl ml_X4_32 im_X7_scan se_X7_scan in_X7 co_X7_scan rfl (by decide +kernel) rfl rfl (by decide) (by decide) rfl rfl (Nat.le_of_ble_eq_true rfl) dX4_read_6) (fun ⟨I2, B3⟩ h => ?_)
  refine j_aload_n G 0 0 dX4_read_9 rfl rfl ?_
  refine j_iconst G (0 : Int32) dX4_read_10 (by decide) ?_
  refine j_put G hW 5 4 tyX4 (tyX4 4) tyX4_ok nmX4 k0 (by decide) rfl (by decide) rfl lay_X4 fl_X4_36 rfl rfl (tyX4_ok 4 (by decide)) rfl rfl dX4_read_11 ?_
  refine j_mI (fun I4 eI4 => ?_)
  have h := h I4 eI4
  refine j_aload_n G 0 0 dX4_read_14 rfl rfl ?_
  refine j_iconst G (0 : Int32) dX4_read_15 (by decide) ?_
  refine j_put G hW 5 5 tyX4 (tyX4 5) tyX4_ok nmX4 k0 (by decide) rfl (by decide) rfl lay_X4 fl_X4_40 rfl rfl (tyX4_ok 5 (by decide)) rfl rfl dX4_read_16 ?_
  refine j_mI (fun I5 eI5 => ?_)
  have h := h I5 eI5
  refine j_aload_n G 0 0 dX4_read_19 rfl rfl ?_
  refine j_iconst G (0 : Int32) dX4_read_20 (by decide) ?_
  refine j_put G hW 5 1 tyX4 (tyX4 1) tyX4_ok nmX4 k0 (by decide) rfl (by decide) rfl lay_X4 fl_X4_43 rfl rfl (tyX4_ok 1 (by decide)) rfl rfl dX4_read_21 ?_
  refine j_mI (fun I6 eI6 => ?_)
  have h := h I6 eI6
  refine j_aload_n G 0 0 dX4_read_24 rfl rfl ?_
  refine j_iconst G (-1 : Int32) dX4_read_25 (by decide) ?_
  refine j_put G hW 5 2 tyX4 (tyX4 2) tyX4_ok nmX4 k0 (by decide) rfl (by decide) rfl lay_X4 fl_X4_46 rfl rfl (tyX4_ok 2 (by decide)) rfl rfl dX4_read_26 ?_
  refine j_mI (fun I7 eI7 => ?_)
  have h := h I7 eI7
  refine j_aload_n G 0 0 dX4_read_29 rfl rfl ?_
  have kk8 : kG K (a0 + 41) = (20, 150) := wk_6_41 hW k0
  refine j_get G hW 5 6 44 (.ref (a0 + 41)) k0 (by decide) rfl (by decide) rfl lay_X4 fl_X4_25 rfl rfl dX4_read_30 ?_
  refine j_iconst G (-1 : Int32) dX4_read_33 (by decide) ?_
  refine j_fill G hW kk8 (by decide) ml_X4_49 st_J7_fill_53178 in_J7 co_J7_fill_53178 (by decide) (by decide) (Nat.le_of_ble_eq_true rfl) dX4_read_34 ?_
  refine j_mI (fun I9 eI9 => ?_)
  have h := h I9 eI9
  refine j_aload_n G 0 0 dX4_read_37 rfl rfl ?_
  have kk10 : kG K (a0 + 42) = (20, 150) := wk_6_42 hW k0
  refine j_get G hW 5 7 45 (.ref (a0 + 42)) k0 (by decide) rfl (by decide) rfl lay_X4 fl_X4_29 rfl rfl dX4_read_38 ?_
  refine j_iconst G (-1 : Int32) dX4_read_41 (by decide) ?_
  refine j_fill G hW kk10 (by decide) ml_X4_49 st_J7_fill_53178 in_J7 co_J7_fill_53178 (by decide) (by decide) (Nat.le_of_ble_eq_true rfl) dX4_read_42 ?_
  refine j_mI (fun I11 eI11 => ?_)
  have h := h I11 eI11
  refine j_aload_n G 0 0 dX4_read_45 rfl rfl ?_
  have kk12 : kG K (a0 + 1) = (4, 0) := wk_6_1 hW k0
  refine j_get G hW 5 0 4 (.ref (a0 + 1)) k0 (by decide) rfl (by decide) rfl lay_X4 fl_X4_14 rfl rfl dX4_read_46 ?_
  refine j_cv (rn_V G hW (ci := 3) (n := 0) (As := []) (rest := []) (c_X2_clear K hW l (a0 + 1) (congrArg Prod.fst kk12) I11 J B3 _ h) (congrArg Prod.fst kk12) (by decide) rfl ml_X4_55 im_X2_clear se_X2_clear in_X2 co_X2_clear rfl (by decide +kernel) rfl rfl (by decide) (by decide) rfl rfl (Nat.le_of_ble_eq_true rfl) dX4_read_49) (fun I13 h => ?_)
  refine j_iconst G (0 : Int32) dX4_read_52 (by decide) ?_
  refine j_istore_n G 3 [(3, .int (0 : Int32)), (0, .ref a0), (1, .ref a1), (2, .int x2)] dX4_read_53 rfl (by decide) rfl ?_
  refine Jg.sub [1, 0] rfl (m_X4_read_l54 G hW a0 (0 : Int32) k0 I13 B3 _ ?_ h)
  intro x3_20 I21 h
  refine j_aload_n G 0 0 dX4_read_87 rfl rfl ?_
  refine j_ci (rn_V G hW (ci := 5) (n := 0) (As := []) (rest := []) (c_X4_isBroken K hW l a0 k0 I21 J B3 _ h) k0 (by decide) rfl ml_X4_62 im_X4_isBroken se_X4_isBroken in_X4 co_X4_isBroken rfl (by decide +kernel) rfl rfl (by decide) (by decide) rfl rfl (Nat.le_of_ble_eq_true rfl) dX4_read_88) (fun r22 _ h => ?_)
  refine j_if_ne G 98 dX4_read_91 (by decide) (fun c23 => ?_) (fun c23 => ?_)
  · have h := h.1 c23
    exact m_X4_read_p98 G hW a0 k0 I21 B3 h
  · have h := h.2 c23
    refine j_aload_n G 0 0 dX4_read_94 rfl rfl ?_
    refine j_cv (rn_V G hW (ci := 5) (n := 0) (As := []) (rest := []) (c_X4_findAims K hW l a0 k0 I21 J B3 _ h) k0 (by decide) rfl ml_X4_69 im_X4_findAims se_X4_findAims in_X4 co_X4_findAims rfl (by decide +kernel) rfl rfl (by decide) (by decide) rfl rfl (Nat.le_of_ble_eq_true rfl) dX4_read_95) (fun I31 h => ?_)
    exact m_X4_read_p98 G hW a0 k0 I31 B3 h
