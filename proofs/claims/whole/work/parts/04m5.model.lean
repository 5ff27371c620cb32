abbrev rm_X10_fails : Room := { frames := 0, cells := 0, slots := 0, locals := 0 }
def w_X10_fails (a0 : Nat) (I : MI) (Q : MI → Prop) : Prop :=
(((I a0 4) ≤ 0 → (∀ I2, I2 = ui I a0 4 (1 : Int32) →
(∀ I3, I3 = ui I2 a0 5 (I2 a0 13) →
Q I3))) ∧
(¬ (I a0 4) ≤ 0 → Q I))
set_option maxHeartbeats 4000000 in
set_option maxRecDepth 100000 in
theorem c_X10_fails (K : Kx) (hW : WFK K) (l : Launch) (a0 : Nat) (k0 : (kG K a0).1 = 12) (I : MI) (J : MJ) (B : MR) (Q : MI → Prop) (h : w_X10_fails a0 I Q) : Con K l yX10_fails (wsT yX10_fails cX10_fails 1 none) rm_X10_fails [.ref a0] (I, J, B) (va_Qv (S := MI) Q (fun u t => HP K (u, J, B) t.heap) (AA K)) := by
  refine Con.ofJ RX10 rfl (by decide) (Nat.le_of_ble_eq_true rfl) (fun m H0 w G => ?_)
  unfold w_X10_fails at h
  show Jg K m 1 H0 w 0 [(0, .ref a0)] [] (I, J, B)
  refine j_aload_n G 0 0 dX10_fails_0 rfl rfl ?_
  refine j_get G hW 11 4 0 (.int (I a0 4)) k0 (by decide) rfl (by decide) rfl lay_X10 fl_X10_227 rfl rfl dX10_fails_1 ?_
  refine j_if_le G 8 dX10_fails_4 (by decide) (fun c1 => ?_) (fun c1 => ?_)
  · have h := h.1 c1
    refine j_aload_n G 0 0 dX10_fails_8 rfl rfl ?_
    refine j_iconst G (1 : Int32) dX10_fails_9 (by decide) ?_
    refine j_put G hW 11 4 tyX10 (tyX10 4) tyX10_ok nmX10 k0 (by decide) rfl (by decide) rfl lay_X10 fl_X10_227 rfl rfl (tyX10_ok 4 (by decide)) rfl rfl dX10_fails_10 ?_
    refine j_mI (fun I2 eI2 => ?_)
    have h := h I2 eI2
    refine j_aload_n G 0 0 dX10_fails_13 rfl rfl ?_
    refine j_aload_n G 0 0 dX10_fails_14 rfl rfl ?_
    refine j_get G hW 11 13 0 (.int (I2 a0 13)) k0 (by decide) rfl (by decide) rfl lay_X10 fl_X10_307 rfl rfl dX10_fails_15 ?_
    refine j_put G hW 11 5 tyX10 (tyX10 5) tyX10_ok nmX10 k0 (by decide) rfl (by decide) rfl lay_X10 fl_X10_20 rfl rfl (tyX10_ok 5 (by decide)) rfl rfl dX10_fails_18 ?_
    refine j_mI (fun I3 eI3 => ?_)
    have h := h I3 eI3
    exact j_retv G I3 dX10_fails_21 h rfl
  · have h := h.2 c1
    exact j_retv G I dX10_fails_7 h rfl
abbrev rm_X10_isGood : Room := { frames := 0, cells := 0, slots := 0, locals := 0 }
def w_X10_isGood (a0 : Nat) (I : MI) (Q : Int32 →  Prop) : Prop :=
((¬ (I a0 4) = 0 → Q (0 : Int32)) ∧
((I a0 4) = 0 → Q (1 : Int32)))
set_option maxHeartbeats 4000000 in
set_option maxRecDepth 100000 in
theorem c_X10_isGood (K : Kx) (hW : WFK K) (l : Launch) (a0 : Nat) (k0 : (kG K a0).1 = 12) (I : MI) (J : MJ) (B : MR) (Q : Int32 →  Prop) (h : w_X10_isGood a0 I Q) : Con K l yX10_isGood (wsT yX10_isGood cX10_isGood 1 (some .boolean)) rm_X10_isGood [.ref a0] (I, J, B) (va_Qi (S := Unit) (fun r _ => Q r) (fun u t => HP K (I, J, B) t.heap) (AA K)) := by
  refine Con.ofJ RX10 rfl (by decide) (Nat.le_of_ble_eq_true rfl) (fun m H0 w G => ?_)
  unfold w_X10_isGood at h
  show Jg K m 1 H0 w 0 [(0, .ref a0)] [] (I, J, B)
  refine j_aload_n G 0 0 dX10_isGood_0 rfl rfl ?_
  refine j_get G hW 11 4 0 (.int (I a0 4)) k0 (by decide) rfl (by decide) rfl lay_X10 fl_X10_227 rfl rfl dX10_isGood_1 ?_
  refine j_if_ne G 11 dX10_isGood_4 (by decide) (fun c1 => ?_) (fun c1 => ?_)
  · have h := h.1 c1
    refine j_iconst G (0 : Int32) dX10_isGood_11 (by decide) ?_
    exact j_reti G () (by decide) dX10_isGood_12 h rfl
  · have h := h.2 c1
    refine j_iconst G (1 : Int32) dX10_isGood_7 (by decide) ?_
    refine j_goto G 12 dX10_isGood_8 (by decide) ?_
    exact j_reti G () (by decide) dX10_isGood_12 h rfl
abbrev rm_X10_alsoWrong : Room := { frames := 0, cells := 0, slots := 0, locals := 0 }
def w_X10_alsoWrong (a0 : Nat) (x1 : Int32) (x2 : Int32) (I : MI) (Q : MI → Prop) : Prop :=
(((I a0 15) ≤ 0 → (∀ I2, I2 = ui I a0 15 x1 →
(∀ I3, I3 = ui I2 a0 14 x2 →
Q I3))) ∧
(¬ (I a0 15) ≤ 0 → (((I a0 14) < x2 → Q I) ∧
(¬ (I a0 14) < x2 → ((¬ x2 = (I a0 14) → (∀ I6, I6 = ui I a0 15 x1 →
(∀ I7, I7 = ui I6 a0 14 x2 →
Q I7))) ∧
(x2 = (I a0 14) → ((x1 < (I a0 15) → (∀ I9, I9 = ui I a0 15 x1 →
(∀ I10, I10 = ui I9 a0 14 x2 →
Q I10))) ∧
(¬ x1 < (I a0 15) → Q I))))))))
set_option maxHeartbeats 4000000 in
set_option maxRecDepth 100000 in
theorem c_X10_alsoWrong (K : Kx) (hW : WFK K) (l : Launch) (a0 : Nat) (x1 : Int32) (x2 : Int32) (k0 : (kG K a0).1 = 12) (I : MI) (J : MJ) (B : MR) (Q : MI → Prop) (h : w_X10_alsoWrong a0 x1 x2 I Q) : Con K l yX10_alsoWrong (wsT yX10_alsoWrong cX10_alsoWrong 3 none) rm_X10_alsoWrong [.ref a0, .int x1, .int x2] (I, J, B) (va_Qv (S := MI) Q (fun u t => HP K (u, J, B) t.heap) (AA K)) := by
  refine Con.ofJ RX10 rfl (by decide) (Nat.le_of_ble_eq_true rfl) (fun m H0 w G => ?_)
  unfold w_X10_alsoWrong at h
  show Jg K m 3 H0 w 0 [(0, .ref a0), (1, .int x1), (2, .int x2)] [] (I, J, B)
  refine j_aload_n G 0 0 dX10_alsoWrong_0 rfl rfl ?_
  refine j_get G hW 11 15 0 (.int (I a0 15)) k0 (by decide) rfl (by decide) rfl lay_X10 fl_X10_327 rfl rfl dX10_alsoWrong_1 ?_
  refine j_if_le G 32 dX10_alsoWrong_4 (by decide) (fun c1 => ?_) (fun c1 => ?_)
  · have h := h.1 c1
    refine j_aload_n G 0 0 dX10_alsoWrong_32 rfl rfl ?_
    refine j_iload_n G 1 1 dX10_alsoWrong_33 rfl rfl ?_
    refine j_put G hW 11 15 tyX10 (tyX10 15) tyX10_ok nmX10 k0 (by decide) rfl (by decide) rfl lay_X10 fl_X10_327 rfl rfl (tyX10_ok 15 (by decide)) rfl rfl dX10_alsoWrong_34 ?_
    refine j_mI (fun I2 eI2 => ?_)
    have h := h I2 eI2
    refine j_aload_n G 0 0 dX10_alsoWrong_37 rfl rfl ?_
    refine j_iload_n G 2 2 dX10_alsoWrong_38 rfl rfl ?_
    refine j_put G hW 11 14 tyX10 (tyX10 14) tyX10_ok nmX10 k0 (by decide) rfl (by decide) rfl lay_X10 fl_X10_330 rfl rfl (tyX10_ok 14 (by decide)) rfl rfl dX10_alsoWrong_39 ?_
    refine j_mI (fun I3 eI3 => ?_)
    have h := h I3 eI3
    exact j_retv G I3 dX10_alsoWrong_42 h rfl
  · have h := h.2 c1
    refine j_iload_n G 2 2 dX10_alsoWrong_7 rfl rfl ?_
    refine j_aload_n G 0 0 dX10_alsoWrong_8 rfl rfl ?_
    refine j_get G hW 11 14 0 (.int (I a0 14)) k0 (by decide) rfl (by decide) rfl lay_X10 fl_X10_330 rfl rfl dX10_alsoWrong_9 ?_
    refine j_icmp_gt G 31 dX10_alsoWrong_12 (by decide) (fun c4 => ?_) (fun c4 => ?_)
    · have h := h.1 c4
      exact j_retv G I dX10_alsoWrong_31 h rfl
    · have h := h.2 c4
      refine j_iload_n G 2 2 dX10_alsoWrong_15 rfl rfl ?_
      refine j_aload_n G 0 0 dX10_alsoWrong_16 rfl rfl ?_
      refine j_get G hW 11 14 0 (.int (I a0 14)) k0 (by decide) rfl (by decide) rfl lay_X10 fl_X10_330 rfl rfl dX10_alsoWrong_17 ?_
      refine j_icmp_ne G 32 dX10_alsoWrong_20 (by decide) (fun c5 => ?_) (fun c5 => ?_)
      · have h := h.1 c5
        refine j_aload_n G 0 0 dX10_alsoWrong_32 rfl rfl ?_
        refine j_iload_n G 1 1 dX10_alsoWrong_33 rfl rfl ?_
        refine j_put G hW 11 15 tyX10 (tyX10 15) tyX10_ok nmX10 k0 (by decide) rfl (by decide) rfl lay_X10 fl_X10_327 rfl rfl (tyX10_ok 15 (by decide)) rfl rfl dX10_alsoWrong_34 ?_
        refine j_mI (fun I6 eI6 => ?_)
        have h := h I6 eI6
        refine j_aload_n G 0 0 dX10_alsoWrong_37 rfl rfl ?_
        refine j_iload_n G 2 2 dX10_alsoWrong_38 rfl rfl ?_
        refine j_put G hW 11 14 tyX10 (tyX10 14) tyX10_ok nmX10 k0 (by decide) rfl (by decide) rfl lay_X10 fl_X10_330 rfl rfl (tyX10_ok 14 (by decide)) rfl rfl dX10_alsoWrong_39 ?_
        refine j_mI (fun I7 eI7 => ?_)
        have h := h I7 eI7
        exact j_retv G I7 dX10_alsoWrong_42 h rfl
      · have h := h.2 c5
        refine j_iload_n G 1 1 dX10_alsoWrong_23 rfl rfl ?_
        refine j_aload_n G 0 0 dX10_alsoWrong_24 rfl rfl ?_
        refine j_get G hW 11 15 0 (.int (I a0 15)) k0 (by decide) rfl (by decide) rfl lay_X10 fl_X10_327 rfl rfl dX10_alsoWrong_25 ?_
        refine j_icmp_lt G 32 dX10_alsoWrong_28 (by decide) (fun c8 => ?_) (fun c8 => ?_)
        · have h := h.1 c8
          refine j_aload_n G 0 0 dX10_alsoWrong_32 rfl rfl ?_
          refine j_iload_n G 1 1 dX10_alsoWrong_33 rfl rfl ?_
          refine j_put G hW 11 15 tyX10 (tyX10 15) tyX10_ok nmX10 k0 (by decide) rfl (by decide) rfl lay_X10 fl_X10_327 rfl rfl (tyX10_ok 15 (by decide)) rfl rfl dX10_alsoWrong_34 ?_
          refine j_mI (fun I9 eI9 => ?_)
          have h := h I9 eI9
          refine j_aload_n G 0 0 dX10_alsoWrong_37 rfl rfl ?_
          refine j_iload_n G 2 2 dX10_alsoWrong_38 rfl rfl ?_
          refine j_put G hW 11 14 tyX10 (tyX10 14) tyX10_ok nmX10 k0 (by decide) rfl (by decide) rfl lay_X10 fl_X10_330 rfl rfl (tyX10_ok 14 (by decide)) rfl rfl dX10_alsoWrong_39 ?_
          refine j_mI (fun I10 eI10 => ?_)
          have h := h I10 eI10
          exact j_retv G I10 dX10_alsoWrong_42 h rfl
        · have h := h.2 c8
          exact j_retv G I dX10_alsoWrong_31 h rfl
abbrev rm_X10_isWord : Room := { frames := 1, cells := 0, slots := 0, locals := 20 }
def w_X10_isWord (a0 : Nat) (y1 : Int64) (I : MI) (J : MJ) (Q : Int32 →  Prop) : Prop :=
(w_X10_isGood a0 I (fun r1 =>
((r1 = 0 → Q (0 : Int32)) ∧
(¬ r1 = 0 → ((¬ (I a0 12) = (1 : Int32) → Q (0 : Int32)) ∧
((I a0 12) = (1 : Int32) → ((¬ (lg_cmp (J a0 17) y1) = 0 → Q (0 : Int32)) ∧
((lg_cmp (J a0 17) y1) = 0 → Q (1 : Int32)))))))))
set_option maxHeartbeats 4000000 in
set_option maxRecDepth 100000 in
theorem c_X10_isWord (K : Kx) (hW : WFK K) (l : Launch) (a0 : Nat) (y1 : Int64) (k0 : (kG K a0).1 = 12) (I : MI) (J : MJ) (B : MR) (Q : Int32 →  Prop) (h : w_X10_isWord a0 y1 I J Q) : Con K l yX10_isWord (wsT yX10_isWord cX10_isWord 3 (some .boolean)) rm_X10_isWord [.ref a0, .long y1] (I, J, B) (va_Qi (S := Unit) (fun r _ => Q r) (fun u t => HP K (I, J, B) t.heap) (AA K)) := by
  refine Con.ofJ RX10 rfl (by decide) (Nat.le_of_ble_eq_true rfl) (fun m H0 w G => ?_)
  unfold w_X10_isWord at h
  show Jg K m 3 H0 w 0 [(0, .ref a0), (1, .long y1)] [] (I, J, B)
  refine j_aload_n G 0 0 dX10_isWord_0 rfl rfl ?_
  refine j_ci (rn_V G hW (ci := 11) (n := 0) (As := []) (rest := []) (c_X10_isGood K hW l a0 k0 I J B _ h) k0 (by decide) rfl ml_X10_333 im_X10_isGood se_X10_isGood in_X10 co_X10_isGood rfl (by decide +kernel) rfl rfl (by decide) (by decide) rfl rfl (Nat.le_of_ble_eq_true rfl) dX10_isWord_1) (fun r1 _ h => ?_)
  refine j_if_eq G 28 dX10_isWord_4 (by decide) (fun c2 => ?_) (fun c2 => ?_)
  · have h := h.1 c2
    refine j_iconst G (0 : Int32) dX10_isWord_28 (by decide) ?_
    exact j_reti G () (by decide) dX10_isWord_29 h rfl
  · have h := h.2 c2
    refine j_aload_n G 0 0 dX10_isWord_7 rfl rfl ?_
    refine j_get G hW 11 12 0 (.int (I a0 12)) k0 (by decide) rfl (by decide) rfl lay_X10 fl_X10_314 rfl rfl dX10_isWord_8 ?_
    refine j_iconst G (1 : Int32) dX10_isWord_11 (by decide) ?_
    refine j_icmp_ne G 28 dX10_isWord_12 (by decide) (fun c3 => ?_) (fun c3 => ?_)
    · have h := h.1 c3
      refine j_iconst G (0 : Int32) dX10_isWord_28 (by decide) ?_
      exact j_reti G () (by decide) dX10_isWord_29 h rfl
    · have h := h.2 c3
      refine j_aload_n G 0 0 dX10_isWord_15 rfl rfl ?_
      refine j_get G hW 11 17 1 (.long (J a0 17)) k0 (by decide) rfl (by decide) rfl lay_X10 fl_X10_310 rfl rfl dX10_isWord_16 ?_
      refine j_lload_n G 1 1 dX10_isWord_19 rfl rfl ?_
      refine j_lcmp G dX10_isWord_20 ?_
      refine j_if_ne G 28 dX10_isWord_21 (by decide) (fun c4 => ?_) (fun c4 => ?_)
      · have h := h.1 c4
        refine j_iconst G (0 : Int32) dX10_isWord_28 (by decide) ?_
        exact j_reti G () (by decide) dX10_isWord_29 h rfl
      · have h := h.2 c4
        refine j_iconst G (1 : Int32) dX10_isWord_24 (by decide) ?_
        refine j_goto G 29 dX10_isWord_25 (by decide) ?_
        exact j_reti G () (by decide) dX10_isWord_29 h rfl
abbrev rm_X10_hasWord : Room := { frames := 2, cells := 0, slots := 0, locals := 42 }
def w_X10_hasWord (a0 : Nat) (y1 : Int64) (I : MI) (J : MJ) (Q : Int32 → MI → MJ → Prop) : Prop :=
(w_X10_isWord a0 y1 I J (fun r1 =>
((r1 = 0 → (bln r1 ∧
Q r1 I J)) ∧
(¬ r1 = 0 → (w_X10_takesToken a0 I J (fun I4 J5 =>
(bln r1 ∧
Q r1 I4 J5)))))))
set_option maxHeartbeats 4000000 in
set_option maxRecDepth 100000 in
theorem c_X10_hasWord (K : Kx) (hW : WFK K) (l : Launch) (a0 : Nat) (y1 : Int64) (k0 : (kG K a0).1 = 12) (I : MI) (J : MJ) (B : MR) (Q : Int32 → MI → MJ → Prop) (h : w_X10_hasWord a0 y1 I J Q) : Con K l yX10_hasWord (wsT yX10_hasWord cX10_hasWord 4 (some .boolean)) rm_X10_hasWord [.ref a0, .long y1] (I, J, B) (va_Qi (S := (MI × MJ)) (fun r u => Q r u.1 u.2) (fun u t => HP K (u.1, u.2, B) t.heap) (AA K)) := by
  refine Con.ofJ RX10 rfl (by decide) (Nat.le_of_ble_eq_true rfl) (fun m H0 w G => ?_)
  unfold w_X10_hasWord at h
  show Jg K m 4 H0 w 0 [(0, .ref a0), (1, .long y1)] [] (I, J, B)
  refine j_aload_n G 0 0 dX10_hasWord_0 rfl rfl ?_
  refine j_lload_n G 1 1 dX10_hasWord_1 rfl rfl ?_
  refine j_ci (rn_V G hW (ci := 11) (n := 1) (As := [.long y1]) (rest := []) (c_X10_isWord K hW l a0 y1 k0 I J B _ h) k0 (by decide) rfl ml_X10_337 im_X10_isWord se_X10_isWord in_X10 co_X10_isWord rfl (by decide +kernel) rfl rfl (by decide) (by decide) rfl rfl (Nat.le_of_ble_eq_true rfl) dX10_hasWord_2) (fun r1 _ h => ?_)
  refine j_istore_n G 3 [(3, .int r1), (0, .ref a0), (1, .long y1)] dX10_hasWord_5 rfl (by decide) rfl ?_
  refine j_iload_n G 0 3 dX10_hasWord_6 rfl rfl ?_
  refine j_if_eq G 14 dX10_hasWord_7 (by decide) (fun c2 => ?_) (fun c2 => ?_)
  · have h := h.1 c2
    refine j_iload_n G 0 3 dX10_hasWord_14 rfl rfl ?_
    obtain ⟨q3, h⟩ := h
    exact j_reti G (I, J) (bln_n q3) dX10_hasWord_15 h rfl
  · have h := h.2 c2
    refine j_aload_n G 1 0 dX10_hasWord_10 rfl rfl ?_
    refine j_cv (rn_V G hW (ci := 11) (n := 0) (As := []) (rest := []) (c_X10_takesToken K hW l a0 k0 I J B _ h) k0 (by decide) rfl ml_X10_341 im_X10_takesToken se_X10_takesToken in_X10 co_X10_takesToken rfl (by decide +kernel) rfl rfl (by decide) (by decide) rfl rfl (Nat.le_of_ble_eq_true rfl) dX10_hasWord_11) (fun ⟨I4, J5⟩ h => ?_)
    refine j_iload_n G 0 3 dX10_hasWord_14 rfl rfl ?_
    obtain ⟨q6, h⟩ := h
    exact j_reti G (I4, J5) (bln_n q6) dX10_hasWord_15 h rfl
abbrev rm_X10_sign : Room := { frames := 2, cells := 0, slots := 0, locals := 42 }
def w_X10_sign (a0 : Nat) (x1 : Int32) (I : MI) (J : MJ) (Q : MI → MJ → Prop) : Prop :=
(w_X10_isGood a0 I (fun r1 =>
((¬ r1 = 0 → ((¬ (I a0 12) = (3 : Int32) → (w_X10_fails a0 I (fun I4 =>
Q I4 J))) ∧
((I a0 12) = (3 : Int32) → ((¬ (lg_cmp (J a0 17) (Int32.toInt64 x1)) = 0 → (w_X10_fails a0 I (fun I6 =>
Q I6 J))) ∧
((lg_cmp (J a0 17) (Int32.toInt64 x1)) = 0 → (w_X10_takesToken a0 I J (fun I7 J8 =>
Q I7 J8))))))) ∧
(r1 = 0 → Q I J))))
set_option maxHeartbeats 4000000 in
set_option maxRecDepth 100000 in
theorem c_X10_sign (K : Kx) (hW : WFK K) (l : Launch) (a0 : Nat) (x1 : Int32) (k0 : (kG K a0).1 = 12) (I : MI) (J : MJ) (B : MR) (Q : MI → MJ → Prop) (h : w_X10_sign a0 x1 I J Q) : Con K l yX10_sign (wsT yX10_sign cX10_sign 2 none) rm_X10_sign [.ref a0, .int x1] (I, J, B) (va_Qv (S := (MI × MJ)) (fun u => Q u.1 u.2) (fun u t => HP K (u.1, u.2, B) t.heap) (AA K)) := by
  refine Con.ofJ RX10 rfl (by decide) (Nat.le_of_ble_eq_true rfl) (fun m H0 w G => ?_)
  unfold w_X10_sign at h
  show Jg K m 2 H0 w 0 [(0, .ref a0), (1, .int x1)] [] (I, J, B)
  refine j_aload_n G 0 0 dX10_sign_0 rfl rfl ?_
  refine j_ci (rn_V G hW (ci := 11) (n := 0) (As := []) (rest := []) (c_X10_isGood K hW l a0 k0 I J B _ h) k0 (by decide) rfl ml_X10_333 im_X10_isGood se_X10_isGood in_X10 co_X10_isGood rfl (by decide +kernel) rfl rfl (by decide) (by decide) rfl rfl (Nat.le_of_ble_eq_true rfl) dX10_sign_1) (fun r1 _ h => ?_)
  refine j_if_ne G 8 dX10_sign_4 (by decide) (fun c2 => ?_) (fun c2 => ?_)
  · have h := h.1 c2
    refine j_aload_n G 0 0 dX10_sign_8 rfl rfl ?_
    refine j_get G hW 11 12 0 (.int (I a0 12)) k0 (by decide) rfl (by decide) rfl lay_X10 fl_X10_314 rfl rfl dX10_sign_9 ?_
    refine j_iconst G (3 : Int32) dX10_sign_12 (by decide) ?_
    refine j_icmp_ne G 33 dX10_sign_13 (by decide) (fun c3 => ?_) (fun c3 => ?_)
    · have h := h.1 c3
      refine j_aload_n G 0 0 dX10_sign_33 rfl rfl ?_
      refine j_cv (rn_V G hW (ci := 11) (n := 0) (As := []) (rest := []) (c_X10_fails K hW l a0 k0 I J B _ h) k0 (by decide) rfl ml_X10_344 im_X10_fails se_X10_fails in_X10 co_X10_fails rfl (by decide +kernel) rfl rfl (by decide) (by decide) rfl rfl (Nat.le_of_ble_eq_true rfl) dX10_sign_34) (fun I4 h => ?_)
      exact j_retv G (I4, J) dX10_sign_37 h rfl
    · have h := h.2 c3
      refine j_aload_n G 0 0 dX10_sign_16 rfl rfl ?_
      refine j_get G hW 11 17 1 (.long (J a0 17)) k0 (by decide) rfl (by decide) rfl lay_X10 fl_X10_310 rfl rfl dX10_sign_17 ?_
      refine j_iload_n G 1 1 dX10_sign_20 rfl rfl ?_
      refine j_i2l G dX10_sign_21 ?_
      refine j_lcmp G dX10_sign_22 ?_
      refine j_if_ne G 33 dX10_sign_23 (by decide) (fun c5 => ?_) (fun c5 => ?_)
      · have h := h.1 c5
        refine j_aload_n G 0 0 dX10_sign_33 rfl rfl ?_
        refine j_cv (rn_V G hW (ci := 11) (n := 0) (As := []) (rest := []) (c_X10_fails K hW l a0 k0 I J B _ h) k0 (by decide) rfl ml_X10_344 im_X10_fails se_X10_fails in_X10 co_X10_fails rfl (by decide +kernel) rfl rfl (by decide) (by decide) rfl rfl (Nat.le_of_ble_eq_true rfl) dX10_sign_34) (fun I6 h => ?_)
        exact j_retv G (I6, J) dX10_sign_37 h rfl
      · have h := h.2 c5
        refine j_aload_n G 0 0 dX10_sign_26 rfl rfl ?_
        refine j_cv (rn_V G hW (ci := 11) (n := 0) (As := []) (rest := []) (c_X10_takesToken K hW l a0 k0 I J B _ h) k0 (by decide) rfl ml_X10_341 im_X10_takesToken se_X10_takesToken in_X10 co_X10_takesToken rfl (by decide +kernel) rfl rfl (by decide) (by decide) rfl rfl (Nat.le_of_ble_eq_true rfl) dX10_sign_27) (fun ⟨I7, J8⟩ h => ?_)
        refine j_goto G 37 dX10_sign_30 (by decide) ?_
        exact j_retv G (I7, J8) dX10_sign_37 h rfl
  · have h := h.2 c2
    exact j_retv G (I, J) dX10_sign_7 h rfl
abbrev rm_X10_numeral : Room := { frames := 2, cells := 0, slots := 0, locals := 42 }
def w_X10_numeral_p67 (a0 : Nat) (x3 : Int32) (s0 : Int32) (I : MI) (J : MJ)  (Q : Int32 → MI → MJ → Prop) : Prop :=
((¬ x3 = 0 → (w_X10_takesToken a0 I J (fun I8 J9 =>
Q s0 I8 J9))) ∧
(x3 = 0 → (w_X10_alsoWrong a0 (2 : Int32) (I a0 13) I (fun I10 =>
(w_X10_takesToken a0 I10 J (fun I11 J12 =>
Q s0 I11 J12))))))
set_option maxHeartbeats 4000000 in
set_option maxRecDepth 100000 in
theorem m_X10_numeral_p67 {K : Kx} {l : Launch} {m : MethodId} {H0 : Heap} {Q : Int32 → MI → MJ → Prop} {w : HW} {B : MR} (G : Gd l rm_X10_numeral K m RX10 cX10_numeral 5 H0 (some .int) (va_Qi (S := (MI × MJ)) (fun r u => Q r u.1 u.2) (fun u t => HP K (u.1, u.2, B) t.heap) (AA K)) w) (hW : WFK K) (a0 : Nat) (x3 : Int32) (s0 : Int32) (ka0 : (kG K a0).1 = 12)  (I : MI) (J : MJ)   (h : w_X10_numeral_p67 a0 x3 s0 I J Q) : Jg K m 5 H0 w 67 [(0, .ref a0), (3, .int x3)] [.int s0] (I, J, B) := by
  unfold w_X10_numeral_p67 at h
  refine j_istore G [(4, .int s0), (0, .ref a0), (3, .int x3)] dX10_numeral_67 (by decide) rfl ?_
  refine j_iload_n G 2 3 dX10_numeral_69 rfl rfl ?_
  refine j_if_ne G 82 dX10_numeral_70 (by decide) (fun c7 => ?_) (fun c7 => ?_)
  · have h := h.1 c7
    refine j_aload_n G 1 0 dX10_numeral_82 rfl rfl ?_
    refine j_cv (rn_V G hW (ci := 11) (n := 0) (As := []) (rest := []) (c_X10_takesToken K hW l a0 ka0 I J B _ h) ka0 (by decide) rfl ml_X10_341 im_X10_takesToken se_X10_takesToken in_X10 co_X10_takesToken rfl (by decide +kernel) rfl rfl (by decide) (by decide) rfl rfl (Nat.le_of_ble_eq_true rfl) dX10_numeral_83) (fun ⟨I8, J9⟩ h => ?_)
    refine j_iload G 0 dX10_numeral_86 rfl ?_
    exact j_reti G (I8, J9) rfl dX10_numeral_88 h rfl
  · have h := h.2 c7
    refine j_aload_n G 1 0 dX10_numeral_73 rfl rfl ?_
    refine j_iconst G (2 : Int32) dX10_numeral_74 (by decide) ?_
    refine j_aload_n G 1 0 dX10_numeral_75 rfl rfl ?_
    refine j_get G hW 11 13 0 (.int (I a0 13)) ka0 (by decide) rfl (by decide) rfl lay_X10 fl_X10_307 rfl rfl dX10_numeral_76 ?_
    refine j_cv (rn_V G hW (ci := 11) (n := 2) (As := [.int (2 : Int32), .int (I a0 13)]) (rest := []) (c_X10_alsoWrong K hW l a0 (2 : Int32) (I a0 13) ka0 I J B _ h) ka0 (by decide) rfl ml_X10_347 im_X10_alsoWrong se_X10_alsoWrong in_X10 co_X10_alsoWrong rfl (by decide +kernel) rfl rfl (by decide) (by decide) rfl rfl (Nat.le_of_ble_eq_true rfl) dX10_numeral_79) (fun I10 h => ?_)
    refine j_aload_n G 1 0 dX10_numeral_82 rfl rfl ?_
    refine j_cv (rn_V G hW (ci := 11) (n := 0) (As := []) (rest := []) (c_X10_takesToken K hW l a0 ka0 I10 J B _ h) ka0 (by decide) rfl ml_X10_341 im_X10_takesToken se_X10_takesToken in_X10 co_X10_takesToken rfl (by decide +kernel) rfl rfl (by decide) (by decide) rfl rfl (Nat.le_of_ble_eq_true rfl) dX10_numeral_83) (fun ⟨I11, J12⟩ h => ?_)
    refine j_iload G 0 dX10_numeral_86 rfl ?_
    exact j_reti G (I11, J12) rfl dX10_numeral_88 h rfl
def w_X10_numeral_p19 (a0 : Nat) (x1 : Int32) (x2 : Int32)  (I : MI) (J : MJ)  (Q : Int32 → MI → MJ → Prop) : Prop :=
(w_X10_isGood a0 I (fun r3 =>
((¬ r3 = 0 → (((lg_cmp (J a0 17) (Int32.toInt64 x1)) < 0 → (((0 : Int32) = 0 → w_X10_numeral_p67 a0 (0 : Int32) x1 I J Q) ∧
(¬ (0 : Int32) = 0 → w_X10_numeral_p67 a0 (0 : Int32) (Int64.toInt32 (J a0 17)) I J Q))) ∧
(¬ (lg_cmp (J a0 17) (Int32.toInt64 x1)) < 0 → ((0 < (lg_cmp (J a0 17) (Int32.toInt64 x2)) → (((0 : Int32) = 0 → w_X10_numeral_p67 a0 (0 : Int32) x1 I J Q) ∧
(¬ (0 : Int32) = 0 → w_X10_numeral_p67 a0 (0 : Int32) (Int64.toInt32 (J a0 17)) I J Q))) ∧
(¬ 0 < (lg_cmp (J a0 17) (Int32.toInt64 x2)) → (((1 : Int32) = 0 → w_X10_numeral_p67 a0 (1 : Int32) x1 I J Q) ∧
(¬ (1 : Int32) = 0 → w_X10_numeral_p67 a0 (1 : Int32) (Int64.toInt32 (J a0 17)) I J Q))))))) ∧
(r3 = 0 → Q x1 I J))))
set_option maxHeartbeats 4000000 in
set_option maxRecDepth 100000 in
theorem m_X10_numeral_p19 {K : Kx} {l : Launch} {m : MethodId} {H0 : Heap} {Q : Int32 → MI → MJ → Prop} {w : HW} {B : MR} (G : Gd l rm_X10_numeral K m RX10 cX10_numeral 5 H0 (some .int) (va_Qi (S := (MI × MJ)) (fun r u => Q r u.1 u.2) (fun u t => HP K (u.1, u.2, B) t.heap) (AA K)) w) (hW : WFK K) (a0 : Nat) (x1 : Int32) (x2 : Int32)  (ka0 : (kG K a0).1 = 12)  (I : MI) (J : MJ)   (h : w_X10_numeral_p19 a0 x1 x2 I J Q) : Jg K m 5 H0 w 19 [(0, .ref a0), (1, .int x1), (2, .int x2)] [] (I, J, B) := by
  unfold w_X10_numeral_p19 at h
  refine j_aload_n G 0 0 dX10_numeral_19 rfl rfl ?_
  refine j_ci (rn_V G hW (ci := 11) (n := 0) (As := []) (rest := []) (c_X10_isGood K hW l a0 ka0 I J B _ h) ka0 (by decide) rfl ml_X10_333 im_X10_isGood se_X10_isGood in_X10 co_X10_isGood rfl (by decide +kernel) rfl rfl (by decide) (by decide) rfl rfl (Nat.le_of_ble_eq_true rfl) dX10_numeral_20) (fun r3 _ h => ?_)
  refine j_if_ne G 28 dX10_numeral_23 (by decide) (fun c4 => ?_) (fun c4 => ?_)
  · have h := h.1 c4
    refine j_aload_n G 0 0 dX10_numeral_28 rfl rfl ?_
    refine j_get G hW 11 17 1 (.long (J a0 17)) ka0 (by decide) rfl (by decide) rfl lay_X10 fl_X10_310 rfl rfl dX10_numeral_29 ?_
    refine j_iload_n G 1 1 dX10_numeral_32 rfl rfl ?_
    refine j_i2l G dX10_numeral_33 ?_
    refine j_lcmp G dX10_numeral_34 ?_
    refine j_if_lt G 52 dX10_numeral_35 (by decide) (fun c5 => ?_) (fun c5 => ?_)
    · have h := h.1 c5
      refine j_iconst G (0 : Int32) dX10_numeral_52 (by decide) ?_
      refine j_istore_n G 3 [(3, .int (0 : Int32)), (0, .ref a0), (1, .int x1), (2, .int x2)] dX10_numeral_53 rfl (by decide) rfl ?_
      refine j_iload_n G 0 3 dX10_numeral_54 rfl rfl ?_
      refine j_if_eq G 66 dX10_numeral_55 (by decide) (fun c6 => ?_) (fun c6 => ?_)
      · have h := h.1 c6
        refine j_iload_n G 2 1 dX10_numeral_66 rfl rfl ?_
        exact Jg.sub [1, 0] rfl (m_X10_numeral_p67 G hW a0 (0 : Int32) x1 ka0 I J h)
      · have h := h.2 c6
        refine j_aload_n G 1 0 dX10_numeral_58 rfl rfl ?_
        refine j_get G hW 11 17 1 (.long (J a0 17)) ka0 (by decide) rfl (by decide) rfl lay_X10 fl_X10_310 rfl rfl dX10_numeral_59 ?_
        refine j_l2i G dX10_numeral_62 ?_
        refine j_goto G 67 dX10_numeral_63 (by decide) ?_
        exact Jg.sub [1, 0] rfl (m_X10_numeral_p67 G hW a0 (0 : Int32) (Int64.toInt32 (J a0 17)) ka0 I J h)
    · have h := h.2 c5
      refine j_aload_n G 0 0 dX10_numeral_38 rfl rfl ?_
      refine j_get G hW 11 17 1 (.long (J a0 17)) ka0 (by decide) rfl (by decide) rfl lay_X10 fl_X10_310 rfl rfl dX10_numeral_39 ?_
      refine j_iload_n G 2 2 dX10_numeral_42 rfl rfl ?_
      refine j_i2l G dX10_numeral_43 ?_
      refine j_lcmp G dX10_numeral_44 ?_
      refine j_if_gt G 52 dX10_numeral_45 (by decide) (fun c13 => ?_) (fun c13 => ?_)
      · have h := h.1 c13
        refine j_iconst G (0 : Int32) dX10_numeral_52 (by decide) ?_
        refine j_istore_n G 3 [(3, .int (0 : Int32)), (0, .ref a0), (1, .int x1), (2, .int x2)] dX10_numeral_53 rfl (by decide) rfl ?_
        refine j_iload_n G 0 3 dX10_numeral_54 rfl rfl ?_
        refine j_if_eq G 66 dX10_numeral_55 (by decide) (fun c14 => ?_) (fun c14 => ?_)
        · have h := h.1 c14
          refine j_iload_n G 2 1 dX10_numeral_66 rfl rfl ?_
          exact Jg.sub [1, 0] rfl (m_X10_numeral_p67 G hW a0 (0 : Int32) x1 ka0 I J h)
        · have h := h.2 c14
          refine j_aload_n G 1 0 dX10_numeral_58 rfl rfl ?_
          refine j_get G hW 11 17 1 (.long (J a0 17)) ka0 (by decide) rfl (by decide) rfl lay_X10 fl_X10_310 rfl rfl dX10_numeral_59 ?_
          refine j_l2i G dX10_numeral_62 ?_
          refine j_goto G 67 dX10_numeral_63 (by decide) ?_
          exact Jg.sub [1, 0] rfl (m_X10_numeral_p67 G hW a0 (0 : Int32) (Int64.toInt32 (J a0 17)) ka0 I J h)
      · have h := h.2 c13
        refine j_iconst G (1 : Int32) dX10_numeral_48 (by decide) ?_
        refine j_goto G 53 dX10_numeral_49 (by decide) ?_
        refine j_istore_n G 3 [(3, .int (1 : Int32)), (0, .ref a0), (1, .int x1), (2, .int x2)] dX10_numeral_53 rfl (by decide) rfl ?_
        refine j_iload_n G 0 3 dX10_numeral_54 rfl rfl ?_
        refine j_if_eq G 66 dX10_numeral_55 (by decide) (fun c15 => ?_) (fun c15 => ?_)
        · have h := h.1 c15
          refine j_iload_n G 2 1 dX10_numeral_66 rfl rfl ?_
          exact Jg.sub [1, 0] rfl (m_X10_numeral_p67 G hW a0 (1 : Int32) x1 ka0 I J h)
        · have h := h.2 c15
          refine j_aload_n G 1 0 dX10_numeral_58 rfl rfl ?_
          refine j_get G hW 11 17 1 (.long (J a0 17)) ka0 (by decide) rfl (by decide) rfl lay_X10 fl_X10_310 rfl rfl dX10_numeral_59 ?_
          refine j_l2i G dX10_numeral_62 ?_
          refine j_goto G 67 dX10_numeral_63 (by decide) ?_
          exact Jg.sub [1, 0] rfl (m_X10_numeral_p67 G hW a0 (1 : Int32) (Int64.toInt32 (J a0 17)) ka0 I J h)
  · have h := h.2 c4
    refine j_iload_n G 1 1 dX10_numeral_26 rfl rfl ?_
    exact j_reti G (I, J) rfl dX10_numeral_27 h rfl
def w_X10_numeral (a0 : Nat) (x1 : Int32) (x2 : Int32) (I : MI) (J : MJ) (Q : Int32 → MI → MJ → Prop) : Prop :=
(w_X10_isGood a0 I (fun r1 =>
((r1 = 0 → w_X10_numeral_p19 a0 x1 x2 I J Q) ∧
(¬ r1 = 0 → (((I a0 12) = (2 : Int32) → w_X10_numeral_p19 a0 x1 x2 I J Q) ∧
(¬ (I a0 12) = (2 : Int32) → (w_X10_fails a0 I (fun I17 =>
w_X10_numeral_p19 a0 x1 x2 I17 J Q))))))))
set_option maxHeartbeats 4000000 in
set_option maxRecDepth 100000 in
theorem c_X10_numeral (K : Kx) (hW : WFK K) (l : Launch) (a0 : Nat) (x1 : Int32) (x2 : Int32) (k0 : (kG K a0).1 = 12) (I : MI) (J : MJ) (B : MR) (Q : Int32 → MI → MJ → Prop) (h : w_X10_numeral a0 x1 x2 I J Q) : Con K l yX10_numeral (wsT yX10_numeral cX10_numeral 5 (some .int)) rm_X10_numeral [.ref a0, .int x1, .int x2] (I, J, B) (va_Qi (S := (MI × MJ)) (fun r u => Q r u.1 u.2) (fun u t => HP K (u.1, u.2, B) t.heap) (AA K)) := by
  refine Con.ofJ RX10 rfl (by decide) (Nat.le_of_ble_eq_true rfl) (fun m H0 w G => ?_)
  unfold w_X10_numeral at h
  show Jg K m 5 H0 w 0 [(0, .ref a0), (1, .int x1), (2, .int x2)] [] (I, J, B)
  refine j_aload_n G 0 0 dX10_numeral_0 rfl rfl ?_
  refine j_ci (rn_V G hW (ci := 11) (n := 0) (As := []) (rest := []) (c_X10_isGood K hW l a0 k0 I J B _ h) k0 (by decide) rfl ml_X10_333 im_X10_isGood se_X10_isGood in_X10 co_X10_isGood rfl (by decide +kernel) rfl rfl (by decide) (by decide) rfl rfl (Nat.le_of_ble_eq_true rfl) dX10_numeral_1) (fun r1 _ h => ?_)
  refine j_if_eq G 19 dX10_numeral_4 (by decide) (fun c2 => ?_) (fun c2 => ?_)
  · have h := h.1 c2
    exact m_X10_numeral_p19 G hW a0 x1 x2 k0 I J h
  · have h := h.2 c2
    refine j_aload_n G 0 0 dX10_numeral_7 rfl rfl ?_
    refine j_get G hW 11 12 0 (.int (I a0 12)) k0 (by decide) rfl (by decide) rfl lay_X10 fl_X10_314 rfl rfl dX10_numeral_8 ?_
    refine j_iconst G (2 : Int32) dX10_numeral_11 (by decide) ?_
    refine j_icmp_eq G 19 dX10_numeral_12 (by decide) (fun c16 => ?_) (fun c16 => ?_)
    · have h := h.1 c16
      exact m_X10_numeral_p19 G hW a0 x1 x2 k0 I J h
    · have h := h.2 c16
      refine j_aload_n G 0 0 dX10_numeral_15 rfl rfl ?_
      refine j_cv (rn_V G hW (ci := 11) (n := 0) (As := []) (rest := []) (c_X10_fails K hW l a0 k0 I J B _ h) k0 (by decide) rfl ml_X10_344 im_X10_fails se_X10_fails in_X10 co_X10_fails rfl (by decide +kernel) rfl rfl (by decide) (by decide) rfl rfl (Nat.le_of_ble_eq_true rfl) dX10_numeral_16) (fun I17 h => ?_)
      exact m_X10_numeral_p19 G hW a0 x1 x2 k0 I17 J h
abbrev rm_X10_letterTaken : Room := { frames := 2, cells := 0, slots := 0, locals := 42 }
def w_X10_letterTaken_p41 (a0 : Nat)  (I : MI) (J : MJ)  (Q : Int32 → MI → MJ → Prop) : Prop :=
(w_X10_isGood a0 I (fun r3 =>
((¬ r3 = 0 → (∀ x1_5, x1_5 = (Int64.toInt32 (J a0 17)) - (97 : Int32) →
(w_X10_takesToken a0 I J (fun I6 J7 =>
Q x1_5 I6 J7)))) ∧
(r3 = 0 → Q (0 : Int32) I J))))
set_option maxHeartbeats 4000000 in
set_option maxRecDepth 100000 in
theorem m_X10_letterTaken_p41 {K : Kx} {l : Launch} {m : MethodId} {H0 : Heap} {Q : Int32 → MI → MJ → Prop} {w : HW} {B : MR} (G : Gd l rm_X10_letterTaken K m RX10 cX10_letterTaken 2 H0 (some .int) (va_Qi (S := (MI × MJ)) (fun r u => Q r u.1 u.2) (fun u t => HP K (u.1, u.2, B) t.heap) (AA K)) w) (hW : WFK K) (a0 : Nat)  (ka0 : (kG K a0).1 = 12)  (I : MI) (J : MJ)   (h : w_X10_letterTaken_p41 a0 I J Q) : Jg K m 2 H0 w 41 [(0, .ref a0)] [] (I, J, B) := by
  unfold w_X10_letterTaken_p41 at h
  refine j_aload_n G 0 0 dX10_letterTaken_41 rfl rfl ?_
  refine j_ci (rn_V G hW (ci := 11) (n := 0) (As := []) (rest := []) (c_X10_isGood K hW l a0 ka0 I J B _ h) ka0 (by decide) rfl ml_X10_333 im_X10_isGood se_X10_isGood in_X10 co_X10_isGood rfl (by decide +kernel) rfl rfl (by decide) (by decide) rfl rfl (Nat.le_of_ble_eq_true rfl) dX10_letterTaken_42) (fun r3 _ h => ?_)
  refine j_if_ne G 50 dX10_letterTaken_45 (by decide) (fun c4 => ?_) (fun c4 => ?_)
  · have h := h.1 c4
    refine j_aload_n G 0 0 dX10_letterTaken_50 rfl rfl ?_
    refine j_get G hW 11 17 1 (.long (J a0 17)) ka0 (by decide) rfl (by decide) rfl lay_X10 fl_X10_310 rfl rfl dX10_letterTaken_51 ?_
    refine j_l2i G dX10_letterTaken_54 ?_
    refine j_bipush G (97 : Int32) dX10_letterTaken_55 (by decide) ?_
    refine j_isub G dX10_letterTaken_57 ?_
    refine j_nm (fun x1_5 ex1_5 => ?_)
    have h := h x1_5 ex1_5
    refine j_istore_n G 1 [(1, .int x1_5), (0, .ref a0)] dX10_letterTaken_58 rfl (by decide) rfl ?_
    refine j_aload_n G 1 0 dX10_letterTaken_59 rfl rfl ?_
    refine j_cv (rn_V G hW (ci := 11) (n := 0) (As := []) (rest := []) (c_X10_takesToken K hW l a0 ka0 I J B _ h) ka0 (by decide) rfl ml_X10_341 im_X10_takesToken se_X10_takesToken in_X10 co_X10_takesToken rfl (by decide +kernel) rfl rfl (by decide) (by decide) rfl rfl (Nat.le_of_ble_eq_true rfl) dX10_letterTaken_60) (fun ⟨I6, J7⟩ h => ?_)
    refine j_iload_n G 0 1 dX10_letterTaken_63 rfl rfl ?_
    exact j_reti G (I6, J7) rfl dX10_letterTaken_64 h rfl
  · have h := h.2 c4
    refine j_iconst G (0 : Int32) dX10_letterTaken_48 (by decide) ?_
    exact j_reti G (I, J) rfl dX10_letterTaken_49 h rfl
def w_X10_letterTaken (a0 : Nat) (I : MI) (J : MJ) (Q : Int32 → MI → MJ → Prop) : Prop :=
(w_X10_isGood a0 I (fun r1 =>
((r1 = 0 → w_X10_letterTaken_p41 a0 I J Q) ∧
(¬ r1 = 0 → ((¬ (I a0 12) = (1 : Int32) → (w_X10_fails a0 I (fun I9 =>
w_X10_letterTaken_p41 a0 I9 J Q))) ∧
((I a0 12) = (1 : Int32) → (((lg_cmp (J a0 17) (97 : Int64)) < 0 → (w_X10_fails a0 I (fun I11 =>
w_X10_letterTaken_p41 a0 I11 J Q))) ∧
(¬ (lg_cmp (J a0 17) (97 : Int64)) < 0 → (((lg_cmp (J a0 17) (104 : Int64)) ≤ 0 → w_X10_letterTaken_p41 a0 I J Q) ∧
(¬ (lg_cmp (J a0 17) (104 : Int64)) ≤ 0 → (w_X10_fails a0 I (fun I13 =>
w_X10_letterTaken_p41 a0 I13 J Q))))))))))))
set_option maxHeartbeats 4000000 in
set_option maxRecDepth 100000 in
theorem c_X10_letterTaken (K : Kx) (hW : WFK K) (l : Launch) (a0 : Nat) (k0 : (kG K a0).1 = 12) (I : MI) (J : MJ) (B : MR) (Q : Int32 → MI → MJ → Prop) (h : w_X10_letterTaken a0 I J Q) : Con K l yX10_letterTaken (wsT yX10_letterTaken cX10_letterTaken 2 (some .int)) rm_X10_letterTaken [.ref a0] (I, J, B) (va_Qi (S := (MI × MJ)) (fun r u => Q r u.1 u.2) (fun u t => HP K (u.1, u.2, B) t.heap) (AA K)) := by
  refine Con.ofJ RX10 rfl (by decide) (Nat.le_of_ble_eq_true rfl) (fun m H0 w G => ?_)
  unfold w_X10_letterTaken at h
  show Jg K m 2 H0 w 0 [(0, .ref a0)] [] (I, J, B)
  refine j_aload_n G 0 0 dX10_letterTaken_0 rfl rfl ?_
  refine j_ci (rn_V G hW (ci := 11) (n := 0) (As := []) (rest := []) (c_X10_isGood K hW l a0 k0 I J B _ h) k0 (by decide) rfl ml_X10_333 im_X10_isGood se_X10_isGood in_X10 co_X10_isGood rfl (by decide +kernel) rfl rfl (by decide) (by decide) rfl rfl (Nat.le_of_ble_eq_true rfl) dX10_letterTaken_1) (fun r1 _ h => ?_)
  refine j_if_eq G 41 dX10_letterTaken_4 (by decide) (fun c2 => ?_) (fun c2 => ?_)
  · have h := h.1 c2
    exact m_X10_letterTaken_p41 G hW a0 k0 I J h
  · have h := h.2 c2
    refine j_aload_n G 0 0 dX10_letterTaken_7 rfl rfl ?_
    refine j_get G hW 11 12 0 (.int (I a0 12)) k0 (by decide) rfl (by decide) rfl lay_X10 fl_X10_314 rfl rfl dX10_letterTaken_8 ?_
    refine j_iconst G (1 : Int32) dX10_letterTaken_11 (by decide) ?_
    refine j_icmp_ne G 37 dX10_letterTaken_12 (by decide) (fun c8 => ?_) (fun c8 => ?_)
    · have h := h.1 c8
      refine j_aload_n G 0 0 dX10_letterTaken_37 rfl rfl ?_
      refine j_cv (rn_V G hW (ci := 11) (n := 0) (As := []) (rest := []) (c_X10_fails K hW l a0 k0 I J B _ h) k0 (by decide) rfl ml_X10_344 im_X10_fails se_X10_fails in_X10 co_X10_fails rfl (by decide +kernel) rfl rfl (by decide) (by decide) rfl rfl (Nat.le_of_ble_eq_true rfl) dX10_letterTaken_38) (fun I9 h => ?_)
      exact m_X10_letterTaken_p41 G hW a0 k0 I9 J h
    · have h := h.2 c8
      refine j_aload_n G 0 0 dX10_letterTaken_15 rfl rfl ?_
      refine j_get G hW 11 17 1 (.long (J a0 17)) k0 (by decide) rfl (by decide) rfl lay_X10 fl_X10_310 rfl rfl dX10_letterTaken_16 ?_
      refine j_ldc2 G (97 : Int64) cl_X10_350 dX10_letterTaken_19 ?_
      refine j_lcmp G dX10_letterTaken_22 ?_
      refine j_if_lt G 37 dX10_letterTaken_23 (by decide) (fun c10 => ?_) (fun c10 => ?_)
      · have h := h.1 c10
        refine j_aload_n G 0 0 dX10_letterTaken_37 rfl rfl ?_
        refine j_cv (rn_V G hW (ci := 11) (n := 0) (As := []) (rest := []) (c_X10_fails K hW l a0 k0 I J B _ h) k0 (by decide) rfl ml_X10_344 im_X10_fails se_X10_fails in_X10 co_X10_fails rfl (by decide +kernel) rfl rfl (by decide) (by decide) rfl rfl (Nat.le_of_ble_eq_true rfl) dX10_letterTaken_38) (fun I11 h => ?_)
        exact m_X10_letterTaken_p41 G hW a0 k0 I11 J h
      · have h := h.2 c10
        refine j_aload_n G 0 0 dX10_letterTaken_26 rfl rfl ?_
        refine j_get G hW 11 17 1 (.long (J a0 17)) k0 (by decide) rfl (by decide) rfl lay_X10 fl_X10_310 rfl rfl dX10_letterTaken_27 ?_
        refine j_ldc2 G (104 : Int64) cl_X10_352 dX10_letterTaken_30 ?_
        refine j_lcmp G dX10_letterTaken_33 ?_
        refine j_if_le G 41 dX10_letterTaken_34 (by decide) (fun c12 => ?_) (fun c12 => ?_)
        · have h := h.1 c12
          exact m_X10_letterTaken_p41 G hW a0 k0 I J h
        · have h := h.2 c12
          refine j_aload_n G 0 0 dX10_letterTaken_37 rfl rfl ?_
          refine j_cv (rn_V G hW (ci := 11) (n := 0) (As := []) (rest := []) (c_X10_fails K hW l a0 k0 I J B _ h) k0 (by decide) rfl ml_X10_344 im_X10_fails se_X10_fails in_X10 co_X10_fails rfl (by decide +kernel) rfl rfl (by decide) (by decide) rfl rfl (Nat.le_of_ble_eq_true rfl) dX10_letterTaken_38) (fun I13 h => ?_)
          exact m_X10_letterTaken_p41 G hW a0 k0 I13 J h
abbrev rm_X10_queueWord : Room := { frames := 0, cells := 0, slots := 0, locals := 0 }
def w_X10_queueWord (x0 : Int32)  (Q : Int64 →  Prop) : Prop :=
((¬ x0 = 0 → ((¬ x0 = (1 : Int32) → ((¬ x0 = (2 : Int32) → ((¬ x0 = (3 : Int32) → ((¬ x0 = (4 : Int32) → Q (418548245860 : Int64)) ∧
(x0 = (4 : Int32) → Q (1953459300 : Int64)))) ∧
(x0 = (3 : Int32) → Q (109330278475123 : Int64)))) ∧
(x0 = (2 : Int32) → Q (1684108385 : Int64)))) ∧
(x0 = (1 : Int32) → Q (126943923168627 : Int64)))) ∧
(x0 = 0 → Q (465725121651 : Int64)))
set_option maxHeartbeats 4000000 in
set_option maxRecDepth 100000 in
theorem c_X10_queueWord (K : Kx) (hW : WFK K) (l : Launch) (x0 : Int32)  (I : MI) (J : MJ) (B : MR) (Q : Int64 →  Prop) (h : w_X10_queueWord x0 Q) : Con K l yX10_queueWord (wsT yX10_queueWord cX10_queueWord 1 (some .long)) rm_X10_queueWord [.int x0] (I, J, B) (va_Ql (S := Unit) (fun r _ => Q r) (fun u t => HP K (I, J, B) t.heap) (AA K)) := by
  refine Con.ofJ RX10 rfl (by decide) (Nat.le_of_ble_eq_true rfl) (fun m H0 w G => ?_)
  unfold w_X10_queueWord at h
  show Jg K m 1 H0 w 0 [(0, .int x0)] [] (I, J, B)
  refine j_iload_n G 0 0 dX10_queueWord_0 rfl rfl ?_
  refine j_if_ne G 10 dX10_queueWord_1 (by decide) (fun c1 => ?_) (fun c1 => ?_)
  · have h := h.1 c1
    refine j_iload_n G 0 0 dX10_queueWord_10 rfl rfl ?_
    refine j_iconst G (1 : Int32) dX10_queueWord_11 (by decide) ?_
    refine j_icmp_ne G 21 dX10_queueWord_12 (by decide) (fun c2 => ?_) (fun c2 => ?_)
    · have h := h.1 c2
      refine j_iload_n G 0 0 dX10_queueWord_21 rfl rfl ?_
      refine j_iconst G (2 : Int32) dX10_queueWord_22 (by decide) ?_
      refine j_icmp_ne G 32 dX10_queueWord_23 (by decide) (fun c3 => ?_) (fun c3 => ?_)
      · have h := h.1 c3
        refine j_iload_n G 0 0 dX10_queueWord_32 rfl rfl ?_
        refine j_iconst G (3 : Int32) dX10_queueWord_33 (by decide) ?_
        refine j_icmp_ne G 43 dX10_queueWord_34 (by decide) (fun c4 => ?_) (fun c4 => ?_)
        · have h := h.1 c4
          refine j_iload_n G 0 0 dX10_queueWord_43 rfl rfl ?_
          refine j_iconst G (4 : Int32) dX10_queueWord_44 (by decide) ?_
          refine j_icmp_ne G 54 dX10_queueWord_45 (by decide) (fun c5 => ?_) (fun c5 => ?_)
          · have h := h.1 c5
            refine j_ldc2 G (418548245860 : Int64) cl_X10_364 dX10_queueWord_54 ?_
            exact j_retl G () dX10_queueWord_57 h rfl
          · have h := h.2 c5
            refine j_ldc2 G (1953459300 : Int64) cl_X10_362 dX10_queueWord_48 ?_
            refine j_goto G 57 dX10_queueWord_51 (by decide) ?_
            exact j_retl G () dX10_queueWord_57 h rfl
        · have h := h.2 c4
          refine j_ldc2 G (109330278475123 : Int64) cl_X10_360 dX10_queueWord_37 ?_
          refine j_goto G 57 dX10_queueWord_40 (by decide) ?_
          exact j_retl G () dX10_queueWord_57 h rfl
      · have h := h.2 c3
        refine j_ldc2 G (1684108385 : Int64) cl_X10_358 dX10_queueWord_26 ?_
        refine j_goto G 57 dX10_queueWord_29 (by decide) ?_
        exact j_retl G () dX10_queueWord_57 h rfl
    · have h := h.2 c2
      refine j_ldc2 G (126943923168627 : Int64) cl_X10_356 dX10_queueWord_15 ?_
      refine j_goto G 57 dX10_queueWord_18 (by decide) ?_
      exact j_retl G () dX10_queueWord_57 h rfl
  · have h := h.2 c1
    refine j_ldc2 G (465725121651 : Int64) cl_X10_354 dX10_queueWord_4 ?_
    refine j_goto G 57 dX10_queueWord_7 (by decide) ?_
    exact j_retl G () dX10_queueWord_57 h rfl
abbrev rm_X10_queueTaken : Room := { frames := 3, cells := 0, slots := 0, locals := 65 }
def w_X10_queueTaken_l2 (a0 : Nat)   (Q : Int32 → MI → MJ → Prop) (rec : Int32 → MI → MJ → Prop) (x1 : Int32) (I : MI) (J : MJ) : Prop :=
(((6 : Int32) ≤ x1 → (w_X10_fails a0 I (fun I2 =>
Q (0 : Int32) I2 J))) ∧
(¬ (6 : Int32) ≤ x1 → (w_X10_queueWord x1 (fun r3 =>
(w_X10_hasWord a0 r3 I J (fun r4 I5 J6 =>
((r4 = 0 → rec (x1 + 1) I5 J6) ∧
(¬ r4 = 0 → Q x1 I5 J6))))))))
set_option maxHeartbeats 4000000 in
set_option maxRecDepth 100000 in
theorem m_X10_queueTaken_l2 {K : Kx} {l : Launch} {m : MethodId} {H0 : Heap} {Q : Int32 → MI → MJ → Prop} {w : HW} {B : MR} (G : Gd l rm_X10_queueTaken K m RX10 cX10_queueTaken 2 H0 (some .int) (va_Qi (S := (MI × MJ)) (fun r u => Q r u.1 u.2) (fun u t => HP K (u.1, u.2, B) t.heap) (AA K)) w) (hW : WFK K) (a0 : Nat) (x1 : Int32) (ka0 : (kG K a0).1 = 12) (I : MI) (J : MJ)   (h : Lp3 (w_X10_queueTaken_l2 a0 Q) x1 I J) : Jg K m 2 H0 w 2 [(0, .ref a0), (1, .int x1)] [] (I, J, B) := by
  obtain ⟨n, h⟩ := h
  refine lpN3_ind (P := (fun (x1 : Int32) (I : MI) (J : MJ) => Jg K m 2 H0 w 2 [(0, .ref a0), (1, .int x1)] [] (I, J, B))) (fun rec hrec x1 I J h => ?_) n x1 I J h
  unfold w_X10_queueTaken_l2 at h
  refine j_iload_n G 1 1 dX10_queueTaken_2 rfl rfl ?_
  refine j_bipush G (6 : Int32) dX10_queueTaken_3 (by decide) ?_
  refine j_icmp_ge G 27 dX10_queueTaken_5 (by decide) (fun c1 => ?_) (fun c1 => ?_)
  · have h := h.1 c1
    refine j_aload_n G 0 0 dX10_queueTaken_27 rfl rfl ?_
    refine j_cv (rn_V G hW (ci := 11) (n := 0) (As := []) (rest := []) (c_X10_fails K hW l a0 ka0 I J B _ h) ka0 (by decide) rfl ml_X10_344 im_X10_fails se_X10_fails in_X10 co_X10_fails rfl (by decide +kernel) rfl rfl (by decide) (by decide) rfl rfl (Nat.le_of_ble_eq_true rfl) dX10_queueTaken_28) (fun I2 h => ?_)
    refine j_iconst G (0 : Int32) dX10_queueTaken_31 (by decide) ?_
    exact j_reti G (I2, J) rfl dX10_queueTaken_32 h rfl
  · have h := h.2 c1
    refine j_aload_n G 0 0 dX10_queueTaken_8 rfl rfl ?_
    refine j_iload_n G 1 1 dX10_queueTaken_9 rfl rfl ?_
    refine j_cl (rn_S G (n := 1) (As := [.int x1]) (rest := [.ref a0]) (c_X10_queueWord K hW l x1 I J B _ h) ml_X10_366 st_X10_queueWord in_X10 co_X10_queueWord (by decide +kernel) rfl rfl (by decide) (by decide) rfl rfl (Nat.le_of_ble_eq_true rfl) dX10_queueTaken_10) (fun r3 _ h => ?_)
    refine j_ci (rn_V G hW (ci := 11) (n := 1) (As := [.long r3]) (rest := []) (c_X10_hasWord K hW l a0 r3 ka0 I J B _ h) ka0 (by decide) rfl ml_X10_369 im_X10_hasWord se_X10_hasWord in_X10 co_X10_hasWord rfl (by decide +kernel) rfl rfl (by decide) (by decide) rfl rfl (Nat.le_of_ble_eq_true rfl) dX10_queueTaken_13) (fun r4 ⟨I5, J6⟩ h => ?_)
    refine j_if_eq G 21 dX10_queueTaken_16 (by decide) (fun c7 => ?_) (fun c7 => ?_)
    · have h := h.1 c7
      refine j_iinc G 1 (x1 + 1) [(1, .int (x1 + 1)), (0, .ref a0)] dX10_queueTaken_21 rfl rfl (by decide) rfl ?_
      refine j_goto G 2 dX10_queueTaken_24 (by decide) ?_
      exact Jg.sub [1, 0] rfl (hrec (x1 + 1) I5 J6 h)
    · have h := h.2 c7
      refine j_iload_n G 1 1 dX10_queueTaken_19 rfl rfl ?_
      exact j_reti G (I5, J6) rfl dX10_queueTaken_20 h rfl
def w_X10_queueTaken (a0 : Nat) (I : MI) (J : MJ) (Q : Int32 → MI → MJ → Prop) : Prop :=
Lp3 (w_X10_queueTaken_l2 a0 Q) (0 : Int32) I J
set_option maxHeartbeats 4000000 in
set_option maxRecDepth 100000 in
theorem c_X10_queueTaken (K : Kx) (hW : WFK K) (l : Launch) (a0 : Nat) (k0 : (kG K a0).1 = 12) (I : MI) (J : MJ) (B : MR) (Q : Int32 → MI → MJ → Prop) (h : w_X10_queueTaken a0 I J Q) : Con K l yX10_queueTaken (wsT yX10_queueTaken cX10_queueTaken 2 (some .int)) rm_X10_queueTaken [.ref a0] (I, J, B) (va_Qi (S := (MI × MJ)) (fun r u => Q r u.1 u.2) (fun u t => HP K (u.1, u.2, B) t.heap) (AA K)) := by
  refine Con.ofJ RX10 rfl (by decide) (Nat.le_of_ble_eq_true rfl) (fun m H0 w G => ?_)
  unfold w_X10_queueTaken at h
  show Jg K m 2 H0 w 0 [(0, .ref a0)] [] (I, J, B)
  refine j_iconst G (0 : Int32) dX10_queueTaken_0 (by decide) ?_
  refine j_istore_n G 1 [(1, .int (0 : Int32)), (0, .ref a0)] dX10_queueTaken_1 rfl (by decide) rfl ?_
  refine Jg.sub [1, 0] rfl (m_X10_queueTaken_l2 G hW a0 (0 : Int32) k0 I J h)
abbrev rm_X10_isKept : Room := { frames := 0, cells := 0, slots := 0, locals := 0 }
def w_X10_isKept_p166 (x2 : Int32)    (Q : Int32 →  Prop) : Prop :=
((¬ x2 = 0 → Q (1 : Int32)) ∧
(x2 = 0 → (((1 : Int32) = 0 → Q (0 : Int32)) ∧
(¬ (1 : Int32) = 0 → Q (1 : Int32)))))
set_option maxHeartbeats 4000000 in
set_option maxRecDepth 100000 in
theorem m_X10_isKept_p166 {K : Kx} {l : Launch} {m : MethodId} {H0 : Heap} {Q : Int32 →  Prop} {w : HW} {I : MI} {J : MJ} {B : MR} (G : Gd l rm_X10_isKept K m RX10 cX10_isKept 4 H0 (some .boolean) (va_Qi (S := Unit) (fun r _ => Q r) (fun u t => HP K (I, J, B) t.heap) (AA K)) w) (hW : WFK K) (x2 : Int32)       (h : w_X10_isKept_p166 x2 Q) : Jg K m 4 H0 w 166 [(2, .int x2)] [] (I, J, B) := by
  unfold w_X10_isKept_p166 at h
  refine j_iconst G (1 : Int32) dX10_isKept_166 (by decide) ?_
  refine j_goto G 171 dX10_isKept_167 (by decide) ?_
  refine j_istore_n G 3 [(3, .int (1 : Int32)), (2, .int x2)] dX10_isKept_171 rfl (by decide) rfl ?_
  refine j_iload_n G 1 2 dX10_isKept_172 rfl rfl ?_
  refine j_if_ne G 180 dX10_isKept_173 (by decide) (fun c3 => ?_) (fun c3 => ?_)
  · have h := h.1 c3
    refine j_iconst G (1 : Int32) dX10_isKept_180 (by decide) ?_
    refine j_goto G 185 dX10_isKept_181 (by decide) ?_
    exact j_reti G () (by decide) dX10_isKept_185 h rfl
  · have h := h.2 c3
    refine j_iload_n G 0 3 dX10_isKept_176 rfl rfl ?_
    refine j_if_eq G 184 dX10_isKept_177 (by decide) (fun c4 => ?_) (fun c4 => ?_)
    · have h := h.1 c4
      refine j_iconst G (0 : Int32) dX10_isKept_184 (by decide) ?_
      exact j_reti G () (by decide) dX10_isKept_185 h rfl
    · have h := h.2 c4
      refine j_iconst G (1 : Int32) dX10_isKept_180 (by decide) ?_
      refine j_goto G 185 dX10_isKept_181 (by decide) ?_
      exact j_reti G () (by decide) dX10_isKept_185 h rfl
def w_X10_isKept_p85 (y0 : Int64) (s0 : Int32)   (Q : Int32 →  Prop) : Prop :=
(((lg_cmp y0 (495874699877 : Int64)) = 0 → w_X10_isKept_p166 s0 Q) ∧
(¬ (lg_cmp y0 (495874699877 : Int64)) = 0 → (((lg_cmp y0 (1786080624 : Int64)) = 0 → w_X10_isKept_p166 s0 Q) ∧
(¬ (lg_cmp y0 (1786080624 : Int64)) = 0 → (((lg_cmp y0 (26982 : Int64)) = 0 → w_X10_isKept_p166 s0 Q) ∧
(¬ (lg_cmp y0 (26982 : Int64)) = 0 → (((lg_cmp y0 (6647396 : Int64)) = 0 → w_X10_isKept_p166 s0 Q) ∧
(¬ (lg_cmp y0 (6647396 : Int64)) = 0 → (((lg_cmp y0 (465725121651 : Int64)) = 0 → w_X10_isKept_p166 s0 Q) ∧
(¬ (lg_cmp y0 (465725121651 : Int64)) = 0 → (((lg_cmp y0 (126943923168627 : Int64)) = 0 → w_X10_isKept_p166 s0 Q) ∧
(¬ (lg_cmp y0 (126943923168627 : Int64)) = 0 → (((lg_cmp y0 (1684108385 : Int64)) = 0 → w_X10_isKept_p166 s0 Q) ∧
(¬ (lg_cmp y0 (1684108385 : Int64)) = 0 → (((lg_cmp y0 (109330278475123 : Int64)) = 0 → w_X10_isKept_p166 s0 Q) ∧
(¬ (lg_cmp y0 (109330278475123 : Int64)) = 0 → (((lg_cmp y0 (1953459300 : Int64)) = 0 → w_X10_isKept_p166 s0 Q) ∧
(¬ (lg_cmp y0 (1953459300 : Int64)) = 0 → ((¬ (lg_cmp y0 (418548245860 : Int64)) = 0 → ((¬ s0 = 0 → Q (1 : Int32)) ∧
(s0 = 0 → (((0 : Int32) = 0 → Q (0 : Int32)) ∧
(¬ (0 : Int32) = 0 → Q (1 : Int32)))))) ∧
((lg_cmp y0 (418548245860 : Int64)) = 0 → w_X10_isKept_p166 s0 Q))))))))))))))))))))
set_option maxHeartbeats 4000000 in
set_option maxRecDepth 100000 in
theorem m_X10_isKept_p85 {K : Kx} {l : Launch} {m : MethodId} {H0 : Heap} {Q : Int32 →  Prop} {w : HW} {I : MI} {J : MJ} {B : MR} (G : Gd l rm_X10_isKept K m RX10 cX10_isKept 4 H0 (some .boolean) (va_Qi (S := Unit) (fun r _ => Q r) (fun u t => HP K (I, J, B) t.heap) (AA K)) w) (hW : WFK K) (y0 : Int64) (s0 : Int32)      (h : w_X10_isKept_p85 y0 s0 Q) : Jg K m 4 H0 w 85 [(0, .long y0)] [.int s0] (I, J, B) := by
  unfold w_X10_isKept_p85 at h
  refine j_istore_n G 2 [(2, .int s0), (0, .long y0)] dX10_isKept_85 rfl (by decide) rfl ?_
  refine j_lload_n G 1 0 dX10_isKept_86 rfl rfl ?_
  refine j_ldc2 G (495874699877 : Int64) cl_X10_384 dX10_isKept_87 ?_
  refine j_lcmp G dX10_isKept_90 ?_
  refine j_if_eq G 166 dX10_isKept_91 (by decide) (fun c2 => ?_) (fun c2 => ?_)
  · have h := h.1 c2
    exact Jg.sub [0] rfl (m_X10_isKept_p166 G hW s0 h)
  · have h := h.2 c2
    refine j_lload_n G 1 0 dX10_isKept_94 rfl rfl ?_
    refine j_ldc2 G (1786080624 : Int64) cl_X10_268 dX10_isKept_95 ?_
    refine j_lcmp G dX10_isKept_98 ?_
    refine j_if_eq G 166 dX10_isKept_99 (by decide) (fun c5 => ?_) (fun c5 => ?_)
    · have h := h.1 c5
      exact Jg.sub [0] rfl (m_X10_isKept_p166 G hW s0 h)
    · have h := h.2 c5
      refine j_lload_n G 1 0 dX10_isKept_102 rfl rfl ?_
      refine j_ldc2 G (26982 : Int64) cl_X10_386 dX10_isKept_103 ?_
      refine j_lcmp G dX10_isKept_106 ?_
      refine j_if_eq G 166 dX10_isKept_107 (by decide) (fun c6 => ?_) (fun c6 => ?_)
      · have h := h.1 c6
        exact Jg.sub [0] rfl (m_X10_isKept_p166 G hW s0 h)
      · have h := h.2 c6
        refine j_lload_n G 1 0 dX10_isKept_110 rfl rfl ?_
        refine j_ldc2 G (6647396 : Int64) cl_X10_278 dX10_isKept_111 ?_
        refine j_lcmp G dX10_isKept_114 ?_
        refine j_if_eq G 166 dX10_isKept_115 (by decide) (fun c7 => ?_) (fun c7 => ?_)
        · have h := h.1 c7
          exact Jg.sub [0] rfl (m_X10_isKept_p166 G hW s0 h)
        · have h := h.2 c7
          refine j_lload_n G 1 0 dX10_isKept_118 rfl rfl ?_
          refine j_ldc2 G (465725121651 : Int64) cl_X10_354 dX10_isKept_119 ?_
          refine j_lcmp G dX10_isKept_122 ?_
          refine j_if_eq G 166 dX10_isKept_123 (by decide) (fun c8 => ?_) (fun c8 => ?_)
          · have h := h.1 c8
            exact Jg.sub [0] rfl (m_X10_isKept_p166 G hW s0 h)
          · have h := h.2 c8
            refine j_lload_n G 1 0 dX10_isKept_126 rfl rfl ?_
            refine j_ldc2 G (126943923168627 : Int64) cl_X10_356 dX10_isKept_127 ?_
            refine j_lcmp G dX10_isKept_130 ?_
            refine j_if_eq G 166 dX10_isKept_131 (by decide) (fun c9 => ?_) (fun c9 => ?_)
            · have h := h.1 c9
              exact Jg.sub [0] rfl (m_X10_isKept_p166 G hW s0 h)
            · have h := h.2 c9
              refine j_lload_n G 1 0 dX10_isKept_134 rfl rfl ?_
              refine j_ldc2 G (1684108385 : Int64) cl_X10_358 dX10_isKept_135 ?_
              refine j_lcmp G dX10_isKept_138 ?_
              refine j_if_eq G 166 dX10_isKept_139 (by decide) (fun c10 => ?_) (fun c10 => ?_)
              · have h := h.1 c10
                exact Jg.sub [0] rfl (m_X10_isKept_p166 G hW s0 h)
              · have h := h.2 c10
                refine j_lload_n G 1 0 dX10_isKept_142 rfl rfl ?_
                refine j_ldc2 G (109330278475123 : Int64) cl_X10_360 dX10_isKept_143 ?_
                refine j_lcmp G dX10_isKept_146 ?_
                refine j_if_eq G 166 dX10_isKept_147 (by decide) (fun c11 => ?_) (fun c11 => ?_)
                · have h := h.1 c11
                  exact Jg.sub [0] rfl (m_X10_isKept_p166 G hW s0 h)
                · have h := h.2 c11
                  refine j_lload_n G 1 0 dX10_isKept_150 rfl rfl ?_
                  refine j_ldc2 G (1953459300 : Int64) cl_X10_362 dX10_isKept_151 ?_
                  refine j_lcmp G dX10_isKept_154 ?_
                  refine j_if_eq G 166 dX10_isKept_155 (by decide) (fun c12 => ?_) (fun c12 => ?_)
                  · have h := h.1 c12
                    exact Jg.sub [0] rfl (m_X10_isKept_p166 G hW s0 h)
                  · have h := h.2 c12
                    refine j_lload_n G 1 0 dX10_isKept_158 rfl rfl ?_
                    refine j_ldc2 G (418548245860 : Int64) cl_X10_364 dX10_isKept_159 ?_
                    refine j_lcmp G dX10_isKept_162 ?_
                    refine j_if_ne G 170 dX10_isKept_163 (by decide) (fun c13 => ?_) (fun c13 => ?_)
                    · have h := h.1 c13
                      refine j_iconst G (0 : Int32) dX10_isKept_170 (by decide) ?_
                      refine j_istore_n G 3 [(3, .int (0 : Int32)), (2, .int s0), (0, .long y0)] dX10_isKept_171 rfl (by decide) rfl ?_
                      refine j_iload_n G 1 2 dX10_isKept_172 rfl rfl ?_
                      refine j_if_ne G 180 dX10_isKept_173 (by decide) (fun c14 => ?_) (fun c14 => ?_)
                      · have h := h.1 c14
                        refine j_iconst G (1 : Int32) dX10_isKept_180 (by decide) ?_
                        refine j_goto G 185 dX10_isKept_181 (by decide) ?_
                        exact j_reti G () (by decide) dX10_isKept_185 h rfl
                      · have h := h.2 c14
                        refine j_iload_n G 0 3 dX10_isKept_176 rfl rfl ?_
                        refine j_if_eq G 184 dX10_isKept_177 (by decide) (fun c15 => ?_) (fun c15 => ?_)
                        · have h := h.1 c15
                          refine j_iconst G (0 : Int32) dX10_isKept_184 (by decide) ?_
                          exact j_reti G () (by decide) dX10_isKept_185 h rfl
                        · have h := h.2 c15
                          refine j_iconst G (1 : Int32) dX10_isKept_180 (by decide) ?_
                          refine j_goto G 185 dX10_isKept_181 (by decide) ?_
                          exact j_reti G () (by decide) dX10_isKept_185 h rfl
                    · have h := h.2 c13
                      exact Jg.sub [0] rfl (m_X10_isKept_p166 G hW s0 h)
def w_X10_isKept_p80 (y0 : Int64)    (Q : Int32 →  Prop) : Prop :=
w_X10_isKept_p85 y0 (1 : Int32) Q
set_option maxHeartbeats 4000000 in
set_option maxRecDepth 100000 in
theorem m_X10_isKept_p80 {K : Kx} {l : Launch} {m : MethodId} {H0 : Heap} {Q : Int32 →  Prop} {w : HW} {I : MI} {J : MJ} {B : MR} (G : Gd l rm_X10_isKept K m RX10 cX10_isKept 4 H0 (some .boolean) (va_Qi (S := Unit) (fun r _ => Q r) (fun u t => HP K (I, J, B) t.heap) (AA K)) w) (hW : WFK K) (y0 : Int64)       (h : w_X10_isKept_p80 y0 Q) : Jg K m 4 H0 w 80 [(0, .long y0)] [] (I, J, B) := by
  unfold w_X10_isKept_p80 at h
  refine j_iconst G (1 : Int32) dX10_isKept_80 (by decide) ?_
  refine j_goto G 85 dX10_isKept_81 (by decide) ?_
  exact m_X10_isKept_p85 G hW y0 (1 : Int32) h
def w_X10_isKept (y0 : Int64)  (Q : Int32 →  Prop) : Prop :=
(((lg_cmp y0 (1818326117 : Int64)) = 0 → w_X10_isKept_p80 y0 Q) ∧
(¬ (lg_cmp y0 (1818326117 : Int64)) = 0 → (((lg_cmp y0 (1919905645 : Int64)) = 0 → w_X10_isKept_p80 y0 Q) ∧
(¬ (lg_cmp y0 (1919905645 : Int64)) = 0 → (((lg_cmp y0 (1667591276 : Int64)) = 0 → w_X10_isKept_p80 y0 Q) ∧
(¬ (lg_cmp y0 (1667591276 : Int64)) = 0 → (((lg_cmp y0 (7497063 : Int64)) = 0 → w_X10_isKept_p80 y0 Q) ∧
(¬ (lg_cmp y0 (7497063 : Int64)) = 0 → (((lg_cmp y0 (1801807216 : Int64)) = 0 → w_X10_isKept_p80 y0 Q) ∧
(¬ (lg_cmp y0 (1801807216 : Int64)) = 0 → (((lg_cmp y0 (7562612 : Int64)) = 0 → w_X10_isKept_p80 y0 Q) ∧
(¬ (lg_cmp y0 (7562612 : Int64)) = 0 → (((lg_cmp y0 (6382692 : Int64)) = 0 → w_X10_isKept_p80 y0 Q) ∧
(¬ (lg_cmp y0 (6382692 : Int64)) = 0 → (((lg_cmp y0 (7566690 : Int64)) = 0 → w_X10_isKept_p80 y0 Q) ∧
(¬ (lg_cmp y0 (7566690 : Int64)) = 0 → (((lg_cmp y0 (7173484 : Int64)) = 0 → w_X10_isKept_p80 y0 Q) ∧
(¬ (lg_cmp y0 (7173484 : Int64)) = 0 → ((¬ (lg_cmp y0 (1819238756 : Int64)) = 0 → w_X10_isKept_p85 y0 (0 : Int32) Q) ∧
((lg_cmp y0 (1819238756 : Int64)) = 0 → w_X10_isKept_p80 y0 Q))))))))))))))))))))
set_option maxHeartbeats 4000000 in
set_option maxRecDepth 100000 in
theorem c_X10_isKept (K : Kx) (hW : WFK K) (l : Launch) (y0 : Int64)  (I : MI) (J : MJ) (B : MR) (Q : Int32 →  Prop) (h : w_X10_isKept y0 Q) : Con K l yX10_isKept (wsT yX10_isKept cX10_isKept 4 (some .boolean)) rm_X10_isKept [.long y0] (I, J, B) (va_Qi (S := Unit) (fun r _ => Q r) (fun u t => HP K (I, J, B) t.heap) (AA K)) := by
  refine Con.ofJ RX10 rfl (by decide) (Nat.le_of_ble_eq_true rfl) (fun m H0 w G => ?_)
  unfold w_X10_isKept at h
  show Jg K m 4 H0 w 0 [(0, .long y0)] [] (I, J, B)
  refine j_lload_n G 0 0 dX10_isKept_0 rfl rfl ?_
  refine j_ldc2 G (1818326117 : Int64) cl_X10_372 dX10_isKept_1 ?_
  refine j_lcmp G dX10_isKept_4 ?_
  refine j_if_eq G 80 dX10_isKept_5 (by decide) (fun c1 => ?_) (fun c1 => ?_)
  · have h := h.1 c1
    exact m_X10_isKept_p80 G hW y0 h
  · have h := h.2 c1
    refine j_lload_n G 0 0 dX10_isKept_8 rfl rfl ?_
    refine j_ldc2 G (1919905645 : Int64) cl_X10_374 dX10_isKept_9 ?_
    refine j_lcmp G dX10_isKept_12 ?_
    refine j_if_eq G 80 dX10_isKept_13 (by decide) (fun c16 => ?_) (fun c16 => ?_)
    · have h := h.1 c16
      exact m_X10_isKept_p80 G hW y0 h
    · have h := h.2 c16
      refine j_lload_n G 0 0 dX10_isKept_16 rfl rfl ?_
      refine j_ldc2 G (1667591276 : Int64) cl_X10_376 dX10_isKept_17 ?_
      refine j_lcmp G dX10_isKept_20 ?_
      refine j_if_eq G 80 dX10_isKept_21 (by decide) (fun c17 => ?_) (fun c17 => ?_)
      · have h := h.1 c17
        exact m_X10_isKept_p80 G hW y0 h
      · have h := h.2 c17
        refine j_lload_n G 0 0 dX10_isKept_24 rfl rfl ?_
        refine j_ldc2 G (7497063 : Int64) cl_X10_378 dX10_isKept_25 ?_
        refine j_lcmp G dX10_isKept_28 ?_
        refine j_if_eq G 80 dX10_isKept_29 (by decide) (fun c18 => ?_) (fun c18 => ?_)
        · have h := h.1 c18
          exact m_X10_isKept_p80 G hW y0 h
        · have h := h.2 c18
          refine j_lload_n G 0 0 dX10_isKept_32 rfl rfl ?_
          refine j_ldc2 G (1801807216 : Int64) cl_X10_380 dX10_isKept_33 ?_
          refine j_lcmp G dX10_isKept_36 ?_
          refine j_if_eq G 80 dX10_isKept_37 (by decide) (fun c19 => ?_) (fun c19 => ?_)
          · have h := h.1 c19
            exact m_X10_isKept_p80 G hW y0 h
          · have h := h.2 c19
            refine j_lload_n G 0 0 dX10_isKept_40 rfl rfl ?_
            refine j_ldc2 G (7562612 : Int64) cl_X10_287 dX10_isKept_41 ?_
            refine j_lcmp G dX10_isKept_44 ?_
            refine j_if_eq G 80 dX10_isKept_45 (by decide) (fun c20 => ?_) (fun c20 => ?_)
            · have h := h.1 c20
              exact m_X10_isKept_p80 G hW y0 h
            · have h := h.2 c20
              refine j_lload_n G 0 0 dX10_isKept_48 rfl rfl ?_
              refine j_ldc2 G (6382692 : Int64) cl_X10_289 dX10_isKept_49 ?_
              refine j_lcmp G dX10_isKept_52 ?_
              refine j_if_eq G 80 dX10_isKept_53 (by decide) (fun c21 => ?_) (fun c21 => ?_)
              · have h := h.1 c21
                exact m_X10_isKept_p80 G hW y0 h
              · have h := h.2 c21
                refine j_lload_n G 0 0 dX10_isKept_56 rfl rfl ?_
                refine j_ldc2 G (7566690 : Int64) cl_X10_291 dX10_isKept_57 ?_
                refine j_lcmp G dX10_isKept_60 ?_
                refine j_if_eq G 80 dX10_isKept_61 (by decide) (fun c22 => ?_) (fun c22 => ?_)
                · have h := h.1 c22
                  exact m_X10_isKept_p80 G hW y0 h
                · have h := h.2 c22
                  refine j_lload_n G 0 0 dX10_isKept_64 rfl rfl ?_
                  refine j_ldc2 G (7173484 : Int64) cl_X10_293 dX10_isKept_65 ?_
                  refine j_lcmp G dX10_isKept_68 ?_
                  refine j_if_eq G 80 dX10_isKept_69 (by decide) (fun c23 => ?_) (fun c23 => ?_)
                  · have h := h.1 c23
                    exact m_X10_isKept_p80 G hW y0 h
                  · have h := h.2 c23
                    refine j_lload_n G 0 0 dX10_isKept_72 rfl rfl ?_
                    refine j_ldc2 G (1819238756 : Int64) cl_X10_382 dX10_isKept_73 ?_
                    refine j_lcmp G dX10_isKept_76 ?_
                    refine j_if_ne G 84 dX10_isKept_77 (by decide) (fun c24 => ?_) (fun c24 => ?_)
                    · have h := h.1 c24
                      refine j_iconst G (0 : Int32) dX10_isKept_84 (by decide) ?_
                      exact m_X10_isKept_p85 G hW y0 (0 : Int32) h
                    · have h := h.2 c24
                      exact m_X10_isKept_p80 G hW y0 h
abbrev rm_X10_isName : Room := { frames := 1, cells := 0, slots := 0, locals := 23 }
def w_X10_isName (a0 : Nat) (I : MI) (J : MJ) (Q : Int32 →  Prop) : Prop :=
(w_X10_isGood a0 I (fun r1 =>
((r1 = 0 → Q (0 : Int32)) ∧
(¬ r1 = 0 → ((¬ (I a0 12) = (1 : Int32) → Q (0 : Int32)) ∧
((I a0 12) = (1 : Int32) → (((lg_cmp (J a0 17) (255 : Int64)) ≤ 0 → Q (0 : Int32)) ∧
(¬ (lg_cmp (J a0 17) (255 : Int64)) ≤ 0 → (w_X10_isKept (J a0 17) (fun r5 =>
((¬ r5 = 0 → Q (0 : Int32)) ∧
(r5 = 0 → Q (1 : Int32)))))))))))))
set_option maxHeartbeats 4000000 in
set_option maxRecDepth 100000 in
theorem c_X10_isName (K : Kx) (hW : WFK K) (l : Launch) (a0 : Nat) (k0 : (kG K a0).1 = 12) (I : MI) (J : MJ) (B : MR) (Q : Int32 →  Prop) (h : w_X10_isName a0 I J Q) : Con K l yX10_isName (wsT yX10_isName cX10_isName 1 (some .boolean)) rm_X10_isName [.ref a0] (I, J, B) (va_Qi (S := Unit) (fun r _ => Q r) (fun u t => HP K (I, J, B) t.heap) (AA K)) := by
  refine Con.ofJ RX10 rfl (by decide) (Nat.le_of_ble_eq_true rfl) (fun m H0 w G => ?_)
  unfold w_X10_isName at h
  show Jg K m 1 H0 w 0 [(0, .ref a0)] [] (I, J, B)
  refine j_aload_n G 0 0 dX10_isName_0 rfl rfl ?_
  refine j_ci (rn_V G hW (ci := 11) (n := 0) (As := []) (rest := []) (c_X10_isGood K hW l a0 k0 I J B _ h) k0 (by decide) rfl ml_X10_333 im_X10_isGood se_X10_isGood in_X10 co_X10_isGood rfl (by decide +kernel) rfl rfl (by decide) (by decide) rfl rfl (Nat.le_of_ble_eq_true rfl) dX10_isName_1) (fun r1 _ h => ?_)
  refine j_if_eq G 40 dX10_isName_4 (by decide) (fun c2 => ?_) (fun c2 => ?_)
  · have h := h.1 c2
    refine j_iconst G (0 : Int32) dX10_isName_40 (by decide) ?_
    exact j_reti G () (by decide) dX10_isName_41 h rfl
  · have h := h.2 c2
    refine j_aload_n G 0 0 dX10_isName_7 rfl rfl ?_
    refine j_get G hW 11 12 0 (.int (I a0 12)) k0 (by decide) rfl (by decide) rfl lay_X10 fl_X10_314 rfl rfl dX10_isName_8 ?_
    refine j_iconst G (1 : Int32) dX10_isName_11 (by decide) ?_
    refine j_icmp_ne G 40 dX10_isName_12 (by decide) (fun c3 => ?_) (fun c3 => ?_)
    · have h := h.1 c3
      refine j_iconst G (0 : Int32) dX10_isName_40 (by decide) ?_
      exact j_reti G () (by decide) dX10_isName_41 h rfl
    · have h := h.2 c3
      refine j_aload_n G 0 0 dX10_isName_15 rfl rfl ?_
      refine j_get G hW 11 17 1 (.long (J a0 17)) k0 (by decide) rfl (by decide) rfl lay_X10 fl_X10_310 rfl rfl dX10_isName_16 ?_
      refine j_ldc2 G (255 : Int64) cl_X10_239 dX10_isName_19 ?_
      refine j_lcmp G dX10_isName_22 ?_
      refine j_if_le G 40 dX10_isName_23 (by decide) (fun c4 => ?_) (fun c4 => ?_)
      · have h := h.1 c4
        refine j_iconst G (0 : Int32) dX10_isName_40 (by decide) ?_
        exact j_reti G () (by decide) dX10_isName_41 h rfl
      · have h := h.2 c4
        refine j_aload_n G 0 0 dX10_isName_26 rfl rfl ?_
        refine j_get G hW 11 17 1 (.long (J a0 17)) k0 (by decide) rfl (by decide) rfl lay_X10 fl_X10_310 rfl rfl dX10_isName_27 ?_
        refine j_ci (rn_S G (n := 1) (As := [.long (J a0 17)]) (rest := []) (c_X10_isKept K hW l (J a0 17) I J B _ h) ml_X10_388 st_X10_isKept in_X10 co_X10_isKept (by decide +kernel) rfl rfl (by decide) (by decide) rfl rfl (Nat.le_of_ble_eq_true rfl) dX10_isName_30) (fun r5 _ h => ?_)
        refine j_if_ne G 40 dX10_isName_33 (by decide) (fun c6 => ?_) (fun c6 => ?_)
        · have h := h.1 c6
          refine j_iconst G (0 : Int32) dX10_isName_40 (by decide) ?_
          exact j_reti G () (by decide) dX10_isName_41 h rfl
        · have h := h.2 c6
          refine j_iconst G (1 : Int32) dX10_isName_36 (by decide) ?_
          refine j_goto G 41 dX10_isName_37 (by decide) ?_
          exact j_reti G () (by decide) dX10_isName_41 h rfl
abbrev rm_X10_nameBy : Room := { frames := 0, cells := 0, slots := 0, locals := 0 }
def w_X10_nameBy_l2 (a0 : Nat) (y1 : Int64) (I : MI) (J : MJ)  (Q : Int32 →  Prop) (rec : Int32 → Prop) (x3 : Int32) : Prop :=
(((I a0 23) ≤ x3 → Q (-1 : Int32)) ∧
(¬ (I a0 23) ≤ x3 → (vp_in x3 90 ∧
((¬ (lg_cmp (J (a0 + 5) (ix x3)) y1) = 0 → rec (x3 + 1)) ∧
((lg_cmp (J (a0 + 5) (ix x3)) y1) = 0 → Q x3)))))
set_option maxHeartbeats 4000000 in
set_option maxRecDepth 100000 in
theorem m_X10_nameBy_l2 {K : Kx} {l : Launch} {m : MethodId} {H0 : Heap} {Q : Int32 →  Prop} {w : HW} {I : MI} {J : MJ} {B : MR} (G : Gd l rm_X10_nameBy K m RX10 cX10_nameBy 4 H0 (some .int) (va_Qi (S := Unit) (fun r _ => Q r) (fun u t => HP K (I, J, B) t.heap) (AA K)) w) (hW : WFK K) (a0 : Nat) (y1 : Int64) (x3 : Int32) (ka0 : (kG K a0).1 = 12)    (h : Lp1 (w_X10_nameBy_l2 a0 y1 I J Q) x3) : Jg K m 4 H0 w 2 [(0, .ref a0), (1, .long y1), (3, .int x3)] [] (I, J, B) := by
  obtain ⟨n, h⟩ := h
  refine lpN1_ind (P := (fun (x3 : Int32) => Jg K m 4 H0 w 2 [(0, .ref a0), (1, .long y1), (3, .int x3)] [] (I, J, B))) (fun rec hrec x3 h => ?_) n x3 h
  unfold w_X10_nameBy_l2 at h
  refine j_iload_n G 2 3 dX10_nameBy_2 rfl rfl ?_
  refine j_aload_n G 0 0 dX10_nameBy_3 rfl rfl ?_
  refine j_get G hW 11 23 0 (.int (I a0 23)) ka0 (by decide) rfl (by decide) rfl lay_X10 fl_X10_391 rfl rfl dX10_nameBy_4 ?_
  refine j_icmp_ge G 29 dX10_nameBy_7 (by decide) (fun c1 => ?_) (fun c1 => ?_)
  · have h := h.1 c1
    refine j_iconst G (-1 : Int32) dX10_nameBy_29 (by decide) ?_
    exact j_reti G () rfl dX10_nameBy_30 h rfl
  · have h := h.2 c1
    refine j_aload_n G 0 0 dX10_nameBy_10 rfl rfl ?_
    have kk2 : kG K (a0 + 5) = (22, 90) := wk_12_5 hW ka0
    refine j_get G hW 11 18 8 (.ref (a0 + 5)) ka0 (by decide) rfl (by decide) rfl lay_X10 fl_X10_27 rfl rfl dX10_nameBy_11 ?_
    refine j_iload_n G 2 3 dX10_nameBy_14 rfl rfl ?_
    obtain ⟨b3, h⟩ := h
    refine j_lald G hW kk2 b3 dX10_nameBy_15 ?_
    refine j_lload_n G 1 1 dX10_nameBy_16 rfl rfl ?_
    refine j_lcmp G dX10_nameBy_17 ?_
    refine j_if_ne G 23 dX10_nameBy_18 (by decide) (fun c4 => ?_) (fun c4 => ?_)
    · have h := h.1 c4
      refine j_iinc G 2 (x3 + 1) [(3, .int (x3 + 1)), (0, .ref a0), (1, .long y1)] dX10_nameBy_23 rfl rfl (by decide) rfl ?_
      refine j_goto G 2 dX10_nameBy_26 (by decide) ?_
      exact Jg.sub [1, 2, 0] rfl (hrec (x3 + 1) h)
    · have h := h.2 c4
      refine j_iload_n G 2 3 dX10_nameBy_21 rfl rfl ?_
      exact j_reti G () rfl dX10_nameBy_22 h rfl
def w_X10_nameBy (a0 : Nat) (y1 : Int64) (I : MI) (J : MJ) (Q : Int32 →  Prop) : Prop :=
Lp1 (w_X10_nameBy_l2 a0 y1 I J Q) (0 : Int32)
set_option maxHeartbeats 4000000 in
set_option maxRecDepth 100000 in
theorem c_X10_nameBy (K : Kx) (hW : WFK K) (l : Launch) (a0 : Nat) (y1 : Int64) (k0 : (kG K a0).1 = 12) (I : MI) (J : MJ) (B : MR) (Q : Int32 →  Prop) (h : w_X10_nameBy a0 y1 I J Q) : Con K l yX10_nameBy (wsT yX10_nameBy cX10_nameBy 4 (some .int)) rm_X10_nameBy [.ref a0, .long y1] (I, J, B) (va_Qi (S := Unit) (fun r _ => Q r) (fun u t => HP K (I, J, B) t.heap) (AA K)) := by
  refine Con.ofJ RX10 rfl (by decide) (Nat.le_of_ble_eq_true rfl) (fun m H0 w G => ?_)
  unfold w_X10_nameBy at h
  show Jg K m 4 H0 w 0 [(0, .ref a0), (1, .long y1)] [] (I, J, B)
  refine j_iconst G (0 : Int32) dX10_nameBy_0 (by decide) ?_
  refine j_istore_n G 3 [(3, .int (0 : Int32)), (0, .ref a0), (1, .long y1)] dX10_nameBy_1 rfl (by decide) rfl ?_
  refine Jg.sub [1, 2, 0] rfl (m_X10_nameBy_l2 G hW a0 y1 (0 : Int32) k0 h)
abbrev rm_X10_reads : Room := { frames := 3, cells := 0, slots := 0, locals := 63 }
def w_X10_reads (a0 : Nat) (I : MI) (J : MJ) (Q : MI → MJ → Prop) : Prop :=
(w_X10_nameBy a0 (J a0 17) I J (fun r1 =>
((r1 < 0 → (((90 : Int32) ≤ (I a0 23) → (w_X10_takesToken a0 I J (fun I4 J5 =>
(w_X10_sign a0 (58 : Int32) I4 J5 (fun I6 J7 =>
Q I6 J7))))) ∧
(¬ (90 : Int32) ≤ (I a0 23) → (vp_in (I a0 23) 90 ∧
(∀ J10, J10 = uj J (a0 + 5) (ix (I a0 23)) (J a0 17) →
(vp_in (I a0 23) 90 ∧
(∀ I14, I14 = ui I (a0 + 7) (ix (I a0 23)) (I (a0 + 1) (ix (1080 : Int32))) →
(∀ I15, I15 = ui I14 a0 23 ((I14 a0 23) + (1 : Int32)) →
(w_X10_takesToken a0 I15 J10 (fun I16 J17 =>
(w_X10_sign a0 (58 : Int32) I16 J17 (fun I18 J19 =>
Q I18 J19)))))))))))) ∧
(¬ r1 < 0 → (w_X10_alsoWrong a0 (3 : Int32) (I a0 13) I (fun I20 =>
(w_X10_takesToken a0 I20 J (fun I21 J22 =>
(w_X10_sign a0 (58 : Int32) I21 J22 (fun I23 J24 =>
Q I23 J24))))))))))
set_option maxHeartbeats 4000000 in
set_option maxRecDepth 100000 in
theorem c_X10_reads (K : Kx) (hW : WFK K) (l : Launch) (a0 : Nat) (k0 : (kG K a0).1 = 12) (I : MI) (J : MJ) (B : MR) (Q : MI → MJ → Prop) (h : w_X10_reads a0 I J Q) : Con K l yX10_reads (wsT yX10_reads cX10_reads 1 none) rm_X10_reads [.ref a0] (I, J, B) (va_Qv (S := (MI × MJ)) (fun u => Q u.1 u.2) (fun u t => HP K (u.1, u.2, B) t.heap) (AA K)) := by
  refine Con.ofJ RX10 rfl (by decide) (Nat.le_of_ble_eq_true rfl) (fun m H0 w G => ?_)
  unfold w_X10_reads at h
  show Jg K m 1 H0 w 0 [(0, .ref a0)] [] (I, J, B)
  refine j_aload_n G 0 0 dX10_reads_0 rfl rfl ?_
  refine j_aload_n G 0 0 dX10_reads_1 rfl rfl ?_
  refine j_get G hW 11 17 1 (.long (J a0 17)) k0 (by decide) rfl (by decide) rfl lay_X10 fl_X10_310 rfl rfl dX10_reads_2 ?_
  refine j_ci (rn_V G hW (ci := 11) (n := 1) (As := [.long (J a0 17)]) (rest := []) (c_X10_nameBy K hW l a0 (J a0 17) k0 I J B _ h) k0 (by decide) rfl ml_X10_394 im_X10_nameBy se_X10_nameBy in_X10 co_X10_nameBy rfl (by decide +kernel) rfl rfl (by decide) (by decide) rfl rfl (Nat.le_of_ble_eq_true rfl) dX10_reads_5) (fun r1 _ h => ?_)
  refine j_if_lt G 23 dX10_reads_8 (by decide) (fun c2 => ?_) (fun c2 => ?_)
  · have h := h.1 c2
    refine j_aload_n G 0 0 dX10_reads_23 rfl rfl ?_
    refine j_get G hW 11 23 0 (.int (I a0 23)) k0 (by decide) rfl (by decide) rfl lay_X10 fl_X10_391 rfl rfl dX10_reads_24 ?_
    refine j_bipush G (90 : Int32) dX10_reads_27 (by decide) ?_
    refine j_icmp_ge G 72 dX10_reads_29 (by decide) (fun c3 => ?_) (fun c3 => ?_)
    · have h := h.1 c3
      refine j_aload_n G 0 0 dX10_reads_72 rfl rfl ?_
      refine j_cv (rn_V G hW (ci := 11) (n := 0) (As := []) (rest := []) (c_X10_takesToken K hW l a0 k0 I J B _ h) k0 (by decide) rfl ml_X10_341 im_X10_takesToken se_X10_takesToken in_X10 co_X10_takesToken rfl (by decide +kernel) rfl rfl (by decide) (by decide) rfl rfl (Nat.le_of_ble_eq_true rfl) dX10_reads_73) (fun ⟨I4, J5⟩ h => ?_)
      refine j_aload_n G 0 0 dX10_reads_76 rfl rfl ?_
      refine j_bipush G (58 : Int32) dX10_reads_77 (by decide) ?_
      refine j_cv (rn_V G hW (ci := 11) (n := 1) (As := [.int (58 : Int32)]) (rest := []) (c_X10_sign K hW l a0 (58 : Int32) k0 I4 J5 B _ h) k0 (by decide) rfl ml_X10_398 im_X10_sign se_X10_sign in_X10 co_X10_sign rfl (by decide +kernel) rfl rfl (by decide) (by decide) rfl rfl (Nat.le_of_ble_eq_true rfl) dX10_reads_79) (fun ⟨I6, J7⟩ h => ?_)
      exact j_retv G (I6, J7) dX10_reads_82 h rfl
    · have h := h.2 c3
      refine j_aload_n G 0 0 dX10_reads_32 rfl rfl ?_
      have kk8 : kG K (a0 + 5) = (22, 90) := wk_12_5 hW k0
      refine j_get G hW 11 18 8 (.ref (a0 + 5)) k0 (by decide) rfl (by decide) rfl lay_X10 fl_X10_27 rfl rfl dX10_reads_33 ?_
      refine j_aload_n G 0 0 dX10_reads_36 rfl rfl ?_
      refine j_get G hW 11 23 0 (.int (I a0 23)) k0 (by decide) rfl (by decide) rfl lay_X10 fl_X10_391 rfl rfl dX10_reads_37 ?_
      refine j_aload_n G 0 0 dX10_reads_40 rfl rfl ?_
      refine j_get G hW 11 17 1 (.long (J a0 17)) k0 (by decide) rfl (by decide) rfl lay_X10 fl_X10_310 rfl rfl dX10_reads_41 ?_
      obtain ⟨b9, h⟩ := h
      refine j_last G hW kk8 b9 dX10_reads_44 ?_
      refine j_mJ (fun J10 eJ10 => ?_)
      have h := h J10 eJ10
      refine j_aload_n G 0 0 dX10_reads_45 rfl rfl ?_
      have kk11 : kG K (a0 + 7) = (20, 90) := wk_12_7 hW k0
      refine j_get G hW 11 20 10 (.ref (a0 + 7)) k0 (by decide) rfl (by decide) rfl lay_X10 fl_X10_34 rfl rfl dX10_reads_46 ?_
      refine j_aload_n G 0 0 dX10_reads_49 rfl rfl ?_
      refine j_get G hW 11 23 0 (.int (I a0 23)) k0 (by decide) rfl (by decide) rfl lay_X10 fl_X10_391 rfl rfl dX10_reads_50 ?_
      refine j_aload_n G 0 0 dX10_reads_53 rfl rfl ?_
      have kk12 : kG K (a0 + 1) = (20, 4905) := wk_12_1 hW k0
      refine j_get G hW 11 0 4 (.ref (a0 + 1)) k0 (by decide) rfl (by decide) rfl lay_X10 fl_X10_7 rfl rfl dX10_reads_54 ?_
      refine j_sipush G (1080 : Int32) dX10_reads_57 (by decide) ?_
      refine j_iald G hW kk12 (vpc rfl) dX10_reads_60 ?_
      obtain ⟨b13, h⟩ := h
      refine j_iast G hW kk11 b13 dX10_reads_61 ?_
      refine j_mI (fun I14 eI14 => ?_)
      have h := h I14 eI14
      refine j_aload_n G 0 0 dX10_reads_62 rfl rfl ?_
      refine j_dup G rfl dX10_reads_63 ?_
      refine j_get G hW 11 23 0 (.int (I14 a0 23)) k0 (by decide) rfl (by decide) rfl lay_X10 fl_X10_391 rfl rfl dX10_reads_64 ?_
      refine j_iconst G (1 : Int32) dX10_reads_67 (by decide) ?_
      refine j_iadd G dX10_reads_68 ?_
      refine j_put G hW 11 23 tyX10 (tyX10 23) tyX10_ok nmX10 k0 (by decide) rfl (by decide) rfl lay_X10 fl_X10_391 rfl rfl (tyX10_ok 23 (by decide)) rfl rfl dX10_reads_69 ?_
      refine j_mI (fun I15 eI15 => ?_)
      have h := h I15 eI15
      refine j_aload_n G 0 0 dX10_reads_72 rfl rfl ?_
      refine j_cv (rn_V G hW (ci := 11) (n := 0) (As := []) (rest := []) (c_X10_takesToken K hW l a0 k0 I15 J10 B _ h) k0 (by decide) rfl ml_X10_341 im_X10_takesToken se_X10_takesToken in_X10 co_X10_takesToken rfl (by decide +kernel) rfl rfl (by decide) (by decide) rfl rfl (Nat.le_of_ble_eq_true rfl) dX10_reads_73) (fun ⟨I16, J17⟩ h => ?_)
      refine j_aload_n G 0 0 dX10_reads_76 rfl rfl ?_
      refine j_bipush G (58 : Int32) dX10_reads_77 (by decide) ?_
      refine j_cv (rn_V G hW (ci := 11) (n := 1) (As := [.int (58 : Int32)]) (rest := []) (c_X10_sign K hW l a0 (58 : Int32) k0 I16 J17 B _ h) k0 (by decide) rfl ml_X10_398 im_X10_sign se_X10_sign in_X10 co_X10_sign rfl (by decide +kernel) rfl rfl (by decide) (by decide) rfl rfl (Nat.le_of_ble_eq_true rfl) dX10_reads_79) (fun ⟨I18, J19⟩ h => ?_)
      exact j_retv G (I18, J19) dX10_reads_82 h rfl
  · have h := h.2 c2
    refine j_aload_n G 0 0 dX10_reads_11 rfl rfl ?_
    refine j_iconst G (3 : Int32) dX10_reads_12 (by decide) ?_
    refine j_aload_n G 0 0 dX10_reads_13 rfl rfl ?_
    refine j_get G hW 11 13 0 (.int (I a0 13)) k0 (by decide) rfl (by decide) rfl lay_X10 fl_X10_307 rfl rfl dX10_reads_14 ?_
    refine j_cv (rn_V G hW (ci := 11) (n := 2) (As := [.int (3 : Int32), .int (I a0 13)]) (rest := []) (c_X10_alsoWrong K hW l a0 (3 : Int32) (I a0 13) k0 I J B _ h) k0 (by decide) rfl ml_X10_347 im_X10_alsoWrong se_X10_alsoWrong in_X10 co_X10_alsoWrong rfl (by decide +kernel) rfl rfl (by decide) (by decide) rfl rfl (Nat.le_of_ble_eq_true rfl) dX10_reads_17) (fun I20 h => ?_)
    refine j_goto G 72 dX10_reads_20 (by decide) ?_
    refine j_aload_n G 0 0 dX10_reads_72 rfl rfl ?_
    refine j_cv (rn_V G hW (ci := 11) (n := 0) (As := []) (rest := []) (c_X10_takesToken K hW l a0 k0 I20 J B _ h) k0 (by decide) rfl ml_X10_341 im_X10_takesToken se_X10_takesToken in_X10 co_X10_takesToken rfl (by decide +kernel) rfl rfl (by decide) (by decide) rfl rfl (Nat.le_of_ble_eq_true rfl) dX10_reads_73) (fun ⟨I21, J22⟩ h => ?_)
    refine j_aload_n G 0 0 dX10_reads_76 rfl rfl ?_
    refine j_bipush G (58 : Int32) dX10_reads_77 (by decide) ?_
    refine j_cv (rn_V G hW (ci := 11) (n := 1) (As := [.int (58 : Int32)]) (rest := []) (c_X10_sign K hW l a0 (58 : Int32) k0 I21 J22 B _ h) k0 (by decide) rfl ml_X10_398 im_X10_sign se_X10_sign in_X10 co_X10_sign rfl (by decide +kernel) rfl rfl (by decide) (by decide) rfl rfl (Nat.le_of_ble_eq_true rfl) dX10_reads_79) (fun ⟨I23, J24⟩ h => ?_)
    exact j_retv G (I23, J24) dX10_reads_82 h rfl
abbrev rm_X10_wants : Room := { frames := 2, cells := 0, slots := 0, locals := 43 }
def w_X10_wants (a0 : Nat) (x1 : Int32) (I : MI) (J : MJ) (Q : MI → MJ → Prop) : Prop :=
(w_X10_isName a0 I J (fun r1 =>
((¬ r1 = 0 → (vp_in (I a0 24) 25 ∧
(∀ J5, J5 = uj J (a0 + 6) (ix (I a0 24)) (J a0 17) →
(vp_in (I a0 24) 25 ∧
(∀ I8, I8 = ui I (a0 + 8) (ix (I a0 24)) x1 →
(vp_in (I8 a0 24) 25 ∧
(∀ I11, I11 = ui I8 (a0 + 9) (ix (I8 a0 24)) (I8 a0 13) →
(((24 : Int32) ≤ (I11 a0 24) → (∀ I13, I13 = ui I11 a0 24 ((I11 a0 24) + (0 : Int32)) →
(w_X10_takesToken a0 I13 J5 (fun I14 J15 =>
Q I14 J15)))) ∧
(¬ (24 : Int32) ≤ (I11 a0 24) → (∀ I16, I16 = ui I11 a0 24 ((I11 a0 24) + (1 : Int32)) →
(w_X10_takesToken a0 I16 J5 (fun I17 J18 =>
Q I17 J18)))))))))))) ∧
(r1 = 0 → (w_X10_fails a0 I (fun I19 =>
Q I19 J))))))
set_option maxHeartbeats 4000000 in
set_option maxRecDepth 100000 in
theorem c_X10_wants (K : Kx) (hW : WFK K) (l : Launch) (a0 : Nat) (x1 : Int32) (k0 : (kG K a0).1 = 12) (I : MI) (J : MJ) (B : MR) (Q : MI → MJ → Prop) (h : w_X10_wants a0 x1 I J Q) : Con K l yX10_wants (wsT yX10_wants cX10_wants 2 none) rm_X10_wants [.ref a0, .int x1] (I, J, B) (va_Qv (S := (MI × MJ)) (fun u => Q u.1 u.2) (fun u t => HP K (u.1, u.2, B) t.heap) (AA K)) := by
  refine Con.ofJ RX10 rfl (by decide) (Nat.le_of_ble_eq_true rfl) (fun m H0 w G => ?_)
  unfold w_X10_wants at h
  show Jg K m 2 H0 w 0 [(0, .ref a0), (1, .int x1)] [] (I, J, B)
  refine j_aload_n G 0 0 dX10_wants_0 rfl rfl ?_
  refine j_ci (rn_V G hW (ci := 11) (n := 0) (As := []) (rest := []) (c_X10_isName K hW l a0 k0 I J B _ h) k0 (by decide) rfl ml_X10_401 im_X10_isName se_X10_isName in_X10 co_X10_isName rfl (by decide +kernel) rfl rfl (by decide) (by decide) rfl rfl (Nat.le_of_ble_eq_true rfl) dX10_wants_1) (fun r1 _ h => ?_)
  refine j_if_ne G 12 dX10_wants_4 (by decide) (fun c2 => ?_) (fun c2 => ?_)
  · have h := h.1 c2
    refine j_aload_n G 0 0 dX10_wants_12 rfl rfl ?_
    have kk3 : kG K (a0 + 6) = (22, 25) := wk_12_6 hW k0
    refine j_get G hW 11 19 9 (.ref (a0 + 6)) k0 (by decide) rfl (by decide) rfl lay_X10 fl_X10_31 rfl rfl dX10_wants_13 ?_
    refine j_aload_n G 0 0 dX10_wants_16 rfl rfl ?_
    refine j_get G hW 11 24 0 (.int (I a0 24)) k0 (by decide) rfl (by decide) rfl lay_X10 fl_X10_404 rfl rfl dX10_wants_17 ?_
    refine j_aload_n G 0 0 dX10_wants_20 rfl rfl ?_
    refine j_get G hW 11 17 1 (.long (J a0 17)) k0 (by decide) rfl (by decide) rfl lay_X10 fl_X10_310 rfl rfl dX10_wants_21 ?_
    obtain ⟨b4, h⟩ := h
    refine j_last G hW kk3 b4 dX10_wants_24 ?_
    refine j_mJ (fun J5 eJ5 => ?_)
    have h := h J5 eJ5
    refine j_aload_n G 0 0 dX10_wants_25 rfl rfl ?_
    have kk6 : kG K (a0 + 8) = (20, 25) := wk_12_8 hW k0
    refine j_get G hW 11 21 11 (.ref (a0 + 8)) k0 (by decide) rfl (by decide) rfl lay_X10 fl_X10_37 rfl rfl dX10_wants_26 ?_
    refine j_aload_n G 0 0 dX10_wants_29 rfl rfl ?_
    refine j_get G hW 11 24 0 (.int (I a0 24)) k0 (by decide) rfl (by decide) rfl lay_X10 fl_X10_404 rfl rfl dX10_wants_30 ?_
    refine j_iload_n G 1 1 dX10_wants_33 rfl rfl ?_
    obtain ⟨b7, h⟩ := h
    refine j_iast G hW kk6 b7 dX10_wants_34 ?_
    refine j_mI (fun I8 eI8 => ?_)
    have h := h I8 eI8
    refine j_aload_n G 0 0 dX10_wants_35 rfl rfl ?_
    have kk9 : kG K (a0 + 9) = (20, 25) := wk_12_9 hW k0
    refine j_get G hW 11 22 12 (.ref (a0 + 9)) k0 (by decide) rfl (by decide) rfl lay_X10 fl_X10_40 rfl rfl dX10_wants_36 ?_
    refine j_aload_n G 0 0 dX10_wants_39 rfl rfl ?_
    refine j_get G hW 11 24 0 (.int (I8 a0 24)) k0 (by decide) rfl (by decide) rfl lay_X10 fl_X10_404 rfl rfl dX10_wants_40 ?_
    refine j_aload_n G 0 0 dX10_wants_43 rfl rfl ?_
    refine j_get G hW 11 13 0 (.int (I8 a0 13)) k0 (by decide) rfl (by decide) rfl lay_X10 fl_X10_307 rfl rfl dX10_wants_44 ?_
    obtain ⟨b10, h⟩ := h
    refine j_iast G hW kk9 b10 dX10_wants_47 ?_
    refine j_mI (fun I11 eI11 => ?_)
    have h := h I11 eI11
    refine j_aload_n G 0 0 dX10_wants_48 rfl rfl ?_
    refine j_dup G rfl dX10_wants_49 ?_
    refine j_get G hW 11 24 0 (.int (I11 a0 24)) k0 (by decide) rfl (by decide) rfl lay_X10 fl_X10_404 rfl rfl dX10_wants_50 ?_
    refine j_aload_n G 0 0 dX10_wants_53 rfl rfl ?_
    refine j_get G hW 11 24 0 (.int (I11 a0 24)) k0 (by decide) rfl (by decide) rfl lay_X10 fl_X10_404 rfl rfl dX10_wants_54 ?_
    refine j_bipush G (24 : Int32) dX10_wants_57 (by decide) ?_
    refine j_icmp_ge G 66 dX10_wants_59 (by decide) (fun c12 => ?_) (fun c12 => ?_)
    · have h := h.1 c12
      refine j_iconst G (0 : Int32) dX10_wants_66 (by decide) ?_
      refine j_iadd G dX10_wants_67 ?_
      refine j_put G hW 11 24 tyX10 (tyX10 24) tyX10_ok nmX10 k0 (by decide) rfl (by decide) rfl lay_X10 fl_X10_404 rfl rfl (tyX10_ok 24 (by decide)) rfl rfl dX10_wants_68 ?_
      refine j_mI (fun I13 eI13 => ?_)
      have h := h I13 eI13
      refine j_aload_n G 0 0 dX10_wants_71 rfl rfl ?_
      refine j_cv (rn_V G hW (ci := 11) (n := 0) (As := []) (rest := []) (c_X10_takesToken K hW l a0 k0 I13 J5 B _ h) k0 (by decide) rfl ml_X10_341 im_X10_takesToken se_X10_takesToken in_X10 co_X10_takesToken rfl (by decide +kernel) rfl rfl (by decide) (by decide) rfl rfl (Nat.le_of_ble_eq_true rfl) dX10_wants_72) (fun ⟨I14, J15⟩ h => ?_)
      exact j_retv G (I14, J15) dX10_wants_75 h rfl
    · have h := h.2 c12
      refine j_iconst G (1 : Int32) dX10_wants_62 (by decide) ?_
      refine j_goto G 67 dX10_wants_63 (by decide) ?_
      refine j_iadd G dX10_wants_67 ?_
      refine j_put G hW 11 24 tyX10 (tyX10 24) tyX10_ok nmX10 k0 (by decide) rfl (by decide) rfl lay_X10 fl_X10_404 rfl rfl (tyX10_ok 24 (by decide)) rfl rfl dX10_wants_68 ?_
      refine j_mI (fun I16 eI16 => ?_)
      have h := h I16 eI16
      refine j_aload_n G 0 0 dX10_wants_71 rfl rfl ?_
      refine j_cv (rn_V G hW (ci := 11) (n := 0) (As := []) (rest := []) (c_X10_takesToken K hW l a0 k0 I16 J5 B _ h) k0 (by decide) rfl ml_X10_341 im_X10_takesToken se_X10_takesToken in_X10 co_X10_takesToken rfl (by decide +kernel) rfl rfl (by decide) (by decide) rfl rfl (Nat.le_of_ble_eq_true rfl) dX10_wants_72) (fun ⟨I17, J18⟩ h => ?_)
      exact j_retv G (I17, J18) dX10_wants_75 h rfl
  · have h := h.2 c2
    refine j_aload_n G 0 0 dX10_wants_7 rfl rfl ?_
    refine j_cv (rn_V G hW (ci := 11) (n := 0) (As := []) (rest := []) (c_X10_fails K hW l a0 k0 I J B _ h) k0 (by decide) rfl ml_X10_344 im_X10_fails se_X10_fails in_X10 co_X10_fails rfl (by decide +kernel) rfl rfl (by decide) (by decide) rfl rfl (Nat.le_of_ble_eq_true rfl) dX10_wants_8) (fun I19 h => ?_)
    exact j_retv G (I19, J) dX10_wants_11 h rfl
abbrev rm_X10_opHere : Room := { frames := 2, cells := 0, slots := 0, locals := 42 }
def w_X10_opHere_p100 (a0 : Nat) (x1 : Int32) (t0 : Int64) (I : MI) (J : MJ) (rec : Int32 → Prop) (Q : Int32 →  Prop) : Prop :=
(w_X10_isWord a0 t0 I J (fun r10 =>
((r10 = 0 → rec (x1 + 1)) ∧
(¬ r10 = 0 → Q x1))))
set_option maxHeartbeats 4000000 in
set_option maxRecDepth 100000 in
theorem m_X10_opHere_p100 {K : Kx} {l : Launch} {m : MethodId} {H0 : Heap} {Q : Int32 →  Prop} {w : HW} {I : MI} {J : MJ} {B : MR} (G : Gd l rm_X10_opHere K m RX10 cX10_opHere 4 H0 (some .int) (va_Qi (S := Unit) (fun r _ => Q r) (fun u t => HP K (I, J, B) t.heap) (AA K)) w) (hW : WFK K) (a0 : Nat) (x1 : Int32) (t0 : Int64) (ka0 : (kG K a0).1 = 12)   (rec : Int32 → Prop) (hrec : ∀ (x1 : Int32), rec x1 → Jg K m 4 H0 w 2 [(0, .ref a0), (1, .int x1)] [] (I, J, B)) (h : w_X10_opHere_p100 a0 x1 t0 I J rec Q) : Jg K m 4 H0 w 100 [(0, .ref a0), (1, .int x1)] [.long t0] (I, J, B) := by
  unfold w_X10_opHere_p100 at h
  refine j_lstore_n G 2 [(2, .long t0), (0, .ref a0), (1, .int x1)] dX10_opHere_100 rfl (by decide) rfl ?_
  refine j_aload_n G 1 0 dX10_opHere_101 rfl rfl ?_
  refine j_lload_n G 0 2 dX10_opHere_102 rfl rfl ?_
  refine j_ci (rn_V G hW (ci := 11) (n := 1) (As := [.long t0]) (rest := []) (c_X10_isWord K hW l a0 t0 ka0 I J B _ h) ka0 (by decide) rfl ml_X10_337 im_X10_isWord se_X10_isWord in_X10 co_X10_isWord rfl (by decide +kernel) rfl rfl (by decide) (by decide) rfl rfl (Nat.le_of_ble_eq_true rfl) dX10_opHere_103) (fun r10 _ h => ?_)
  refine j_if_eq G 111 dX10_opHere_106 (by decide) (fun c11 => ?_) (fun c11 => ?_)
  · have h := h.1 c11
    refine j_iinc G 2 (x1 + 1) [(1, .int (x1 + 1)), (2, .long t0), (0, .ref a0)] dX10_opHere_111 rfl rfl (by decide) rfl ?_
    refine j_goto G 2 dX10_opHere_114 (by decide) ?_
    exact Jg.sub [2, 0] rfl (hrec (x1 + 1) h)
  · have h := h.2 c11
    refine j_iload_n G 2 1 dX10_opHere_109 rfl rfl ?_
    exact j_reti G () rfl dX10_opHere_110 h rfl
def w_X10_opHere_l2 (a0 : Nat) (I : MI) (J : MJ)  (Q : Int32 →  Prop) (rec : Int32 → Prop) (x1 : Int32) : Prop :=
(((8 : Int32) < x1 → Q (-1 : Int32)) ∧
(¬ (8 : Int32) < x1 → ((¬ x1 = 0 → ((¬ x1 = (1 : Int32) → ((¬ x1 = (2 : Int32) → ((¬ x1 = (3 : Int32) → ((¬ x1 = (4 : Int32) → ((¬ x1 = (5 : Int32) → ((¬ x1 = (6 : Int32) → ((¬ x1 = (7 : Int32) → w_X10_opHere_p100 a0 x1 (6647396 : Int64) I J rec Q) ∧
(x1 = (7 : Int32) → w_X10_opHere_p100 a0 x1 (26982 : Int64) I J rec Q))) ∧
(x1 = (6 : Int32) → w_X10_opHere_p100 a0 x1 (1786080624 : Int64) I J rec Q))) ∧
(x1 = (5 : Int32) → w_X10_opHere_p100 a0 x1 (495874699877 : Int64) I J rec Q))) ∧
(x1 = (4 : Int32) → w_X10_opHere_p100 a0 x1 (1819238756 : Int64) I J rec Q))) ∧
(x1 = (3 : Int32) → w_X10_opHere_p100 a0 x1 (7173484 : Int64) I J rec Q))) ∧
(x1 = (2 : Int32) → w_X10_opHere_p100 a0 x1 (7566690 : Int64) I J rec Q))) ∧
(x1 = (1 : Int32) → w_X10_opHere_p100 a0 x1 (6382692 : Int64) I J rec Q))) ∧
(x1 = 0 → w_X10_opHere_p100 a0 x1 (7562612 : Int64) I J rec Q))))
set_option maxHeartbeats 4000000 in
set_option maxRecDepth 100000 in
theorem m_X10_opHere_l2 {K : Kx} {l : Launch} {m : MethodId} {H0 : Heap} {Q : Int32 →  Prop} {w : HW} {I : MI} {J : MJ} {B : MR} (G : Gd l rm_X10_opHere K m RX10 cX10_opHere 4 H0 (some .int) (va_Qi (S := Unit) (fun r _ => Q r) (fun u t => HP K (I, J, B) t.heap) (AA K)) w) (hW : WFK K) (a0 : Nat) (x1 : Int32) (ka0 : (kG K a0).1 = 12)    (h : Lp1 (w_X10_opHere_l2 a0 I J Q) x1) : Jg K m 4 H0 w 2 [(0, .ref a0), (1, .int x1)] [] (I, J, B) := by
  obtain ⟨n, h⟩ := h
  refine lpN1_ind (P := (fun (x1 : Int32) => Jg K m 4 H0 w 2 [(0, .ref a0), (1, .int x1)] [] (I, J, B))) (fun rec hrec x1 h => ?_) n x1 h
  unfold w_X10_opHere_l2 at h
  refine j_iload_n G 1 1 dX10_opHere_2 rfl rfl ?_
  refine j_bipush G (8 : Int32) dX10_opHere_3 (by decide) ?_
  refine j_icmp_gt G 117 dX10_opHere_5 (by decide) (fun c1 => ?_) (fun c1 => ?_)
  · have h := h.1 c1
    refine j_iconst G (-1 : Int32) dX10_opHere_117 (by decide) ?_
    exact j_reti G () rfl dX10_opHere_118 h rfl
  · have h := h.2 c1
    refine j_iload_n G 1 1 dX10_opHere_8 rfl rfl ?_
    refine j_if_ne G 18 dX10_opHere_9 (by decide) (fun c2 => ?_) (fun c2 => ?_)
    · have h := h.1 c2
      refine j_iload_n G 1 1 dX10_opHere_18 rfl rfl ?_
      refine j_iconst G (1 : Int32) dX10_opHere_19 (by decide) ?_
      refine j_icmp_ne G 29 dX10_opHere_20 (by decide) (fun c3 => ?_) (fun c3 => ?_)
      · have h := h.1 c3
        refine j_iload_n G 1 1 dX10_opHere_29 rfl rfl ?_
        refine j_iconst G (2 : Int32) dX10_opHere_30 (by decide) ?_
        refine j_icmp_ne G 40 dX10_opHere_31 (by decide) (fun c4 => ?_) (fun c4 => ?_)
        · have h := h.1 c4
          refine j_iload_n G 1 1 dX10_opHere_40 rfl rfl ?_
          refine j_iconst G (3 : Int32) dX10_opHere_41 (by decide) ?_
          refine j_icmp_ne G 51 dX10_opHere_42 (by decide) (fun c5 => ?_) (fun c5 => ?_)
          · have h := h.1 c5
            refine j_iload_n G 1 1 dX10_opHere_51 rfl rfl ?_
            refine j_iconst G (4 : Int32) dX10_opHere_52 (by decide) ?_
            refine j_icmp_ne G 62 dX10_opHere_53 (by decide) (fun c6 => ?_) (fun c6 => ?_)
            · have h := h.1 c6
              refine j_iload_n G 1 1 dX10_opHere_62 rfl rfl ?_
              refine j_iconst G (5 : Int32) dX10_opHere_63 (by decide) ?_
              refine j_icmp_ne G 73 dX10_opHere_64 (by decide) (fun c7 => ?_) (fun c7 => ?_)
              · have h := h.1 c7
                refine j_iload_n G 1 1 dX10_opHere_73 rfl rfl ?_
                refine j_bipush G (6 : Int32) dX10_opHere_74 (by decide) ?_
                refine j_icmp_ne G 85 dX10_opHere_76 (by decide) (fun c8 => ?_) (fun c8 => ?_)
                · have h := h.1 c8
                  refine j_iload_n G 1 1 dX10_opHere_85 rfl rfl ?_
                  refine j_bipush G (7 : Int32) dX10_opHere_86 (by decide) ?_
                  refine j_icmp_ne G 97 dX10_opHere_88 (by decide) (fun c9 => ?_) (fun c9 => ?_)
                  · have h := h.1 c9
                    refine j_ldc2 G (6647396 : Int64) cl_X10_278 dX10_opHere_97 ?_
                    exact m_X10_opHere_p100 G hW a0 x1 (6647396 : Int64) ka0 rec hrec h
                  · have h := h.2 c9
                    refine j_ldc2 G (26982 : Int64) cl_X10_386 dX10_opHere_91 ?_
                    refine j_goto G 100 dX10_opHere_94 (by decide) ?_
                    exact m_X10_opHere_p100 G hW a0 x1 (26982 : Int64) ka0 rec hrec h
                · have h := h.2 c8
                  refine j_ldc2 G (1786080624 : Int64) cl_X10_268 dX10_opHere_79 ?_
                  refine j_goto G 100 dX10_opHere_82 (by decide) ?_
                  exact m_X10_opHere_p100 G hW a0 x1 (1786080624 : Int64) ka0 rec hrec h
              · have h := h.2 c7
                refine j_ldc2 G (495874699877 : Int64) cl_X10_384 dX10_opHere_67 ?_
                refine j_goto G 100 dX10_opHere_70 (by decide) ?_
                exact m_X10_opHere_p100 G hW a0 x1 (495874699877 : Int64) ka0 rec hrec h
            · have h := h.2 c6
              refine j_ldc2 G (1819238756 : Int64) cl_X10_382 dX10_opHere_56 ?_
              refine j_goto G 100 dX10_opHere_59 (by decide) ?_
              exact m_X10_opHere_p100 G hW a0 x1 (1819238756 : Int64) ka0 rec hrec h
          · have h := h.2 c5
            refine j_ldc2 G (7173484 : Int64) cl_X10_293 dX10_opHere_45 ?_
            refine j_goto G 100 dX10_opHere_48 (by decide) ?_
            exact m_X10_opHere_p100 G hW a0 x1 (7173484 : Int64) ka0 rec hrec h
        · have h := h.2 c4
          refine j_ldc2 G (7566690 : Int64) cl_X10_291 dX10_opHere_34 ?_
          refine j_goto G 100 dX10_opHere_37 (by decide) ?_
          exact m_X10_opHere_p100 G hW a0 x1 (7566690 : Int64) ka0 rec hrec h
      · have h := h.2 c3
        refine j_ldc2 G (6382692 : Int64) cl_X10_289 dX10_opHere_23 ?_
        refine j_goto G 100 dX10_opHere_26 (by decide) ?_
        exact m_X10_opHere_p100 G hW a0 x1 (6382692 : Int64) ka0 rec hrec h
    · have h := h.2 c2
      refine j_ldc2 G (7562612 : Int64) cl_X10_287 dX10_opHere_12 ?_
      refine j_goto G 100 dX10_opHere_15 (by decide) ?_
      exact m_X10_opHere_p100 G hW a0 x1 (7562612 : Int64) ka0 rec hrec h
def w_X10_opHere (a0 : Nat) (I : MI) (J : MJ) (Q : Int32 →  Prop) : Prop :=
Lp1 (w_X10_opHere_l2 a0 I J Q) (0 : Int32)
set_option maxHeartbeats 4000000 in
set_option maxRecDepth 100000 in
theorem c_X10_opHere (K : Kx) (hW : WFK K) (l : Launch) (a0 : Nat) (k0 : (kG K a0).1 = 12) (I : MI) (J : MJ) (B : MR) (Q : Int32 →  Prop) (h : w_X10_opHere a0 I J Q) : Con K l yX10_opHere (wsT yX10_opHere cX10_opHere 4 (some .int)) rm_X10_opHere [.ref a0] (I, J, B) (va_Qi (S := Unit) (fun r _ => Q r) (fun u t => HP K (I, J, B) t.heap) (AA K)) := by
  refine Con.ofJ RX10 rfl (by decide) (Nat.le_of_ble_eq_true rfl) (fun m H0 w G => ?_)
  unfold w_X10_opHere at h
  show Jg K m 4 H0 w 0 [(0, .ref a0)] [] (I, J, B)
  refine j_iconst G (0 : Int32) dX10_opHere_0 (by decide) ?_
  refine j_istore_n G 1 [(1, .int (0 : Int32)), (0, .ref a0)] dX10_opHere_1 rfl (by decide) rfl ?_
  refine Jg.sub [1, 0] rfl (m_X10_opHere_l2 G hW a0 (0 : Int32) k0 h)
abbrev rm_X10_readsInstruction : Room := { frames := 3, cells := 0, slots := 0, locals := 66 }
def w_X10_readsInstruction_l53 (a0 : Nat) (x1 : Int32) (x2 : Int32) (x3 : Int32) (J : MJ) (ke75 : Int32 → MI → Prop) (Q : MI → MJ → Prop) (rec : Int32 → MI → Prop) (x4 : Int32) (I : MI) : Prop :=
(((5 : Int32) ≤ x4 → ke75 x4 I) ∧
(¬ (5 : Int32) ≤ x4 → (vp_in (x3 + x4) 4905 ∧
(∀ I12, I12 = ui I (a0 + 1) (ix (x3 + x4)) (0 : Int32) →
rec (x4 + 1) I12))))
set_option maxHeartbeats 4000000 in
set_option maxRecDepth 100000 in
theorem m_X10_readsInstruction_l53 {K : Kx} {l : Launch} {m : MethodId} {H0 : Heap} {Q : MI → MJ → Prop} {w : HW} {B : MR} (G : Gd l rm_X10_readsInstruction K m RX10 cX10_readsInstruction 5 H0 none (va_Qv (S := (MI × MJ)) (fun u => Q u.1 u.2) (fun u t => HP K (u.1, u.2, B) t.heap) (AA K)) w) (hW : WFK K) (a0 : Nat) (x1 : Int32) (x2 : Int32) (x3 : Int32) (x4 : Int32) (ka0 : (kG K a0).1 = 12) (I : MI) (J : MJ) (ke75 : Int32 → MI → Prop) (hke75 : ∀ (x4 : Int32) (I : MI), ke75 x4 I → Jg K m 5 H0 w 75 [(0, .ref a0), (1, .int x1), (2, .int x2), (3, .int x3)] [] (I, J, B)) (h : Lp2 (w_X10_readsInstruction_l53 a0 x1 x2 x3 J ke75 Q) x4 I) : Jg K m 5 H0 w 53 [(0, .ref a0), (1, .int x1), (2, .int x2), (3, .int x3), (4, .int x4)] [] (I, J, B) := by
  obtain ⟨n, h⟩ := h
  refine lpN2_ind (P := (fun (x4 : Int32) (I : MI) => Jg K m 5 H0 w 53 [(0, .ref a0), (1, .int x1), (2, .int x2), (3, .int x3), (4, .int x4)] [] (I, J, B))) (fun rec hrec x4 I h => ?_) n x4 I h
  unfold w_X10_readsInstruction_l53 at h
  refine j_iload G 4 dX10_readsInstruction_53 rfl ?_
  refine j_iconst G (5 : Int32) dX10_readsInstruction_55 (by decide) ?_
  refine j_icmp_ge G 75 dX10_readsInstruction_56 (by decide) (fun c9 => ?_) (fun c9 => ?_)
  · have h := h.1 c9
    exact Jg.sub [0, 1, 2, 3] rfl (hke75 x4 I h)
  · have h := h.2 c9
    refine j_aload_n G 0 0 dX10_readsInstruction_59 rfl rfl ?_
    have kk10 : kG K (a0 + 1) = (20, 4905) := wk_12_1 hW ka0
    refine j_get G hW 11 0 4 (.ref (a0 + 1)) ka0 (by decide) rfl (by decide) rfl lay_X10 fl_X10_7 rfl rfl dX10_readsInstruction_60 ?_
    refine j_iload_n G 3 3 dX10_readsInstruction_63 rfl rfl ?_
    refine j_iload G 4 dX10_readsInstruction_64 rfl ?_
    refine j_iadd G dX10_readsInstruction_66 ?_
    refine j_iconst G (0 : Int32) dX10_readsInstruction_67 (by decide) ?_
    obtain ⟨b11, h⟩ := h
    refine j_iast G hW kk10 b11 dX10_readsInstruction_68 ?_
    refine j_mI (fun I12 eI12 => ?_)
    have h := h I12 eI12
    refine j_iinc G 4 (x4 + 1) [(4, .int (x4 + 1)), (0, .ref a0), (1, .int x1), (2, .int x2), (3, .int x3)] dX10_readsInstruction_69 rfl rfl (by decide) rfl ?_
    refine j_goto G 53 dX10_readsInstruction_72 (by decide) ?_
    exact Jg.sub [1, 2, 3, 4, 0] rfl (hrec (x4 + 1) I12 h)
def w_X10_readsInstruction_p329 (a0 : Nat) (x2 : Int32)  (I : MI) (J : MJ)  (Q : MI → MJ → Prop) : Prop :=
(w_X10_isGood a0 I (fun r41 =>
((r41 = 0 → (∀ I43, I43 = ui I (a0 + 1) (ix (1080 : Int32)) ((I (a0 + 1) (ix (1080 : Int32))) + (0 : Int32)) →
Q I43 J)) ∧
(¬ r41 = 0 → (((24 : Int32) ≤ x2 → (∀ I45, I45 = ui I (a0 + 1) (ix (1080 : Int32)) ((I (a0 + 1) (ix (1080 : Int32))) + (0 : Int32)) →
Q I45 J)) ∧
(¬ (24 : Int32) ≤ x2 → (∀ I46, I46 = ui I (a0 + 1) (ix (1080 : Int32)) ((I (a0 + 1) (ix (1080 : Int32))) + (1 : Int32)) →
Q I46 J)))))))
set_option maxHeartbeats 4000000 in
set_option maxRecDepth 100000 in
theorem m_X10_readsInstruction_p329 {K : Kx} {l : Launch} {m : MethodId} {H0 : Heap} {Q : MI → MJ → Prop} {w : HW} {B : MR} (G : Gd l rm_X10_readsInstruction K m RX10 cX10_readsInstruction 5 H0 none (va_Qv (S := (MI × MJ)) (fun u => Q u.1 u.2) (fun u t => HP K (u.1, u.2, B) t.heap) (AA K)) w) (hW : WFK K) (a0 : Nat) (x2 : Int32)  (ka0 : (kG K a0).1 = 12)  (I : MI) (J : MJ)   (h : w_X10_readsInstruction_p329 a0 x2 I J Q) : Jg K m 5 H0 w 329 [(0, .ref a0), (2, .int x2)] [] (I, J, B) := by
  unfold w_X10_readsInstruction_p329 at h
  refine j_aload_n G 0 0 dX10_readsInstruction_329 rfl rfl ?_
  have kk40 : kG K (a0 + 1) = (20, 4905) := wk_12_1 hW ka0
  refine j_get G hW 11 0 4 (.ref (a0 + 1)) ka0 (by decide) rfl (by decide) rfl lay_X10 fl_X10_7 rfl rfl dX10_readsInstruction_330 ?_
  refine j_sipush G (1080 : Int32) dX10_readsInstruction_333 (by decide) ?_
  refine j_dup2 G rfl rfl dX10_readsInstruction_336 ?_
  refine j_iald G hW kk40 (vpc rfl) dX10_readsInstruction_337 ?_
  refine j_aload_n G 0 0 dX10_readsInstruction_338 rfl rfl ?_
  refine j_ci (rn_V G hW (ci := 11) (n := 0) (As := []) (rest := [.int (I (a0 + 1) (ix (1080 : Int32))), .int (1080 : Int32), .ref (a0 + 1)]) (c_X10_isGood K hW l a0 ka0 I J B _ h) ka0 (by decide) rfl ml_X10_333 im_X10_isGood se_X10_isGood in_X10 co_X10_isGood rfl (by decide +kernel) rfl rfl (by decide) (by decide) rfl rfl (Nat.le_of_ble_eq_true rfl) dX10_readsInstruction_339) (fun r41 _ h => ?_)
  refine j_if_eq G 355 dX10_readsInstruction_342 (by decide) (fun c42 => ?_) (fun c42 => ?_)
  · have h := h.1 c42
    refine j_iconst G (0 : Int32) dX10_readsInstruction_355 (by decide) ?_
    refine j_iadd G dX10_readsInstruction_356 ?_
    refine j_iast G hW kk40 (vpc rfl) dX10_readsInstruction_357 ?_
    refine j_mI (fun I43 eI43 => ?_)
    have h := h I43 eI43
    exact j_retv G (I43, J) dX10_readsInstruction_358 h rfl
  · have h := h.2 c42
    refine j_iload_n G 1 2 dX10_readsInstruction_345 rfl rfl ?_
    refine j_bipush G (24 : Int32) dX10_readsInstruction_346 (by decide) ?_
    refine j_icmp_ge G 355 dX10_readsInstruction_348 (by decide) (fun c44 => ?_) (fun c44 => ?_)
    · have h := h.1 c44
      refine j_iconst G (0 : Int32) dX10_readsInstruction_355 (by decide) ?_
      refine j_iadd G dX10_readsInstruction_356 ?_
      refine j_iast G hW kk40 (vpc rfl) dX10_readsInstruction_357 ?_
      refine j_mI (fun I45 eI45 => ?_)
      have h := h I45 eI45
      exact j_retv G (I45, J) dX10_readsInstruction_358 h rfl
    · have h := h.2 c44
      refine j_iconst G (1 : Int32) dX10_readsInstruction_351 (by decide) ?_
      refine j_goto G 356 dX10_readsInstruction_352 (by decide) ?_
      refine j_iadd G dX10_readsInstruction_356 ?_
      refine j_iast G hW kk40 (vpc rfl) dX10_readsInstruction_357 ?_
      refine j_mI (fun I46 eI46 => ?_)
      have h := h I46 eI46
      exact j_retv G (I46, J) dX10_readsInstruction_358 h rfl
def w_X10_readsInstruction_p312 (a0 : Nat) (x1 : Int32) (x2 : Int32)  (I : MI) (J : MJ)  (Q : MI → MJ → Prop) : Prop :=
((x1 = (6 : Int32) → (w_X10_wants a0 x2 I J (fun I38 J39 =>
w_X10_readsInstruction_p329 a0 x2 I38 J39 Q))) ∧
(¬ x1 = (6 : Int32) → ((¬ x1 = (7 : Int32) → w_X10_readsInstruction_p329 a0 x2 I J Q) ∧
(x1 = (7 : Int32) → (w_X10_wants a0 x2 I J (fun I48 J49 =>
w_X10_readsInstruction_p329 a0 x2 I48 J49 Q))))))
set_option maxHeartbeats 4000000 in
set_option maxRecDepth 100000 in
theorem m_X10_readsInstruction_p312 {K : Kx} {l : Launch} {m : MethodId} {H0 : Heap} {Q : MI → MJ → Prop} {w : HW} {B : MR} (G : Gd l rm_X10_readsInstruction K m RX10 cX10_readsInstruction 5 H0 none (va_Qv (S := (MI × MJ)) (fun u => Q u.1 u.2) (fun u t => HP K (u.1, u.2, B) t.heap) (AA K)) w) (hW : WFK K) (a0 : Nat) (x1 : Int32) (x2 : Int32)  (ka0 : (kG K a0).1 = 12)  (I : MI) (J : MJ)   (h : w_X10_readsInstruction_p312 a0 x1 x2 I J Q) : Jg K m 5 H0 w 312 [(0, .ref a0), (1, .int x1), (2, .int x2)] [] (I, J, B) := by
  unfold w_X10_readsInstruction_p312 at h
  refine j_iload_n G 1 1 dX10_readsInstruction_312 rfl rfl ?_
  refine j_bipush G (6 : Int32) dX10_readsInstruction_313 (by decide) ?_
  refine j_icmp_eq G 324 dX10_readsInstruction_315 (by decide) (fun c37 => ?_) (fun c37 => ?_)
  · have h := h.1 c37
    refine j_aload_n G 0 0 dX10_readsInstruction_324 rfl rfl ?_
    refine j_iload_n G 2 2 dX10_readsInstruction_325 rfl rfl ?_
    refine j_cv (rn_V G hW (ci := 11) (n := 1) (As := [.int x2]) (rest := []) (c_X10_wants K hW l a0 x2 ka0 I J B _ h) ka0 (by decide) rfl ml_X10_422 im_X10_wants se_X10_wants in_X10 co_X10_wants rfl (by decide +kernel) rfl rfl (by decide) (by decide) rfl rfl (Nat.le_of_ble_eq_true rfl) dX10_readsInstruction_326) (fun ⟨I38, J39⟩ h => ?_)
    exact Jg.sub [0, 2] rfl (m_X10_readsInstruction_p329 G hW a0 x2 ka0 I38 J39 h)
  · have h := h.2 c37
    refine j_iload_n G 1 1 dX10_readsInstruction_318 rfl rfl ?_
    refine j_bipush G (7 : Int32) dX10_readsInstruction_319 (by decide) ?_
    refine j_icmp_ne G 329 dX10_readsInstruction_321 (by decide) (fun c47 => ?_) (fun c47 => ?_)
    · have h := h.1 c47
      exact Jg.sub [0, 2] rfl (m_X10_readsInstruction_p329 G hW a0 x2 ka0 I J h)
    · have h := h.2 c47
      refine j_aload_n G 0 0 dX10_readsInstruction_324 rfl rfl ?_
      refine j_iload_n G 2 2 dX10_readsInstruction_325 rfl rfl ?_
      refine j_cv (rn_V G hW (ci := 11) (n := 1) (As := [.int x2]) (rest := []) (c_X10_wants K hW l a0 x2 ka0 I J B _ h) ka0 (by decide) rfl ml_X10_422 im_X10_wants se_X10_wants in_X10 co_X10_wants rfl (by decide +kernel) rfl rfl (by decide) (by decide) rfl rfl (Nat.le_of_ble_eq_true rfl) dX10_readsInstruction_326) (fun ⟨I48, J49⟩ h => ?_)
      exact Jg.sub [0, 2] rfl (m_X10_readsInstruction_p329 G hW a0 x2 ka0 I48 J49 h)
def w_X10_readsInstruction_p290 (a0 : Nat) (x1 : Int32) (x2 : Int32) (x3 : Int32) (x4 : Int32) (s0 : Int32) (s1 : Int32) (o2 : Nat) (I : MI) (J : MJ)  (Q : MI → MJ → Prop) : Prop :=
(vp_in s1 4905 ∧
(∀ I56, I56 = ui I o2 (ix s1) s0 →
((x4 = 0 → (w_X10_letterTaken a0 I56 J (fun r59 I60 J61 =>
(vp_in (x3 + (2 : Int32)) 4905 ∧
(∀ I63, I63 = ui I60 (a0 + 1) (ix (x3 + (2 : Int32))) r59 →
w_X10_readsInstruction_p312 a0 x1 x2 I63 J61 Q))))) ∧
(¬ x4 = 0 → (w_X10_takesToken a0 I56 J (fun I64 J65 =>
(w_X10_letterTaken a0 I64 J65 (fun r67 I68 J69 =>
(vp_in (x3 + (2 : Int32)) 4905 ∧
(∀ I71, I71 = ui I68 (a0 + 1) (ix (x3 + (2 : Int32))) r67 →
w_X10_readsInstruction_p312 a0 x1 x2 I71 J69 Q))))))))))
set_option maxHeartbeats 4000000 in
set_option maxRecDepth 100000 in
theorem m_X10_readsInstruction_p290 {K : Kx} {l : Launch} {m : MethodId} {H0 : Heap} {Q : MI → MJ → Prop} {w : HW} {B : MR} (G : Gd l rm_X10_readsInstruction K m RX10 cX10_readsInstruction 5 H0 none (va_Qv (S := (MI × MJ)) (fun u => Q u.1 u.2) (fun u t => HP K (u.1, u.2, B) t.heap) (AA K)) w) (hW : WFK K) (a0 : Nat) (x1 : Int32) (x2 : Int32) (x3 : Int32) (x4 : Int32) (s0 : Int32) (s1 : Int32) (o2 : Nat) (ka0 : (kG K a0).1 = 12) (ko2 : kG K o2 = (20, 4905)) (I : MI) (J : MJ)   (h : w_X10_readsInstruction_p290 a0 x1 x2 x3 x4 s0 s1 o2 I J Q) : Jg K m 5 H0 w 290 [(0, .ref a0), (1, .int x1), (2, .int x2), (3, .int x3), (4, .int x4)] [.int s0, .int s1, .ref o2] (I, J, B) := by
  unfold w_X10_readsInstruction_p290 at h
  obtain ⟨b55, h⟩ := h
  refine j_iast G hW ko2 b55 dX10_readsInstruction_290 ?_
  refine j_mI (fun I56 eI56 => ?_)
  have h := h I56 eI56
  refine j_iload G 4 dX10_readsInstruction_291 rfl ?_
  refine j_if_eq G 300 dX10_readsInstruction_293 (by decide) (fun c57 => ?_) (fun c57 => ?_)
  · have h := h.1 c57
    refine j_aload_n G 0 0 dX10_readsInstruction_300 rfl rfl ?_
    have kk58 : kG K (a0 + 1) = (20, 4905) := wk_12_1 hW ka0
    refine j_get G hW 11 0 4 (.ref (a0 + 1)) ka0 (by decide) rfl (by decide) rfl lay_X10 fl_X10_7 rfl rfl dX10_readsInstruction_301 ?_
    refine j_iload_n G 3 3 dX10_readsInstruction_304 rfl rfl ?_
    refine j_iconst G (2 : Int32) dX10_readsInstruction_305 (by decide) ?_
    refine j_iadd G dX10_readsInstruction_306 ?_
    refine j_aload_n G 0 0 dX10_readsInstruction_307 rfl rfl ?_
    refine j_ci (rn_V G hW (ci := 11) (n := 0) (As := []) (rest := [.int (x3 + (2 : Int32)), .ref (a0 + 1)]) (c_X10_letterTaken K hW l a0 ka0 I56 J B _ h) ka0 (by decide) rfl ml_X10_410 im_X10_letterTaken se_X10_letterTaken in_X10 co_X10_letterTaken rfl (by decide +kernel) rfl rfl (by decide) (by decide) rfl rfl (Nat.le_of_ble_eq_true rfl) dX10_readsInstruction_308) (fun r59 ⟨I60, J61⟩ h => ?_)
    obtain ⟨b62, h⟩ := h
    refine j_iast G hW kk58 b62 dX10_readsInstruction_311 ?_
    refine j_mI (fun I63 eI63 => ?_)
    have h := h I63 eI63
    exact Jg.sub [0, 1, 2] rfl (m_X10_readsInstruction_p312 G hW a0 x1 x2 ka0 I63 J61 h)
  · have h := h.2 c57
    refine j_aload_n G 0 0 dX10_readsInstruction_296 rfl rfl ?_
    refine j_cv (rn_V G hW (ci := 11) (n := 0) (As := []) (rest := []) (c_X10_takesToken K hW l a0 ka0 I56 J B _ h) ka0 (by decide) rfl ml_X10_341 im_X10_takesToken se_X10_takesToken in_X10 co_X10_takesToken rfl (by decide +kernel) rfl rfl (by decide) (by decide) rfl rfl (Nat.le_of_ble_eq_true rfl) dX10_readsInstruction_297) (fun ⟨I64, J65⟩ h => ?_)
    refine j_aload_n G 0 0 dX10_readsInstruction_300 rfl rfl ?_
    have kk66 : kG K (a0 + 1) = (20, 4905) := wk_12_1 hW ka0
    refine j_get G hW 11 0 4 (.ref (a0 + 1)) ka0 (by decide) rfl (by decide) rfl lay_X10 fl_X10_7 rfl rfl dX10_readsInstruction_301 ?_
    refine j_iload_n G 3 3 dX10_readsInstruction_304 rfl rfl ?_
    refine j_iconst G (2 : Int32) dX10_readsInstruction_305 (by decide) ?_
    refine j_iadd G dX10_readsInstruction_306 ?_
    refine j_aload_n G 0 0 dX10_readsInstruction_307 rfl rfl ?_
    refine j_ci (rn_V G hW (ci := 11) (n := 0) (As := []) (rest := [.int (x3 + (2 : Int32)), .ref (a0 + 1)]) (c_X10_letterTaken K hW l a0 ka0 I64 J65 B _ h) ka0 (by decide) rfl ml_X10_410 im_X10_letterTaken se_X10_letterTaken in_X10 co_X10_letterTaken rfl (by decide +kernel) rfl rfl (by decide) (by decide) rfl rfl (Nat.le_of_ble_eq_true rfl) dX10_readsInstruction_308) (fun r67 ⟨I68, J69⟩ h => ?_)
    obtain ⟨b70, h⟩ := h
    refine j_iast G hW kk66 b70 dX10_readsInstruction_311 ?_
    refine j_mI (fun I71 eI71 => ?_)
    have h := h I71 eI71
    exact Jg.sub [0, 1, 2] rfl (m_X10_readsInstruction_p312 G hW a0 x1 x2 ka0 I71 J69 h)
def w_X10_readsInstruction_p258 (a0 : Nat) (x1 : Int32) (x2 : Int32) (x3 : Int32) (s0 : Int32) (I : MI) (J : MJ)  (Q : MI → MJ → Prop) : Prop :=
((¬ s0 = 0 → ((s0 = 0 → w_X10_readsInstruction_p290 a0 x1 x2 x3 s0 (0 : Int32) (x3 + (3 : Int32)) (a0 + 1) I J Q) ∧
(¬ s0 = 0 → w_X10_readsInstruction_p290 a0 x1 x2 x3 s0 (Int64.toInt32 (J a0 17)) (x3 + (3 : Int32)) (a0 + 1) I J Q))) ∧
(s0 = 0 → (w_X10_fails a0 I (fun I72 =>
((s0 = 0 → w_X10_readsInstruction_p290 a0 x1 x2 x3 s0 (0 : Int32) (x3 + (3 : Int32)) (a0 + 1) I72 J Q) ∧
(¬ s0 = 0 → w_X10_readsInstruction_p290 a0 x1 x2 x3 s0 (Int64.toInt32 (J a0 17)) (x3 + (3 : Int32)) (a0 + 1) I72 J Q))))))
set_option maxHeartbeats 4000000 in
set_option maxRecDepth 100000 in
theorem m_X10_readsInstruction_p258 {K : Kx} {l : Launch} {m : MethodId} {H0 : Heap} {Q : MI → MJ → Prop} {w : HW} {B : MR} (G : Gd l rm_X10_readsInstruction K m RX10 cX10_readsInstruction 5 H0 none (va_Qv (S := (MI × MJ)) (fun u => Q u.1 u.2) (fun u t => HP K (u.1, u.2, B) t.heap) (AA K)) w) (hW : WFK K) (a0 : Nat) (x1 : Int32) (x2 : Int32) (x3 : Int32) (s0 : Int32) (ka0 : (kG K a0).1 = 12)  (I : MI) (J : MJ)   (h : w_X10_readsInstruction_p258 a0 x1 x2 x3 s0 I J Q) : Jg K m 5 H0 w 258 [(0, .ref a0), (1, .int x1), (2, .int x2), (3, .int x3)] [.int s0] (I, J, B) := by
  unfold w_X10_readsInstruction_p258 at h
  refine j_istore G [(4, .int s0), (0, .ref a0), (1, .int x1), (2, .int x2), (3, .int x3)] dX10_readsInstruction_258 (by decide) rfl ?_
  refine j_iload G 0 dX10_readsInstruction_260 rfl ?_
  refine j_if_ne G 269 dX10_readsInstruction_262 (by decide) (fun c52 => ?_) (fun c52 => ?_)
  · have h := h.1 c52
    refine j_aload_n G 1 0 dX10_readsInstruction_269 rfl rfl ?_
    have kk53 : kG K (a0 + 1) = (20, 4905) := wk_12_1 hW ka0
    refine j_get G hW 11 0 4 (.ref (a0 + 1)) ka0 (by decide) rfl (by decide) rfl lay_X10 fl_X10_7 rfl rfl dX10_readsInstruction_270 ?_
    refine j_iload_n G 4 3 dX10_readsInstruction_273 rfl rfl ?_
    refine j_iconst G (3 : Int32) dX10_readsInstruction_274 (by decide) ?_
    refine j_iadd G dX10_readsInstruction_275 ?_
    refine j_iload G 0 dX10_readsInstruction_276 rfl ?_
    refine j_if_eq G 289 dX10_readsInstruction_278 (by decide) (fun c54 => ?_) (fun c54 => ?_)
    · have h := h.1 c54
      refine j_iconst G (0 : Int32) dX10_readsInstruction_289 (by decide) ?_
      exact Jg.sub [1, 2, 3, 4, 0] rfl (m_X10_readsInstruction_p290 G hW a0 x1 x2 x3 s0 (0 : Int32) (x3 + (3 : Int32)) (a0 + 1) ka0 kk53 I J h)
    · have h := h.2 c54
      refine j_aload_n G 1 0 dX10_readsInstruction_281 rfl rfl ?_
      refine j_get G hW 11 17 1 (.long (J a0 17)) ka0 (by decide) rfl (by decide) rfl lay_X10 fl_X10_310 rfl rfl dX10_readsInstruction_282 ?_
      refine j_l2i G dX10_readsInstruction_285 ?_
      refine j_goto G 290 dX10_readsInstruction_286 (by decide) ?_
      exact Jg.sub [1, 2, 3, 4, 0] rfl (m_X10_readsInstruction_p290 G hW a0 x1 x2 x3 s0 (Int64.toInt32 (J a0 17)) (x3 + (3 : Int32)) (a0 + 1) ka0 kk53 I J h)
  · have h := h.2 c52
    refine j_aload_n G 1 0 dX10_readsInstruction_265 rfl rfl ?_
    refine j_cv (rn_V G hW (ci := 11) (n := 0) (As := []) (rest := []) (c_X10_fails K hW l a0 ka0 I J B _ h) ka0 (by decide) rfl ml_X10_344 im_X10_fails se_X10_fails in_X10 co_X10_fails rfl (by decide +kernel) rfl rfl (by decide) (by decide) rfl rfl (Nat.le_of_ble_eq_true rfl) dX10_readsInstruction_266) (fun I72 h => ?_)
    refine j_aload_n G 1 0 dX10_readsInstruction_269 rfl rfl ?_
    have kk73 : kG K (a0 + 1) = (20, 4905) := wk_12_1 hW ka0
    refine j_get G hW 11 0 4 (.ref (a0 + 1)) ka0 (by decide) rfl (by decide) rfl lay_X10 fl_X10_7 rfl rfl dX10_readsInstruction_270 ?_
    refine j_iload_n G 4 3 dX10_readsInstruction_273 rfl rfl ?_
    refine j_iconst G (3 : Int32) dX10_readsInstruction_274 (by decide) ?_
    refine j_iadd G dX10_readsInstruction_275 ?_
    refine j_iload G 0 dX10_readsInstruction_276 rfl ?_
    refine j_if_eq G 289 dX10_readsInstruction_278 (by decide) (fun c74 => ?_) (fun c74 => ?_)
    · have h := h.1 c74
      refine j_iconst G (0 : Int32) dX10_readsInstruction_289 (by decide) ?_
      exact Jg.sub [1, 2, 3, 4, 0] rfl (m_X10_readsInstruction_p290 G hW a0 x1 x2 x3 s0 (0 : Int32) (x3 + (3 : Int32)) (a0 + 1) ka0 kk73 I72 J h)
    · have h := h.2 c74
      refine j_aload_n G 1 0 dX10_readsInstruction_281 rfl rfl ?_
      refine j_get G hW 11 17 1 (.long (J a0 17)) ka0 (by decide) rfl (by decide) rfl lay_X10 fl_X10_310 rfl rfl dX10_readsInstruction_282 ?_
      refine j_l2i G dX10_readsInstruction_285 ?_
      refine j_goto G 290 dX10_readsInstruction_286 (by decide) ?_
      exact Jg.sub [1, 2, 3, 4, 0] rfl (m_X10_readsInstruction_p290 G hW a0 x1 x2 x3 s0 (Int64.toInt32 (J a0 17)) (x3 + (3 : Int32)) (a0 + 1) ka0 kk73 I72 J h)
def w_X10_readsInstruction_p199 (a0 : Nat) (x1 : Int32) (x2 : Int32) (x3 : Int32)  (I : MI) (J : MJ)  (Q : MI → MJ → Prop) : Prop :=
((¬ x1 = (7 : Int32) → w_X10_readsInstruction_p312 a0 x1 x2 I J Q) ∧
(x1 = (7 : Int32) → (w_X10_isGood a0 I (fun r50 =>
((r50 = 0 → w_X10_readsInstruction_p258 a0 x1 x2 x3 (0 : Int32) I J Q) ∧
(¬ r50 = 0 → ((¬ (I a0 12) = (3 : Int32) → w_X10_readsInstruction_p258 a0 x1 x2 x3 (0 : Int32) I J Q) ∧
((I a0 12) = (3 : Int32) → (((lg_cmp (J a0 17) (60 : Int64)) = 0 → w_X10_readsInstruction_p258 a0 x1 x2 x3 (1 : Int32) I J Q) ∧
(¬ (lg_cmp (J a0 17) (60 : Int64)) = 0 → (((lg_cmp (J a0 17) (61 : Int64)) = 0 → w_X10_readsInstruction_p258 a0 x1 x2 x3 (1 : Int32) I J Q) ∧
(¬ (lg_cmp (J a0 17) (61 : Int64)) = 0 → ((¬ (lg_cmp (J a0 17) (62 : Int64)) = 0 → w_X10_readsInstruction_p258 a0 x1 x2 x3 (0 : Int32) I J Q) ∧
((lg_cmp (J a0 17) (62 : Int64)) = 0 → w_X10_readsInstruction_p258 a0 x1 x2 x3 (1 : Int32) I J Q))))))))))))))
set_option maxHeartbeats 4000000 in
set_option maxRecDepth 100000 in
theorem m_X10_readsInstruction_p199 {K : Kx} {l : Launch} {m : MethodId} {H0 : Heap} {Q : MI → MJ → Prop} {w : HW} {B : MR} (G : Gd l rm_X10_readsInstruction K m RX10 cX10_readsInstruction 5 H0 none (va_Qv (S := (MI × MJ)) (fun u => Q u.1 u.2) (fun u t => HP K (u.1, u.2, B) t.heap) (AA K)) w) (hW : WFK K) (a0 : Nat) (x1 : Int32) (x2 : Int32) (x3 : Int32)  (ka0 : (kG K a0).1 = 12)  (I : MI) (J : MJ)   (h : w_X10_readsInstruction_p199 a0 x1 x2 x3 I J Q) : Jg K m 5 H0 w 199 [(0, .ref a0), (1, .int x1), (2, .int x2), (3, .int x3)] [] (I, J, B) := by
  unfold w_X10_readsInstruction_p199 at h
  refine j_iload_n G 1 1 dX10_readsInstruction_199 rfl rfl ?_
  refine j_bipush G (7 : Int32) dX10_readsInstruction_200 (by decide) ?_
  refine j_icmp_ne G 312 dX10_readsInstruction_202 (by decide) (fun c36 => ?_) (fun c36 => ?_)
  · have h := h.1 c36
    exact Jg.sub [0, 1, 2] rfl (m_X10_readsInstruction_p312 G hW a0 x1 x2 ka0 I J h)
  · have h := h.2 c36
    refine j_aload_n G 0 0 dX10_readsInstruction_205 rfl rfl ?_
    refine j_ci (rn_V G hW (ci := 11) (n := 0) (As := []) (rest := []) (c_X10_isGood K hW l a0 ka0 I J B _ h) ka0 (by decide) rfl ml_X10_333 im_X10_isGood se_X10_isGood in_X10 co_X10_isGood rfl (by decide +kernel) rfl rfl (by decide) (by decide) rfl rfl (Nat.le_of_ble_eq_true rfl) dX10_readsInstruction_206) (fun r50 _ h => ?_)
    refine j_if_eq G 257 dX10_readsInstruction_209 (by decide) (fun c51 => ?_) (fun c51 => ?_)
    · have h := h.1 c51
      refine j_iconst G (0 : Int32) dX10_readsInstruction_257 (by decide) ?_
      exact m_X10_readsInstruction_p258 G hW a0 x1 x2 x3 (0 : Int32) ka0 I J h
    · have h := h.2 c51
      refine j_aload_n G 0 0 dX10_readsInstruction_212 rfl rfl ?_
      refine j_get G hW 11 12 0 (.int (I a0 12)) ka0 (by decide) rfl (by decide) rfl lay_X10 fl_X10_314 rfl rfl dX10_readsInstruction_213 ?_
      refine j_iconst G (3 : Int32) dX10_readsInstruction_216 (by decide) ?_
      refine j_icmp_ne G 257 dX10_readsInstruction_217 (by decide) (fun c75 => ?_) (fun c75 => ?_)
      · have h := h.1 c75
        refine j_iconst G (0 : Int32) dX10_readsInstruction_257 (by decide) ?_
        exact m_X10_readsInstruction_p258 G hW a0 x1 x2 x3 (0 : Int32) ka0 I J h
      · have h := h.2 c75
        refine j_aload_n G 0 0 dX10_readsInstruction_220 rfl rfl ?_
        refine j_get G hW 11 17 1 (.long (J a0 17)) ka0 (by decide) rfl (by decide) rfl lay_X10 fl_X10_310 rfl rfl dX10_readsInstruction_221 ?_
        refine j_ldc2 G (60 : Int64) cl_X10_416 dX10_readsInstruction_224 ?_
        refine j_lcmp G dX10_readsInstruction_227 ?_
        refine j_if_eq G 253 dX10_readsInstruction_228 (by decide) (fun c76 => ?_) (fun c76 => ?_)
        · have h := h.1 c76
          refine j_iconst G (1 : Int32) dX10_readsInstruction_253 (by decide) ?_
          refine j_goto G 258 dX10_readsInstruction_254 (by decide) ?_
          exact m_X10_readsInstruction_p258 G hW a0 x1 x2 x3 (1 : Int32) ka0 I J h
        · have h := h.2 c76
          refine j_aload_n G 0 0 dX10_readsInstruction_231 rfl rfl ?_
          refine j_get G hW 11 17 1 (.long (J a0 17)) ka0 (by decide) rfl (by decide) rfl lay_X10 fl_X10_310 rfl rfl dX10_readsInstruction_232 ?_
          refine j_ldc2 G (61 : Int64) cl_X10_418 dX10_readsInstruction_235 ?_
          refine j_lcmp G dX10_readsInstruction_238 ?_
          refine j_if_eq G 253 dX10_readsInstruction_239 (by decide) (fun c77 => ?_) (fun c77 => ?_)
          · have h := h.1 c77
            refine j_iconst G (1 : Int32) dX10_readsInstruction_253 (by decide) ?_
            refine j_goto G 258 dX10_readsInstruction_254 (by decide) ?_
            exact m_X10_readsInstruction_p258 G hW a0 x1 x2 x3 (1 : Int32) ka0 I J h
          · have h := h.2 c77
            refine j_aload_n G 0 0 dX10_readsInstruction_242 rfl rfl ?_
            refine j_get G hW 11 17 1 (.long (J a0 17)) ka0 (by decide) rfl (by decide) rfl lay_X10 fl_X10_310 rfl rfl dX10_readsInstruction_243 ?_
            refine j_ldc2 G (62 : Int64) cl_X10_420 dX10_readsInstruction_246 ?_
            refine j_lcmp G dX10_readsInstruction_249 ?_
            refine j_if_ne G 257 dX10_readsInstruction_250 (by decide) (fun c78 => ?_) (fun c78 => ?_)
            · have h := h.1 c78
              refine j_iconst G (0 : Int32) dX10_readsInstruction_257 (by decide) ?_
              exact m_X10_readsInstruction_p258 G hW a0 x1 x2 x3 (0 : Int32) ka0 I J h
            · have h := h.2 c78
              refine j_iconst G (1 : Int32) dX10_readsInstruction_253 (by decide) ?_
              refine j_goto G 258 dX10_readsInstruction_254 (by decide) ?_
              exact m_X10_readsInstruction_p258 G hW a0 x1 x2 x3 (1 : Int32) ka0 I J h
def w_X10_readsInstruction_p174 (a0 : Nat) (x1 : Int32) (x2 : Int32) (x3 : Int32)  (I : MI) (J : MJ)  (Q : MI → MJ → Prop) : Prop :=
((x1 = (4 : Int32) → (w_X10_numeral a0 (0 : Int32) (31 : Int32) I J (fun r31 I32 J33 =>
(vp_in (x3 + (4 : Int32)) 4905 ∧
(∀ I35, I35 = ui I32 (a0 + 1) (ix (x3 + (4 : Int32))) r31 →
w_X10_readsInstruction_p199 a0 x1 x2 x3 I35 J33 Q))))) ∧
(¬ x1 = (4 : Int32) → ((¬ x1 = (5 : Int32) → w_X10_readsInstruction_p199 a0 x1 x2 x3 I J Q) ∧
(x1 = (5 : Int32) → (w_X10_numeral a0 (0 : Int32) (31 : Int32) I J (fun r81 I82 J83 =>
(vp_in (x3 + (4 : Int32)) 4905 ∧
(∀ I85, I85 = ui I82 (a0 + 1) (ix (x3 + (4 : Int32))) r81 →
w_X10_readsInstruction_p199 a0 x1 x2 x3 I85 J83 Q))))))))
set_option maxHeartbeats 4000000 in
set_option maxRecDepth 100000 in
theorem m_X10_readsInstruction_p174 {K : Kx} {l : Launch} {m : MethodId} {H0 : Heap} {Q : MI → MJ → Prop} {w : HW} {B : MR} (G : Gd l rm_X10_readsInstruction K m RX10 cX10_readsInstruction 5 H0 none (va_Qv (S := (MI × MJ)) (fun u => Q u.1 u.2) (fun u t => HP K (u.1, u.2, B) t.heap) (AA K)) w) (hW : WFK K) (a0 : Nat) (x1 : Int32) (x2 : Int32) (x3 : Int32)  (ka0 : (kG K a0).1 = 12)  (I : MI) (J : MJ)   (h : w_X10_readsInstruction_p174 a0 x1 x2 x3 I J Q) : Jg K m 5 H0 w 174 [(0, .ref a0), (1, .int x1), (2, .int x2), (3, .int x3)] [] (I, J, B) := by
  unfold w_X10_readsInstruction_p174 at h
  refine j_iload_n G 1 1 dX10_readsInstruction_174 rfl rfl ?_
  refine j_iconst G (4 : Int32) dX10_readsInstruction_175 (by decide) ?_
  refine j_icmp_eq G 184 dX10_readsInstruction_176 (by decide) (fun c29 => ?_) (fun c29 => ?_)
  · have h := h.1 c29
    refine j_aload_n G 0 0 dX10_readsInstruction_184 rfl rfl ?_
    have kk30 : kG K (a0 + 1) = (20, 4905) := wk_12_1 hW ka0
    refine j_get G hW 11 0 4 (.ref (a0 + 1)) ka0 (by decide) rfl (by decide) rfl lay_X10 fl_X10_7 rfl rfl dX10_readsInstruction_185 ?_
    refine j_iload_n G 3 3 dX10_readsInstruction_188 rfl rfl ?_
    refine j_iconst G (4 : Int32) dX10_readsInstruction_189 (by decide) ?_
    refine j_iadd G dX10_readsInstruction_190 ?_
    refine j_aload_n G 0 0 dX10_readsInstruction_191 rfl rfl ?_
    refine j_iconst G (0 : Int32) dX10_readsInstruction_192 (by decide) ?_
    refine j_bipush G (31 : Int32) dX10_readsInstruction_193 (by decide) ?_
    refine j_ci (rn_V G hW (ci := 11) (n := 2) (As := [.int (0 : Int32), .int (31 : Int32)]) (rest := [.int (x3 + (4 : Int32)), .ref (a0 + 1)]) (c_X10_numeral K hW l a0 (0 : Int32) (31 : Int32) ka0 I J B _ h) ka0 (by decide) rfl ml_X10_413 im_X10_numeral se_X10_numeral in_X10 co_X10_numeral rfl (by decide +kernel) rfl rfl (by decide) (by decide) rfl rfl (Nat.le_of_ble_eq_true rfl) dX10_readsInstruction_195) (fun r31 ⟨I32, J33⟩ h => ?_)
    obtain ⟨b34, h⟩ := h
    refine j_iast G hW kk30 b34 dX10_readsInstruction_198 ?_
    refine j_mI (fun I35 eI35 => ?_)
    have h := h I35 eI35
    exact m_X10_readsInstruction_p199 G hW a0 x1 x2 x3 ka0 I35 J33 h
  · have h := h.2 c29
    refine j_iload_n G 1 1 dX10_readsInstruction_179 rfl rfl ?_
    refine j_iconst G (5 : Int32) dX10_readsInstruction_180 (by decide) ?_
    refine j_icmp_ne G 199 dX10_readsInstruction_181 (by decide) (fun c79 => ?_) (fun c79 => ?_)
    · have h := h.1 c79
      exact m_X10_readsInstruction_p199 G hW a0 x1 x2 x3 ka0 I J h
    · have h := h.2 c79
      refine j_aload_n G 0 0 dX10_readsInstruction_184 rfl rfl ?_
      have kk80 : kG K (a0 + 1) = (20, 4905) := wk_12_1 hW ka0
      refine j_get G hW 11 0 4 (.ref (a0 + 1)) ka0 (by decide) rfl (by decide) rfl lay_X10 fl_X10_7 rfl rfl dX10_readsInstruction_185 ?_
      refine j_iload_n G 3 3 dX10_readsInstruction_188 rfl rfl ?_
      refine j_iconst G (4 : Int32) dX10_readsInstruction_189 (by decide) ?_
      refine j_iadd G dX10_readsInstruction_190 ?_
      refine j_aload_n G 0 0 dX10_readsInstruction_191 rfl rfl ?_
      refine j_iconst G (0 : Int32) dX10_readsInstruction_192 (by decide) ?_
      refine j_bipush G (31 : Int32) dX10_readsInstruction_193 (by decide) ?_
      refine j_ci (rn_V G hW (ci := 11) (n := 2) (As := [.int (0 : Int32), .int (31 : Int32)]) (rest := [.int (x3 + (4 : Int32)), .ref (a0 + 1)]) (c_X10_numeral K hW l a0 (0 : Int32) (31 : Int32) ka0 I J B _ h) ka0 (by decide) rfl ml_X10_413 im_X10_numeral se_X10_numeral in_X10 co_X10_numeral rfl (by decide +kernel) rfl rfl (by decide) (by decide) rfl rfl (Nat.le_of_ble_eq_true rfl) dX10_readsInstruction_195) (fun r81 ⟨I82, J83⟩ h => ?_)
      obtain ⟨b84, h⟩ := h
      refine j_iast G hW kk80 b84 dX10_readsInstruction_198 ?_
      refine j_mI (fun I85 eI85 => ?_)
      have h := h I85 eI85
      exact m_X10_readsInstruction_p199 G hW a0 x1 x2 x3 ka0 I85 J83 h
def w_X10_readsInstruction_p143 (a0 : Nat) (x1 : Int32) (x2 : Int32) (x3 : Int32)  (I : MI) (J : MJ)  (Q : MI → MJ → Prop) : Prop :=
(w_X10_letterTaken a0 I J (fun r22 I23 J24 =>
(vp_in (x3 + (2 : Int32)) 4905 ∧
(∀ I26, I26 = ui I23 (a0 + 1) (ix (x3 + (2 : Int32))) r22 →
(w_X10_isReckoning x1 (fun r27 =>
((r27 = 0 → w_X10_readsInstruction_p174 a0 x1 x2 x3 I26 J24 Q) ∧
(¬ r27 = 0 → (w_X10_letterTaken a0 I26 J24 (fun r86 I87 J88 =>
(vp_in (x3 + (3 : Int32)) 4905 ∧
(∀ I90, I90 = ui I87 (a0 + 1) (ix (x3 + (3 : Int32))) r86 →
w_X10_readsInstruction_p174 a0 x1 x2 x3 I90 J88 Q))))))))))))
set_option maxHeartbeats 4000000 in
set_option maxRecDepth 100000 in
theorem m_X10_readsInstruction_p143 {K : Kx} {l : Launch} {m : MethodId} {H0 : Heap} {Q : MI → MJ → Prop} {w : HW} {B : MR} (G : Gd l rm_X10_readsInstruction K m RX10 cX10_readsInstruction 5 H0 none (va_Qv (S := (MI × MJ)) (fun u => Q u.1 u.2) (fun u t => HP K (u.1, u.2, B) t.heap) (AA K)) w) (hW : WFK K) (a0 : Nat) (x1 : Int32) (x2 : Int32) (x3 : Int32)  (ka0 : (kG K a0).1 = 12)  (I : MI) (J : MJ)   (h : w_X10_readsInstruction_p143 a0 x1 x2 x3 I J Q) : Jg K m 5 H0 w 143 [(0, .ref a0), (1, .int x1), (2, .int x2), (3, .int x3)] [] (I, J, B) := by
  unfold w_X10_readsInstruction_p143 at h
  refine j_aload_n G 0 0 dX10_readsInstruction_143 rfl rfl ?_
  have kk21 : kG K (a0 + 1) = (20, 4905) := wk_12_1 hW ka0
  refine j_get G hW 11 0 4 (.ref (a0 + 1)) ka0 (by decide) rfl (by decide) rfl lay_X10 fl_X10_7 rfl rfl dX10_readsInstruction_144 ?_
  refine j_iload_n G 3 3 dX10_readsInstruction_147 rfl rfl ?_
  refine j_iconst G (2 : Int32) dX10_readsInstruction_148 (by decide) ?_
  refine j_iadd G dX10_readsInstruction_149 ?_
  refine j_aload_n G 0 0 dX10_readsInstruction_150 rfl rfl ?_
  refine j_ci (rn_V G hW (ci := 11) (n := 0) (As := []) (rest := [.int (x3 + (2 : Int32)), .ref (a0 + 1)]) (c_X10_letterTaken K hW l a0 ka0 I J B _ h) ka0 (by decide) rfl ml_X10_410 im_X10_letterTaken se_X10_letterTaken in_X10 co_X10_letterTaken rfl (by decide +kernel) rfl rfl (by decide) (by decide) rfl rfl (Nat.le_of_ble_eq_true rfl) dX10_readsInstruction_151) (fun r22 ⟨I23, J24⟩ h => ?_)
  obtain ⟨b25, h⟩ := h
  refine j_iast G hW kk21 b25 dX10_readsInstruction_154 ?_
  refine j_mI (fun I26 eI26 => ?_)
  have h := h I26 eI26
  refine j_iload_n G 1 1 dX10_readsInstruction_155 rfl rfl ?_
  refine j_ci (rn_S G (n := 1) (As := [.int x1]) (rest := []) (c_X10_isReckoning K hW l x1 I26 J24 B _ h) ml_X10_62 st_X10_isReckoning in_X10 co_X10_isReckoning (by decide +kernel) rfl rfl (by decide) (by decide) rfl rfl (Nat.le_of_ble_eq_true rfl) dX10_readsInstruction_156) (fun r27 _ h => ?_)
  refine j_if_eq G 174 dX10_readsInstruction_159 (by decide) (fun c28 => ?_) (fun c28 => ?_)
  · have h := h.1 c28
    exact m_X10_readsInstruction_p174 G hW a0 x1 x2 x3 ka0 I26 J24 h
  · have h := h.2 c28
    refine j_aload_n G 0 0 dX10_readsInstruction_162 rfl rfl ?_
    refine j_get G hW 11 0 4 (.ref (a0 + 1)) ka0 (by decide) rfl (by decide) rfl lay_X10 fl_X10_7 rfl rfl dX10_readsInstruction_163 ?_
    refine j_iload_n G 3 3 dX10_readsInstruction_166 rfl rfl ?_
    refine j_iconst G (3 : Int32) dX10_readsInstruction_167 (by decide) ?_
    refine j_iadd G dX10_readsInstruction_168 ?_
    refine j_aload_n G 0 0 dX10_readsInstruction_169 rfl rfl ?_
    refine j_ci (rn_V G hW (ci := 11) (n := 0) (As := []) (rest := [.int (x3 + (3 : Int32)), .ref (a0 + 1)]) (c_X10_letterTaken K hW l a0 ka0 I26 J24 B _ h) ka0 (by decide) rfl ml_X10_410 im_X10_letterTaken se_X10_letterTaken in_X10 co_X10_letterTaken rfl (by decide +kernel) rfl rfl (by decide) (by decide) rfl rfl (Nat.le_of_ble_eq_true rfl) dX10_readsInstruction_170) (fun r86 ⟨I87, J88⟩ h => ?_)
    obtain ⟨b89, h⟩ := h
    refine j_iast G hW kk21 b89 dX10_readsInstruction_173 ?_
    refine j_mI (fun I90 eI90 => ?_)
    have h := h I90 eI90
    exact m_X10_readsInstruction_p174 G hW a0 x1 x2 x3 ka0 I90 J88 h
def w_X10_readsInstruction_p126 (a0 : Nat) (x1 : Int32) (x2 : Int32) (x3 : Int32)  (I : MI) (J : MJ)  (Q : MI → MJ → Prop) : Prop :=
(w_X10_isReckoning x1 (fun r19 =>
((¬ r19 = 0 → w_X10_readsInstruction_p143 a0 x1 x2 x3 I J Q) ∧
(r19 = 0 → ((x1 = (4 : Int32) → w_X10_readsInstruction_p143 a0 x1 x2 x3 I J Q) ∧
(¬ x1 = (4 : Int32) → ((¬ x1 = (5 : Int32) → (w_X10_isReckoning x1 (fun r93 =>
((r93 = 0 → w_X10_readsInstruction_p174 a0 x1 x2 x3 I J Q) ∧
(¬ r93 = 0 → (w_X10_letterTaken a0 I J (fun r96 I97 J98 =>
(vp_in (x3 + (3 : Int32)) 4905 ∧
(∀ I100, I100 = ui I97 (a0 + 1) (ix (x3 + (3 : Int32))) r96 →
w_X10_readsInstruction_p174 a0 x1 x2 x3 I100 J98 Q))))))))) ∧
(x1 = (5 : Int32) → w_X10_readsInstruction_p143 a0 x1 x2 x3 I J Q))))))))
set_option maxHeartbeats 4000000 in
set_option maxRecDepth 100000 in
theorem m_X10_readsInstruction_p126 {K : Kx} {l : Launch} {m : MethodId} {H0 : Heap} {Q : MI → MJ → Prop} {w : HW} {B : MR} (G : Gd l rm_X10_readsInstruction K m RX10 cX10_readsInstruction 5 H0 none (va_Qv (S := (MI × MJ)) (fun u => Q u.1 u.2) (fun u t => HP K (u.1, u.2, B) t.heap) (AA K)) w) (hW : WFK K) (a0 : Nat) (x1 : Int32) (x2 : Int32) (x3 : Int32)  (ka0 : (kG K a0).1 = 12)  (I : MI) (J : MJ)   (h : w_X10_readsInstruction_p126 a0 x1 x2 x3 I J Q) : Jg K m 5 H0 w 126 [(0, .ref a0), (1, .int x1), (2, .int x2), (3, .int x3)] [] (I, J, B) := by
  unfold w_X10_readsInstruction_p126 at h
  refine j_iload_n G 1 1 dX10_readsInstruction_126 rfl rfl ?_
  refine j_ci (rn_S G (n := 1) (As := [.int x1]) (rest := []) (c_X10_isReckoning K hW l x1 I J B _ h) ml_X10_62 st_X10_isReckoning in_X10 co_X10_isReckoning (by decide +kernel) rfl rfl (by decide) (by decide) rfl rfl (Nat.le_of_ble_eq_true rfl) dX10_readsInstruction_127) (fun r19 _ h => ?_)
  refine j_if_ne G 143 dX10_readsInstruction_130 (by decide) (fun c20 => ?_) (fun c20 => ?_)
  · have h := h.1 c20
    exact m_X10_readsInstruction_p143 G hW a0 x1 x2 x3 ka0 I J h
  · have h := h.2 c20
    refine j_iload_n G 1 1 dX10_readsInstruction_133 rfl rfl ?_
    refine j_iconst G (4 : Int32) dX10_readsInstruction_134 (by decide) ?_
    refine j_icmp_eq G 143 dX10_readsInstruction_135 (by decide) (fun c91 => ?_) (fun c91 => ?_)
    · have h := h.1 c91
      exact m_X10_readsInstruction_p143 G hW a0 x1 x2 x3 ka0 I J h
    · have h := h.2 c91
      refine j_iload_n G 1 1 dX10_readsInstruction_138 rfl rfl ?_
      refine j_iconst G (5 : Int32) dX10_readsInstruction_139 (by decide) ?_
      refine j_icmp_ne G 155 dX10_readsInstruction_140 (by decide) (fun c92 => ?_) (fun c92 => ?_)
      · have h := h.1 c92
        refine j_iload_n G 1 1 dX10_readsInstruction_155 rfl rfl ?_
        refine j_ci (rn_S G (n := 1) (As := [.int x1]) (rest := []) (c_X10_isReckoning K hW l x1 I J B _ h) ml_X10_62 st_X10_isReckoning in_X10 co_X10_isReckoning (by decide +kernel) rfl rfl (by decide) (by decide) rfl rfl (Nat.le_of_ble_eq_true rfl) dX10_readsInstruction_156) (fun r93 _ h => ?_)
        refine j_if_eq G 174 dX10_readsInstruction_159 (by decide) (fun c94 => ?_) (fun c94 => ?_)
        · have h := h.1 c94
          exact m_X10_readsInstruction_p174 G hW a0 x1 x2 x3 ka0 I J h
        · have h := h.2 c94
          refine j_aload_n G 0 0 dX10_readsInstruction_162 rfl rfl ?_
          have kk95 : kG K (a0 + 1) = (20, 4905) := wk_12_1 hW ka0
          refine j_get G hW 11 0 4 (.ref (a0 + 1)) ka0 (by decide) rfl (by decide) rfl lay_X10 fl_X10_7 rfl rfl dX10_readsInstruction_163 ?_
          refine j_iload_n G 3 3 dX10_readsInstruction_166 rfl rfl ?_
          refine j_iconst G (3 : Int32) dX10_readsInstruction_167 (by decide) ?_
          refine j_iadd G dX10_readsInstruction_168 ?_
          refine j_aload_n G 0 0 dX10_readsInstruction_169 rfl rfl ?_
          refine j_ci (rn_V G hW (ci := 11) (n := 0) (As := []) (rest := [.int (x3 + (3 : Int32)), .ref (a0 + 1)]) (c_X10_letterTaken K hW l a0 ka0 I J B _ h) ka0 (by decide) rfl ml_X10_410 im_X10_letterTaken se_X10_letterTaken in_X10 co_X10_letterTaken rfl (by decide +kernel) rfl rfl (by decide) (by decide) rfl rfl (Nat.le_of_ble_eq_true rfl) dX10_readsInstruction_170) (fun r96 ⟨I97, J98⟩ h => ?_)
          obtain ⟨b99, h⟩ := h
          refine j_iast G hW kk95 b99 dX10_readsInstruction_173 ?_
          refine j_mI (fun I100 eI100 => ?_)
          have h := h I100 eI100
          exact m_X10_readsInstruction_p174 G hW a0 x1 x2 x3 ka0 I100 J98 h
      · have h := h.2 c92
        exact m_X10_readsInstruction_p143 G hW a0 x1 x2 x3 ka0 I J h
def w_X10_readsInstruction_p106 (a0 : Nat) (x1 : Int32) (x2 : Int32) (x3 : Int32)  (I : MI) (J : MJ)  (Q : MI → MJ → Prop) : Prop :=
((¬ x1 = 0 → w_X10_readsInstruction_p126 a0 x1 x2 x3 I J Q) ∧
(x1 = 0 → (w_X10_numeral a0 (0 : Int32) (999 : Int32) I J (fun r102 I103 J104 =>
(vp_in (x3 + (4 : Int32)) 4905 ∧
(∀ I106, I106 = ui I103 (a0 + 1) (ix (x3 + (4 : Int32))) r102 →
w_X10_readsInstruction_p126 a0 x1 x2 x3 I106 J104 Q))))))
set_option maxHeartbeats 4000000 in
set_option maxRecDepth 100000 in
theorem m_X10_readsInstruction_p106 {K : Kx} {l : Launch} {m : MethodId} {H0 : Heap} {Q : MI → MJ → Prop} {w : HW} {B : MR} (G : Gd l rm_X10_readsInstruction K m RX10 cX10_readsInstruction 5 H0 none (va_Qv (S := (MI × MJ)) (fun u => Q u.1 u.2) (fun u t => HP K (u.1, u.2, B) t.heap) (AA K)) w) (hW : WFK K) (a0 : Nat) (x1 : Int32) (x2 : Int32) (x3 : Int32)  (ka0 : (kG K a0).1 = 12)  (I : MI) (J : MJ)   (h : w_X10_readsInstruction_p106 a0 x1 x2 x3 I J Q) : Jg K m 5 H0 w 106 [(0, .ref a0), (1, .int x1), (2, .int x2), (3, .int x3)] [] (I, J, B) := by
  unfold w_X10_readsInstruction_p106 at h
  refine j_iload_n G 1 1 dX10_readsInstruction_106 rfl rfl ?_
  refine j_if_ne G 126 dX10_readsInstruction_107 (by decide) (fun c18 => ?_) (fun c18 => ?_)
  · have h := h.1 c18
    exact m_X10_readsInstruction_p126 G hW a0 x1 x2 x3 ka0 I J h
  · have h := h.2 c18
    refine j_aload_n G 0 0 dX10_readsInstruction_110 rfl rfl ?_
    have kk101 : kG K (a0 + 1) = (20, 4905) := wk_12_1 hW ka0
    refine j_get G hW 11 0 4 (.ref (a0 + 1)) ka0 (by decide) rfl (by decide) rfl lay_X10 fl_X10_7 rfl rfl dX10_readsInstruction_111 ?_
    refine j_iload_n G 3 3 dX10_readsInstruction_114 rfl rfl ?_
    refine j_iconst G (4 : Int32) dX10_readsInstruction_115 (by decide) ?_
    refine j_iadd G dX10_readsInstruction_116 ?_
    refine j_aload_n G 0 0 dX10_readsInstruction_117 rfl rfl ?_
    refine j_iconst G (0 : Int32) dX10_readsInstruction_118 (by decide) ?_
    refine j_sipush G (999 : Int32) dX10_readsInstruction_119 (by decide) ?_
    refine j_ci (rn_V G hW (ci := 11) (n := 2) (As := [.int (0 : Int32), .int (999 : Int32)]) (rest := [.int (x3 + (4 : Int32)), .ref (a0 + 1)]) (c_X10_numeral K hW l a0 (0 : Int32) (999 : Int32) ka0 I J B _ h) ka0 (by decide) rfl ml_X10_413 im_X10_numeral se_X10_numeral in_X10 co_X10_numeral rfl (by decide +kernel) rfl rfl (by decide) (by decide) rfl rfl (Nat.le_of_ble_eq_true rfl) dX10_readsInstruction_122) (fun r102 ⟨I103, J104⟩ h => ?_)
    obtain ⟨b105, h⟩ := h
    refine j_iast G hW kk101 b105 dX10_readsInstruction_125 ?_
    refine j_mI (fun I106 eI106 => ?_)
    have h := h I106 eI106
    exact m_X10_readsInstruction_p126 G hW a0 x1 x2 x3 ka0 I106 J104 h
def w_X10_readsInstruction (a0 : Nat) (I : MI) (J : MJ) (Q : MI → MJ → Prop) : Prop :=
(w_X10_opHere a0 I J (fun r1 =>
((0 ≤ r1 → (∀ x2_4, x2_4 = I (a0 + 1) (ix (1080 : Int32)) →
((¬ x2_4 = (24 : Int32) → (w_X10_takesToken a0 I J (fun I6 J7 =>
(∀ x3_8, x3_8 = (1082 : Int32) + ((5 : Int32) * x2_4) →
Lp2 (w_X10_readsInstruction_l53 a0 r1 x2_4 x3_8 J7 (fun x4_13 I14 => (vp_in x3_8 4905 ∧
(∀ I16, I16 = ui I14 (a0 + 1) (ix x3_8) r1 →
((r1 = (6 : Int32) → w_X10_readsInstruction_p106 a0 r1 x2_4 x3_8 I16 J7 Q) ∧
(¬ r1 = (6 : Int32) → ((r1 = (8 : Int32) → w_X10_readsInstruction_p106 a0 r1 x2_4 x3_8 I16 J7 Q) ∧
(¬ r1 = (8 : Int32) → (w_X10_letterTaken a0 I16 J7 (fun r108 I109 J110 =>
(vp_in (x3_8 + (1 : Int32)) 4905 ∧
(∀ I112, I112 = ui I109 (a0 + 1) (ix (x3_8 + (1 : Int32))) r108 →
w_X10_readsInstruction_p106 a0 r1 x2_4 x3_8 I112 J110 Q))))))))))) Q) (1 : Int32) I6)))) ∧
(x2_4 = (24 : Int32) → (w_X10_alsoWrong a0 (4 : Int32) (I a0 13) I (fun I113 =>
(w_X10_takesToken a0 I113 J (fun I114 J115 =>
(∀ x3_116, x3_116 = (1082 : Int32) + ((5 : Int32) * x2_4) →
Lp2 (w_X10_readsInstruction_l53 a0 r1 x2_4 x3_116 J115 (fun x4_117 I118 => (vp_in x3_116 4905 ∧
(∀ I120, I120 = ui I118 (a0 + 1) (ix x3_116) r1 →
((r1 = (6 : Int32) → w_X10_readsInstruction_p106 a0 r1 x2_4 x3_116 I120 J115 Q) ∧
(¬ r1 = (6 : Int32) → ((r1 = (8 : Int32) → w_X10_readsInstruction_p106 a0 r1 x2_4 x3_116 I120 J115 Q) ∧
(¬ r1 = (8 : Int32) → (w_X10_letterTaken a0 I120 J115 (fun r123 I124 J125 =>
(vp_in (x3_116 + (1 : Int32)) 4905 ∧
(∀ I127, I127 = ui I124 (a0 + 1) (ix (x3_116 + (1 : Int32))) r123 →
w_X10_readsInstruction_p106 a0 r1 x2_4 x3_116 I127 J125 Q))))))))))) Q) (1 : Int32) I114))))))))) ∧
(¬ 0 ≤ r1 → (w_X10_fails a0 I (fun I128 =>
Q I128 J))))))
set_option maxHeartbeats 4000000 in
set_option maxRecDepth 100000 in
theorem c_X10_readsInstruction (K : Kx) (hW : WFK K) (l : Launch) (a0 : Nat) (k0 : (kG K a0).1 = 12) (I : MI) (J : MJ) (B : MR) (Q : MI → MJ → Prop) (h : w_X10_readsInstruction a0 I J Q) : Con K l yX10_readsInstruction (wsT yX10_readsInstruction cX10_readsInstruction 5 none) rm_X10_readsInstruction [.ref a0] (I, J, B) (va_Qv (S := (MI × MJ)) (fun u => Q u.1 u.2) (fun u t => HP K (u.1, u.2, B) t.heap) (AA K)) := by
  refine Con.ofJ RX10 rfl (by decide) (Nat.le_of_ble_eq_true rfl) (fun m H0 w G => ?_)
  unfold w_X10_readsInstruction at h
  show Jg K m 5 H0 w 0 [(0, .ref a0)] [] (I, J, B)
  refine j_aload_n G 0 0 dX10_readsInstruction_0 rfl rfl ?_
  refine j_ci (rn_V G hW (ci := 11) (n := 0) (As := []) (rest := []) (c_X10_opHere K hW l a0 k0 I J B _ h) k0 (by decide) rfl ml_X10_407 im_X10_opHere se_X10_opHere in_X10 co_X10_opHere rfl (by decide +kernel) rfl rfl (by decide) (by decide) rfl rfl (Nat.le_of_ble_eq_true rfl) dX10_readsInstruction_1) (fun r1 _ h => ?_)
  refine j_istore_n G 1 [(1, .int r1), (0, .ref a0)] dX10_readsInstruction_4 rfl (by decide) rfl ?_
  refine j_iload_n G 0 1 dX10_readsInstruction_5 rfl rfl ?_
  refine j_if_ge G 14 dX10_readsInstruction_6 (by decide) (fun c2 => ?_) (fun c2 => ?_)
  · have h := h.1 c2
    refine j_aload_n G 1 0 dX10_readsInstruction_14 rfl rfl ?_
    have kk3 : kG K (a0 + 1) = (20, 4905) := wk_12_1 hW k0
    refine j_get G hW 11 0 4 (.ref (a0 + 1)) k0 (by decide) rfl (by decide) rfl lay_X10 fl_X10_7 rfl rfl dX10_readsInstruction_15 ?_
    refine j_sipush G (1080 : Int32) dX10_readsInstruction_18 (by decide) ?_
    refine j_iald G hW kk3 (vpc rfl) dX10_readsInstruction_21 ?_
    refine j_nm (fun x2_4 ex2_4 => ?_)
    have h := h x2_4 ex2_4
    refine j_istore_n G 2 [(2, .int x2_4), (1, .int r1), (0, .ref a0)] dX10_readsInstruction_22 rfl (by decide) rfl ?_
    refine j_iload_n G 0 2 dX10_readsInstruction_23 rfl rfl ?_
    refine j_bipush G (24 : Int32) dX10_readsInstruction_24 (by decide) ?_
    refine j_icmp_ne G 38 dX10_readsInstruction_26 (by decide) (fun c5 => ?_) (fun c5 => ?_)
    · have h := h.1 c5
      refine j_aload_n G 2 0 dX10_readsInstruction_38 rfl rfl ?_
      refine j_cv (rn_V G hW (ci := 11) (n := 0) (As := []) (rest := []) (c_X10_takesToken K hW l a0 k0 I J B _ h) k0 (by decide) rfl ml_X10_341 im_X10_takesToken se_X10_takesToken in_X10 co_X10_takesToken rfl (by decide +kernel) rfl rfl (by decide) (by decide) rfl rfl (Nat.le_of_ble_eq_true rfl) dX10_readsInstruction_39) (fun ⟨I6, J7⟩ h => ?_)
      refine j_sipush G (1082 : Int32) dX10_readsInstruction_42 (by decide) ?_
      refine j_iconst G (5 : Int32) dX10_readsInstruction_45 (by decide) ?_
      refine j_iload_n G 0 2 dX10_readsInstruction_46 rfl rfl ?_
      refine j_imul G dX10_readsInstruction_47 ?_
      refine j_iadd G dX10_readsInstruction_48 ?_
      refine j_nm (fun x3_8 ex3_8 => ?_)
      have h := h x3_8 ex3_8
      refine j_istore_n G 3 [(3, .int x3_8), (2, .int x2_4), (1, .int r1), (0, .ref a0)] dX10_readsInstruction_49 rfl (by decide) rfl ?_
      refine j_iconst G (1 : Int32) dX10_readsInstruction_50 (by decide) ?_
      refine j_istore G [(4, .int (1 : Int32)), (3, .int x3_8), (2, .int x2_4), (1, .int r1), (0, .ref a0)] dX10_readsInstruction_51 (by decide) rfl ?_
      refine Jg.sub [4, 3, 2, 1, 0] rfl (m_X10_readsInstruction_l53 G hW a0 r1 x2_4 x3_8 (1 : Int32) k0 I6 J7 _ ?_ h)
      intro x4_13 I14 h
      refine j_aload_n G 0 0 dX10_readsInstruction_75 rfl rfl ?_
      refine j_get G hW 11 0 4 (.ref (a0 + 1)) k0 (by decide) rfl (by decide) rfl lay_X10 fl_X10_7 rfl rfl dX10_readsInstruction_76 ?_
      refine j_iload_n G 3 3 dX10_readsInstruction_79 rfl rfl ?_
      refine j_iload_n G 1 1 dX10_readsInstruction_80 rfl rfl ?_
      obtain ⟨b15, h⟩ := h
      refine j_iast G hW kk3 b15 dX10_readsInstruction_81 ?_
      refine j_mI (fun I16 eI16 => ?_)
      have h := h I16 eI16
      refine j_iload_n G 1 1 dX10_readsInstruction_82 rfl rfl ?_
      refine j_bipush G (6 : Int32) dX10_readsInstruction_83 (by decide) ?_
      refine j_icmp_eq G 106 dX10_readsInstruction_85 (by decide) (fun c17 => ?_) (fun c17 => ?_)
      · have h := h.1 c17
        exact m_X10_readsInstruction_p106 G hW a0 r1 x2_4 x3_8 k0 I16 J7 h
      · have h := h.2 c17
        refine j_iload_n G 1 1 dX10_readsInstruction_88 rfl rfl ?_
        refine j_bipush G (8 : Int32) dX10_readsInstruction_89 (by decide) ?_
        refine j_icmp_eq G 106 dX10_readsInstruction_91 (by decide) (fun c107 => ?_) (fun c107 => ?_)
        · have h := h.1 c107
          exact m_X10_readsInstruction_p106 G hW a0 r1 x2_4 x3_8 k0 I16 J7 h
        · have h := h.2 c107
          refine j_aload_n G 0 0 dX10_readsInstruction_94 rfl rfl ?_
          refine j_get G hW 11 0 4 (.ref (a0 + 1)) k0 (by decide) rfl (by decide) rfl lay_X10 fl_X10_7 rfl rfl dX10_readsInstruction_95 ?_
          refine j_iload_n G 3 3 dX10_readsInstruction_98 rfl rfl ?_
          refine j_iconst G (1 : Int32) dX10_readsInstruction_99 (by decide) ?_
          refine j_iadd G dX10_readsInstruction_100 ?_
          refine j_aload_n G 0 0 dX10_readsInstruction_101 rfl rfl ?_
          refine j_ci (rn_V G hW (ci := 11) (n := 0) (As := []) (rest := [.int (x3_8 + (1 : Int32)), .ref (a0 + 1)]) (c_X10_letterTaken K hW l a0 k0 I16 J7 B _ h) k0 (by decide) rfl ml_X10_410 im_X10_letterTaken se_X10_letterTaken in_X10 co_X10_letterTaken rfl (by decide +kernel) rfl rfl (by decide) (by decide) rfl rfl (Nat.le_of_ble_eq_true rfl) dX10_readsInstruction_102) (fun r108 ⟨I109, J110⟩ h => ?_)
          obtain ⟨b111, h⟩ := h
          refine j_iast G hW kk3 b111 dX10_readsInstruction_105 ?_
          refine j_mI (fun I112 eI112 => ?_)
          have h := h I112 eI112
          exact m_X10_readsInstruction_p106 G hW a0 r1 x2_4 x3_8 k0 I112 J110 h
    · have h := h.2 c5
      refine j_aload_n G 2 0 dX10_readsInstruction_29 rfl rfl ?_
      refine j_iconst G (4 : Int32) dX10_readsInstruction_30 (by decide) ?_
      refine j_aload_n G 2 0 dX10_readsInstruction_31 rfl rfl ?_
      refine j_get G hW 11 13 0 (.int (I a0 13)) k0 (by decide) rfl (by decide) rfl lay_X10 fl_X10_307 rfl rfl dX10_readsInstruction_32 ?_
      refine j_cv (rn_V G hW (ci := 11) (n := 2) (As := [.int (4 : Int32), .int (I a0 13)]) (rest := []) (c_X10_alsoWrong K hW l a0 (4 : Int32) (I a0 13) k0 I J B _ h) k0 (by decide) rfl ml_X10_347 im_X10_alsoWrong se_X10_alsoWrong in_X10 co_X10_alsoWrong rfl (by decide +kernel) rfl rfl (by decide) (by decide) rfl rfl (Nat.le_of_ble_eq_true rfl) dX10_readsInstruction_35) (fun I113 h => ?_)
      refine j_aload_n G 2 0 dX10_readsInstruction_38 rfl rfl ?_
      refine j_cv (rn_V G hW (ci := 11) (n := 0) (As := []) (rest := []) (c_X10_takesToken K hW l a0 k0 I113 J B _ h) k0 (by decide) rfl ml_X10_341 im_X10_takesToken se_X10_takesToken in_X10 co_X10_takesToken rfl (by decide +kernel) rfl rfl (by decide) (by decide) rfl rfl (Nat.le_of_ble_eq_true rfl) dX10_readsInstruction_39) (fun ⟨I114, J115⟩ h => ?_)
      refine j_sipush G (1082 : Int32) dX10_readsInstruction_42 (by decide) ?_
      refine j_iconst G (5 : Int32) dX10_readsInstruction_45 (by decide) ?_
      refine j_iload_n G 0 2 dX10_readsInstruction_46 rfl rfl ?_
      refine j_imul G dX10_readsInstruction_47 ?_
      refine j_iadd G dX10_readsInstruction_48 ?_
      refine j_nm (fun x3_116 ex3_116 => ?_)
      have h := h x3_116 ex3_116
      refine j_istore_n G 3 [(3, .int x3_116), (2, .int x2_4), (1, .int r1), (0, .ref a0)] dX10_readsInstruction_49 rfl (by decide) rfl ?_
      refine j_iconst G (1 : Int32) dX10_readsInstruction_50 (by decide) ?_
      refine j_istore G [(4, .int (1 : Int32)), (3, .int x3_116), (2, .int x2_4), (1, .int r1), (0, .ref a0)] dX10_readsInstruction_51 (by decide) rfl ?_
      refine Jg.sub [4, 3, 2, 1, 0] rfl (m_X10_readsInstruction_l53 G hW a0 r1 x2_4 x3_116 (1 : Int32) k0 I114 J115 _ ?_ h)
      intro x4_117 I118 h
      refine j_aload_n G 0 0 dX10_readsInstruction_75 rfl rfl ?_
      refine j_get G hW 11 0 4 (.ref (a0 + 1)) k0 (by decide) rfl (by decide) rfl lay_X10 fl_X10_7 rfl rfl dX10_readsInstruction_76 ?_
      refine j_iload_n G 3 3 dX10_readsInstruction_79 rfl rfl ?_
      refine j_iload_n G 1 1 dX10_readsInstruction_80 rfl rfl ?_
      obtain ⟨b119, h⟩ := h
      refine j_iast G hW kk3 b119 dX10_readsInstruction_81 ?_
      refine j_mI (fun I120 eI120 => ?_)
      have h := h I120 eI120
      refine j_iload_n G 1 1 dX10_readsInstruction_82 rfl rfl ?_
      refine j_bipush G (6 : Int32) dX10_readsInstruction_83 (by decide) ?_
      refine j_icmp_eq G 106 dX10_readsInstruction_85 (by decide) (fun c121 => ?_) (fun c121 => ?_)
      · have h := h.1 c121
        exact m_X10_readsInstruction_p106 G hW a0 r1 x2_4 x3_116 k0 I120 J115 h
      · have h := h.2 c121
        refine j_iload_n G 1 1 dX10_readsInstruction_88 rfl rfl ?_
        refine j_bipush G (8 : Int32) dX10_readsInstruction_89 (by decide) ?_
        refine j_icmp_eq G 106 dX10_readsInstruction_91 (by decide) (fun c122 => ?_) (fun c122 => ?_)
        · have h := h.1 c122
          exact m_X10_readsInstruction_p106 G hW a0 r1 x2_4 x3_116 k0 I120 J115 h
        · have h := h.2 c122
          refine j_aload_n G 0 0 dX10_readsInstruction_94 rfl rfl ?_
          refine j_get G hW 11 0 4 (.ref (a0 + 1)) k0 (by decide) rfl (by decide) rfl lay_X10 fl_X10_7 rfl rfl dX10_readsInstruction_95 ?_
          refine j_iload_n G 3 3 dX10_readsInstruction_98 rfl rfl ?_
          refine j_iconst G (1 : Int32) dX10_readsInstruction_99 (by decide) ?_
          refine j_iadd G dX10_readsInstruction_100 ?_
          refine j_aload_n G 0 0 dX10_readsInstruction_101 rfl rfl ?_
          refine j_ci (rn_V G hW (ci := 11) (n := 0) (As := []) (rest := [.int (x3_116 + (1 : Int32)), .ref (a0 + 1)]) (c_X10_letterTaken K hW l a0 k0 I120 J115 B _ h) k0 (by decide) rfl ml_X10_410 im_X10_letterTaken se_X10_letterTaken in_X10 co_X10_letterTaken rfl (by decide +kernel) rfl rfl (by decide) (by decide) rfl rfl (Nat.le_of_ble_eq_true rfl) dX10_readsInstruction_102) (fun r123 ⟨I124, J125⟩ h => ?_)
          obtain ⟨b126, h⟩ := h
          refine j_iast G hW kk3 b126 dX10_readsInstruction_105 ?_
          refine j_mI (fun I127 eI127 => ?_)
          have h := h I127 eI127
          exact m_X10_readsInstruction_p106 G hW a0 r1 x2_4 x3_116 k0 I127 J125 h
  · have h := h.2 c2
    refine j_aload_n G 1 0 dX10_readsInstruction_9 rfl rfl ?_
    refine j_cv (rn_V G hW (ci := 11) (n := 0) (As := []) (rest := []) (c_X10_fails K hW l a0 k0 I J B _ h) k0 (by decide) rfl ml_X10_344 im_X10_fails se_X10_fails in_X10 co_X10_fails rfl (by decide +kernel) rfl rfl (by decide) (by decide) rfl rfl (Nat.le_of_ble_eq_true rfl) dX10_readsInstruction_10) (fun I128 h => ?_)
    exact j_retv G (I128, J) dX10_readsInstruction_13 h rfl
