/-! the small constructors -/
abbrev rm_X0_init : Room := { frames := 1, cells := 0, slots := 0, locals := 20 }
def en_X0_init (K : Kx) (b : Nat) (E0 : Nat → va_E) : Nat → va_E := (ue E0 b (.inr (1, [.int (8 : Int32), .int 0, .int 0, .int 0, .int 0, .int (61 : Int32)])))
set_option maxRecDepth 100000 in
theorem c_X0_init (K : Kx) (l : Launch) (base n0 b : Nat) (E0 : Nat → va_E) (hbn : base + n0 = b + 1) (hbb : base ≤ b) (f0_0 : E0 b = .inr (1, [.int 0, .int 0, .int 0, .int 0, .int 0, .int 0])) : ConN K l yX0_init (wsT yX0_init cX0_init 1 none) rm_X0_init [.ref b] base n0 E0 0 0 (va_Qv (S := Unit) (fun _ => True) (fun _ t => HE K base (n0 + 0) (en_X0_init K b E0) t.heap) (AB base)) := by
  refine ConN.ofJ RX0 rfl rfl (by decide) (Nat.le_of_ble_eq_true rfl) (fun m H0 w G => ?_)
  show JN K base n0 m 1 H0 w 0 0 E0 0 [(0, .ref b)] []
  unfold en_X0_init at G
  refine n_aload_n G 0 0 dX0_init_0 rfl rfl ?_
  refine n_obj G oi_X0 oi_im oi_co (by decide) (Nat.le_of_ble_eq_true rfl) dX0_init_1 ?_
  refine n_aload_n G 0 0 dX0_init_4 rfl rfl ?_
  refine n_bipush G (8 : Int32) dX0_init_5 (by decide) ?_
  refine n_put' G 1 b 0 [.int (8 : Int32), .int 0, .int 0, .int 0, .int 0, .int 0] tyX0 (tyX0 0) rfl tyX0_ok nmX0 (by omega) (by omega) f0_0 rfl (by decide) lay_X0 fl_X0_9 rfl rfl (tyX0_ok 0 (by decide)) rfl rfl (Nat.le_of_ble_eq_true rfl) dX0_init_7 (fun E1 e1 => ?_)
  have f1_0 : E1 b = .inr (1, [.int (8 : Int32), .int 0, .int 0, .int 0, .int 0, .int 0]) := by rw [e1, ue_at]
  refine n_aload_n G 0 0 dX0_init_10 rfl rfl ?_
  refine n_bipush G (61 : Int32) dX0_init_11 (by decide) ?_
  refine n_put' G 1 b 5 [.int (8 : Int32), .int 0, .int 0, .int 0, .int 0, .int (61 : Int32)] tyX0 (tyX0 5) rfl tyX0_ok nmX0 (by omega) (by omega) f1_0 rfl (by decide) lay_X0 fl_X0_15 rfl rfl (tyX0_ok 5 (by decide)) (by decide) (by decide) (Nat.le_of_ble_eq_true rfl) dX0_init_13 (fun E2 e2 => ?_)
  have f2_0 : E2 b = .inr (1, [.int (8 : Int32), .int 0, .int 0, .int 0, .int 0, .int (61 : Int32)]) := by rw [e2, ue_at]
  refine n_retv' G rfl rfl (fun q _ _ => ?_) dX0_init_16
  by_cases h0 : q = b
  · subst h0; rw [f2_0, ue_at]
  rw [e2, ue_ne _ _ h0, e1, ue_ne _ _ h0]
  rw [ue_ne _ _ h0]
abbrev rm_X3_init : Room := { frames := 1, cells := 2, slots := 12, locals := 20 }
def en_X3_init (K : Kx) (b : Nat) (E0 : Nat → va_E) : Nat → va_E := (ue (ue (ue E0 (b + 1) (.inl (kC K 20, 6, .inl (fun _ => 0)))) (b + 2) (.inl (kC K 20, 6, .inl (fun _ => 0)))) b (.inr (4, [.ref (b + 1), .ref (b + 2), .int 0, .int 0, .int 0])))
set_option maxRecDepth 100000 in
theorem c_X3_init (K : Kx) (l : Launch) (base n0 b : Nat) (E0 : Nat → va_E) (hbn : base + n0 = b + 1) (hbb : base ≤ b) (f0_0 : E0 b = .inr (4, [.null, .null, .int 0, .int 0, .int 0])) : ConN K l yX3_init (wsT yX3_init cX3_init 1 none) rm_X3_init [.ref b] base n0 E0 2 12 (va_Qv (S := Unit) (fun _ => True) (fun _ t => HE K base (n0 + 2) (en_X3_init K b E0) t.heap) (AB base)) := by
  refine ConN.ofJ RX3 rfl rfl (by decide) (Nat.le_of_ble_eq_true rfl) (fun m H0 w G => ?_)
  show JN K base n0 m 1 H0 w 0 0 E0 0 [(0, .ref b)] []
  unfold en_X3_init at G
  refine n_aload_n G 0 0 dX3_init_0 rfl rfl ?_
  refine n_obj G oi_X3 oi_im oi_co (by decide) (Nat.le_of_ble_eq_true rfl) dX3_init_1 ?_
  refine n_aload_n G 0 0 dX3_init_4 rfl rfl ?_
  refine n_bipush G (6 : Int32) dX3_init_5 (by decide) ?_
  refine n_newa' G (atype := .int) (ty := .int) 0 20 (b + 1) 1 6 6 (a0 := .inl (fun _ => 0)) (by omega) rfl rfl rfl ar_int rfl (fun _ _ h => h) (fun _ => rfl) (by decide) (by decide) (Nat.le_of_ble_eq_true rfl) (by decide) (Nat.le_of_ble_eq_true rfl) (by omega) dX3_init_7 (fun E1 e1 => ?_)
  have f1_0 : E1 b = .inr (4, [.null, .null, .int 0, .int 0, .int 0]) := by rw [e1, ue_ne _ _ (by omega)]; exact f0_0
  have f1_1 : E1 (b + 1) = .inl (kC K 20, 6, .inl (fun _ => 0)) := by rw [e1, ue_at]
  refine n_putF' G 4 b 0 [.ref (b + 1), .null, .int 0, .int 0, .int 0] tyX3 (tyX3 0) rfl tyX3_ok nmX3 (by omega) (by omega) f1_0 rfl (by decide) lay_X3 fl_X3_9 rfl rfl rfl (tyX3_ok 0 (by decide)) rfl rfl (Nat.le_of_ble_eq_true rfl) dX3_init_9 (fun E2 e2 => ?_)
  have f2_0 : E2 b = .inr (4, [.ref (b + 1), .null, .int 0, .int 0, .int 0]) := by rw [e2, ue_at]
  have f2_1 : E2 (b + 1) = .inl (kC K 20, 6, .inl (fun _ => 0)) := by rw [e2, ue_ne _ _ (by omega)]; exact f1_1
  refine n_aload_n G 0 0 dX3_init_12 rfl rfl ?_
  refine n_bipush G (6 : Int32) dX3_init_13 (by decide) ?_
  refine n_newa' G (atype := .int) (ty := .int) 0 20 (b + 2) 2 12 6 (a0 := .inl (fun _ => 0)) (by omega) rfl rfl rfl ar_int rfl (fun _ _ h => h) (fun _ => rfl) (by decide) (by decide) (Nat.le_of_ble_eq_true rfl) (by decide) (Nat.le_of_ble_eq_true rfl) (by omega) dX3_init_15 (fun E3 e3 => ?_)
  have f3_0 : E3 b = .inr (4, [.ref (b + 1), .null, .int 0, .int 0, .int 0]) := by rw [e3, ue_ne _ _ (by omega)]; exact f2_0
  have f3_1 : E3 (b + 1) = .inl (kC K 20, 6, .inl (fun _ => 0)) := by rw [e3, ue_ne _ _ (by omega)]; exact f2_1
  have f3_2 : E3 (b + 2) = .inl (kC K 20, 6, .inl (fun _ => 0)) := by rw [e3, ue_at]
  refine n_putF' G 4 b 1 [.ref (b + 1), .ref (b + 2), .int 0, .int 0, .int 0] tyX3 (tyX3 1) rfl tyX3_ok nmX3 (by omega) (by omega) f3_0 rfl (by decide) lay_X3 fl_X3_15 rfl rfl rfl (tyX3_ok 1 (by decide)) rfl rfl (Nat.le_of_ble_eq_true rfl) dX3_init_17 (fun E4 e4 => ?_)
  have f4_0 : E4 b = .inr (4, [.ref (b + 1), .ref (b + 2), .int 0, .int 0, .int 0]) := by rw [e4, ue_at]
  have f4_1 : E4 (b + 1) = .inl (kC K 20, 6, .inl (fun _ => 0)) := by rw [e4, ue_ne _ _ (by omega)]; exact f3_1
  have f4_2 : E4 (b + 2) = .inl (kC K 20, 6, .inl (fun _ => 0)) := by rw [e4, ue_ne _ _ (by omega)]; exact f3_2
  refine n_retv' G rfl rfl (fun q _ _ => ?_) dX3_init_20
  by_cases h0 : q = b
  · subst h0; rw [f4_0, ue_at]
  by_cases h1 : q = b + 1
  · subst h1; rw [f4_1, ue_ne _ _ (by omega), ue_ne _ _ (by omega), ue_at]
  by_cases h2 : q = b + 2
  · subst h2; rw [f4_2, ue_ne _ _ (by omega), ue_at]
  rw [e4, ue_ne _ _ h0, e3, ue_ne _ _ h2, e2, ue_ne _ _ h0, e1, ue_ne _ _ h1]
  rw [ue_ne _ _ h0, ue_ne _ _ h2, ue_ne _ _ h1]
abbrev rm_X5_init : Room := { frames := 1, cells := 2, slots := 58, locals := 20 }
def en_X5_init (K : Kx) (b : Nat) (x : Int32) (E0 : Nat → va_E) : Nat → va_E := (ue (ue (ue E0 (b + 1) (.inl (kC K 20, 8, .inl (fun _ => 0)))) (b + 2) (.inl (kC K 20, 50, .inl (fun _ => 0)))) b (.inr (6, [.int x, .int 0, .int 0, .int 0, .int 0, .int 0, .int 0, .ref (b + 1), .ref (b + 2)])))
set_option maxRecDepth 100000 in
theorem c_X5_init (K : Kx) (l : Launch) (base n0 b : Nat) (x : Int32) (E0 : Nat → va_E) (hbn : base + n0 = b + 1) (hbb : base ≤ b) (f0_0 : E0 b = .inr (6, [.int 0, .int 0, .int 0, .int 0, .int 0, .int 0, .int 0, .null, .null])) : ConN K l yX5_init (wsT yX5_init cX5_init 2 none) rm_X5_init [.ref b, .int x] base n0 E0 2 58 (va_Qv (S := Unit) (fun _ => True) (fun _ t => HE K base (n0 + 2) (en_X5_init K b x E0) t.heap) (AB base)) := by
  refine ConN.ofJ RX5 rfl rfl (by decide) (Nat.le_of_ble_eq_true rfl) (fun m H0 w G => ?_)
  show JN K base n0 m 2 H0 w 0 0 E0 0 [(0, .ref b), (1, .int x)] []
  unfold en_X5_init at G
  refine n_aload_n G 0 0 dX5_init_0 rfl rfl ?_
  refine n_obj G oi_X5 oi_im oi_co (by decide) (Nat.le_of_ble_eq_true rfl) dX5_init_1 ?_
  refine n_aload_n G 0 0 dX5_init_4 rfl rfl ?_
  refine n_bipush G (8 : Int32) dX5_init_5 (by decide) ?_
  refine n_newa' G (atype := .int) (ty := .int) 0 20 (b + 1) 1 8 8 (a0 := .inl (fun _ => 0)) (by omega) rfl rfl rfl ar_int rfl (fun _ _ h => h) (fun _ => rfl) (by decide) (by decide) (Nat.le_of_ble_eq_true rfl) (by decide) (Nat.le_of_ble_eq_true rfl) (by omega) dX5_init_7 (fun E1 e1 => ?_)
  have f1_0 : E1 b = .inr (6, [.int 0, .int 0, .int 0, .int 0, .int 0, .int 0, .int 0, .null, .null]) := by rw [e1, ue_ne _ _ (by omega)]; exact f0_0
  have f1_1 : E1 (b + 1) = .inl (kC K 20, 8, .inl (fun _ => 0)) := by rw [e1, ue_at]
  refine n_putF' G 6 b 7 [.int 0, .int 0, .int 0, .int 0, .int 0, .int 0, .int 0, .ref (b + 1), .null] tyX5 (tyX5 7) rfl tyX5_ok nmX5 (by omega) (by omega) f1_0 rfl (by decide) lay_X5 fl_X5_9 rfl rfl rfl (tyX5_ok 7 (by decide)) rfl rfl (Nat.le_of_ble_eq_true rfl) dX5_init_9 (fun E2 e2 => ?_)
  have f2_0 : E2 b = .inr (6, [.int 0, .int 0, .int 0, .int 0, .int 0, .int 0, .int 0, .ref (b + 1), .null]) := by rw [e2, ue_at]
  have f2_1 : E2 (b + 1) = .inl (kC K 20, 8, .inl (fun _ => 0)) := by rw [e2, ue_ne _ _ (by omega)]; exact f1_1
  refine n_aload_n G 0 0 dX5_init_12 rfl rfl ?_
  refine n_bipush G (50 : Int32) dX5_init_13 (by decide) ?_
  refine n_newa' G (atype := .int) (ty := .int) 0 20 (b + 2) 2 58 50 (a0 := .inl (fun _ => 0)) (by omega) rfl rfl rfl ar_int rfl (fun _ _ h => h) (fun _ => rfl) (by decide) (by decide) (Nat.le_of_ble_eq_true rfl) (by decide) (Nat.le_of_ble_eq_true rfl) (by omega) dX5_init_15 (fun E3 e3 => ?_)
  have f3_0 : E3 b = .inr (6, [.int 0, .int 0, .int 0, .int 0, .int 0, .int 0, .int 0, .ref (b + 1), .null]) := by rw [e3, ue_ne _ _ (by omega)]; exact f2_0
  have f3_1 : E3 (b + 1) = .inl (kC K 20, 8, .inl (fun _ => 0)) := by rw [e3, ue_ne _ _ (by omega)]; exact f2_1
  have f3_2 : E3 (b + 2) = .inl (kC K 20, 50, .inl (fun _ => 0)) := by rw [e3, ue_at]
  refine n_putF' G 6 b 8 [.int 0, .int 0, .int 0, .int 0, .int 0, .int 0, .int 0, .ref (b + 1), .ref (b + 2)] tyX5 (tyX5 8) rfl tyX5_ok nmX5 (by omega) (by omega) f3_0 rfl (by decide) lay_X5 fl_X5_15 rfl rfl rfl (tyX5_ok 8 (by decide)) rfl rfl (Nat.le_of_ble_eq_true rfl) dX5_init_17 (fun E4 e4 => ?_)
  have f4_0 : E4 b = .inr (6, [.int 0, .int 0, .int 0, .int 0, .int 0, .int 0, .int 0, .ref (b + 1), .ref (b + 2)]) := by rw [e4, ue_at]
  have f4_1 : E4 (b + 1) = .inl (kC K 20, 8, .inl (fun _ => 0)) := by rw [e4, ue_ne _ _ (by omega)]; exact f3_1
  have f4_2 : E4 (b + 2) = .inl (kC K 20, 50, .inl (fun _ => 0)) := by rw [e4, ue_ne _ _ (by omega)]; exact f3_2
  refine n_aload_n G 0 0 dX5_init_20 rfl rfl ?_
  refine n_iload_n G 1 1 dX5_init_21 rfl rfl ?_
  refine n_putF' G 6 b 0 [.int x, .int 0, .int 0, .int 0, .int 0, .int 0, .int 0, .ref (b + 1), .ref (b + 2)] tyX5 (tyX5 0) rfl tyX5_ok nmX5 (by omega) (by omega) f4_0 rfl (by decide) lay_X5 fl_X5_18 rfl rfl rfl (tyX5_ok 0 (by decide)) rfl rfl (Nat.le_of_ble_eq_true rfl) dX5_init_22 (fun E5 e5 => ?_)
  have f5_0 : E5 b = .inr (6, [.int x, .int 0, .int 0, .int 0, .int 0, .int 0, .int 0, .ref (b + 1), .ref (b + 2)]) := by rw [e5, ue_at]
  have f5_1 : E5 (b + 1) = .inl (kC K 20, 8, .inl (fun _ => 0)) := by rw [e5, ue_ne _ _ (by omega)]; exact f4_1
  have f5_2 : E5 (b + 2) = .inl (kC K 20, 50, .inl (fun _ => 0)) := by rw [e5, ue_ne _ _ (by omega)]; exact f4_2
  refine n_retv' G rfl rfl (fun q _ _ => ?_) dX5_init_25
  by_cases h0 : q = b
  · subst h0; rw [f5_0, ue_at]
  by_cases h1 : q = b + 1
  · subst h1; rw [f5_1, ue_ne _ _ (by omega), ue_ne _ _ (by omega), ue_at]
  by_cases h2 : q = b + 2
  · subst h2; rw [f5_2, ue_ne _ _ (by omega), ue_at]
  rw [e5, ue_ne _ _ h0, e4, ue_ne _ _ h0, e3, ue_ne _ _ h2, e2, ue_ne _ _ h0, e1, ue_ne _ _ h1]
  rw [ue_ne _ _ h0, ue_ne _ _ h2, ue_ne _ _ h1]
abbrev rm_X6_init : Room := { frames := 1, cells := 2, slots := 40, locals := 20 }
def en_X6_init (K : Kx) (b : Nat) (E0 : Nat → va_E) : Nat → va_E := (ue (ue (ue E0 (b + 1) (.inl (kC K 20, 8, .inl (fun _ => 0)))) (b + 2) (.inl (kC K 20, 32, .inl (fun _ => 0)))) b (.inr (7, [.ref (b + 1), .ref (b + 2), .int 0, .int 0, .int 0])))
set_option maxRecDepth 100000 in
theorem c_X6_init (K : Kx) (l : Launch) (base n0 b : Nat) (E0 : Nat → va_E) (hbn : base + n0 = b + 1) (hbb : base ≤ b) (f0_0 : E0 b = .inr (7, [.null, .null, .int 0, .int 0, .int 0])) : ConN K l yX6_init (wsT yX6_init cX6_init 1 none) rm_X6_init [.ref b] base n0 E0 2 40 (va_Qv (S := Unit) (fun _ => True) (fun _ t => HE K base (n0 + 2) (en_X6_init K b E0) t.heap) (AB base)) := by
  refine ConN.ofJ RX6 rfl rfl (by decide) (Nat.le_of_ble_eq_true rfl) (fun m H0 w G => ?_)
  show JN K base n0 m 1 H0 w 0 0 E0 0 [(0, .ref b)] []
  unfold en_X6_init at G
  refine n_aload_n G 0 0 dX6_init_0 rfl rfl ?_
  refine n_obj G oi_X6 oi_im oi_co (by decide) (Nat.le_of_ble_eq_true rfl) dX6_init_1 ?_
  refine n_aload_n G 0 0 dX6_init_4 rfl rfl ?_
  refine n_bipush G (8 : Int32) dX6_init_5 (by decide) ?_
  refine n_newa' G (atype := .int) (ty := .int) 0 20 (b + 1) 1 8 8 (a0 := .inl (fun _ => 0)) (by omega) rfl rfl rfl ar_int rfl (fun _ _ h => h) (fun _ => rfl) (by decide) (by decide) (Nat.le_of_ble_eq_true rfl) (by decide) (Nat.le_of_ble_eq_true rfl) (by omega) dX6_init_7 (fun E1 e1 => ?_)
  have f1_0 : E1 b = .inr (7, [.null, .null, .int 0, .int 0, .int 0]) := by rw [e1, ue_ne _ _ (by omega)]; exact f0_0
  have f1_1 : E1 (b + 1) = .inl (kC K 20, 8, .inl (fun _ => 0)) := by rw [e1, ue_at]
  refine n_putF' G 7 b 0 [.ref (b + 1), .null, .int 0, .int 0, .int 0] tyX6 (tyX6 0) rfl tyX6_ok nmX6 (by omega) (by omega) f1_0 rfl (by decide) lay_X6 fl_X6_9 rfl rfl rfl (tyX6_ok 0 (by decide)) rfl rfl (Nat.le_of_ble_eq_true rfl) dX6_init_9 (fun E2 e2 => ?_)
  have f2_0 : E2 b = .inr (7, [.ref (b + 1), .null, .int 0, .int 0, .int 0]) := by rw [e2, ue_at]
  have f2_1 : E2 (b + 1) = .inl (kC K 20, 8, .inl (fun _ => 0)) := by rw [e2, ue_ne _ _ (by omega)]; exact f1_1
  refine n_aload_n G 0 0 dX6_init_12 rfl rfl ?_
  refine n_bipush G (32 : Int32) dX6_init_13 (by decide) ?_
  refine n_newa' G (atype := .int) (ty := .int) 0 20 (b + 2) 2 40 32 (a0 := .inl (fun _ => 0)) (by omega) rfl rfl rfl ar_int rfl (fun _ _ h => h) (fun _ => rfl) (by decide) (by decide) (Nat.le_of_ble_eq_true rfl) (by decide) (Nat.le_of_ble_eq_true rfl) (by omega) dX6_init_15 (fun E3 e3 => ?_)
  have f3_0 : E3 b = .inr (7, [.ref (b + 1), .null, .int 0, .int 0, .int 0]) := by rw [e3, ue_ne _ _ (by omega)]; exact f2_0
  have f3_1 : E3 (b + 1) = .inl (kC K 20, 8, .inl (fun _ => 0)) := by rw [e3, ue_ne _ _ (by omega)]; exact f2_1
  have f3_2 : E3 (b + 2) = .inl (kC K 20, 32, .inl (fun _ => 0)) := by rw [e3, ue_at]
  refine n_putF' G 7 b 1 [.ref (b + 1), .ref (b + 2), .int 0, .int 0, .int 0] tyX6 (tyX6 1) rfl tyX6_ok nmX6 (by omega) (by omega) f3_0 rfl (by decide) lay_X6 fl_X6_15 rfl rfl rfl (tyX6_ok 1 (by decide)) rfl rfl (Nat.le_of_ble_eq_true rfl) dX6_init_17 (fun E4 e4 => ?_)
  have f4_0 : E4 b = .inr (7, [.ref (b + 1), .ref (b + 2), .int 0, .int 0, .int 0]) := by rw [e4, ue_at]
  have f4_1 : E4 (b + 1) = .inl (kC K 20, 8, .inl (fun _ => 0)) := by rw [e4, ue_ne _ _ (by omega)]; exact f3_1
  have f4_2 : E4 (b + 2) = .inl (kC K 20, 32, .inl (fun _ => 0)) := by rw [e4, ue_ne _ _ (by omega)]; exact f3_2
  refine n_retv' G rfl rfl (fun q _ _ => ?_) dX6_init_20
  by_cases h0 : q = b
  · subst h0; rw [f4_0, ue_at]
  by_cases h1 : q = b + 1
  · subst h1; rw [f4_1, ue_ne _ _ (by omega), ue_ne _ _ (by omega), ue_at]
  by_cases h2 : q = b + 2
  · subst h2; rw [f4_2, ue_ne _ _ (by omega), ue_at]
  rw [e4, ue_ne _ _ h0, e3, ue_ne _ _ h2, e2, ue_ne _ _ h0, e1, ue_ne _ _ h1]
  rw [ue_ne _ _ h0, ue_ne _ _ h2, ue_ne _ _ h1]
abbrev rm_X7_init : Room := { frames := 1, cells := 5, slots := 2404, locals := 20 }
def en_X7_init (K : Kx) (b : Nat) (E0 : Nat → va_E) : Nat → va_E := (ue (ue (ue (ue (ue (ue E0 (b + 1) (.inl (kC K 20, 601, .inl (fun _ => 0)))) (b + 2) (.inl (kC K 20, 601, .inl (fun _ => 0)))) (b + 3) (.inl (kC K 20, 601, .inl (fun _ => 0)))) (b + 4) (.inl (kC K 20, 601, .inl (fun _ => 0)))) (b + 5) (.inl (kC K 21, 0, .inl (fun _ => 0)))) b (.inr (8, [.ref (b + 1), .ref (b + 2), .ref (b + 3), .ref (b + 4), .int 0, .ref (b + 5), .int 0])))
set_option maxRecDepth 100000 in
theorem c_X7_init (K : Kx) (l : Launch) (base n0 b : Nat) (E0 : Nat → va_E) (hbn : base + n0 = b + 1) (hbb : base ≤ b) (f0_0 : E0 b = .inr (8, [.null, .null, .null, .null, .int 0, .null, .int 0])) : ConN K l yX7_init (wsT yX7_init cX7_init 1 none) rm_X7_init [.ref b] base n0 E0 5 2404 (va_Qv (S := Unit) (fun _ => True) (fun _ t => HE K base (n0 + 5) (en_X7_init K b E0) t.heap) (AB base)) := by
  refine ConN.ofJ RX7 rfl rfl (by decide) (Nat.le_of_ble_eq_true rfl) (fun m H0 w G => ?_)
  show JN K base n0 m 1 H0 w 0 0 E0 0 [(0, .ref b)] []
  unfold en_X7_init at G
  refine n_aload_n G 0 0 dX7_init_0 rfl rfl ?_
  refine n_obj G oi_X7 oi_im oi_co (by decide) (Nat.le_of_ble_eq_true rfl) dX7_init_1 ?_
  refine n_aload_n G 0 0 dX7_init_4 rfl rfl ?_
  refine n_sipush G (601 : Int32) dX7_init_5 (by decide) ?_
  refine n_newa' G (atype := .int) (ty := .int) 0 20 (b + 1) 1 601 601 (a0 := .inl (fun _ => 0)) (by omega) rfl rfl rfl ar_int rfl (fun _ _ h => h) (fun _ => rfl) (by decide) (by decide) (Nat.le_of_ble_eq_true rfl) (by decide) (Nat.le_of_ble_eq_true rfl) (by omega) dX7_init_8 (fun E1 e1 => ?_)
  have f1_0 : E1 b = .inr (8, [.null, .null, .null, .null, .int 0, .null, .int 0]) := by rw [e1, ue_ne _ _ (by omega)]; exact f0_0
  have f1_1 : E1 (b + 1) = .inl (kC K 20, 601, .inl (fun _ => 0)) := by rw [e1, ue_at]
  refine n_putF' G 8 b 0 [.ref (b + 1), .null, .null, .null, .int 0, .null, .int 0] tyX7 (tyX7 0) rfl tyX7_ok nmX7 (by omega) (by omega) f1_0 rfl (by decide) lay_X7 fl_X7_9 rfl rfl rfl (tyX7_ok 0 (by decide)) rfl rfl (Nat.le_of_ble_eq_true rfl) dX7_init_10 (fun E2 e2 => ?_)
  have f2_0 : E2 b = .inr (8, [.ref (b + 1), .null, .null, .null, .int 0, .null, .int 0]) := by rw [e2, ue_at]
  have f2_1 : E2 (b + 1) = .inl (kC K 20, 601, .inl (fun _ => 0)) := by rw [e2, ue_ne _ _ (by omega)]; exact f1_1
  refine n_aload_n G 0 0 dX7_init_13 rfl rfl ?_
  refine n_sipush G (601 : Int32) dX7_init_14 (by decide) ?_
  refine n_newa' G (atype := .int) (ty := .int) 0 20 (b + 2) 2 1202 601 (a0 := .inl (fun _ => 0)) (by omega) rfl rfl rfl ar_int rfl (fun _ _ h => h) (fun _ => rfl) (by decide) (by decide) (Nat.le_of_ble_eq_true rfl) (by decide) (Nat.le_of_ble_eq_true rfl) (by omega) dX7_init_17 (fun E3 e3 => ?_)
  have f3_0 : E3 b = .inr (8, [.ref (b + 1), .null, .null, .null, .int 0, .null, .int 0]) := by rw [e3, ue_ne _ _ (by omega)]; exact f2_0
  have f3_1 : E3 (b + 1) = .inl (kC K 20, 601, .inl (fun _ => 0)) := by rw [e3, ue_ne _ _ (by omega)]; exact f2_1
  have f3_2 : E3 (b + 2) = .inl (kC K 20, 601, .inl (fun _ => 0)) := by rw [e3, ue_at]
  refine n_putF' G 8 b 1 [.ref (b + 1), .ref (b + 2), .null, .null, .int 0, .null, .int 0] tyX7 (tyX7 1) rfl tyX7_ok nmX7 (by omega) (by omega) f3_0 rfl (by decide) lay_X7 fl_X7_15 rfl rfl rfl (tyX7_ok 1 (by decide)) rfl rfl (Nat.le_of_ble_eq_true rfl) dX7_init_19 (fun E4 e4 => ?_)
  have f4_0 : E4 b = .inr (8, [.ref (b + 1), .ref (b + 2), .null, .null, .int 0, .null, .int 0]) := by rw [e4, ue_at]
  have f4_1 : E4 (b + 1) = .inl (kC K 20, 601, .inl (fun _ => 0)) := by rw [e4, ue_ne _ _ (by omega)]; exact f3_1
  have f4_2 : E4 (b + 2) = .inl (kC K 20, 601, .inl (fun _ => 0)) := by rw [e4, ue_ne _ _ (by omega)]; exact f3_2
  refine n_aload_n G 0 0 dX7_init_22 rfl rfl ?_
  refine n_sipush G (601 : Int32) dX7_init_23 (by decide) ?_
  refine n_newa' G (atype := .int) (ty := .int) 0 20 (b + 3) 3 1803 601 (a0 := .inl (fun _ => 0)) (by omega) rfl rfl rfl ar_int rfl (fun _ _ h => h) (fun _ => rfl) (by decide) (by decide) (Nat.le_of_ble_eq_true rfl) (by decide) (Nat.le_of_ble_eq_true rfl) (by omega) dX7_init_26 (fun E5 e5 => ?_)
  have f5_0 : E5 b = .inr (8, [.ref (b + 1), .ref (b + 2), .null, .null, .int 0, .null, .int 0]) := by rw [e5, ue_ne _ _ (by omega)]; exact f4_0
  have f5_1 : E5 (b + 1) = .inl (kC K 20, 601, .inl (fun _ => 0)) := by rw [e5, ue_ne _ _ (by omega)]; exact f4_1
  have f5_2 : E5 (b + 2) = .inl (kC K 20, 601, .inl (fun _ => 0)) := by rw [e5, ue_ne _ _ (by omega)]; exact f4_2
  have f5_3 : E5 (b + 3) = .inl (kC K 20, 601, .inl (fun _ => 0)) := by rw [e5, ue_at]
  refine n_putF' G 8 b 2 [.ref (b + 1), .ref (b + 2), .ref (b + 3), .null, .int 0, .null, .int 0] tyX7 (tyX7 2) rfl tyX7_ok nmX7 (by omega) (by omega) f5_0 rfl (by decide) lay_X7 fl_X7_18 rfl rfl rfl (tyX7_ok 2 (by decide)) rfl rfl (Nat.le_of_ble_eq_true rfl) dX7_init_28 (fun E6 e6 => ?_)
  have f6_0 : E6 b = .inr (8, [.ref (b + 1), .ref (b + 2), .ref (b + 3), .null, .int 0, .null, .int 0]) := by rw [e6, ue_at]
  have f6_1 : E6 (b + 1) = .inl (kC K 20, 601, .inl (fun _ => 0)) := by rw [e6, ue_ne _ _ (by omega)]; exact f5_1
  have f6_2 : E6 (b + 2) = .inl (kC K 20, 601, .inl (fun _ => 0)) := by rw [e6, ue_ne _ _ (by omega)]; exact f5_2
  have f6_3 : E6 (b + 3) = .inl (kC K 20, 601, .inl (fun _ => 0)) := by rw [e6, ue_ne _ _ (by omega)]; exact f5_3
  refine n_aload_n G 0 0 dX7_init_31 rfl rfl ?_
  refine n_sipush G (601 : Int32) dX7_init_32 (by decide) ?_
  refine n_newa' G (atype := .int) (ty := .int) 0 20 (b + 4) 4 2404 601 (a0 := .inl (fun _ => 0)) (by omega) rfl rfl rfl ar_int rfl (fun _ _ h => h) (fun _ => rfl) (by decide) (by decide) (Nat.le_of_ble_eq_true rfl) (by decide) (Nat.le_of_ble_eq_true rfl) (by omega) dX7_init_35 (fun E7 e7 => ?_)
  have f7_0 : E7 b = .inr (8, [.ref (b + 1), .ref (b + 2), .ref (b + 3), .null, .int 0, .null, .int 0]) := by rw [e7, ue_ne _ _ (by omega)]; exact f6_0
  have f7_1 : E7 (b + 1) = .inl (kC K 20, 601, .inl (fun _ => 0)) := by rw [e7, ue_ne _ _ (by omega)]; exact f6_1
  have f7_2 : E7 (b + 2) = .inl (kC K 20, 601, .inl (fun _ => 0)) := by rw [e7, ue_ne _ _ (by omega)]; exact f6_2
  have f7_3 : E7 (b + 3) = .inl (kC K 20, 601, .inl (fun _ => 0)) := by rw [e7, ue_ne _ _ (by omega)]; exact f6_3
  have f7_4 : E7 (b + 4) = .inl (kC K 20, 601, .inl (fun _ => 0)) := by rw [e7, ue_at]
  refine n_putF' G 8 b 3 [.ref (b + 1), .ref (b + 2), .ref (b + 3), .ref (b + 4), .int 0, .null, .int 0] tyX7 (tyX7 3) rfl tyX7_ok nmX7 (by omega) (by omega) f7_0 rfl (by decide) lay_X7 fl_X7_21 rfl rfl rfl (tyX7_ok 3 (by decide)) rfl rfl (Nat.le_of_ble_eq_true rfl) dX7_init_37 (fun E8 e8 => ?_)
  have f8_0 : E8 b = .inr (8, [.ref (b + 1), .ref (b + 2), .ref (b + 3), .ref (b + 4), .int 0, .null, .int 0]) := by rw [e8, ue_at]
  have f8_1 : E8 (b + 1) = .inl (kC K 20, 601, .inl (fun _ => 0)) := by rw [e8, ue_ne _ _ (by omega)]; exact f7_1
  have f8_2 : E8 (b + 2) = .inl (kC K 20, 601, .inl (fun _ => 0)) := by rw [e8, ue_ne _ _ (by omega)]; exact f7_2
  have f8_3 : E8 (b + 3) = .inl (kC K 20, 601, .inl (fun _ => 0)) := by rw [e8, ue_ne _ _ (by omega)]; exact f7_3
  have f8_4 : E8 (b + 4) = .inl (kC K 20, 601, .inl (fun _ => 0)) := by rw [e8, ue_ne _ _ (by omega)]; exact f7_4
  refine n_aload_n G 0 0 dX7_init_40 rfl rfl ?_
  refine n_iconst G (0 : Int32) dX7_init_41 (by decide) ?_
  refine n_newa' G (atype := .byte) (ty := .byte) 1 21 (b + 5) 5 2404 0 (a0 := .inl (fun _ => 0)) (by omega) rfl rfl rfl ar_byte rfl (fun _ _ h => h) (fun _ => rfl) (by decide) (by decide) (Nat.le_of_ble_eq_true rfl) (by decide) (Nat.le_of_ble_eq_true rfl) (by omega) dX7_init_42 (fun E9 e9 => ?_)
  have f9_0 : E9 b = .inr (8, [.ref (b + 1), .ref (b + 2), .ref (b + 3), .ref (b + 4), .int 0, .null, .int 0]) := by rw [e9, ue_ne _ _ (by omega)]; exact f8_0
  have f9_1 : E9 (b + 1) = .inl (kC K 20, 601, .inl (fun _ => 0)) := by rw [e9, ue_ne _ _ (by omega)]; exact f8_1
  have f9_2 : E9 (b + 2) = .inl (kC K 20, 601, .inl (fun _ => 0)) := by rw [e9, ue_ne _ _ (by omega)]; exact f8_2
  have f9_3 : E9 (b + 3) = .inl (kC K 20, 601, .inl (fun _ => 0)) := by rw [e9, ue_ne _ _ (by omega)]; exact f8_3
  have f9_4 : E9 (b + 4) = .inl (kC K 20, 601, .inl (fun _ => 0)) := by rw [e9, ue_ne _ _ (by omega)]; exact f8_4
  have f9_5 : E9 (b + 5) = .inl (kC K 21, 0, .inl (fun _ => 0)) := by rw [e9, ue_at]
  refine n_put' G 8 b 5 [.ref (b + 1), .ref (b + 2), .ref (b + 3), .ref (b + 4), .int 0, .ref (b + 5), .int 0] tyX7 (tyX7 5) rfl tyX7_ok nmX7 (by omega) (by omega) f9_0 rfl (by decide) lay_X7 fl_X7_24 rfl rfl (tyX7_ok 5 (by decide)) rfl rfl (Nat.le_of_ble_eq_true rfl) dX7_init_44 (fun E10 e10 => ?_)
  have f10_0 : E10 b = .inr (8, [.ref (b + 1), .ref (b + 2), .ref (b + 3), .ref (b + 4), .int 0, .ref (b + 5), .int 0]) := by rw [e10, ue_at]
  have f10_1 : E10 (b + 1) = .inl (kC K 20, 601, .inl (fun _ => 0)) := by rw [e10, ue_ne _ _ (by omega)]; exact f9_1
  have f10_2 : E10 (b + 2) = .inl (kC K 20, 601, .inl (fun _ => 0)) := by rw [e10, ue_ne _ _ (by omega)]; exact f9_2
  have f10_3 : E10 (b + 3) = .inl (kC K 20, 601, .inl (fun _ => 0)) := by rw [e10, ue_ne _ _ (by omega)]; exact f9_3
  have f10_4 : E10 (b + 4) = .inl (kC K 20, 601, .inl (fun _ => 0)) := by rw [e10, ue_ne _ _ (by omega)]; exact f9_4
  have f10_5 : E10 (b + 5) = .inl (kC K 21, 0, .inl (fun _ => 0)) := by rw [e10, ue_ne _ _ (by omega)]; exact f9_5
  refine n_retv' G rfl rfl (fun q _ _ => ?_) dX7_init_47
  by_cases h0 : q = b
  · subst h0; rw [f10_0, ue_at]
  by_cases h1 : q = b + 1
  · subst h1; rw [f10_1, ue_ne _ _ (by omega), ue_ne _ _ (by omega), ue_ne _ _ (by omega), ue_ne _ _ (by omega), ue_ne _ _ (by omega), ue_at]
  by_cases h2 : q = b + 2
  · subst h2; rw [f10_2, ue_ne _ _ (by omega), ue_ne _ _ (by omega), ue_ne _ _ (by omega), ue_ne _ _ (by omega), ue_at]
  by_cases h3 : q = b + 3
  · subst h3; rw [f10_3, ue_ne _ _ (by omega), ue_ne _ _ (by omega), ue_ne _ _ (by omega), ue_at]
  by_cases h4 : q = b + 4
  · subst h4; rw [f10_4, ue_ne _ _ (by omega), ue_ne _ _ (by omega), ue_at]
  by_cases h5 : q = b + 5
  · subst h5; rw [f10_5, ue_ne _ _ (by omega), ue_at]
  rw [e10, ue_ne _ _ h0, e9, ue_ne _ _ h5, e8, ue_ne _ _ h0, e7, ue_ne _ _ h4, e6, ue_ne _ _ h0, e5, ue_ne _ _ h3, e4, ue_ne _ _ h0, e3, ue_ne _ _ h2, e2, ue_ne _ _ h0, e1, ue_ne _ _ h1]
  rw [ue_ne _ _ h0, ue_ne _ _ h5, ue_ne _ _ h4, ue_ne _ _ h3, ue_ne _ _ h2, ue_ne _ _ h1]
