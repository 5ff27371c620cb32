/-! the constructor of the model -/
def moM (b : Nat) : MI := fun q k => if q = b ∧ k = 5 then -1 else 0
def MoOK (b : Nat) (u : MI) : Prop := ∃ A, IsL vClr 0 A ∧ u = kb (moM b) (b + 1) 0 (vStart vClr A)
theorem relR_clr : RelR 0 (fun _ k => if k = 0 then 8 else 0) vClr := by
  have e : vClr 48 = 0 := by decide
  refine ⟨by rw [e]; rfl, by rw [e]; exact ⟨0, by omega, rfl⟩, fun i hi => ?_, fun i hi => ?_, fun i hi => ?_⟩
  · rw [e] at hi
    have : i = 0 := by have : ix (0 : Int32) = 0 := rfl; omega
    subst this
    unfold vOp; rw [if_pos (by rw [e]; rfl)]; rfl
  · rw [e] at hi; exact absurd hi (by have : ix (0 : Int32) = 0 := rfl; omega)
  · show chr 0
    unfold chr; decide
abbrev rm_X10_init : Room := { frames := 4, cells := 9, slots := 5787, locals := 92 }
set_option maxRecDepth 100000 in
set_option maxHeartbeats 1000000 in
theorem c_X10_init (K : Kx) (l : Launch) (base n0 b : Nat) (E0 : Nat → va_E) (hkH : (kH K).size = base) (hkL : kL K = []) (hb0 : 0 < base) (hbn : base + n0 = b + 1) (hbb : base ≤ b) (f0_0 : E0 b = .inr (11, [.null, .null, .null, .int 0, .int 0, .int 0, .int 0, .int 0, .null, .int 0, .int 0, .int 0, .int 0, .int 0, .int 0, .int 0, .int 0, .long 0, .null, .null, .null, .null, .null, .int 0, .int 0])) : ConN K l yX10_init (wsT yX10_init cX10_init 1 none) rm_X10_init [.ref b] base n0 E0 9 5787 (va_Qv (S := MI) (MoOK b) (fun u t => HE K base (n0 + 9) (ov (sub K b tModel) (memP u) E0) t.heap) (AB base)) := by
  refine ConN.ofJ RX10 rfl rfl (by decide) (Nat.le_of_ble_eq_true rfl) (fun m H0 w G => ?_)
  show JN K base n0 m 1 H0 w 0 0 E0 0 [(0, .ref b)] []
  refine n_aload_n G 0 0 dX10_init_0 rfl rfl ?_
  refine n_obj G oi_X10 oi_im oi_co (by decide) (Nat.le_of_ble_eq_true rfl) dX10_init_1 ?_
  refine n_aload_n G 0 0 dX10_init_4 rfl rfl ?_
  refine n_sipush G (4905 : Int32) dX10_init_5 (by decide) ?_
  refine n_newa' G (atype := .int) (ty := .int) 0 20 (b + 1) 1 4905 4905 (a0 := .inl (fun _ => 0)) (by omega) rfl rfl rfl ar_int rfl (fun _ _ h => h) (fun _ => rfl) (by decide) (by decide) (Nat.le_of_ble_eq_true rfl) (by decide) (Nat.le_of_ble_eq_true rfl) (by omega) dX10_init_8 (fun E1 e1 => ?_)
  have f1_0 : E1 b = .inr (11, [.null, .null, .null, .int 0, .int 0, .int 0, .int 0, .int 0, .null, .int 0, .int 0, .int 0, .int 0, .int 0, .int 0, .int 0, .int 0, .long 0, .null, .null, .null, .null, .null, .int 0, .int 0]) := by rw [e1, ue_ne _ _ (by omega)]; exact f0_0
  have f1_1 : E1 (b + 1) = .inl (kC K 20, 4905, .inl (fun _ => 0)) := by rw [e1, ue_at]
  have o1 : ∀ q, q < b → E1 q = E0 q := fun q hq => by rw [e1, ue_ne _ _ (by omega)]
  refine n_putF' G 11 b 0 [.ref (b + 1), .null, .null, .int 0, .int 0, .int 0, .int 0, .int 0, .null, .int 0, .int 0, .int 0, .int 0, .int 0, .int 0, .int 0, .int 0, .long 0, .null, .null, .null, .null, .null, .int 0, .int 0] tyX10 (tyX10 0) rfl tyX10_ok nmX10 (by omega) (by omega) f1_0 rfl (by decide) lay_X10 fl_X10_7 rfl rfl rfl (tyX10_ok 0 (by decide)) rfl rfl (Nat.le_of_ble_eq_true rfl) dX10_init_10 (fun E2 e2 => ?_)
  have f2_0 : E2 b = .inr (11, [.ref (b + 1), .null, .null, .int 0, .int 0, .int 0, .int 0, .int 0, .null, .int 0, .int 0, .int 0, .int 0, .int 0, .int 0, .int 0, .int 0, .long 0, .null, .null, .null, .null, .null, .int 0, .int 0]) := by rw [e2, ue_at]
  have f2_1 : E2 (b + 1) = .inl (kC K 20, 4905, .inl (fun _ => 0)) := by rw [e2, ue_ne _ _ (by omega)]; exact f1_1
  have o2 : ∀ q, q < b → E2 q = E0 q := fun q hq => by rw [e2, ue_ne _ _ (by omega)]; exact o1 q hq
  refine n_aload_n G 0 0 dX10_init_13 rfl rfl ?_
  refine n_sipush G (600 : Int32) dX10_init_14 (by decide) ?_
  refine n_newa' G (atype := .int) (ty := .int) 0 20 (b + 2) 2 5505 600 (a0 := .inl (fun _ => 0)) (by omega) rfl rfl rfl ar_int rfl (fun _ _ h => h) (fun _ => rfl) (by decide) (by decide) (Nat.le_of_ble_eq_true rfl) (by decide) (Nat.le_of_ble_eq_true rfl) (by omega) dX10_init_17 (fun E3 e3 => ?_)
  have f3_0 : E3 b = .inr (11, [.ref (b + 1), .null, .null, .int 0, .int 0, .int 0, .int 0, .int 0, .null, .int 0, .int 0, .int 0, .int 0, .int 0, .int 0, .int 0, .int 0, .long 0, .null, .null, .null, .null, .null, .int 0, .int 0]) := by rw [e3, ue_ne _ _ (by omega)]; exact f2_0
  have f3_1 : E3 (b + 1) = .inl (kC K 20, 4905, .inl (fun _ => 0)) := by rw [e3, ue_ne _ _ (by omega)]; exact f2_1
  have f3_2 : E3 (b + 2) = .inl (kC K 20, 600, .inl (fun _ => 0)) := by rw [e3, ue_at]
  have o3 : ∀ q, q < b → E3 q = E0 q := fun q hq => by rw [e3, ue_ne _ _ (by omega)]; exact o2 q hq
  refine n_putF' G 11 b 1 [.ref (b + 1), .ref (b + 2), .null, .int 0, .int 0, .int 0, .int 0, .int 0, .null, .int 0, .int 0, .int 0, .int 0, .int 0, .int 0, .int 0, .int 0, .long 0, .null, .null, .null, .null, .null, .int 0, .int 0] tyX10 (tyX10 1) rfl tyX10_ok nmX10 (by omega) (by omega) f3_0 rfl (by decide) lay_X10 fl_X10_13 rfl rfl rfl (tyX10_ok 1 (by decide)) rfl rfl (Nat.le_of_ble_eq_true rfl) dX10_init_19 (fun E4 e4 => ?_)
  have f4_0 : E4 b = .inr (11, [.ref (b + 1), .ref (b + 2), .null, .int 0, .int 0, .int 0, .int 0, .int 0, .null, .int 0, .int 0, .int 0, .int 0, .int 0, .int 0, .int 0, .int 0, .long 0, .null, .null, .null, .null, .null, .int 0, .int 0]) := by rw [e4, ue_at]
  have f4_1 : E4 (b + 1) = .inl (kC K 20, 4905, .inl (fun _ => 0)) := by rw [e4, ue_ne _ _ (by omega)]; exact f3_1
  have f4_2 : E4 (b + 2) = .inl (kC K 20, 600, .inl (fun _ => 0)) := by rw [e4, ue_ne _ _ (by omega)]; exact f3_2
  have o4 : ∀ q, q < b → E4 q = E0 q := fun q hq => by rw [e4, ue_ne _ _ (by omega)]; exact o3 q hq
  refine n_aload_n G 0 0 dX10_init_22 rfl rfl ?_
  refine n_iconst G (3 : Int32) dX10_init_23 (by decide) ?_
  refine n_newa' G (atype := .boolean) (ty := .boolean) 3 23 (b + 3) 3 5508 3 (a0 := .inl (fun _ => 0)) (by omega) rfl rfl rfl ar_boolean rfl (fun _ _ h => h) (fun _ => rfl) (by decide) (by decide) (Nat.le_of_ble_eq_true rfl) (by decide) (Nat.le_of_ble_eq_true rfl) (by omega) dX10_init_24 (fun E5 e5 => ?_)
  have f5_0 : E5 b = .inr (11, [.ref (b + 1), .ref (b + 2), .null, .int 0, .int 0, .int 0, .int 0, .int 0, .null, .int 0, .int 0, .int 0, .int 0, .int 0, .int 0, .int 0, .int 0, .long 0, .null, .null, .null, .null, .null, .int 0, .int 0]) := by rw [e5, ue_ne _ _ (by omega)]; exact f4_0
  have f5_1 : E5 (b + 1) = .inl (kC K 20, 4905, .inl (fun _ => 0)) := by rw [e5, ue_ne _ _ (by omega)]; exact f4_1
  have f5_2 : E5 (b + 2) = .inl (kC K 20, 600, .inl (fun _ => 0)) := by rw [e5, ue_ne _ _ (by omega)]; exact f4_2
  have f5_3 : E5 (b + 3) = .inl (kC K 23, 3, .inl (fun _ => 0)) := by rw [e5, ue_at]
  have o5 : ∀ q, q < b → E5 q = E0 q := fun q hq => by rw [e5, ue_ne _ _ (by omega)]; exact o4 q hq
  refine n_putF' G 11 b 2 [.ref (b + 1), .ref (b + 2), .ref (b + 3), .int 0, .int 0, .int 0, .int 0, .int 0, .null, .int 0, .int 0, .int 0, .int 0, .int 0, .int 0, .int 0, .int 0, .long 0, .null, .null, .null, .null, .null, .int 0, .int 0] tyX10 (tyX10 2) rfl tyX10_ok nmX10 (by omega) (by omega) f5_0 rfl (by decide) lay_X10 fl_X10_16 rfl rfl rfl (tyX10_ok 2 (by decide)) rfl rfl (Nat.le_of_ble_eq_true rfl) dX10_init_26 (fun E6 e6 => ?_)
  have f6_0 : E6 b = .inr (11, [.ref (b + 1), .ref (b + 2), .ref (b + 3), .int 0, .int 0, .int 0, .int 0, .int 0, .null, .int 0, .int 0, .int 0, .int 0, .int 0, .int 0, .int 0, .int 0, .long 0, .null, .null, .null, .null, .null, .int 0, .int 0]) := by rw [e6, ue_at]
  have f6_1 : E6 (b + 1) = .inl (kC K 20, 4905, .inl (fun _ => 0)) := by rw [e6, ue_ne _ _ (by omega)]; exact f5_1
  have f6_2 : E6 (b + 2) = .inl (kC K 20, 600, .inl (fun _ => 0)) := by rw [e6, ue_ne _ _ (by omega)]; exact f5_2
  have f6_3 : E6 (b + 3) = .inl (kC K 23, 3, .inl (fun _ => 0)) := by rw [e6, ue_ne _ _ (by omega)]; exact f5_3
  have o6 : ∀ q, q < b → E6 q = E0 q := fun q hq => by rw [e6, ue_ne _ _ (by omega)]; exact o5 q hq
  refine n_aload_n G 0 0 dX10_init_29 rfl rfl ?_
  refine n_iconst G (-1 : Int32) dX10_init_30 (by decide) ?_
  refine n_put' G 11 b 5 [.ref (b + 1), .ref (b + 2), .ref (b + 3), .int 0, .int 0, .int (-1), .int 0, .int 0, .null, .int 0, .int 0, .int 0, .int 0, .int 0, .int 0, .int 0, .int 0, .long 0, .null, .null, .null, .null, .null, .int 0, .int 0] tyX10 (tyX10 5) rfl tyX10_ok nmX10 (by omega) (by omega) f6_0 rfl (by decide) lay_X10 fl_X10_20 rfl rfl (tyX10_ok 5 (by decide)) rfl rfl (Nat.le_of_ble_eq_true rfl) dX10_init_31 (fun E7 e7 => ?_)
  have f7_0 : E7 b = .inr (11, [.ref (b + 1), .ref (b + 2), .ref (b + 3), .int 0, .int 0, .int (-1), .int 0, .int 0, .null, .int 0, .int 0, .int 0, .int 0, .int 0, .int 0, .int 0, .int 0, .long 0, .null, .null, .null, .null, .null, .int 0, .int 0]) := by rw [e7, ue_at]
  have f7_1 : E7 (b + 1) = .inl (kC K 20, 4905, .inl (fun _ => 0)) := by rw [e7, ue_ne _ _ (by omega)]; exact f6_1
  have f7_2 : E7 (b + 2) = .inl (kC K 20, 600, .inl (fun _ => 0)) := by rw [e7, ue_ne _ _ (by omega)]; exact f6_2
  have f7_3 : E7 (b + 3) = .inl (kC K 23, 3, .inl (fun _ => 0)) := by rw [e7, ue_ne _ _ (by omega)]; exact f6_3
  have o7 : ∀ q, q < b → E7 q = E0 q := fun q hq => by rw [e7, ue_ne _ _ (by omega)]; exact o6 q hq
  refine n_aload_n G 0 0 dX10_init_34 rfl rfl ?_
  refine n_bipush G (24 : Int32) dX10_init_35 (by decide) ?_
  refine n_newa' G (atype := .int) (ty := .int) 0 20 (b + 4) 4 5532 24 (a0 := .inl (fun _ => 0)) (by omega) rfl rfl rfl ar_int rfl (fun _ _ h => h) (fun _ => rfl) (by decide) (by decide) (Nat.le_of_ble_eq_true rfl) (by decide) (Nat.le_of_ble_eq_true rfl) (by omega) dX10_init_37 (fun E8 e8 => ?_)
  have f8_0 : E8 b = .inr (11, [.ref (b + 1), .ref (b + 2), .ref (b + 3), .int 0, .int 0, .int (-1), .int 0, .int 0, .null, .int 0, .int 0, .int 0, .int 0, .int 0, .int 0, .int 0, .int 0, .long 0, .null, .null, .null, .null, .null, .int 0, .int 0]) := by rw [e8, ue_ne _ _ (by omega)]; exact f7_0
  have f8_1 : E8 (b + 1) = .inl (kC K 20, 4905, .inl (fun _ => 0)) := by rw [e8, ue_ne _ _ (by omega)]; exact f7_1
  have f8_2 : E8 (b + 2) = .inl (kC K 20, 600, .inl (fun _ => 0)) := by rw [e8, ue_ne _ _ (by omega)]; exact f7_2
  have f8_3 : E8 (b + 3) = .inl (kC K 23, 3, .inl (fun _ => 0)) := by rw [e8, ue_ne _ _ (by omega)]; exact f7_3
  have f8_4 : E8 (b + 4) = .inl (kC K 20, 24, .inl (fun _ => 0)) := by rw [e8, ue_at]
  have o8 : ∀ q, q < b → E8 q = E0 q := fun q hq => by rw [e8, ue_ne _ _ (by omega)]; exact o7 q hq
  refine n_putF' G 11 b 8 [.ref (b + 1), .ref (b + 2), .ref (b + 3), .int 0, .int 0, .int (-1), .int 0, .int 0, .ref (b + 4), .int 0, .int 0, .int 0, .int 0, .int 0, .int 0, .int 0, .int 0, .long 0, .null, .null, .null, .null, .null, .int 0, .int 0] tyX10 (tyX10 8) rfl tyX10_ok nmX10 (by omega) (by omega) f8_0 rfl (by decide) lay_X10 fl_X10_24 rfl rfl rfl (tyX10_ok 8 (by decide)) rfl rfl (Nat.le_of_ble_eq_true rfl) dX10_init_39 (fun E9 e9 => ?_)
  have f9_0 : E9 b = .inr (11, [.ref (b + 1), .ref (b + 2), .ref (b + 3), .int 0, .int 0, .int (-1), .int 0, .int 0, .ref (b + 4), .int 0, .int 0, .int 0, .int 0, .int 0, .int 0, .int 0, .int 0, .long 0, .null, .null, .null, .null, .null, .int 0, .int 0]) := by rw [e9, ue_at]
  have f9_1 : E9 (b + 1) = .inl (kC K 20, 4905, .inl (fun _ => 0)) := by rw [e9, ue_ne _ _ (by omega)]; exact f8_1
  have f9_2 : E9 (b + 2) = .inl (kC K 20, 600, .inl (fun _ => 0)) := by rw [e9, ue_ne _ _ (by omega)]; exact f8_2
  have f9_3 : E9 (b + 3) = .inl (kC K 23, 3, .inl (fun _ => 0)) := by rw [e9, ue_ne _ _ (by omega)]; exact f8_3
  have f9_4 : E9 (b + 4) = .inl (kC K 20, 24, .inl (fun _ => 0)) := by rw [e9, ue_ne _ _ (by omega)]; exact f8_4
  have o9 : ∀ q, q < b → E9 q = E0 q := fun q hq => by rw [e9, ue_ne _ _ (by omega)]; exact o8 q hq
  refine n_aload_n G 0 0 dX10_init_42 rfl rfl ?_
  refine n_bipush G (90 : Int32) dX10_init_43 (by decide) ?_
  refine n_newa' G (atype := .long) (ty := .long) 2 22 (b + 5) 5 5622 90 (a0 := .inr (.inl (fun _ => 0))) (by omega) rfl rfl rfl ar_long rfl (fun _ _ h => h) (fun _ => rfl) (by decide) (by decide) (Nat.le_of_ble_eq_true rfl) (by decide) (Nat.le_of_ble_eq_true rfl) (by omega) dX10_init_45 (fun E10 e10 => ?_)
  have f10_0 : E10 b = .inr (11, [.ref (b + 1), .ref (b + 2), .ref (b + 3), .int 0, .int 0, .int (-1), .int 0, .int 0, .ref (b + 4), .int 0, .int 0, .int 0, .int 0, .int 0, .int 0, .int 0, .int 0, .long 0, .null, .null, .null, .null, .null, .int 0, .int 0]) := by rw [e10, ue_ne _ _ (by omega)]; exact f9_0
  have f10_1 : E10 (b + 1) = .inl (kC K 20, 4905, .inl (fun _ => 0)) := by rw [e10, ue_ne _ _ (by omega)]; exact f9_1
  have f10_2 : E10 (b + 2) = .inl (kC K 20, 600, .inl (fun _ => 0)) := by rw [e10, ue_ne _ _ (by omega)]; exact f9_2
  have f10_3 : E10 (b + 3) = .inl (kC K 23, 3, .inl (fun _ => 0)) := by rw [e10, ue_ne _ _ (by omega)]; exact f9_3
  have f10_4 : E10 (b + 4) = .inl (kC K 20, 24, .inl (fun _ => 0)) := by rw [e10, ue_ne _ _ (by omega)]; exact f9_4
  have f10_5 : E10 (b + 5) = .inl (kC K 22, 90, .inr (.inl (fun _ => 0))) := by rw [e10, ue_at]
  have o10 : ∀ q, q < b → E10 q = E0 q := fun q hq => by rw [e10, ue_ne _ _ (by omega)]; exact o9 q hq
  refine n_putF' G 11 b 18 [.ref (b + 1), .ref (b + 2), .ref (b + 3), .int 0, .int 0, .int (-1), .int 0, .int 0, .ref (b + 4), .int 0, .int 0, .int 0, .int 0, .int 0, .int 0, .int 0, .int 0, .long 0, .ref (b + 5), .null, .null, .null, .null, .int 0, .int 0] tyX10 (tyX10 18) rfl tyX10_ok nmX10 (by omega) (by omega) f10_0 rfl (by decide) lay_X10 fl_X10_27 rfl rfl rfl (tyX10_ok 18 (by decide)) rfl rfl (Nat.le_of_ble_eq_true rfl) dX10_init_47 (fun E11 e11 => ?_)
  have f11_0 : E11 b = .inr (11, [.ref (b + 1), .ref (b + 2), .ref (b + 3), .int 0, .int 0, .int (-1), .int 0, .int 0, .ref (b + 4), .int 0, .int 0, .int 0, .int 0, .int 0, .int 0, .int 0, .int 0, .long 0, .ref (b + 5), .null, .null, .null, .null, .int 0, .int 0]) := by rw [e11, ue_at]
  have f11_1 : E11 (b + 1) = .inl (kC K 20, 4905, .inl (fun _ => 0)) := by rw [e11, ue_ne _ _ (by omega)]; exact f10_1
  have f11_2 : E11 (b + 2) = .inl (kC K 20, 600, .inl (fun _ => 0)) := by rw [e11, ue_ne _ _ (by omega)]; exact f10_2
  have f11_3 : E11 (b + 3) = .inl (kC K 23, 3, .inl (fun _ => 0)) := by rw [e11, ue_ne _ _ (by omega)]; exact f10_3
  have f11_4 : E11 (b + 4) = .inl (kC K 20, 24, .inl (fun _ => 0)) := by rw [e11, ue_ne _ _ (by omega)]; exact f10_4
  have f11_5 : E11 (b + 5) = .inl (kC K 22, 90, .inr (.inl (fun _ => 0))) := by rw [e11, ue_ne _ _ (by omega)]; exact f10_5
  have o11 : ∀ q, q < b → E11 q = E0 q := fun q hq => by rw [e11, ue_ne _ _ (by omega)]; exact o10 q hq
  refine n_aload_n G 0 0 dX10_init_50 rfl rfl ?_
  refine n_bipush G (25 : Int32) dX10_init_51 (by decide) ?_
  refine n_newa' G (atype := .long) (ty := .long) 2 22 (b + 6) 6 5647 25 (a0 := .inr (.inl (fun _ => 0))) (by omega) rfl rfl rfl ar_long rfl (fun _ _ h => h) (fun _ => rfl) (by decide) (by decide) (Nat.le_of_ble_eq_true rfl) (by decide) (Nat.le_of_ble_eq_true rfl) (by omega) dX10_init_53 (fun E12 e12 => ?_)
  have f12_0 : E12 b = .inr (11, [.ref (b + 1), .ref (b + 2), .ref (b + 3), .int 0, .int 0, .int (-1), .int 0, .int 0, .ref (b + 4), .int 0, .int 0, .int 0, .int 0, .int 0, .int 0, .int 0, .int 0, .long 0, .ref (b + 5), .null, .null, .null, .null, .int 0, .int 0]) := by rw [e12, ue_ne _ _ (by omega)]; exact f11_0
  have f12_1 : E12 (b + 1) = .inl (kC K 20, 4905, .inl (fun _ => 0)) := by rw [e12, ue_ne _ _ (by omega)]; exact f11_1
  have f12_2 : E12 (b + 2) = .inl (kC K 20, 600, .inl (fun _ => 0)) := by rw [e12, ue_ne _ _ (by omega)]; exact f11_2
  have f12_3 : E12 (b + 3) = .inl (kC K 23, 3, .inl (fun _ => 0)) := by rw [e12, ue_ne _ _ (by omega)]; exact f11_3
  have f12_4 : E12 (b + 4) = .inl (kC K 20, 24, .inl (fun _ => 0)) := by rw [e12, ue_ne _ _ (by omega)]; exact f11_4
  have f12_5 : E12 (b + 5) = .inl (kC K 22, 90, .inr (.inl (fun _ => 0))) := by rw [e12, ue_ne _ _ (by omega)]; exact f11_5
  have f12_6 : E12 (b + 6) = .inl (kC K 22, 25, .inr (.inl (fun _ => 0))) := by rw [e12, ue_at]
  have o12 : ∀ q, q < b → E12 q = E0 q := fun q hq => by rw [e12, ue_ne _ _ (by omega)]; exact o11 q hq
  refine n_putF' G 11 b 19 [.ref (b + 1), .ref (b + 2), .ref (b + 3), .int 0, .int 0, .int (-1), .int 0, .int 0, .ref (b + 4), .int 0, .int 0, .int 0, .int 0, .int 0, .int 0, .int 0, .int 0, .long 0, .ref (b + 5), .ref (b + 6), .null, .null, .null, .int 0, .int 0] tyX10 (tyX10 19) rfl tyX10_ok nmX10 (by omega) (by omega) f12_0 rfl (by decide) lay_X10 fl_X10_31 rfl rfl rfl (tyX10_ok 19 (by decide)) rfl rfl (Nat.le_of_ble_eq_true rfl) dX10_init_55 (fun E13 e13 => ?_)
  have f13_0 : E13 b = .inr (11, [.ref (b + 1), .ref (b + 2), .ref (b + 3), .int 0, .int 0, .int (-1), .int 0, .int 0, .ref (b + 4), .int 0, .int 0, .int 0, .int 0, .int 0, .int 0, .int 0, .int 0, .long 0, .ref (b + 5), .ref (b + 6), .null, .null, .null, .int 0, .int 0]) := by rw [e13, ue_at]
  have f13_1 : E13 (b + 1) = .inl (kC K 20, 4905, .inl (fun _ => 0)) := by rw [e13, ue_ne _ _ (by omega)]; exact f12_1
  have f13_2 : E13 (b + 2) = .inl (kC K 20, 600, .inl (fun _ => 0)) := by rw [e13, ue_ne _ _ (by omega)]; exact f12_2
  have f13_3 : E13 (b + 3) = .inl (kC K 23, 3, .inl (fun _ => 0)) := by rw [e13, ue_ne _ _ (by omega)]; exact f12_3
  have f13_4 : E13 (b + 4) = .inl (kC K 20, 24, .inl (fun _ => 0)) := by rw [e13, ue_ne _ _ (by omega)]; exact f12_4
  have f13_5 : E13 (b + 5) = .inl (kC K 22, 90, .inr (.inl (fun _ => 0))) := by rw [e13, ue_ne _ _ (by omega)]; exact f12_5
  have f13_6 : E13 (b + 6) = .inl (kC K 22, 25, .inr (.inl (fun _ => 0))) := by rw [e13, ue_ne _ _ (by omega)]; exact f12_6
  have o13 : ∀ q, q < b → E13 q = E0 q := fun q hq => by rw [e13, ue_ne _ _ (by omega)]; exact o12 q hq
  refine n_aload_n G 0 0 dX10_init_58 rfl rfl ?_
  refine n_bipush G (90 : Int32) dX10_init_59 (by decide) ?_
  refine n_newa' G (atype := .int) (ty := .int) 0 20 (b + 7) 7 5737 90 (a0 := .inl (fun _ => 0)) (by omega) rfl rfl rfl ar_int rfl (fun _ _ h => h) (fun _ => rfl) (by decide) (by decide) (Nat.le_of_ble_eq_true rfl) (by decide) (Nat.le_of_ble_eq_true rfl) (by omega) dX10_init_61 (fun E14 e14 => ?_)
  have f14_0 : E14 b = .inr (11, [.ref (b + 1), .ref (b + 2), .ref (b + 3), .int 0, .int 0, .int (-1), .int 0, .int 0, .ref (b + 4), .int 0, .int 0, .int 0, .int 0, .int 0, .int 0, .int 0, .int 0, .long 0, .ref (b + 5), .ref (b + 6), .null, .null, .null, .int 0, .int 0]) := by rw [e14, ue_ne _ _ (by omega)]; exact f13_0
  have f14_1 : E14 (b + 1) = .inl (kC K 20, 4905, .inl (fun _ => 0)) := by rw [e14, ue_ne _ _ (by omega)]; exact f13_1
  have f14_2 : E14 (b + 2) = .inl (kC K 20, 600, .inl (fun _ => 0)) := by rw [e14, ue_ne _ _ (by omega)]; exact f13_2
  have f14_3 : E14 (b + 3) = .inl (kC K 23, 3, .inl (fun _ => 0)) := by rw [e14, ue_ne _ _ (by omega)]; exact f13_3
  have f14_4 : E14 (b + 4) = .inl (kC K 20, 24, .inl (fun _ => 0)) := by rw [e14, ue_ne _ _ (by omega)]; exact f13_4
  have f14_5 : E14 (b + 5) = .inl (kC K 22, 90, .inr (.inl (fun _ => 0))) := by rw [e14, ue_ne _ _ (by omega)]; exact f13_5
  have f14_6 : E14 (b + 6) = .inl (kC K 22, 25, .inr (.inl (fun _ => 0))) := by rw [e14, ue_ne _ _ (by omega)]; exact f13_6
  have f14_7 : E14 (b + 7) = .inl (kC K 20, 90, .inl (fun _ => 0)) := by rw [e14, ue_at]
  have o14 : ∀ q, q < b → E14 q = E0 q := fun q hq => by rw [e14, ue_ne _ _ (by omega)]; exact o13 q hq
  refine n_putF' G 11 b 20 [.ref (b + 1), .ref (b + 2), .ref (b + 3), .int 0, .int 0, .int (-1), .int 0, .int 0, .ref (b + 4), .int 0, .int 0, .int 0, .int 0, .int 0, .int 0, .int 0, .int 0, .long 0, .ref (b + 5), .ref (b + 6), .ref (b + 7), .null, .null, .int 0, .int 0] tyX10 (tyX10 20) rfl tyX10_ok nmX10 (by omega) (by omega) f14_0 rfl (by decide) lay_X10 fl_X10_34 rfl rfl rfl (tyX10_ok 20 (by decide)) rfl rfl (Nat.le_of_ble_eq_true rfl) dX10_init_63 (fun E15 e15 => ?_)
  have f15_0 : E15 b = .inr (11, [.ref (b + 1), .ref (b + 2), .ref (b + 3), .int 0, .int 0, .int (-1), .int 0, .int 0, .ref (b + 4), .int 0, .int 0, .int 0, .int 0, .int 0, .int 0, .int 0, .int 0, .long 0, .ref (b + 5), .ref (b + 6), .ref (b + 7), .null, .null, .int 0, .int 0]) := by rw [e15, ue_at]
  have f15_1 : E15 (b + 1) = .inl (kC K 20, 4905, .inl (fun _ => 0)) := by rw [e15, ue_ne _ _ (by omega)]; exact f14_1
  have f15_2 : E15 (b + 2) = .inl (kC K 20, 600, .inl (fun _ => 0)) := by rw [e15, ue_ne _ _ (by omega)]; exact f14_2
  have f15_3 : E15 (b + 3) = .inl (kC K 23, 3, .inl (fun _ => 0)) := by rw [e15, ue_ne _ _ (by omega)]; exact f14_3
  have f15_4 : E15 (b + 4) = .inl (kC K 20, 24, .inl (fun _ => 0)) := by rw [e15, ue_ne _ _ (by omega)]; exact f14_4
  have f15_5 : E15 (b + 5) = .inl (kC K 22, 90, .inr (.inl (fun _ => 0))) := by rw [e15, ue_ne _ _ (by omega)]; exact f14_5
  have f15_6 : E15 (b + 6) = .inl (kC K 22, 25, .inr (.inl (fun _ => 0))) := by rw [e15, ue_ne _ _ (by omega)]; exact f14_6
  have f15_7 : E15 (b + 7) = .inl (kC K 20, 90, .inl (fun _ => 0)) := by rw [e15, ue_ne _ _ (by omega)]; exact f14_7
  have o15 : ∀ q, q < b → E15 q = E0 q := fun q hq => by rw [e15, ue_ne _ _ (by omega)]; exact o14 q hq
  refine n_aload_n G 0 0 dX10_init_66 rfl rfl ?_
  refine n_bipush G (25 : Int32) dX10_init_67 (by decide) ?_
  refine n_newa' G (atype := .int) (ty := .int) 0 20 (b + 8) 8 5762 25 (a0 := .inl (fun _ => 0)) (by omega) rfl rfl rfl ar_int rfl (fun _ _ h => h) (fun _ => rfl) (by decide) (by decide) (Nat.le_of_ble_eq_true rfl) (by decide) (Nat.le_of_ble_eq_true rfl) (by omega) dX10_init_69 (fun E16 e16 => ?_)
  have f16_0 : E16 b = .inr (11, [.ref (b + 1), .ref (b + 2), .ref (b + 3), .int 0, .int 0, .int (-1), .int 0, .int 0, .ref (b + 4), .int 0, .int 0, .int 0, .int 0, .int 0, .int 0, .int 0, .int 0, .long 0, .ref (b + 5), .ref (b + 6), .ref (b + 7), .null, .null, .int 0, .int 0]) := by rw [e16, ue_ne _ _ (by omega)]; exact f15_0
  have f16_1 : E16 (b + 1) = .inl (kC K 20, 4905, .inl (fun _ => 0)) := by rw [e16, ue_ne _ _ (by omega)]; exact f15_1
  have f16_2 : E16 (b + 2) = .inl (kC K 20, 600, .inl (fun _ => 0)) := by rw [e16, ue_ne _ _ (by omega)]; exact f15_2
  have f16_3 : E16 (b + 3) = .inl (kC K 23, 3, .inl (fun _ => 0)) := by rw [e16, ue_ne _ _ (by omega)]; exact f15_3
  have f16_4 : E16 (b + 4) = .inl (kC K 20, 24, .inl (fun _ => 0)) := by rw [e16, ue_ne _ _ (by omega)]; exact f15_4
  have f16_5 : E16 (b + 5) = .inl (kC K 22, 90, .inr (.inl (fun _ => 0))) := by rw [e16, ue_ne _ _ (by omega)]; exact f15_5
  have f16_6 : E16 (b + 6) = .inl (kC K 22, 25, .inr (.inl (fun _ => 0))) := by rw [e16, ue_ne _ _ (by omega)]; exact f15_6
  have f16_7 : E16 (b + 7) = .inl (kC K 20, 90, .inl (fun _ => 0)) := by rw [e16, ue_ne _ _ (by omega)]; exact f15_7
  have f16_8 : E16 (b + 8) = .inl (kC K 20, 25, .inl (fun _ => 0)) := by rw [e16, ue_at]
  have o16 : ∀ q, q < b → E16 q = E0 q := fun q hq => by rw [e16, ue_ne _ _ (by omega)]; exact o15 q hq
  refine n_putF' G 11 b 21 [.ref (b + 1), .ref (b + 2), .ref (b + 3), .int 0, .int 0, .int (-1), .int 0, .int 0, .ref (b + 4), .int 0, .int 0, .int 0, .int 0, .int 0, .int 0, .int 0, .int 0, .long 0, .ref (b + 5), .ref (b + 6), .ref (b + 7), .ref (b + 8), .null, .int 0, .int 0] tyX10 (tyX10 21) rfl tyX10_ok nmX10 (by omega) (by omega) f16_0 rfl (by decide) lay_X10 fl_X10_37 rfl rfl rfl (tyX10_ok 21 (by decide)) rfl rfl (Nat.le_of_ble_eq_true rfl) dX10_init_71 (fun E17 e17 => ?_)
  have f17_0 : E17 b = .inr (11, [.ref (b + 1), .ref (b + 2), .ref (b + 3), .int 0, .int 0, .int (-1), .int 0, .int 0, .ref (b + 4), .int 0, .int 0, .int 0, .int 0, .int 0, .int 0, .int 0, .int 0, .long 0, .ref (b + 5), .ref (b + 6), .ref (b + 7), .ref (b + 8), .null, .int 0, .int 0]) := by rw [e17, ue_at]
  have f17_1 : E17 (b + 1) = .inl (kC K 20, 4905, .inl (fun _ => 0)) := by rw [e17, ue_ne _ _ (by omega)]; exact f16_1
  have f17_2 : E17 (b + 2) = .inl (kC K 20, 600, .inl (fun _ => 0)) := by rw [e17, ue_ne _ _ (by omega)]; exact f16_2
  have f17_3 : E17 (b + 3) = .inl (kC K 23, 3, .inl (fun _ => 0)) := by rw [e17, ue_ne _ _ (by omega)]; exact f16_3
  have f17_4 : E17 (b + 4) = .inl (kC K 20, 24, .inl (fun _ => 0)) := by rw [e17, ue_ne _ _ (by omega)]; exact f16_4
  have f17_5 : E17 (b + 5) = .inl (kC K 22, 90, .inr (.inl (fun _ => 0))) := by rw [e17, ue_ne _ _ (by omega)]; exact f16_5
  have f17_6 : E17 (b + 6) = .inl (kC K 22, 25, .inr (.inl (fun _ => 0))) := by rw [e17, ue_ne _ _ (by omega)]; exact f16_6
  have f17_7 : E17 (b + 7) = .inl (kC K 20, 90, .inl (fun _ => 0)) := by rw [e17, ue_ne _ _ (by omega)]; exact f16_7
  have f17_8 : E17 (b + 8) = .inl (kC K 20, 25, .inl (fun _ => 0)) := by rw [e17, ue_ne _ _ (by omega)]; exact f16_8
  have o17 : ∀ q, q < b → E17 q = E0 q := fun q hq => by rw [e17, ue_ne _ _ (by omega)]; exact o16 q hq
  refine n_aload_n G 0 0 dX10_init_74 rfl rfl ?_
  refine n_bipush G (25 : Int32) dX10_init_75 (by decide) ?_
  refine n_newa' G (atype := .int) (ty := .int) 0 20 (b + 9) 9 5787 25 (a0 := .inl (fun _ => 0)) (by omega) rfl rfl rfl ar_int rfl (fun _ _ h => h) (fun _ => rfl) (by decide) (by decide) (Nat.le_of_ble_eq_true rfl) (by decide) (Nat.le_of_ble_eq_true rfl) (by omega) dX10_init_77 (fun E18 e18 => ?_)
  have f18_0 : E18 b = .inr (11, [.ref (b + 1), .ref (b + 2), .ref (b + 3), .int 0, .int 0, .int (-1), .int 0, .int 0, .ref (b + 4), .int 0, .int 0, .int 0, .int 0, .int 0, .int 0, .int 0, .int 0, .long 0, .ref (b + 5), .ref (b + 6), .ref (b + 7), .ref (b + 8), .null, .int 0, .int 0]) := by rw [e18, ue_ne _ _ (by omega)]; exact f17_0
  have f18_1 : E18 (b + 1) = .inl (kC K 20, 4905, .inl (fun _ => 0)) := by rw [e18, ue_ne _ _ (by omega)]; exact f17_1
  have f18_2 : E18 (b + 2) = .inl (kC K 20, 600, .inl (fun _ => 0)) := by rw [e18, ue_ne _ _ (by omega)]; exact f17_2
  have f18_3 : E18 (b + 3) = .inl (kC K 23, 3, .inl (fun _ => 0)) := by rw [e18, ue_ne _ _ (by omega)]; exact f17_3
  have f18_4 : E18 (b + 4) = .inl (kC K 20, 24, .inl (fun _ => 0)) := by rw [e18, ue_ne _ _ (by omega)]; exact f17_4
  have f18_5 : E18 (b + 5) = .inl (kC K 22, 90, .inr (.inl (fun _ => 0))) := by rw [e18, ue_ne _ _ (by omega)]; exact f17_5
  have f18_6 : E18 (b + 6) = .inl (kC K 22, 25, .inr (.inl (fun _ => 0))) := by rw [e18, ue_ne _ _ (by omega)]; exact f17_6
  have f18_7 : E18 (b + 7) = .inl (kC K 20, 90, .inl (fun _ => 0)) := by rw [e18, ue_ne _ _ (by omega)]; exact f17_7
  have f18_8 : E18 (b + 8) = .inl (kC K 20, 25, .inl (fun _ => 0)) := by rw [e18, ue_ne _ _ (by omega)]; exact f17_8
  have f18_9 : E18 (b + 9) = .inl (kC K 20, 25, .inl (fun _ => 0)) := by rw [e18, ue_at]
  have o18 : ∀ q, q < b → E18 q = E0 q := fun q hq => by rw [e18, ue_ne _ _ (by omega)]; exact o17 q hq
  refine n_putF' G 11 b 22 [.ref (b + 1), .ref (b + 2), .ref (b + 3), .int 0, .int 0, .int (-1), .int 0, .int 0, .ref (b + 4), .int 0, .int 0, .int 0, .int 0, .int 0, .int 0, .int 0, .int 0, .long 0, .ref (b + 5), .ref (b + 6), .ref (b + 7), .ref (b + 8), .ref (b + 9), .int 0, .int 0] tyX10 (tyX10 22) rfl tyX10_ok nmX10 (by omega) (by omega) f18_0 rfl (by decide) lay_X10 fl_X10_40 rfl rfl rfl (tyX10_ok 22 (by decide)) rfl rfl (Nat.le_of_ble_eq_true rfl) dX10_init_79 (fun E19 e19 => ?_)
  have f19_0 : E19 b = .inr (11, [.ref (b + 1), .ref (b + 2), .ref (b + 3), .int 0, .int 0, .int (-1), .int 0, .int 0, .ref (b + 4), .int 0, .int 0, .int 0, .int 0, .int 0, .int 0, .int 0, .int 0, .long 0, .ref (b + 5), .ref (b + 6), .ref (b + 7), .ref (b + 8), .ref (b + 9), .int 0, .int 0]) := by rw [e19, ue_at]
  have f19_1 : E19 (b + 1) = .inl (kC K 20, 4905, .inl (fun _ => 0)) := by rw [e19, ue_ne _ _ (by omega)]; exact f18_1
  have f19_2 : E19 (b + 2) = .inl (kC K 20, 600, .inl (fun _ => 0)) := by rw [e19, ue_ne _ _ (by omega)]; exact f18_2
  have f19_3 : E19 (b + 3) = .inl (kC K 23, 3, .inl (fun _ => 0)) := by rw [e19, ue_ne _ _ (by omega)]; exact f18_3
  have f19_4 : E19 (b + 4) = .inl (kC K 20, 24, .inl (fun _ => 0)) := by rw [e19, ue_ne _ _ (by omega)]; exact f18_4
  have f19_5 : E19 (b + 5) = .inl (kC K 22, 90, .inr (.inl (fun _ => 0))) := by rw [e19, ue_ne _ _ (by omega)]; exact f18_5
  have f19_6 : E19 (b + 6) = .inl (kC K 22, 25, .inr (.inl (fun _ => 0))) := by rw [e19, ue_ne _ _ (by omega)]; exact f18_6
  have f19_7 : E19 (b + 7) = .inl (kC K 20, 90, .inl (fun _ => 0)) := by rw [e19, ue_ne _ _ (by omega)]; exact f18_7
  have f19_8 : E19 (b + 8) = .inl (kC K 20, 25, .inl (fun _ => 0)) := by rw [e19, ue_ne _ _ (by omega)]; exact f18_8
  have f19_9 : E19 (b + 9) = .inl (kC K 20, 25, .inl (fun _ => 0)) := by rw [e19, ue_ne _ _ (by omega)]; exact f18_9
  have o19 : ∀ q, q < b → E19 q = E0 q := fun q hq => by rw [e19, ue_ne _ _ (by omega)]; exact o18 q hq
  have hmo : ∀ i, i < tModel.length → E19 (b + i) = celE (sub K b tModel) (memP (moM b)) (b + i) := fun i hi => by
    have z : ∀ j, 0 < j → moM b (b + j) = fun _ => 0 := fun j hj => by funext k; unfold moM; rw [if_neg (by omega)]
    rcases (show i = 0 ∨ i = 1 ∨ i = 2 ∨ i = 3 ∨ i = 4 ∨ i = 5 ∨ i = 6 ∨ i = 7 ∨ i = 8 ∨ i = 9 by have : tModel.length = 10 := rfl; omega) with rfl | rfl | rfl | rfl | rfl | rfl | rfl | rfl | rfl | rfl
    · rw [celE_obj (ci := 11) (congrArg Prod.fst (sub_G 0)) (by decide)]; exact f19_0.trans (by unfold fvals; simp [fdl, fval, moM, vr]; rfl)
    · rw [celE_arr (k := 20) (n := 4905) ((sub_G 1).trans rfl) (by decide) (by decide) (by decide)]; exact f19_1.trans (by show _ = Sum.inl (kC K 20, 4905, Sum.inl (moM b (b + 1))); rw [z 1 (by omega)])
    · rw [celE_arr (k := 20) (n := 600) ((sub_G 2).trans rfl) (by decide) (by decide) (by decide)]; exact f19_2.trans (by show _ = Sum.inl (kC K 20, 600, Sum.inl (moM b (b + 2))); rw [z 2 (by omega)])
    · rw [celE_arr (k := 23) (n := 3) ((sub_G 3).trans rfl) (by decide) (by decide) (by decide)]; exact f19_3.trans (by show _ = Sum.inl (kC K 23, 3, Sum.inl (moM b (b + 3))); rw [z 3 (by omega)])
    · rw [celE_arr (k := 20) (n := 24) ((sub_G 4).trans rfl) (by decide) (by decide) (by decide)]; exact f19_4.trans (by show _ = Sum.inl (kC K 20, 24, Sum.inl (moM b (b + 4))); rw [z 4 (by omega)])
    · rw [celE_arrL (n := 90) ((sub_G 5).trans rfl)]; exact f19_5
    · rw [celE_arrL (n := 25) ((sub_G 6).trans rfl)]; exact f19_6
    · rw [celE_arr (k := 20) (n := 90) ((sub_G 7).trans rfl) (by decide) (by decide) (by decide)]; exact f19_7.trans (by show _ = Sum.inl (kC K 20, 90, Sum.inl (moM b (b + 7))); rw [z 7 (by omega)])
    · rw [celE_arr (k := 20) (n := 25) ((sub_G 8).trans rfl) (by decide) (by decide) (by decide)]; exact f19_8.trans (by show _ = Sum.inl (kC K 20, 25, Sum.inl (moM b (b + 8))); rw [z 8 (by omega)])
    · rw [celE_arr (k := 20) (n := 25) ((sub_G 9).trans rfl) (by decide) (by decide) (by decide)]; exact f19_9.trans (by show _ = Sum.inl (kC K 20, 25, Sum.inl (moM b (b + 9))); rw [z 9 (by omega)])
  have hW' : WFK (sub K b tModel) := WFK.sub (by omega) wft_model
  have hlen : tModel.length = 10 := rfl
  refine n_aload_n G 0 0 dX10_init_82 rfl rfl ?_
  refine n_iconst G (0 : Int32) dX10_init_83 (by decide) ?_
  refine n_con G hkH hkL b tModel (memP (moM b)) hbb (by rw [hlen]; omega) hmo (n := 1) (ob := b) (ci := 11) (As := [.int 0]) (rest := []) (c_X10_clears (sub K b tModel) hW' l b 0 (congrArg Prod.fst (sub_G 0)) (moM b) _ _ (fun u => u = kb (moM b) (b + 1) 0 vClr) (t_clears (b := 0) (by omega) rfl)) hbb (by omega) f19_0 rfl ml_X10_43 im_X10_clears se_X10_clears in_X10 co_X10_clears rfl (by decide +kernel) rfl rfl (by decide) (by decide) rfl rfl (Nat.le_of_ble_eq_true rfl) (by decide) (by decide) dX10_init_84 (fun u hu => ?_)
  subst hu
  refine n_aload_n G 0 0 dX10_init_87 rfl rfl ?_
  refine n_iconst G (0 : Int32) dX10_init_88 (by decide) ?_
  refine n_con G hkH hkL b tModel (memP (kb (moM b) (b + 1) 0 vClr)) hbb (by rw [hlen]; omega) (fun i hi => if_pos (sub_AA.mpr ⟨by omega, by omega⟩)) (n := 1) (ob := b) (ci := 11) (As := [.int 0]) (rest := []) (fs := fvals (memP (kb (moM b) (b + 1) 0 vClr)) 11 b) (c_X10_starts (sub K b tModel) hW' l b 0 (congrArg Prod.fst (sub_G 0)) (kb (moM b) (b + 1) 0 vClr) _ _ (MoOK b) (t_starts (b := 0) (K := 0) relR_clr (by omega) (by omega) (by decide) (fun A hA => ⟨A, hA, rfl⟩))) hbb (by omega) ((if_pos (sub_AA.mpr ⟨by omega, by rw [hlen]; omega⟩)).trans (celE_obj (congrArg Prod.fst (sub_G 0)) (by decide))) rfl ml_X10_47 im_X10_starts se_X10_starts in_X10 co_X10_starts rfl (by decide +kernel) rfl rfl (by decide) (by decide) rfl rfl (Nat.le_of_ble_eq_true rfl) (by decide) (by decide) dX10_init_89 (fun u hu => ?_)
  refine n_retS u G hu rfl rfl (fun q _ q2 => ?_) dX10_init_92
  show ov (sub K b tModel) (memP u) (ov (sub K b tModel) (memP (kb (moM b) (b + 1) 0 vClr)) E19) q = ov (sub K b tModel) (memP u) E0 q
  unfold ov
  by_cases hm : q ∈ kL (sub K b tModel)
  · rw [if_pos hm, if_pos hm]
  · rw [if_neg hm, if_neg hm, if_neg hm]
    exact o19 q (Nat.lt_of_not_le (fun c => hm (sub_AA.mpr ⟨c, by rw [hlen]; omega⟩)))
