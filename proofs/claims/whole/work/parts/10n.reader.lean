/-! the constructor of a reader -/
def rdE (K : Kx) (b : Nat) (E0 : Nat → va_E) : Nat → va_E := ue (ue (ue (en_X7_init K (b + 35) (ov (sub K (b + 1) tProg) (memP (clrM (b + 1))) E0)) (b + 41) (.inl (kC K 20, 150, .inl (fun _ => 0)))) (b + 42) (.inl (kC K 20, 150, .inl (fun _ => 0)))) b (.inr (5, [.ref (b + 1), .int 0, .int 0, .ref (b + 35), .int 0, .int 0, .ref (b + 41), .ref (b + 42)]))
abbrev rm_X4_init : Room := { frames := 3, cells := 42, slots := 3168, locals := 100 }
set_option maxRecDepth 100000 in
theorem c_X4_init (K : Kx) (l : Launch) (base n0 b : Nat) (E0 : Nat → va_E) (hkH : (kH K).size = base) (hkL : kL K = []) (hb0 : 0 < base) (hbn : base + n0 = b + 1) (hbb : base ≤ b) (f0_0 : E0 b = .inr (5, [.null, .int 0, .int 0, .null, .int 0, .int 0, .null, .null])) : ConN K l yX4_init (wsT yX4_init cX4_init 1 none) rm_X4_init [.ref b] base n0 E0 42 3168 (va_Qv (S := Unit) (fun _ => True) (fun _ t => HE K base (n0 + 42) (rdE K b E0) t.heap) (AB base)) := by
  refine ConN.ofJ RX4 rfl rfl (by decide) (Nat.le_of_ble_eq_true rfl) (fun m H0 w G => ?_)
  show JN K base n0 m 1 H0 w 0 0 E0 0 [(0, .ref b)] []
  refine n_aload_n G 0 0 dX4_init_0 rfl rfl ?_
  refine n_obj G oi_X4 oi_im oi_co (by decide) (Nat.le_of_ble_eq_true rfl) dX4_init_1 ?_
  refine n_aload_n G 0 0 dX4_init_4 rfl rfl ?_
  refine n_new G (ci := 3) [.null, .int 0, .int 0, .int 0, .int 0, .null, .null, .null, .null, .null, .null, .null] tyX2 tyX2_ok rfl lay_X2 cl_X4_11 is_X2 in_X2 (by decide) (by decide) (by decide) (by omega) dX4_init_5 ?_
  rw [show base + (n0 + 0) = b + 1 by omega]
  refine n_dup G rfl dX4_init_8 ?_
  generalize hE1 : ue E0 (b + 1) (.inr (3, [.null, .int 0, .int 0, .int 0, .int 0, .null, .null, .null, .null, .null, .null, .null])) = E1
  refine n_init G hkH (mc2 := 33) (ms2 := 445) (n := 0) (As := []) (rest := [.ref (b + 1), .ref b]) (c_X2_init K l base (n0 + (0 + 1)) (b + 1) E1 hkH hkL hb0 (by omega) (by omega) (by rw [← hE1, ue_at])) ml_X4_13 im_X2_init in_X2 co_X2_init rfl (by decide +kernel) rfl rfl (by decide) (by decide) rfl rfl (Nat.le_of_ble_eq_true rfl) (by decide) (by decide) (by omega) dX4_init_9 ?_
  generalize hE2 : ov (sub K (b + 1) tProg) (memP (clrM (b + 1))) E1 = E2
  have o2 : ∀ q, q < b + 1 → E2 q = E0 q := fun q hq => by rw [← hE2]; unfold ov; rw [if_neg (fun c => by have := sub_AA.mp c; omega), ← hE1, ue_ne _ _ (by omega)]
  have f2 : E2 b = .inr (5, [.null, .int 0, .int 0, .null, .int 0, .int 0, .null, .null]) := (o2 b (by omega)).trans f0_0
  refine n_putF' G 5 b 0 [.ref (b + 1), .int 0, .int 0, .null, .int 0, .int 0, .null, .null] tyX4 (tyX4 0) rfl tyX4_ok nmX4 (by omega) (by omega) f2 rfl (by decide) lay_X4 fl_X4_14 rfl rfl rfl (tyX4_ok 0 (by decide)) rfl rfl (Nat.le_of_ble_eq_true rfl) dX4_init_12 (fun E3 e3 => ?_)
  have f3 : E3 b = .inr (5, [.ref (b + 1), .int 0, .int 0, .null, .int 0, .int 0, .null, .null]) := by rw [e3, ue_at]
  refine n_aload_n G 0 0 dX4_init_15 rfl rfl ?_
  refine n_new G (ci := 8) [.null, .null, .null, .null, .int 0, .null, .int 0] tyX7 tyX7_ok rfl lay_X7 cl_X4_18 is_X7 in_X7 (by decide) (by decide) (by decide) (by omega) dX4_init_16 ?_
  rw [show base + (n0 + (0 + 1 + 33)) = b + 35 by omega]
  refine n_dup G rfl dX4_init_19 ?_
  generalize hE4 : ue E3 (b + 35) (.inr (8, [.null, .null, .null, .null, .int 0, .null, .int 0])) = E4
  refine n_initN G hkH (mc2 := 5) (ms2 := 2404) (n := 0) (As := []) (rest := [.ref (b + 35), .ref b]) (c_X7_init K l base (n0 + (0 + 1 + 33 + 1)) (b + 35) E4 (by omega) (by omega) (by rw [← hE4, ue_at])) (List.mem_of_getElem? (i := 4) rfl) im_X7_init in_X7 co_X7_init rfl (by decide +kernel) rfl rfl (by decide) (by decide) rfl rfl (Nat.le_of_ble_eq_true rfl) (by decide) (by decide) (by omega) dX4_init_20 ?_
  generalize hE5 : en_X7_init K (b + 35) E4 = E5
  have f5 : E5 b = .inr (5, [.ref (b + 1), .int 0, .int 0, .null, .int 0, .int 0, .null, .null]) := by rw [← hE5]; unfold en_X7_init; rw [ue_ne _ _ (by omega), ue_ne _ _ (by omega), ue_ne _ _ (by omega), ue_ne _ _ (by omega), ue_ne _ _ (by omega), ue_ne _ _ (by omega), ← hE4, ue_ne _ _ (by omega)]; exact f3
  refine n_putF' G 5 b 3 [.ref (b + 1), .int 0, .int 0, .ref (b + 35), .int 0, .int 0, .null, .null] tyX4 (tyX4 3) rfl tyX4_ok nmX4 (by omega) (by omega) f5 rfl (by decide) lay_X4 fl_X4_21 rfl rfl rfl (tyX4_ok 3 (by decide)) rfl rfl (Nat.le_of_ble_eq_true rfl) dX4_init_23 (fun E6 e6 => ?_)
  have f6 : E6 b = .inr (5, [.ref (b + 1), .int 0, .int 0, .ref (b + 35), .int 0, .int 0, .null, .null]) := by rw [e6, ue_at]
  refine n_aload_n G 0 0 dX4_init_26 rfl rfl ?_
  refine n_sipush G (150 : Int32) dX4_init_27 (by decide) ?_
  refine n_newa' G (atype := .int) (ty := .int) 0 20 (b + 41) 41 3018 150 (a0 := .inl (fun _ => 0)) (by omega) rfl rfl rfl ar_int rfl (fun _ _ h => h) (fun _ => rfl) (by decide) (by decide) (Nat.le_of_ble_eq_true rfl) (by decide) (Nat.le_of_ble_eq_true rfl) (by omega) dX4_init_30 (fun E7 e7 => ?_)
  have f7 : E7 b = .inr (5, [.ref (b + 1), .int 0, .int 0, .ref (b + 35), .int 0, .int 0, .null, .null]) := by rw [e7, ue_ne _ _ (by omega)]; exact f6
  refine n_putF' G 5 b 6 [.ref (b + 1), .int 0, .int 0, .ref (b + 35), .int 0, .int 0, .ref (b + 41), .null] tyX4 (tyX4 6) rfl tyX4_ok nmX4 (by omega) (by omega) f7 rfl (by decide) lay_X4 fl_X4_25 rfl rfl rfl (tyX4_ok 6 (by decide)) rfl rfl (Nat.le_of_ble_eq_true rfl) dX4_init_32 (fun E8 e8 => ?_)
  have f8 : E8 b = .inr (5, [.ref (b + 1), .int 0, .int 0, .ref (b + 35), .int 0, .int 0, .ref (b + 41), .null]) := by rw [e8, ue_at]
  refine n_aload_n G 0 0 dX4_init_35 rfl rfl ?_
  refine n_sipush G (150 : Int32) dX4_init_36 (by decide) ?_
  refine n_newa' G (atype := .int) (ty := .int) 0 20 (b + 42) 42 3168 150 (a0 := .inl (fun _ => 0)) (by omega) rfl rfl rfl ar_int rfl (fun _ _ h => h) (fun _ => rfl) (by decide) (by decide) (Nat.le_of_ble_eq_true rfl) (by decide) (Nat.le_of_ble_eq_true rfl) (by omega) dX4_init_39 (fun E9 e9 => ?_)
  have f9 : E9 b = .inr (5, [.ref (b + 1), .int 0, .int 0, .ref (b + 35), .int 0, .int 0, .ref (b + 41), .null]) := by rw [e9, ue_ne _ _ (by omega)]; exact f8
  refine n_putF' G 5 b 7 [.ref (b + 1), .int 0, .int 0, .ref (b + 35), .int 0, .int 0, .ref (b + 41), .ref (b + 42)] tyX4 (tyX4 7) rfl tyX4_ok nmX4 (by omega) (by omega) f9 rfl (by decide) lay_X4 fl_X4_29 rfl rfl rfl (tyX4_ok 7 (by decide)) rfl rfl (Nat.le_of_ble_eq_true rfl) dX4_init_41 (fun E10 e10 => ?_)
  have f10 : E10 b = .inr (5, [.ref (b + 1), .int 0, .int 0, .ref (b + 35), .int 0, .int 0, .ref (b + 41), .ref (b + 42)]) := by rw [e10, ue_at]
  refine n_retv' G rfl rfl (fun q _ q2 => ?_) dX4_init_44
  unfold rdE
  by_cases h0 : q = b
  · subst h0; rw [f10, ue_at]
  rw [ue_ne _ _ h0]
  by_cases h42 : q = b + 42
  · subst h42; rw [e10, ue_ne _ _ h0, e9, ue_at, ue_at]
  rw [ue_ne _ _ h42, e10, ue_ne _ _ h0, e9, ue_ne _ _ h42, e8, ue_ne _ _ h0]
  by_cases h41 : q = b + 41
  · subst h41; rw [e7, ue_at, ue_at]
  rw [ue_ne _ _ h41, e7, ue_ne _ _ h41, e6, ue_ne _ _ h0, ← hE5]
  unfold en_X7_init
  by_cases g0 : q = b + 35
  · subst g0; rw [ue_at, ue_at]
  rw [ue_ne _ _ g0, ue_ne _ _ g0]
  by_cases g5 : q = b + 35 + 5
  · subst g5; rw [ue_at, ue_at]
  rw [ue_ne _ _ g5, ue_ne _ _ g5]
  by_cases g4 : q = b + 35 + 4
  · subst g4; rw [ue_at, ue_at]
  rw [ue_ne _ _ g4, ue_ne _ _ g4]
  by_cases g3 : q = b + 35 + 3
  · subst g3; rw [ue_at, ue_at]
  rw [ue_ne _ _ g3, ue_ne _ _ g3]
  by_cases g2 : q = b + 35 + 2
  · subst g2; rw [ue_at, ue_at]
  rw [ue_ne _ _ g2, ue_ne _ _ g2]
  by_cases g1 : q = b + 35 + 1
  · subst g1; rw [ue_at, ue_at]
  rw [ue_ne _ _ g1, ue_ne _ _ g1]
  rw [← hE4, ue_ne _ _ g0, e3, ue_ne _ _ h0, ← hE2]
  unfold ov
  by_cases hm : q ∈ kL (sub K (b + 1) tProg)
  · rw [if_pos hm, if_pos hm]
  · rw [if_neg hm, if_neg hm]
    rw [← hE1, ue_ne _ _ (fun c => hm (sub_AA.mpr ⟨by omega, by rw [pr_kinds.1]; omega⟩))]
