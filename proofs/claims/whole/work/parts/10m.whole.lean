/-! the constructor of a whole -/
def whE (K : Kx) (b : Nat) (u : MI) (E0 : Nat → va_E) : Nat → va_E := ue (ov (sub K (b + 2) tMach) (memP u) (ue E0 (b + 1) (.inl (kC K 21, 600, .inl (fun _ => 0))))) b (.inr (9, [.ref (b + 1), .int 0, .int 0, .int (-1), .ref (b + 2)]))
abbrev rm_X8_init : Room := { frames := 5, cells := 64, slots := 1357, locals := 150 }
set_option maxRecDepth 100000 in
theorem c_X8_init (K : Kx) (l : Launch) (base n0 b : Nat) (E0 : Nat → va_E) (hkH : (kH K).size = base) (hkL : kL K = []) (hb0 : 0 < base) (hbn : base + n0 = b + 1) (hbb : base ≤ b) (f0_0 : E0 b = .inr (9, [.null, .int 0, .int 0, .int 0, .null])) : ConN K l yX8_init (wsT yX8_init cX8_init 1 none) rm_X8_init [.ref b] base n0 E0 64 1357 (va_Qv (S := MI) (MaOK (b + 2)) (fun u t => HE K base (n0 + 64) (whE K b u E0) t.heap) (AB base)) := by
  refine ConN.ofJ RX8 rfl rfl (by decide) (Nat.le_of_ble_eq_true rfl) (fun m H0 w G => ?_)
  show JN K base n0 m 1 H0 w 0 0 E0 0 [(0, .ref b)] []
  refine n_aload_n G 0 0 dX8_init_0 rfl rfl ?_
  refine n_obj G oi_X8 oi_im oi_co (by decide) (Nat.le_of_ble_eq_true rfl) dX8_init_1 ?_
  refine n_aload_n G 0 0 dX8_init_4 rfl rfl ?_
  refine n_sipush G (600 : Int32) dX8_init_5 (by decide) ?_
  refine n_newa' G (atype := .byte) (ty := .byte) 1 21 (b + 1) 1 600 600 (a0 := .inl (fun _ => 0)) (by omega) rfl rfl rfl ar_byte rfl (fun _ _ h => h) (fun _ => rfl) (by decide) (by decide) (Nat.le_of_ble_eq_true rfl) (by decide) (Nat.le_of_ble_eq_true rfl) (by omega) dX8_init_8 (fun E1 e1 => ?_)
  have f1 : E1 b = .inr (9, [.null, .int 0, .int 0, .int 0, .null]) := by rw [e1, ue_ne _ _ (by omega)]; exact f0_0
  refine n_putF' G 9 b 0 [.ref (b + 1), .int 0, .int 0, .int 0, .null] tyX8 (tyX8 0) rfl tyX8_ok nmX8 (by omega) (by omega) f1 rfl (by decide) lay_X8 fl_X8_9 rfl rfl rfl (tyX8_ok 0 (by decide)) rfl rfl (Nat.le_of_ble_eq_true rfl) dX8_init_10 (fun E2 e2 => ?_)
  have f2 : E2 b = .inr (9, [.ref (b + 1), .int 0, .int 0, .int 0, .null]) := by rw [e2, ue_at]
  refine n_aload_n G 0 0 dX8_init_13 rfl rfl ?_
  refine n_iconst G (-1 : Int32) dX8_init_14 (by decide) ?_
  refine n_put' G 9 b 3 [.ref (b + 1), .int 0, .int 0, .int (-1), .null] tyX8 (tyX8 3) rfl tyX8_ok nmX8 (by omega) (by omega) f2 rfl (by decide) lay_X8 fl_X8_15 rfl rfl (tyX8_ok 3 (by decide)) rfl rfl (Nat.le_of_ble_eq_true rfl) dX8_init_15 (fun E3 e3 => ?_)
  have f3 : E3 b = .inr (9, [.ref (b + 1), .int 0, .int 0, .int (-1), .null]) := by rw [e3, ue_at]
  refine n_aload_n G 0 0 dX8_init_18 rfl rfl ?_
  refine n_new G (ci := 2) [.null, .null, .null, .null, .null, .int 0, .int 0, .int 0, .int 0, .int 0, .int 0, .int 0, .int 0, .int 0, .int 0, .int 0] tyX1 tyX1_ok rfl lay_X1 cl_X8_19 is_X1 in_X1 (by decide) (by decide) (by decide) (by omega) dX8_init_19 ?_
  rw [show base + (n0 + 1) = b + 2 by omega]
  refine n_dup G rfl dX8_init_22 ?_
  generalize hE4 : ue E3 (b + 2) (.inr (2, [.null, .null, .null, .null, .null, .int 0, .int 0, .int 0, .int 0, .int 0, .int 0, .int 0, .int 0, .int 0, .int 0, .int 0])) = E4
  refine n_initS G hkH (mc2 := 62) (ms2 := 741) (n := 0) (As := []) (rest := [.ref (b + 2), .ref b]) (c_X1_init K l base (n0 + (1 + 1)) (b + 2) E4 hkH hkL hb0 (by omega) (by omega) (by rw [← hE4, ue_at])) ml_X8_21 im_X1_init in_X1 co_X1_init rfl (by decide +kernel) rfl rfl (by decide) (by decide) rfl rfl (Nat.le_of_ble_eq_true rfl) (by decide) (by decide) (by omega) dX8_init_23 (fun u hu => ?_)
  generalize hE5 : ov (sub K (b + 2) tMach) (memP u) E4 = E5
  have o5 : ∀ q, q < b + 2 → E5 q = E3 q := fun q hq => by rw [← hE5]; unfold ov; rw [if_neg (fun c => by have := sub_AA.mp c; omega), ← hE4, ue_ne _ _ (by omega)]
  have f5 : E5 b = .inr (9, [.ref (b + 1), .int 0, .int 0, .int (-1), .null]) := (o5 b (by omega)).trans f3
  refine n_putF' G 9 b 4 [.ref (b + 1), .int 0, .int 0, .int (-1), .ref (b + 2)] tyX8 (tyX8 4) rfl tyX8_ok nmX8 (by omega) (by omega) f5 rfl (by decide) lay_X8 fl_X8_22 rfl rfl rfl (tyX8_ok 4 (by decide)) rfl rfl (Nat.le_of_ble_eq_true rfl) dX8_init_26 (fun E6 e6 => ?_)
  refine n_retS u G hu rfl rfl (fun q _ q2 => ?_) dX8_init_29
  by_cases h0 : q = b
  · subst h0; rw [e6, ue_at]; unfold whE; rw [ue_at]
  unfold whE
  rw [e6, ue_ne _ _ h0, ue_ne _ _ h0]
  by_cases hm : q ∈ kL (sub K (b + 2) tMach)
  · rw [← hE5]; unfold ov; rw [if_pos hm, if_pos hm]
  · rw [← hE5]; unfold ov; rw [if_neg hm, if_neg hm]
    have hlt : q < b + 2 := Nat.lt_of_not_le (fun c => hm (sub_AA.mpr ⟨c, by rw [ma_kinds.1]; omega⟩))
    rw [← hE4, ue_ne _ _ (by omega), e3, ue_ne _ _ h0, e2, ue_ne _ _ h0, e1]
