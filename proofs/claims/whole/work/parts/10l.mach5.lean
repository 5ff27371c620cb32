/-! the constructor of a machine -/
def MaOK (b : Nat) (u : MI) : Prop := (∀ q, q < 6 → BgQ b q (maM b) u) ∧ (∀ s, s < 2 → BgS b s (maM b) u) ∧ BgM b (maM b) u ∧ Frm b (maM b) u
set_option maxRecDepth 100000 in
theorem c_X1_init (K : Kx) (l : Launch) (base n0 b : Nat) (E0 : Nat → va_E) (hkH : (kH K).size = base) (hkL : kL K = []) (hb0 : 0 < base) (hbn : base + n0 = b + 1) (hbb : base ≤ b) (f0_0 : E0 b = .inr (2, [.null, .null, .null, .null, .null, .int 0, .int 0, .int 0, .int 0, .int 0, .int 0, .int 0, .int 0, .int 0, .int 0, .int 0])) : ConN K l yX1_init (wsT yX1_init cX1_init 2 none) rm_X1_init [.ref b] base n0 E0 62 741 (va_Qv (S := MI) (MaOK b) (fun u t => HE K base (n0 + 62) (ov (sub K b tMach) (memP u) E0) t.heap) (AB base)) := by
  refine ConN.ofJ RX1 rfl rfl (by decide) (Nat.le_of_ble_eq_true rfl) (fun m H0 w G => ?_)
  show JN K base n0 m 2 H0 w 0 0 E0 0 [(0, .ref b)] []
  refine n_aload_n G 0 0 dX1_init_0 rfl rfl ?_
  refine n_obj G oi_X1 oi_im oi_co (by decide) (Nat.le_of_ble_eq_true rfl) dX1_init_1 ?_
  refine n_aload_n G 0 0 dX1_init_4 rfl rfl ?_
  refine n_new G (ci := 3) [.null, .int 0, .int 0, .int 0, .int 0, .null, .null, .null, .null, .null, .null, .null] tyX2 tyX2_ok rfl lay_X2 cl_X1_9 is_X2 in_X2 (by decide) (by decide) (by decide) (by omega) dX1_init_5 ?_
  rw [show base + (n0 + 0) = b + 1 by omega]
  refine n_dup G rfl dX1_init_8 ?_
  generalize hE1 : ue E0 (b + 1) (.inr (3, [.null, .int 0, .int 0, .int 0, .int 0, .null, .null, .null, .null, .null, .null, .null])) = E1
  refine n_init G hkH (mc2 := 33) (ms2 := 445) (n := 0) (As := []) (rest := [.ref (b + 1), .ref b]) (c_X2_init K l base (n0 + (0 + 1)) (b + 1) E1 hkH hkL hb0 (by omega) (by omega) (by rw [← hE1, ue_at])) ml_X1_11 im_X2_init in_X2 co_X2_init rfl (by decide +kernel) rfl rfl (by decide) (by decide) rfl rfl (Nat.le_of_ble_eq_true rfl) (by decide) (by decide) (by omega) dX1_init_9 ?_
  generalize hE2 : ov (sub K (b + 1) tProg) (memP (clrM (b + 1))) E1 = E2
  have p2 : ∀ i, i < 34 → E2 (b + 1 + i) = celE (sub K (b + 1) tProg) (memP (clrM (b + 1))) (b + 1 + i) := fun i hi => by rw [← hE2]; exact if_pos (sub_AA.mpr ⟨by omega, by rw [pr_kinds.1]; omega⟩)
  have o2 : ∀ q, q < b + 1 → E2 q = E0 q := fun q hq => by rw [← hE2]; unfold ov; rw [if_neg (fun c => by have := sub_AA.mp c; omega), ← hE1, ue_ne _ _ (by omega)]
  have f2_0 : E2 b = .inr (2, [.null, .null, .null, .null, .null, .int 0, .int 0, .int 0, .int 0, .int 0, .int 0, .int 0, .int 0, .int 0, .int 0, .int 0]) := (o2 b (by omega)).trans f0_0
  refine n_putF' G 2 b 0 [.ref (b + 1), .null, .null, .null, .null, .int 0, .int 0, .int 0, .int 0, .int 0, .int 0, .int 0, .int 0, .int 0, .int 0, .int 0] tyX1 (tyX1 0) rfl tyX1_ok nmX1 (by omega) (by omega) f2_0 rfl (by decide) lay_X1 fl_X1_12 rfl rfl rfl (tyX1_ok 0 (by decide)) rfl rfl (Nat.le_of_ble_eq_true rfl) dX1_init_12 (fun E3 e3 => ?_)
  have f3_0 : E3 b = .inr (2, [.ref (b + 1), .null, .null, .null, .null, .int 0, .int 0, .int 0, .int 0, .int 0, .int 0, .int 0, .int 0, .int 0, .int 0, .int 0]) := by rw [e3, ue_at]
  have p3 : ∀ i, i < 34 → E3 (b + 1 + i) = celE (sub K (b + 1) tProg) (memP (clrM (b + 1))) (b + 1 + i) := fun i hi => by rw [e3, ue_ne _ _ (by omega)]; exact p2 i hi
  have o3 : ∀ q, q < b → E3 q = E0 q := fun q hq => by rw [e3, ue_ne _ _ (by omega)]; exact o2 q (by omega)
  refine n_aload_n G 0 0 dX1_init_15 rfl rfl ?_
  refine n_bipush G (8 : Int32) dX1_init_16 (by decide) ?_
  refine n_newa' G (atype := .int) (ty := .int) 0 20 (b + 35) 35 465 8 (a0 := .inl (fun _ => 0)) (by omega) rfl rfl rfl ar_int rfl (fun _ _ h => h) (fun _ => rfl) (by decide) (by decide) (Nat.le_of_ble_eq_true rfl) (by decide) (Nat.le_of_ble_eq_true rfl) (by omega) dX1_init_18 (fun E4 e4 => ?_)
  have f4_0 : E4 b = .inr (2, [.ref (b + 1), .null, .null, .null, .null, .int 0, .int 0, .int 0, .int 0, .int 0, .int 0, .int 0, .int 0, .int 0, .int 0, .int 0]) := by rw [e4, ue_ne _ _ (by omega)]; exact f3_0
  have f4_35 : E4 (b + 35) = arI K 8 := by rw [e4, ue_at]; rfl
  have p4 : ∀ i, i < 34 → E4 (b + 1 + i) = celE (sub K (b + 1) tProg) (memP (clrM (b + 1))) (b + 1 + i) := fun i hi => by rw [e4, ue_ne _ _ (by omega)]; exact p3 i hi
  have o4 : ∀ q, q < b → E4 q = E0 q := fun q hq => by rw [e4, ue_ne _ _ (by omega)]; exact o3 q (by omega)
  refine n_putF' G 2 b 1 [.ref (b + 1), .ref (b + 35), .null, .null, .null, .int 0, .int 0, .int 0, .int 0, .int 0, .int 0, .int 0, .int 0, .int 0, .int 0, .int 0] tyX1 (tyX1 1) rfl tyX1_ok nmX1 (by omega) (by omega) f4_0 rfl (by decide) lay_X1 fl_X1_18 rfl rfl rfl (tyX1_ok 1 (by decide)) rfl rfl (Nat.le_of_ble_eq_true rfl) dX1_init_20 (fun E5 e5 => ?_)
  have f5_0 : E5 b = .inr (2, [.ref (b + 1), .ref (b + 35), .null, .null, .null, .int 0, .int 0, .int 0, .int 0, .int 0, .int 0, .int 0, .int 0, .int 0, .int 0, .int 0]) := by rw [e5, ue_at]
  have f5_35 : E5 (b + 35) = arI K 8 := by rw [e5, ue_ne _ _ (by omega)]; exact f4_35
  have p5 : ∀ i, i < 34 → E5 (b + 1 + i) = celE (sub K (b + 1) tProg) (memP (clrM (b + 1))) (b + 1 + i) := fun i hi => by rw [e5, ue_ne _ _ (by omega)]; exact p4 i hi
  have o5 : ∀ q, q < b → E5 q = E0 q := fun q hq => by rw [e5, ue_ne _ _ (by omega)]; exact o4 q (by omega)
  refine n_aload_n G 0 0 dX1_init_23 rfl rfl ?_
  refine n_bipush G (32 : Int32) dX1_init_24 (by decide) ?_
  refine n_newa' G (atype := .int) (ty := .int) 0 20 (b + 36) 36 497 32 (a0 := .inl (fun _ => 0)) (by omega) rfl rfl rfl ar_int rfl (fun _ _ h => h) (fun _ => rfl) (by decide) (by decide) (Nat.le_of_ble_eq_true rfl) (by decide) (Nat.le_of_ble_eq_true rfl) (by omega) dX1_init_26 (fun E6 e6 => ?_)
  have f6_0 : E6 b = .inr (2, [.ref (b + 1), .ref (b + 35), .null, .null, .null, .int 0, .int 0, .int 0, .int 0, .int 0, .int 0, .int 0, .int 0, .int 0, .int 0, .int 0]) := by rw [e6, ue_ne _ _ (by omega)]; exact f5_0
  have f6_35 : E6 (b + 35) = arI K 8 := by rw [e6, ue_ne _ _ (by omega)]; exact f5_35
  have f6_36 : E6 (b + 36) = arI K 32 := by rw [e6, ue_at]; rfl
  have p6 : ∀ i, i < 34 → E6 (b + 1 + i) = celE (sub K (b + 1) tProg) (memP (clrM (b + 1))) (b + 1 + i) := fun i hi => by rw [e6, ue_ne _ _ (by omega)]; exact p5 i hi
  have o6 : ∀ q, q < b → E6 q = E0 q := fun q hq => by rw [e6, ue_ne _ _ (by omega)]; exact o5 q (by omega)
  refine n_putF' G 2 b 2 [.ref (b + 1), .ref (b + 35), .ref (b + 36), .null, .null, .int 0, .int 0, .int 0, .int 0, .int 0, .int 0, .int 0, .int 0, .int 0, .int 0, .int 0] tyX1 (tyX1 2) rfl tyX1_ok nmX1 (by omega) (by omega) f6_0 rfl (by decide) lay_X1 fl_X1_22 rfl rfl rfl (tyX1_ok 2 (by decide)) rfl rfl (Nat.le_of_ble_eq_true rfl) dX1_init_28 (fun E7 e7 => ?_)
  have f7_0 : E7 b = .inr (2, [.ref (b + 1), .ref (b + 35), .ref (b + 36), .null, .null, .int 0, .int 0, .int 0, .int 0, .int 0, .int 0, .int 0, .int 0, .int 0, .int 0, .int 0]) := by rw [e7, ue_at]
  have f7_35 : E7 (b + 35) = arI K 8 := by rw [e7, ue_ne _ _ (by omega)]; exact f6_35
  have f7_36 : E7 (b + 36) = arI K 32 := by rw [e7, ue_ne _ _ (by omega)]; exact f6_36
  have p7 : ∀ i, i < 34 → E7 (b + 1 + i) = celE (sub K (b + 1) tProg) (memP (clrM (b + 1))) (b + 1 + i) := fun i hi => by rw [e7, ue_ne _ _ (by omega)]; exact p6 i hi
  have o7 : ∀ q, q < b → E7 q = E0 q := fun q hq => by rw [e7, ue_ne _ _ (by omega)]; exact o6 q (by omega)
  refine n_aload_n G 0 0 dX1_init_31 rfl rfl ?_
  refine n_bipush G (6 : Int32) dX1_init_32 (by decide) ?_
  refine n_newq' G 5 25 (b + 37) 37 503 6 (by omega) rfl rfl (fun _ h => h.2.1) cl_X1_25 rfl (by decide) (by decide) (Nat.le_of_ble_eq_true rfl) (by decide) (Nat.le_of_ble_eq_true rfl) (by omega) dX1_init_34 (fun E8 e8 => ?_)
  have f8_0 : E8 b = .inr (2, [.ref (b + 1), .ref (b + 35), .ref (b + 36), .null, .null, .int 0, .int 0, .int 0, .int 0, .int 0, .int 0, .int 0, .int 0, .int 0, .int 0, .int 0]) := by rw [e8, ue_ne _ _ (by omega)]; exact f7_0
  have f8_35 : E8 (b + 35) = arI K 8 := by rw [e8, ue_ne _ _ (by omega)]; exact f7_35
  have f8_36 : E8 (b + 36) = arI K 32 := by rw [e8, ue_ne _ _ (by omega)]; exact f7_36
  have f8_37 : E8 (b + 37) = .inl (kC K 25, 6, .inr (.inr (.inr (.inr (fun _ => none))))) := by rw [e8, ue_at]
  have p8 : ∀ i, i < 34 → E8 (b + 1 + i) = celE (sub K (b + 1) tProg) (memP (clrM (b + 1))) (b + 1 + i) := fun i hi => by rw [e8, ue_ne _ _ (by omega)]; exact p7 i hi
  have o8 : ∀ q, q < b → E8 q = E0 q := fun q hq => by rw [e8, ue_ne _ _ (by omega)]; exact o7 q (by omega)
  refine n_putF' G 2 b 3 [.ref (b + 1), .ref (b + 35), .ref (b + 36), .ref (b + 37), .null, .int 0, .int 0, .int 0, .int 0, .int 0, .int 0, .int 0, .int 0, .int 0, .int 0, .int 0] tyX1 (tyX1 3) rfl tyX1_ok nmX1 (by omega) (by omega) f8_0 rfl (by decide) lay_X1 fl_X1_27 rfl rfl rfl (tyX1_ok 3 (by decide)) rfl rfl (Nat.le_of_ble_eq_true rfl) dX1_init_37 (fun E9 e9 => ?_)
  have f9_0 : E9 b = .inr (2, [.ref (b + 1), .ref (b + 35), .ref (b + 36), .ref (b + 37), .null, .int 0, .int 0, .int 0, .int 0, .int 0, .int 0, .int 0, .int 0, .int 0, .int 0, .int 0]) := by rw [e9, ue_at]
  have f9_35 : E9 (b + 35) = arI K 8 := by rw [e9, ue_ne _ _ (by omega)]; exact f8_35
  have f9_36 : E9 (b + 36) = arI K 32 := by rw [e9, ue_ne _ _ (by omega)]; exact f8_36
  have f9_37 : E9 (b + 37) = .inl (kC K 25, 6, .inr (.inr (.inr (.inr (fun _ => none))))) := by rw [e9, ue_ne _ _ (by omega)]; exact f8_37
  have p9 : ∀ i, i < 34 → E9 (b + 1 + i) = celE (sub K (b + 1) tProg) (memP (clrM (b + 1))) (b + 1 + i) := fun i hi => by rw [e9, ue_ne _ _ (by omega)]; exact p8 i hi
  have o9 : ∀ q, q < b → E9 q = E0 q := fun q hq => by rw [e9, ue_ne _ _ (by omega)]; exact o8 q (by omega)
  refine n_aload_n G 0 0 dX1_init_40 rfl rfl ?_
  refine n_iconst G (2 : Int32) dX1_init_41 (by decide) ?_
  refine n_newq' G 6 26 (b + 38) 38 505 2 (by omega) rfl rfl (fun _ h => h.2.2.1) cl_X1_31 rfl (by decide) (by decide) (Nat.le_of_ble_eq_true rfl) (by decide) (Nat.le_of_ble_eq_true rfl) (by omega) dX1_init_42 (fun E10 e10 => ?_)
  have f10_0 : E10 b = .inr (2, [.ref (b + 1), .ref (b + 35), .ref (b + 36), .ref (b + 37), .null, .int 0, .int 0, .int 0, .int 0, .int 0, .int 0, .int 0, .int 0, .int 0, .int 0, .int 0]) := by rw [e10, ue_ne _ _ (by omega)]; exact f9_0
  have f10_35 : E10 (b + 35) = arI K 8 := by rw [e10, ue_ne _ _ (by omega)]; exact f9_35
  have f10_36 : E10 (b + 36) = arI K 32 := by rw [e10, ue_ne _ _ (by omega)]; exact f9_36
  have f10_37 : E10 (b + 37) = .inl (kC K 25, 6, .inr (.inr (.inr (.inr (fun _ => none))))) := by rw [e10, ue_ne _ _ (by omega)]; exact f9_37
  have f10_38 : E10 (b + 38) = .inl (kC K 26, 2, .inr (.inr (.inr (.inr (fun _ => none))))) := by rw [e10, ue_at]
  have p10 : ∀ i, i < 34 → E10 (b + 1 + i) = celE (sub K (b + 1) tProg) (memP (clrM (b + 1))) (b + 1 + i) := fun i hi => by rw [e10, ue_ne _ _ (by omega)]; exact p9 i hi
  have o10 : ∀ q, q < b → E10 q = E0 q := fun q hq => by rw [e10, ue_ne _ _ (by omega)]; exact o9 q (by omega)
  refine n_putF' G 2 b 4 [.ref (b + 1), .ref (b + 35), .ref (b + 36), .ref (b + 37), .ref (b + 38), .int 0, .int 0, .int 0, .int 0, .int 0, .int 0, .int 0, .int 0, .int 0, .int 0, .int 0] tyX1 (tyX1 4) rfl tyX1_ok nmX1 (by omega) (by omega) f10_0 rfl (by decide) lay_X1 fl_X1_33 rfl rfl rfl (tyX1_ok 4 (by decide)) rfl rfl (Nat.le_of_ble_eq_true rfl) dX1_init_45 (fun E11 e11 => ?_)
  have f11_0 : E11 b = .inr (2, [.ref (b + 1), .ref (b + 35), .ref (b + 36), .ref (b + 37), .ref (b + 38), .int 0, .int 0, .int 0, .int 0, .int 0, .int 0, .int 0, .int 0, .int 0, .int 0, .int 0]) := by rw [e11, ue_at]
  have f11_35 : E11 (b + 35) = arI K 8 := by rw [e11, ue_ne _ _ (by omega)]; exact f10_35
  have f11_36 : E11 (b + 36) = arI K 32 := by rw [e11, ue_ne _ _ (by omega)]; exact f10_36
  have f11_37 : E11 (b + 37) = .inl (kC K 25, 6, .inr (.inr (.inr (.inr (fun _ => none))))) := by rw [e11, ue_ne _ _ (by omega)]; exact f10_37
  have f11_38 : E11 (b + 38) = .inl (kC K 26, 2, .inr (.inr (.inr (.inr (fun _ => none))))) := by rw [e11, ue_ne _ _ (by omega)]; exact f10_38
  have p11 : ∀ i, i < 34 → E11 (b + 1 + i) = celE (sub K (b + 1) tProg) (memP (clrM (b + 1))) (b + 1 + i) := fun i hi => by rw [e11, ue_ne _ _ (by omega)]; exact p10 i hi
  have o11 : ∀ q, q < b → E11 q = E0 q := fun q hq => by rw [e11, ue_ne _ _ (by omega)]; exact o10 q (by omega)
  refine n_iconst G (0 : Int32) dX1_init_48 (by decide) ?_
  refine n_istore_n G 1 [(1, .int (nI 0)), (0, .ref b)] dX1_init_49 rfl (by decide) rfl ?_
  refine qu_loop G hkH hbn hbb (E1 := E11) f11_0 (fun Ea hA => ?_) 6 0 rfl E11 ⟨f11_37.trans (by congr 6), fun j hj => absurd hj (by omega), fun q _ _ => rfl⟩
  obtain ⟨a1, a2, a3⟩ := hA
  refine n_iconst G (0 : Int32) dX1_init_75 (by decide) ?_
  refine n_istore_n G 1 [(1, .int (nI 0)), (0, .ref b)] dX1_init_76 rfl (by decide) rfl ?_
  refine sd_loop G hkH hbn hbb (E1 := Ea) ((a3 b (by omega) (by omega)).trans f11_0) (fun Eb hB => ?_) 2 0 rfl Ea ⟨(a3 _ (by omega) (by omega)).trans (f11_38.trans (by congr 6)), fun j hj => absurd hj (by omega), fun q _ _ => rfl⟩
  obtain ⟨b1, b2, b3⟩ := hB
  have ab : ∀ q, q < b + 37 → Eb q = E11 q := fun q hq => (b3 q (by omega) (by omega)).trans (a3 q (by omega) (by omega))
  have hMa : MaE K b Eb := ⟨(ab b (by omega)).trans f11_0, fun i hi => (ab _ (by omega)).trans (p11 i hi), (ab _ (by omega)).trans f11_35, (ab _ (by omega)).trans f11_36, (b3 _ (by omega) (by omega)).trans a1, b1, fun j hj => by obtain ⟨x, y, z⟩ := a2 j hj; exact ⟨(b3 _ (by omega) (by omega)).trans x, (b3 _ (by omega) (by omega)).trans y, (b3 _ (by omega) (by omega)).trans z⟩, b2⟩
  refine n_congr (fun H h => ma_ov hMa h) ?_
  refine n_aload_n G 1 0 dX1_init_102 rfl rfl ?_
  have hW' : WFK (sub K b tMach) := WFK.sub (by omega) wft_mach
  refine n_con G hkH hkL b tMach (memP (maM b)) hbb (by rw [ma_kinds.1]; omega) (fun i hi => if_pos (sub_AA.mpr ⟨by omega, by omega⟩)) (n := 0) (ob := b) (ci := 2) (As := []) (rest := []) (fs := fvals (memP (maM b)) 2 b) (c_X1_toBeginning (sub K b tMach) hW' l b (congrArg Prod.fst (sub_G 0)) (maM b) _ _ (fun u => MaOK b u) (k_begin (fun I' h1 h2 h3 h4 => ⟨h1, h2, h3, h4⟩))) hbb (by omega) ((if_pos (sub_AA.mpr ⟨by omega, by rw [ma_kinds.1]; omega⟩)).trans (celE_obj (congrArg Prod.fst (sub_G 0)) (by decide))) rfl ml_X1_41 im_X1_toBeginning se_X1_toBeginning in_X1 co_X1_toBeginning rfl (by decide +kernel) rfl rfl (by decide) (by decide) rfl rfl (Nat.le_of_ble_eq_true rfl) (by decide) (by decide) dX1_init_103 (fun u hu => ?_)
  refine n_retS u G hu rfl rfl (fun q _ q2 => ?_) dX1_init_106
  show ov (sub K b tMach) (memP u) (ov (sub K b tMach) (memP (maM b)) Eb) q = ov (sub K b tMach) (memP u) E0 q
  unfold ov
  by_cases hm : q ∈ kL (sub K b tMach)
  · rw [if_pos hm, if_pos hm]
  · rw [if_neg hm, if_neg hm, if_neg hm]
    have hlt : q < b := Nat.lt_of_not_le (fun c => hm (sub_AA.mpr ⟨c, by rw [ma_kinds.1]; omega⟩))
    exact (ab q (by omega)).trans (o11 q hlt)
