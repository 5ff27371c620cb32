/-! the constructor of a StringBuilder -/
theorem n_gets {K : Kx} {l : Launch} {R : Room} {base n0 : Nat} {m : MethodId} {own : String} {cc : ByteArray} {nL : Nat} {H0 : Heap} {ret : Option FieldType} {Qc : Array Value → State → Outcome → State → Prop} {mc ms : Nat} {w : HN} {ce sl : Nat} {E : Nat → va_E} {pc : Nat} {L : List (Nat × Value)} {S : List Value} (G : GN l R K base n0 m own cc nL H0 ret Qc mc ms w) (hkH : (kH K).size = base) (hkL : kL K = []) {C n d ref : String} {v : Value} {index : Nat} (hZ : ∀ U, XS K U → va_Z C n d v (AA K) U (kH K)) (hw : Cond.fieldLink own index ref n d ∈ gw) (hs : ref = C) (hd : decode cc pc = .ok (.getstatic index, 3)) (k : JN K base n0 m nL H0 w ce sl E (pc + 3) L (v :: S)) : JN K base n0 m nL H0 w ce sl E pc L S := by
  obtain ⟨p, e, s, args, below, meth, c, rfl, hx, hb, hml, hown, hts, hK, rfl, hr, hlk, hnm, hsz⟩ := G
  intro H locs ls hP hS hl
  exact va_gets hx hb (((hZ s hK.1.1.2.2).na (A' := AB base) (fun q hq => by show ¬ base ≤ q; omega)).kept (fun q hq _ => hK.2.2 q hq (by show q ∉ kL K; rw [hkL]; exact List.not_mem_nil))) hS hown (hts _ hw) (fun x h => by rw [hs]; exact h) hd (k H locs ls hP hS hl)
def sbE (K : Kx) (b : Nat) (E0 : Nat → va_E) : Nat → va_E := ue (ue E0 (b + 1) (.inl (kC K 21, 16, .inl (fun _ => 0)))) b (.inr (0, [.ref (b + 1), .int 0, .int 0, .int 0]))
abbrev rm_J5_init : Room := { frames := 1, cells := 1, slots := 16, locals := 20 }
abbrev rm_J4_init : Room := { frames := 2, cells := 1, slots := 16, locals := 50 }
set_option maxRecDepth 100000 in
theorem c_J5_init (K : Kx) (l : Launch) (base n0 b : Nat) (E0 : Nat → va_E) (hkH : (kH K).size = base) (hkL : kL K = []) (hbn : base + n0 = b + 1) (hbb : base ≤ b) (f0_0 : E0 b = .inr (0, [.null, .int 0, .int 0, .int 0])) : ConN K l yJ5_init_d00df (wsT yJ5_init_d00df cJ5_init_d00df 2 none) rm_J5_init [.ref b, .int 16] base n0 E0 1 16 (va_Qv (S := Unit) (fun _ => True) (fun _ t => HE K base (n0 + 1) (sbE K b E0) t.heap) (AB base)) := by
  refine ConN.ofJ RJ5 rfl rfl (by decide) (Nat.le_of_ble_eq_true rfl) (fun m H0 w G => ?_)
  show JN K base n0 m 2 H0 w 0 0 E0 0 [(0, .ref b), (1, .int 16)] []
  refine n_aload_n G 0 0 dJ5_init_d00df_0 rfl rfl ?_
  refine n_obj G oi_J5 oi_im oi_co (by decide) (Nat.le_of_ble_eq_true rfl) dJ5_init_d00df_1 ?_
  refine n_gets G hkH hkL (fun U h => h.2.2.1) fl_J5_18 rfl dJ5_init_d00df_4 ?_
  refine n_if_eq G 25 dJ5_init_d00df_7 (by decide) (fun c => absurd c (by decide)) (fun _ => ?_)
  refine n_aload_n G 0 0 dJ5_init_d00df_10 rfl rfl ?_
  refine n_iload_n G 1 1 dJ5_init_d00df_11 rfl rfl ?_
  refine n_newa' G (atype := .byte) (ty := .byte) 1 21 (b + 1) 1 16 16 (a0 := .inl (fun _ => 0)) (by omega) rfl rfl rfl ar_byte rfl (fun _ _ h => h) (fun _ => rfl) (by decide) (by decide) (Nat.le_of_ble_eq_true rfl) (by decide) (Nat.le_of_ble_eq_true rfl) (by omega) dJ5_init_d00df_12 (fun E1 e1 => ?_)
  have f1 : E1 b = .inr (0, [.null, .int 0, .int 0, .int 0]) := by rw [e1, ue_ne _ _ (by omega)]; exact f0_0
  refine n_put' G 0 b 0 [.ref (b + 1), .int 0, .int 0, .int 0] tyJ4 (tyJ4 0) rfl tyJ4_ok nmJ4 (by omega) (by omega) f1 rfl (by decide) lay_J4 fl_J5_15 rfl rfl (tyJ4_ok 0 (by decide)) rfl rfl (Nat.le_of_ble_eq_true rfl) dJ5_init_d00df_14 (fun E2 e2 => ?_)
  have f2 : E2 b = .inr (0, [.ref (b + 1), .int 0, .int 0, .int 0]) := by rw [e2, ue_at]
  refine n_aload_n G 0 0 dJ5_init_d00df_17 rfl rfl ?_
  refine n_iconst G (0 : Int32) dJ5_init_d00df_18 (by decide) ?_
  refine n_put' G 0 b 1 [.ref (b + 1), .int 0, .int 0, .int 0] tyJ4 (tyJ4 1) rfl tyJ4_ok nmJ4 (by omega) (by omega) f2 rfl (by decide) lay_J4 fl_J5_22 rfl rfl (tyJ4_ok 1 (by decide)) (by decide) (by decide) (Nat.le_of_ble_eq_true rfl) dJ5_init_d00df_19 (fun E3 e3 => ?_)
  refine n_goto G 38 dJ5_init_d00df_22 (by decide) ?_
  refine n_retv' G rfl rfl (fun q _ q2 => ?_) dJ5_init_d00df_38
  unfold sbE
  by_cases h0 : q = b
  · subst h0; rw [e3, ue_at, ue_at]
  · rw [e3, ue_ne _ _ h0, e2, ue_ne _ _ h0, ue_ne _ _ h0, e1]
set_option maxRecDepth 100000 in
theorem c_J4_init (K : Kx) (l : Launch) (base n0 b : Nat) (E0 : Nat → va_E) (hkH : (kH K).size = base) (hkL : kL K = []) (hbn : base + n0 = b + 1) (hbb : base ≤ b) (f0_0 : E0 b = .inr (0, [.null, .int 0, .int 0, .int 0])) : ConN K l yJ4_init_da8c8 (wsT yJ4_init_da8c8 cJ4_init_da8c8 1 none) rm_J4_init [.ref b] base n0 E0 1 16 (va_Qv (S := Unit) (fun _ => True) (fun _ t => HE K base (n0 + 1) (sbE K b E0) t.heap) (AB base)) := by
  refine ConN.ofJ RJ4 rfl rfl (by decide) (Nat.le_of_ble_eq_true rfl) (fun m H0 w G => ?_)
  show JN K base n0 m 1 H0 w 0 0 E0 0 [(0, .ref b)] []
  refine n_aload_n G 0 0 dJ4_init_da8c8_0 rfl rfl ?_
  refine n_bipush G (16 : Int32) dJ4_init_da8c8_1 (by decide) ?_
  refine n_init G hkH (mc2 := 1) (ms2 := 16) (n := 1) (As := [.int 16]) (rest := []) (c_J5_init K l base (n0 + 0) b E0 hkH hkL (by omega) hbb f0_0) ml_J4_1 im_J5_init_d00df in_J5 co_J5_init_d00df rfl (by decide +kernel) rfl rfl (by decide) (by decide) rfl rfl (Nat.le_of_ble_eq_true rfl) (by decide) (by decide) (by omega) dJ4_init_da8c8_3 ?_
  exact n_retv' G rfl rfl (fun q _ _ => rfl) dJ4_init_da8c8_6
