/-! the constructor of a program -/
section
variable {K : Kx} {l : Launch} {R : Room} {base n0 : Nat} {m : MethodId} {own : String} {cc : ByteArray} {nL : Nat} {H0 : Heap} {ret : Option FieldType} {Qc : Array Value → State → Outcome → State → Prop} {mc ms : Nat} {w : HN} {ce sl : Nat} {E : Nat → va_E} {pc : Nat} {L : List (Nat × Value)} {S : List Value}
theorem n_newq' (G : GN l R K base n0 m own cc nL H0 ret Qc mc ms w) {C : String} {index : Nat} (t0 kd q c' s' : Nat) {n : Int32} (N : Nat) (hq : base + (n0 + ce) = q) (hc : ce + 1 = c') (hs : sl + N = s') (hao : ∀ U, AO4 U → va_AO C U) (h1 : Cond.classLink own index C ∈ gw) (ht : (tyl (kC K))[t0]? = some (kC K kd, .object C)) (hn : ¬ n < 0) (hN : ix n = N) (hbytes : N * 4 ≤ 536870912) (hce : c' ≤ R.cells) (hsl : s' ≤ R.slots) (hpos : 0 < n0 + ce) (hd : decode cc pc = .ok (.anewarray index, 3))
    (k : ∀ E', E' = ue E q (.inl (kC K kd, N, .inr (.inr (.inr (.inr (fun _ => none)))))) → JN K base n0 m nL H0 w c' s' E' (pc + 3) L (.ref q :: S)) : JN K base n0 m nL H0 w ce sl E pc L (.int n :: S) := by
  subst hq; subst hc; subst hs
  exact n_newq G t0 kd hao h1 ht hn hN hbytes hce hsl hpos hd (k _ rfl)
theorem n_congr {E' : Nat → va_E} (hk : ∀ H, HE K base (n0 + ce) E H → HE K base (n0 + ce) E' H) (k : JN K base n0 m nL H0 w ce sl E' pc L S) : JN K base n0 m nL H0 w ce sl E pc L S := fun H locs ls hP hS hl => k H locs ls (hk H hP) hS hl
end
theorem at_refs {K : Kx} {q n : Nat} {c : ClassId} {f g : Nat → Option Nat} {H : Heap} (h : va_at (kD K) vwCl (q, .inl (c, n, .inr (.inr (.inr (.inr f))))) H) (hfg : ∀ j, j < n → f j = g j) : va_at (kD K) vwCl (q, .inl (c, n, .inr (.inr (.inr (.inr g))))) H := by
  show H[q]? = some (vp_cell c (n, _))
  have h' : H[q]? = some (vp_cell c (n, .inr (.inr (.inr (.inr f))))) := h
  rw [h']
  rw [vp_cell_q, vp_cell_q]
  congr 1
  unfold arrV
  congr 1
  apply Array.ext
  · simp
  · intro i h1 h2
    simp at h1
    simp [hfg i h1]
/-- a new program's memory, and after clear -/
def prI (b : Nat) : MI := fun q k => if b + 9 ≤ q then ([8, 0, 0, 0, 0, 61] : List Int32).getD k 0 else 0
def clrM (b : Nat) : MI := ui (uf (uf (uf (ui (ui (ui (prI b) b 1 0) b 2 3) b 3 0) (b + 2) 6 4) (b + 3) 32 0) (b + 4) 8 0) (b + 9) 0 8
abbrev memP (I : MI) : Mm := (I, fun _ _ => 0, fun _ _ => 0)
theorem pr_kinds : tProg.length = 34 ∧ ∀ j, j < 25 → tProg.getD (9 + j) (0, 0) = (2, 0) := by decide
theorem pr_ov {K : Kx} {base N b : Nat} {E0 E : Nat → va_E} {H : Heap} (hE : PrI K b 25 E0 E) (h : HE K base N E H) : HE K base N (ov (sub K b tProg) (memP (prI b)) E) H := by
  intro q q1 q2
  have hq := h q q1 q2
  unfold ov
  by_cases hm : q ∈ kL (sub K b tProg)
  · rw [if_pos hm]
    have hr := sub_AA.mp hm
    rw [pr_kinds.1] at hr
    obtain ⟨g0, g1, g2, g3, g4, g5, g6, g7, g8, g9, -⟩ := hE
    obtain ⟨i, hi, rfl⟩ : ∃ i, i < 34 ∧ q = b + i := ⟨q - b, by omega, by omega⟩
    have z : ∀ j, j < 9 → prI b (b + j) = fun _ => 0 := fun j hj => by funext k; unfold prI; rw [if_neg (by omega)]
    have arr : ∀ j n, j < 9 → tProg.getD j (0, 0) = (20, n) → E (b + j) = arI K n → E (b + j) = celE (sub K b tProg) (memP (prI b)) (b + j) := fun j n hj ht he => by
      rw [he, celE_arr (sub_G j |>.trans ht) (by decide) (by decide) (by decide)]
      show arI K n = .inl (kC K 20, n, .inl (prI b (b + j)))
      rw [z j hj]; rfl
    rcases (show i = 0 ∨ i = 1 ∨ i = 2 ∨ i = 3 ∨ i = 4 ∨ i = 5 ∨ i = 6 ∨ i = 7 ∨ i = 8 ∨ 9 ≤ i by omega) with rfl | rfl | rfl | rfl | rfl | rfl | rfl | rfl | rfl | h9
    · have e : E (b + 0) = celE (sub K b tProg) (memP (prI b)) (b + 0) := by
        rw [celE_obj (ci := 3) (congrArg Prod.fst (sub_G 0)) (by decide)]
        show E b = _
        rw [g0]
        unfold prO
        have z0 := z 0 (by omega)
        show _ = Sum.inr (3, [Value.ref (b + 1), .int (prI b (b + 0) 1), .int (prI b (b + 0) 2), .int (prI b (b + 0) 3), .int (prI b (b + 0) 4), .ref (b + 2), .ref (b + 3), .ref (b + 4), .ref (b + 5), .ref (b + 6), .ref (b + 7), .ref (b + 8)])
        rw [z0]
      rw [← e]; exact hq
    · rw [celE_arrR (k := 24) (n := 25) ((sub_G 1).trans rfl) (by decide)]
      rw [g1] at hq
      refine at_refs hq (fun j hj => ?_)
      unfold refs
      rw [if_pos hj]
      show some (b + 9 + j) = some (b + 1 + 8 + 1 * j)
      congr 1; omega
    · rw [← arr 2 6 (by omega) rfl g2]; exact hq
    · rw [← arr 3 32 (by omega) rfl g3]; exact hq
    · rw [← arr 4 8 (by omega) rfl g4]; exact hq
    · rw [← arr 5 100 (by omega) rfl g5]; exact hq
    · rw [← arr 6 50 (by omega) rfl g6]; exact hq
    · rw [← arr 7 50 (by omega) rfl g7]; exact hq
    · rw [← arr 8 24 (by omega) rfl g8]; exact hq
    · obtain ⟨j, hj, rfl⟩ : ∃ j, j < 25 ∧ i = 9 + j := ⟨i - 9, by omega, by omega⟩
      have e : E (b + (9 + j)) = celE (sub K b tProg) (memP (prI b)) (b + (9 + j)) := by
        rw [celE_obj (ci := 1) (congrArg Prod.fst ((sub_G (9 + j)).trans (pr_kinds.2 j hj))) (by decide), show b + (9 + j) = b + 9 + j by omega, g9 j hj]
        show rowE = Sum.inr (1, [Value.int (prI b (b + 9 + j) 0), .int (prI b (b + 9 + j) 1), .int (prI b (b + 9 + j) 2), .int (prI b (b + 9 + j) 3), .int (prI b (b + 9 + j) 4), .int (prI b (b + 9 + j) 5)])
        unfold prI
        rw [if_pos (by omega), if_pos (by omega), if_pos (by omega), if_pos (by omega), if_pos (by omega), if_pos (by omega)]
        rfl
      rw [← e]; exact hq
  · rw [if_neg hm]; exact hq
set_option maxRecDepth 100000 in
theorem c_X2_init (K : Kx) (l : Launch) (base n0 b : Nat) (E0 : Nat → va_E) (hkH : (kH K).size = base) (hkL : kL K = []) (hb0 : 0 < base) (hbn : base + n0 = b + 1) (hbb : base ≤ b) (f0_0 : E0 b = .inr (3, [.null, .int 0, .int 0, .int 0, .int 0, .null, .null, .null, .null, .null, .null, .null])) : ConN K l yX2_init (wsT yX2_init cX2_init 2 none) rm_X2_init [.ref b] base n0 E0 33 445 (va_Qv (S := Unit) (fun _ => True) (fun _ t => HE K base (n0 + 33) (ov (sub K b tProg) (memP (clrM b)) E0) t.heap) (AB base)) := by
  refine ConN.ofJ RX2 rfl rfl (by decide) (Nat.le_of_ble_eq_true rfl) (fun m H0 w G => ?_)
  show JN K base n0 m 2 H0 w 0 0 E0 0 [(0, .ref b)] []
  refine n_aload_n G 0 0 dX2_init_0 rfl rfl ?_
  refine n_obj G oi_X2 oi_im oi_co (by decide) (Nat.le_of_ble_eq_true rfl) dX2_init_1 ?_
  refine n_aload_n G 0 0 dX2_init_4 rfl rfl ?_
  refine n_bipush G (25 : Int32) dX2_init_5 (by decide) ?_
  refine n_newq' G 4 24 (b + 1) 1 25 25 (by omega) rfl rfl (fun _ h => h.1) cl_X2_9 rfl (by decide) (by decide) (Nat.le_of_ble_eq_true rfl) (by decide) (Nat.le_of_ble_eq_true rfl) (by omega) dX2_init_7 (fun E1 e1 => ?_)
  have f1_0 : E1 b = .inr (3, [.null, .int 0, .int 0, .int 0, .int 0, .null, .null, .null, .null, .null, .null, .null]) := by rw [e1, ue_ne _ _ (by omega)]; exact f0_0
  have f1_1 : E1 (b + 1) = .inl (kC K 24, 25, .inr (.inr (.inr (.inr (fun _ => none))))) := by rw [e1, ue_at]
  refine n_putF' G 3 b 0 [.ref (b + 1), .int 0, .int 0, .int 0, .int 0, .null, .null, .null, .null, .null, .null, .null] tyX2 (tyX2 0) rfl tyX2_ok nmX2 (by omega) (by omega) f1_0 rfl (by decide) lay_X2 fl_X2_11 rfl rfl rfl (tyX2_ok 0 (by decide)) rfl rfl (Nat.le_of_ble_eq_true rfl) dX2_init_10 (fun E2 e2 => ?_)
  have f2_0 : E2 b = .inr (3, [.ref (b + 1), .int 0, .int 0, .int 0, .int 0, .null, .null, .null, .null, .null, .null, .null]) := by rw [e2, ue_at]
  have f2_1 : E2 (b + 1) = .inl (kC K 24, 25, .inr (.inr (.inr (.inr (fun _ => none))))) := by rw [e2, ue_ne _ _ (by omega)]; exact f1_1
  refine n_aload_n G 0 0 dX2_init_13 rfl rfl ?_
  refine n_bipush G (6 : Int32) dX2_init_14 (by decide) ?_
  refine n_newa' G (atype := .int) (ty := .int) 0 20 (b + 2) 2 31 6 (a0 := .inl (fun _ => 0)) (by omega) rfl rfl rfl ar_int rfl (fun _ _ h => h) (fun _ => rfl) (by decide) (by decide) (Nat.le_of_ble_eq_true rfl) (by decide) (Nat.le_of_ble_eq_true rfl) (by omega) dX2_init_16 (fun E3 e3 => ?_)
  have f3_0 : E3 b = .inr (3, [.ref (b + 1), .int 0, .int 0, .int 0, .int 0, .null, .null, .null, .null, .null, .null, .null]) := by rw [e3, ue_ne _ _ (by omega)]; exact f2_0
  have f3_1 : E3 (b + 1) = .inl (kC K 24, 25, .inr (.inr (.inr (.inr (fun _ => none))))) := by rw [e3, ue_ne _ _ (by omega)]; exact f2_1
  have f3_2 : E3 (b + 2) = arI K 6 := by rw [e3, ue_at]; rfl
  refine n_putF' G 3 b 5 [.ref (b + 1), .int 0, .int 0, .int 0, .int 0, .ref (b + 2), .null, .null, .null, .null, .null, .null] tyX2 (tyX2 5) rfl tyX2_ok nmX2 (by omega) (by omega) f3_0 rfl (by decide) lay_X2 fl_X2_17 rfl rfl rfl (tyX2_ok 5 (by decide)) rfl rfl (Nat.le_of_ble_eq_true rfl) dX2_init_18 (fun E4 e4 => ?_)
  have f4_0 : E4 b = .inr (3, [.ref (b + 1), .int 0, .int 0, .int 0, .int 0, .ref (b + 2), .null, .null, .null, .null, .null, .null]) := by rw [e4, ue_at]
  have f4_1 : E4 (b + 1) = .inl (kC K 24, 25, .inr (.inr (.inr (.inr (fun _ => none))))) := by rw [e4, ue_ne _ _ (by omega)]; exact f3_1
  have f4_2 : E4 (b + 2) = arI K 6 := by rw [e4, ue_ne _ _ (by omega)]; exact f3_2
  refine n_aload_n G 0 0 dX2_init_21 rfl rfl ?_
  refine n_bipush G (32 : Int32) dX2_init_22 (by decide) ?_
  refine n_newa' G (atype := .int) (ty := .int) 0 20 (b + 3) 3 63 32 (a0 := .inl (fun _ => 0)) (by omega) rfl rfl rfl ar_int rfl (fun _ _ h => h) (fun _ => rfl) (by decide) (by decide) (Nat.le_of_ble_eq_true rfl) (by decide) (Nat.le_of_ble_eq_true rfl) (by omega) dX2_init_24 (fun E5 e5 => ?_)
  have f5_0 : E5 b = .inr (3, [.ref (b + 1), .int 0, .int 0, .int 0, .int 0, .ref (b + 2), .null, .null, .null, .null, .null, .null]) := by rw [e5, ue_ne _ _ (by omega)]; exact f4_0
  have f5_1 : E5 (b + 1) = .inl (kC K 24, 25, .inr (.inr (.inr (.inr (fun _ => none))))) := by rw [e5, ue_ne _ _ (by omega)]; exact f4_1
  have f5_2 : E5 (b + 2) = arI K 6 := by rw [e5, ue_ne _ _ (by omega)]; exact f4_2
  have f5_3 : E5 (b + 3) = arI K 32 := by rw [e5, ue_at]; rfl
  refine n_putF' G 3 b 6 [.ref (b + 1), .int 0, .int 0, .int 0, .int 0, .ref (b + 2), .ref (b + 3), .null, .null, .null, .null, .null] tyX2 (tyX2 6) rfl tyX2_ok nmX2 (by omega) (by omega) f5_0 rfl (by decide) lay_X2 fl_X2_21 rfl rfl rfl (tyX2_ok 6 (by decide)) rfl rfl (Nat.le_of_ble_eq_true rfl) dX2_init_26 (fun E6 e6 => ?_)
  have f6_0 : E6 b = .inr (3, [.ref (b + 1), .int 0, .int 0, .int 0, .int 0, .ref (b + 2), .ref (b + 3), .null, .null, .null, .null, .null]) := by rw [e6, ue_at]
  have f6_1 : E6 (b + 1) = .inl (kC K 24, 25, .inr (.inr (.inr (.inr (fun _ => none))))) := by rw [e6, ue_ne _ _ (by omega)]; exact f5_1
  have f6_2 : E6 (b + 2) = arI K 6 := by rw [e6, ue_ne _ _ (by omega)]; exact f5_2
  have f6_3 : E6 (b + 3) = arI K 32 := by rw [e6, ue_ne _ _ (by omega)]; exact f5_3
  refine n_aload_n G 0 0 dX2_init_29 rfl rfl ?_
  refine n_bipush G (8 : Int32) dX2_init_30 (by decide) ?_
  refine n_newa' G (atype := .int) (ty := .int) 0 20 (b + 4) 4 71 8 (a0 := .inl (fun _ => 0)) (by omega) rfl rfl rfl ar_int rfl (fun _ _ h => h) (fun _ => rfl) (by decide) (by decide) (Nat.le_of_ble_eq_true rfl) (by decide) (Nat.le_of_ble_eq_true rfl) (by omega) dX2_init_32 (fun E7 e7 => ?_)
  have f7_0 : E7 b = .inr (3, [.ref (b + 1), .int 0, .int 0, .int 0, .int 0, .ref (b + 2), .ref (b + 3), .null, .null, .null, .null, .null]) := by rw [e7, ue_ne _ _ (by omega)]; exact f6_0
  have f7_1 : E7 (b + 1) = .inl (kC K 24, 25, .inr (.inr (.inr (.inr (fun _ => none))))) := by rw [e7, ue_ne _ _ (by omega)]; exact f6_1
  have f7_2 : E7 (b + 2) = arI K 6 := by rw [e7, ue_ne _ _ (by omega)]; exact f6_2
  have f7_3 : E7 (b + 3) = arI K 32 := by rw [e7, ue_ne _ _ (by omega)]; exact f6_3
  have f7_4 : E7 (b + 4) = arI K 8 := by rw [e7, ue_at]; rfl
  refine n_putF' G 3 b 7 [.ref (b + 1), .int 0, .int 0, .int 0, .int 0, .ref (b + 2), .ref (b + 3), .ref (b + 4), .null, .null, .null, .null] tyX2 (tyX2 7) rfl tyX2_ok nmX2 (by omega) (by omega) f7_0 rfl (by decide) lay_X2 fl_X2_24 rfl rfl rfl (tyX2_ok 7 (by decide)) rfl rfl (Nat.le_of_ble_eq_true rfl) dX2_init_34 (fun E8 e8 => ?_)
  have f8_0 : E8 b = .inr (3, [.ref (b + 1), .int 0, .int 0, .int 0, .int 0, .ref (b + 2), .ref (b + 3), .ref (b + 4), .null, .null, .null, .null]) := by rw [e8, ue_at]
  have f8_1 : E8 (b + 1) = .inl (kC K 24, 25, .inr (.inr (.inr (.inr (fun _ => none))))) := by rw [e8, ue_ne _ _ (by omega)]; exact f7_1
  have f8_2 : E8 (b + 2) = arI K 6 := by rw [e8, ue_ne _ _ (by omega)]; exact f7_2
  have f8_3 : E8 (b + 3) = arI K 32 := by rw [e8, ue_ne _ _ (by omega)]; exact f7_3
  have f8_4 : E8 (b + 4) = arI K 8 := by rw [e8, ue_ne _ _ (by omega)]; exact f7_4
  refine n_aload_n G 0 0 dX2_init_37 rfl rfl ?_
  refine n_bipush G (100 : Int32) dX2_init_38 (by decide) ?_
  refine n_newa' G (atype := .int) (ty := .int) 0 20 (b + 5) 5 171 100 (a0 := .inl (fun _ => 0)) (by omega) rfl rfl rfl ar_int rfl (fun _ _ h => h) (fun _ => rfl) (by decide) (by decide) (Nat.le_of_ble_eq_true rfl) (by decide) (Nat.le_of_ble_eq_true rfl) (by omega) dX2_init_40 (fun E9 e9 => ?_)
  have f9_0 : E9 b = .inr (3, [.ref (b + 1), .int 0, .int 0, .int 0, .int 0, .ref (b + 2), .ref (b + 3), .ref (b + 4), .null, .null, .null, .null]) := by rw [e9, ue_ne _ _ (by omega)]; exact f8_0
  have f9_1 : E9 (b + 1) = .inl (kC K 24, 25, .inr (.inr (.inr (.inr (fun _ => none))))) := by rw [e9, ue_ne _ _ (by omega)]; exact f8_1
  have f9_2 : E9 (b + 2) = arI K 6 := by rw [e9, ue_ne _ _ (by omega)]; exact f8_2
  have f9_3 : E9 (b + 3) = arI K 32 := by rw [e9, ue_ne _ _ (by omega)]; exact f8_3
  have f9_4 : E9 (b + 4) = arI K 8 := by rw [e9, ue_ne _ _ (by omega)]; exact f8_4
  have f9_5 : E9 (b + 5) = arI K 100 := by rw [e9, ue_at]; rfl
  refine n_putF' G 3 b 8 [.ref (b + 1), .int 0, .int 0, .int 0, .int 0, .ref (b + 2), .ref (b + 3), .ref (b + 4), .ref (b + 5), .null, .null, .null] tyX2 (tyX2 8) rfl tyX2_ok nmX2 (by omega) (by omega) f9_0 rfl (by decide) lay_X2 fl_X2_27 rfl rfl rfl (tyX2_ok 8 (by decide)) rfl rfl (Nat.le_of_ble_eq_true rfl) dX2_init_42 (fun E10 e10 => ?_)
  have f10_0 : E10 b = .inr (3, [.ref (b + 1), .int 0, .int 0, .int 0, .int 0, .ref (b + 2), .ref (b + 3), .ref (b + 4), .ref (b + 5), .null, .null, .null]) := by rw [e10, ue_at]
  have f10_1 : E10 (b + 1) = .inl (kC K 24, 25, .inr (.inr (.inr (.inr (fun _ => none))))) := by rw [e10, ue_ne _ _ (by omega)]; exact f9_1
  have f10_2 : E10 (b + 2) = arI K 6 := by rw [e10, ue_ne _ _ (by omega)]; exact f9_2
  have f10_3 : E10 (b + 3) = arI K 32 := by rw [e10, ue_ne _ _ (by omega)]; exact f9_3
  have f10_4 : E10 (b + 4) = arI K 8 := by rw [e10, ue_ne _ _ (by omega)]; exact f9_4
  have f10_5 : E10 (b + 5) = arI K 100 := by rw [e10, ue_ne _ _ (by omega)]; exact f9_5
  refine n_aload_n G 0 0 dX2_init_45 rfl rfl ?_
  refine n_bipush G (50 : Int32) dX2_init_46 (by decide) ?_
  refine n_newa' G (atype := .int) (ty := .int) 0 20 (b + 6) 6 221 50 (a0 := .inl (fun _ => 0)) (by omega) rfl rfl rfl ar_int rfl (fun _ _ h => h) (fun _ => rfl) (by decide) (by decide) (Nat.le_of_ble_eq_true rfl) (by decide) (Nat.le_of_ble_eq_true rfl) (by omega) dX2_init_48 (fun E11 e11 => ?_)
  have f11_0 : E11 b = .inr (3, [.ref (b + 1), .int 0, .int 0, .int 0, .int 0, .ref (b + 2), .ref (b + 3), .ref (b + 4), .ref (b + 5), .null, .null, .null]) := by rw [e11, ue_ne _ _ (by omega)]; exact f10_0
  have f11_1 : E11 (b + 1) = .inl (kC K 24, 25, .inr (.inr (.inr (.inr (fun _ => none))))) := by rw [e11, ue_ne _ _ (by omega)]; exact f10_1
  have f11_2 : E11 (b + 2) = arI K 6 := by rw [e11, ue_ne _ _ (by omega)]; exact f10_2
  have f11_3 : E11 (b + 3) = arI K 32 := by rw [e11, ue_ne _ _ (by omega)]; exact f10_3
  have f11_4 : E11 (b + 4) = arI K 8 := by rw [e11, ue_ne _ _ (by omega)]; exact f10_4
  have f11_5 : E11 (b + 5) = arI K 100 := by rw [e11, ue_ne _ _ (by omega)]; exact f10_5
  have f11_6 : E11 (b + 6) = arI K 50 := by rw [e11, ue_at]; rfl
  refine n_putF' G 3 b 9 [.ref (b + 1), .int 0, .int 0, .int 0, .int 0, .ref (b + 2), .ref (b + 3), .ref (b + 4), .ref (b + 5), .ref (b + 6), .null, .null] tyX2 (tyX2 9) rfl tyX2_ok nmX2 (by omega) (by omega) f11_0 rfl (by decide) lay_X2 fl_X2_30 rfl rfl rfl (tyX2_ok 9 (by decide)) rfl rfl (Nat.le_of_ble_eq_true rfl) dX2_init_50 (fun E12 e12 => ?_)
  have f12_0 : E12 b = .inr (3, [.ref (b + 1), .int 0, .int 0, .int 0, .int 0, .ref (b + 2), .ref (b + 3), .ref (b + 4), .ref (b + 5), .ref (b + 6), .null, .null]) := by rw [e12, ue_at]
  have f12_1 : E12 (b + 1) = .inl (kC K 24, 25, .inr (.inr (.inr (.inr (fun _ => none))))) := by rw [e12, ue_ne _ _ (by omega)]; exact f11_1
  have f12_2 : E12 (b + 2) = arI K 6 := by rw [e12, ue_ne _ _ (by omega)]; exact f11_2
  have f12_3 : E12 (b + 3) = arI K 32 := by rw [e12, ue_ne _ _ (by omega)]; exact f11_3
  have f12_4 : E12 (b + 4) = arI K 8 := by rw [e12, ue_ne _ _ (by omega)]; exact f11_4
  have f12_5 : E12 (b + 5) = arI K 100 := by rw [e12, ue_ne _ _ (by omega)]; exact f11_5
  have f12_6 : E12 (b + 6) = arI K 50 := by rw [e12, ue_ne _ _ (by omega)]; exact f11_6
  refine n_aload_n G 0 0 dX2_init_53 rfl rfl ?_
  refine n_bipush G (50 : Int32) dX2_init_54 (by decide) ?_
  refine n_newa' G (atype := .int) (ty := .int) 0 20 (b + 7) 7 271 50 (a0 := .inl (fun _ => 0)) (by omega) rfl rfl rfl ar_int rfl (fun _ _ h => h) (fun _ => rfl) (by decide) (by decide) (Nat.le_of_ble_eq_true rfl) (by decide) (Nat.le_of_ble_eq_true rfl) (by omega) dX2_init_56 (fun E13 e13 => ?_)
  have f13_0 : E13 b = .inr (3, [.ref (b + 1), .int 0, .int 0, .int 0, .int 0, .ref (b + 2), .ref (b + 3), .ref (b + 4), .ref (b + 5), .ref (b + 6), .null, .null]) := by rw [e13, ue_ne _ _ (by omega)]; exact f12_0
  have f13_1 : E13 (b + 1) = .inl (kC K 24, 25, .inr (.inr (.inr (.inr (fun _ => none))))) := by rw [e13, ue_ne _ _ (by omega)]; exact f12_1
  have f13_2 : E13 (b + 2) = arI K 6 := by rw [e13, ue_ne _ _ (by omega)]; exact f12_2
  have f13_3 : E13 (b + 3) = arI K 32 := by rw [e13, ue_ne _ _ (by omega)]; exact f12_3
  have f13_4 : E13 (b + 4) = arI K 8 := by rw [e13, ue_ne _ _ (by omega)]; exact f12_4
  have f13_5 : E13 (b + 5) = arI K 100 := by rw [e13, ue_ne _ _ (by omega)]; exact f12_5
  have f13_6 : E13 (b + 6) = arI K 50 := by rw [e13, ue_ne _ _ (by omega)]; exact f12_6
  have f13_7 : E13 (b + 7) = arI K 50 := by rw [e13, ue_at]; rfl
  refine n_putF' G 3 b 10 [.ref (b + 1), .int 0, .int 0, .int 0, .int 0, .ref (b + 2), .ref (b + 3), .ref (b + 4), .ref (b + 5), .ref (b + 6), .ref (b + 7), .null] tyX2 (tyX2 10) rfl tyX2_ok nmX2 (by omega) (by omega) f13_0 rfl (by decide) lay_X2 fl_X2_33 rfl rfl rfl (tyX2_ok 10 (by decide)) rfl rfl (Nat.le_of_ble_eq_true rfl) dX2_init_58 (fun E14 e14 => ?_)
  have f14_0 : E14 b = .inr (3, [.ref (b + 1), .int 0, .int 0, .int 0, .int 0, .ref (b + 2), .ref (b + 3), .ref (b + 4), .ref (b + 5), .ref (b + 6), .ref (b + 7), .null]) := by rw [e14, ue_at]
  have f14_1 : E14 (b + 1) = .inl (kC K 24, 25, .inr (.inr (.inr (.inr (fun _ => none))))) := by rw [e14, ue_ne _ _ (by omega)]; exact f13_1
  have f14_2 : E14 (b + 2) = arI K 6 := by rw [e14, ue_ne _ _ (by omega)]; exact f13_2
  have f14_3 : E14 (b + 3) = arI K 32 := by rw [e14, ue_ne _ _ (by omega)]; exact f13_3
  have f14_4 : E14 (b + 4) = arI K 8 := by rw [e14, ue_ne _ _ (by omega)]; exact f13_4
  have f14_5 : E14 (b + 5) = arI K 100 := by rw [e14, ue_ne _ _ (by omega)]; exact f13_5
  have f14_6 : E14 (b + 6) = arI K 50 := by rw [e14, ue_ne _ _ (by omega)]; exact f13_6
  have f14_7 : E14 (b + 7) = arI K 50 := by rw [e14, ue_ne _ _ (by omega)]; exact f13_7
  refine n_aload_n G 0 0 dX2_init_61 rfl rfl ?_
  refine n_bipush G (24 : Int32) dX2_init_62 (by decide) ?_
  refine n_newa' G (atype := .int) (ty := .int) 0 20 (b + 8) 8 295 24 (a0 := .inl (fun _ => 0)) (by omega) rfl rfl rfl ar_int rfl (fun _ _ h => h) (fun _ => rfl) (by decide) (by decide) (Nat.le_of_ble_eq_true rfl) (by decide) (Nat.le_of_ble_eq_true rfl) (by omega) dX2_init_64 (fun E15 e15 => ?_)
  have f15_0 : E15 b = .inr (3, [.ref (b + 1), .int 0, .int 0, .int 0, .int 0, .ref (b + 2), .ref (b + 3), .ref (b + 4), .ref (b + 5), .ref (b + 6), .ref (b + 7), .null]) := by rw [e15, ue_ne _ _ (by omega)]; exact f14_0
  have f15_1 : E15 (b + 1) = .inl (kC K 24, 25, .inr (.inr (.inr (.inr (fun _ => none))))) := by rw [e15, ue_ne _ _ (by omega)]; exact f14_1
  have f15_2 : E15 (b + 2) = arI K 6 := by rw [e15, ue_ne _ _ (by omega)]; exact f14_2
  have f15_3 : E15 (b + 3) = arI K 32 := by rw [e15, ue_ne _ _ (by omega)]; exact f14_3
  have f15_4 : E15 (b + 4) = arI K 8 := by rw [e15, ue_ne _ _ (by omega)]; exact f14_4
  have f15_5 : E15 (b + 5) = arI K 100 := by rw [e15, ue_ne _ _ (by omega)]; exact f14_5
  have f15_6 : E15 (b + 6) = arI K 50 := by rw [e15, ue_ne _ _ (by omega)]; exact f14_6
  have f15_7 : E15 (b + 7) = arI K 50 := by rw [e15, ue_ne _ _ (by omega)]; exact f14_7
  have f15_8 : E15 (b + 8) = arI K 24 := by rw [e15, ue_at]; rfl
  refine n_putF' G 3 b 11 [.ref (b + 1), .int 0, .int 0, .int 0, .int 0, .ref (b + 2), .ref (b + 3), .ref (b + 4), .ref (b + 5), .ref (b + 6), .ref (b + 7), .ref (b + 8)] tyX2 (tyX2 11) rfl tyX2_ok nmX2 (by omega) (by omega) f15_0 rfl (by decide) lay_X2 fl_X2_36 rfl rfl rfl (tyX2_ok 11 (by decide)) rfl rfl (Nat.le_of_ble_eq_true rfl) dX2_init_66 (fun E16 e16 => ?_)
  have f16_0 : E16 b = .inr (3, [.ref (b + 1), .int 0, .int 0, .int 0, .int 0, .ref (b + 2), .ref (b + 3), .ref (b + 4), .ref (b + 5), .ref (b + 6), .ref (b + 7), .ref (b + 8)]) := by rw [e16, ue_at]
  have f16_1 : E16 (b + 1) = .inl (kC K 24, 25, .inr (.inr (.inr (.inr (fun _ => none))))) := by rw [e16, ue_ne _ _ (by omega)]; exact f15_1
  have f16_2 : E16 (b + 2) = arI K 6 := by rw [e16, ue_ne _ _ (by omega)]; exact f15_2
  have f16_3 : E16 (b + 3) = arI K 32 := by rw [e16, ue_ne _ _ (by omega)]; exact f15_3
  have f16_4 : E16 (b + 4) = arI K 8 := by rw [e16, ue_ne _ _ (by omega)]; exact f15_4
  have f16_5 : E16 (b + 5) = arI K 100 := by rw [e16, ue_ne _ _ (by omega)]; exact f15_5
  have f16_6 : E16 (b + 6) = arI K 50 := by rw [e16, ue_ne _ _ (by omega)]; exact f15_6
  have f16_7 : E16 (b + 7) = arI K 50 := by rw [e16, ue_ne _ _ (by omega)]; exact f15_7
  have f16_8 : E16 (b + 8) = arI K 24 := by rw [e16, ue_ne _ _ (by omega)]; exact f15_8
  refine n_iconst G (0 : Int32) dX2_init_69 (by decide) ?_
  refine n_istore_n G 1 [(1, .int (nI 0)), (0, .ref b)] dX2_init_70 rfl (by decide) rfl ?_
  have fq : ∀ q, q < b → E16 q = E0 q := fun q hq => by rw [e16, ue_ne _ _ (by omega), e15, ue_ne _ _ (by omega), e14, ue_ne _ _ (by omega), e13, ue_ne _ _ (by omega), e12, ue_ne _ _ (by omega), e11, ue_ne _ _ (by omega), e10, ue_ne _ _ (by omega), e9, ue_ne _ _ (by omega), e8, ue_ne _ _ (by omega), e7, ue_ne _ _ (by omega), e6, ue_ne _ _ (by omega), e5, ue_ne _ _ (by omega), e4, ue_ne _ _ (by omega), e3, ue_ne _ _ (by omega), e2, ue_ne _ _ (by omega), e1, ue_ne _ _ (by omega)]
  refine pr_loop G hkH hbn hbb (fun E hE => ?_) 25 0 rfl E16 ⟨f16_0, f16_1.trans (by congr 6), f16_2, f16_3, f16_4, f16_5, f16_6, f16_7, f16_8, fun j hj => absurd hj (by omega), fq⟩
  have hq := hE.2.2.2.2.2.2.2.2.2.2
  refine n_congr (fun H h => pr_ov hE h) ?_
  refine n_aload_n G 1 0 dX2_init_96 rfl rfl ?_
  have hW' : WFK (sub K b tProg) := WFK.sub (by omega) wft_prog
  refine n_con G hkH hkL b tProg (memP (prI b)) hbb (by rw [pr_kinds.1]; omega) (fun i hi => if_pos (sub_AA.mpr ⟨by omega, by omega⟩)) (n := 0) (ob := b) (ci := 3) (As := []) (rest := []) (fs := fvals (memP (prI b)) 3 b) (c_X2_clear (sub K b tProg) hW' l b (congrArg Prod.fst (sub_G 0)) (prI b) _ _ (fun u => u = clrM b) (by unfold w_X2_clear; intros; subst_vars; rfl)) hbb (by omega) ((if_pos (sub_AA.mpr ⟨by omega, by rw [pr_kinds.1]; omega⟩)).trans (celE_obj (congrArg Prod.fst (sub_G 0)) (by decide))) rfl ml_X2_40 im_X2_clear se_X2_clear in_X2 co_X2_clear rfl (by decide +kernel) rfl rfl (by decide) (by decide) rfl rfl (Nat.le_of_ble_eq_true rfl) (by decide) (by decide) dX2_init_97 (fun u hu => ?_)
  subst hu
  refine n_retv' G rfl rfl (fun q _ q2 => ?_) dX2_init_100
  unfold ov
  by_cases hm : q ∈ kL (sub K b tProg)
  · rw [if_pos hm, if_pos hm]
  · rw [if_neg hm, if_neg hm, if_neg hm]
    refine hq q (Nat.lt_of_not_le (fun c => hm (sub_AA.mpr ⟨c, ?_⟩)))
    rw [pr_kinds.1]; omega
