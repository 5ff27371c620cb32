/-! the constructor of the class -/
abbrev rm_X9_init : Room := { frames := 6, cells := 373, slots := 9452, locals := 180 }
def ImI (K : Kx) (b i : Nat) (us : Nat → MI) (E1 E : Nat → va_E) : Prop :=
  E (b + 66) = .inl (kC K 27, 3, .inr (.inr (.inr (.inr (refsK b 179 65 i))))) ∧ (∀ j, j < i → WhC K (b + 179 + 65 * j) (us j) E ∧ MaOK (b + 181 + 65 * j) (us j)) ∧ ∀ q, q < b + 179 → q ≠ b + 66 → E q = E1 q
section
variable {K : Kx} {l : Launch} {base n0 b : Nat} {m : MethodId} {H0 : Heap} {ret : Option FieldType} {Qc : Array Value → State → Outcome → State → Prop} {mc ms : Nat} {w : HN} {E1 : Nat → va_E}
theorem jn_cast {ce sl ce' sl' nL pc : Nat} {E : Nat → va_E} {L : List (Nat × Value)} {S : List Value} (h1 : ce = ce') (h2 : sl = sl') (k : JN K base n0 m nL H0 w ce' sl' E pc L S) : JN K base n0 m nL H0 w ce sl E pc L S := by subst h1; subst h2; exact k
set_option maxRecDepth 100000 in
theorem im_loop (G : GN l rm_X9_init K base n0 m RX9 cX9_init 2 H0 ret Qc mc ms w) (hkH : (kH K).size = base) (hkL : kL K = []) (hb0 : 0 < base) (hbn : base + n0 = b + 1) (hbb : base ≤ b) (hb1 : E1 b = clO b) (hend : ∀ E us, ImI K b 3 us E1 E → JN K base n0 m 2 H0 w 373 9452 E 100 [(1, .int (nI 3)), (0, .ref b)] []) :
    ∀ n i, i + n = 3 → ∀ E us, ImI K b i us E1 E → JN K base n0 m 2 H0 w (178 + 65 * i) (5366 + 1362 * i) E 76 [(1, .int (nI i)), (0, .ref b)] [] := by
  intro n
  induction n with
  | zero =>
    intro i hi E us hE
    have : i = 3 := by omega
    subst this
    refine n_iload_n G 0 1 dX9_init_76 rfl rfl ?_
    refine n_iconst G (3 : Int32) dX9_init_77 (by decide) ?_
    exact n_icmp_ge G 100 dX9_init_78 (by decide) (fun _ => hend E us hE) (fun c => absurd (by decide) c)
  | succ n ih =>
    intro i hi E us hE
    obtain ⟨g1, g2, g3⟩ := hE
    refine n_iload_n G 0 1 dX9_init_76 rfl rfl ?_
    refine n_iconst G (3 : Int32) dX9_init_77 (by decide) ?_
    refine n_icmp_ge G 100 dX9_init_78 (by decide) (fun c => absurd ((nI_leI (a := 3) (by omega) (by omega)).mp c) (by omega)) (fun _ => ?_)
    refine n_aload_n G 1 0 dX9_init_81 rfl rfl ?_
    refine n_get G 10 b 1 (v := .ref (b + 66)) (by omega) (by omega) ((g3 b (by omega) (by omega)).trans hb1) rfl (by decide) lay_X9 fl_X9_16 rfl rfl dX9_init_82 ?_
    refine n_iload_n G 0 1 dX9_init_85 rfl rfl ?_
    refine n_new G (ci := 9) [.null, .int 0, .int 0, .int 0, .null] tyX8 tyX8_ok rfl lay_X8 cl_X9_9 is_X8 in_X8 (by decide) (by show 178 + 65 * i + 1 ≤ 373; omega) (by show 5366 + 1362 * i + 5 ≤ 9452; omega) (by omega) dX9_init_86 ?_
    rw [show base + (n0 + (178 + 65 * i)) = b + 179 + 65 * i by omega]
    refine n_dup G rfl dX9_init_89 ?_
    generalize hE1 : ue E (b + 179 + 65 * i) (.inr (9, [.null, .int 0, .int 0, .int 0, .null])) = E2
    refine n_initSN G hkH (mc2 := 64) (ms2 := 1357) (n := 0) (As := []) (rest := [.ref (b + 179 + 65 * i), .int (nI i), .ref (b + 66)]) (c_X8_init K l base (n0 + (178 + 65 * i + 1)) (b + 179 + 65 * i) E2 hkH hkL hb0 (by omega) (by omega) (by rw [← hE1, ue_at])) (List.mem_of_getElem? (i := 0) rfl) im_X8_init in_X8 co_X8_init rfl (by decide +kernel) rfl rfl (by decide) (by decide) rfl rfl (Nat.le_of_ble_eq_true rfl) (by show 178 + 65 * i + 1 + 64 ≤ 373; omega) (by show 5366 + 1362 * i + 5 + 1357 ≤ 9452; omega) (by omega) dX9_init_90 (fun u hu => ?_)
    generalize hE2 : whE K (b + 179 + 65 * i) u E2 = E3
    have k2 : ∀ q, q < b + 179 + 65 * i → E3 q = E q := fun q hq => by rw [← hE2, whE_lo hq, ← hE1, ue_ne _ _ (by omega)]
    have kw : WhC K (b + 179 + 65 * i) u E3 := by rw [← hE2]; exact WhC.of
    refine n_ast G (r := (RX8, TX8, 5)) 9 (b + 66) (b + 179 + 65 * i) 7 27 (by omega) (by omega) ((k2 _ (by omega)).trans g1) (by omega) (by omega) kw.1 rfl rfl (inn (by omega) (by omega)) dX9_init_93 ?_
    rw [ixn (by omega), refsK_up]
    generalize hE3 : ue E3 (b + 66) (.inl (kC K 27, 3, .inr (.inr (.inr (.inr (refsK b 179 65 (i + 1))))))) = E4
    have k4 : ∀ q, q ≠ b + 66 → E4 q = E3 q := fun q q1 => by rw [← hE3, ue_ne _ _ q1]
    refine n_iinc G 0 (nI (i + 1)) [(1, .int (nI (i + 1))), (0, .ref b)] dX9_init_94 rfl (nI_add i 1) (by decide) rfl ?_
    refine n_goto G 76 dX9_init_97 (by decide) ?_
    have := ih (i + 1) (by omega) E4 (fun j => if j = i then u else us j) ⟨by rw [← hE3, ue_at], fun j hj => ?_, fun q q1 q2 => (k4 q q2).trans ((k2 q (by omega)).trans (g3 q q1 q2))⟩
    · rw [show 178 + 65 * (i + 1) = 178 + 65 * i + 1 + 64 by omega, show 5366 + 1362 * (i + 1) = 5366 + 1362 * i + 5 + 1357 by omega] at this
      exact this
    · show WhC K (b + 179 + 65 * j) (if j = i then u else us j) E4 ∧ MaOK (b + 181 + 65 * j) (if j = i then u else us j)
      by_cases e : j = i
      · subst e
        rw [if_pos rfl]
        exact ⟨kw.fr (fun q _ _ => k4 q (by omega)), by rw [show b + 181 + 65 * j = b + 179 + 65 * j + 2 by omega]; exact hu⟩
      · rw [if_neg e]
        obtain ⟨p1, p2⟩ := g2 j (by omega)
        exact ⟨p1.fr (fun q _ _ => (k4 q (by omega)).trans (k2 q (by omega))), p2⟩
end
theorem clr_p (p k : Nat) : clrM p p k = ui (ui (ui (prI p) p 1 0) p 2 3) p 3 0 p k := by
  unfold clrM
  rw [ui_gn _ _ _ _ (by omega), uf_ne _ _ _ (by omega), uf_ne _ _ _ (by omega), uf_ne _ _ _ (by omega)]
theorem clr_R {p : Nat} {I : MI} (h : ∀ c, p ≤ c → c ≤ p + 33 → I c = clrM p c) : RelR p I vClr := by
  have e : vClr 48 = 0 := by decide
  have hz : ix (vClr 48) = 0 := by decide
  refine ⟨?_, ⟨0, by omega, e⟩, fun i hi => ?_, fun i hi => by omega, fun i hi => ?_⟩
  · rw [h p (by omega) (by omega), e, clr_p, ui_gj _ _ _ (by omega), ui_gj _ _ _ (by omega), ui_gs]
  · have : i = 0 := by omega
    subst this
    rw [h _ (by omega) (by omega)]
    show clrM p (p + 9) 0 = vOp vClr 0
    unfold clrM vOp
    rw [ui_gs, e, if_pos (by decide)]
  · rw [h _ (by omega) (by omega)]
    have : clrM p (p + 9 + i) 5 = 61 := by
      have hpr : prI p (p + 9 + i) 5 = 61 := by unfold prI; rw [if_pos (by omega)]; rfl
      unfold clrM
      rw [ui_g]
      by_cases h0 : p + 9 + i = p + 9
      · rw [if_pos h0, if_neg (by omega), uf_ne _ _ _ (by omega), uf_ne _ _ _ (by omega), uf_ne _ _ _ (by omega), ui_gn _ _ _ _ (by omega), ui_gn _ _ _ _ (by omega), ui_gn _ _ _ _ (by omega)]
        exact hpr
      · rw [if_neg h0, uf_ne _ _ _ (by omega), uf_ne _ _ _ (by omega), uf_ne _ _ _ (by omega), ui_gn _ _ _ _ (by omega), ui_gn _ _ _ _ (by omega), ui_gn _ _ _ _ (by omega)]
        exact hpr
    rw [this]
    unfold chr; decide
theorem isL_clr : IsL vClr 0 0 := ⟨by omega, Sb.rf 0, fun i hi => absurd hi (by rw [show ix (vClr 48) = 0 by decide]; omega), fun C hC _ => hC⟩
def ClOK (b : Nat) (u : MI) : Prop := ∃ u0 u1 us, MaOK (b + 3) u0 ∧ MaOK (b + 111) u1 ∧ (∀ j, j < 3 → MaOK (b + 181 + 65 * j) (us j)) ∧ RelR (b + 4) u vClr ∧ RelD (b + 4) u vClr ∧ Fr3 (b + 4) (clM b u0 u1 us) u
theorem maOK_pr {d : Nat} {u : MI} (h : MaOK d u) {c : Nat} (h1 : d + 1 ≤ c) (h2 : c ≤ d + 34) : u c = clrM (d + 1) c := by
  rw [h.2.2.2 c (by omega)]
  funext k
  unfold maM; rw [if_pos (by omega)]
theorem cl_split {b : Nat} {u0 u1 : MI} {us : Nat → MI} (h0 : MaOK (b + 3) u0) (h1 : MaOK (b + 111) u1) (hs : ∀ j, j < 3 → MaOK (b + 181 + 65 * j) (us j)) : w_X2_split (b + 4) (clM b u0 u1 us) (ClOK b) := by
  have hp : ∀ c, b + 4 ≤ c → c ≤ b + 4 + 33 → clM b u0 u1 us c = clrM (b + 4) c := fun c c1 c2 => by
    unfold clM; rw [if_neg (by omega), if_pos (by omega)]
    exact maOK_pr h0 (by omega) (by omega)
  obtain ⟨I', g1, g2, g3, g4⟩ := k_split (K := 0) (clr_R hp) (by omega) (by
    rw [hp _ (by omega) (by omega), clr_p, ui_gs]; rfl) (fun A hA => by rw [hA.uq isL_clr]; decide)
  exact g1 _ ⟨u0, u1, us, h0, h1, hs, g2, g3, g4⟩
set_option maxRecDepth 100000 in
theorem c_X9_init (K : Kx) (l : Launch) (base n0 b : Nat) (E0 : Nat → va_E) (hkH : (kH K).size = base) (hkL : kL K = []) (hb0 : 0 < base) (hbn : base + n0 = b + 1) (hbb : base ≤ b) (f0 : E0 b = .inr (10, [.null, .null, .null, .null, .null, .null, .null])) : ConN K l yX9_init (wsT yX9_init cX9_init 2 none) rm_X9_init [.ref b] base n0 E0 373 9452 (va_Qv (S := MI) (ClOK b) (fun u t => HE K base (n0 + 373) (ov (sub K b tAll) (u, fun _ _ => 0, clB b) E0) t.heap) (AB base)) := by
  refine ConN.ofJ RX9 rfl rfl (by decide) (Nat.le_of_ble_eq_true rfl) (fun m H0 w G => ?_)
  show JN K base n0 m 2 H0 w 0 0 E0 0 [(0, .ref b)] []
  refine n_aload_n G 0 0 dX9_init_0 rfl rfl ?_
  refine n_obj G oi_X9 oi_im oi_co (by decide) (Nat.le_of_ble_eq_true rfl) dX9_init_1 ?_
  refine n_aload_n G 0 0 dX9_init_4 rfl rfl ?_
  refine n_new G (ci := 9) [.null, .int 0, .int 0, .int 0, .null] tyX8 tyX8_ok rfl lay_X8 cl_X9_9 is_X8 in_X8 (by decide) (by decide) (by decide) (by omega) dX9_init_5 ?_
  rw [show base + (n0 + 0) = b + 1 by omega]
  refine n_dup G rfl dX9_init_8 ?_
  generalize hE1 : ue E0 (b + 1) (.inr (9, [.null, .int 0, .int 0, .int 0, .null])) = E1
  refine n_initSN G hkH (mc2 := 64) (ms2 := 1357) (n := 0) (As := []) (rest := [.ref (b + 1), .ref b]) (c_X8_init K l base (n0 + (0 + 1)) (b + 1) E1 hkH hkL hb0 (by omega) (by omega) (by rw [← hE1, ue_at])) (List.mem_of_getElem? (i := 0) rfl) im_X8_init in_X8 co_X8_init rfl (by decide +kernel) rfl rfl (by decide) (by decide) rfl rfl (Nat.le_of_ble_eq_true rfl) (by decide) (Nat.le_of_ble_eq_true rfl) (by omega) dX9_init_9 (fun u0 hu0 => ?_)
  refine jn_cast (ce' := 65) (sl' := 1362) rfl rfl ?_
  generalize hE2 : whE K (b + 1) u0 E1 = E2
  have w2 : WhC K (b + 1) u0 E2 := by rw [← hE2]; exact WhC.of
  have o2 : ∀ q, q < b + 1 → E2 q = E0 q := fun q hq => by rw [← hE2, whE_lo hq, ← hE1, ue_ne _ _ (by omega)]
  have f2 := (o2 b (by omega)).trans f0
  refine n_putF' G 10 b 0 [.ref (b + 1), .null, .null, .null, .null, .null, .null] tyX9 (tyX9 0) rfl tyX9_ok nmX9 (by omega) (by omega) f2 rfl (by decide) lay_X9 fl_X9_12 rfl rfl rfl (tyX9_ok 0 (by decide)) rfl rfl (Nat.le_of_ble_eq_true rfl) dX9_init_12 (fun E3 e3 => ?_)
  have f3 : E3 b = .inr (10, [.ref (b + 1), .null, .null, .null, .null, .null, .null]) := by rw [e3, ue_at]
  refine n_aload_n G 0 0 dX9_init_15 rfl rfl ?_
  refine n_iconst G (3 : Int32) dX9_init_16 (by decide) ?_
  refine n_newq' G 7 27 (b + 66) 66 1365 3 (by omega) rfl rfl (fun U h => h.2.2.2.1) cl_X9_9 rfl (by decide) (by decide) (by decide) (by decide) (Nat.le_of_ble_eq_true rfl) (by omega) dX9_init_17 (fun E4 e4 => ?_)
  have f4 : E4 b = .inr (10, [.ref (b + 1), .null, .null, .null, .null, .null, .null]) := by rw [e4, ue_ne _ _ (by omega)]; exact f3
  refine n_putF' G 10 b 1 [.ref (b + 1), .ref (b + 66), .null, .null, .null, .null, .null] tyX9 (tyX9 1) rfl tyX9_ok nmX9 (by omega) (by omega) f4 rfl (by decide) lay_X9 fl_X9_16 rfl rfl rfl (tyX9_ok 1 (by decide)) rfl rfl (Nat.le_of_ble_eq_true rfl) dX9_init_20 (fun E5 e5 => ?_)
  have f5 : E5 b = .inr (10, [.ref (b + 1), .ref (b + 66), .null, .null, .null, .null, .null]) := by rw [e5, ue_at]
  refine n_aload_n G 0 0 dX9_init_23 rfl rfl ?_
  refine n_iconst G (3 : Int32) dX9_init_24 (by decide) ?_
  refine n_newa' G (atype := .boolean) (ty := .boolean) 3 23 (b + 67) 67 1368 3 (a0 := .inl (fun _ => 0)) (by omega) rfl rfl rfl ar_boolean rfl (fun _ _ h => h) (fun _ => rfl) (by decide) (by decide) (Nat.le_of_ble_eq_true rfl) (by decide) (Nat.le_of_ble_eq_true rfl) (by omega) dX9_init_25 (fun E6 e6 => ?_)
  have f6 : E6 b = .inr (10, [.ref (b + 1), .ref (b + 66), .null, .null, .null, .null, .null]) := by rw [e6, ue_ne _ _ (by omega)]; exact f5
  refine n_putF' G 10 b 2 [.ref (b + 1), .ref (b + 66), .ref (b + 67), .null, .null, .null, .null] tyX9 (tyX9 2) rfl tyX9_ok nmX9 (by omega) (by omega) f6 rfl (by decide) lay_X9 fl_X9_20 rfl rfl rfl (tyX9_ok 2 (by decide)) rfl rfl (Nat.le_of_ble_eq_true rfl) dX9_init_27 (fun E7 e7 => ?_)
  have f7 : E7 b = .inr (10, [.ref (b + 1), .ref (b + 66), .ref (b + 67), .null, .null, .null, .null]) := by rw [e7, ue_at]
  refine n_aload_n G 0 0 dX9_init_30 rfl rfl ?_
  refine n_new G (ci := 5) [.null, .int 0, .int 0, .null, .int 0, .int 0, .null, .null] tyX4 tyX4_ok rfl lay_X4 cl_X9_24 is_X4 in_X4 (by decide) (by decide) (Nat.le_of_ble_eq_true rfl) (by omega) dX9_init_31 ?_
  rw [show base + (n0 + 67) = b + 68 by omega]
  refine n_dup G rfl dX9_init_34 ?_
  generalize hE8 : ue E7 (b + 68) (.inr (5, [.null, .int 0, .int 0, .null, .int 0, .int 0, .null, .null])) = E8
  refine n_initN G hkH (mc2 := 42) (ms2 := 3168) (n := 0) (As := []) (rest := [.ref (b + 68), .ref b]) (c_X4_init K l base (n0 + (67 + 1)) (b + 68) E8 hkH hkL hb0 (by omega) (by omega) (by rw [← hE8, ue_at])) (List.mem_of_getElem? (i := 3) rfl) im_X4_init in_X4 co_X4_init rfl (by decide +kernel) rfl rfl (by decide) (by decide) rfl rfl (Nat.le_of_ble_eq_true rfl) (by decide) (Nat.le_of_ble_eq_true rfl) (by omega) dX9_init_35 ?_
  refine jn_cast (ce' := 110) (sl' := 4544) rfl rfl ?_
  generalize hE9 : rdE K (b + 68) E8 = E9
  have w9 : RrC K (b + 68) E9 := by rw [← hE9]; exact RrC.of
  have o9 : ∀ q, q < b + 68 → E9 q = E7 q := fun q hq => by rw [← hE9, rdE_lo hq, ← hE8, ue_ne _ _ (by omega)]
  have f9 := (o9 b (by omega)).trans f7
  refine n_putF' G 10 b 3 [.ref (b + 1), .ref (b + 66), .ref (b + 67), .ref (b + 68), .null, .null, .null] tyX9 (tyX9 3) rfl tyX9_ok nmX9 (by omega) (by omega) f9 rfl (by decide) lay_X9 fl_X9_27 rfl rfl rfl (tyX9_ok 3 (by decide)) rfl rfl (Nat.le_of_ble_eq_true rfl) dX9_init_38 (fun E10 e10 => ?_)
  have f10 : E10 b = .inr (10, [.ref (b + 1), .ref (b + 66), .ref (b + 67), .ref (b + 68), .null, .null, .null]) := by rw [e10, ue_at]
  refine n_aload_n G 0 0 dX9_init_41 rfl rfl ?_
  refine n_new G (ci := 2) [.null, .null, .null, .null, .null, .int 0, .int 0, .int 0, .int 0, .int 0, .int 0, .int 0, .int 0, .int 0, .int 0, .int 0] tyX1 tyX1_ok rfl lay_X1 cl_X9_31 is_X1 in_X1 (by decide) (by decide) (Nat.le_of_ble_eq_true rfl) (by omega) dX9_init_42 ?_
  rw [show base + (n0 + 110) = b + 111 by omega]
  refine n_dup G rfl dX9_init_45 ?_
  generalize hE11 : ue E10 (b + 111) (.inr (2, [.null, .null, .null, .null, .null, .int 0, .int 0, .int 0, .int 0, .int 0, .int 0, .int 0, .int 0, .int 0, .int 0, .int 0])) = E11
  refine n_initS G hkH (mc2 := 62) (ms2 := 741) (n := 0) (As := []) (rest := [.ref (b + 111), .ref b]) (c_X1_init K l base (n0 + (110 + 1)) (b + 111) E11 hkH hkL hb0 (by omega) (by omega) (by rw [← hE11, ue_at])) ml_X9_33 im_X1_init in_X1 co_X1_init rfl (by decide +kernel) rfl rfl (by decide) (by decide) rfl rfl (Nat.le_of_ble_eq_true rfl) (by decide) (Nat.le_of_ble_eq_true rfl) (by omega) dX9_init_46 (fun u1 hu1 => ?_)
  refine jn_cast (ce' := 173) (sl' := 5301) rfl rfl ?_
  generalize hE12 : ov (sub K (b + 111) tMach) (memP u1) E11 = E12
  have w12 : MaC K (b + 111) u1 E12 := by rw [← hE12]; exact MaC.of
  have o12 : ∀ q, q < b + 111 → E12 q = E10 q := fun q hq => by rw [← hE12, ov_ma (Or.inl hq), ← hE11, ue_ne _ _ (by omega)]
  have f12 := (o12 b (by omega)).trans f10
  refine n_putF' G 10 b 4 [.ref (b + 1), .ref (b + 66), .ref (b + 67), .ref (b + 68), .ref (b + 111), .null, .null] tyX9 (tyX9 4) rfl tyX9_ok nmX9 (by omega) (by omega) f12 rfl (by decide) lay_X9 fl_X9_34 rfl rfl rfl (tyX9_ok 4 (by decide)) rfl rfl (Nat.le_of_ble_eq_true rfl) dX9_init_49 (fun E13 e13 => ?_)
  have f13 : E13 b = .inr (10, [.ref (b + 1), .ref (b + 66), .ref (b + 67), .ref (b + 68), .ref (b + 111), .null, .null]) := by rw [e13, ue_at]
  refine n_aload_n G 0 0 dX9_init_52 rfl rfl ?_
  refine n_new G (ci := 7) [.null, .null, .int 0, .int 0, .int 0] tyX6 tyX6_ok rfl lay_X6 cl_X9_38 is_X6 in_X6 (by decide) (by decide) (Nat.le_of_ble_eq_true rfl) (by omega) dX9_init_53 ?_
  rw [show base + (n0 + 173) = b + 174 by omega]
  refine n_dup G rfl dX9_init_56 ?_
  generalize hE14 : ue E13 (b + 174) (.inr (7, [.null, .null, .int 0, .int 0, .int 0])) = E14
  refine n_initN G hkH (mc2 := 2) (ms2 := 40) (n := 0) (As := []) (rest := [.ref (b + 174), .ref b]) (c_X6_init K l base (n0 + (173 + 1)) (b + 174) E14 (by omega) (by omega) (by rw [← hE14, ue_at])) (List.mem_of_getElem? (i := 5) rfl) im_X6_init in_X6 co_X6_init rfl (by decide +kernel) rfl rfl (by decide) (by decide) rfl rfl (Nat.le_of_ble_eq_true rfl) (by decide) (Nat.le_of_ble_eq_true rfl) (by omega) dX9_init_57 ?_
  refine jn_cast (ce' := 176) (sl' := 5346) rfl rfl ?_
  generalize hE15 : en_X6_init K (b + 174) E14 = E15
  have w15 : SiC K (b + 174) E15 := by rw [← hE15]; exact SiC.of
  have o15 : ∀ q, q < b + 174 → E15 q = E13 q := fun q hq => by rw [← hE15, siE_lo hq, ← hE14, ue_ne _ _ (by omega)]
  have f15 := (o15 b (by omega)).trans f13
  refine n_putF' G 10 b 5 [.ref (b + 1), .ref (b + 66), .ref (b + 67), .ref (b + 68), .ref (b + 111), .ref (b + 174), .null] tyX9 (tyX9 5) rfl tyX9_ok nmX9 (by omega) (by omega) f15 rfl (by decide) lay_X9 fl_X9_41 rfl rfl rfl (tyX9_ok 5 (by decide)) rfl rfl (Nat.le_of_ble_eq_true rfl) dX9_init_60 (fun E16 e16 => ?_)
  have f16 : E16 b = .inr (10, [.ref (b + 1), .ref (b + 66), .ref (b + 67), .ref (b + 68), .ref (b + 111), .ref (b + 174), .null]) := by rw [e16, ue_at]
  refine n_aload_n G 0 0 dX9_init_63 rfl rfl ?_
  refine n_new G (ci := 0) [.null, .int 0, .int 0, .int 0] tyJ4 tyJ4_ok rfl lay_J4 cl_X9_45 is_J4 in_J4 (by decide) (by decide) (Nat.le_of_ble_eq_true rfl) (by omega) dX9_init_64 ?_
  rw [show base + (n0 + 176) = b + 177 by omega]
  refine n_dup G rfl dX9_init_67 ?_
  generalize hE17 : ue E16 (b + 177) (.inr (0, [.null, .int 0, .int 0, .int 0])) = E17
  refine n_init G hkH (mc2 := 1) (ms2 := 16) (n := 0) (As := []) (rest := [.ref (b + 177), .ref b]) (c_J4_init K l base (n0 + (176 + 1)) (b + 177) E17 hkH hkL (by omega) (by omega) (by rw [← hE17, ue_at])) ml_X9_47 im_J4_init_da8c8 in_J4 co_J4_init_da8c8 rfl (by decide +kernel) rfl rfl (by decide) (by decide) rfl rfl (Nat.le_of_ble_eq_true rfl) (by decide) (Nat.le_of_ble_eq_true rfl) (by omega) dX9_init_68 ?_
  refine jn_cast (ce' := 178) (sl' := 5366) rfl rfl ?_
  generalize hE18 : sbE K (b + 177) E17 = E18
  have w18 : SbC K (b + 177) E18 := by rw [← hE18]; exact SbC.of
  have o18 : ∀ q, q < b + 177 → E18 q = E16 q := fun q hq => by rw [← hE18, sbE_lo hq, ← hE17, ue_ne _ _ (by omega)]
  have f18 := (o18 b (by omega)).trans f16
  refine n_putF' G 10 b 6 [.ref (b + 1), .ref (b + 66), .ref (b + 67), .ref (b + 68), .ref (b + 111), .ref (b + 174), .ref (b + 177)] tyX9 (tyX9 6) rfl tyX9_ok nmX9 (by omega) (by omega) f18 rfl (by decide) lay_X9 fl_X9_48 rfl rfl rfl (tyX9_ok 6 (by decide)) rfl rfl (Nat.le_of_ble_eq_true rfl) dX9_init_71 (fun E19 e19 => ?_)
  have f19 : E19 b = clO b := by rw [e19, ue_at]; rfl
  have s18 : ∀ q, q ≠ b → E19 q = E18 q := fun q q1 => by rw [e19, ue_ne _ _ q1]
  have s15 : ∀ q, q ≠ b → q < b + 177 → E19 q = E15 q := fun q q1 q2 => by rw [s18 q q1, o18 q q2, e16, ue_ne _ _ q1]
  have s12 : ∀ q, q ≠ b → q < b + 174 → E19 q = E12 q := fun q q1 q2 => by rw [s15 q q1 (by omega), o15 q q2, e13, ue_ne _ _ q1]
  have s9 : ∀ q, q ≠ b → q < b + 111 → E19 q = E9 q := fun q q1 q2 => by rw [s12 q q1 (by omega), o12 q q2, e10, ue_ne _ _ q1]
  have s6 : ∀ q, q ≠ b → q < b + 68 → E19 q = E6 q := fun q q1 q2 => by rw [s9 q q1 (by omega), o9 q q2, e7, ue_ne _ _ q1]
  have s4 : ∀ q, q ≠ b → q < b + 67 → E19 q = E4 q := fun q q1 q2 => by rw [s6 q q1 (by omega), e6, ue_ne _ _ (by omega), e5, ue_ne _ _ q1]
  have s2 : ∀ q, q ≠ b → q < b + 66 → E19 q = E2 q := fun q q1 q2 => by rw [s4 q q1 (by omega), e4, ue_ne _ _ (by omega), e3, ue_ne _ _ q1]
  refine n_iconst G (0 : Int32) dX9_init_74 (by decide) ?_
  refine n_istore_n G 1 [(1, .int (0 : Int32)), (0, .ref b)] dX9_init_75 rfl (by decide) rfl ?_
  refine im_loop G hkH hkL hb0 hbn hbb f19 (fun Eb us hB => ?_) 3 0 rfl E19 (fun _ => u0) ⟨?_, fun j hj => absurd hj (by omega), fun q _ _ => rfl⟩
  · obtain ⟨b1, b2, b3⟩ := hB
    have hAll : AllE K b u0 u1 us Eb := by
      refine ⟨(b3 b (by omega) (by omega)).trans f19, w2.fr (fun q _ _ => (b3 q (by omega) (by omega)).trans (s2 q (by omega) (by omega))), b1, ?_, w9.fr (fun q _ _ => (b3 q (by omega) (by omega)).trans (s9 q (by omega) (by omega))), w12.fr (fun q _ _ => (b3 q (by omega) (by omega)).trans (s12 q (by omega) (by omega))), w15.fr (fun q _ _ => (b3 q (by omega) (by omega)).trans (s15 q (by omega) (by omega))), w18.fr (fun q _ _ => (b3 q (by omega) (by omega)).trans (s18 q (by omega))), fun j hj => (b2 j hj).1⟩
      rw [b3 _ (by omega) (by omega), s6 _ (by omega) (by omega), e6, ue_at]
    have hlo : ∀ q, q < b → Eb q = E0 q := fun q hq => ((b3 q (by omega) (by omega)).trans (s2 q (by omega) (by omega))).trans (o2 q (by omega))
    refine n_aload_n G 1 0 dX9_init_100 rfl rfl ?_
    refine n_get G 10 b 0 (v := .ref (b + 1)) (by omega) (by omega) hAll.1 rfl (by decide) lay_X9 fl_X9_12 rfl rfl dX9_init_101 ?_
    refine n_get G 9 (b + 1) 4 (v := .ref (b + 3)) (by omega) (by omega) hAll.2.1.1 rfl (by decide) lay_X8 fl_X9_52 rfl rfl dX9_init_104 ?_
    have h3 : Eb (b + 3) = .inr (2, fvals (memP u0) 2 (b + 3)) := (hAll.2.1.2.2 0 (by omega)).trans (celE_obj (congrArg Prod.fst (sub_G 0)) (by decide))
    refine n_get G 2 (b + 3) 0 (v := .ref (b + 4)) (by omega) (by omega) h3 rfl (by decide) lay_X1 fl_X9_55 rfl rfl dX9_init_107 ?_
    refine n_congr (fun H h => cl_ov hAll h) ?_
    have hW' : WFK (sub K b tAll) := WFK.sub (by omega) wft_all
    refine n_con G hkH hkL b tAll (clM b u0 u1 us, fun _ _ => 0, clB b) hbb (by rw [len_all]; omega) (fun i hi => if_pos (sub_AA.mpr ⟨by omega, by omega⟩)) (n := 0) (ob := b + 4) (ci := 3) (As := []) (rest := []) (fs := fvals (clM b u0 u1 us, fun _ _ => 0, clB b) 3 (b + 4)) (c_X2_split (sub K b tAll) hW' l (b + 4) (congrArg Prod.fst ((sub_G 4).trans rfl)) (clM b u0 u1 us) _ _ (ClOK b) (cl_split hu0 hu1 (fun j hj => (b2 j hj).2))) (by omega) (by omega) ((if_pos (sub_AA.mpr ⟨by omega, by rw [len_all]; omega⟩)).trans (celE_obj (congrArg Prod.fst ((sub_G 4).trans rfl)) (by decide))) rfl ml_X9_59 im_X2_split se_X2_split in_X2 co_X2_split rfl (by decide +kernel) rfl rfl (by decide) (by decide) rfl rfl (Nat.le_of_ble_eq_true rfl) (by decide) (Nat.le_of_ble_eq_true rfl) dX9_init_110 (fun u hu => ?_)
    refine n_retS u G hu rfl rfl (fun q _ q2 => ?_) dX9_init_113
    show ov (sub K b tAll) (u, fun _ _ => 0, clB b) (ov (sub K b tAll) (clM b u0 u1 us, fun _ _ => 0, clB b) Eb) q = ov (sub K b tAll) (u, fun _ _ => 0, clB b) E0 q
    unfold ov
    by_cases hm : q ∈ kL (sub K b tAll)
    · rw [if_pos hm, if_pos hm]
    · rw [if_neg hm, if_neg hm, if_neg hm]
      exact hlo q (Nat.lt_of_not_le (fun c => hm (sub_AA.mpr ⟨c, by rw [len_all]; omega⟩)))
  · rw [s4 _ (by omega) (by omega), e4, ue_at]
    congr 6
