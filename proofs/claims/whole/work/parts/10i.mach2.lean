/-! the queues and sides of a new machine -/
def maO (b : Nat) : va_E := .inr (2, [.ref (b + 1), .ref (b + 35), .ref (b + 36), .ref (b + 37), .ref (b + 38), .int 0, .int 0, .int 0, .int 0, .int 0, .int 0, .int 0, .int 0, .int 0, .int 0, .int 0])
abbrev rm_X1_init : Room := { frames := 4, cells := 62, slots := 741, locals := 120 }
section
variable {K : Kx} {l : Launch} {base n0 b : Nat} {m : MethodId} {H0 : Heap} {ret : Option FieldType} {Qc : Array Value → State → Outcome → State → Prop} {mc ms : Nat} {w : HN} {E1 : Nat → va_E}
set_option maxRecDepth 100000 in
theorem qu_loop (G : GN l rm_X1_init K base n0 m RX1 cX1_init 2 H0 ret Qc mc ms w) (hkH : (kH K).size = base) (hbn : base + n0 = b + 1) (hbb : base ≤ b) (hb1 : E1 b = maO b) (hend : ∀ E, QuI K b 6 E1 E → JN K base n0 m 2 H0 w 56 607 E 75 [(1, .int (nI 6)), (0, .ref b)] []) :
    ∀ n i, i + n = 6 → ∀ E, QuI K b i E1 E → JN K base n0 m 2 H0 w (38 + 3 * i) (505 + 17 * i) E 50 [(1, .int (nI i)), (0, .ref b)] [] := by
  intro n
  induction n with
  | zero =>
    intro i hi E hE
    have : i = 6 := by omega
    subst this
    refine n_iload_n G 0 1 dX1_init_50 rfl rfl ?_
    refine n_bipush G (6 : Int32) dX1_init_51 (by decide) ?_
    exact n_icmp_ge G 75 dX1_init_53 (by decide) (fun _ => hend E hE) (fun c => absurd (by decide) c)
  | succ n ih =>
    intro i hi E hE
    obtain ⟨g1, g2, g3⟩ := hE
    refine n_iload_n G 0 1 dX1_init_50 rfl rfl ?_
    refine n_bipush G (6 : Int32) dX1_init_51 (by decide) ?_
    refine n_icmp_ge G 75 dX1_init_53 (by decide) (fun c => absurd ((nI_leI (a := 6) (by omega) (by omega)).mp c) (by omega)) (fun _ => ?_)
    refine n_aload_n G 1 0 dX1_init_56 rfl rfl ?_
    refine n_get G 2 b 3 (v := .ref (b + 37)) (by omega) (by omega) ((g3 b (by omega) (by omega)).trans hb1) rfl (by decide) lay_X1 fl_X1_27 rfl rfl dX1_init_57 ?_
    refine n_iload_n G 0 1 dX1_init_60 rfl rfl ?_
    refine n_new G (ci := 4) [.null, .null, .int 0, .int 0, .int 0] tyX3 tyX3_ok rfl lay_X3 cl_X1_25 is_X3 in_X3 (by decide) (by show 38 + 3 * i + 1 ≤ 62; omega) (by show 505 + 17 * i + 5 ≤ 741; omega) (by omega) dX1_init_61 ?_
    rw [show base + (n0 + (38 + 3 * i)) = b + 39 + 3 * i by omega]
    refine n_dup G rfl dX1_init_64 ?_
    generalize hE1 : ue E (b + 39 + 3 * i) (.inr (4, [.null, .null, .int 0, .int 0, .int 0])) = E2
    refine n_initN G hkH (mc2 := 2) (ms2 := 12) (n := 0) (As := []) (rest := [.ref (b + 39 + 3 * i), .int (nI i), .ref (b + 37)]) (c_X3_init K l base (n0 + (38 + 3 * i + 1)) (b + 39 + 3 * i) E2 (by omega) (by omega) (by rw [← hE1, ue_at])) (List.mem_of_getElem? (i := 2) rfl) im_X3_init in_X3 co_X3_init rfl (by decide +kernel) rfl rfl (by decide) (by decide) rfl rfl (Nat.le_of_ble_eq_true rfl) (by show 38 + 3 * i + 1 + 2 ≤ 62; omega) (by show 505 + 17 * i + 5 + 12 ≤ 741; omega) (by omega) dX1_init_65 ?_
    generalize hE2 : en_X3_init K (b + 39 + 3 * i) E2 = E3
    have k2 : ∀ q, q < b + 39 + 3 * i → E3 q = E q := fun q hq => by rw [← hE2]; unfold en_X3_init; rw [ue_ne _ _ (by omega), ue_ne _ _ (by omega), ue_ne _ _ (by omega), ← hE1, ue_ne _ _ (by omega)]
    have k0 : E3 (b + 39 + 3 * i) = queE (b + 39 + 3 * i) := by rw [← hE2]; unfold en_X3_init; rw [ue_at]; rfl
    have k1 : E3 (b + 40 + 3 * i) = arI K 6 := by rw [← hE2, show b + 40 + 3 * i = b + 39 + 3 * i + 1 by omega]; unfold en_X3_init; rw [ue_ne _ _ (by omega), ue_ne _ _ (by omega), ue_at]; rfl
    have k3 : E3 (b + 41 + 3 * i) = arI K 6 := by rw [← hE2, show b + 41 + 3 * i = b + 39 + 3 * i + 2 by omega]; unfold en_X3_init; rw [ue_ne _ _ (by omega), ue_at]; rfl
    refine n_ast G (r := (RX3, TX3, 5)) 4 (b + 37) (b + 39 + 3 * i) 5 25 (by omega) (by omega) ((k2 _ (by omega)).trans g1) (by omega) (by omega) k0 rfl rfl (inn (by omega) (by omega)) dX1_init_68 ?_
    rw [ixn (by omega), refsK_up]
    generalize hE3 : ue E3 (b + 37) (.inl (kC K 25, 6, .inr (.inr (.inr (.inr (refsK b 39 3 (i + 1))))))) = E4
    have k4 : ∀ q, q ≠ b + 37 → E4 q = E3 q := fun q q1 => by rw [← hE3, ue_ne _ _ q1]
    refine n_iinc G 0 (nI (i + 1)) [(1, .int (nI (i + 1))), (0, .ref b)] dX1_init_69 rfl (nI_add i 1) (by decide) rfl ?_
    refine n_goto G 50 dX1_init_72 (by decide) ?_
    have := ih (i + 1) (by omega) E4 ⟨by rw [← hE3, ue_at], fun j hj => ?_, fun q q1 q2 => (k4 q q2).trans ((k2 q (by omega)).trans (g3 q q1 q2))⟩
    · rw [show 38 + 3 * (i + 1) = 38 + 3 * i + 1 + 2 by omega, show 505 + 17 * (i + 1) = 505 + 17 * i + 5 + 12 by omega] at this
      exact this
    · by_cases e : j = i
      · subst e; exact ⟨(k4 _ (by omega)).trans k0, (k4 _ (by omega)).trans k1, (k4 _ (by omega)).trans k3⟩
      · obtain ⟨p1, p2, p3⟩ := g2 j (by omega)
        exact ⟨(k4 _ (by omega)).trans ((k2 _ (by omega)).trans p1), (k4 _ (by omega)).trans ((k2 _ (by omega)).trans p2), (k4 _ (by omega)).trans ((k2 _ (by omega)).trans p3)⟩
end
