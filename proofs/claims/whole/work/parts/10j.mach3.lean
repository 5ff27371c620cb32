/-! the sides of a new machine -/
def sidE (q : Nat) (x : Int32) : va_E := .inr (6, [.int x, .int 0, .int 0, .int 0, .int 0, .int 0, .int 0, .ref (q + 1), .ref (q + 2)])
def SdI (K : Kx) (b i : Nat) (E1 E : Nat → va_E) : Prop :=
  E (b + 38) = .inl (kC K 26, 2, .inr (.inr (.inr (.inr (refsK b 57 3 i))))) ∧ (∀ j, j < i → E (b + 57 + 3 * j) = sidE (b + 57 + 3 * j) (nI j) ∧ E (b + 58 + 3 * j) = arI K 8 ∧ E (b + 59 + 3 * j) = arI K 50) ∧ ∀ q, q < b + 57 → q ≠ b + 38 → E q = E1 q
section
variable {K : Kx} {l : Launch} {base n0 b : Nat} {m : MethodId} {H0 : Heap} {ret : Option FieldType} {Qc : Array Value → State → Outcome → State → Prop} {mc ms : Nat} {w : HN} {E1 : Nat → va_E}
set_option maxRecDepth 100000 in
theorem sd_loop (G : GN l rm_X1_init K base n0 m RX1 cX1_init 2 H0 ret Qc mc ms w) (hkH : (kH K).size = base) (hbn : base + n0 = b + 1) (hbb : base ≤ b) (hb1 : E1 b = maO b) (hend : ∀ E, SdI K b 2 E1 E → JN K base n0 m 2 H0 w 62 741 E 102 [(1, .int (nI 2)), (0, .ref b)] []) :
    ∀ n i, i + n = 2 → ∀ E, SdI K b i E1 E → JN K base n0 m 2 H0 w (56 + 3 * i) (607 + 67 * i) E 77 [(1, .int (nI i)), (0, .ref b)] [] := by
  intro n
  induction n with
  | zero =>
    intro i hi E hE
    have : i = 2 := by omega
    subst this
    refine n_iload_n G 0 1 dX1_init_77 rfl rfl ?_
    refine n_iconst G (2 : Int32) dX1_init_78 (by decide) ?_
    exact n_icmp_ge G 102 dX1_init_79 (by decide) (fun _ => hend E hE) (fun c => absurd (by decide) c)
  | succ n ih =>
    intro i hi E hE
    obtain ⟨g1, g2, g3⟩ := hE
    refine n_iload_n G 0 1 dX1_init_77 rfl rfl ?_
    refine n_iconst G (2 : Int32) dX1_init_78 (by decide) ?_
    refine n_icmp_ge G 102 dX1_init_79 (by decide) (fun c => absurd ((nI_leI (a := 2) (by omega) (by omega)).mp c) (by omega)) (fun _ => ?_)
    refine n_aload_n G 1 0 dX1_init_82 rfl rfl ?_
    refine n_get G 2 b 4 (v := .ref (b + 38)) (by omega) (by omega) ((g3 b (by omega) (by omega)).trans hb1) rfl (by decide) lay_X1 fl_X1_33 rfl rfl dX1_init_83 ?_
    refine n_iload_n G 0 1 dX1_init_86 rfl rfl ?_
    refine n_new G (ci := 6) [.int 0, .int 0, .int 0, .int 0, .int 0, .int 0, .int 0, .null, .null] tyX5 tyX5_ok rfl lay_X5 cl_X1_31 is_X5 in_X5 (by decide) (by show 56 + 3 * i + 1 ≤ 62; omega) (by show 607 + 67 * i + 9 ≤ 741; omega) (by omega) dX1_init_87 ?_
    rw [show base + (n0 + (56 + 3 * i)) = b + 57 + 3 * i by omega]
    refine n_dup G rfl dX1_init_90 ?_
    refine n_iload_n G 0 1 dX1_init_91 rfl rfl ?_
    generalize hE1 : ue E (b + 57 + 3 * i) (.inr (6, [.int 0, .int 0, .int 0, .int 0, .int 0, .int 0, .int 0, .null, .null])) = E2
    refine n_init G hkH (mc2 := 2) (ms2 := 58) (n := 1) (As := [.int (nI i)]) (rest := [.ref (b + 57 + 3 * i), .int (nI i), .ref (b + 38)]) (c_X5_init K l base (n0 + (56 + 3 * i + 1)) (b + 57 + 3 * i) (nI i) E2 (by omega) (by omega) (by rw [← hE1, ue_at])) ml_X1_38 im_X5_init in_X5 co_X5_init rfl (by decide +kernel) rfl rfl (by decide) (by decide) rfl rfl (Nat.le_of_ble_eq_true rfl) (by show 56 + 3 * i + 1 + 2 ≤ 62; omega) (by show 607 + 67 * i + 9 + 58 ≤ 741; omega) (by omega) dX1_init_92 ?_
    generalize hE2 : en_X5_init K (b + 57 + 3 * i) (nI i) E2 = E3
    have k2 : ∀ q, q < b + 57 + 3 * i → E3 q = E q := fun q hq => by rw [← hE2]; unfold en_X5_init; rw [ue_ne _ _ (by omega), ue_ne _ _ (by omega), ue_ne _ _ (by omega), ← hE1, ue_ne _ _ (by omega)]
    have k0 : E3 (b + 57 + 3 * i) = sidE (b + 57 + 3 * i) (nI i) := by rw [← hE2]; unfold en_X5_init; rw [ue_at]; rfl
    have k1 : E3 (b + 58 + 3 * i) = arI K 8 := by rw [← hE2, show b + 58 + 3 * i = b + 57 + 3 * i + 1 by omega]; unfold en_X5_init; rw [ue_ne _ _ (by omega), ue_ne _ _ (by omega), ue_at]; rfl
    have k3 : E3 (b + 59 + 3 * i) = arI K 50 := by rw [← hE2, show b + 59 + 3 * i = b + 57 + 3 * i + 2 by omega]; unfold en_X5_init; rw [ue_ne _ _ (by omega), ue_at]; rfl
    refine n_ast G (r := (RX5, TX5, 9)) 6 (b + 38) (b + 57 + 3 * i) 6 26 (by omega) (by omega) ((k2 _ (by omega)).trans g1) (by omega) (by omega) k0 rfl rfl (inn (by omega) (by omega)) dX1_init_95 ?_
    rw [ixn (by omega), refsK_up]
    generalize hE3 : ue E3 (b + 38) (.inl (kC K 26, 2, .inr (.inr (.inr (.inr (refsK b 57 3 (i + 1))))))) = E4
    have k4 : ∀ q, q ≠ b + 38 → E4 q = E3 q := fun q q1 => by rw [← hE3, ue_ne _ _ q1]
    refine n_iinc G 0 (nI (i + 1)) [(1, .int (nI (i + 1))), (0, .ref b)] dX1_init_96 rfl (nI_add i 1) (by decide) rfl ?_
    refine n_goto G 77 dX1_init_99 (by decide) ?_
    have := ih (i + 1) (by omega) E4 ⟨by rw [← hE3, ue_at], fun j hj => ?_, fun q q1 q2 => (k4 q q2).trans ((k2 q (by omega)).trans (g3 q q1 q2))⟩
    · rw [show 56 + 3 * (i + 1) = 56 + 3 * i + 1 + 2 by omega, show 607 + 67 * (i + 1) = 607 + 67 * i + 9 + 58 by omega] at this
      exact this
    · by_cases e : j = i
      · subst e; exact ⟨(k4 _ (by omega)).trans k0, (k4 _ (by omega)).trans k1, (k4 _ (by omega)).trans k3⟩
      · obtain ⟨p1, p2, p3⟩ := g2 j (by omega)
        exact ⟨(k4 _ (by omega)).trans ((k2 _ (by omega)).trans p1), (k4 _ (by omega)).trans ((k2 _ (by omega)).trans p2), (k4 _ (by omega)).trans ((k2 _ (by omega)).trans p3)⟩
end
