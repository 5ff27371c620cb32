/-! a new program -/
def rowE : va_E := .inr (1, [.int 8, .int 0, .int 0, .int 0, .int 0, .int 61])
def refs (b i : Nat) : Nat → Option Nat := fun j => if j < i then some (b + 9 + j) else none
def arI (K : Kx) (n : Nat) : va_E := .inl (kC K 20, n, .inl (fun _ => 0))
def prO (b : Nat) : va_E := .inr (3, [.ref (b + 1), .int 0, .int 0, .int 0, .int 0, .ref (b + 2), .ref (b + 3), .ref (b + 4), .ref (b + 5), .ref (b + 6), .ref (b + 7), .ref (b + 8)])
/-- so many rows are made -/
def PrI (K : Kx) (b i : Nat) (E0 E : Nat → va_E) : Prop :=
  E b = prO b ∧ E (b + 1) = .inl (kC K 24, 25, .inr (.inr (.inr (.inr (refs b i))))) ∧ E (b + 2) = arI K 6 ∧ E (b + 3) = arI K 32 ∧ E (b + 4) = arI K 8 ∧ E (b + 5) = arI K 100 ∧ E (b + 6) = arI K 50 ∧ E (b + 7) = arI K 50 ∧ E (b + 8) = arI K 24 ∧ (∀ j, j < i → E (b + 9 + j) = rowE) ∧ ∀ q, q < b → E q = E0 q
theorem refs_up (b i : Nat) : va_up (refs b i) i (some (b + 9 + i)) = refs b (i + 1) := by
  funext j
  unfold va_up refs
  by_cases h : j = i
  · subst h; simp
  · by_cases h2 : j < i
    · simp [h, h2]; omega
    · simp [h, h2]; omega
abbrev rm_X2_init : Room := { frames := 2, cells := 33, slots := 445, locals := 60 }
section
variable {K : Kx} {l : Launch} {base n0 b : Nat} {m : MethodId} {H0 : Heap} {ret : Option FieldType} {Qc : Array Value → State → Outcome → State → Prop} {mc ms : Nat} {w : HN} {E0 : Nat → va_E}
set_option maxRecDepth 100000 in
theorem pr_loop (G : GN l rm_X2_init K base n0 m RX2 cX2_init 2 H0 ret Qc mc ms w) (hkH : (kH K).size = base) (hbn : base + n0 = b + 1) (hbb : base ≤ b) (hend : ∀ E, PrI K b 25 E0 E → JN K base n0 m 2 H0 w 33 445 E 96 [(1, .int (nI 25)), (0, .ref b)] []) :
    ∀ n i, i + n = 25 → ∀ E, PrI K b i E0 E → JN K base n0 m 2 H0 w (8 + i) (295 + 6 * i) E 71 [(1, .int (nI i)), (0, .ref b)] [] := by
  intro n
  induction n with
  | zero =>
    intro i hi E hE
    have : i = 25 := by omega
    subst this
    refine n_iload_n G 0 1 dX2_init_71 rfl rfl ?_
    refine n_bipush G (25 : Int32) dX2_init_72 (by decide) ?_
    exact n_icmp_ge G 96 dX2_init_74 (by decide) (fun _ => hend E hE) (fun c => absurd (by decide) c)
  | succ n ih =>
    intro i hi E hE
    obtain ⟨g0, g1, g2, g3, g4, g5, g6, g7, g8, g9, g10⟩ := hE
    refine n_iload_n G 0 1 dX2_init_71 rfl rfl ?_
    refine n_bipush G (25 : Int32) dX2_init_72 (by decide) ?_
    refine n_icmp_ge G 96 dX2_init_74 (by decide) (fun c => absurd ((nI_leI (a := 25) (by omega) (by omega)).mp c) (by omega)) (fun _ => ?_)
    refine n_aload_n G 1 0 dX2_init_77 rfl rfl ?_
    refine n_get G 3 b 0 (v := .ref (b + 1)) (by omega) (by omega) g0 rfl (by decide) lay_X2 fl_X2_11 rfl rfl dX2_init_78 ?_
    refine n_iload_n G 0 1 dX2_init_81 rfl rfl ?_
    refine n_new G (ci := 1) [.int 0, .int 0, .int 0, .int 0, .int 0, .int 0] tyX0 tyX0_ok rfl lay_X0 cl_X2_9 is_X0 in_X0 (by decide) (by show 8 + i + 1 ≤ 33; omega) (by show 295 + 6 * i + 6 ≤ 445; omega) (by omega) dX2_init_82 ?_
    rw [show base + (n0 + (8 + i)) = b + 9 + i by omega]
    refine n_dup G rfl dX2_init_85 ?_
    generalize hE1 : ue E (b + 9 + i) (.inr (1, [.int 0, .int 0, .int 0, .int 0, .int 0, .int 0])) = E1
    refine n_initN G hkH (mc2 := 0) (ms2 := 0) (n := 0) (As := []) (rest := [.ref (b + 9 + i), .int (nI i), .ref (b + 1)]) (c_X0_init K l base (n0 + (8 + i + 1)) (b + 9 + i) E1 (by omega) (by omega) (by rw [← hE1, ue_at])) (List.mem_of_getElem? (i := 1) rfl) im_X0_init in_X0 co_X0_init rfl (by decide +kernel) rfl rfl (by decide) (by decide) rfl rfl (Nat.le_of_ble_eq_true rfl) (by show 8 + i + 1 + 0 ≤ 33; omega) (by show 295 + 6 * i + 6 + 0 ≤ 445; omega) (by omega) dX2_init_86 ?_
    generalize hE2 : en_X0_init K (b + 9 + i) E1 = E2
    have k2 : ∀ q, q ≠ b + 9 + i → E2 q = E q := fun q hq => by rw [← hE2]; unfold en_X0_init; rw [ue_ne _ _ hq, ← hE1, ue_ne _ _ hq]
    have k9 : E2 (b + 9 + i) = rowE := by rw [← hE2]; unfold en_X0_init; rw [ue_at]; rfl
    refine n_ast G (r := (RX0, TX0, 6)) 1 (b + 1) (b + 9 + i) 4 24 (by omega) (by omega) ((k2 _ (by omega)).trans g1) (by omega) (by omega) k9 rfl rfl (inn (by omega) (by omega)) dX2_init_89 ?_
    rw [ixn (by omega), refs_up]
    generalize hE3 : ue E2 (b + 1) (.inl (kC K 24, 25, .inr (.inr (.inr (.inr (refs b (i + 1))))))) = E3
    have k3 : ∀ q, q ≠ b + 1 → q ≠ b + 9 + i → E3 q = E q := fun q q1 q2 => by rw [← hE3, ue_ne _ _ q1]; exact k2 q q2
    refine n_iinc G 0 (nI (i + 1)) [(1, .int (nI (i + 1))), (0, .ref b)] dX2_init_90 rfl (nI_add i 1) (by decide) rfl ?_
    refine n_goto G 71 dX2_init_93 (by decide) ?_
    have := ih (i + 1) (by omega) E3 ⟨(k3 _ (by omega) (by omega)).trans g0, by rw [← hE3, ue_at], (k3 _ (by omega) (by omega)).trans g2, (k3 _ (by omega) (by omega)).trans g3, (k3 _ (by omega) (by omega)).trans g4, (k3 _ (by omega) (by omega)).trans g5, (k3 _ (by omega) (by omega)).trans g6, (k3 _ (by omega) (by omega)).trans g7, (k3 _ (by omega) (by omega)).trans g8, fun j hj => ?_, fun q hq => (k3 _ (by omega) (by omega)).trans (g10 q hq)⟩
    · exact this
    · by_cases e : j = i
      · subst e; rw [← hE3, ue_ne _ _ (by omega)]; exact k9
      · rw [k3 _ (by omega) (by omega)]; exact g9 j (by omega)
end
