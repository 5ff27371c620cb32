/-! what the constructor of the class lays, cell by cell -/
theorem wft_all : wft tAll := by unfold wft; decide +kernel
theorem len_all : tAll.length = 374 := by decide +kernel
def MaC (K : Kx) (d : Nat) (u : MI) (E : Nat → va_E) : Prop := ∀ i, i < 63 → E (d + i) = celE (sub K d tMach) (memP u) (d + i)
def PrC (K : Kx) (d : Nat) (E : Nat → va_E) : Prop := ∀ i, i < 34 → E (d + i) = celE (sub K d tProg) (memP (clrM d)) (d + i)
def arB (K : Kx) (n : Nat) : va_E := .inl (kC K 21, n, .inl (fun _ => 0))
def WhC (K : Kx) (d : Nat) (u : MI) (E : Nat → va_E) : Prop := E d = .inr (9, [.ref (d + 1), .int 0, .int 0, .int (-1), .ref (d + 2)]) ∧ E (d + 1) = arB K 600 ∧ MaC K (d + 2) u E
def RrC (K : Kx) (d : Nat) (E : Nat → va_E) : Prop := E d = .inr (5, [.ref (d + 1), .int 0, .int 0, .ref (d + 35), .int 0, .int 0, .ref (d + 41), .ref (d + 42)]) ∧ PrC K (d + 1) E ∧ E (d + 35) = .inr (8, [.ref (d + 36), .ref (d + 37), .ref (d + 38), .ref (d + 39), .int 0, .ref (d + 40), .int 0]) ∧ E (d + 36) = arI K 601 ∧ E (d + 37) = arI K 601 ∧ E (d + 38) = arI K 601 ∧ E (d + 39) = arI K 601 ∧ E (d + 40) = arB K 0 ∧ E (d + 41) = arI K 150 ∧ E (d + 42) = arI K 150
def SiC (K : Kx) (d : Nat) (E : Nat → va_E) : Prop := E d = .inr (7, [.ref (d + 1), .ref (d + 2), .int 0, .int 0, .int 0]) ∧ E (d + 1) = arI K 8 ∧ E (d + 2) = arI K 32
def SbC (K : Kx) (d : Nat) (E : Nat → va_E) : Prop := E d = .inr (0, [.ref (d + 1), .int 0, .int 0, .int 0]) ∧ E (d + 1) = arB K 16
section
variable {K : Kx} {d b : Nat} {u : MI} {E E' E0 : Nat → va_E}
theorem MaC.fr (h : MaC K d u E) (hE : ∀ q, d ≤ q → q < d + 63 → E' q = E q) : MaC K d u E' := fun i hi => (hE _ (by omega) (by omega)).trans (h i hi)
theorem PrC.fr (h : PrC K d E) (hE : ∀ q, d ≤ q → q < d + 34 → E' q = E q) : PrC K d E' := fun i hi => (hE _ (by omega) (by omega)).trans (h i hi)
theorem WhC.fr (h : WhC K d u E) (hE : ∀ q, d ≤ q → q < d + 65 → E' q = E q) : WhC K d u E' := ⟨(hE _ (by omega) (by omega)).trans h.1, (hE _ (by omega) (by omega)).trans h.2.1, h.2.2.fr (fun q _ _ => hE q (by omega) (by omega))⟩
theorem RrC.fr (h : RrC K d E) (hE : ∀ q, d ≤ q → q < d + 43 → E' q = E q) : RrC K d E' := by
  obtain ⟨h1, h2, h3, h4, h5, h6, h7, h8, h9, h10⟩ := h
  exact ⟨(hE _ (by omega) (by omega)).trans h1, h2.fr (fun q _ _ => hE q (by omega) (by omega)), (hE _ (by omega) (by omega)).trans h3, (hE _ (by omega) (by omega)).trans h4, (hE _ (by omega) (by omega)).trans h5, (hE _ (by omega) (by omega)).trans h6, (hE _ (by omega) (by omega)).trans h7, (hE _ (by omega) (by omega)).trans h8, (hE _ (by omega) (by omega)).trans h9, (hE _ (by omega) (by omega)).trans h10⟩
theorem SiC.fr (h : SiC K d E) (hE : ∀ q, d ≤ q → q < d + 3 → E' q = E q) : SiC K d E' := ⟨(hE _ (by omega) (by omega)).trans h.1, (hE _ (by omega) (by omega)).trans h.2.1, (hE _ (by omega) (by omega)).trans h.2.2⟩
theorem SbC.fr (h : SbC K d E) (hE : ∀ q, d ≤ q → q < d + 2 → E' q = E q) : SbC K d E' := ⟨(hE _ (by omega) (by omega)).trans h.1, (hE _ (by omega) (by omega)).trans h.2⟩
theorem MaC.of : MaC K d u (ov (sub K d tMach) (memP u) E0) := fun i hi => if_pos (sub_AA.mpr ⟨by omega, by rw [ma_kinds.1]; omega⟩)
theorem PrC.of : PrC K d (ov (sub K d tProg) (memP (clrM d)) E0) := fun i hi => if_pos (sub_AA.mpr ⟨by omega, by rw [pr_kinds.1]; omega⟩)
theorem ov_ma {q : Nat} (h : q < d ∨ d + 63 ≤ q) : ov (sub K d tMach) (memP u) E0 q = E0 q := if_neg (fun c => by have := sub_AA.mp c; rw [ma_kinds.1] at this; omega)
theorem ov_pr {q : Nat} {mem : Mm} (h : q < d ∨ d + 34 ≤ q) : ov (sub K d tProg) mem E0 q = E0 q := if_neg (fun c => by have := sub_AA.mp c; rw [pr_kinds.1] at this; omega)
theorem WhC.of : WhC K d u (whE K d u E0) := by
  unfold whE
  refine ⟨ue_at _ _ _, ?_, MaC.fr (MaC.of (u := u) (E0 := ue E0 (d + 1) (.inl (kC K 21, 600, .inl (fun _ => 0))))) (fun q q1 q2 => ue_ne _ _ (by omega))⟩
  rw [ue_ne _ _ (by omega), ov_ma (Or.inl (by omega)), ue_at]; rfl
theorem whE_lo {q : Nat} (h : q < d) : whE K d u E0 q = E0 q := by
  unfold whE
  rw [ue_ne _ _ (by omega), ov_ma (Or.inl (by omega)), ue_ne _ _ (by omega)]
theorem RrC.of : RrC K d (rdE K d E0) := by
  unfold rdE en_X7_init
  refine ⟨ue_at _ _ _, PrC.fr (PrC.of (E0 := E0)) (fun q q1 q2 => ?_), ?_, ?_, ?_, ?_, ?_, ?_, ?_, ?_⟩
  · rw [ue_ne _ _ (by omega), ue_ne _ _ (by omega), ue_ne _ _ (by omega), ue_ne _ _ (by omega), ue_ne _ _ (by omega), ue_ne _ _ (by omega), ue_ne _ _ (by omega), ue_ne _ _ (by omega), ue_ne _ _ (by omega)]
  · rw [ue_ne _ _ (by omega), ue_ne _ _ (by omega), ue_ne _ _ (by omega), ue_at]
  · rw [ue_ne _ _ (by omega), ue_ne _ _ (by omega), ue_ne _ _ (by omega), ue_ne _ _ (by omega), ue_ne _ _ (by omega), ue_ne _ _ (by omega), ue_ne _ _ (by omega), ue_ne _ _ (by omega), show d + 36 = d + 35 + 1 by omega, ue_at]; rfl
  · rw [ue_ne _ _ (by omega), ue_ne _ _ (by omega), ue_ne _ _ (by omega), ue_ne _ _ (by omega), ue_ne _ _ (by omega), ue_ne _ _ (by omega), ue_ne _ _ (by omega), show d + 37 = d + 35 + 2 by omega, ue_at]; rfl
  · rw [ue_ne _ _ (by omega), ue_ne _ _ (by omega), ue_ne _ _ (by omega), ue_ne _ _ (by omega), ue_ne _ _ (by omega), ue_ne _ _ (by omega), show d + 38 = d + 35 + 3 by omega, ue_at]; rfl
  · rw [ue_ne _ _ (by omega), ue_ne _ _ (by omega), ue_ne _ _ (by omega), ue_ne _ _ (by omega), ue_ne _ _ (by omega), show d + 39 = d + 35 + 4 by omega, ue_at]; rfl
  · rw [ue_ne _ _ (by omega), ue_ne _ _ (by omega), ue_ne _ _ (by omega), ue_ne _ _ (by omega), show d + 40 = d + 35 + 5 by omega, ue_at]; rfl
  · rw [ue_ne _ _ (by omega), ue_ne _ _ (by omega), ue_at]; rfl
  · rw [ue_ne _ _ (by omega), ue_at]; rfl
theorem rdE_lo {q : Nat} (h : q < d) : rdE K d E0 q = E0 q := by
  unfold rdE en_X7_init
  rw [ue_ne _ _ (by omega), ue_ne _ _ (by omega), ue_ne _ _ (by omega), ue_ne _ _ (by omega), ue_ne _ _ (by omega), ue_ne _ _ (by omega), ue_ne _ _ (by omega), ue_ne _ _ (by omega), ue_ne _ _ (by omega), ov_pr (Or.inl (by omega))]
theorem SiC.of : SiC K d (en_X6_init K d E0) := by
  unfold en_X6_init
  refine ⟨ue_at _ _ _, ?_, ?_⟩
  · rw [ue_ne _ _ (by omega), ue_ne _ _ (by omega), ue_at]; rfl
  · rw [ue_ne _ _ (by omega), ue_at]; rfl
theorem siE_lo {q : Nat} (h : q < d) : en_X6_init K d E0 q = E0 q := by
  unfold en_X6_init
  rw [ue_ne _ _ (by omega), ue_ne _ _ (by omega), ue_ne _ _ (by omega)]
theorem SbC.of : SbC K d (sbE K d E0) := by
  unfold sbE
  refine ⟨ue_at _ _ _, ?_⟩
  rw [ue_ne _ _ (by omega), ue_at]; rfl
theorem sbE_lo {q : Nat} (h : q < d) : sbE K d E0 q = E0 q := by
  unfold sbE
  rw [ue_ne _ _ (by omega), ue_ne _ _ (by omega)]
end
def clO (b : Nat) : va_E := .inr (10, [.ref (b + 1), .ref (b + 66), .ref (b + 67), .ref (b + 68), .ref (b + 111), .ref (b + 174), .ref (b + 177)])
def AllE (K : Kx) (b : Nat) (u0 u1 : MI) (us : Nat → MI) (E : Nat → va_E) : Prop :=
  E b = clO b ∧ WhC K (b + 1) u0 E ∧ E (b + 66) = .inl (kC K 27, 3, .inr (.inr (.inr (.inr (refsK b 179 65 3))))) ∧ E (b + 67) = .inl (kC K 23, 3, .inl (fun _ => 0)) ∧ RrC K (b + 68) E ∧ MaC K (b + 111) u1 E ∧ SiC K (b + 174) E ∧ SbC K (b + 177) E ∧ ∀ j, j < 3 → WhC K (b + 179 + 65 * j) (us j) E
def clM (b : Nat) (u0 u1 : MI) (us : Nat → MI) : MI := fun q =>
  if q < b + 3 then (fun k => if q = b + 1 ∧ k = 3 then -1 else 0)
  else if q < b + 66 then u0 q
  else if q < b + 69 then (fun _ => 0)
  else if q < b + 103 then clrM (b + 69) q
  else if q < b + 111 then (fun _ => 0)
  else if q < b + 174 then u1 q
  else if q < b + 179 then (fun _ => 0)
  else if (q - (b + 179)) % 65 < 2 then (fun k => if (q - (b + 179)) % 65 = 0 ∧ k = 3 then -1 else 0)
  else us ((q - (b + 179)) / 65) q
def clB (b : Nat) : MR := fun q => if q = b + 103 then (fun k => if k = 5 then b + 108 else 0) else fun _ => 0
theorem al_kinds : (∀ i, i < 63 → tAll.getD (3 + i) (0, 0) = tMach.getD i (0, 0) ∧ tAll.getD (111 + i) (0, 0) = tMach.getD i (0, 0)) ∧ (∀ i, i < 34 → tAll.getD (69 + i) (0, 0) = tProg.getD i (0, 0)) ∧ ∀ j, j < 3 → tAll.getD (179 + 65 * j) (0, 0) = (10, 0) ∧ tAll.getD (180 + 65 * j) (0, 0) = (21, 600) ∧ ∀ i, i < 63 → tAll.getD (181 + 65 * j + i) (0, 0) = tMach.getD i (0, 0) := by decide +kernel
section
variable {K : Kx} {b d : Nat} {u : MI} {E : Nat → va_E} {mem : Mm}
theorem cl_ma (h : MaC K (b + d) u E) (ht : ∀ i, i < 63 → tAll.getD (d + i) (0, 0) = tMach.getD i (0, 0)) (h1 : ∀ q, b + d ≤ q → q < b + d + 63 → mem.1 q = u q) (h2 : ∀ q, mem.2.1 q = fun _ => 0) (h3 : ∀ q, b + d ≤ q → q < b + d + 63 → mem.2.2 q = fun _ => 0) {i : Nat} (hi : i < 63) : E (b + (d + i)) = celE (sub K b tAll) mem (b + (d + i)) := by
  rw [show b + (d + i) = b + d + i by omega, h i hi]
  refine celE_same ?_ rfl (h1 _ (by omega) (by omega)).symm (h2 _).symm (h3 _ (by omega) (by omega)).symm
  rw [sub_G, show b + d + i = b + (d + i) by omega, sub_G]; exact (ht i hi).symm
theorem cl_pr (h : PrC K (b + d) E) (ht : ∀ i, i < 34 → tAll.getD (d + i) (0, 0) = tProg.getD i (0, 0)) (h1 : ∀ q, b + d ≤ q → q < b + d + 34 → mem.1 q = clrM (b + d) q) (h2 : ∀ q, mem.2.1 q = fun _ => 0) (h3 : ∀ q, b + d ≤ q → q < b + d + 34 → mem.2.2 q = fun _ => 0) {i : Nat} (hi : i < 34) : E (b + (d + i)) = celE (sub K b tAll) mem (b + (d + i)) := by
  rw [show b + (d + i) = b + d + i by omega, h i hi]
  refine celE_same ?_ rfl (h1 _ (by omega) (by omega)).symm (h2 _).symm (h3 _ (by omega) (by omega)).symm
  rw [sub_G, show b + d + i = b + (d + i) by omega, sub_G]; exact (ht i hi).symm
theorem cl_ai {n : Nat} (ht : tAll.getD d (0, 0) = (20, n)) (h : E (b + d) = arI K n) (h1 : mem.1 (b + d) = fun _ => 0) : E (b + d) = celE (sub K b tAll) mem (b + d) := by
  rw [celE_arr ((sub_G d).trans ht) (by decide) (by decide) (by decide), h, h1]; rfl
theorem cl_ab {n : Nat} (ht : tAll.getD d (0, 0) = (21, n)) (h : E (b + d) = arB K n) (h1 : mem.1 (b + d) = fun _ => 0) : E (b + d) = celE (sub K b tAll) mem (b + d) := by
  rw [celE_arr ((sub_G d).trans ht) (by decide) (by decide) (by decide), h, h1]; rfl
theorem cl_wh (h : WhC K (b + d) u E) (ht : tAll.getD d (0, 0) = (10, 0)) (ht1 : tAll.getD (d + 1) (0, 0) = (21, 600)) (ht2 : ∀ i, i < 63 → tAll.getD (d + 2 + i) (0, 0) = tMach.getD i (0, 0)) (h0 : mem.1 (b + d) = fun k => if k = 3 then -1 else 0) (h0' : mem.1 (b + d + 1) = fun _ => 0) (h1 : ∀ q, b + d + 2 ≤ q → q < b + d + 65 → mem.1 q = u q) (h2 : ∀ q, mem.2.1 q = fun _ => 0) (h3 : ∀ q, b + d ≤ q → q < b + d + 65 → mem.2.2 q = fun _ => 0) {i : Nat} (hi : i < 65) : E (b + (d + i)) = celE (sub K b tAll) mem (b + (d + i)) := by
  rcases (show i = 0 ∨ i = 1 ∨ 2 ≤ i by omega) with rfl | rfl | h5
  · show E (b + d) = celE (sub K b tAll) mem (b + d)
    rw [celE_obj (ci := 9) (congrArg Prod.fst ((sub_G d).trans ht)) (by decide), h.1]
    show _ = Sum.inr (9, [Value.ref (b + d + 1), .int (mem.1 (b + d) 1), .int (mem.1 (b + d) 2), .int (mem.1 (b + d) 3), .ref (b + d + 2)])
    rw [h0]; rfl
  · exact cl_ab (d := d + 1) ht1 h.2.1 h0'
  · obtain ⟨j, rfl⟩ : ∃ j, i = 2 + j := ⟨i - 2, by omega⟩
    rw [show d + (2 + j) = d + 2 + j by omega]
    exact cl_ma (d := d + 2) h.2.2 ht2 (fun q q1 q2 => h1 q (by omega) (by omega)) h2 (fun q q1 q2 => h3 q (by omega) (by omega)) (by omega)
end
theorem clB_ne {b q : Nat} (h : q ≠ b + 103) : clB b q = fun _ => 0 := if_neg h
set_option maxRecDepth 100000 in
theorem cl_ov {K : Kx} {base N b : Nat} {u0 u1 : MI} {us : Nat → MI} {E : Nat → va_E} {H : Heap} (hE : AllE K b u0 u1 us E) (h : HE K base N E H) : HE K base N (ov (sub K b tAll) (clM b u0 u1 us, fun _ _ => 0, clB b) E) H := by
  intro q q1 q2
  have hq := h q q1 q2
  unfold ov
  by_cases hm : q ∈ kL (sub K b tAll)
  · rw [if_pos hm]
    have hr := sub_AA.mp hm
    rw [len_all] at hr
    obtain ⟨e0, ew, e66, e67, er, em, es, eb, ei⟩ := hE
    obtain ⟨i, hi, rfl⟩ : ∃ i, i < 374 ∧ q = b + i := ⟨q - b, by omega, by omega⟩
    obtain ⟨kM, kP, kW⟩ := al_kinds
    by_cases h66 : i = 66
    · subst h66
      rw [celE_arrR (k := 27) (n := 3) ((sub_G 66).trans rfl) (by decide)]
      rw [e66] at hq
      refine at_refs hq (fun j hj => ?_)
      unfold refsK
      rw [if_pos hj]
      show some (b + 179 + 65 * j) = some (b + 66 + 113 + 65 * j)
      rfl
    have key : E (b + i) = celE (sub K b tAll) (clM b u0 u1 us, fun _ _ => 0, clB b) (b + i) := by
      rcases (show i = 0 ∨ (1 ≤ i ∧ i < 66) ∨ i = 67 ∨ (68 ≤ i ∧ i < 111) ∨ (111 ≤ i ∧ i < 174) ∨ (174 ≤ i ∧ i < 179) ∨ 179 ≤ i by omega) with rfl | hw | rfl | hrd | hmt | hsl | him
      · show E b = _
        rw [celE_obj (ci := 10) (congrArg Prod.fst (sub_G 0)) (by decide), e0]; rfl
      · obtain ⟨j, rfl⟩ : ∃ j, i = 1 + j := ⟨i - 1, by omega⟩
        refine cl_wh (d := 1) ew rfl rfl (fun i hi => (kM i hi).1) ?_ ?_ (fun q q1 q2 => ?_) (fun _ => rfl) (fun q q1 q2 => clB_ne (by omega)) (by omega)
        · show clM b u0 u1 us (b + 1) = _
          unfold clM; rw [if_pos (by omega)]; funext k; simp
        · show clM b u0 u1 us (b + 1 + 1) = _
          unfold clM; rw [if_pos (by omega)]; funext k; rw [if_neg (by omega)]
        · show clM b u0 u1 us q = _
          unfold clM; rw [if_neg (by omega), if_pos (by omega)]
      · rw [celE_arr (k := 23) (n := 3) ((sub_G 67).trans rfl) (by decide) (by decide) (by decide), e67]
        show _ = Sum.inl (kC K 23, 3, Sum.inl (clM b u0 u1 us (b + 67)))
        unfold clM; rw [if_neg (by omega), if_neg (by omega), if_pos (by omega)]
      · obtain ⟨r0, r1, r35, r36, r37, r38, r39, r40, r41, r42⟩ := er
        have z : ∀ j, 103 ≤ j → j < 111 → clM b u0 u1 us (b + j) = fun _ => 0 := fun j j1 j2 => by unfold clM; rw [if_neg (by omega), if_neg (by omega), if_neg (by omega), if_neg (by omega), if_pos (by omega)]
        rcases (show i = 68 ∨ (69 ≤ i ∧ i < 103) ∨ i = 103 ∨ i = 104 ∨ i = 105 ∨ i = 106 ∨ i = 107 ∨ i = 108 ∨ i = 109 ∨ i = 110 by omega) with rfl | hp | rfl | rfl | rfl | rfl | rfl | rfl | rfl | rfl
        · rw [celE_obj (ci := 5) (congrArg Prod.fst ((sub_G 68).trans rfl)) (by decide), r0]
          have z68 : clM b u0 u1 us (b + 68) = fun _ => 0 := by unfold clM; rw [if_neg (by omega), if_neg (by omega), if_pos (by omega)]
          show _ = Sum.inr (5, [Value.ref (b + 68 + 1), .int (clM b u0 u1 us (b + 68) 1), .int (clM b u0 u1 us (b + 68) 2), .ref (b + 68 + 35), .int (clM b u0 u1 us (b + 68) 4), .int (clM b u0 u1 us (b + 68) 5), .ref (b + 68 + 41), .ref (b + 68 + 42)])
          rw [z68]
        · obtain ⟨j, rfl⟩ : ∃ j, i = 69 + j := ⟨i - 69, by omega⟩
          refine cl_pr (d := 69) r1 kP (fun q q1 q2 => ?_) (fun _ => rfl) (fun q q1 q2 => clB_ne (by omega)) (by omega)
          show clM b u0 u1 us q = _
          unfold clM; rw [if_neg (by omega), if_neg (by omega), if_neg (by omega), if_pos (by omega)]
        · rw [celE_obj (ci := 8) (congrArg Prod.fst ((sub_G 103).trans rfl)) (by decide), show b + 103 = b + 68 + 35 by omega, r35]
          show _ = Sum.inr (8, [Value.ref (b + 68 + 35 + 1), .ref (b + 68 + 35 + 2), .ref (b + 68 + 35 + 3), .ref (b + 68 + 35 + 4), .int (clM b u0 u1 us (b + 68 + 35) 4), vr (clB b (b + 68 + 35) 5), .int (clM b u0 u1 us (b + 68 + 35) 6)])
          have zb : clB b (b + 68 + 35) 5 = b + 108 := by unfold clB; rw [if_pos (by omega), if_pos rfl]
          have zv : vr (b + 108) = .ref (b + 68 + 40) := by unfold vr; rw [if_neg (by omega)]
          rw [zb, zv, show b + 68 + 35 = b + 103 by omega, z 103 (by omega) (by omega)]
        · exact cl_ai (d := 104) rfl r36 (z 104 (by omega) (by omega))
        · exact cl_ai (d := 105) rfl r37 (z 105 (by omega) (by omega))
        · exact cl_ai (d := 106) rfl r38 (z 106 (by omega) (by omega))
        · exact cl_ai (d := 107) rfl r39 (z 107 (by omega) (by omega))
        · exact cl_ab (d := 108) rfl r40 (z 108 (by omega) (by omega))
        · exact cl_ai (d := 109) rfl r41 (z 109 (by omega) (by omega))
        · exact cl_ai (d := 110) rfl r42 (z 110 (by omega) (by omega))
      · obtain ⟨j, rfl⟩ : ∃ j, i = 111 + j := ⟨i - 111, by omega⟩
        refine cl_ma (d := 111) em (fun i hi => (kM i hi).2) (fun q q1 q2 => ?_) (fun _ => rfl) (fun q q1 q2 => clB_ne (by omega)) (by omega)
        show clM b u0 u1 us q = _
        unfold clM; rw [if_neg (by omega), if_neg (by omega), if_neg (by omega), if_neg (by omega), if_neg (by omega), if_pos (by omega)]
      · have z : ∀ j, 174 ≤ j → j < 179 → clM b u0 u1 us (b + j) = fun _ => 0 := fun j j1 j2 => by unfold clM; rw [if_neg (by omega), if_neg (by omega), if_neg (by omega), if_neg (by omega), if_neg (by omega), if_neg (by omega), if_pos (by omega)]
        rcases (show i = 174 ∨ i = 175 ∨ i = 176 ∨ i = 177 ∨ i = 178 by omega) with rfl | rfl | rfl | rfl | rfl
        · rw [celE_obj (ci := 7) (congrArg Prod.fst ((sub_G 174).trans rfl)) (by decide), es.1]
          show _ = Sum.inr (7, [Value.ref (b + 174 + 1), .ref (b + 174 + 2), .int (clM b u0 u1 us (b + 174) 2), .int (clM b u0 u1 us (b + 174) 3), .int (clM b u0 u1 us (b + 174) 4)])
          rw [z 174 (by omega) (by omega)]
        · exact cl_ai (d := 175) rfl es.2.1 (z 175 (by omega) (by omega))
        · exact cl_ai (d := 176) rfl es.2.2 (z 176 (by omega) (by omega))
        · rw [celE_obj (ci := 0) (congrArg Prod.fst ((sub_G 177).trans rfl)) (by decide), eb.1]
          show _ = Sum.inr (0, [Value.ref (b + 177 + 1), .int (clM b u0 u1 us (b + 177) 1), .int (clM b u0 u1 us (b + 177) 2), .int (clM b u0 u1 us (b + 177) 3)])
          rw [z 177 (by omega) (by omega)]
        · exact cl_ab (d := 178) rfl eb.2 (z 178 (by omega) (by omega))
      · obtain ⟨j, r, hj, hr2, rfl⟩ : ∃ j r, j < 3 ∧ r < 65 ∧ i = 179 + 65 * j + r := ⟨(i - 179) / 65, (i - 179) % 65, by omega, by omega, by omega⟩
        obtain ⟨t1, t2, t3⟩ := kW j hj
        have ej := ei j hj
        rw [show b + 179 + 65 * j = b + (179 + 65 * j) by omega] at ej
        have hf : ∀ q, b + (179 + 65 * j) ≤ q → q < b + (179 + 65 * j) + 65 → (q - (b + 179)) % 65 = q - (b + (179 + 65 * j)) ∧ (q - (b + 179)) / 65 = j := fun q q1 q2 => by omega
        refine cl_wh (d := 179 + 65 * j) ej t1 (by rw [show 179 + 65 * j + 1 = 180 + 65 * j by omega]; exact t2) (fun i hi => by rw [show 179 + 65 * j + 2 + i = 181 + 65 * j + i by omega]; exact t3 i hi) ?_ ?_ (fun q q1 q2 => ?_) (fun _ => rfl) (fun q q1 q2 => clB_ne (by omega)) hr2
        · show clM b u0 u1 us (b + (179 + 65 * j)) = _
          have := hf (b + (179 + 65 * j)) (by omega) (by omega)
          unfold clM; rw [if_neg (by omega), if_neg (by omega), if_neg (by omega), if_neg (by omega), if_neg (by omega), if_neg (by omega), if_neg (by omega), if_pos (by omega)]
          funext k
          by_cases hk : k = 3
          · rw [if_pos ⟨by omega, hk⟩, if_pos hk]
          · rw [if_neg (fun c => hk c.2), if_neg hk]
        · show clM b u0 u1 us (b + (179 + 65 * j) + 1) = _
          have := hf (b + (179 + 65 * j) + 1) (by omega) (by omega)
          unfold clM; rw [if_neg (by omega), if_neg (by omega), if_neg (by omega), if_neg (by omega), if_neg (by omega), if_neg (by omega), if_neg (by omega), if_pos (by omega)]
          funext k
          rw [if_neg (by omega)]
        · show clM b u0 u1 us q = _
          have := hf q (by omega) (by omega)
          unfold clM; rw [if_neg (by omega), if_neg (by omega), if_neg (by omega), if_neg (by omega), if_neg (by omega), if_neg (by omega), if_neg (by omega), if_neg (by omega), this.2]
    rw [← key]; exact hq
  · rw [if_neg hm]; exact hq
