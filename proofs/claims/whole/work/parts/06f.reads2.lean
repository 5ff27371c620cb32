section
variable {a o : Nat} {I J : MI} {V : Nat → Int32}
theorem in_cases (x : Int32) {lo hi : Nat} (hl : lo ≤ hi) (h : hi < 2147483648) : (∃ k, lo ≤ k ∧ k ≤ hi ∧ x = nI k) ∨ x < nI lo ∨ nI hi < x := by
  by_cases h1 : x < nI lo
  · exact Or.inr (Or.inl h1)
  · by_cases h2 : nI hi < x
    · exact Or.inr (Or.inr h2)
    · left
      have h0 : ¬ x < 0 := fun c => h1 (Int32.lt_of_lt_of_le c (nI_pos' (by omega)))
      obtain ⟨j, hj, rfl⟩ := nI_of h0
      refine ⟨j, ?_, ?_, rfl⟩
      · rcases Nat.lt_or_ge j lo with q | q
        · exact absurd (nI_lt q (by omega)) h1
        · exact q
      · rcases Nat.lt_or_ge hi j with q | q
        · exact absurd (nI_lt q hj) h2
        · exact q
theorem t_isIn1 {lo hi k : Nat} {Q : Int32 → Prop} (h1 : lo ≤ k) (h2 : k ≤ hi) (h : hi < 2147483648) (hQ : Q 1) : w_X10_isIn (nI k) (nI lo) (nI hi) Q := by
  unfold w_X10_isIn
  exact ⟨fun c => absurd ((nI_ltI (by omega) (by omega)).mp c) (by omega), fun _ => ⟨fun c => absurd ((nI_ltI (by omega) (by omega)).mp c) (by omega), fun _ => hQ⟩⟩
theorem t_isIn0 {x y z : Int32} {Q : Int32 → Prop} (h : x < y ∨ z < x) (hQ : Q 0) : w_X10_isIn x y z Q := by
  unfold w_X10_isIn
  exact ⟨fun _ => hQ, fun c => ⟨fun _ => hQ, fun c2 => absurd (h.resolve_left c) c2⟩⟩
/-- the class's way of saying so -/
theorem k_in1 {n k : Nat} {Q : Int32 → Prop} (h : k < n) (hn : n < 2147483648) (hQ : Q 1) : (nI k < 0 → Q 0) ∧ (¬ nI k < 0 → ((nI n ≤ nI k → Q 0) ∧ (¬ nI n ≤ nI k → Q 1))) :=
  ⟨fun c => absurd c (nI_pos (by omega)), fun _ => ⟨fun c => absurd ((nI_leI (by omega) (by omega)).mp c) (by omega), fun _ => hQ⟩⟩
theorem k_in0 {x : Int32} {n : Nat} {Q : Int32 → Prop} (hn : n + 1 < 2147483648) (h : x < nI 0 ∨ nI n < x) (hQ : Q 0) : (x < 0 → Q 0) ∧ (¬ x < 0 → ((nI (n + 1) ≤ x → Q 0) ∧ (¬ nI (n + 1) ≤ x → Q 1))) := by
  refine ⟨fun _ => hQ, fun c => ⟨fun _ => hQ, fun c2 => ?_⟩⟩
  have h3 := h.resolve_left c
  obtain ⟨j, hj, rfl⟩ := nI_of c
  have := (nI_ltI (by omega) hj).mp h3
  exact absurd (nI_le (by omega) hj) c2
theorem k_Cell1 {k : Nat} {Q : Int32 → Prop} (h : k < 32) (hQ : Q 1) : w_X9_isCell (nI k) Q := k_in1 (n := 32) h (by omega) hQ
theorem k_Cell0 {x : Int32} {Q : Int32 → Prop} (h : x < nI 0 ∨ nI 31 < x) (hQ : Q 0) : w_X9_isCell x Q := k_in0 (n := 31) (by omega) h hQ
theorem k_Register1 {k : Nat} {Q : Int32 → Prop} (h : k < 8) (hQ : Q 1) : w_X9_isRegister (nI k) Q := k_in1 (n := 8) h (by omega) hQ
theorem k_Register0 {x : Int32} {Q : Int32 → Prop} (h : x < nI 0 ∨ nI 7 < x) (hQ : Q 0) : w_X9_isRegister x Q := k_in0 (n := 7) (by omega) h hQ
theorem k_Queue1 {k : Nat} {Q : Int32 → Prop} (h : k < 6) (hQ : Q 1) : w_X9_isQueue (nI k) Q := k_in1 (n := 6) h (by omega) hQ
theorem k_Queue0 {x : Int32} {Q : Int32 → Prop} (h : x < nI 0 ∨ nI 5 < x) (hQ : Q 0) : w_X9_isQueue x Q := k_in0 (n := 5) (by omega) h hQ
theorem k_Side1 {k : Nat} {Q : Int32 → Prop} (h : k < 2) (hQ : Q 1) : w_X9_isSide (nI k) Q := k_in1 (n := 2) h (by omega) hQ
theorem k_Side0 {x : Int32} {Q : Int32 → Prop} (h : x < nI 0 ∨ nI 1 < x) (hQ : Q 0) : w_X9_isSide x Q := k_in0 (n := 1) (by omega) h hQ
theorem g0 {k : Nat} (hk : k < 516) : kb J (o + 1) 0 V (o + 1) (ix (nI k)) = V k := by
  have := kg (V := V) (J := J) (o := o) (b := 0) (by omega) hk
  rw [Nat.zero_add] at this
  exact this
theorem q_cell (h : Rel (a + 3) I V) (x : Int32) : ∃ v, (∀ (o : Nat) (J : MI) (Q : Int32 → Prop), Q v → w_X10_cell o x (kb J (o + 1) 0 V) Q) ∧ ∀ Q : Int32 → Prop, Q v → w_X9_cell a x I Q := by
  rcases in_cases x (lo := 0) (hi := 31) (by omega) (by omega) with ⟨k, h1, h2, rfl⟩ | hx
  · refine ⟨V (178 + k), fun o J Q hQ => ?_, fun Q hQ => ?_⟩
    · unfold w_X10_cell
      refine t_isIn1 (lo := 0) (hi := 31) (by omega) h2 (by omega) ⟨fun c => absurd c (by decide), fun _ => ?_⟩
      simp only [lit, nI_add]
      rw [g0 (by omega)]
      exact ⟨inn (by omega) (by omega), hQ⟩
    · unfold w_X9_cell
      have := (h.2.2.1.2.1 k (by omega)).1
      rw [show a + 3 + 36 = a + 39 by omega] at this
      exact k_Cell1 (by omega) ⟨fun c => absurd c (by decide), fun _ => ⟨inn (by omega) (by omega), by rw [ixn (by omega), this]; exact hQ⟩⟩
  · refine ⟨-1, fun o J Q hQ => ?_, fun Q hQ => ?_⟩
    · unfold w_X10_cell
      exact t_isIn0 hx ⟨fun _ => hQ, fun c => absurd rfl c⟩
    · unfold w_X9_cell
      exact k_Cell0 hx ⟨fun _ => hQ, fun c => absurd rfl c⟩
theorem q_register (h : Rel (a + 3) I V) (x : Int32) : ∃ v, (∀ (o : Nat) (J : MI) (Q : Int32 → Prop), Q v → w_X10_register o x (kb J (o + 1) 0 V) Q) ∧ ∀ Q : Int32 → Prop, Q v → w_X9_register a x I Q := by
  rcases in_cases x (lo := 0) (hi := 7) (by omega) (by omega) with ⟨k, h1, h2, rfl⟩ | hx
  · refine ⟨V (210 + k), fun o J Q hQ => ?_, fun Q hQ => ?_⟩
    · unfold w_X10_register
      refine t_isIn1 (lo := 0) (hi := 7) (by omega) h2 (by omega) ⟨fun c => absurd c (by decide), fun _ => ?_⟩
      simp only [lit, nI_add]
      rw [g0 (by omega)]
      exact ⟨inn (by omega) (by omega), hQ⟩
    · unfold w_X9_register
      have := (h.2.2.1.1 k (by omega)).1
      rw [show a + 3 + 35 = a + 38 by omega] at this
      exact k_Register1 (by omega) ⟨fun c => absurd c (by decide), fun _ => ⟨inn (by omega) (by omega), by rw [ixn (by omega), this]; exact hQ⟩⟩
  · refine ⟨-1, fun o J Q hQ => ?_, fun Q hQ => ?_⟩
    · unfold w_X10_register
      exact t_isIn0 hx ⟨fun _ => hQ, fun c => absurd rfl c⟩
    · unfold w_X9_register
      exact k_Register0 hx ⟨fun _ => hQ, fun c => absurd rfl c⟩
theorem q_roomOf (h : Rel (a + 3) I V) (x : Int32) : ∃ v, (∀ (o : Nat) (J : MI) (Q : Int32 → Prop), Q v → w_X10_roomOf o x (kb J (o + 1) 0 V) Q) ∧ ∀ Q : Int32 → Prop, Q v → w_X9_roomOf a x I Q := by
  rcases in_cases x (lo := 0) (hi := 5) (by omega) (by omega) with ⟨k, h1, h2, rfl⟩ | hx
  · refine ⟨V (172 + k), fun o J Q hQ => ?_, fun Q hQ => ?_⟩
    · unfold w_X10_roomOf
      refine t_isIn1 (lo := 0) (hi := 5) (by omega) h2 (by omega) ⟨fun c => absurd c (by decide), fun _ => ?_⟩
      simp only [lit, nI_add]
      rw [g0 (by omega)]
      exact ⟨inn (by omega) (by omega), hQ⟩
    · unfold w_X9_roomOf
      obtain ⟨n, f, hn, hf, e1, e2, e3, e4, -⟩ := h.2.2.2.1 k (by omega)
      rw [show a + 3 + 39 + 3 * k = a + 42 + 3 * k by omega] at e4
      exact k_Queue1 (by omega) ⟨fun c => absurd c (by decide), fun _ => ⟨inn (by omega) (by omega), by rw [ixn (by omega), e4]; exact hQ⟩⟩
  · refine ⟨-1, fun o J Q hQ => ?_, fun Q hQ => ?_⟩
    · unfold w_X10_roomOf
      exact t_isIn0 hx ⟨fun _ => hQ, fun c => absurd rfl c⟩
    · unfold w_X9_roomOf
      exact k_Queue0 hx ⟨fun _ => hQ, fun c => absurd rfl c⟩
theorem q_count (h : Rel (a + 3) I V) (x : Int32) : ∃ v : Int32 → Int32, (∀ (o : Nat) (J : MI) (Q : Int32 → Prop), Q (v (J o 3)) → w_X10_count o x (kb J (o + 1) 0 V) Q) ∧ ∀ Q : Int32 → Prop, Q (v (I (a + 1) 1)) → w_X9_count a x I Q := by
  refine ⟨fun l => vCnt V l x, fun o J Q hQ => ?_, fun Q hQ => ?_⟩
  · unfold w_X10_count
    exact t_counts (b := 0) (by omega) hQ
  · unfold w_X9_count
    exact k_figureOf (a := 0) h hQ
theorem q_queue (h : Rel (a + 3) I V) (x y : Int32) : ∃ v, (∀ (o : Nat) (J : MI) (Q : Int32 → Prop), Q v → w_X10_queue o x y (kb J (o + 1) 0 V) Q) ∧ ∀ Q : Int32 → Prop, Q v → w_X9_queue a x y I Q := by
  rcases in_cases x (lo := 0) (hi := 5) (by omega) (by omega) with ⟨k, h1, h2, rfl⟩ | hx
  · obtain ⟨n, f, hn, hf, e1, e2, e3, e4, e5, hj⟩ := h.2.2.2.1 k (by omega)
    rw [show a + 3 + 39 + 3 * k = a + 42 + 3 * k by omega] at e2 e3
    have mI : ∀ (o : Nat) (J : MI) (Q : Int32 → Prop), ((¬ y = (-1) → (w_X10_isIn y (0) (nI n - (1)) (fun r5 => ((r5 = 0 → Q (-2)) ∧ (¬ r5 = 0 → (w_X10_queueAt (0) (nI k) (fun r8 => (vp_in ((r8 + (1)) + ((3) * y)) 4905 ∧ Q (kb J (o + 1) 0 V (o + 1) (ix ((r8 + (1)) + ((3) * y))))))))))))) → (y = (-1) → Q (nI n)) → w_X10_queue o (nI k) y (kb J (o + 1) 0 V) Q := fun o J Q g1 g2 => by
      unfold w_X10_queue
      refine t_isIn1 (lo := 0) (hi := 5) (by omega) h2 (by omega) ⟨fun _ => t_inQueue (b := 0) (by omega) (by omega) ?_, fun c => absurd c (by decide)⟩
      rw [e1]
      exact ⟨g1, g2⟩
    have cI : ∀ Q : Int32 → Prop, (¬ y = (-1) → w_X3_heldAt (a + 42 + 3 * k) y I Q) → (y = (-1) → Q (nI n)) → w_X9_queue a (nI k) y I Q := fun Q g1 g2 => by
      unfold w_X9_queue
      refine k_Queue1 (by omega) ⟨fun _ => ⟨inn (by omega) (by omega), ?_⟩, fun c => absurd c (by decide)⟩
      rw [ixn (by omega), e2]
      exact ⟨g1, g2⟩
    by_cases hy : y = -1
    · exact ⟨nI n, fun o J Q hQ => mI o J Q (fun c => absurd hy c) (fun _ => hQ), fun Q hQ => cI Q (fun c => absurd hy c) (fun _ => hQ)⟩
    · by_cases hn0 : n = 0
      · subst hn0
        refine ⟨-2, fun o J Q hQ => mI o J Q (fun _ => ?_) (fun c => absurd c hy), fun Q hQ => cI Q (fun _ => ?_) (fun c => absurd c hy)⟩
        · rw [show nI 0 - 1 = (-1 : Int32) by decide]
          unfold w_X10_isIn
          refine ⟨fun _ => ⟨fun _ => hQ, fun c => absurd rfl c⟩, fun c => ⟨fun _ => ⟨fun _ => hQ, fun c => absurd rfl c⟩, fun c2 => ?_⟩⟩
          obtain ⟨j, hj, rfl⟩ := nI_of c
          exact absurd (Int32.lt_of_lt_of_le (show (-1 : Int32) < 0 by decide) (nI_pos' hj)) c2
        · unfold w_X3_heldAt
          rw [e2]
          exact ⟨fun _ => hQ, fun c => ⟨fun c2 => absurd c2 c, fun _ => hQ⟩⟩
      · rcases in_cases y (lo := 0) (hi := n - 1) (by omega) (by omega) with ⟨j, j1, j2, rfl⟩ | hx
        · obtain ⟨ev, -⟩ := hj j (by omega)
          rw [show a + 3 + 40 + 3 * k = a + 43 + 3 * k by omega] at ev
          refine ⟨V (253 + 19 * k + 3 * j), fun o J Q hQ => mI o J Q (fun _ => ?_) (fun c => absurd c hy), fun Q hQ => cI Q (fun _ => ?_) (fun c => absurd c hy)⟩
          · rw [sub1 (by omega)]
            refine t_isIn1 (lo := 0) (by omega) j2 (by omega) ⟨fun c => absurd c (by decide), fun _ => t_queueAt (b := 0) ?_⟩
            simp only [lit, pk_mul, nI_add]
            rw [show 0 + 252 + 19 * k + 1 + 3 * j = 253 + 19 * k + 3 * j by omega, g0 (by omega)]
            exact ⟨inn (by omega) (by omega), hQ⟩
          · unfold w_X3_heldAt
            rw [e2, e3, nI_add, rem6 (by omega), ixn (by omega), show a + 42 + 3 * k + 1 = a + 43 + 3 * k by omega, ev]
            exact ⟨fun c => absurd c (nI_pos (by omega)), fun _ => ⟨fun _ => ⟨inn (by omega) (by omega), hQ⟩, fun c => absurd (nI_lt (by omega) (by omega)) c⟩⟩
        · refine ⟨-2, fun o J Q hQ => mI o J Q (fun _ => ?_) (fun c => absurd c hy), fun Q hQ => cI Q (fun _ => ?_) (fun c => absurd c hy)⟩
          · rw [sub1 (by omega)]
            exact t_isIn0 hx ⟨fun _ => hQ, fun c => absurd rfl c⟩
          · unfold w_X3_heldAt
            rw [e2]
            refine ⟨fun _ => hQ, fun c => ⟨fun c2 => ?_, fun _ => hQ⟩⟩
            have h3 := hx.resolve_left c
            obtain ⟨j, hj, rfl⟩ := nI_of c
            have q1 := (nI_ltI (by omega) hj).mp h3
            have q2 := (nI_ltI hj (by omega)).mp c2
            omega
  · refine ⟨-2, fun o J Q hQ => ?_, fun Q hQ => ?_⟩
    · unfold w_X10_queue
      exact t_isIn0 hx ⟨fun c => absurd rfl c, fun _ => hQ⟩
    · unfold w_X9_queue
      exact k_Queue0 hx ⟨fun c => absurd rfl c, fun _ => hQ⟩
end
