section
variable {a o b : Nat} {I J : MI} {V : Nat → Int32}
theorem q_side (h : Rel (a + 3) I V) (hW : RelW (a + 3) I V) (x y : Int32) : ∃ v, (∀ (o : Nat) (J : MI) (Q : Int32 → Prop), Q v → w_X10_side o x y (kb J (o + 1) 0 V) Q) ∧ ∀ Q : Int32 → Prop, Q v → w_X9_side a x y I Q := by
  rcases in_cases x (lo := 0) (hi := 1) (by omega) (by omega) with ⟨s, s1, s2, rfl⟩ | hx
  · obtain ⟨p0, -, p1, p2, p3, p4, p5, p6, p9, -⟩ := h.2.2.2.2 s (by omega)
    have p7 := hW s (by omega)
    have eA : a + 3 + 57 + 3 * s = a + 60 + 3 * s := by omega
    rw [eA] at p1 p2 p3 p4 p5 p7
    have mI : ∀ (o : Nat) (J : MI) (Q : Int32 → Prop), (w_X10_isIn y (11) (17) (fun r4 => ((r4 = 0 → (w_X10_isIn y (0) (6) (fun r6 => ((¬ r6 = 0 → ((y ≤ 0 → Lp2 (w_X10_side_l76 o (nI s) (kb J (o + 1) 0 V) Q) (0) (0)) ∧ (¬ y ≤ 0 → (vp_in ((nI (0 + 222 + 14 * s) + y) - (1)) 4905 ∧ Q (kb J (o + 1) 0 V (o + 1) (ix ((nI (0 + 222 + 14 * s) + y) - (1)))))))) ∧ (r6 = 0 → Q (-1)))))) ∧ (¬ r4 = 0 → (vp_in (((nI (0 + 222 + 14 * s) + (6)) + y) - (10)) 4905 ∧ Q (kb J (o + 1) 0 V (o + 1) (ix (((nI (0 + 222 + 14 * s) + (6)) + y) - (10))))))))) → w_X10_side o (nI s) y (kb J (o + 1) 0 V) Q := fun o J Q hq => by
      unfold w_X10_side
      exact t_isIn1 (lo := 0) (hi := 1) (by omega) s2 (by omega) ⟨fun _ => t_sideAt (b := 0) hq, fun c => absurd c (by decide)⟩
    have cI : ∀ Q : Int32 → Prop, (¬ y = 0 → w_X5_figure (a + 60 + 3 * s) y I Q) → (y = 0 → w_X2_deedsInAll (a + 4) (nI s) I Q) → w_X9_side a (nI s) y I Q := fun Q q1 q2 => by
      unfold w_X9_side
      refine k_Side1 (by omega) ⟨fun _ => ⟨fun c => ⟨inn (by omega) (by omega), ?_⟩, q2⟩, fun c => absurd c (by decide)⟩
      rw [ixn (by omega)]
      exact q1 c
    rcases in_cases y (lo := 11) (hi := 17) (by omega) (by omega) with ⟨k, k1, k2, rfl⟩ | hy
    · have ev := p9 (k - 10) (by omega) (by omega)
      rw [show a + 3 + 58 + 3 * s = a + 60 + 3 * s + 1 by omega] at ev
      have ne : ∀ j : Nat, j ≤ 10 → ¬ nI k = nI j := fun j hj c => by have := nI_inj (by omega) (by omega) c; omega
      refine ⟨V (228 + 14 * s + (k - 10)), fun o J Q hQ => mI o J Q (t_isIn1 (lo := 11) (hi := 17) k1 k2 (by omega) ⟨fun c => absurd c (by decide), fun _ => ?_⟩), fun Q hQ => cI Q (fun _ => ?_) (fun c => absurd c (ne 0 (by omega)))⟩
      · simp only [lit, nI_add]
        rw [pk_sub (by omega), show 0 + 222 + 14 * s + 6 + k - 10 = 228 + 14 * s + (k - 10) by omega, g0 (by omega)]
        exact ⟨inn (by omega) (by omega), hQ⟩
      · unfold w_X5_figure
        refine ⟨fun c => absurd c (ne 1 (by omega)), fun c => absurd c (ne 2 (by omega)), fun c => absurd c (ne 3 (by omega)), fun c => absurd c (ne 4 (by omega)), fun c => absurd c (ne 5 (by omega)), fun c => absurd c (ne 6 (by omega)), fun _ _ _ _ _ _ => ⟨fun c => absurd ((nI_leI (b := 10) (by omega) (by omega)).mp c) (by omega), fun _ => ⟨fun c => absurd ((nI_ltI (a := 17) (by omega) (by omega)).mp c) (by omega), fun _ => ?_⟩⟩⟩
        simp only [lit]
        rw [pk_sub (by omega), ixn (by omega), ev]
        exact ⟨inn (by omega) (by omega), hQ⟩
    · rcases in_cases y (lo := 0) (hi := 6) (by omega) (by omega) with ⟨k, k1, k2, rfl⟩ | hy2
      · by_cases hk : k = 0
        · subst hk
          obtain ⟨u1, u2⟩ := q_sum (s := s) h (by omega)
          exact ⟨_, fun o J Q hQ => mI o J Q (t_isIn0 hy ⟨fun _ => t_isIn1 (lo := 0) (hi := 6) (by omega) (by omega) (by omega) ⟨fun _ => ⟨fun _ => u1 o J Q hQ, fun c => absurd (by decide) c⟩, fun c => absurd c (by decide)⟩, fun c => absurd rfl c⟩), fun Q hQ => cI Q (fun c => absurd rfl c) (fun _ => u2 Q hQ)⟩
        · have nz : ¬ nI k = 0 := fun c => hk ((nI_z (by omega)).mp c)
          refine ⟨V (221 + 14 * s + k), fun o J Q hQ => mI o J Q (t_isIn0 hy ⟨fun _ => t_isIn1 (lo := 0) (hi := 6) (by omega) k2 (by omega) ⟨fun _ => ⟨fun c => absurd c (nI_nle (by omega) (by omega)), fun _ => ?_⟩, fun c => absurd c (by decide)⟩, fun c => absurd rfl c⟩), fun Q hQ => cI Q (fun _ => ?_) (fun c => absurd c nz)⟩
          · simp only [lit, nI_add]
            rw [pk_sub (by omega), show 0 + 222 + 14 * s + k - 1 = 221 + 14 * s + k by omega, g0 (by omega)]
            exact ⟨inn (by omega) (by omega), hQ⟩
          · unfold w_X5_figure
            rw [p1, p2, p3, p4, p5, p7]
            rcases (show k = 1 ∨ k = 2 ∨ k = 3 ∨ k = 4 ∨ k = 5 ∨ k = 6 by omega) with rfl | rfl | rfl | rfl | rfl | rfl
            · exact ⟨fun _ => by rw [show 222 + 14 * s = 221 + 14 * s + 1 by omega]; exact hQ, fun c => absurd c (by decide), fun c => absurd c (by decide), fun c => absurd c (by decide), fun c => absurd c (by decide), fun c => absurd c (by decide), fun n1 n2 n3 n4 n5 n6 => absurd rfl n1⟩
            · exact ⟨fun c => absurd c (by decide), fun _ => by rw [show 223 + 14 * s = 221 + 14 * s + 2 by omega]; exact hQ, fun c => absurd c (by decide), fun c => absurd c (by decide), fun c => absurd c (by decide), fun c => absurd c (by decide), fun n1 n2 n3 n4 n5 n6 => absurd rfl n2⟩
            · exact ⟨fun c => absurd c (by decide), fun c => absurd c (by decide), fun _ => by rw [show 224 + 14 * s = 221 + 14 * s + 3 by omega]; exact hQ, fun c => absurd c (by decide), fun c => absurd c (by decide), fun c => absurd c (by decide), fun n1 n2 n3 n4 n5 n6 => absurd rfl n3⟩
            · exact ⟨fun c => absurd c (by decide), fun c => absurd c (by decide), fun c => absurd c (by decide), fun _ => by rw [show 225 + 14 * s = 221 + 14 * s + 4 by omega]; exact hQ, fun c => absurd c (by decide), fun c => absurd c (by decide), fun n1 n2 n3 n4 n5 n6 => absurd rfl n4⟩
            · refine ⟨fun c => absurd c (by decide), fun c => absurd c (by decide), fun c => absurd c (by decide), fun c => absurd c (by decide), fun _ => ?_, fun c => absurd c (by decide), fun n1 n2 n3 n4 n5 n6 => absurd rfl n5⟩
              rw [show 221 + 14 * s + 5 = 226 + 14 * s by omega] at hQ
              rcases bit_c p6 with q | q <;> rw [q] at hQ ⊢
              · exact ⟨fun _ => hQ, fun c => absurd rfl c⟩
              · exact ⟨fun c => absurd c (by decide), fun _ => hQ⟩
            · exact ⟨fun c => absurd c (by decide), fun c => absurd c (by decide), fun c => absurd c (by decide), fun c => absurd c (by decide), fun c => absurd c (by decide), fun _ => by rw [show 227 + 14 * s = 221 + 14 * s + 6 by omega]; exact hQ, fun n1 n2 n3 n4 n5 n6 => absurd rfl n6⟩
      · have hy0 : ¬ y = 0 := fun c => by rw [c] at hy2; exact hy2.elim (fun c => absurd c (by decide)) (fun c => absurd c (by decide))
        refine ⟨-1, fun o J Q hQ => mI o J Q (t_isIn0 hy ⟨fun _ => t_isIn0 hy2 ⟨fun c => absurd rfl c, fun _ => hQ⟩, fun c => absurd rfl c⟩), fun Q hQ => cI Q (fun _ => ?_) (fun c => absurd c hy0)⟩
        have ne : ∀ j : Nat, j ≤ 6 → ¬ y = nI j := fun j hj c => by
          rw [c] at hy2
          exact hy2.elim (fun c => absurd c (nI_pos (by omega))) (fun c => by have := (nI_ltI (by omega) (by omega)).mp c; omega)
        unfold w_X5_figure
        refine ⟨fun c => absurd c (ne 1 (by omega)), fun c => absurd c (ne 2 (by omega)), fun c => absurd c (ne 3 (by omega)), fun c => absurd c (ne 4 (by omega)), fun c => absurd c (ne 5 (by omega)), fun c => absurd c (ne 6 (by omega)), fun _ _ _ _ _ _ => ⟨fun _ => hQ, fun c => ⟨fun _ => hQ, fun c2 => ?_⟩⟩⟩
        have c0 : ¬ y < 0 := fun q => c (Int32.le_of_lt (Int32.lt_of_lt_of_le q (show (0 : Int32) ≤ 10 by decide)))
        obtain ⟨j, hj, rfl⟩ := nI_of c0
        have q1 : ¬ j ≤ 10 := fun q => c (nI_le (b := 10) q (by omega))
        have q2 : ¬ 17 < j := fun q => c2 (nI_lt (a := 17) q hj)
        exact hy.elim (fun q => by have := (nI_ltI hj (by omega)).mp q; omega) (fun q => by have := (nI_ltI (by omega) hj).mp q; omega)
  · refine ⟨-1, fun o J Q hQ => ?_, fun Q hQ => ?_⟩
    · unfold w_X10_side
      exact t_isIn0 hx ⟨fun c => absurd rfl c, fun _ => hQ⟩
    · unfold w_X9_side
      exact k_Side0 hx ⟨fun c => absurd rfl c, fun _ => hQ⟩
end
