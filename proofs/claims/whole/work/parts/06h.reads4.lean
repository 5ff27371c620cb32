section
variable {a o b : Nat} {I J : MI} {V : Nat → Int32}
theorem q_has (h : Rel (a + 3) I V) (x y z : Int32) :
    ((∀ (o : Nat) (J : MI) (Q : Int32 → Prop), Q 0 → w_X10_isDeed o x y z (kb J (o + 1) 0 V) Q) ∧ ∀ Q : Int32 → Prop, Q 0 → w_X2_hasDeed (a + 4) x y z I Q) ∨
    ∃ s i k, s < 2 ∧ i ≤ ix (V 48) ∧ k < vMany V s i ∧ x = nI s ∧ y = nI i ∧ z = nI k ∧ (∀ (o : Nat) (J : MI) (Q : Int32 → Prop), Q 1 → w_X10_isDeed o x y z (kb J (o + 1) 0 V) Q) ∧ ∀ Q : Int32 → Prop, Q 1 → w_X2_hasDeed (a + 4) x y z I Q := by
  obtain ⟨hsz, e48⟩ := size_lt h.1
  have e1 : I (a + 4) 1 = nI (ix (V 48)) := h.1.1.trans e48
  have m48 : ∀ (o : Nat) (J : MI), kb J (o + 1) 0 V (o + 1) (ix (48)) = nI (ix (V 48)) := fun o J => (g0 (k := 48) (by omega)).trans e48
  have none : ((x < nI 0 ∨ nI 1 < x) ∨ (y < nI 0 ∨ nI (ix (V 48)) < y)) → ((∀ (o : Nat) (J : MI) (Q : Int32 → Prop), Q 0 → w_X10_isDeed o x y z (kb J (o + 1) 0 V) Q) ∧ ∀ Q : Int32 → Prop, Q 0 → w_X2_hasDeed (a + 4) x y z I Q) := fun hxy => by
    refine ⟨fun o J Q hQ => ?_, fun Q hQ => ?_⟩
    · have hd : ∀ Q : Int32 → Prop, Q (-1) → w_X10_deeds o x y (kb J (o + 1) 0 V) Q := fun Q hQ => by
        unfold w_X10_deeds
        rw [m48]
        rcases in_cases x (lo := 0) (hi := 1) (by omega) (by omega) with ⟨s, s1, s2, rfl⟩ | hx
        · have hy : y < nI 0 ∨ nI (ix (V 48)) < y := hxy.resolve_left (fun c => c.elim (fun c => absurd c (nI_pos (by omega))) (fun c => absurd ((nI_ltI (by omega) (by omega)).mp c) (by omega)))
          exact t_isIn1 (lo := 0) (hi := 1) (by omega) s2 (by omega) ⟨fun c => absurd c (by decide), fun _ => t_isIn0 hy ⟨fun _ => hQ, fun c => absurd rfl c⟩⟩
        · exact t_isIn0 hx ⟨fun _ => hQ, fun c => absurd rfl c⟩
      unfold w_X10_isDeed
      exact hd _ ⟨fun _ => hQ, fun c => absurd (by decide) c⟩
    · unfold w_X2_hasDeed
      refine ⟨fun _ => hQ, fun c => k_deedsNo hsz e1 hxy ⟨fun _ => hQ, fun c2 => ?_⟩⟩
      obtain ⟨j, hj, rfl⟩ := nI_of c
      exact absurd (Int32.le_of_lt (Int32.lt_of_lt_of_le (show (-1 : Int32) < 0 by decide) (nI_pos' hj))) c2
  rcases in_cases x (lo := 0) (hi := 1) (by omega) (by omega) with ⟨s, s1, s2, hx⟩ | hx
  · rcases in_cases y (lo := 0) (hi := ix (V 48)) (by omega) (by omega) with ⟨i, i1, i2, hy⟩ | hy
    · have hle := vMany_le (V := V) (s := s) (i := i)
      have hd : ∀ (o : Nat) (J : MI) (Q : Int32 → Prop), Q (nI (vMany V s i)) → w_X10_deeds o x y (kb J (o + 1) 0 V) Q := fun o J Q hQ => by
        unfold w_X10_deeds
        rw [m48, hx, hy]
        exact t_isIn1 (lo := 0) (hi := 1) (by omega) s2 (by omega) ⟨fun c => absurd c (by decide), fun _ => t_isIn1 (lo := 0) (by omega) i2 (by omega) ⟨fun c => absurd c (by decide), fun _ => t_many (b := 0) h.1 (by omega) (by omega) i2 hQ⟩⟩
      have kd : ∀ Q : Int32 → Prop, Q (nI (vMany V s i)) → w_X2_deedsAt (a + 4) x y I Q := fun Q hQ => by
        rw [hx, hy]
        refine k_deedsAt (by omega) hsz i2 e1 ?_
        have := h.2.1.2.1 s i (by omega) i2
        rw [show a + 3 + 1 + 7 = a + 4 + 7 by omega] at this
        rw [this]; exact hQ
      by_cases hm : vMany V s i = 0
      · left
        refine ⟨fun o J Q hQ => ?_, fun Q hQ => ?_⟩
        · unfold w_X10_isDeed
          exact hd o J _ (by rw [hm]; exact ⟨fun _ => hQ, fun c => absurd (by decide) c⟩)
        · unfold w_X2_hasDeed
          refine ⟨fun _ => hQ, fun c => kd _ ?_⟩
          rw [hm]
          exact ⟨fun _ => hQ, fun c2 => absurd (Int32.not_lt.mp c) c2⟩
      · rcases in_cases z (lo := 0) (hi := vMany V s i - 1) (by omega) (by omega) with ⟨k, k1, k2, hz⟩ | hz
        · right
          refine ⟨s, i, k, by omega, i2, by omega, hx, hy, hz, fun o J Q hQ => ?_, fun Q hQ => ?_⟩
          · unfold w_X10_isDeed
            refine hd o J _ ⟨fun c => absurd c (nI_nle (by omega) (by omega)), fun _ => hd o J _ ?_⟩
            rw [sub1 (by omega), hz]
            exact t_isIn1 (lo := 0) (by omega) k2 (by omega) ⟨fun c => absurd c (by decide), fun _ => hQ⟩
          · unfold w_X2_hasDeed
            rw [hz]
            exact ⟨fun c => absurd c (nI_pos (by omega)), fun _ => kd _ ⟨fun c => absurd ((nI_leI (by omega) (by omega)).mp c) (by omega), fun _ => hQ⟩⟩
        · left
          refine ⟨fun o J Q hQ => ?_, fun Q hQ => ?_⟩
          · unfold w_X10_isDeed
            refine hd o J _ ⟨fun _ => hQ, fun _ => hd o J _ ?_⟩
            rw [sub1 (by omega)]
            exact t_isIn0 hz ⟨fun _ => hQ, fun c => absurd rfl c⟩
          · unfold w_X2_hasDeed
            refine ⟨fun _ => hQ, fun c => kd _ ⟨fun _ => hQ, fun c2 => ?_⟩⟩
            have h3 := hz.resolve_left c
            obtain ⟨j, hj, rfl⟩ := nI_of c
            have q1 := (nI_ltI (by omega) hj).mp h3
            exact absurd (nI_le (by omega) hj) c2
    · exact Or.inl (none (Or.inr hy))
  · exact Or.inl (none (Or.inl hx))
theorem q_did (h : Rel (a + 3) I V) (x y z : Int32) : ∃ v, (∀ (o : Nat) (J : MI) (Q : Int32 → Prop), Q v → w_X10_did o x y z (kb J (o + 1) 0 V) Q) ∧ ∀ Q : Int32 → Prop, Q v → w_X9_did a x y z I Q := by
  obtain ⟨hsz, e48⟩ := size_lt h.1
  rcases q_has h x y z with ⟨g1, g2⟩ | ⟨s, i, k, hs', hi, hk, rfl, rfl, rfl, g1, g2⟩
  · refine ⟨-1, fun o J Q hQ => ?_, fun Q hQ => ?_⟩
    · unfold w_X10_did
      exact g1 o J _ ⟨fun _ => hQ, fun c => absurd rfl c⟩
    · unfold w_X9_did
      exact g2 _ ⟨fun c => absurd rfl c, fun _ => hQ⟩
  · have hle := vMany_le (V := V) (s := s) (i := i)
    obtain ⟨-, -, -, -, -, -, -, -, -, g10⟩ := h.2.2.2.2 s hs'
    have ev := g10 i k (by omega) (by omega)
    refine ⟨V (366 + 75 * s + 3 * i + k), fun o J Q hQ => ?_, fun Q hQ => ?_⟩
    · unfold w_X10_did
      refine g1 o J _ ⟨fun c => absurd c (by decide), fun _ => ?_⟩
      simp only [lit, pk_mul, nI_add]
      rw [g0 (by omega)]
      exact ⟨inn (by omega) (by omega), hQ⟩
    · unfold w_X9_did
      refine g2 _ ⟨fun _ => ?_, fun c => absurd c (by decide)⟩
      simp only [lit, pk_mul, nI_add]
      rw [ixn (n := s) (by omega), show i * 2 + k = 2 * i + k by omega, ixn (by omega), show a + 60 + 3 * s + 2 = a + 3 + 59 + 3 * s by omega, ev]
      exact ⟨inn (by omega) (by omega), inn (by omega) (by omega), hQ⟩
def vSum (V : Nat → Int32) (s : Nat) : Nat → Nat
  | 0 => 0
  | k + 1 => vSum V s k + vMany V s k
theorem q_sum {s : Nat} (h : Rel (a + 3) I V) (hs' : s < 2) : (∀ (o : Nat) (J : MI) (Q : Int32 → Prop), Q (nI (vSum V s (ix (V 48) + 1))) → Lp2 (w_X10_side_l76 o (nI s) (kb J (o + 1) 0 V) Q) 0 0) ∧ ∀ Q : Int32 → Prop, Q (nI (vSum V s (ix (V 48) + 1))) → w_X2_deedsInAll (a + 4) (nI s) I Q := by
  obtain ⟨hsz, e48⟩ := size_lt h.1
  have e1 : I (a + 4) 1 = nI (ix (V 48)) := h.1.1.trans e48
  have m48 : ∀ (o : Nat) (J : MI), kb J (o + 1) 0 V (o + 1) (ix (48)) = nI (ix (V 48)) := fun o J => (g0 (k := 48) (by omega)).trans e48
  refine ⟨fun o J Q hQ => ?_, fun Q hQ => ?_⟩
  · refine Lp2.of (fun x y => ∃ k, k ≤ ix (V 48) + 1 ∧ x = nI (vSum V s k) ∧ y = nI k) (fun x y => 100 - ix y) ?_ _ _ ⟨0, by omega, rfl, rfl⟩
    rintro rec x y ⟨k, hk, rfl, rfl⟩ hrec
    unfold w_X10_side_l76
    rw [m48]
    refine ⟨fun c => ?_, fun c => ?_⟩
    · have := (nI_ltI (by omega) (by omega)).mp c
      have e : k = ix (V 48) + 1 := by omega
      rw [e]; exact hQ
    · have hlt : k ≤ ix (V 48) := by
        rcases Nat.lt_or_ge (ix (V 48)) k with q | q
        · exact absurd (nI_lt q (by omega)) c
        · exact q
      refine t_many (b := 0) h.1 (by omega) hs' hlt ?_
      rintro _ rfl
      refine hrec _ _ ⟨k + 1, by omega, by rw [nI_add]; rfl, nI_1 k⟩ ?_
      rw [nI_1, ixn (by omega), ixn (by omega)]; omega
  · unfold w_X2_deedsInAll
    refine Lp2.of (fun x y => ∃ k, k ≤ ix (V 48) + 1 ∧ x = nI (vSum V s k) ∧ y = nI k) (fun x y => 100 - ix y) ?_ _ _ ⟨0, by omega, rfl, rfl⟩
    rintro rec x y ⟨k, hk, rfl, rfl⟩ hrec
    unfold w_X2_deedsInAll_l4
    rw [e1]
    refine ⟨fun c => ?_, fun c => ?_⟩
    · have := (nI_ltI (by omega) (by omega)).mp c
      have e : k = ix (V 48) + 1 := by omega
      rw [e]; exact hQ
    · have hlt : k ≤ ix (V 48) := by
        rcases Nat.lt_or_ge (ix (V 48)) k with q | q
        · exact absurd (nI_lt q (by omega)) c
        · exact q
      refine k_deedsAt hs' hsz hlt e1 ?_
      have := h.2.1.2.1 s k hs' hlt
      rw [show a + 3 + 1 + 7 = a + 4 + 7 by omega] at this
      rw [this]
      rintro _ rfl
      refine hrec _ _ ⟨k + 1, by omega, by rw [nI_add]; rfl, nI_1 k⟩ ?_
      rw [nI_1, ixn (by omega), ixn (by omega)]; omega
end
