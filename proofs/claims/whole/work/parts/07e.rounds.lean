section
variable {p o i : Nat} {I J : MI} {V : Nat → Int32}
/-- the class's reach, found -/
theorem k_findReach {P : MI → Prop} (h : RelR p I V) (hP : ∀ I', (∀ c, c ≠ p + 8 → I' c = I c) → (∀ i, i < ix (V 48) → I' (p + 8) i = nI (wR (nxN V) (ix (V 48)) i)) → P I') : w_X2_findReach p I P := by
  obtain ⟨hsz, e48⟩ := size_lt h
  have e1 : ∀ I' : MI, (∀ c, c ≠ p + 8 → I' c = I c) → I' p 1 = nI (ix (V 48)) := fun I' hI => by rw [hI _ (by omega), h.1]; exact e48
  have fb : ∀ i, nxN V i < 2 ^ 25 := fun i => nx_bd h
  have wb : ∀ t i, wR (nxN V) t i < 33554432 := fun t i => wR_bd fb t i
  unfold w_X2_findReach
  refine Lp2.of (fun x I' => ∃ k, k ≤ ix (V 48) ∧ x = nI k ∧ (∀ c, c ≠ p + 8 → I' c = I c) ∧ ∀ i, i < k → I' (p + 8) i = nI (nxN V i)) (fun x _ => 30 - ix x) ?_ _ _ ⟨0, by omega, rfl, fun _ _ => rfl, fun i hi => by omega⟩
  rintro rec x I' ⟨k, hk, rfl, b1, b2⟩ hrec
  unfold w_X2_findReach_l2
  rw [e1 I' b1]
  refine ⟨fun c => ?_, fun c => ?_⟩
  · have := (nI_leI (by omega) (by omega)).mp c
    have e : k = ix (V 48) := by omega
    subst e
    refine Lp2.of (fun x I' => ∃ t, t ≤ ix (V 48) ∧ x = nI t ∧ (∀ c, c ≠ p + 8 → I' c = I c) ∧ ∀ i, i < ix (V 48) → I' (p + 8) i = nI (wR (nxN V) t i)) (fun x _ => 30 - ix x) ?_ _ _ ⟨0, by omega, rfl, b1, b2⟩
    rintro rec x I2 ⟨t, ht, rfl, d1, d2⟩ hrec
    unfold w_X2_findReach_l29
    rw [e1 I2 d1]
    refine ⟨fun c => ?_, fun c => ?_⟩
    · have := (nI_leI (by omega) (by omega)).mp c
      have e : t = ix (V 48) := by omega
      subst e
      exact hP I2 d1 d2
    · have hlt : t < ix (V 48) := Nat.not_le.mp fun q => c (nI_le q (by omega))
      refine Lp2.of (fun x I3 => ∃ j, j ≤ ix (V 48) ∧ x = nI j ∧ (∀ c, c ≠ p + 8 → I3 c = I c) ∧ ∀ i, i < ix (V 48) → I3 (p + 8) i = nI (if i < j then wR (nxN V) (t + 1) i else wR (nxN V) t i)) (fun x _ => 30 - ix x) ?_ _ _ ⟨0, by omega, rfl, d1, fun i hi => by rw [if_neg (by omega)]; exact d2 i hi⟩
      rintro rec2 x I3 ⟨j, hj, rfl, g1, g2⟩ hrec2
      unfold w_X2_findReach_l39
      rw [e1 I3 g1]
      refine ⟨fun c2 => ?_, fun c2 => ?_⟩
      · have := (nI_leI (by omega) (by omega)).mp c2
        have e : j = ix (V 48) := by omega
        subst e
        exact hrec _ _ ⟨t + 1, by omega, nI_1 t, g1, fun i hi => by rw [g2 i hi, if_pos hi]⟩ (by rw [nI_1, ixn (by omega), ixn (by omega)]; omega)
      · have hj2 : j < ix (V 48) := Nat.not_le.mp fun q => c2 (nI_le q (by omega))
        have dec : 30 - ix (nI j + 1) < 30 - ix (nI j) := by rw [nI_1, ixn (by omega), ixn (by omega)]; omega
        have ej : I3 (p + 8) j = nI (wR (nxN V) t j) := by rw [g2 j hj2, if_neg (by omega)]
        have et : I3 (p + 8) t = nI (wR (nxN V) t t) := by
          rw [g2 t hlt]
          split
          · show nI (wsh (wR (nxN V) t) t t) = _
            unfold wsh
            split
            · rw [Nat.or_self]
            · rfl
          · rfl
        rw [ixn (n := j) (by omega), ixn (n := t) (by omega), ej, et]
        refine ⟨inn (by omega) (by omega), k_isIn ?_⟩
        have b1' := wb t j
        rw [hsN (by omega) (by omega)]
        by_cases g : (wR (nxN V) t j).testBit t = true
        · rw [if_pos g]
          refine ⟨fun q => absurd q (by decide), fun _ => ⟨inn (by omega) (by omega), inn (by omega) (by omega), inn (by omega) (by omega), ?_⟩⟩
          rintro _ rfl
          refine hrec2 _ _ ⟨j + 1, by omega, nI_1 j, fun c hc => by rw [ui_ne _ _ _ hc]; exact g1 c hc, fun i hi => ?_⟩ dec
          by_cases e : i = j
          · subst e
            rw [ui_gs, if_pos (by omega), nI_or]
            show _ = nI (wsh (wR (nxN V) t) t i)
            unfold wsh
            rw [if_pos g]
          · rw [ui_gj _ _ _ e, g2 i hi]
            by_cases q : i < j
            · rw [if_pos q, if_pos (by omega)]
            · rw [if_neg q, if_neg (by omega)]
        · rw [if_neg g]
          refine ⟨fun _ => hrec2 _ _ ⟨j + 1, by omega, nI_1 j, g1, fun i hi => ?_⟩ dec, fun q => absurd rfl q⟩
          by_cases e : i = j
          · subst e
            rw [g2 i hi, if_neg (by omega), if_pos (by omega)]
            show _ = nI (wsh (wR (nxN V) t) t i)
            unfold wsh
            rw [if_neg g]
          · rw [g2 i hi]
            by_cases q : i < j
            · rw [if_pos q, if_pos (by omega)]
            · rw [if_neg q, if_neg (by omega)]
  · have hlt : k < ix (V 48) := Nat.not_le.mp fun q => c (nI_le q (by omega))
    refine k_followers h hlt b1 ?_
    rw [ixn (by omega)]
    refine ⟨inn (by omega) (by omega), ?_⟩
    rintro _ rfl
    refine hrec _ _ ⟨k + 1, by omega, nI_1 k, fun c hc => by rw [ui_ne _ _ _ hc]; exact b1 c hc, fun i hi => ?_⟩ (by rw [nI_1, ixn (by omega), ixn (by omega)]; omega)
    by_cases e : i = k
    · subst e; rw [ui_gs]
    · rw [ui_gj _ _ _ e]; exact b2 i (by omega)
/-- a set by what is in it -/
def Bits (S n : Nat) (D : Nat → Prop) : Prop := S < 2 ^ n ∧ ∀ j, S.testBit j = true ↔ (j < n ∧ D j)
theorem Bits.uq {S S' n : Nat} {D D' : Nat → Prop} (h : Bits S n D) (h' : Bits S' n D') (hD : ∀ j, j < n → (D j ↔ D' j)) : S = S' := Nat.eq_of_testBit_eq (fun j => by
  by_cases q : S.testBit j = true
  · have a := (h.2 j).mp q
    rw [q, (h'.2 j).mpr ⟨a.1, (hD j a.1).mp a.2⟩]
  · by_cases q2 : S'.testBit j = true
    · have a := (h'.2 j).mp q2
      exact absurd ((h.2 j).mpr ⟨a.1, (hD j a.1).mpr a.2⟩) q
    · rw [Bool.not_eq_true] at q q2; rw [q, q2])
theorem Bits.zero {n : Nat} : Bits 0 n (fun _ => False) := ⟨Nat.two_pow_pos _, fun j => by rw [Nat.zero_testBit]; exact ⟨fun c => absurd c (by decide), fun c => c.2.elim⟩⟩
theorem Bits.or {S S' n : Nat} {D D' : Nat → Prop} (h : Bits S n D) (h' : Bits S' n D') : Bits (S ||| S') n (fun j => D j ∨ D' j) := ⟨Nat.or_lt_two_pow h.1 h'.1, fun j => by
  rw [Nat.testBit_or, Bool.or_eq_true, h.2 j, h'.2 j]
  exact ⟨fun q => q.elim (fun q => ⟨q.1, Or.inl q.2⟩) (fun q => ⟨q.1, Or.inr q.2⟩), fun q => q.2.elim (fun r => Or.inl ⟨q.1, r⟩) (fun r => Or.inr ⟨q.1, r⟩)⟩⟩
theorem Bits.one {n k : Nat} (hk : k < n) : Bits (2 ^ k) n (fun j => j = k) := ⟨Nat.pow_lt_pow_right (by omega) hk, fun j => by
  rw [Nat.testBit_two_pow, decide_eq_true_iff]
  exact ⟨fun e => ⟨by omega, e.symm⟩, fun e => e.2.symm⟩⟩
theorem Bits.cg {S n : Nat} {D D' : Nat → Prop} (h : Bits S n D) (hD : ∀ j, j < n → (D j ↔ D' j)) : Bits S n D' := ⟨h.1, fun j => (h.2 j).trans ⟨fun q => ⟨q.1, (hD j q.1).mp q.2⟩, fun q => ⟨q.1, (hD j q.1).mpr q.2⟩⟩⟩
/-- the round that i is in -/
def Rnd (V : Nat → Int32) (i j : Nat) : Prop := RC (ix (V 48)) (nxN V) i j ∧ RC (ix (V 48)) (nxN V) j i
theorem k_roundOf {Q : Int32 → Prop} (h : RelR p I V) (hi : i < ix (V 48)) {I' : MI} (hI : ∀ c, c ≠ p + 8 → I' c = I c) (hw : ∀ i, i < ix (V 48) → I' (p + 8) i = nI (wR (nxN V) (ix (V 48)) i)) (hQ : ∀ S, Bits S (ix (V 48)) (Rnd V i) → Q (nI S)) : w_X2_roundOf p (nI i) I' Q := by
  obtain ⟨hsz, e48⟩ := size_lt h
  have e1 : I' p 1 = nI (ix (V 48)) := by rw [hI _ (by omega), h.1]; exact e48
  have fb : ∀ i, nxN V i < 2 ^ 25 := fun i => nx_bd h
  have wb : ∀ i, wR (nxN V) (ix (V 48)) i < 33554432 := fun i => wR_bd fb _ i
  unfold w_X2_roundOf
  refine Lp2.of (fun x y => ∃ S k, k ≤ ix (V 48) ∧ x = nI S ∧ y = nI k ∧ Bits S (ix (V 48)) (fun j => j < k ∧ Rnd V i j)) (fun _ y => 30 - ix y) ?_ _ _ ⟨0, 0, by omega, rfl, rfl, Bits.zero.cg (fun j _ => ⟨fun c => c.elim, fun c => by omega⟩)⟩
  rintro rec x y ⟨S, k, hk, rfl, rfl, hB⟩ hrec
  unfold w_X2_roundOf_l4
  rw [e1]
  refine ⟨fun c => ?_, fun c => ?_⟩
  · have := (nI_leI (by omega) (by omega)).mp c
    have e : k = ix (V 48) := by omega
    subst e
    exact hQ S (hB.cg (fun j hj => ⟨fun q => q.2, fun q => ⟨hj, q⟩⟩))
  · have hlt : k < ix (V 48) := Nat.not_le.mp fun q => c (nI_le q (by omega))
    have dec : 30 - ix (nI k + 1) < 30 - ix (nI k) := by rw [nI_1, ixn (by omega), ixn (by omega)]; omega
    have hno : ¬ Rnd V i k → rec (nI S) (nI k + 1) := fun hn => hrec _ _ ⟨S, k + 1, by omega, rfl, nI_1 k, hB.cg (fun j hj => ⟨fun q => ⟨by omega, q.2⟩, fun q => ⟨by
      rcases Nat.lt_or_ge j k with r | r
      · exact r
      · have : j = k := by omega
        subst this; exact absurd q.2 hn, q.2⟩⟩)⟩ dec
    rw [ixn (n := i) (by omega), ixn (n := k) (by omega), hw i hi, hw k hlt]
    refine ⟨inn (by omega) (by omega), k_isIn ?_⟩
    have b1 := wb i
    have b2 := wb k
    rw [hsN (by omega) (by omega)]
    by_cases g : (wR (nxN V) (ix (V 48)) i).testBit k = true
    · rw [if_pos g]
      refine ⟨fun q => absurd q (by decide), fun _ => ⟨inn (by omega) (by omega), k_isIn ?_⟩⟩
      rw [hsN (by omega) (by omega)]
      by_cases g2 : (wR (nxN V) (ix (V 48)) k).testBit i = true
      · rw [if_pos g2]
        refine ⟨fun q => absurd q (by decide), fun _ => ?_⟩
        unfold w_X9_bit
        rintro _ rfl
        rw [bitN _ (by omega), nI_or]
        refine hrec _ _ ⟨_, k + 1, by omega, rfl, nI_1 k, (hB.or (Bits.one hlt)).cg (fun j hj => ?_)⟩ dec
        constructor
        · rintro (q | q)
          · exact ⟨by omega, q.2⟩
          · subst q; exact ⟨by omega, wR_iff.mp g, wR_iff.mp g2⟩
        · rintro ⟨q1, q2⟩
          by_cases e : j = k
          · exact Or.inr e
          · exact Or.inl ⟨by omega, q2⟩
      · rw [if_neg g2]
        exact ⟨fun _ => hno (fun q => g2 (wR_iff.mpr q.2)), fun q => absurd rfl q⟩
    · rw [if_neg g]
      exact ⟨fun _ => hno (fun q => g (wR_iff.mpr q.1)), fun q => absurd rfl q⟩
/-- where the runner loses what he is ahead -/
def Los (V : Nat → Int32) (i : Nat) : Prop := ¬ vMany V 0 i = 0 ∧ (vDeed V 0 i (vMany V 0 i - 1) = 12 ∨ vDeed V 0 i (vMany V 0 i - 1) = 3)
theorem los_kind (h : RelR p I V) (hi : i < ix (V 48)) {d : Int32} (hd : DC0 V i d) : (cKind (vOp V i) d = 18 ↔ d = 12) ∧ (cKind (vOp V i) d = 10 ↔ d = 3) ∧ (irm d 16 = 12 ↔ d = 12) ∧ (irm d 16 = 3 ↔ d = 3) := by
  have red : ∀ r, r < 8 → irm (nI (1 + 16 * r)) 16 = 1 := fun r hr => by
    show nI (1 + 16 * r) - nI (1 + 16 * r) / 16 * 16 = 1
    rw [show nI (1 + 16 * r) - nI (1 + 16 * r) / 16 * 16 = nI ((1 + 16 * r) % 16) from rem_nI (d := 16) (by omega) (by omega) (by omega), show (1 + 16 * r) % 16 = 1 by omega]; rfl
  have ck : ∀ (op : Int32) (r : Nat), r < 8 → cKind op (nI (1 + 16 * r)) = 9 := fun op r hr => by
    have ne : ∀ z : Nat, 2 ≤ z → z ≤ 14 → ¬ nI (1 + 16 * r) = nI z := fun z h1 h2 c => by have := nI_inj (by omega) (by omega) c; omega
    have n2 : ¬ nI (1 + 16 * r) = 2 := ne 2 (by omega) (by omega)
    have n3 : ¬ nI (1 + 16 * r) = 3 := ne 3 (by omega) (by omega)
    have n4 : ¬ nI (1 + 16 * r) = 4 := ne 4 (by omega) (by omega)
    have n5 : ¬ nI (1 + 16 * r) = 5 := ne 5 (by omega) (by omega)
    have n6 : ¬ nI (1 + 16 * r) = 6 := ne 6 (by omega) (by omega)
    have n7 : ¬ nI (1 + 16 * r) = 7 := ne 7 (by omega) (by omega)
    have n8 : ¬ nI (1 + 16 * r) = 8 := ne 8 (by omega) (by omega)
    have n9 : ¬ nI (1 + 16 * r) = 9 := ne 9 (by omega) (by omega)
    have n10 : ¬ nI (1 + 16 * r) = 10 := ne 10 (by omega) (by omega)
    have n11 : ¬ nI (1 + 16 * r) = 11 := ne 11 (by omega) (by omega)
    have n12 : ¬ nI (1 + 16 * r) = 12 := ne 12 (by omega) (by omega)
    have n13 : ¬ nI (1 + 16 * r) = 13 := ne 13 (by omega) (by omega)
    have n14 : ¬ nI (1 + 16 * r) = 14 := ne 14 (by omega) (by omega)
    unfold cKind
    rw [if_neg n2, if_neg n3, if_neg n4, if_neg n5, if_neg n6, if_neg n7, if_neg n8, if_neg n9, if_neg n10, if_neg n11, if_neg n12, if_neg n13, if_neg n14]
  rcases hd with ⟨rfl, e⟩ | ⟨rfl, e⟩ | ⟨rfl, e⟩ | ⟨rfl, e⟩ | ⟨r, hr, rfl, -⟩ | ⟨rfl, e⟩ | ⟨rfl, e⟩ | ⟨rfl, e⟩ | ⟨rfl, e⟩ | ⟨rfl, e⟩
  · rw [e]; decide
  · rw [e]; decide
  · rw [e]; decide
  · rw [e]; decide
  · rw [ck _ r hr, red r hr]
    have n12 : ¬ nI (1 + 16 * r) = 12 := fun c => by have := nI_inj (b := 12) (by omega) (by omega) c; omega
    have n3 : ¬ nI (1 + 16 * r) = 3 := fun c => by have := nI_inj (b := 3) (by omega) (by omega) c; omega
    exact ⟨⟨fun c => absurd c (by decide), fun c => absurd c n12⟩, ⟨fun c => absurd c (by decide), fun c => absurd c n3⟩, ⟨fun c => absurd c (by decide), fun c => absurd c n12⟩, ⟨fun c => absurd c (by decide), fun c => absurd c n3⟩⟩
  · rw [e]; decide
  · rw [e]; decide
  · rcases e with e | e | e | e <;> rw [e] <;> decide
  · rw [e]; decide
  · rw [e]; decide
theorem los_dc (h : RelR p I V) (hi : i < ix (V 48)) (hm : ¬ vMany V 0 i = 0) : DC0 V i (vDeed V 0 i (vMany V 0 i - 1)) := by
  have hle := vMany_le (V := V) (s := 0) (i := i)
  have hne := (vMany_iff h (s := 0) (i := i) (k := vMany V 0 i - 1) (by omega) (by omega) (by omega)).mp (by omega)
  exact (dc0 h (by omega)).resolve_left hne
theorem t_isLosing {Q : Int32 → Prop} (h : RelR p I V) (hi : i < ix (V 48)) (h1 : Los V i → Q 1) (h0 : ¬ Los V i → Q 0) : w_X10_isLosing o (nI i) (kb J (o + 1) 0 V) Q := by
  obtain ⟨hsz, e48⟩ := size_lt h
  have hle := vMany_le (V := V) (s := 0) (i := i)
  unfold w_X10_isLosing
  refine t_many (b := 0) (s := 0) h (by omega) (by omega) (by omega) ⟨fun c => ?_, fun c => ?_⟩
  · have hm : ¬ vMany V 0 i = 0 := fun q => c (by rw [q]; rfl)
    rw [show nI (vMany V 0 i) - 1 = nI (vMany V 0 i - 1) from nI_sub (z := 1) (by omega)]
    refine t_deed (b := 0) (side := 0) (by omega) (by omega) (by omega) (by omega) ?_
    obtain ⟨-, -, k12, k3⟩ := los_kind h hi (los_dc h hi hm)
    unfold w_X10_isLosing_p29
    refine ⟨fun q => h1 ⟨hm, Or.inl (k12.mp q)⟩, fun q => ⟨fun q2 => h0 (fun l => ?_), fun q2 => h1 ⟨hm, Or.inr (k3.mp q2)⟩⟩⟩
    exact l.2.elim (fun e => q (k12.mpr e)) (fun e => q2 (k3.mpr e))
  · have hm : vMany V 0 i = 0 := (nI_z (by omega)).mp c
    unfold w_X10_isLosing_p29
    exact ⟨fun q => absurd q (by decide), fun _ => ⟨fun _ => h0 (fun l => l.1 hm), fun q => absurd q (by decide)⟩⟩
theorem k_loses {Q : Int32 → Prop} (h : RelR p I V) (hD : RelD p I V) (hi : i < ix (V 48)) {I' : MI} (hI : ∀ c, c ≠ p + 8 → I' c = I c) (h1 : Los V i → Q 1) (h0 : ¬ Los V i → Q 0) : w_X2_loses p (nI i) I' Q := by
  obtain ⟨hsz, e48⟩ := size_lt h
  have hle := vMany_le (V := V) (s := 0) (i := i)
  obtain ⟨g1, g2, g3, g4⟩ := hD
  unfold w_X2_loses
  refine k_deedsAt (s := 0) (n := ix (V 48)) (by omega) hsz (by omega) (by rw [hI _ (by omega), h.1]; exact e48) ?_
  have e7 : I' (p + 7) (25 * 0 + i) = nI (vMany V 0 i) := by rw [hI _ (by omega)]; exact g2 0 i (by omega) (by omega)
  rw [e7]
  rintro _ rfl
  by_cases hm : vMany V 0 i = 0
  · rw [hm]
    exact ⟨fun c => absurd c (by decide), fun _ => h0 (fun l => l.1 hm)⟩
  · rw [show nI (vMany V 0 i) - 1 = nI (vMany V 0 i - 1) from nI_sub (z := 1) (by omega)]
    refine ⟨fun _ => k_kindOf (s := 0) (by omega) (by omega) (by omega) ?_, fun c => absurd (nI_pos' (by omega)) c⟩
    have e5 : I' (p + 5) (2 * (25 * 0 + i) + (vMany V 0 i - 1)) = cKind (vOp V i) (vDeed V 0 i (vMany V 0 i - 1)) := by rw [hI _ (by omega)]; exact g3 0 i _ (by omega) (by omega) (by omega)
    rw [e5]
    obtain ⟨k12, k3, -, -⟩ := los_kind h hi (los_dc h hi hm)
    refine ⟨fun q => h1 ⟨hm, Or.inl (k12.mp q)⟩, fun q => ⟨fun q2 => h0 (fun l => ?_), fun q2 => h1 ⟨hm, Or.inr (k3.mp q2)⟩⟩⟩
    exact l.2.elim (fun e => q (k12.mpr e)) (fun e => q2 (k3.mpr e))
end
