section
variable {p o i w : Nat} {I J : MI} {V : Nat → Int32}
def RdC (V : Nat → Int32) (w i j : Nat) : Prop := Rnd V i j ∧ (w = 0 ∨ (w = 1 ∧ Los V i) ∨ (w = 2 ∧ Los V i ∧ j = i))
def RdM (V : Nat → Int32) (w j : Nat) : Prop := RC (ix (V 48)) (nxN V) j j ∧ (w = 0 ∨ Los V j ∨ (w = 1 ∧ ∃ k, k < ix (V 48) ∧ Los V k ∧ Rnd V j k))
theorem Rnd.sw {j : Nat} (h : Rnd V i j) : Rnd V j i := ⟨h.2, h.1⟩
theorem rd_iff {j : Nat} (hw : w ≤ 2) (hj : j < ix (V 48)) : (∃ i, i < ix (V 48) ∧ RdC V w i j) ↔ RdM V w j := by
  have self : ∀ {i}, i < ix (V 48) → Rnd V i j → RC (ix (V 48)) (nxN V) j j := fun hi h => h.2.tr hi h.1
  constructor
  · rintro ⟨i, hi, hr, hc⟩
    refine ⟨self hi hr, ?_⟩
    rcases hc with c | ⟨c, l⟩ | ⟨c, l, e⟩
    · exact Or.inl c
    · exact Or.inr (Or.inr ⟨c, i, hi, l, hr.sw⟩)
    · subst e; exact Or.inr (Or.inl l)
  · rintro ⟨h1, h2⟩
    by_cases w0 : w = 0
    · exact ⟨j, hj, ⟨h1, h1⟩, Or.inl w0⟩
    · rcases h2 with c | l | ⟨c, k, hk, l, hr⟩
      · exact absurd c w0
      · by_cases w1 : w = 1
        · exact ⟨j, hj, ⟨h1, h1⟩, Or.inr (Or.inl ⟨w1, l⟩)⟩
        · exact ⟨j, hj, ⟨h1, h1⟩, Or.inr (Or.inr ⟨by omega, l, rfl⟩)⟩
      · exact ⟨k, hk, hr.sw, Or.inr (Or.inl ⟨c, l⟩)⟩
theorem nI_and (a b : Nat) : nI a &&& nI b = nI (a &&& b) := by
  refine Int32.toBitVec_inj.mp ?_
  rw [Int32.toBitVec_and]
  exact (BitVec.ofNat_and ..).symm
theorem k_roundBits {P : Int32 → MI → Prop} (hw : w ≤ 2) (h : RelR p I V) (hD : RelD p I V) (hP : ∀ S I', (∀ c, c ≠ p + 8 → I' c = I c) → Bits S (ix (V 48)) (RdM V w) → P (nI S) I') : w_X2_roundBits p (nI w) I P := by
  obtain ⟨hsz, e48⟩ := size_lt h
  unfold w_X2_roundBits
  refine ⟨fun c => absurd c (nI_pos (by omega)), fun _ => ⟨fun _ => ?_, fun c => absurd (nI_le (b := 2) hw (by omega)) c⟩⟩
  refine k_findReach h (fun I' hI hR => ?_)
  have e1 : I' p 1 = nI (ix (V 48)) := by rw [hI _ (by omega), h.1]; exact e48
  refine Lp2.of (fun x y => ∃ S k, k ≤ ix (V 48) ∧ x = nI S ∧ y = nI k ∧ Bits S (ix (V 48)) (fun j => ∃ i, i < k ∧ RdC V w i j)) (fun _ y => 30 - ix y) ?_ _ _ ⟨0, 0, by omega, rfl, rfl, Bits.zero.cg (fun j _ => ⟨fun c => c.elim, fun ⟨i, hi, _⟩ => by omega⟩)⟩
  rintro rec x y ⟨S, k, hk, rfl, rfl, hB⟩ hrec
  unfold w_X2_roundBits_l20
  rw [e1]
  refine ⟨fun c => ?_, fun c => ?_⟩
  · have := (nI_leI (by omega) (by omega)).mp c
    have e : k = ix (V 48) := by omega
    subst e
    exact hP S I' hI (hB.cg (fun j hj => rd_iff hw hj))
  · have hlt : k < ix (V 48) := Nat.not_le.mp fun q => c (nI_le q (by omega))
    have dec : 30 - ix (nI k + 1) < 30 - ix (nI k) := by rw [nI_1, ixn (by omega), ixn (by omega)]; omega
    have more : ∀ S' (D' : Nat → Prop), Bits S' (ix (V 48)) D' → (∀ j, j < ix (V 48) → (D' j ↔ RdC V w k j)) → rec (nI S ||| nI S') (nI k + 1) := fun S' D' h1 h2 => by
      rw [nI_or]
      refine hrec _ _ ⟨_, k + 1, by omega, rfl, nI_1 k, (hB.or h1).cg (fun j hj => ?_)⟩ dec
      constructor
      · rintro (⟨i, hi, q⟩ | q)
        · exact ⟨i, by omega, q⟩
        · exact ⟨k, by omega, (h2 j hj).mp q⟩
      · rintro ⟨i, hi, q⟩
        by_cases e : i = k
        · subst e; exact Or.inr ((h2 j hj).mpr q)
        · exact Or.inl ⟨i, by omega, q⟩
    have none : (∀ j, ¬ RdC V w k j) → rec (nI S) (nI k + 1) := fun h1 => by
      refine hrec _ _ ⟨S, k + 1, by omega, rfl, nI_1 k, hB.cg (fun j hj => ?_)⟩ dec
      constructor
      · rintro ⟨i, hi, q⟩; exact ⟨i, by omega, q⟩
      · rintro ⟨i, hi, q⟩
        by_cases e : i = k
        · subst e; exact absurd q (h1 j)
        · exact ⟨i, by omega, q⟩
    refine k_roundOf h hlt hI hR (fun R hBR => ⟨fun c0 => k_loses h hD hlt hI (fun l => ⟨fun q => absurd q (by decide), fun _ => ⟨fun c1 => ?_, fun c1 => ?_⟩⟩) (fun l => ⟨fun _ => none ?_, fun q => absurd rfl q⟩), fun c0 => ?_⟩)
    · unfold w_X9_bit
      rintro _ rfl
      have w0 : w ≠ 0 := fun e => c0 (by rw [e]; rfl)
      have w1 : w ≠ 1 := fun e => c1 (by rw [e]; rfl)
      rw [bitN _ (by omega), nI_and]
      have b1 := Bits.one hlt
      refine more (R &&& 2 ^ k) (fun j => Rnd V k j ∧ j = k) ⟨Nat.lt_of_le_of_lt Nat.and_le_left hBR.1, fun j => ?_⟩ (fun j hj => ⟨fun q => ⟨q.1, Or.inr (Or.inr ⟨by omega, l, q.2⟩)⟩, fun q => ⟨q.1, ?_⟩⟩)
      · rw [Nat.testBit_and, Bool.and_eq_true, hBR.2 j, b1.2 j]
        exact ⟨fun q => ⟨q.1.1, q.1.2, q.2.2⟩, fun q => ⟨⟨q.1, q.2.1⟩, q.1, q.2.2⟩⟩
      · rcases q.2 with e | ⟨e, _⟩ | ⟨_, _, e⟩
        · exact absurd e w0
        · exact absurd e w1
        · exact e
    · rintro _ rfl
      have w1 : w = 1 := nI_inj (b := 1) (by omega) (by omega) c1
      exact more R _ hBR (fun j hj => ⟨fun q => ⟨q, Or.inr (Or.inl ⟨w1, l⟩)⟩, fun q => q.1⟩)
    · have w0 : w ≠ 0 := fun e => c0 (by rw [e]; rfl)
      rintro j ⟨q1, q2⟩
      rcases q2 with e | ⟨_, e⟩ | ⟨_, e, _⟩
      · exact w0 e
      · exact l e
      · exact l e
    · rintro _ rfl
      have w0 : w = 0 := (nI_z (by omega)).mp c0
      exact more R _ hBR (fun j hj => ⟨fun q => ⟨q, Or.inl w0⟩, fun q => q.1⟩)
theorem t_rounds {Q : Int32 → Prop} (hw : w ≤ 2) (h : RelR p I V) (hQ : ∀ S, Bits S (ix (V 48)) (RdM V w) → Q (nI S)) : w_X10_rounds o (nI w) (kb J (o + 1) 0 V) Q := by
  obtain ⟨hsz, e48⟩ := size_lt h
  unfold w_X10_rounds
  refine t_isIn1 (lo := 0) (hi := 2) (by omega) hw (by omega) ⟨fun _ => ?_, fun c => absurd c (by decide)⟩
  refine Lp2.of (fun x y => ∃ S k, k ≤ ix (V 48) ∧ x = nI S ∧ y = nI k ∧ Bits S (ix (V 48)) (fun j => j < k ∧ RdM V w j)) (fun _ y => 30 - ix y) ?_ _ _ ⟨0, 0, by omega, rfl, rfl, Bits.zero.cg (fun j _ => ⟨fun c => c.elim, fun c => by omega⟩)⟩
  rintro rec x y ⟨S, k, hk, rfl, rfl, hB⟩ hrec
  unfold w_X10_rounds_l16
  rw [g48]
  refine ⟨fun c => ?_, fun c => ?_⟩
  · rw [e48] at c
    have := (nI_leI (by omega) (by omega)).mp c
    have e : k = ix (V 48) := by omega
    subst e
    exact hQ S (hB.cg (fun j hj => ⟨fun q => q.2, fun q => ⟨hj, q⟩⟩))
  · have hlt : k < ix (V 48) := Nat.not_le.mp fun q => c (by rw [e48]; exact nI_le q (by omega))
    have dec : 30 - ix (nI k + 1) < 30 - ix (nI k) := by rw [nI_1, ixn (by omega), ixn (by omega)]; omega
    have no : ¬ RdM V w k → rec (nI S) (nI k + 1) := fun hn => hrec _ _ ⟨S, k + 1, by omega, rfl, nI_1 k, hB.cg (fun j hj => ⟨fun q => ⟨by omega, q.2⟩, fun q => ⟨by
      rcases Nat.lt_or_ge j k with r | r
      · exact r
      · have : j = k := by omega
        subst this; exact absurd q.2 hn, q.2⟩⟩)⟩ dec
    have yes : RdM V w k → rec (nI S ||| nI (2 ^ k)) (nI k + 1) := fun hy => by
      rw [nI_or]
      refine hrec _ _ ⟨_, k + 1, by omega, rfl, nI_1 k, (hB.or (Bits.one hlt)).cg (fun j hj => ?_)⟩ dec
      constructor
      · rintro (q | q)
        · exact ⟨by omega, q.2⟩
        · subst q; exact ⟨by omega, hy⟩
      · rintro ⟨q1, q2⟩
        by_cases e : j = k
        · exact Or.inr e
        · exact Or.inl ⟨by omega, q2⟩
    refine t_reach h hlt (fun R hR hRj => t_has ?_)
    have hR' : R < 16777216 := hR
    rw [hsN (by omega) (by omega)]
    by_cases g : R.testBit k = true
    · have hkk := (hRj k hlt).mp g
      rw [if_pos g]
      -- the inner way
      have inner : ∀ b : Int32, (b = 0 ∨ b = 1) → (b = 1 ↔ (w = 0 ∨ Los V k)) → Lp2 (w_X10_rounds_l64 o (nI w) (nI S) (nI k) (kb J (o + 1) 0 V) (fun x4_21 x5_22 => w_X10_rounds_p134 o (nI w) (nI S) (nI k) x4_21 (kb J (o + 1) 0 V) rec Q) Q) b 0 := fun b hb hbi => by
        have fin : ∀ b : Int32, (b = 0 ∨ b = 1) → (b = 1 ↔ RdM V w k) → w_X10_rounds_p134 o (nI w) (nI S) (nI k) b (kb J (o + 1) 0 V) rec Q := fun b hb hbi => by
          unfold w_X10_rounds_p134
          rw [bitN _ (by omega)]
          refine ⟨fun e => ?_, fun e => ?_⟩
          · rintro _ rfl
            rw [show nI S ||| 0 = nI S from (nI_or S 0).trans (by rw [Nat.or_zero])]
            exact no (fun q => absurd (e.symm.trans (hbi.mpr q)) (by decide))
          · rintro _ rfl
            exact yes (hbi.mp (hb.resolve_left e))
        refine Lp2.of (fun x4 x5 => ∃ m, m ≤ ix (V 48) ∧ x5 = nI m ∧ (x4 = 0 ∨ x4 = 1) ∧ (x4 = 1 ↔ ((w = 0 ∨ Los V k) ∨ (w = 1 ∧ ∃ j, j < m ∧ Los V j ∧ Rnd V k j)))) (fun _ x5 => 30 - ix x5) ?_ _ _ ⟨0, by omega, rfl, hb, hbi.trans ⟨Or.inl, fun q => q.elim id (fun q => by obtain ⟨_, j, hj, _⟩ := q; omega)⟩⟩
        rintro rec2 x4 x5 ⟨m, hm, rfl, hx, hxi⟩ hrec2
        unfold w_X10_rounds_l64
        rw [g48]
        have dec2 : 30 - ix (nI m + 1) < 30 - ix (nI m) ∨ ¬ m < ix (V 48) := by
          by_cases q : m < ix (V 48)
          · left; rw [nI_1, ixn (by omega), ixn (by omega)]; omega
          · exact Or.inr q
        refine ⟨fun c => ?_, fun c => ⟨fun n1 => ?_, fun c1 => ?_⟩⟩
        · rw [e48] at c
          have := (nI_leI (by omega) (by omega)).mp c
          have e : m = ix (V 48) := by omega
          subst e
          refine fin x4 hx (hxi.trans ⟨fun q => ⟨hkk, q.elim (fun q => q.elim Or.inl (fun l => Or.inr (Or.inl l))) (fun q => Or.inr (Or.inr q))⟩, fun q => q.2.elim (fun e => Or.inl (Or.inl e)) (fun q => q.elim (fun l => Or.inl (Or.inr l)) Or.inr)⟩)
        · have w1 : w ≠ 1 := fun e => n1 (by rw [e]; rfl)
          refine fin x4 hx (hxi.trans ⟨fun q => ⟨hkk, q.elim (fun q => q.elim Or.inl (fun l => Or.inr (Or.inl l))) (fun q => absurd q.1 w1)⟩, fun q => q.2.elim (fun e => Or.inl (Or.inl e)) (fun q => q.elim (fun l => Or.inl (Or.inr l)) (fun q => absurd q.1 w1))⟩)
        · have w1 : w = 1 := nI_inj (b := 1) (by omega) (by omega) c1
          have hml : m < ix (V 48) := Nat.not_le.mp fun q => c (by rw [e48]; exact nI_le q (by omega))
          have dec2 := dec2.resolve_right (fun q => q hml)
          have nx : ∀ b : Int32, (b = 0 ∨ b = 1) → (b = 1 ↔ ((w = 0 ∨ Los V k) ∨ (w = 1 ∧ ∃ j, j < m + 1 ∧ Los V j ∧ Rnd V k j))) → rec2 b (nI m + 1) := fun b hb hbi => hrec2 _ _ ⟨m + 1, by omega, nI_1 m, hb, hbi⟩ dec2
          refine ⟨fun e => nx 1 (Or.inr rfl) ⟨fun _ => ?_, fun _ => rfl⟩, fun e => ?_⟩
          · exact (hxi.mp (hx.resolve_left e)).imp id (fun q => ⟨q.1, by obtain ⟨j, hj, r⟩ := q.2; exact ⟨j, by omega, r⟩⟩)
          · have hno : ¬ ((w = 0 ∨ Los V k) ∨ (w = 1 ∧ ∃ j, j < m ∧ Los V j ∧ Rnd V k j)) := fun q => absurd (e.symm.trans (hxi.mpr q)) (by decide)
            have stay : (¬ (Los V m ∧ Rnd V k m)) → rec2 0 (nI m + 1) := fun hn => nx 0 (Or.inl rfl) ⟨fun q => absurd q (by decide), fun q => by
              exfalso
              rcases q with q | ⟨q1, j, hj, l, r⟩
              · exact hno (Or.inl q)
              · by_cases ej : j = m
                · subst ej; exact hn ⟨l, r⟩
                · exact hno (Or.inr ⟨q1, j, by omega, l, r⟩)⟩
            refine t_isLosing h hml (fun l => ⟨fun q => absurd q (by decide), fun _ => ?_⟩) (fun l => ⟨fun _ => stay (fun q => l q.1), fun q => absurd rfl q⟩)
            refine t_reach h hlt (fun R1 hR1 hR1j => t_has ?_)
            have hR1' : R1 < 16777216 := hR1
            rw [hsN (by omega) (by omega)]
            by_cases g1 : R1.testBit m = true
            · rw [if_pos g1]
              refine ⟨fun q => absurd q (by decide), fun _ => t_reach h hml (fun R2 hR2 hR2j => t_has ?_)⟩
              have hR2' : R2 < 16777216 := hR2
              rw [hsN (by omega) (by omega)]
              by_cases g2 : R2.testBit k = true
              · rw [if_pos g2]
                exact ⟨fun q => absurd q (by decide), fun _ => nx 1 (Or.inr rfl) ⟨fun _ => Or.inr ⟨w1, m, by omega, l, (hR1j m hml).mp g1, (hR2j k hlt).mp g2⟩, fun _ => rfl⟩⟩
              · rw [if_neg g2]
                exact ⟨fun _ => stay (fun q => g2 ((hR2j k hlt).mpr q.2.2)), fun q => absurd rfl q⟩
            · rw [if_neg g1]
              exact ⟨fun _ => stay (fun q => g1 ((hR1j m hml).mpr q.2.1)), fun q => absurd rfl q⟩
      refine ⟨fun _ => ⟨fun c0 => ?_, fun c0 => t_isLosing h hlt (fun l => ⟨fun q => absurd q (by decide), fun _ => ?_⟩) (fun l => ⟨fun _ => ?_, fun q => absurd rfl q⟩)⟩, fun q => absurd q (by decide)⟩
      · have w0 : w = 0 := (nI_z (by omega)).mp c0
        exact inner 1 (Or.inr rfl) ⟨fun _ => Or.inl w0, fun _ => rfl⟩
      · exact inner 1 (Or.inr rfl) ⟨fun _ => Or.inr l, fun _ => rfl⟩
      · exact inner 0 (Or.inl rfl) ⟨fun q => absurd q (by decide), fun q => q.elim (fun e => absurd (by rw [e]; rfl) c0) (fun q => absurd q l)⟩
    · rw [if_neg g]
      exact ⟨fun q => absurd rfl q, fun _ => no (fun q => g ((hRj k hlt).mpr q.1))⟩
theorem q_rounds {a : Nat} {x : Int32} {P : Int32 → MI → Prop} (h : Inv a I V) (hP : ∀ v I', (∀ (o : Nat) (J : MI) (S : Int32 → Prop), S v → w_X10_rounds o x (kb J (o + 1) 0 V) S) → (∀ c, c ≠ a + 12 → I' c = I c) → P v I') : w_X9_rounds a x I P := by
  unfold w_X9_rounds
  rcases in_cases x (lo := 0) (hi := 2) (by omega) (by omega) with ⟨w, -, hw, rfl⟩ | hx
  · refine k_roundBits hw h.1.1 h.1.2.1 (fun S I' hI hB => hP _ I' (fun o J Q hQ => t_rounds hw h.1.1 (fun S' hB' => ?_)) hI)
    rw [hB'.uq hB (fun j _ => Iff.rfl)]
    exact hQ
  · have hno : P (-2) I := hP (-2) I (fun o J S hS => by
      unfold w_X10_rounds
      exact t_isIn0 hx ⟨fun c => absurd rfl c, fun _ => hS⟩) (fun _ _ => rfl)
    unfold w_X2_roundBits
    exact ⟨fun _ => hno, fun c => ⟨fun c2 => absurd (hx.resolve_left c) (Int32.not_lt.mpr c2), fun _ => hno⟩⟩
/-- reach belongs to nothing that is told -/
theorem Inv.fr8 {a : Nat} {I' : MI} (h : Inv a I V) (hI : ∀ c, c ≠ a + 12 → I' c = I c) : Inv a I' V := by
  obtain ⟨h1, h2, h3, h4, h5⟩ := h
  refine ⟨⟨?_, ?_, h1.2.2.1.fr (hI _ (by omega)) (hI _ (by omega)) (fun k _ _ => by rw [hI _ (by omega)]) (fun _ _ => rfl), fun q hq => (h1.2.2.2.1 q hq).fr (fun d hd => hI _ (by omega)) rfl (fun _ _ => rfl), fun s hs => (h1.2.2.2.2 s hs).fr h1.1.2.1 hs (fun d hd => hI _ (by omega)) VFr.rf (fun _ _ _ => rfl) (fun _ _ => rfl)⟩, h2.fr (fun c _ _ => hI c (by omega)) (fun _ _ => rfl), fun s hs => by rw [hI _ (by omega)]; exact h3 s hs, h4, h5⟩
  · obtain ⟨g1, g2, g3, g4, g5⟩ := h1.1
    refine ⟨by rw [hI _ (by omega)]; exact g1, g2, fun i hi => by rw [hI _ (by omega)]; exact g3 i hi, fun i hi => (g4 i hi).fr (by obtain ⟨hsz, -⟩ := size_lt h1.1; omega) (hI _ (by omega)) VFr.rf, fun i hi => by rw [hI _ (by omega)]; exact g5 i hi⟩
  · obtain ⟨g1, g2, g3, g4⟩ := h1.2.1
    exact ⟨by rw [hI _ (by omega)]; exact g1, fun s i hs hi => by rw [hI _ (by omega)]; exact g2 s i hs hi, fun s i k hs hi hk => by rw [hI _ (by omega)]; exact g3 s i k hs hi hk, fun i k hi hk hc => by rw [hI _ (by omega)]; exact g4 i k hi hk hc⟩
end
