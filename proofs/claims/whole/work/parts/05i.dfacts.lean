/-! what the deeds can be -/
section
variable {p : Nat} {I : MI} {V : Nat → Int32}
theorem vOp_row (h : RelR p I V) {i : Nat} (hi : i ≤ ix (V 48)) : (i = ix (V 48) ∧ vOp V i = 8) ∨ (i < ix (V 48) ∧ vOp V i = V (50 + 5 * i)) := by
  obtain ⟨e, hl⟩ := bd_ix h.2.1 (by omega)
  unfold vOp
  rcases Nat.lt_or_ge i (ix (V 48)) with q | q
  · right
    refine ⟨q, ?_⟩
    rw [if_neg]
    intro c
    rw [e] at c
    exact absurd (nI_inj (by omega) (by omega) c) (by omega)
  · left
    have : i = ix (V 48) := by omega
    refine ⟨this, ?_⟩
    rw [if_pos (by rw [this]; exact e.symm)]
theorem size_lt (h : RelR p I V) : ix (V 48) < 25 ∧ V 48 = nI (ix (V 48)) := by
  obtain ⟨e, hl⟩ := bd_ix h.2.1 (by omega)
  exact ⟨hl, e⟩
theorem op_cases {x : Int32} (h : bd x 9) : x = 0 ∨ x = 1 ∨ x = 2 ∨ x = 3 ∨ x = 4 ∨ x = 5 ∨ x = 6 ∨ x = 7 ∨ x = 8 := by
  obtain ⟨k, hk, rfl⟩ := h
  rcases (show k = 0 ∨ k = 1 ∨ k = 2 ∨ k = 3 ∨ k = 4 ∨ k = 5 ∨ k = 6 ∨ k = 7 ∨ k = 8 by omega) with rfl | rfl | rfl | rfl | rfl | rfl | rfl | rfl | rfl <;> simp [nI]
theorem send_nI {r : Int32} (h : bd r 8) : ∃ k, k < 8 ∧ r = nI k ∧ (1 : Int32) + 16 * r = nI (1 + 16 * k) := by
  obtain ⟨k, hk, rfl⟩ := h
  exact ⟨k, hk, rfl, by simp only [lit, pk_mul, nI_add]⟩
theorem vSend_c {r s : Int32} {k : Nat} (hr : bd r 8) (hs' : bd s 8) : vSend V r s k = 0 ∨ ∃ j, j < 8 ∧ vSend V r s k = nI (1 + 16 * j) ∧ (r = nI j ∨ s = nI j) := by
  obtain ⟨a, ha, ea, fa⟩ := send_nI hr
  obtain ⟨b, hb, eb, fb⟩ := send_nI hs'
  unfold vSend
  split
  · split
    · exact Or.inr ⟨a, ha, fa, Or.inl ea⟩
    · split
      · exact Or.inr ⟨b, hb, fb, Or.inr eb⟩
      · exact Or.inl rfl
  · split
    · exact Or.inr ⟨b, hb, fb, Or.inr eb⟩
    · exact Or.inl rfl
theorem vSend_n {r s : Int32} {k : Nat} (h : k < vSends V r s) (hr : bd r 8) (hs' : bd s 8) : ¬ vSend V r s k = 0 := by
  obtain ⟨a, ha, ea, fa⟩ := send_nI hr
  obtain ⟨b, hb, eb, fb⟩ := send_nI hs'
  have na : ¬ nI (1 + 16 * a) = 0 := fun c => by rw [nI_z (by omega)] at c; omega
  have nb : ¬ nI (1 + 16 * b) = 0 := fun c => by rw [nI_z (by omega)] at c; omega
  unfold vSends at h
  unfold vSend
  rw [fa, fb]
  by_cases h1 : hs (V 49) r = true
  · rw [if_pos h1] at h ⊢
    by_cases h0 : k = 0
    · rw [if_pos h0]; exact na
    · rw [if_neg h0]
      by_cases h2 : hs (V 49) s = true
      · rw [if_pos h2] at h
        rw [if_pos ⟨h2, by omega⟩]; exact nb
      · rw [if_neg h2] at h; omega
  · rw [if_neg h1] at h ⊢
    by_cases h2 : hs (V 49) s = true
    · rw [if_pos h2] at h
      rw [if_pos ⟨h2, by omega⟩]; exact nb
    · rw [if_neg h2] at h; omega
theorem vSend_z {r s : Int32} {k : Nat} (h : vSends V r s ≤ k) : vSend V r s k = 0 := by
  unfold vSends at h
  unfold vSend
  by_cases h1 : hs (V 49) r = true
  · rw [if_pos h1] at h ⊢
    rw [if_neg (by omega)]
    by_cases h2 : hs (V 49) s = true
    · rw [if_pos h2] at h
      rw [if_neg (by omega)]
    · rw [if_neg (fun c => h2 c.1)]
  · rw [if_neg h1] at h ⊢
    by_cases h2 : hs (V 49) s = true
    · rw [if_pos h2] at h
      rw [if_neg (by omega)]
    · rw [if_neg (fun c => h2 c.1)]
/-- the runner's deeds -/
def DC0 (V : Nat → Int32) (i : Nat) (d : Int32) : Prop :=
  (d = 14 ∧ vOp V i = 8) ∨ (d = 9 ∧ vOp V i = 6) ∨ (d = 10 ∧ vOp V i = 7) ∨ (d = 12 ∧ vOp V i = 7) ∨ (∃ r, r < 8 ∧ d = nI (1 + 16 * r) ∧ (vOp V i = 1 ∨ vOp V i = 2 ∨ vOp V i = 3 ∨ vOp V i = 7)) ∨ (d = 3 ∧ vOp V i = 4) ∨ (d = 6 ∧ vOp V i = 5) ∨ (d = 2 ∧ (vOp V i = 0 ∨ vOp V i = 1 ∨ vOp V i = 2 ∨ vOp V i = 3)) ∨ (d = 4 ∧ vOp V i = 4) ∨ (d = 7 ∧ vOp V i = 5)
def DC1 (V : Nat → Int32) (i : Nat) (d : Int32) : Prop :=
  (d = 14 ∧ vOp V i = 8) ∨ (d = 9 ∧ vOp V i = 6) ∨ (d = 11 ∧ vOp V i = 7) ∨ (d = 13 ∧ vOp V i = 7) ∨ (d = 5 ∧ vOp V i = 4) ∨ (d = 8 ∧ vOp V i = 5) ∨ (d = 2 ∧ (vOp V i = 0 ∨ vOp V i = 1 ∨ vOp V i = 2 ∨ vOp V i = 3))
theorem dc0 (h : RelR p I V) {i k : Nat} (hi : i ≤ ix (V 48)) : vDeed V 0 i k = 0 ∨ DC0 V i (vDeed V 0 i k) := by
  rcases vOp_row h hi with ⟨e, h8⟩ | ⟨hl, ho⟩
  · unfold vDeed vDeedOp
    rw [h8, if_pos rfl]
    by_cases hk : k = 0
    · rw [if_pos hk]; exact Or.inr (Or.inl ⟨rfl, h8⟩)
    · rw [if_neg hk]; exact Or.inl rfl
  · obtain ⟨b0, b1, b2, b3, -⟩ := h.2.2.2.1 i hl
    have hc := op_cases b0
    rw [← ho] at hc b3
    unfold vDeed vDeedOp
    rcases hc with c | c | c | c | c | c | c | c | c
    all_goals rw [c]
    all_goals simp only [show ((0 : Int32) = 8) = False by decide, show ((0 : Int32) = 6) = False by decide, show ((0 : Int32) = 7) = False by decide, show ((0 : Int32) = 4) = False by decide, show ((0 : Int32) = 5) = False by decide, show ((1 : Int32) = 8) = False by decide, show ((1 : Int32) = 6) = False by decide, show ((1 : Int32) = 7) = False by decide, show ((1 : Int32) = 4) = False by decide, show ((1 : Int32) = 5) = False by decide, show ((1 : Int32) = 0) = False by decide, show ((2 : Int32) = 8) = False by decide, show ((2 : Int32) = 6) = False by decide, show ((2 : Int32) = 7) = False by decide, show ((2 : Int32) = 4) = False by decide, show ((2 : Int32) = 5) = False by decide, show ((2 : Int32) = 0) = False by decide, show ((3 : Int32) = 8) = False by decide, show ((3 : Int32) = 6) = False by decide, show ((3 : Int32) = 7) = False by decide, show ((3 : Int32) = 4) = False by decide, show ((3 : Int32) = 5) = False by decide, show ((3 : Int32) = 0) = False by decide, show ((4 : Int32) = 8) = False by decide, show ((4 : Int32) = 6) = False by decide, show ((4 : Int32) = 7) = False by decide, show ((5 : Int32) = 8) = False by decide, show ((5 : Int32) = 6) = False by decide, show ((5 : Int32) = 7) = False by decide, show ((5 : Int32) = 4) = False by decide, show ((6 : Int32) = 8) = False by decide, show ((7 : Int32) = 8) = False by decide, show ((7 : Int32) = 6) = False by decide, show ((0 : Nat) = 1) = False by simp, if_true, if_false]
    · split
      · split
        · right; unfold DC0; rw [c]; simp
        · exact Or.inl rfl
      · exact Or.inl rfl
    · split
      · split
        · right; unfold DC0; rw [c]; simp
        · exact Or.inl rfl
      · rcases vSend_c (V := V) (k := k) b2 (b3 (by rw [c]; decide)) with e | ⟨j, hj, e, -⟩
        · exact Or.inl e
        · right; unfold DC0; rw [c, e]; right; right; right; right; left; exact ⟨j, hj, rfl, Or.inl rfl⟩
    · split
      · split
        · right; unfold DC0; rw [c]; simp
        · exact Or.inl rfl
      · rcases vSend_c (V := V) (k := k) b2 (b3 (by rw [c]; decide)) with e | ⟨j, hj, e, -⟩
        · exact Or.inl e
        · right; unfold DC0; rw [c, e]; right; right; right; right; left; exact ⟨j, hj, rfl, Or.inr (Or.inl rfl)⟩
    · split
      · split
        · right; unfold DC0; rw [c]; simp
        · exact Or.inl rfl
      · rcases vSend_c (V := V) (k := k) b2 (b3 (by rw [c]; decide)) with e | ⟨j, hj, e, -⟩
        · exact Or.inl e
        · right; unfold DC0; rw [c, e]; right; right; right; right; left; exact ⟨j, hj, rfl, Or.inr (Or.inr (Or.inl rfl))⟩
    · split
      · split
        · right; unfold DC0; rw [c]; simp
        · exact Or.inl rfl
      · split
        · right; unfold DC0; rw [c]; simp
        · exact Or.inl rfl
    · split
      · split
        · right; unfold DC0; rw [c]; simp
        · exact Or.inl rfl
      · split
        · right; unfold DC0; rw [c]; simp
        · exact Or.inl rfl
    · split
      · right; unfold DC0; rw [c]; simp
      · exact Or.inl rfl
    · unfold vDeedIf
      simp only [show ((0 : Nat) = 1) = False by simp, if_false]
      split
      · split
        · right; unfold DC0; rw [c]; simp
        · exact Or.inl rfl
      · split
        · rcases vSend_c (V := V) (k := k) b1 b2 with e | ⟨j, hj, e, -⟩
          · exact Or.inl e
          · right; unfold DC0; rw [c, e]; right; right; right; right; left; exact ⟨j, hj, rfl, Or.inr (Or.inr (Or.inr rfl))⟩
        · split
          · right; unfold DC0; rw [c]; simp
          · exact Or.inl rfl
    · split
      · right; unfold DC0; rw [c]; simp
      · exact Or.inl rfl
theorem vd_8 {s i k : Nat} : vDeedOp V s i k 8 = if k = 0 then 14 else 0 := by unfold vDeedOp; rw [if_pos rfl]
theorem vd_6 {s i k : Nat} : vDeedOp V s i k 6 = if k = 0 then 9 else 0 := by unfold vDeedOp; rw [if_neg (by decide), if_pos rfl]
theorem vd_7 {s i k : Nat} : vDeedOp V s i k 7 = vDeedIf V s i k := by unfold vDeedOp; rw [if_neg (by decide), if_neg (by decide), if_pos rfl]
theorem vd_4 {s i k : Nat} : vDeedOp V s i k 4 = if hs (V 49) (V (51 + 5 * i)) then (if s = 1 then 0 else if k = 0 then 3 else 0) else if s = 1 then (if k = 0 then 5 else 0) else if k = 0 then 4 else 0 := by
  unfold vDeedOp; rw [if_neg (by decide), if_neg (by decide), if_neg (by decide), if_pos rfl, if_pos rfl, if_pos rfl]
theorem vd_5 {s i k : Nat} : vDeedOp V s i k 5 = if hs (V 49) (V (51 + 5 * i)) then (if s = 1 then 0 else if k = 0 then 6 else 0) else if s = 1 then (if k = 0 then 8 else 0) else if k = 0 then 7 else 0 := by
  unfold vDeedOp; simp only [show ((5 : Int32) = 8) = False from by decide, show ((5 : Int32) = 6) = False from by decide, show ((5 : Int32) = 7) = False from by decide, show ((5 : Int32) = 4) = False from by decide, if_false, if_true]
theorem vd_0 {s i k : Nat} : vDeedOp V s i k 0 = if hs (V 49) (V (51 + 5 * i)) then (if s = 1 then 0 else if k = 0 then 2 else 0) else if s = 1 then (if k = 0 then 2 else 0) else 0 := by
  unfold vDeedOp; simp only [show ((0 : Int32) = 8) = False from by decide, show ((0 : Int32) = 6) = False from by decide, show ((0 : Int32) = 7) = False from by decide, show ((0 : Int32) = 4) = False from by decide, show ((0 : Int32) = 5) = False from by decide, if_false, if_true]
theorem vd_r {s i k : Nat} {op : Int32} (h : op = 1 ∨ op = 2 ∨ op = 3) : vDeedOp V s i k op = if hs (V 49) (V (51 + 5 * i)) then (if s = 1 then 0 else if k = 0 then 2 else 0) else if s = 1 then (if k = 0 then 2 else 0) else vSend V (V (52 + 5 * i)) (V (53 + 5 * i)) k := by
  unfold vDeedOp
  rcases h with rfl | rfl | rfl
  · simp only [show ((1 : Int32) = 8) = False from by decide, show ((1 : Int32) = 6) = False from by decide, show ((1 : Int32) = 7) = False from by decide, show ((1 : Int32) = 4) = False from by decide, show ((1 : Int32) = 5) = False from by decide, show ((1 : Int32) = 0) = False from by decide, if_false]
  · simp only [show ((2 : Int32) = 8) = False from by decide, show ((2 : Int32) = 6) = False from by decide, show ((2 : Int32) = 7) = False from by decide, show ((2 : Int32) = 4) = False from by decide, show ((2 : Int32) = 5) = False from by decide, show ((2 : Int32) = 0) = False from by decide, if_false]
  · simp only [show ((3 : Int32) = 8) = False from by decide, show ((3 : Int32) = 6) = False from by decide, show ((3 : Int32) = 7) = False from by decide, show ((3 : Int32) = 4) = False from by decide, show ((3 : Int32) = 5) = False from by decide, show ((3 : Int32) = 0) = False from by decide, if_false]
theorem dc1 (h : RelR p I V) {i k : Nat} (hi : i ≤ ix (V 48)) : vDeed V 1 i k = 0 ∨ DC1 V i (vDeed V 1 i k) := by
  unfold vDeed
  have hc : vOp V i = 0 ∨ vOp V i = 1 ∨ vOp V i = 2 ∨ vOp V i = 3 ∨ vOp V i = 4 ∨ vOp V i = 5 ∨ vOp V i = 6 ∨ vOp V i = 7 ∨ vOp V i = 8 := by
    rcases vOp_row h hi with ⟨e, h8⟩ | ⟨hl, ho⟩
    · simp [h8]
    · rw [ho]; exact op_cases (h.2.2.2.1 i hl).1
  unfold DC1
  rcases hc with c | c | c | c | c | c | c | c | c
  · rw [c, vd_0]; simp only [if_true]; split <;> (try split) <;> simp
  · rw [c, vd_r (by simp)]; simp only [if_true]; split <;> (try split) <;> simp
  · rw [c, vd_r (by simp)]; simp only [if_true]; split <;> (try split) <;> simp
  · rw [c, vd_r (by simp)]; simp only [if_true]; split <;> (try split) <;> simp
  · rw [c, vd_4]; simp only [if_true]; split <;> (try split) <;> simp
  · rw [c, vd_5]; simp only [if_true]; split <;> (try split) <;> simp
  · rw [c, vd_6]; split <;> simp
  · rw [c, vd_7]; unfold vDeedIf; simp only [if_true]; split <;> split <;> simp
  · rw [c, vd_8]; split <;> simp
/-- there are at most two -/
theorem vDeed_2 (h : RelR p I V) {s i : Nat} (hs' : s < 2) (hi : i ≤ ix (V 48)) : vDeed V s i 2 = 0 := by
  unfold vDeed
  have hc : vOp V i = 0 ∨ vOp V i = 1 ∨ vOp V i = 2 ∨ vOp V i = 3 ∨ vOp V i = 4 ∨ vOp V i = 5 ∨ vOp V i = 6 ∨ vOp V i = 7 ∨ vOp V i = 8 := by
    rcases vOp_row h hi with ⟨e, h8⟩ | ⟨hl, ho⟩
    · simp [h8]
    · rw [ho]; exact op_cases (h.2.2.2.1 i hl).1
  have h2 : vSend V (V (52 + 5 * i)) (V (53 + 5 * i)) 2 = 0 := vSend_z (vSends_le V _ _)
  rcases hc with c | c | c | c | c | c | c | c | c
  · rw [c, vd_0]; split <;> (try split) <;> simp
  · rw [c, vd_r (by simp), h2]; split <;> (try split) <;> simp
  · rw [c, vd_r (by simp), h2]; split <;> (try split) <;> simp
  · rw [c, vd_r (by simp), h2]; split <;> (try split) <;> simp
  · rw [c, vd_4]; split <;> (try split) <;> simp
  · rw [c, vd_5]; split <;> (try split) <;> simp
  · rw [c, vd_6]; simp
  · rw [c, vd_7]
    unfold vDeedIf
    by_cases hB : hs (V 49) (V (51 + 5 * i)) = true ∧ hs (V 49) (V (52 + 5 * i)) = true
    · rw [if_pos hB]; simp
    · rw [if_neg hB]
      split
      · simp
      · have hle : vSends V (V (51 + 5 * i)) (V (52 + 5 * i)) ≤ 1 := by
          unfold vSends
          by_cases h1 : hs (V 49) (V (51 + 5 * i)) = true
          · have h2 : ¬ hs (V 49) (V (52 + 5 * i)) = true := fun c => hB ⟨h1, c⟩
            rw [if_pos h1, if_neg h2]
            omega
          · rw [if_neg h1]; split <;> omega
        rw [if_neg (by omega), if_neg (by omega)]
  · rw [c, vd_8]; simp
/-- a second one has a first one -/
theorem vDeed_1 (h : RelR p I V) {s i : Nat} (hs' : s < 2) (hi : i ≤ ix (V 48)) (h0 : vDeed V s i 0 = 0) : vDeed V s i 1 = 0 := by
  rcases vOp_row h hi with ⟨e, h8⟩ | ⟨hl, ho⟩
  · unfold vDeed at h0; rw [h8, vd_8, if_pos rfl] at h0; exact absurd h0 (by decide)
  · obtain ⟨b0, b1, b2, b3, -⟩ := h.2.2.2.1 i hl
    rw [← ho] at b3
    have hc := op_cases b0
    rw [← ho] at hc
    unfold vDeed at h0 ⊢
    have hsd : ∀ r s' : Int32, bd r 8 → bd s' 8 → vSend V r s' 0 = 0 → vSend V r s' 1 = 0 := fun r s' hr hs2 hz => by
      refine vSend_z ?_
      rcases Nat.lt_or_ge 0 (vSends V r s') with q | q
      · exact absurd hz (vSend_n q hr hs2)
      · omega
    rcases hc with c | c | c | c | c | c | c | c | c
    · rw [c, vd_0]; split <;> (try split) <;> simp
    · rw [c, vd_r (by simp)] at h0 ⊢
      have h3 := hsd _ _ b2 (b3 (by rw [c]; decide))
      by_cases g : hs (V 49) (V (51 + 5 * i)) = true
      · rw [if_pos g]; split <;> simp
      · rw [if_neg g] at h0 ⊢
        by_cases g2 : s = 1
        · rw [if_pos g2]; simp
        · rw [if_neg g2] at h0 ⊢; exact h3 h0
    · rw [c, vd_r (by simp)] at h0 ⊢
      have h3 := hsd _ _ b2 (b3 (by rw [c]; decide))
      by_cases g : hs (V 49) (V (51 + 5 * i)) = true
      · rw [if_pos g]; split <;> simp
      · rw [if_neg g] at h0 ⊢
        by_cases g2 : s = 1
        · rw [if_pos g2]; simp
        · rw [if_neg g2] at h0 ⊢; exact h3 h0
    · rw [c, vd_r (by simp)] at h0 ⊢
      have h3 := hsd _ _ b2 (b3 (by rw [c]; decide))
      by_cases g : hs (V 49) (V (51 + 5 * i)) = true
      · rw [if_pos g]; split <;> simp
      · rw [if_neg g] at h0 ⊢
        by_cases g2 : s = 1
        · rw [if_pos g2]; simp
        · rw [if_neg g2] at h0 ⊢; exact h3 h0
    · rw [c, vd_4]; split <;> (try split) <;> simp
    · rw [c, vd_5]; split <;> (try split) <;> simp
    · rw [c, vd_6]; simp
    · rw [c, vd_7] at h0 ⊢
      unfold vDeedIf at h0 ⊢
      by_cases hB : hs (V 49) (V (51 + 5 * i)) = true ∧ hs (V 49) (V (52 + 5 * i)) = true
      · rw [if_pos hB]; simp
      · rw [if_neg hB] at h0 ⊢
        by_cases g : s = 1
        · rw [if_pos g]; simp
        · rw [if_neg g] at h0 ⊢
          by_cases g2 : 0 < vSends V (V (51 + 5 * i)) (V (52 + 5 * i))
          · rw [if_pos g2] at h0
            exact absurd h0 (vSend_n g2 b1 b2)
          · rw [if_neg g2, if_pos (by omega)] at h0
            exact absurd h0 (by decide)
    · rw [c, vd_8]; simp
theorem vMany_le : ∀ {s i : Nat}, vMany V s i ≤ 2 := by
  intro s i; unfold vMany; split
  · omega
  · split <;> omega
theorem vMany_iff (h : RelR p I V) {s i k : Nat} (hs' : s < 2) (hi : i ≤ ix (V 48)) (hk : k ≤ 2) : k < vMany V s i ↔ ¬ vDeed V s i k = 0 := by
  have d2 := vDeed_2 h hs' hi
  have d1 := vDeed_1 h hs' hi
  unfold vMany
  by_cases h0 : vDeed V s i 0 = 0
  · rw [if_pos h0]
    have h1 := d1 h0
    rcases (show k = 0 ∨ k = 1 ∨ k = 2 by omega) with rfl | rfl | rfl
    · simp [h0]
    · simp [h1]
    · simp [d2]
  · rw [if_neg h0]
    by_cases h1 : vDeed V s i 1 = 0
    · rw [if_pos h1]
      rcases (show k = 0 ∨ k = 1 ∨ k = 2 by omega) with rfl | rfl | rfl
      · simp [h0]
      · simp [h1]
      · simp [d2]
    · rw [if_neg h1]
      rcases (show k = 0 ∨ k = 1 ∨ k = 2 by omega) with rfl | rfl | rfl
      · simp [h0]
      · simp [h1]
      · simp [d2]
theorem vDeed_pos (h : RelR p I V) {s i k : Nat} (hs' : s < 2) (hi : i ≤ ix (V 48)) : vDeed V s i k ≤ 0 ↔ vDeed V s i k = 0 := by
  constructor
  · intro hle
    rcases (show s = 0 ∨ s = 1 by omega) with rfl | rfl
    · rcases dc0 h hi (k := k) with e | e
      · exact e
      · exfalso
        revert hle
        rcases e with ⟨e, -⟩ | ⟨e, -⟩ | ⟨e, -⟩ | ⟨e, -⟩ | ⟨r, hr, e, -⟩ | ⟨e, -⟩ | ⟨e, -⟩ | ⟨e, -⟩ | ⟨e, -⟩ | ⟨e, -⟩ <;> rw [e]
        all_goals first | decide | exact nI_nle (by omega) (by omega)
    · rcases dc1 h hi (k := k) with e | e
      · exact e
      · exfalso
        revert hle
        rcases e with ⟨e, -⟩ | ⟨e, -⟩ | ⟨e, -⟩ | ⟨e, -⟩ | ⟨e, -⟩ | ⟨e, -⟩ | ⟨e, -⟩ <;> rw [e]
        all_goals decide
  · intro e; rw [e]; decide
end
