/-! what the model reads of a block, as functions of the block -/
def hs (s k : Int32) : Bool := decide ((s >>> (k &&& 31)) &&& 1 = 1)
theorem hs_t {s k : Int32} (h : (s >>> (k &&& 31)) &&& 1 = 1) : hs s k = true := decide_eq_true h
theorem hs_f {s k : Int32} (h : ¬ (s >>> (k &&& 31)) &&& 1 = 1) : ¬ hs s k = true := by unfold hs; simpa using h
def vOp (V : Nat → Int32) (i : Nat) : Int32 := if nI i = V 48 then 8 else V (50 + 5 * i)
def vSends (V : Nat → Int32) (r s : Int32) : Nat := (if hs (V 49) r then 1 else 0) + (if hs (V 49) s then 1 else 0)
def vSend (V : Nat → Int32) (r s : Int32) (k : Nat) : Int32 :=
  if hs (V 49) r then (if k = 0 then 1 + 16 * r else if hs (V 49) s ∧ k = 1 then 1 + 16 * s else 0)
  else if hs (V 49) s ∧ k = 0 then 1 + 16 * s else 0
def vBoth (V : Nat → Int32) (i : Nat) : Prop := hs (V 49) (V (51 + 5 * i)) ∧ hs (V 49) (V (52 + 5 * i))
def vDeedIf (V : Nat → Int32) (side i k : Nat) : Int32 :=
  if hs (V 49) (V (51 + 5 * i)) ∧ hs (V 49) (V (52 + 5 * i)) then (if k = 0 then (if side = 1 then 11 else 10) else 0)
  else if side = 1 then (if k = 0 then 13 else 0)
  else if k < vSends V (V (51 + 5 * i)) (V (52 + 5 * i)) then vSend V (V (51 + 5 * i)) (V (52 + 5 * i)) k
  else if k = vSends V (V (51 + 5 * i)) (V (52 + 5 * i)) then 12 else 0
def vDeedOp (V : Nat → Int32) (side i k : Nat) (op : Int32) : Int32 :=
  if op = 8 then (if k = 0 then 14 else 0)
  else if op = 6 then (if k = 0 then 9 else 0)
  else if op = 7 then vDeedIf V side i k
  else if hs (V 49) (V (51 + 5 * i)) then (if side = 1 then 0 else if k = 0 then (if op = 4 then 3 else if op = 5 then 6 else 2) else 0)
  else if side = 1 then (if k = 0 then (if op = 4 then 5 else if op = 5 then 8 else 2) else 0)
  else if op = 4 then (if k = 0 then 4 else 0)
  else if op = 5 then (if k = 0 then 7 else 0)
  else if op = 0 then 0 else vSend V (V (52 + 5 * i)) (V (53 + 5 * i)) k
def vDeed (V : Nat → Int32) (side i k : Nat) : Int32 := vDeedOp V side i k (vOp V i)
section
variable {o b : Nat} {I : MI} {V : Nat → Int32} {Q : Int32 → Prop}
theorem nI_z {k : Nat} (h : k < 2147483648) : nI k = 0 ↔ k = 0 := by
  constructor
  · intro e; exact nI_inj h (by omega) (e.trans nI_0.symm)
  · intro e; rw [e]; exact nI_0
theorem t_get {k : Nat} (hb : b ≤ 1032) (hk : k < 516) : ix (nI (b + k)) = b + k ∧ vp_in (nI (b + k)) 4905 := ⟨ixn (by omega), inn (by omega) (by omega)⟩
theorem t_of' {i k : Nat} (hb : b ≤ 1032) (hi : i ≤ 24) (hk : k ≤ 4) (hq : Q (V (50 + 5 * i + k))) : w_X10_of o (nI b) (nI i) (nI k) (kb I (o + 1) b V) Q := by
  unfold w_X10_of
  simp only [lit, nI_add, pk_mul]
  rw [ixn (by omega), show b + 50 + 5 * i + k = b + (50 + 5 * i + k) by omega, kb_at _ _ _ _ (by omega)]
  exact ⟨inn (by omega) (by omega), hq⟩
theorem t_opOf {i : Nat} (hb : b ≤ 1032) (hi : i ≤ 24) (hq : Q (vOp V i)) : w_X10_opOf o (nI b) (nI i) (kb I (o + 1) b V) Q := by
  unfold w_X10_opOf
  simp only [lit, nI_add]
  rw [ixn (by omega), kb_at _ _ _ _ (by omega)]
  unfold vOp at hq
  refine ⟨inn (by omega) (by omega), fun c => ?_, fun c => ?_⟩
  · rw [if_neg c] at hq
    exact t_of' (k := 0) hb hi (by omega) hq
  · rw [if_pos c] at hq
    exact hq
theorem t_has {s k : Int32} (hq : Q (if hs s k then 1 else 0)) : w_X10_has s k Q := by
  unfold w_X10_has
  exact ⟨fun c => by rw [if_neg (hs_f c)] at hq; exact hq, fun c => by rw [if_pos (hs_t c)] at hq; exact hq⟩
theorem t_isAim {r : Int32} (hb : b ≤ 1032) (hq : Q (if hs (V 49) r then 1 else 0)) : w_X10_isAim o (nI b) r (kb I (o + 1) b V) Q := by
  unfold w_X10_isAim
  simp only [lit, nI_add]
  rw [ixn (by omega), kb_at _ _ _ _ (by omega)]
  refine ⟨inn (by omega) (by omega), t_has ⟨?_, hq⟩⟩
  split
  · exact Or.inr rfl
  · exact Or.inl rfl
theorem t_sends {r s : Int32} (hb : b ≤ 1032) (hq : Q (nI (vSends V r s))) : w_X10_sends o (nI b) r s (kb I (o + 1) b V) Q := by
  unfold w_X10_sends
  unfold vSends at hq
  refine t_isAim hb ?_
  by_cases h1 : hs (V 49) r = true <;> by_cases h2 : hs (V 49) s = true
  all_goals first | rw [if_pos h1] at hq ⊢ | rw [if_neg h1] at hq ⊢
  all_goals first | rw [if_pos h2] at hq | rw [if_neg h2] at hq
  · exact ⟨fun c => absurd c (by decide), fun _ => t_isAim hb (by rw [if_pos h2]; exact ⟨fun c => absurd c (by decide), fun _ => hq⟩)⟩
  · exact ⟨fun c => absurd c (by decide), fun _ => t_isAim hb (by rw [if_neg h2]; exact ⟨fun _ => hq, fun c => absurd rfl c⟩)⟩
  · exact ⟨fun _ => t_isAim hb (by rw [if_pos h2]; exact ⟨fun c => absurd c (by decide), fun _ => hq⟩), fun c => absurd rfl c⟩
  · exact ⟨fun _ => t_isAim hb (by rw [if_neg h2]; exact ⟨fun _ => hq, fun c => absurd rfl c⟩), fun c => absurd rfl c⟩
theorem t_send {r s : Int32} {k : Nat} (hb : b ≤ 1032) (hk : k ≤ 3) (hq : Q (vSend V r s k)) : w_X10_send o (nI b) r s (nI k) (kb I (o + 1) b V) Q := by
  unfold w_X10_send
  unfold vSend at hq
  refine t_isAim hb ?_
  have hp : ∀ j : Nat, j ≤ 3 → Q (if hs (V 49) s ∧ j = 0 then 1 + 16 * s else 0) → w_X10_send_p28 o (nI b) s (nI j) (kb I (o + 1) b V) Q := by
    intro j hj hq
    unfold w_X10_send_p28
    refine t_isAim hb ?_
    by_cases h2 : hs (V 49) s
    · rw [if_pos h2]
      refine ⟨fun c => absurd c (by decide), fun _ => ⟨fun c => ?_, fun c => ?_⟩⟩
      · rw [nI_z (by omega)] at c
        simpa [c] using hq
      · rw [nI_z (by omega)] at c
        simpa [c, h2] using hq
    · rw [if_neg h2]
      refine ⟨fun _ => by simpa [h2] using hq, fun c => absurd rfl c⟩
  by_cases h1 : hs (V 49) r
  · rw [if_pos h1] at hq ⊢
    refine ⟨fun c => absurd c (by decide), fun _ => ⟨fun c => ?_, fun c => ?_⟩⟩
    · rw [nI_z (by omega)] at c
      rw [if_neg c] at hq
      have e : nI k + (-1) = nI (k - 1) := sb_m1 (by omega)
      rw [e]
      refine hp (k - 1) (by omega) ?_
      have : (k - 1 = 0) = (k = 1) := by simp; omega
      simp only [this]
      exact hq
    · rw [nI_z (by omega)] at c
      rw [if_pos c] at hq
      exact hq
  · rw [if_neg h1] at hq ⊢
    exact ⟨fun _ => hp k hk hq, fun c => absurd rfl c⟩
theorem vSends_le (V : Nat → Int32) (r s : Int32) : vSends V r s ≤ 2 := by unfold vSends; split <;> split <;> omega
theorem nI_one {s : Nat} (h : s < 2147483648) : nI s = 1 ↔ s = 1 := by
  constructor
  · intro e; exact nI_inj h (by omega) e
  · intro e; rw [e]; rfl
theorem t_deedIf {side i k : Nat} {f g : Int32} (hb : b ≤ 1032) (hs' : side ≤ 1) (hi : i ≤ 24) (hk : k ≤ 3) (hf : f = if k = 0 then 1 else 0) (hg : g = if hs (V 49) (V (51 + 5 * i)) ∧ hs (V 49) (V (52 + 5 * i)) then 1 else 0) (hq : Q (vDeedIf V side i k)) : w_X10_deed_p108 o (nI b) (nI side) (nI k) f (V (51 + 5 * i)) (V (52 + 5 * i)) g (kb I (o + 1) b V) Q := by
  unfold w_X10_deed_p108
  unfold vDeedIf at hq
  have hle := vSends_le V (V (51 + 5 * i)) (V (52 + 5 * i))
  refine ⟨fun c => ?_, fun c => ?_⟩
  · have c' : ¬ side = 1 := fun e => c ((nI_one (by omega)).mpr e)
    refine ⟨fun c2 => t_sends hb ⟨fun c3 => t_sends hb ⟨fun c4 => ?_, fun c4 => ?_⟩, fun c3 => ?_⟩, fun c2 => ⟨fun c3 => ?_, fun c3 => ?_⟩⟩
    all_goals (by_cases hB : hs (V 49) (V (51 + 5 * i)) ∧ hs (V 49) (V (52 + 5 * i)))
    all_goals first
      | (rw [hg, if_pos hB] at c2; exact absurd c2 (by decide))
      | (rw [hg, if_neg hB] at c2; exact absurd rfl c2)
      | skip
    · have e1 := (nI_leI (by omega) (by omega)).mp c3
      have e2 : ¬ k = vSends V (V (51 + 5 * i)) (V (52 + 5 * i)) := fun e => c4 (by rw [← e])
      rw [if_neg hB, if_neg c', if_neg (by omega), if_neg e2] at hq
      exact hq
    · have e2 := nI_inj (by omega) (by omega) c4
      rw [if_neg hB, if_neg c', if_neg (by omega), if_pos e2] at hq
      exact hq
    · have e1 : ¬ vSends V (V (51 + 5 * i)) (V (52 + 5 * i)) ≤ k := fun e => c3 ((nI_leI (by omega) (by omega)).mpr e)
      rw [if_neg hB, if_neg c', if_pos (by omega)] at hq
      exact t_send hb hk hq
    · have : ¬ k = 0 := fun e => by rw [hf, if_pos e] at c3; exact absurd c3 (by decide)
      rw [if_pos hB, if_neg this] at hq
      exact hq
    · have : k = 0 := by
        by_cases e : k = 0
        · exact e
        · rw [hf, if_neg e] at c3; exact absurd rfl c3
      rw [if_pos hB, if_pos this, if_neg c'] at hq
      exact hq
  · have c' : side = 1 := (nI_one (by omega)).mp c
    by_cases hB : hs (V 49) (V (51 + 5 * i)) ∧ hs (V 49) (V (52 + 5 * i)) <;> by_cases hk0 : k = 0 
    all_goals rw [hf, hg]
    all_goals first | rw [if_pos hB] at hq ⊢ | rw [if_neg hB] at hq ⊢
    all_goals first | rw [if_pos hk0] | rw [if_neg hk0]
    all_goals first | rw [if_pos c', if_pos hk0] at hq | rw [if_pos c', if_neg hk0] at hq | rw [if_pos hk0, if_pos c'] at hq | rw [if_neg hk0] at hq
    · exact ⟨fun _ => ⟨fun c => absurd c (by decide), fun _ => hq⟩, fun c => absurd c (by decide)⟩
    · exact ⟨fun c => absurd rfl c, fun _ => hq⟩
    · exact ⟨fun _ => ⟨fun _ => hq, fun c => absurd rfl c⟩, fun c => absurd c (by decide)⟩
    · exact ⟨fun c => absurd rfl c, fun _ => hq⟩
theorem t_deed {side i k : Nat} (hb : b ≤ 1032) (hs' : side ≤ 1) (hi : i ≤ 24) (hk : k ≤ 3) (hq : Q (vDeed V side i k)) : w_X10_deed o (nI b) (nI side) (nI i) (nI k) (kb I (o + 1) b V) Q := by
  unfold w_X10_deed
  refine t_opOf hb hi ?_
  unfold vDeed at hq
  generalize vOp V i = op at hq
  have hmain : ∀ f : Int32, (f = if k = 0 then 1 else 0) → w_X10_deed_p18 o (nI b) (nI side) (nI i) (nI k) op f (kb I (o + 1) b V) Q := by
    intro f hf
    have f0 : f = 0 → ¬ k = 0 := fun e h => by rw [hf, if_pos h] at e; exact absurd e (by decide)
    have f1 : ¬ f = 0 → k = 0 := fun e => by
      by_cases h : k = 0
      · exact h
      · rw [hf, if_neg h] at e; exact absurd rfl e
    have s1 : nI side = 1 → side = 1 := (nI_one (by omega)).mp
    have s0 : ¬ nI side = 1 → ¬ side = 1 := fun c e => c ((nI_one (by omega)).mpr e)
    unfold w_X10_deed_p18
    unfold vDeedOp at hq
    refine ⟨fun c8 => ?_, fun c8 => ?_⟩
    · rw [if_neg c8] at hq
      refine ⟨fun c6 => ?_, fun c6 => ?_⟩
      · rw [if_neg c6] at hq
        refine t_of' (k := 1) hb hi (by omega) (t_of' (k := 2) hb hi (by omega) ?_)
        rw [show 50 + 5 * i + 1 = 51 + 5 * i by omega, show 50 + 5 * i + 2 = 52 + 5 * i by omega]
        refine ⟨fun c7 => ?_, fun c7 => ?_⟩
        · rw [if_neg c7] at hq
          refine t_isAim hb ?_
          by_cases hr : hs (V 49) (V (51 + 5 * i)) = true
          · rw [if_pos hr] at hq ⊢
            refine ⟨fun c => absurd c (by decide), fun _ => ⟨fun c => ?_, fun c => ⟨fun c2 => ⟨fun c4 => ⟨fun c5 => ?_, fun c5 => ?_⟩, fun c4 => ?_⟩, fun c2 => ?_⟩⟩⟩
            · rw [if_pos (s1 c)] at hq; exact hq
            · rw [if_neg (s0 c), if_pos (f1 c2), if_neg c4, if_neg c5] at hq; exact hq
            · rw [if_neg (s0 c), if_pos (f1 c2), if_neg c4, if_pos c5] at hq; exact hq
            · rw [if_neg (s0 c), if_pos (f1 c2), if_pos c4] at hq; exact hq
            · rw [if_neg (s0 c), if_neg (f0 c2)] at hq; exact hq
          · rw [if_neg hr] at hq ⊢
            refine ⟨fun _ => ⟨fun c => ⟨fun c4 => ⟨fun c5 => ⟨fun c0 => ?_, fun c0 => ?_⟩, fun c5 => ⟨fun c2 => ?_, fun c2 => ?_⟩⟩, fun c4 => ⟨fun c2 => ?_, fun c2 => ?_⟩⟩, fun c => ⟨fun c2 => ⟨fun c4 => ⟨fun c5 => ?_, fun c5 => ?_⟩, fun c4 => ?_⟩, fun c2 => ?_⟩⟩, fun c => absurd rfl c⟩
            · rw [if_neg (s0 c), if_neg c4, if_neg c5, if_neg c0] at hq
              refine t_of' (k := 3) hb hi (by omega) ?_
              rw [show 50 + 5 * i + 3 = 53 + 5 * i by omega]
              exact t_send hb hk hq
            · rw [if_neg (s0 c), if_neg c4, if_neg c5, if_pos c0] at hq; exact hq
            · rw [if_neg (s0 c), if_neg c4, if_pos c5, if_neg (f0 c2)] at hq; exact hq
            · rw [if_neg (s0 c), if_neg c4, if_pos c5, if_pos (f1 c2)] at hq; exact hq
            · rw [if_neg (s0 c), if_pos c4, if_neg (f0 c2)] at hq; exact hq
            · rw [if_neg (s0 c), if_pos c4, if_pos (f1 c2)] at hq; exact hq
            · rw [if_pos (s1 c), if_pos (f1 c2), if_neg c4, if_neg c5] at hq; exact hq
            · rw [if_pos (s1 c), if_pos (f1 c2), if_neg c4, if_pos c5] at hq; exact hq
            · rw [if_pos (s1 c), if_pos (f1 c2), if_pos c4] at hq; exact hq
            · rw [if_pos (s1 c), if_neg (f0 c2)] at hq; exact hq
        · rw [if_pos c7] at hq
          refine t_isAim hb ?_
          by_cases hr : hs (V 49) (V (51 + 5 * i)) = true
          · rw [if_pos hr]
            refine ⟨fun c => absurd c (by decide), fun _ => t_isAim hb ?_⟩
            by_cases hr2 : hs (V 49) (V (52 + 5 * i)) = true
            · rw [if_pos hr2]
              exact ⟨fun c => absurd c (by decide), fun _ => t_deedIf hb hs' hi hk hf (by rw [if_pos ⟨hr, hr2⟩]) hq⟩
            · rw [if_neg hr2]
              exact ⟨fun _ => t_deedIf hb hs' hi hk hf (by rw [if_neg (fun h => hr2 h.2)]) hq, fun c => absurd rfl c⟩
          · rw [if_neg hr]
            exact ⟨fun _ => t_deedIf hb hs' hi hk hf (by rw [if_neg (fun h => hr h.1)]) hq, fun c => absurd rfl c⟩
      · rw [if_pos c6] at hq
        exact ⟨fun c => by rw [if_neg (f0 c)] at hq; exact hq, fun c => by rw [if_pos (f1 c)] at hq; exact hq⟩
    · rw [if_pos c8] at hq
      exact ⟨fun c => by rw [if_neg (f0 c)] at hq; exact hq, fun c => by rw [if_pos (f1 c)] at hq; exact hq⟩
  refine ⟨fun c => hmain 0 ?_, fun c => hmain 1 ?_⟩
  · rw [if_neg (fun e => c ((nI_z (by omega)).mpr e))]
  · rw [if_pos ((nI_z (by omega)).mp c)]
end
