/-! the aims: masks -/
def gRow (V : Nat → Int32) (A i : Nat) : Nat := if V (50 + 5 * i) = 4 ∨ V (50 + 5 * i) = 5 then 2 ^ ix (V (52 + 5 * i)) else if (V (50 + 5 * i) = 1 ∨ V (50 + 5 * i) = 2 ∨ V (50 + 5 * i) = 3) ∧ A.testBit (ix (V (51 + 5 * i))) = true then 2 ^ ix (V (52 + 5 * i)) ||| 2 ^ ix (V (53 + 5 * i)) else 0
def jacN (V : Nat → Int32) (A : Nat) : Nat → Nat
  | 0 => A
  | k + 1 => jacN V A k ||| gRow V A k
def gsN (V : Nat → Int32) (A : Nat) : Nat → Nat
  | 0 => A
  | k + 1 => gsN V A k ||| gRow V (gsN V A k) k
def Sb (a b : Nat) : Prop := ∀ j, a.testBit j = true → b.testBit j = true
theorem Sb.rf (a : Nat) : Sb a a := fun _ h => h
theorem Sb.tr {a b c : Nat} (h : Sb a b) (h' : Sb b c) : Sb a c := fun j q => h' j (h j q)
theorem Sb.orl (a b : Nat) : Sb a (a ||| b) := fun j q => by rw [Nat.testBit_or, q]; rfl
theorem Sb.orr (a b : Nat) : Sb b (a ||| b) := fun j q => by rw [Nat.testBit_or, q, Bool.or_true]
theorem Sb.or {a b c : Nat} (h : Sb a c) (h' : Sb b c) : Sb (a ||| b) c := fun j q => by
  rw [Nat.testBit_or, Bool.or_eq_true] at q
  exact q.elim (h j) (h' j)
theorem Sb.anti {a b : Nat} (h : Sb a b) (h' : Sb b a) : a = b := Nat.eq_of_testBit_eq (fun j => by
  by_cases q : a.testBit j = true
  · rw [q, h j q]
  · by_cases q2 : b.testBit j = true
    · exact absurd (h' j q2) q
    · rw [Bool.not_eq_true] at q q2; rw [q, q2])
theorem gRow_mono {V : Nat → Int32} {A B i : Nat} (h : Sb A B) : Sb (gRow V A i) (gRow V B i) := by
  unfold gRow
  split
  · exact Sb.rf _
  · by_cases g : (V (50 + 5 * i) = 1 ∨ V (50 + 5 * i) = 2 ∨ V (50 + 5 * i) = 3) ∧ A.testBit (ix (V (51 + 5 * i))) = true
    · rw [if_pos g, if_pos ⟨g.1, h _ g.2⟩]; exact Sb.rf _
    · rw [if_neg g]; intro j q; rw [Nat.zero_testBit] at q; exact absurd q (by decide)
def Clo (V : Nat → Int32) (C : Nat) : Prop := ∀ i, i < ix (V 48) → Sb (gRow V C i) C
theorem jac_up {V : Nat → Int32} {A : Nat} : ∀ k, Sb A (jacN V A k)
  | 0 => Sb.rf _
  | k + 1 => (jac_up k).tr (Sb.orl _ _)
theorem jac_row {V : Nat → Int32} {A : Nat} : ∀ k i, i < k → Sb (gRow V A i) (jacN V A k)
  | 0, i, h => by omega
  | k + 1, i, h => by
    by_cases e : i = k
    · subst e; exact Sb.orr _ _
    · exact (jac_row k i (by omega)).tr (Sb.orl _ _)
theorem jac_in {V : Nat → Int32} {A C : Nat} (h : Sb A C) (hC : Clo V C) : ∀ k, k ≤ ix (V 48) → Sb (jacN V A k) C
  | 0, _ => h
  | k + 1, hk => (jac_in h hC k (by omega)).or ((gRow_mono h).tr (hC k (by omega)))
theorem gs_up {V : Nat → Int32} {A : Nat} : ∀ k, Sb A (gsN V A k)
  | 0 => Sb.rf _
  | k + 1 => (gs_up k).tr (Sb.orl _ _)
theorem gs_row {V : Nat → Int32} {A : Nat} : ∀ k i, i < k → Sb (gRow V A i) (gsN V A k)
  | 0, i, h => by omega
  | k + 1, i, h => by
    by_cases e : i = k
    · subst e; exact (gRow_mono (gs_up i)).tr (Sb.orr _ _)
    · exact (gs_row k i (by omega)).tr (Sb.orl _ _)
theorem gs_in {V : Nat → Int32} {A C : Nat} (h : Sb A C) (hC : Clo V C) : ∀ k, k ≤ ix (V 48) → Sb (gsN V A k) C
  | 0, _ => h
  | k + 1, hk => (gs_in h hC k (by omega)).or ((gRow_mono (gs_in h hC k (by omega))).tr (hC k (by omega)))
/-- how many -/
def pc (a : Nat) : Nat → Nat
  | 0 => 0
  | k + 1 => pc a k + (if a.testBit k = true then 1 else 0)
theorem pc_le {a b : Nat} (h : Sb a b) : ∀ k, pc a k ≤ pc b k
  | 0 => Nat.le_refl _
  | k + 1 => by
    have := pc_le h k
    unfold pc
    by_cases g : a.testBit k = true
    · rw [if_pos g, if_pos (h k g)]; omega
    · rw [if_neg g]; split <;> omega
theorem pc_eq {a b : Nat} (h : Sb a b) : ∀ k, pc b k ≤ pc a k → ∀ j, j < k → b.testBit j = true → a.testBit j = true
  | 0, _, j, hj, _ => by omega
  | k + 1, he, j, hj, hb => by
    have h1 := pc_le h k
    unfold pc at he
    by_cases e : j = k
    · subst e
      by_cases g : a.testBit j = true
      · exact g
      · rw [if_pos hb, if_neg g] at he; omega
    · refine pc_eq h k ?_ j (by omega) hb
      by_cases g : a.testBit k = true
      · rw [if_pos g, if_pos (h k g)] at he; omega
      · rw [if_neg g] at he; split at he <;> omega
theorem pc_bd (a : Nat) : ∀ k, pc a k ≤ k
  | 0 => Nat.le_refl _
  | k + 1 => by have := pc_bd a k; unfold pc; split <;> omega
theorem pc_lt {a b : Nat} (h : Sb a b) (hb : b < 256) (hne : ¬ a = b) : pc a 8 < pc b 8 := by
  rcases Nat.lt_or_ge (pc a 8) (pc b 8) with q | q
  · exact q
  · refine absurd (h.anti (fun j hj => ?_)) hne
    rcases Nat.lt_or_ge j 8 with c | c
    · exact pc_eq h 8 q j c hj
    · have := Nat.testBit_lt_two_pow (x := b) (i := j) (Nat.lt_of_lt_of_le hb (Nat.pow_le_pow_right (n := 2) (by omega) c))
      rw [this] at hj; exact absurd hj (by decide)
/-- the passes of the class -/
def gsI (V : Nat → Int32) (A : Nat) : Nat → Nat
  | 0 => A
  | k + 1 => gsN V (gsI V A k) (ix (V 48))
def IsL (V : Nat → Int32) (K A : Nat) : Prop := A < 256 ∧ Sb K A ∧ Clo V A ∧ ∀ C, Sb K C → Clo V C → Sb A C
theorem IsL.uq {V : Nat → Int32} {K A B : Nat} (h : IsL V K A) (h' : IsL V K B) : A = B := (h.2.2.2 B h'.2.1 h'.2.2.1).anti (h'.2.2.2 A h.2.1 h.2.2.1)
section
variable {p : Nat} {I : MI} {V : Nat → Int32}
theorem gRow_bd (h : RelR p I V) {A i : Nat} (hi : i < ix (V 48)) : gRow V A i < 256 := by
  obtain ⟨b0, b1, b2, b3, -⟩ := h.2.2.2.1 i hi
  obtain ⟨-, h2⟩ := bd_ix b2 (by omega)
  have p2 : 2 ^ ix (V (52 + 5 * i)) < 2 ^ 8 := Nat.pow_lt_pow_right (by omega) h2
  unfold gRow
  split
  · exact p2
  · split
    · rename_i g
      have b3 := b3 (fun c => by rcases g.1 with q | q | q <;> rw [q] at c <;> exact absurd c (by decide))
      obtain ⟨-, h3⟩ := bd_ix b3 (by omega)
      exact Nat.or_lt_two_pow (n := 8) p2 (Nat.pow_lt_pow_right (by omega) h3)
    · omega
theorem jac_bd (h : RelR p I V) {A : Nat} (hA : A < 256) : ∀ k, k ≤ ix (V 48) → jacN V A k < 256
  | 0, _ => hA
  | k + 1, hk => Nat.or_lt_two_pow (n := 8) (jac_bd h hA k (by omega)) (gRow_bd h (by omega))
theorem gs_bd (h : RelR p I V) {A : Nat} (hA : A < 256) : ∀ k, k ≤ ix (V 48) → gsN V A k < 256
  | 0, _ => hA
  | k + 1, hk => Nat.or_lt_two_pow (n := 8) (gs_bd h hA k (by omega)) (gRow_bd h (by omega))
theorem gsI_bd (h : RelR p I V) {A : Nat} (hA : A < 256) : ∀ k, gsI V A k < 256
  | 0 => hA
  | k + 1 => gs_bd h (gsI_bd h hA k) _ (Nat.le_refl _)
theorem gsI_L (h : RelR p I V) {K : Nat} (hK : K < 256) : IsL V K (gsI V K 9) := by
  have up : ∀ k, Sb K (gsI V K k) := fun k => by
    induction k with
    | zero => exact Sb.rf _
    | succ k ih => exact ih.tr (gs_up _)
  have lo : ∀ C, Sb K C → Clo V C → ∀ k, Sb (gsI V K k) C := fun C h1 h2 k => by
    induction k with
    | zero => exact h1
    | succ k ih => exact gs_in ih h2 _ (Nat.le_refl _)
  have st : ∀ k, gsI V K (k + 1) = gsI V K k → ∀ j, gsI V K (k + j) = gsI V K k := fun k hk j => by
    induction j with
    | zero => rfl
    | succ j ih =>
      show gsN V (gsI V K (k + j)) (ix (V 48)) = gsI V K k
      rw [ih]; exact hk
  have gr : ∀ k, (∃ i, i < k ∧ gsI V K (i + 1) = gsI V K i) ∨ k ≤ pc (gsI V K k) 8 := fun k => by
    induction k with
    | zero => exact Or.inr (Nat.zero_le _)
    | succ k ih =>
      rcases ih with ⟨i, hi, e⟩ | q
      · exact Or.inl ⟨i, by omega, e⟩
      · by_cases e : gsI V K (k + 1) = gsI V K k
        · exact Or.inl ⟨k, by omega, e⟩
        · have := pc_lt (a := gsI V K k) (b := gsI V K (k + 1)) (gs_up _) (gsI_bd h hK _) (fun c => e c.symm)
          right; omega
  refine ⟨gsI_bd h hK 9, up 9, ?_, fun C h1 h2 => lo C h1 h2 9⟩
  rcases gr 9 with ⟨i, hi, e⟩ | q
  · have e9 : gsI V K 9 = gsI V K i := by have := st i e (9 - i); rw [show i + (9 - i) = 9 by omega] at this; exact this
    rw [e9]
    intro j hj
    have := gs_row (V := V) (A := gsI V K i) (ix (V 48)) j hj
    rw [show gsN V (gsI V K i) (ix (V 48)) = gsI V K (i + 1) from rfl, e] at this
    exact this
  · have := pc_bd (gsI V K 9) 8
    omega
end
theorem hs_bit : ∀ k, k < 256 → ∀ j, j < 8 → hs (nI k) (nI j) = k.testBit j := by decide +kernel
theorem nI_or (a b : Nat) : nI a ||| nI b = nI (a ||| b) := by
  refine Int32.toBitVec_inj.mp ?_
  rw [Int32.toBitVec_or]
  exact (BitVec.ofNat_or ..).symm
theorem bit_nI : ∀ j, j < 8 → (1 : Int32) <<< (nI j &&& 31) = nI (2 ^ j) := by decide +kernel
