/-! the model's row in blocks of 516: a block as a function; numbers and places -/
theorem lit (n : Nat) : (OfNat.ofNat n : Int32) = nI n := rfl
def blk (I : MI) (A b : Nat) : Nat → Int32 := fun k => I A (b + k)
def kb (I : MI) (A b : Nat) (V : Nat → Int32) : MI := fun c => if c = A then (fun j => if b ≤ j ∧ j < b + 516 then V (j - b) else I A j) else I c
theorem kb_at (I : MI) (A b : Nat) (V : Nat → Int32) {k : Nat} (hk : k < 516) : kb I A b V A (b + k) = V k := by
  unfold kb
  rw [if_pos rfl]
  show (if b ≤ b + k ∧ b + k < b + 516 then V (b + k - b) else I A (b + k)) = V k
  rw [if_pos ⟨by omega, by omega⟩, Nat.add_sub_cancel_left]
theorem kb_ne (I : MI) {A b : Nat} (V : Nat → Int32) {c : Nat} (h : c ≠ A) : kb I A b V c = I c := by unfold kb; rw [if_neg h]
theorem kb_out (I : MI) (A b : Nat) (V : Nat → Int32) {j : Nat} (h : j < b ∨ b + 516 ≤ j) : kb I A b V A j = I A j := by
  unfold kb
  rw [if_pos rfl]
  show (if b ≤ j ∧ j < b + 516 then V (j - b) else I A j) = I A j
  rw [if_neg (by omega)]
theorem kb_self (I : MI) (A b : Nat) : kb I A b (blk I A b) = I := by
  funext c
  by_cases h : c = A
  · subst h
    funext j
    by_cases hj : b ≤ j ∧ j < b + 516
    · have : j = b + (j - b) := by omega
      rw [this, kb_at I c b _ (by omega)]
      rfl
    · exact kb_out I c b _ (by omega)
  · exact kb_ne I _ h
theorem kb_sb (I : MI) (A b : Nat) (V V' : Nat → Int32) : kb (kb I A b V) A b V' = kb I A b V' := by
  funext c
  by_cases h : c = A
  · subst h
    funext j
    by_cases hj : b ≤ j ∧ j < b + 516
    · have : j = b + (j - b) := by omega
      rw [this, kb_at _ c b _ (by omega), kb_at _ c b _ (by omega)]
    · rw [kb_out _ c b _ (by omega), kb_out _ c b _ (by omega), kb_out _ c b _ (by omega)]
  · rw [kb_ne _ _ h, kb_ne _ _ h, kb_ne _ _ h]
theorem kb_up (I : MI) (A b : Nat) (V : Nat → Int32) {k : Nat} (hk : k < 516) (x : Int32) : ui (kb I A b V) A (b + k) x = kb I A b (upd V k x) := by
  funext c
  by_cases h : c = A
  · subst h
    rw [ui_at]
    funext j
    by_cases hj : b ≤ j ∧ j < b + 516
    · have e : j = b + (j - b) := by omega
      rw [e, kb_at _ c b _ (by omega)]
      unfold upd
      by_cases hk2 : j - b = k
      · rw [if_pos (by omega), if_pos hk2]
      · rw [if_neg (by omega), if_neg hk2, kb_at _ c b _ (by omega)]
    · rw [kb_out _ c b _ (by omega)]
      unfold upd
      rw [if_neg (by omega), kb_out _ c b _ (by omega)]
  · rw [ui_ne _ _ _ h, kb_ne _ _ h, kb_ne _ _ h]
theorem kb_congr (I : MI) (A b : Nat) {V V' : Nat → Int32} (h : ∀ k, k < 516 → V k = V' k) : kb I A b V = kb I A b V' := by
  funext c
  by_cases hc : c = A
  · subst hc
    funext j
    by_cases hj : b ≤ j ∧ j < b + 516
    · have e : j = b + (j - b) := by omega
      rw [e, kb_at _ c b _ (by omega), kb_at _ c b _ (by omega)]
      exact h _ (by omega)
    · rw [kb_out _ c b _ (by omega), kb_out _ c b _ (by omega)]
  · rw [kb_ne _ _ hc, kb_ne _ _ hc]
theorem ixn {n : Nat} (h : n < 2147483648) : ix (nI n) = n := nI_clamp (by omega)
theorem inn {n N : Nat} (h : n < N) (hN : N < 2147483648) : vp_in (nI n) N := vp_in_nI h (by omega)
theorem upd_s (f : Nat → Int32) (k : Nat) (x : Int32) : upd f k x k = x := pk_us
theorem upd_n (f : Nat → Int32) {k j : Nat} (x : Int32) (h : j ≠ k) : upd f k x j = f j := pk_un h
theorem upd_g (f : Nat → Int32) (k j : Nat) (x : Int32) : upd f k x j = if j = k then x else f j := rfl
theorem nI_inj {a b : Nat} (ha : a < 2147483648) (hb : b < 2147483648) (h : nI a = nI b) : a = b := (nI_eq (by omega) (by omega)).mp h
/-- a number in a range -/
def bd (x : Int32) (n : Nat) : Prop := ∃ k, k < n ∧ x = nI k
theorem bd_ix {x : Int32} {n : Nat} (h : bd x n) (hn : n ≤ 2147483648) : x = nI (ix x) ∧ ix x < n := by
  obtain ⟨k, hk, rfl⟩ := h
  rw [ixn (by omega)]
  exact ⟨rfl, hk⟩
theorem bd_nI {k n : Nat} (h : k < n) : bd (nI k) n := ⟨k, h, rfl⟩
theorem bd_mono {x : Int32} {n m : Nat} (h : bd x n) (hm : n ≤ m) : bd x m := by obtain ⟨k, hk, e⟩ := h; exact ⟨k, by omega, e⟩
section
variable {o b : Nat} {I : MI} {V : Nat → Int32} {Q : Int32 → Prop}
theorem t_sideAt {s : Nat} (h : Q (nI (b + 222 + 14 * s))) : w_X10_sideAt (nI b) (nI s) Q := by
  unfold w_X10_sideAt
  simp only [lit, nI_add, pk_mul]
  exact h
theorem t_queueAt {q : Nat} (h : Q (nI (b + 252 + 19 * q))) : w_X10_queueAt (nI b) (nI q) Q := by
  unfold w_X10_queueAt
  simp only [lit, nI_add, pk_mul]
  exact h
theorem t_of {i k : Nat} (hb : b ≤ 1032) (hi : i ≤ 24) (hk : k ≤ 4) (h : i ≤ 23 ∨ k = 0) (hq : Q (V (50 + 5 * i + k))) : w_X10_of o (nI b) (nI i) (nI k) (kb I (o + 1) b V) Q := by
  unfold w_X10_of
  simp only [lit, nI_add, pk_mul]
  rw [ixn (by omega), show b + 50 + 5 * i + k = b + (50 + 5 * i + k) by omega, kb_at _ _ _ _ (by omega)]
  exact ⟨inn (by omega) (by omega), hq⟩
end
