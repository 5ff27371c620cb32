/-! rounds: who can come to whom -/
def RC (n : Nat) (f : Nat → Nat) (i j : Nat) : Prop := ∀ M : Nat → Prop, (∀ k, (f i).testBit k = true → M k) → (∀ k l, k < n → M k → (f k).testBit l = true → M l) → M j
theorem RC.one {n i j : Nat} {f : Nat → Nat} (h : (f i).testBit j = true) : RC n f i j := fun _ h1 _ => h1 j h
theorem RC.tr {n i j o : Nat} {f : Nat → Nat} (h : RC n f i o) (ho : o < n) (h' : RC n f o j) : RC n f i j := fun M h1 h2 => h' M (fun k hk => h2 o k ho (h M h1 h2) hk) h2
theorem RC.step {n i j k : Nat} {f : Nat → Nat} (h : RC n f i k) (hk : k < n) (h' : (f k).testBit j = true) : RC n f i j := h.tr hk (RC.one h')
/-- one pass of the class's way -/
def wsh (r : Nat → Nat) (t i : Nat) : Nat := if (r i).testBit t = true then r i ||| r t else r i
def wR (f : Nat → Nat) : Nat → Nat → Nat
  | 0 => f
  | t + 1 => wsh (wR f t) t
theorem wsh_or {r : Nat → Nat} {t i j : Nat} : (wsh r t i).testBit j = true ↔ (r i).testBit j = true ∨ ((r i).testBit t = true ∧ (r t).testBit j = true) := by
  unfold wsh
  by_cases h : (r i).testBit t = true
  · rw [if_pos h, Nat.testBit_or, Bool.or_eq_true]
    exact ⟨fun q => q.elim Or.inl (fun q => Or.inr ⟨h, q⟩), fun q => q.elim Or.inl (fun q => Or.inr q.2)⟩
  · rw [if_neg h]
    exact ⟨Or.inl, fun q => q.elim id (fun q => absurd q.1 h)⟩
theorem wR_clo {f : Nat → Nat} : ∀ t i k j, k < t → (wR f t i).testBit k = true → (wR f t k).testBit j = true → (wR f t i).testBit j = true
  | 0, _, _, _, h, _, _ => by omega
  | t + 1, i, k, j, hk, h1, h2 => by
    have h1 := wsh_or.mp (show (wsh (wR f t) t i).testBit k = true from h1)
    have h2 := wsh_or.mp (show (wsh (wR f t) t k).testBit j = true from h2)
    refine wsh_or.mpr ?_
    by_cases e : k = t
    · subst e
      have a1 : (wR f k i).testBit k = true := h1.elim id (fun q => q.1)
      have a2 : (wR f k k).testBit j = true := h2.elim id (fun q => q.2)
      exact Or.inr ⟨a1, a2⟩
    · have hk' : k < t := by omega
      rcases h1 with a | ⟨a, b⟩
      · rcases h2 with c | ⟨c, d⟩
        · exact Or.inl (wR_clo t i k j hk' a c)
        · exact Or.inr ⟨wR_clo t i k t hk' a c, d⟩
      · rcases h2 with c | ⟨c, d⟩
        · exact Or.inr ⟨a, wR_clo t t k j hk' b c⟩
        · exact Or.inr ⟨a, d⟩
theorem wR_up {f : Nat → Nat} {i j : Nat} (h : (f i).testBit j = true) : ∀ t, (wR f t i).testBit j = true
  | 0 => h
  | t + 1 => wsh_or.mpr (Or.inl (wR_up h t))
theorem wR_in {n : Nat} {f : Nat → Nat} : ∀ t, t ≤ n → ∀ i j, (wR f t i).testBit j = true → RC n f i j
  | 0, _, i, j, h => RC.one h
  | t + 1, ht, i, j, h => by
    rcases wsh_or.mp (show (wsh (wR f t) t i).testBit j = true from h) with q | ⟨q1, q2⟩
    · exact wR_in t (by omega) i j q
    · exact (wR_in t (by omega) i t q1).tr (by omega) (wR_in t (by omega) t j q2)
theorem wR_iff {n : Nat} {f : Nat → Nat} {i j : Nat} : (wR f n i).testBit j = true ↔ RC n f i j := by
  refine ⟨fun h => wR_in n (Nat.le_refl _) i j h, fun h => ?_⟩
  exact h (fun j => (wR f n i).testBit j = true) (fun k hk => wR_up hk n) (fun k l hk h1 h2 => wR_clo n i k l hk h1 (wR_up h2 n))
theorem wsh_bd {r : Nat → Nat} {t i m : Nat} (h1 : r i < 2 ^ m) (h2 : r t < 2 ^ m) : wsh r t i < 2 ^ m := by
  unfold wsh
  split
  · exact Nat.or_lt_two_pow h1 h2
  · exact h1
theorem wR_bd {f : Nat → Nat} {m : Nat} (h : ∀ i, f i < 2 ^ m) : ∀ t i, wR f t i < 2 ^ m
  | 0, i => h i
  | t + 1, i => wsh_bd (wR_bd h t i) (wR_bd h t t)
/-- one round of the model's way -/
def stN (f : Nat → Nat) (S : Nat) : Nat → Nat
  | 0 => S
  | k + 1 => stN f S k ||| (if S.testBit k = true then f k else 0)
theorem stN_up {f : Nat → Nat} {S : Nat} : ∀ k, Sb S (stN f S k)
  | 0 => Sb.rf _
  | k + 1 => (stN_up k).tr (Sb.orl _ _)
theorem stN_row {f : Nat → Nat} {S i : Nat} (hS : S.testBit i = true) : ∀ k, i < k → Sb (f i) (stN f S k)
  | 0, h => by omega
  | k + 1, h => by
    by_cases e : i = k
    · subst e
      show Sb (f i) (stN f S i ||| (if S.testBit i = true then f i else 0))
      rw [if_pos hS]; exact Sb.orr _ _
    · exact (stN_row hS k (by omega)).tr (Sb.orl _ _)
theorem stN_in {n : Nat} {f : Nat → Nat} {S i : Nat} (h : ∀ j, S.testBit j = true → RC n f i j) : ∀ k, k ≤ n → ∀ j, (stN f S k).testBit j = true → RC n f i j
  | 0, _, j, hj => h j hj
  | k + 1, hk, j, hj => by
    have hj : (stN f S k ||| (if S.testBit k = true then f k else 0)).testBit j = true := hj
    rw [Nat.testBit_or, Bool.or_eq_true] at hj
    rcases hj with q | q
    · exact stN_in h k (by omega) j q
    · by_cases g : S.testBit k = true
      · rw [if_pos g] at q
        exact (h k g).step (by omega) q
      · rw [if_neg g, Nat.zero_testBit] at q; exact absurd q (by decide)
theorem stN_bd {f : Nat → Nat} {S m : Nat} (h : ∀ i, f i < 2 ^ m) (hS : S < 2 ^ m) : ∀ k, stN f S k < 2 ^ m
  | 0 => hS
  | k + 1 => Nat.or_lt_two_pow (stN_bd h hS k) (by split; exact h k; exact Nat.two_pow_pos m)
theorem rc_fix {n : Nat} {f : Nat → Nat} {S i : Nat} (h0 : Sb (f i) S) (h1 : ∀ j, S.testBit j = true → RC n f i j) (h2 : stN f S n = S) {j : Nat} : S.testBit j = true ↔ RC n f i j := by
  refine ⟨h1 j, fun h => h (fun j => S.testBit j = true) (fun k hk => h0 k hk) (fun k l hk a b => ?_)⟩
  have := stN_row a n hk l b
  rw [h2] at this; exact this
theorem pc_ltN {a b N : Nat} (h : Sb a b) (hb : b < 2 ^ N) (hne : a ≠ b) : pc a N < pc b N := by
  have ex : ∃ j, a.testBit j ≠ b.testBit j := by
    by_cases g : ∃ j, a.testBit j ≠ b.testBit j
    · exact g
    · exact absurd (Nat.eq_of_testBit_eq (fun j => by by_cases q : a.testBit j = b.testBit j; exact q; exact absurd ⟨j, q⟩ g)) hne
  obtain ⟨j, hj⟩ := ex
  have a0 : a.testBit j = false := by
    cases q : a.testBit j with
    | false => rfl
    | true => rw [q, h j q] at hj; exact absurd rfl hj
  have b1 : b.testBit j = true := by
    cases q : b.testBit j with
    | true => rfl
    | false => rw [a0, q] at hj; exact absurd rfl hj
  have jN : j < N := by
    rcases Nat.lt_or_ge j N with q | q
    · exact q
    · have := Nat.testBit_lt_two_pow (Nat.lt_of_lt_of_le hb (Nat.pow_le_pow_right (by omega) q))
      rw [this] at b1; exact absurd b1 (by decide)
  have key : ∀ k, j < k → pc a k < pc b k := fun k => by
    induction k with
    | zero => intro q; omega
    | succ k ih =>
      intro q
      show pc a k + _ < pc b k + _
      by_cases e : j = k
      · subst e
        have := pc_le h j
        rw [a0, b1, if_neg (by decide), if_pos rfl]; omega
      · have h1 := ih (by omega)
        by_cases g : a.testBit k = true
        · rw [if_pos g, if_pos (h k g)]; omega
        · rw [if_neg g]; omega
  exact key N jN
theorem sh31 : ∀ k, k < 31 → ((nI k &&& 31).toBitVec.smod 32).toNat = k := by decide +kernel
theorem hsN {S k : Nat} (hS : S < 2147483648) (hk : k < 31) : hs (nI S) (nI k) = S.testBit k := by
  unfold hs
  rw [pk_shrN (by omega) _ k (sh31 k hk), show nI (S / 2 ^ k) &&& 1 = nI (S / 2 ^ k % 2 ^ 1) from pk_andN (Nat.lt_of_le_of_lt (Nat.div_le_self _ _) (by omega)) 1 rfl, Nat.testBit_eq_decide_div_mod_eq]
  have : S / 2 ^ k % 2 ^ 1 < 2 := Nat.mod_lt _ (by omega)
  by_cases e : S / 2 ^ k % 2 ^ 1 = 1
  · rw [decide_eq_true (show nI (S / 2 ^ k % 2 ^ 1) = 1 by rw [e]; rfl), decide_eq_true (show S / 2 ^ k % 2 = 1 from e)]
  · rw [decide_eq_false (show ¬ nI (S / 2 ^ k % 2 ^ 1) = 1 from fun c => e (nI_inj (b := 1) (by omega) (by omega) c)), decide_eq_false (show ¬ S / 2 ^ k % 2 = 1 from e)]
theorem bitN : ∀ j, j < 31 → (1 : Int32) <<< (nI j &&& 31) = nI (2 ^ j) := by decide +kernel
theorem maskN : ∀ n, n < 26 → ((1 : Int32) <<< (nI n &&& 31) - 1).toBitVec.toNat = 2 ^ n - 1 := by decide +kernel
/-- who comes next -/
def nxN (V : Nat → Int32) (i : Nat) : Nat := if ix (V 48) ≤ i then 0 else if vOp V i = 8 then 0 else if vOp V i = 6 then 2 ^ ix (V (54 + 5 * i)) else if vOp V i = 7 then 2 ^ ix (V (54 + 5 * i)) ||| 2 ^ (i + 1) else 2 ^ (i + 1)
section
variable {p o i : Nat} {I J : MI} {V : Nat → Int32}
theorem nx_op (h : RelR p I V) (hi : i < ix (V 48)) (h8 : ¬ vOp V i = 8) (hj : vOp V i = 6 ∨ vOp V i = 7) : I (p + 9 + i) 4 = V (54 + 5 * i) ∧ V (54 + 5 * i) = nI (ix (V (54 + 5 * i))) ∧ ix (V (54 + 5 * i)) < 24 := by
  obtain ⟨hsz, -⟩ := size_lt h
  obtain ⟨-, e0, -, -, -, -, -, -, -, r6, r7⟩ := row_of h (by omega) h8
  rcases hj with e | e
  · obtain ⟨f4, b⟩ := r6 (e0.trans e)
    obtain ⟨g1, g2⟩ := bd_ix b (by omega)
    exact ⟨f4, g1, by omega⟩
  · obtain ⟨-, -, -, f4, b, -⟩ := r7 (e0.trans e)
    obtain ⟨g1, g2⟩ := bd_ix b (by omega)
    exact ⟨f4, g1, by omega⟩
theorem nx_bd (h : RelR p I V) : nxN V i < 2 ^ 25 := by
  obtain ⟨hsz, -⟩ := size_lt h
  unfold nxN
  split
  · exact Nat.two_pow_pos _
  · rename_i hi
    have hp : ∀ t, t < 25 → 2 ^ t < 2 ^ 25 := fun t ht => Nat.pow_lt_pow_right (by omega) ht
    split
    · exact Nat.two_pow_pos _
    · rename_i h8
      split
      · rename_i h6
        exact hp _ (by have := (nx_op h (by omega) h8 (Or.inl h6)).2.2; omega)
      · split
        · rename_i h7
          exact Nat.or_lt_two_pow (hp _ (by have := (nx_op h (by omega) h8 (Or.inr h7)).2.2; omega)) (hp _ (by omega))
        · exact hp _ (by omega)
theorem k_followers {Q : Int32 → Prop} (h : RelR p I V) (hi : i < ix (V 48)) {I' : MI} (hI : ∀ c, c ≠ p + 8 → I' c = I c) (hQ : Q (nI (nxN V i))) : w_X2_followers p (nI i) I' Q := by
  obtain ⟨hsz, -⟩ := size_lt h
  unfold nxN at hQ
  rw [if_neg (by omega)] at hQ
  unfold w_X2_followers
  rw [ixn (by omega), hI _ (by omega), h.2.2.1 i (by omega)]
  refine ⟨inn (by omega) (by omega), fun c6 => ⟨inn (by omega) (by omega), ?_⟩, fun c7 => ⟨inn (by omega) (by omega), ?_⟩, fun c8 => ?_, fun n6 n7 n8 => ?_⟩
  · have n8 : ¬ vOp V i = 8 := by rw [c6]; decide
    obtain ⟨f4, e4, b4⟩ := nx_op h hi n8 (Or.inl c6)
    unfold w_X9_bit
    rw [f4, e4, bitN _ (by omega)]
    rw [if_neg n8, if_pos c6] at hQ; exact hQ
  · have n8 : ¬ vOp V i = 8 := by rw [c7]; decide
    obtain ⟨f4, e4, b4⟩ := nx_op h hi n8 (Or.inr c7)
    unfold w_X9_bit
    rw [f4, e4, bitN _ (by omega), nI_1, bitN _ (by omega)]
    rw [if_neg n8, if_neg (by rw [c7]; decide), if_pos c7, ← nI_or] at hQ; exact hQ
  · rw [if_pos c8] at hQ; exact hQ
  · unfold w_X9_bit
    rw [nI_1, bitN _ (by omega)]
    rw [if_neg n8, if_neg n6, if_neg n7] at hQ; exact hQ
theorem t_next {Q : Int32 → Prop} (h : RelR p I V) (hi : i < ix (V 48)) (hQ : Q (nI (nxN V i))) : w_X10_next o (nI i) (kb J (o + 1) 0 V) Q := by
  obtain ⟨hsz, -⟩ := size_lt h
  unfold nxN at hQ
  rw [if_neg (by omega)] at hQ
  unfold w_X10_next
  refine t_opOf (b := 0) (by omega) (by omega) ⟨fun c8 => ?_, fun n8 => ⟨fun n6 => ?_, fun c6 => ?_⟩⟩
  · rw [if_pos c8] at hQ
    unfold w_X10_next_p28
    rw [c8]
    exact ⟨fun c => absurd c (by decide), fun _ => ⟨fun _ => hQ, fun c => absurd c (by decide)⟩⟩
  · rw [if_neg n8, if_neg n6] at hQ
    unfold w_X10_next_p28
    rw [nI_1, bitN _ (by omega)]
    refine ⟨fun c => absurd c n6, fun _ => ⟨fun n7 => ?_, fun c7 => ?_⟩⟩
    · rw [if_neg n7] at hQ; exact hQ
    · obtain ⟨f4, e4, b4⟩ := nx_op h hi n8 (Or.inr c7)
      rw [if_pos c7] at hQ
      refine t_of' (b := 0) (k := 4) (by omega) (by omega) (by omega) ?_
      rw [show 50 + 5 * i + 4 = 54 + 5 * i by omega, e4, bitN _ (by omega), nI_or, Nat.or_comm]
      exact hQ
  · obtain ⟨f4, e4, b4⟩ := nx_op h hi n8 (Or.inl c6)
    rw [if_neg n8, if_pos c6] at hQ
    unfold w_X10_next_p28
    refine ⟨fun _ => t_of' (b := 0) (k := 4) (by omega) (by omega) (by omega) ?_, fun c => absurd c6 c⟩
    rw [show 50 + 5 * i + 4 = 54 + 5 * i by omega, e4, bitN _ (by omega), show (0 : Int32) ||| nI (2 ^ ix (V (54 + 5 * i))) = nI (0 ||| 2 ^ ix (V (54 + 5 * i))) from nI_or 0 _, Nat.zero_or]
    exact hQ
theorem g48 : kb J (o + 1) 0 V (o + 1) (ix (48)) = V 48 := kg (b := 0) (k := 48) (by omega) (by omega)
/-- the model's reach -/
theorem t_reach {Q : Int32 → Prop} (h : RelR p I V) (hi : i < ix (V 48)) (hQ : ∀ S, S < 2 ^ 24 → (∀ j, j < ix (V 48) → (S.testBit j = true ↔ RC (ix (V 48)) (nxN V) i j)) → Q (nI S)) : w_X10_reach o (nI i) (kb J (o + 1) 0 V) Q := by
  obtain ⟨hsz, e48⟩ := size_lt h
  have fb : ∀ i, nxN V i < 2 ^ 25 := fun i => nx_bd h
  unfold w_X10_reach
  refine t_next h hi ?_
  refine Lp2.of (fun x y => ∃ S, x = nI S ∧ S < 2 ^ 25 ∧ Sb (nxN V i) S ∧ (∀ j, S.testBit j = true → RC (ix (V 48)) (nxN V) i j) ∧ (y = x → stN (nxN V) S (ix (V 48)) = S)) (fun x y => 2 * (25 - pc (ix x) 25) + (if y = x then 0 else 1)) ?_ _ _ ⟨nxN V i, rfl, fb i, Sb.rf _, fun j hj => RC.one hj, fun c => ?_⟩
  · rintro rec x y ⟨S, rfl, hS, h0, h1, h2⟩ hrec
    have hS' : S < 33554432 := hS
    unfold w_X10_reach_l8
    rw [g48]
    refine ⟨fun c => ?_, fun c => ?_⟩
    · have hfix := h2 c
      rw [e48]
      have em := pk_andN (n := S) (by omega) (ix (V 48)) (maskN _ (by omega))
      rw [em]
      refine hQ _ (Nat.lt_of_lt_of_le (Nat.mod_lt _ (Nat.two_pow_pos _)) (Nat.pow_le_pow_right (by omega) (by omega))) (fun j hj => ?_)
      rw [Nat.testBit_mod_two_pow, decide_eq_true hj, Bool.true_and]
      exact rc_fix h0 h1 hfix
    · refine Lp2.of (fun x4 y4 => ∃ k, k ≤ ix (V 48) ∧ x4 = nI (stN (nxN V) S k) ∧ y4 = nI k) (fun _ y4 => 30 - ix y4) ?_ _ _ ⟨0, by omega, rfl, rfl⟩
      rintro rec2 x4 y4 ⟨k, hk, rfl, rfl⟩ hrec2
      unfold w_X10_reach_l18
      rw [g48]
      refine ⟨fun c2 => ?_, fun c2 => ?_⟩
      · rw [e48] at c2
        have := (nI_leI (by omega) (by omega)).mp c2
        have e : k = ix (V 48) := by omega
        subst e
        have b1 := stN_bd fb hS (ix (V 48))
        have b1' : stN (nxN V) S (ix (V 48)) < 33554432 := b1
        refine hrec _ _ ⟨_, rfl, b1, h0.tr (stN_up _), stN_in h1 _ (Nat.le_refl _), fun q => ?_⟩ ?_
        · have : S = stN (nxN V) S (ix (V 48)) := nI_inj (by omega) (by omega) q
          rw [← this]; exact this.symm
        · show 2 * (25 - pc (ix (nI (stN (nxN V) S (ix (V 48))))) 25) + (if nI S = nI (stN (nxN V) S (ix (V 48))) then 0 else 1) < 2 * (25 - pc (ix (nI S)) 25) + (if y = nI S then 0 else 1)
          rw [if_neg c, ixn (by omega), ixn (by omega)]
          by_cases e : S = stN (nxN V) S (ix (V 48))
          · rw [if_pos (congrArg nI e), ← e]; omega
          · rw [if_neg (fun q => e (nI_inj (by omega) (by omega) q))]
            have p1 := pc_ltN (stN_up (f := nxN V) (S := S) (ix (V 48))) b1 e
            have p2 := pc_bd (stN (nxN V) S (ix (V 48))) 25
            omega
      · have hlt : k < ix (V 48) := Nat.not_le.mp fun q => c2 (by rw [e48]; exact nI_le q (by omega))
        refine t_has ?_
        rw [hsN (by omega) (by omega)]
        have nx : nI (stN (nxN V) S k) ||| nI (if S.testBit k = true then nxN V k else 0) = nI (stN (nxN V) S (k + 1)) := nI_or _ _
        have dec : 30 - ix (nI k + 1) < 30 - ix (nI k) := by rw [nI_1, ixn (by omega), ixn (by omega)]; omega
        by_cases g : S.testBit k = true
        · rw [if_pos g] at nx ⊢
          refine ⟨fun q => absurd q (by decide), fun _ => t_next h hlt ?_⟩
          rintro _ rfl
          rw [nx]
          exact hrec2 _ _ ⟨k + 1, by omega, rfl, nI_1 k⟩ dec
        · rw [if_neg g] at nx ⊢
          refine ⟨fun _ => ?_, fun q => absurd rfl q⟩
          rintro _ rfl
          rw [show nI (stN (nxN V) S k) ||| 0 = nI (stN (nxN V) S (k + 1)) from nx]
          exact hrec2 _ _ ⟨k + 1, by omega, rfl, nI_1 k⟩ dec
  · exfalso
    have := fb i
    have hh : nxN V i < 33554432 := this
    have q : (-1 : Int32) < 0 := by decide
    rw [c] at q
    exact absurd q (nI_pos (by omega))
end
