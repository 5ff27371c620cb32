/-! the model's queues and sides in a block -/
def vPush (V : Nat → Int32) (q : Nat) (x y z : Int32) : Nat → Int32 :=
  upd (upd (upd (upd V (253 + 19 * q + 3 * ix (V (252 + 19 * q))) x) (254 + 19 * q + 3 * ix (V (252 + 19 * q))) y) (255 + 19 * q + 3 * ix (V (252 + 19 * q))) z) (252 + 19 * q) (V (252 + 19 * q) + 1)
def vTake (V : Nat → Int32) (q : Nat) : Nat → Int32 := fun j => if 253 + 19 * q ≤ j ∧ j < 268 + 19 * q then V (j + 3) else if j = 252 + 19 * q then V j - 1 else V j
def irm (x y : Int32) : Int32 := x - x / y * y
def vCell (V : Nat → Int32) (i : Nat) : Int32 := irm (V (210 + ix (V (52 + 5 * i))) + V (54 + 5 * i)) 32
def vWrap (x : Int32) : Int32 := irm (irm x 1000 + 1000) 1000
def vReck (op x y : Int32) : Int32 := vWrap (if op = 1 then x + y else if op = 2 then x - y else x * y)
def vHold (s x y : Int32) : Bool := if s = 60 then decide (x < y) else if s = 62 then decide (y < x) else decide (x = y)
def vCome (V : Nat → Int32) (k : Nat) : Bool := decide (V 0 ≤ V 170 - V (254 + 3 * k))
def vStored (V : Nat → Int32) (c : Int32) : Bool := decide (∃ k, k < ix (V 271) ∧ V (272 + 3 * k) = c)
section
variable {o b : Nat} {I : MI} {V : Nat → Int32} {Q : Int32 → Prop} {P : MI → Prop}
theorem t_inQueue {q : Nat} (hb : b ≤ 1032) (hq : q ≤ 5) (h : Q (V (252 + 19 * q))) : w_X10_inQueue o (nI b) (nI q) (kb I (o + 1) b V) Q := by
  unfold w_X10_inQueue
  refine t_queueAt ?_
  rw [ixn (by omega), show b + 252 + 19 * q = b + (252 + 19 * q) by omega, kb_at _ _ _ _ (by omega)]
  exact ⟨inn (by omega) (by omega), h⟩
theorem t_isFull {q : Nat} (hb : b ≤ 1032) (hq : q ≤ 5) (h : Q (if V (252 + 19 * q) < V (172 + q) then 0 else 1)) : w_X10_isFull o (nI b) (nI q) (kb I (o + 1) b V) Q := by
  unfold w_X10_isFull
  refine t_inQueue hb hq ?_
  simp only [lit, nI_add]
  rw [ixn (by omega), show b + 172 + q = b + (172 + q) by omega, kb_at _ _ _ _ (by omega)]
  refine ⟨inn (by omega) (by omega), fun c => ?_, fun c => ?_⟩
  · rw [if_pos c] at h; exact h
  · rw [if_neg c] at h; exact h
theorem t_first {q k : Nat} (hb : b ≤ 1032) (hq : q ≤ 5) (hk : k ≤ 2) (h : Q (V (253 + 19 * q + k))) : w_X10_first o (nI b) (nI q) (nI k) (kb I (o + 1) b V) Q := by
  unfold w_X10_first
  refine t_queueAt ?_
  simp only [lit, nI_add]
  rw [ixn (by omega), show b + 252 + 19 * q + 1 + k = b + (253 + 19 * q + k) by omega, kb_at _ _ _ _ (by omega)]
  exact ⟨inn (by omega) (by omega), h⟩
theorem t_reg {r : Nat} (hb : b ≤ 1032) (hr : r ≤ 7) (h : Q (V (210 + r))) : w_X10_reg o (nI b) (nI r) (kb I (o + 1) b V) Q := by
  unfold w_X10_reg
  simp only [lit, nI_add]
  rw [ixn (by omega), show b + 210 + r = b + (210 + r) by omega, kb_at _ _ _ _ (by omega)]
  exact ⟨inn (by omega) (by omega), h⟩
theorem t_regB {r : Int32} (hb : b ≤ 1032) (hr : bd r 8) (h : Q (V (210 + ix r))) : w_X10_reg o (nI b) r (kb I (o + 1) b V) Q := by
  obtain ⟨e, hl⟩ := bd_ix hr (by omega)
  rw [e]
  exact t_reg hb (by omega) h
theorem t_cellOf {i : Nat} (hb : b ≤ 1032) (hi : i ≤ 23) (hs : bd (V (52 + 5 * i)) 8) (h : Q (vCell V i)) : w_X10_cellOf o (nI b) (nI i) (kb I (o + 1) b V) Q := by
  unfold w_X10_cellOf
  refine t_of' (k := 2) hb (by omega) (by omega) ?_
  rw [show 50 + 5 * i + 2 = 52 + 5 * i by omega]
  refine t_regB hb hs (t_of' (k := 4) hb (by omega) (by omega) ?_)
  rw [show 50 + 5 * i + 4 = 54 + 5 * i by omega]
  exact h
theorem t_reckons {op x y : Int32} (h : Q (vReck op x y)) : w_X10_reckons o op x y Q := by
  unfold w_X10_reckons
  unfold vReck at h
  refine ⟨fun c => ⟨fun c2 => ?_, fun c2 => ?_⟩, fun c => ?_⟩
  · rw [if_neg c, if_neg c2] at h; exact h
  · rw [if_neg c, if_pos c2] at h; exact h
  · rw [if_pos c] at h; exact h
theorem t_holds {s x y : Int32} (h : Q (if vHold s x y = true then 1 else 0)) : w_X10_holds s x y Q := by
  unfold w_X10_holds
  unfold vHold at h
  refine ⟨fun c => ⟨fun c2 => ⟨fun c3 => ?_, fun c3 => ?_⟩, fun c2 => ⟨fun c3 => ?_, fun c3 => ?_⟩⟩, fun c => ⟨fun c3 => ?_, fun c3 => ?_⟩⟩
  · rw [if_neg c, if_neg c2] at h; simpa [c3] using h
  · rw [if_neg c, if_neg c2] at h; simpa [c3] using h
  · rw [if_neg c, if_pos c2] at h
    have : ¬ y < x := Int32.not_lt.mpr c3
    simpa [this] using h
  · rw [if_neg c, if_pos c2] at h
    have : y < x := Int32.not_le.mp c3
    simpa [this] using h
  · rw [if_pos c] at h
    have : ¬ x < y := Int32.not_lt.mpr c3
    simpa [this] using h
  · rw [if_pos c] at h
    have : x < y := Int32.not_le.mp c3
    simpa [this] using h
theorem t_hasCome {k : Nat} (hb : b ≤ 1032) (hk : k ≤ 5) (h : Q (if vCome V k = true then 1 else 0)) : w_X10_hasCome o (nI b) (nI k) (kb I (o + 1) b V) Q := by
  unfold w_X10_hasCome
  simp only [lit, nI_add, pk_mul]
  refine ⟨inn (by omega) (by omega), t_queueAt ?_⟩
  simp only [nI_add]
  unfold vCome at h
  rw [ixn (show b + 170 < _ by omega), ixn (show b + 252 + 19 * 0 + 2 + 3 * k < _ by omega), ixn (show b + 0 < _ by omega), show b + 252 + 19 * 0 + 2 + 3 * k = b + (254 + 3 * k) by omega, kb_at _ _ _ _ (show 170 < 516 by omega), kb_at _ _ _ _ (show 254 + 3 * k < 516 by omega), kb_at _ _ _ _ (show 0 < 516 by omega)]
  refine ⟨inn (by omega) (by omega), inn (by omega) (by omega), fun c => ?_, fun c => ?_⟩
  · have : ¬ V 0 ≤ V 170 - V (254 + 3 * k) := Int32.not_le.mpr c
    simpa [this, nI] using h
  · have : V 0 ≤ V 170 - V (254 + 3 * k) := Int32.not_lt.mp c
    simpa [this, nI] using h
theorem t_pushes {q : Nat} {x y z : Int32} (hb : b ≤ 1032) (hq : q ≤ 5) (hn : bd (V (252 + 19 * q)) 6) (h : P (kb I (o + 1) b (vPush V q x y z))) : w_X10_pushes o (nI b) (nI q) x y z (kb I (o + 1) b V) P := by
  obtain ⟨e, hl⟩ := bd_ix hn (by omega)
  unfold w_X10_pushes
  refine t_queueAt (t_inQueue hb hq ?_)
  intro at0 e0
  unfold vPush at h
  generalize hg : ix (V (252 + 19 * q)) = n at h hl e
  rw [e] at e0
  simp only [lit, nI_add, pk_mul] at e0
  have e1 : at0 = nI (b + (253 + 19 * q + 3 * n)) := by rw [e0]; congr 1; omega
  subst e1
  simp only [lit, nI_add]
  refine ⟨inn (by omega) (by omega), ?_⟩
  rintro _ rfl
  refine ⟨inn (by omega) (by omega), ?_⟩
  rintro _ rfl
  refine ⟨inn (by omega) (by omega), ?_⟩
  rintro _ rfl
  refine t_queueAt ⟨inn (by omega) (by omega), inn (by omega) (by omega), ?_⟩
  rintro _ rfl
  rw [ixn (show b + (253 + 19 * q + 3 * n) < _ by omega), kb_up _ _ _ _ (by omega), ixn (show b + (253 + 19 * q + 3 * n) + 1 < _ by omega), show b + (253 + 19 * q + 3 * n) + 1 = b + (254 + 19 * q + 3 * n) by omega, kb_up _ _ _ _ (by omega), ixn (show b + (253 + 19 * q + 3 * n) + 2 < _ by omega), show b + (253 + 19 * q + 3 * n) + 2 = b + (255 + 19 * q + 3 * n) by omega, kb_up _ _ _ _ (by omega), ixn (show b + 252 + 19 * q < _ by omega), show b + 252 + 19 * q = b + (252 + 19 * q) by omega, kb_up _ _ _ _ (by omega), kb_at _ _ _ _ (by omega), upd_n _ _ (by omega), upd_n _ _ (by omega), upd_n _ _ (by omega)]
  exact h
/-- one step of the shift -/
def vShift (V : Nat → Int32) (q n : Nat) : Nat → Int32 := fun j => if 253 + 19 * q ≤ j ∧ j < 253 + 19 * q + n then V (j + 3) else V j
theorem vShift_s (V : Nat → Int32) (q n : Nat) : upd (vShift V q n) (253 + 19 * q + n) (V (256 + 19 * q + n)) = vShift V q (n + 1) := by
  funext j
  unfold upd vShift
  by_cases h : j = 253 + 19 * q + n
  · rw [if_pos h, if_pos (by omega), h, show 253 + 19 * q + n + 3 = 256 + 19 * q + n by omega]
  · rw [if_neg h]
    by_cases h2 : 253 + 19 * q ≤ j ∧ j < 253 + 19 * q + n
    · rw [if_pos h2, if_pos (by omega)]
    · rw [if_neg h2, if_neg (by omega)]
theorem t_takes {q : Nat} {S : Int32 → MI → Prop} (hb : b ≤ 1032) (hq : q ≤ 5) (h : S (V (253 + 19 * q)) (kb I (o + 1) b (vTake V q))) : w_X10_takes o (nI b) (nI q) (kb I (o + 1) b V) S := by
  unfold w_X10_takes
  refine t_first (k := 0) hb hq (by omega) (t_queueAt ?_)
  intro x5 e5
  simp only [lit, nI_add] at e5
  subst e5
  refine Lp2.of (fun x J => ∃ n, n ≤ 15 ∧ x = nI (b + 253 + 19 * q + n) ∧ J = kb I (o + 1) b (vShift V q n)) (fun x _ => b + 300 + 19 * q - ix x) ?_ _ _ ⟨0, by omega, by congr 1; omega, by
    congr 1; funext j; unfold vShift; rw [if_neg (by omega)]⟩
  rintro k x J ⟨n, hn, rfl, rfl⟩ hk
  unfold w_X10_takes_l21
  simp only [lit, nI_add]
  refine ⟨fun c => ?_, fun c => ?_⟩
  · have c := (nI_leI (by omega) (by omega)).mp c
    have e : n = 15 := by omega
    subst e
    refine ⟨inn (by omega) (by omega), inn (by omega) (by omega), ?_⟩
    rintro _ rfl
    rw [ixn (by omega), show b + 252 + 19 * q = b + (252 + 19 * q) by omega, kb_up _ _ _ _ (by omega), kb_at _ _ _ _ (by omega)]
    have e2 : upd (vShift V q 15) (252 + 19 * q) (vShift V q 15 (252 + 19 * q) - nI 1) = vTake V q := by
      funext j
      unfold upd vShift vTake
      by_cases h1 : j = 252 + 19 * q
      · subst h1
        rw [if_pos rfl, if_neg (by omega), if_neg (by omega), if_pos rfl]
        rfl
      · rw [if_neg h1, if_neg h1]
        by_cases h2 : 253 + 19 * q ≤ j ∧ j < 253 + 19 * q + 15
        · rw [if_pos h2, if_pos (by omega)]
        · rw [if_neg h2, if_neg (by omega)]
    rw [e2]
    exact h
  · have c : ¬ b + 252 + 19 * q + 16 ≤ b + 253 + 19 * q + n := fun e => c ((nI_leI (by omega) (by omega)).mpr e)
    refine ⟨inn (by omega) (by omega), inn (by omega) (by omega), ?_⟩
    rintro _ rfl
    rw [ixn (show b + 253 + 19 * q + n < _ by omega), ixn (show b + 253 + 19 * q + n + 3 < _ by omega), show b + 253 + 19 * q + n = b + (253 + 19 * q + n) by omega, show b + (253 + 19 * q + n) + 3 = b + (256 + 19 * q + n) by omega, kb_up _ _ _ _ (by omega), kb_at _ _ _ _ (by omega)]
    refine hk _ _ ⟨n + 1, by omega, ?_, ?_⟩ ?_
    · congr 1; omega
    · rw [← vShift_s]
      congr 2
      unfold vShift
      rw [if_neg (by omega)]
    · rw [ixn (by omega), ixn (by omega)]; omega
theorem t_isStored {c : Int32} (hb : b ≤ 1032) (hn : bd (V 271) 7) (h : Q (if vStored V c = true then 1 else 0)) : w_X10_isStored o (nI b) c (kb I (o + 1) b V) Q := by
  obtain ⟨e, hl⟩ := bd_ix hn (by omega)
  unfold w_X10_isStored
  have hbad : ∀ n, n ≤ ix (V 271) → (∀ k, k < n → V (272 + 3 * k) ≠ c) → n = ix (V 271) → vStored V c ≠ true := by
    intro n hn hk en
    unfold vStored
    simp only [ne_eq, decide_eq_true_eq, not_exists, not_and]
    intro k hk2
    exact hk k (by omega)
  refine Lp1.of (fun x => ∃ n, n ≤ ix (V 271) ∧ x = nI n ∧ ∀ k, k < n → V (272 + 3 * k) ≠ c) (fun x => 10 - ix x) ?_ _ ⟨0, by omega, rfl, fun k hk => by omega⟩
  rintro k x ⟨n, hn, rfl, hne⟩ hrec
  unfold w_X10_isStored_l2
  refine t_inQueue (q := 1) hb (by omega) ?_
  simp only [show 252 + 19 * 1 = 271 by omega]
  rw [e]
  refine ⟨fun c2 => ?_, fun c2 => ?_⟩
  · have c2 := (nI_leI (by omega) (by omega)).mp c2
    rw [if_neg (hbad n hn hne (by omega))] at h
    exact h
  · have c2 : ¬ ix (V 271) ≤ n := fun e => c2 ((nI_leI (by omega) (by omega)).mpr e)
    refine t_queueAt (q := 1) ?_
    simp only [lit, nI_add, pk_mul]
    rw [ixn (by omega), show b + 252 + 19 * 1 + 1 + 3 * n = b + (272 + 3 * n) by omega, kb_at _ _ _ _ (by omega)]
    refine ⟨inn (by omega) (by omega), fun c3 => ?_, fun c3 => ?_⟩
    · refine hrec _ ⟨n + 1, by omega, rfl, fun k hk => ?_⟩ ?_
      · by_cases hkn : k = n
        · subst hkn; exact c3
        · exact hne k (by omega)
      · rw [ixn (by omega), ixn (by omega)]; omega
    · have : vStored V c = true := by
        unfold vStored
        simp only [decide_eq_true_eq]
        exact ⟨n, by omega, c3⟩
      rw [if_pos this] at h
      exact h
end
