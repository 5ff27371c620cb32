/-! class's and model's tokens are alike -/
theorem fold_lt : ∀ (l : List Nat) (v : Nat), (∀ b ∈ l, b < 256) → l.foldl (fun v b => v * 256 + b) v < (v + 1) * 256 ^ l.length
  | [], v, _ => by show v < (v + 1) * 256 ^ 0; omega
  | b :: r, v, h => by
    have hb := h b (List.mem_cons_self ..)
    have ih := fold_lt r (v * 256 + b) (fun x hx => h x (List.mem_cons_of_mem _ hx))
    show r.foldl _ (v * 256 + b) < (v + 1) * 256 ^ (r.length + 1)
    have : (v * 256 + b + 1) * 256 ^ r.length ≤ (v + 1) * 256 ^ (r.length + 1) := by
      rw [Nat.pow_succ, ← Nat.mul_assoc, Nat.mul_right_comm]
      exact Nat.mul_le_mul_right _ (by omega)
    omega
theorem fold_ge : ∀ (l : List Nat) (v : Nat), v * 256 ^ l.length ≤ l.foldl (fun v b => v * 256 + b) v
  | [], v => by show v * 256 ^ 0 ≤ v; omega
  | b :: r, v => by
    have ih := fold_ge r (v * 256 + b)
    show v * 256 ^ (r.length + 1) ≤ r.foldl _ (v * 256 + b)
    have : v * 256 ^ (r.length + 1) ≤ (v * 256 + b) * 256 ^ r.length := by
      rw [Nat.pow_succ, Nat.mul_comm (256 ^ r.length) 256, ← Nat.mul_assoc]
      exact Nat.mul_le_mul_right _ (by omega)
    omega
def pkR : List Nat → Nat
  | [] => 0
  | b :: r => pkR r * 256 + b
theorem pkR_snoc (b : Nat) : ∀ (l : List Nat) (v : Nat), l.foldl (fun v b => v * 256 + b) v = pkR (l.reverse) + v * 256 ^ l.length := by
  intro l
  induction l with
  | nil => intro v; show v = 0 + v * 256 ^ 0; omega
  | cons b r ih =>
    intro v
    have app : ∀ (l : List Nat) (b : Nat), pkR (l ++ [b]) = pkR l + b * 256 ^ l.length := fun l => by
      induction l with
      | nil => intro b; show 0 * 256 + b = 0 + b * 256 ^ 0; omega
      | cons c s ih =>
        intro b
        show pkR (s ++ [b]) * 256 + c = pkR s * 256 + c + b * 256 ^ (s.length + 1)
        rw [ih b, Nat.pow_succ, Nat.add_mul, Nat.mul_assoc]; omega
    show r.foldl _ (v * 256 + b) = pkR ((b :: r).reverse) + v * 256 ^ (r.length + 1)
    rw [ih (v * 256 + b), List.reverse_cons, app, List.length_reverse, Nat.add_mul, Nat.pow_succ, Nat.mul_comm (256 ^ r.length) 256, ← Nat.mul_assoc]; omega
theorem pkv_R (l : List Nat) : pkv l = pkR l.reverse := by
  unfold pkv
  rw [pkR_snoc 0 l 0]; omega
theorem pkR_inj : ∀ (l m : List Nat), (∀ b ∈ l, 0 < b ∧ b < 256) → (∀ b ∈ m, 0 < b ∧ b < 256) → pkR l = pkR m → l = m
  | [], [], _, _, _ => rfl
  | [], c :: s, _, h2, h => by
    have := h2 c (List.mem_cons_self ..)
    have h : 0 = pkR s * 256 + c := h
    omega
  | b :: r, [], h1, _, h => by
    have := h1 b (List.mem_cons_self ..)
    have h : pkR r * 256 + b = 0 := h
    omega
  | b :: r, c :: s, h1, h2, h => by
    have a1 := h1 b (List.mem_cons_self ..)
    have a2 := h2 c (List.mem_cons_self ..)
    have h : pkR r * 256 + b = pkR s * 256 + c := h
    have e : b = c := by omega
    have e2 : pkR r = pkR s := by omega
    rw [e, pkR_inj r s (fun x hx => h1 x (List.mem_cons_of_mem _ hx)) (fun x hx => h2 x (List.mem_cons_of_mem _ hx)) e2]
theorem pkv_inj {l m : List Nat} (h1 : ∀ b ∈ l, 0 < b ∧ b < 256) (h2 : ∀ b ∈ m, 0 < b ∧ b < 256) (h : pkv l = pkv m) : l = m := by
  rw [pkv_R, pkv_R] at h
  have := pkR_inj l.reverse m.reverse (fun b hb => h1 b (List.mem_reverse.mp hb)) (fun b hb => h2 b (List.mem_reverse.mp hb)) h
  exact List.reverse_inj.mp this
theorem wl_b : ∀ j, j < 20 → ∀ b ∈ WL j, 0 < b ∧ b < 256 := by decide +kernel
theorem wl_no : ∀ j, j < 20 → wno (WL j) = j := by decide +kernel
theorem wl_pk : ∀ j, j < 20 → 255 < pkv (WL j) ∧ pkv (WL j) < 2 ^ 63 := by decide +kernel
theorem wnoR_is (l : List Nat) : ∀ d j, wnoR l d j = j + d ∨ (j ≤ wnoR l d j ∧ wnoR l d j < j + d ∧ WL (wnoR l d j) = l)
  | 0, j => Or.inl rfl
  | d + 1, j => by
    by_cases c : WL j = l
    · have e : wnoR l (d + 1) j = j := if_pos c
      right; rw [e]; exact ⟨Nat.le_refl _, by omega, c⟩
    · have e : wnoR l (d + 1) j = wnoR l d (j + 1) := if_neg c
      rw [e]
      rcases wnoR_is l d (j + 1) with q | ⟨q1, q2, q3⟩
      · left; omega
      · right; exact ⟨by omega, by omega, q3⟩
theorem wno_is (l : List Nat) : wno l = 20 ∨ (wno l < 20 ∧ WL (wno l) = l) := by
  rcases wnoR_is l 20 0 with q | ⟨_, q2, q3⟩
  · left; exact q
  · right; exact ⟨by unfold wno; omega, q3⟩
section
variable {T : Nat → Nat} {L k : Nat}
abbrev tsk (T : Nat → Nat) (L k : Nat) : Nat := tsP T L (pos T L k)
abbrev twk (T : Nat → Nat) (L k : Nat) : Nat := twP T L (pos T L k)
/-- a token of letters, not too long -/
theorem let_all (hp : pos T L k < L) (hl : isLt (T (pos T L k)) = true) : ∀ j, pos T L k ≤ j → j < te T L k → 97 ≤ T j ∧ T j ≤ 122 := fun j h1 h2 => by
  have ee : te T L k = runE isLt T L (pos T L k + 1) := by unfold te tkE; rw [if_neg (by omega), if_pos hl]
  have : isLt (T j) = true := by
    by_cases e : j = pos T L k
    · rw [e]; exact hl
    · exact runE_in (p := pos T L k + 1) (by omega) (by rw [← ee]; exact h2)
  unfold isLt at this
  exact of_decide_eq_true this
theorem let_byts (hp : pos T L k < L) (hl : isLt (T (pos T L k)) = true) : ∀ b ∈ byts T (pos T L k) (te T L k), 97 ≤ b ∧ b ≤ 122 := fun b hb => by
  unfold byts at hb
  obtain ⟨i, hi, rfl⟩ := List.mem_map.mp hb
  rw [List.mem_range] at hi
  exact let_all hp hl _ (by omega) (by omega)
/-- letters: what class and model have of them -/
theorem let_pk (hp : pos T L k < L) (hl : isLt (T (pos T L k)) = true) (h8 : te T L k - pos T L k ≤ 8) : twk T L k = pkv (byts T (pos T L k) (te T L k)) ∧ twk T L k < 2 ^ 63 ∧ (te T L k - pos T L k = 1 → twk T L k = T (pos T L k)) ∧ (te T L k - pos T L k ≠ 1 → 255 < twk T L k) := by
  have tg := te_gt hp
  have e0 : twk T L k = pkv (byts T (pos T L k) (te T L k)) := by unfold twk twP; rw [if_pos hl]; rfl
  have hb := let_byts hp hl
  have hlen : (byts T (pos T L k) (te T L k)).length = te T L k - pos T L k := byts_len
  cases hc : byts T (pos T L k) (te T L k) with
  | nil => rw [hc] at hlen; have : (0 : Nat) = te T L k - pos T L k := hlen; omega
  | cons b r =>
    rw [hc] at hlen hb e0
    have hlen : r.length + 1 = te T L k - pos T L k := hlen
    have b1 := hb b (List.mem_cons_self ..)
    have e1 : pkv (b :: r) = r.foldl (fun v b => v * 256 + b) (0 * 256 + b) := rfl
    have u1 := fold_lt r (0 * 256 + b) (fun x hx => by have := hb x (List.mem_cons_of_mem _ hx); omega)
    have u2 := fold_ge r (0 * 256 + b)
    have hr7 : r.length ≤ 7 := by omega
    refine ⟨e0, ?_, fun h1 => ?_, fun h1 => ?_⟩
    · rw [e0, e1]
      refine Nat.lt_of_lt_of_le u1 ?_
      have p1 : 256 ^ r.length ≤ 256 ^ 7 := Nat.pow_le_pow_right (by omega) hr7
      have p2 : (0 * 256 + b + 1) * 256 ^ r.length ≤ 123 * 256 ^ 7 := Nat.mul_le_mul (by omega) p1
      exact Nat.le_trans p2 (by decide)
    · have hr0 : r = [] := List.eq_nil_of_length_eq_zero (by omega)
      have g := byts_get (T := T) (p := pos T L k) (e := te T L k) (i := 0) (by omega)
      rw [hc] at g
      have g : b = T (pos T L k + 0) := g
      rw [e0, e1, hr0, g]
      show 0 * 256 + T (pos T L k + 0) = _
      rw [Nat.add_zero, Nat.zero_mul, Nat.zero_add]
    · rw [e0, e1]
      refine Nat.lt_of_lt_of_le ?_ u2
      have p1 : 256 ^ 1 ≤ 256 ^ r.length := Nat.pow_le_pow_right (by omega) (by omega)
      have p2 : 97 * 256 ^ 1 ≤ (0 * 256 + b) * 256 ^ r.length := Nat.mul_le_mul (by omega) p1
      have p3 : 255 < 97 * 256 ^ 1 := by decide
      omega
/-- one token: the class's kind beside the model's sort -/
def Alk (T : Nat → Nat) (L k : Nat) : Prop :=
  (tkd T L k = 6 ∧ tsk T L k = 0) ∨ (tkd T L k = 0 ∧ tsk T L k = 4) ∨ (tkd T L k = 0 ∧ tsk T L k = 1 ∧ 104 < twk T L k ∧ twk T L k ≤ 255) ∨ (tkd T L k = 4 ∧ tsk T L k = 2 ∧ tvN T L k = twk T L k ∧ tvN T L k < 1000) ∨ (tkd T L k = 5 ∧ tsk T L k = 3 ∧ tvN T L k = twk T L k ∧ 58 ≤ tvN T L k ∧ tvN T L k ≤ 62)
  ∨ (tkd T L k = 2 ∧ tsk T L k = 1 ∧ tvN T L k < 8 ∧ twk T L k = tvN T L k + 97) ∨ (tkd T L k = 1 ∧ tsk T L k = 1 ∧ tvN T L k < 20 ∧ twk T L k = pkv (WL (tvN T L k)) ∧ te T L k - pos T L k = (WL (tvN T L k)).length)
  ∨ (tkd T L k = 3 ∧ tsk T L k = 1 ∧ 255 < twk T L k ∧ twk T L k < 2 ^ 63 ∧ (∀ j, j < 20 → ¬ twk T L k = pkv (WL j)) ∧ 2 ≤ te T L k - pos T L k ∧ te T L k - pos T L k ≤ 8)
theorem dgv_lt : ∀ (l : List Nat) (v : Nat), (∀ b ∈ l, b ≤ 57) → l.foldl (fun v b => v * 10 + (b - 48)) v < (v + 1) * 10 ^ l.length
  | [], v, _ => by show v < (v + 1) * 10 ^ 0; omega
  | b :: r, v, h => by
    have hb := h b (List.mem_cons_self ..)
    have ih := dgv_lt r (v * 10 + (b - 48)) (fun x hx => h x (List.mem_cons_of_mem _ hx))
    show r.foldl _ (v * 10 + (b - 48)) < (v + 1) * 10 ^ (r.length + 1)
    have : (v * 10 + (b - 48) + 1) * 10 ^ r.length ≤ (v + 1) * 10 ^ (r.length + 1) := by
      rw [Nat.pow_succ, ← Nat.mul_assoc, Nat.mul_right_comm]
      exact Nat.mul_le_mul_right _ (by omega)
    omega
theorem alk (T : Nat → Nat) (L k : Nat) : Alk T L k := by
  unfold Alk
  by_cases hp : pos T L k < L
  · have tg := te_gt hp
    by_cases hl : isLt (T (pos T L k)) = true
    · have hr : 97 ≤ T (pos T L k) ∧ T (pos T L k) ≤ 122 := by unfold isLt at hl; exact of_decide_eq_true hl
      have kd : tkd T L k = (if 8 < te T L k - pos T L k then 0 else if te T L k - pos T L k = 1 then (if T (pos T L k) ≤ 104 then 2 else 0) else if wno (byts T (pos T L k) (te T L k)) = 20 then 3 else 1) := by
        unfold tkd; rw [if_neg (by omega), if_pos hl]
      have tv : tvN T L k = (if te T L k - pos T L k = 1 then T (pos T L k) - 97 else wno (byts T (pos T L k) (te T L k))) := by
        unfold tvN; rw [if_pos hl]
      have ts : tsk T L k = (if 8 < te T L k - pos T L k then 4 else 1) := by
        unfold tsk tsP; rw [if_neg (by omega), if_pos hl]; rfl
      by_cases h8 : 8 < te T L k - pos T L k
      · rw [if_pos h8] at kd ts
        exact Or.inr (Or.inl ⟨kd, ts⟩)
      · rw [if_neg h8] at kd ts
        obtain ⟨a1, a2, a3, a4⟩ := let_pk hp hl (by omega)
        by_cases h1 : te T L k - pos T L k = 1
        · rw [if_pos h1] at kd tv
          have a3 := a3 h1
          by_cases h2 : T (pos T L k) ≤ 104
          · rw [if_pos h2] at kd
            exact Or.inr (Or.inr (Or.inr (Or.inr (Or.inr (Or.inl ⟨kd, ts, by omega, by omega⟩)))))
          · rw [if_neg h2] at kd
            exact Or.inr (Or.inr (Or.inl ⟨kd, ts, by omega, by omega⟩))
        · rw [if_neg h1] at kd tv
          have a4 := a4 h1
          rcases wno_is (byts T (pos T L k) (te T L k)) with w | ⟨w1, w2⟩
          · rw [if_pos w] at kd
            refine Or.inr (Or.inr (Or.inr (Or.inr (Or.inr (Or.inr (Or.inr ⟨kd, ts, a4, a2, fun j hj e => ?_, by omega, by omega⟩))))))
            rw [a1] at e
            have := pkv_inj (fun b hb => by have := let_byts hp hl b hb; omega) (wl_b j hj) e
            rw [this, wl_no j hj] at w
            omega
          · rw [if_neg (by omega)] at kd
            refine Or.inr (Or.inr (Or.inr (Or.inr (Or.inr (Or.inr (Or.inl ⟨kd, ts, by omega, ?_, ?_⟩))))))
            · rw [tv, a1, w2]
            · rw [tv, w2]; exact byts_len.symm
    · rw [Bool.not_eq_true] at hl
      by_cases hd : isDg (T (pos T L k)) = true
      · have kd : tkd T L k = (if 3 < te T L k - pos T L k then 0 else 4) := by
          unfold tkd; rw [if_neg (by omega), hl, if_neg (by decide), if_pos hd]
        have ts : tsk T L k = (if 3 < te T L k - pos T L k then 4 else 2) := by
          unfold tsk tsP; rw [if_neg (by omega), hl, if_neg (by decide), if_pos hd]; rfl
        have tv : tvN T L k = dgv (byts T (pos T L k) (te T L k)) := by unfold tvN; rw [hl, if_neg (by decide), if_pos hd]
        have tw : twk T L k = dgv (byts T (pos T L k) (te T L k)) := by unfold twk twP; rw [hl, if_neg (by decide), if_pos hd]; rfl
        by_cases h3 : 3 < te T L k - pos T L k
        · rw [if_pos h3] at kd ts
          exact Or.inr (Or.inl ⟨kd, ts⟩)
        · rw [if_neg h3] at kd ts
          refine Or.inr (Or.inr (Or.inr (Or.inl ⟨kd, ts, by rw [tv, tw], ?_⟩)))
          have ee : te T L k = runE isDg T L (pos T L k + 1) := by unfold te tkE; rw [if_neg (by omega), hl, if_neg (by decide), if_pos hd]
          have hall : ∀ b ∈ byts T (pos T L k) (te T L k), b ≤ 57 := fun b hb => by
            unfold byts at hb
            obtain ⟨i, hi, rfl⟩ := List.mem_map.mp hb
            rw [List.mem_range] at hi
            have : isDg (T (pos T L k + i)) = true := by
              by_cases e : i = 0
              · rw [e]; exact hd
              · exact runE_in (p := pos T L k + 1) (by omega) (by rw [← ee]; omega)
            unfold isDg at this
            exact (of_decide_eq_true this).2
          have u := dgv_lt _ 0 hall
          rw [byts_len] at u
          rw [tv]
          have p1 : 10 ^ (te T L k - pos T L k) ≤ 10 ^ 3 := Nat.pow_le_pow_right (by omega) (by omega)
          have u' : dgv (byts T (pos T L k) (te T L k)) < (0 + 1) * 10 ^ (te T L k - pos T L k) := u
          have : (10 : Nat) ^ 3 = 1000 := by decide
          omega
      · rw [Bool.not_eq_true] at hd
        by_cases hs' : isSg (T (pos T L k)) = true
        · have hr : 58 ≤ T (pos T L k) ∧ T (pos T L k) ≤ 62 := by unfold isSg at hs'; exact of_decide_eq_true hs'
          have kd : tkd T L k = 5 := by unfold tkd; rw [if_neg (by omega), hl, if_neg (by decide), hd, if_neg (by decide), if_pos hs']
          have ts : tsk T L k = 3 := by unfold tsk tsP; rw [if_neg (by omega), hl, if_neg (by decide), hd, if_neg (by decide), if_pos hs']
          have tv : tvN T L k = T (pos T L k) := by unfold tvN; rw [hl, if_neg (by decide), hd, if_neg (by decide)]
          have tw : twk T L k = T (pos T L k) := by unfold twk twP; rw [hl, if_neg (by decide), hd, if_neg (by decide)]
          exact Or.inr (Or.inr (Or.inr (Or.inr (Or.inl ⟨kd, ts, by rw [tv, tw], by omega, by omega⟩))))
        · rw [Bool.not_eq_true] at hs'
          have kd : tkd T L k = 0 := by unfold tkd; rw [if_neg (by omega), hl, if_neg (by decide), hd, if_neg (by decide), hs', if_neg (by decide)]
          have ts : tsk T L k = 4 := by unfold tsk tsP; rw [if_neg (by omega), hl, if_neg (by decide), hd, if_neg (by decide), hs', if_neg (by decide)]
          exact Or.inr (Or.inl ⟨kd, ts⟩)
  · have kd : tkd T L k = 6 := by unfold tkd; rw [if_pos (by omega)]
    have ts : tsk T L k = 0 := by unfold tsk tsP; rw [if_pos (by omega)]
    exact Or.inl ⟨kd, ts⟩
end
