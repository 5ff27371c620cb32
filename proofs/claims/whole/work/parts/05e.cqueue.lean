/-! the class's queues -/
def qAdd (I : MI) (a f n : Nat) (x mk : Int32) : MI := ui (ui (ui I (a + 1) ((f + n) % 6) x) (a + 2) ((f + n) % 6) mk) a 3 (nI (n + 1))
def qTake (I : MI) (a f n : Nat) : MI := ui (ui I a 2 (nI ((f + 1) % 6))) a 3 (nI (n - 1))
theorem rem_nI {a d : Nat} (ha : a < 2147483648) (h0 : 0 < d) (hd : d < 2147483648) : nI a - nI a / nI d * nI d = nI (a % d) := pk_rem (by omega) h0 (by omega)
theorem rem6 {a : Nat} (ha : a < 2147483648) : nI a - nI a / (6 : Int32) * (6 : Int32) = nI (a % 6) := rem_nI (d := 6) ha (by omega) (by omega)
theorem rem32 {a : Nat} (ha : a < 2147483648) : nI a - nI a / (32 : Int32) * (32 : Int32) = nI (a % 32) := rem_nI (d := 32) ha (by omega) (by omega)
theorem sub1 {n : Nat} (h : 0 < n) : nI n - (1 : Int32) = nI (n - 1) := pk_sub (b := 1) (by omega)
theorem ui_g (I : MI) (a k b j : Nat) (v : Int32) : ui I a k v b j = if b = a then (if j = k then v else I b j) else I b j := by
  unfold ui
  by_cases h : b = a
  · rw [if_pos h, if_pos h]; rfl
  · rw [if_neg h, if_neg h]
theorem ui_gs (I : MI) (a k : Nat) (v : Int32) : ui I a k v a k = v := by rw [ui_g, if_pos rfl, if_pos rfl]
theorem ui_gj (I : MI) (a : Nat) {k j : Nat} (v : Int32) (h : j ≠ k) : ui I a k v a j = I a j := by rw [ui_g, if_pos rfl, if_neg h]
theorem ui_gn (I : MI) {a b : Nat} (k j : Nat) (v : Int32) (h : b ≠ a) : ui I a k v b j = I b j := by rw [ui_g, if_neg h]
section
variable {a n f : Nat} {I : MI} {Q : Int32 → Prop} {P : MI → Prop} {S : Int32 → MI → Prop}
theorem k_isFull (h : Q (if I a 3 < I a 4 then 0 else 1)) : w_X3_isFull a I Q := by
  unfold w_X3_isFull
  exact ⟨fun c => by rw [if_pos c] at h; exact h, fun c => by rw [if_neg c] at h; exact h⟩
theorem k_add {x mk : Int32} (hn : n < 6) (hf : f < 6) (e3 : I a 3 = nI n) (e2 : I a 2 = nI f) (h : P (qAdd I a f n x mk)) : w_X3_add a x mk I P := by
  unfold w_X3_add
  refine ⟨fun c => ?_, fun c => ?_⟩
  · rw [e3] at c
    exact absurd ((nI_leI (a := 6) (by omega) (by omega)).mp c) (by omega)
  · intro at0 e0
    rw [e3, e2, nI_add, rem6 (by omega)] at e0
    subst e0
    have hm : (f + n) % 6 < 6 := Nat.mod_lt _ (by omega)
    refine ⟨inn hm (by omega), ?_⟩
    rintro _ rfl
    refine ⟨inn hm (by omega), ?_⟩
    rintro _ rfl
    rintro _ rfl
    rw [ixn (by omega), ui_gn _ _ _ _ (by omega), ui_gn _ _ _ _ (by omega), e3, nI_1]
    exact h
theorem k_take (hn : 0 < n) (hn6 : n ≤ 6) (hf : f < 6) (e3 : I a 3 = nI n) (e2 : I a 2 = nI f) (h : S (I (a + 1) f) (qTake I a f n)) : w_X3_take a I S := by
  unfold w_X3_take
  rw [e3]
  refine ⟨fun c => ?_, fun c => ?_⟩
  · rw [e2]
    refine ⟨inn hf (by omega), ?_⟩
    intro v ev
    rw [ixn (by omega)] at ev
    subst ev
    rintro _ rfl
    rintro _ rfl
    rw [nI_1, rem6 (by omega), ui_gj _ _ _ (by omega), e3, sub1 hn]
    exact h
  · exact absurd ((nI_z (by omega)).mp c) (by omega)
def qHas (I : MI) (a f n : Nat) (x : Int32) : Bool := decide (∃ j, j < n ∧ I (a + 1) ((f + j) % 6) = x)
theorem k_holds {x : Int32} (hn : n ≤ 6) (hf : f < 6) (e3 : I a 3 = nI n) (e2 : I a 2 = nI f) (h : Q (if qHas I a f n x = true then 1 else 0)) : w_X3_holds a x I Q := by
  unfold w_X3_holds
  refine Lp1.of (fun y => ∃ k, k ≤ n ∧ y = nI k ∧ ∀ j, j < k → I (a + 1) ((f + j) % 6) ≠ x) (fun y => 10 - ix y) ?_ _ ⟨0, by omega, rfl, fun j hj => by omega⟩
  rintro rec y ⟨k, hk, rfl, hne⟩ hrec
  unfold w_X3_holds_l2
  rw [e3, e2]
  refine ⟨fun c => ?_, fun c => ?_⟩
  · have c := (nI_leI (by omega) (by omega)).mp c
    have : ¬ qHas I a f n x = true := by
      unfold qHas
      simp only [decide_eq_true_eq, not_exists, not_and]
      intro j hj
      exact hne j (by omega)
    rw [if_neg this] at h
    exact h
  · have c : ¬ n ≤ k := fun e => c ((nI_leI (by omega) (by omega)).mpr e)
    rw [nI_add, rem6 (by omega)]
    have hm : (f + k) % 6 < 6 := Nat.mod_lt _ (by omega)
    rw [ixn (by omega)]
    refine ⟨inn hm (by omega), fun c2 => ?_, fun c2 => ?_⟩
    · refine hrec _ ⟨k + 1, by omega, nI_1 k, fun j hj => ?_⟩ ?_
      · by_cases e : j = k
        · subst e; exact c2
        · exact hne j (by omega)
      · rw [nI_1, ixn (by omega), ixn (by omega)]; omega
    · have : qHas I a f n x = true := by
        unfold qHas
        simp only [decide_eq_true_eq]
        exact ⟨k, by omega, c2⟩
      rw [if_pos this] at h
      exact h
theorem k_markAt {i : Nat} (hi : i < n) (hn : n ≤ 6) (hf : f < 6) (e3 : I a 3 = nI n) (e2 : I a 2 = nI f) (h : Q (I (a + 2) ((f + i) % 6))) : w_X3_markAt a (nI i) I Q := by
  unfold w_X3_markAt
  rw [e3, e2]
  refine ⟨fun c => absurd c (nI_pos (by omega)), fun _ => ⟨fun _ => ?_, fun c => absurd (nI_lt hi (by omega)) c⟩⟩
  have hm : (f + i) % 6 < 6 := Nat.mod_lt _ (by omega)
  rw [nI_add, rem6 (by omega), ixn (by omega)]
  exact ⟨inn hm (by omega), h⟩
end
