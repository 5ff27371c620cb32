/-! the model's line: what is laid on it -/
def MlT (o : Nat) (I : MI) (t : List Nat) : Prop := I o 9 = nI t.length ∧ ∀ j c, t[j]? = some c → I (o + 4) j = nI c
def MlF (o : Nat) (I I' : MI) : Prop := (∀ c, c ≠ o → c ≠ o + 4 → I' c = I c) ∧ ∀ k, k ≠ 9 → I' o k = I o k
def Ml (o : Nat) (V : Nat → Int32) (I0 I : MI) (t : List Nat) : Prop := MlT o I t ∧ MlF o I0 I ∧ ∃ J, I = kb J (o + 1) 0 V
theorem kb_u {J : MI} {A b c k : Nat} {V : Nat → Int32} {x : Int32} (h : c ≠ A) : ui (kb J A b V) c k x = kb (ui J c k x) A b V := by
  funext d
  by_cases hd : d = c
  · subst hd; rw [ui_at, kb_ne _ _ h, kb_ne _ _ h, ui_at]
  · rw [ui_ne _ _ _ hd]
    by_cases h2 : d = A
    · subst h2
      unfold kb
      rw [if_pos rfl, if_pos rfl, ui_ne _ _ _ hd]
    · rw [kb_ne _ _ h2, kb_ne _ _ h2, ui_ne _ _ _ hd]
section
variable {o : Nat} {V : Nat → Int32} {I0 I : MI} {t : List Nat} {Q : MI → Prop}
theorem s_lays {c : Nat} {x : Int32} (h : Ml o V I0 I t) (hl : t.length < 24) (hx : x = nI c) (hQ : ∀ I', Ml o V I0 I' (t ++ [c]) → Q I') : w_X10_lays o x I Q := by
  obtain ⟨⟨h1, h2⟩, ⟨f1, f2⟩, J, hJ⟩ := h
  subst hx
  unfold w_X10_lays
  rw [h1, ixn (by omega)]
  refine ⟨inn hl (by omega), fun I3 e3 I4 e4 => ?_⟩
  have e9 : I3 o 9 = nI t.length := by rw [e3, ui_gn _ _ _ _ (by omega)]; exact h1
  rw [e9] at e4
  refine hQ I4 ⟨⟨?_, fun j d hj => ?_⟩, ⟨fun d d1 d2 => ?_, fun k hk => ?_⟩, ui (ui J (o + 4) t.length (nI c)) o 9 (nI t.length + 1), ?_⟩
  · rw [e4, ui_gs, List.length_append]; exact nI_add _ 1
  · rw [e4, ui_gn _ _ _ _ (by omega), e3]
    rcases Nat.lt_or_ge j t.length with q | q
    · rw [ui_gj _ _ _ (by omega)]
      rw [List.getElem?_append_left q] at hj
      exact h2 j d hj
    · rw [List.getElem?_append_right q] at hj
      have hj0 : j - t.length = 0 := by
        have := (List.getElem?_eq_some_iff.mp hj).1
        simp at this; omega
      rw [hj0] at hj
      cases hj
      rw [show j = t.length by omega, ui_gs]
  · rw [e4, ui_ne _ _ _ d1, e3, ui_ne _ _ _ d2]; exact f1 d d1 d2
  · rw [e4, ui_gj _ _ _ hk, e3, ui_gn _ _ _ _ (by omega)]; exact f2 k hk
  · rw [e4, e3, hJ, kb_u (by omega), kb_u (by omega)]
theorem s_letter {r : Nat} {x : Int32} (h : Ml o V I0 I t) (hl : t.length + 2 ≤ 24) (hx : x = nI r) (hQ : ∀ I', Ml o V I0 I' (t ++ [32, 97 + r]) → Q I') : w_X10_letter o x I Q := by
  unfold w_X10_letter
  refine s_lays (c := 32) h (by omega) rfl (fun I1 h1 => ?_)
  refine s_lays (c := 97 + r) h1 (by rw [List.length_append]; simp; omega) (by rw [hx]; exact nI_add 97 r) (fun I2 h2 => ?_)
  rw [List.append_assoc] at h2
  exact hQ I2 h2
theorem dg1000 : ∀ n, n < 1000 → (nI n ≤ 9 ↔ n ≤ 9) ∧ (nI n ≤ 99 ↔ n ≤ 99) ∧ 48 + (nI n - nI n / 10 * 10) = nI (48 + n % 10) ∧ 48 + (nI n / 10 - nI n / 10 / 10 * 10) = nI (48 + n / 10 % 10) ∧ 48 + nI n / 100 = nI (48 + n / 100) := by decide +kernel
theorem s_number {n : Nat} {x : Int32} (h : Ml o V I0 I t) (hl : t.length + 4 ≤ 24) (hn : n < 1000) (hx : x = nI n) (hQ : ∀ I', Ml o V I0 I' (t ++ (32 :: decs n)) → Q I') : w_X10_number o x I Q := by
  subst hx
  obtain ⟨e1, e2, e3, e4, e5⟩ := dg1000 n hn
  unfold w_X10_number
  refine s_lays (c := 32) h (by omega) rfl (fun I1 h1 => ?_)
  have l1 : (t ++ [32]).length = t.length + 1 := by simp
  refine ⟨fun c => ?_, fun c => ?_⟩
  · have c2 := e2.mp c
    unfold w_X10_number_p23
    refine ⟨fun d => ?_, fun d => ?_⟩
    · have d2 := e1.mp d
      refine s_lays (c := 48 + n) h1 (by omega) (by rw [e3, Nat.mod_eq_of_lt (by omega)]) (fun I2 h2 => hQ I2 ?_)
      rw [List.append_assoc] at h2
      unfold decs
      rw [if_pos (by omega)]; exact h2
    · have d2 : ¬ n ≤ 9 := fun q => d (e1.mpr q)
      refine s_lays (c := 48 + n / 10) h1 (by omega) (by rw [e4, Nat.mod_eq_of_lt (by omega)]) (fun I2 h2 => ?_)
      refine s_lays (c := 48 + n % 10) h2 (by rw [List.length_append]; simp; omega) e3 (fun I3 h3 => hQ I3 ?_)
      rw [List.append_assoc, List.append_assoc] at h3
      unfold decs
      rw [if_neg (by omega), if_pos (by omega)]; exact h3
  · have c2 : ¬ n ≤ 99 := fun q => c (e2.mpr q)
    refine s_lays (c := 48 + n / 100) h1 (by omega) e5 (fun I2 h2 => ?_)
    unfold w_X10_number_p23
    refine ⟨fun d => absurd (e1.mp d) (by omega), fun d => ?_⟩
    refine s_lays (c := 48 + n % 100 / 10) h2 (by rw [List.length_append]; simp; omega) (by rw [e4]; congr 1; omega) (fun I3 h3 => ?_)
    refine s_lays (c := 48 + n % 100 % 10) h3 (by rw [List.length_append, List.length_append]; simp; omega) (by rw [e3]; congr 1; omega) (fun I4 h4 => hQ I4 ?_)
    rw [List.append_assoc, List.append_assoc, List.append_assoc] at h4
    unfold decs
    rw [if_neg (by omega), if_neg (by omega)]; exact h4
/-- a word's bytes -/
def wby (y : Int64) (i : Nat) : Int64 := (y >>> (Int32.toInt64 (nI (56 - 8 * i)) &&& 63)) &&& 255
def wbc (y : Int64) (i : Nat) : List Nat := if lg_cmp (wby y i) 0 = 0 then [] else [ix (Int64.toInt32 (wby y i))]
def wbs (y : Int64) : Nat → List Nat
  | 0 => []
  | i + 1 => wbs y i ++ wbc y i
def wOK (y : Int64) : Prop := ∀ i, i < 8 → Int64.toInt32 (wby y i) = nI (ix (Int64.toInt32 (wby y i)))
theorem wbs_le (y : Int64) : ∀ i, (wbs y i).length ≤ i
  | 0 => Nat.le_refl _
  | i + 1 => by
    have := wbs_le y i
    show (wbs y i ++ wbc y i).length ≤ _
    rw [List.length_append]
    unfold wbc
    split <;> simp <;> omega
theorem s_word {y : Int64} (h : Ml o V I0 I t) (hl : t.length + 8 ≤ 24) (hy : wOK y) (hQ : ∀ I', Ml o V I0 I' (t ++ wbs y 8) → Q I') : w_X10_word o y I Q := by
  unfold w_X10_word
  refine Lp2.of (fun x J => ∃ i, i ≤ 8 ∧ x = nI 56 - nI (8 * i) ∧ Ml o V I0 J (t ++ wbs y i)) (fun x J => ix (x + 8)) ?_ _ _ ⟨0, by omega, rfl, by show Ml o V I0 I (t ++ []); rw [List.append_nil]; exact h⟩
  rintro rec x J ⟨i, hi, rfl, hJ⟩ hrec
  unfold w_X10_word_l3
  rcases Nat.lt_or_ge i 8 with q | q
  · have e8 : nI 56 - nI (8 * i) = nI (56 - 8 * i) := nI_sub (by omega)
    rw [e8]
    refine ⟨fun c => absurd c (nI_pos (by omega)), fun _ => ?_⟩
    have en : nI (56 - 8 * i) + (-8) = nI 56 - nI (8 * (i + 1)) := by
      rcases (show i = 0 ∨ i = 1 ∨ i = 2 ∨ i = 3 ∨ i = 4 ∨ i = 5 ∨ i = 6 ∨ i = 7 by omega) with rfl | rfl | rfl | rfl | rfl | rfl | rfl | rfl <;> decide
    have em : ix (nI 56 - nI (8 * (i + 1)) + 8) < ix (nI (56 - 8 * i) + 8) := by
      rcases (show i = 0 ∨ i = 1 ∨ i = 2 ∨ i = 3 ∨ i = 4 ∨ i = 5 ∨ i = 6 ∨ i = 7 by omega) with rfl | rfl | rfl | rfl | rfl | rfl | rfl | rfl <;> decide
    refine ⟨fun c => ?_, fun c => ?_⟩
    · rw [en]
      refine hrec _ _ ⟨i + 1, by omega, rfl, ?_⟩ (by rw [e8]; exact em)
      show Ml o V I0 J (t ++ (wbs y i ++ wbc y i))
      have ew : wbc y i = [] := if_pos c
      rw [ew, List.append_nil]; exact hJ
    · have hle := wbs_le y i
      refine s_lays (c := ix (Int64.toInt32 (wby y i))) hJ (by rw [List.length_append]; omega) (hy i q) (fun I3 h3 => ?_)
      rw [en]
      refine hrec _ _ ⟨i + 1, by omega, rfl, ?_⟩ (by rw [e8]; exact em)
      show Ml o V I0 I3 (t ++ (wbs y i ++ wbc y i))
      have ew : wbc y i = [ix (Int64.toInt32 (wby y i))] := if_neg c
      rw [ew, ← List.append_assoc]; exact h3
  · have : i = 8 := by omega
    subst this
    exact ⟨fun _ => hQ J hJ, fun c => absurd (by decide) c⟩
theorem s_of {i k : Nat} {S : Int32 → Prop} (h : Ml o V I0 I t) (hi : i ≤ 24) (hk : k ≤ 4) (hq : S (V (50 + 5 * i + k))) : w_X10_of o 0 (nI i) (nI k) I S := by
  obtain ⟨-, -, J, rfl⟩ := h
  exact t_of' (b := 0) (by omega) hi hk hq
theorem s_opOf {i : Nat} {S : Int32 → Prop} (h : Ml o V I0 I t) (hi : i ≤ 24) (hq : S (vOp V i)) : w_X10_opOf o 0 (nI i) I S := by
  obtain ⟨-, -, J, rfl⟩ := h
  exact t_opOf (b := 0) (by omega) hi hq
end
