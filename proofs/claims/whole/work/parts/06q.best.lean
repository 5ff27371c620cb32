section
variable {a : Nat} {I : MI} {V : Nat → Int32}
theorem kb_swap (J : MI) (A : Nat) (V V' : Nat → Int32) : kb (kb J A 0 V) A 516 V' = kb (kb J A 516 V') A 0 V := by
  funext c j
  unfold kb
  split
  · simp only [if_true]
    by_cases q : 516 ≤ j ∧ j < 516 + 516
    · rw [if_pos q, if_neg (by omega), if_pos q]
    · rw [if_neg q]
      by_cases q2 : 0 ≤ j ∧ j < 0 + 516
      · rw [if_pos q2, if_pos q2]
      · rw [if_neg q2, if_neg q2, if_neg q]
  · rfl
theorem Inv.tfr {I' : MI} (h : Inv a I V) (hF : TFr a I I') : Inv a I' V := by
  obtain ⟨h1, h2, h3, h4, h5⟩ := h
  have f : ∀ c, c < a + 111 → I' c = I c := fun c hc => hF c (by omega)
  refine ⟨⟨h1.1.fr (fun c _ _ => f c (by omega)) VFr.rf, h1.2.1.fr h1.1.2.1 (fun c _ _ => f c (by omega)) VFr.rf, h1.2.2.1.fr (f _ (by omega)) (f _ (by omega)) (fun k _ _ => by rw [f _ (by omega)]) (fun _ _ => rfl), fun q hq => (h1.2.2.2.1 q hq).fr (fun d hd => f _ (by omega)) rfl (fun _ _ => rfl), fun s hs => (h1.2.2.2.2 s hs).fr h1.1.2.1 hs (fun d hd => f _ (by omega)) VFr.rf (fun _ _ _ => rfl) (fun _ _ => rfl)⟩, h2.fr (fun c _ _ => f c (by omega)) (fun _ _ => rfl), fun s hs => by rw [f _ (by omega)]; exact h3 s hs, h4, h5⟩
end
