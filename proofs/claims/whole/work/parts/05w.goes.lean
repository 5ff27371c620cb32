section
variable {m : Nat}
def Tame (V : Nat → Int32) : Prop := V 171 = 0 → bd (V 170) 999
theorem p_goesN {N : Int32} : ∀ (f : Nat) (I : MI) (V : Nat → Int32) (k : Nat), Rel m I V → Tame V → RelW m I V → 1000 ≤ ix (V 170) + f → k + f < 2000000000 →
    ∃ (r : Nat) (I' : MI) (V' : Nat → Int32), (∀ (o b : Nat) (J : MI) (S : Int32 → MI → Prop), b ≤ 1032 → S (nI r) (kb J (o + 1) b V') → ∃ n, lpN2 (w_X10_goes_l2 o (nI b) N S) n (nI k) (kb J (o + 1) b V)) ∧ (∀ S : Int32 → MI → Prop, S (nI r) I' → ∃ n, lpN2 (w_X1_goOn_l2 m N S) n (nI k) I) ∧ Rel m I' V' ∧ Tame V' ∧ RelW m I' V' ∧ Frm m I I' ∧ VFr V V' ∧ (∀ j, 172 ≤ j → j < 178 → V' j = V j) := by
  intro f
  induction f with
  | zero =>
    intro I V k h hT hW hf hk
    obtain ⟨t, ht, et⟩ := h.2.2.1.2.2.2.1
    rw [et, ixn (by omega)] at hf
    omega
  | succ f ih =>
    intro I V k h hT hW hf hk
    have e6 : I m 6 = V 171 := h.2.2.1.2.2.2.2.1
    have stop : (N ≤ nI k ∨ ¬ V 171 = 0) → ∃ (r : Nat) (I' : MI) (V' : Nat → Int32), (∀ (o b : Nat) (J : MI) (S : Int32 → MI → Prop), b ≤ 1032 → S (nI r) (kb J (o + 1) b V') → ∃ n, lpN2 (w_X10_goes_l2 o (nI b) N S) n (nI k) (kb J (o + 1) b V)) ∧ (∀ S : Int32 → MI → Prop, S (nI r) I' → ∃ n, lpN2 (w_X1_goOn_l2 m N S) n (nI k) I) ∧ Rel m I' V' ∧ Tame V' ∧ RelW m I' V' ∧ Frm m I I' ∧ VFr V V' ∧ (∀ j, 172 ≤ j → j < 178 → V' j = V j) := fun hs' => by
      refine ⟨k, I, V, fun o b J S hb hS => ⟨1, ?_⟩, fun S hS => ⟨1, ?_⟩, h, hT, hW, Frm.rf, VFr.rf, fun _ _ _ => rfl⟩
      · show w_X10_goes_l2 o (nI b) N S _ (nI k) (kb J (o + 1) b V)
        unfold w_X10_goes_l2
        obtain ⟨y1, y2, -⟩ := t_val (o := o) (J := J) (V := V) (k := 171) hb (by omega)
        have y2 : kb J (o + 1) b V (o + 1) (ix (nI b + 171)) = V 171 := y2
        rw [y2]
        exact ⟨fun _ => hS, fun c => ⟨y1, fun _ => hS, fun c2 => absurd c2 (hs'.resolve_left c)⟩⟩
      · show w_X1_goOn_l2 m N S _ (nI k) I
        unfold w_X1_goOn_l2
        rw [e6]
        exact ⟨fun _ => hS, fun c => ⟨fun _ => hS, fun c2 => absurd c2 (hs'.resolve_left c)⟩⟩
    by_cases hN : N ≤ nI k
    · exact stop (Or.inl hN)
    by_cases hz : V 171 = 0
    · obtain ⟨t, ht, et⟩ := hT hz
      obtain ⟨I1, V1, a1, a2, a3, a4, a5, a6, a7, a8, a9⟩ := p_cycle h hz (hT hz)
      obtain ⟨r, I', V', b1, b2, b3, b4, b5, b6, b7, b8⟩ := ih I1 V1 (k + 1) a3 a9 a4 (by rw [et, ixn (by omega)] at hf; rw [a8, et, nI_1, ixn (by omega)]; omega) (by omega)
      refine ⟨r, I', V', fun o b J S hb hS => ?_, fun S hS => ?_, b3, b4, b5, a5.tr b6, a6.tr b7, fun j h1 h2 => (b8 j h1 h2).trans (a7 j h1 h2)⟩
      · obtain ⟨n, hn⟩ := b1 o b J S hb hS
        refine ⟨n + 1, ?_⟩
        show w_X10_goes_l2 o (nI b) N S (lpN2 (w_X10_goes_l2 o (nI b) N S) n) (nI k) (kb J (o + 1) b V)
        revert hn
        generalize lpN2 (w_X10_goes_l2 o (nI b) N S) n = rec
        intro hn
        unfold w_X10_goes_l2
        obtain ⟨y1, y2, -⟩ := t_val (o := o) (J := J) (V := V) (k := 171) hb (by omega)
        have y2 : kb J (o + 1) b V (o + 1) (ix (nI b + 171)) = V 171 := y2
        rw [y2]
        exact ⟨fun c => absurd c hN, fun c => ⟨y1, fun c2 => absurd hz c2, fun c2 => a1 o b J _ hb (by rw [nI_1]; exact hn)⟩⟩
      · obtain ⟨n, hn⟩ := b2 S hS
        refine ⟨n + 1, ?_⟩
        show w_X1_goOn_l2 m N S (lpN2 (w_X1_goOn_l2 m N S) n) (nI k) I
        revert hn
        generalize lpN2 (w_X1_goOn_l2 m N S) n = rec
        intro hn
        unfold w_X1_goOn_l2
        rw [e6]
        exact ⟨fun c => absurd c hN, fun c => ⟨fun c2 => absurd hz c2, fun c2 => a2 _ (by rw [nI_1]; exact hn)⟩⟩
    · exact stop (Or.inr hz)
/-- going on -/
theorem p_goes {I : MI} {V : Nat → Int32} (N : Int32) (h : Rel m I V) (hT : Tame V) (hW : RelW m I V) :
    ∃ (r : Nat) (I' : MI) (V' : Nat → Int32), (∀ (o b : Nat) (J : MI) (S : Int32 → MI → Prop), b ≤ 1032 → S (nI r) (kb J (o + 1) b V') → w_X10_goes o (nI b) N (kb J (o + 1) b V) S) ∧ (∀ S : Int32 → MI → Prop, S (nI r) I' → w_X1_goOn m N I S) ∧ Rel m I' V' ∧ Tame V' ∧ RelW m I' V' ∧ Frm m I I' ∧ VFr V V' ∧ (∀ j, 172 ≤ j → j < 178 → V' j = V j) := by
  obtain ⟨r, I', V', g1, g2, g3⟩ := p_goesN (m := m) (N := N) 1000 I V 0 h hT hW (by omega) (by omega)
  exact ⟨r, I', V', fun o b J S hb hS => g1 o b J S hb hS, fun S hS => g2 S hS, g3⟩
end
