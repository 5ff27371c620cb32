section
variable {a : Nat}
theorem q_slpN {x : Int32} {P : Int32 → MI → Prop} : ∀ (f : Nat) (I : MI) (V : Nat → Int32) (k : Nat), Rel (a + 111) I V → Tame V → V 170 = nI k → k ≤ 999 → 999 - k < f →
    (∀ v I', (∀ (o : Nat) (J : MI) (S : Int32 → MI → Prop), (∀ V', S v (kb J (o + 1) 516 V')) → ∃ n, lpN1 (w_X10_slipped_l4 o x S) n (kb J (o + 1) 516 V)) → TrOK a I' → TFr a I I' → P v I') → ∃ n, lpN2 (w_X9_slipped_l6 a x P) n (nI k) I := by
  intro f
  induction f with
  | zero => intro I V k _ _ _ _ hf _; omega
  | succ f ih =>
    intro I V k h hT e170 hk hf hP
    have e6 : I (a + 111) 6 = V 171 := h.2.2.1.2.2.2.2.1
    have e5 : I (a + 111) 5 = V 170 := h.2.2.1.2.2.1
    obtain ⟨-, -, -, -, -, g4, -⟩ := h.2.2.2.2 0 (by omega)
    obtain ⟨-, -, -, -, -, k4, -⟩ := h.2.2.2.2 1 (by omega)
    have g4 : I (a + 111 + 57) 3 = V 225 := g4
    have k4 : I (a + 111 + 60) 3 = V 239 := k4
    have g171 : ∀ (o : Nat) (J : MI) (V : Nat → Int32), kb J (o + 1) 516 V (o + 1) (ix (687)) = V 171 := fun o J V => kg (b := 516) (k := 171) (by omega) (by omega)
    have g170 : ∀ (o : Nat) (J : MI) (V : Nat → Int32), kb J (o + 1) 516 V (o + 1) (ix (686)) = V 170 := fun o J V => kg (b := 516) (k := 170) (by omega) (by omega)
    by_cases hs' : V 225 - V 239 = x
    · have hm : P (V 170) I := hP _ I (fun o J S hS => ⟨1, by
        show w_X10_slipped_l4 o x S _ (kb J (o + 1) 516 V)
        unfold w_X10_slipped_l4
        refine t_slip (b := 516) (by omega) ?_
        rw [g170]
        exact ⟨fun _ => hS V, fun q => absurd hs' q⟩⟩) (TrOK.of h) (fun _ _ => rfl)
      refine ⟨1, ?_⟩
      show w_X9_slipped_l6 a x P _ (nI k) I
      unfold w_X9_slipped_l6 w_X1_slip
      rw [e6, e5, g4, k4]
      exact ⟨fun _ => ⟨fun q => absurd hs' q, fun _ => hm⟩, fun _ => ⟨fun _ => ⟨fun q => absurd hs' q, fun _ => hm⟩, fun _ => ⟨fun q => absurd hs' q, fun _ => hm⟩⟩⟩
    · by_cases hz : V 171 = 0
      · obtain ⟨t, ht, et⟩ := hT hz
        have etk : t = k := nI_inj (by omega) (by omega) (et.symm.trans e170)
        obtain ⟨I1, V1, a1, a2, a3, a4, a5, a6, a7, a8, a9⟩ := p_cycle h hz (hT hz)
        have f1 : TFr a I I1 := fun d hd => a5 d (by omega)
        obtain ⟨n, hn⟩ := ih I1 V1 (k + 1) a3 a9 (by rw [a8, e170, nI_1]) (by omega) (by omega) (fun v I' m' t' f' => hP v I' (fun o J S hS => by
          obtain ⟨n, hn⟩ := m' o J S hS
          refine ⟨n + 1, ?_⟩
          show w_X10_slipped_l4 o x S (lpN1 (w_X10_slipped_l4 o x S) n) (kb J (o + 1) 516 V)
          revert hn
          generalize lpN1 (w_X10_slipped_l4 o x S) n = rec
          intro hn
          unfold w_X10_slipped_l4
          refine t_slip (b := 516) (by omega) ?_
          rw [g171]
          exact ⟨fun q => absurd q hs', fun _ => ⟨fun _ => a1 o 516 J _ (by omega) hn, fun q => absurd hz q⟩⟩) t' (f1.tr f'))
        refine ⟨n + 1, ?_⟩
        show w_X9_slipped_l6 a x P (lpN2 (w_X9_slipped_l6 a x P) n) (nI k) I
        revert hn
        generalize lpN2 (w_X9_slipped_l6 a x P) n = rec
        intro hn
        unfold w_X9_slipped_l6 w_X1_slip
        rw [e6, g4, k4]
        exact ⟨fun q => absurd ((nI_leI (a := 999) (by omega) (by omega)).mp q) (by omega), fun _ => ⟨fun q => absurd hz q, fun _ => ⟨fun _ => a2 _ (by rw [nI_1]; exact hn), fun q => absurd q hs'⟩⟩⟩
      · have hm : P (-1) I := hP _ I (fun o J S hS => ⟨1, by
          show w_X10_slipped_l4 o x S _ (kb J (o + 1) 516 V)
          unfold w_X10_slipped_l4
          refine t_slip (b := 516) (by omega) ?_
          rw [g171]
          exact ⟨fun q => absurd q hs', fun _ => ⟨fun q => absurd q hz, fun _ => hS V⟩⟩⟩) (TrOK.of h) (fun _ _ => rfl)
        refine ⟨1, ?_⟩
        show w_X9_slipped_l6 a x P _ (nI k) I
        unfold w_X9_slipped_l6 w_X1_slip
        rw [e6, g4, k4]
        exact ⟨fun _ => ⟨fun _ => hm, fun q => absurd q hs'⟩, fun _ => ⟨fun _ => ⟨fun _ => hm, fun q => absurd q hs'⟩, fun q => absurd q hz⟩⟩
theorem q_slipped {I : MI} {V : Nat → Int32} {x : Int32} {P : Int32 → MI → Prop} (h : Inv a I V) (hT : TrOK a I) (hP : ∀ v I', (∀ (o : Nat) (J : MI) (S : Int32 → MI → Prop), (∀ V', S v (kb (kb J (o + 1) 0 V) (o + 1) 516 V')) → w_X10_slipped o x (kb J (o + 1) 0 V) S) → TrOK a I' → TFr a I I' → P v I') : w_X9_slipped a x I P := by
  unfold w_X9_slipped
  refine q_tries0 h hT (fun I1 V1 m1 r1 r2 r3 r4 f1 z => ?_)
  refine q_slpN 1000 I1 V1 0 r1 r3 z (by omega) (by omega) (fun v I' m' t' f' => hP v I' (fun o J S hS => ?_) t' (f1.tr f'))
  unfold w_X10_slipped
  exact m1 o J _ (m' o _ S (fun V' => hS V'))
theorem q_keeping {I : MI} {V : Nat → Int32} {x : Int32} {P : Int32 → MI → Prop} (h : Inv a I V) (hT : TrOK a I) (hP : ∀ v I', (∀ (o : Nat) (J : MI) (S : Int32 → MI → Prop), (∀ V', S v (kb (kb J (o + 1) 0 V) (o + 1) 516 V')) → S v (kb J (o + 1) 0 V) → w_X10_keeping o x (kb J (o + 1) 0 V) S) → TrOK a I' → TFr a I I' → P v I') : w_X9_keeping a x I P := by
  unfold w_X9_keeping
  rcases in_cases x (lo := 0) (hi := 7) (by omega) (by omega) with ⟨k, h1, h2, rfl⟩ | hx
  · exact k_Register1 (by omega) ⟨fun q => absurd q (by decide), fun _ => q_keepOne h hT (by omega) (fun v I' m' t' f' _ => hP v I' (fun o J S hS _ => m' o J S hS) t' f')⟩
  · have hno : P (-1) I := hP (-1) I (fun o J S _ hS => by
      unfold w_X10_keeping
      exact t_isIn0 hx ⟨fun q => absurd rfl q, fun _ => hS⟩) hT (fun _ _ => rfl)
    exact k_Register0 hx ⟨fun _ => hno, fun q => absurd rfl q⟩
end
