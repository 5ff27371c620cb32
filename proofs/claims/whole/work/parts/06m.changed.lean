section
variable {a : Nat}
theorem q_chgN {c : Nat} {x2 : Int32} {P : Int32 → MI → Prop} (hc : c < 32) : ∀ (f : Nat) (I : MI) (V : Nat → Int32) (k : Nat), Rel (a + 111) I V → Tame V → V 170 = nI k → k ≤ 999 → 999 - k < f →
    (∀ v I', (∀ (o : Nat) (J : MI) (S : Int32 → MI → Prop), (∀ V', S v (kb J (o + 1) 516 V')) → ∃ n, lpN1 (w_X10_changed_l27 o (nI c) x2 S) n (kb J (o + 1) 516 V)) → TrOK a I' → TFr a I I' → P v I') → ∃ n, lpN2 (w_X9_changed_l25 a (nI c) x2 P) n (nI k) I := by
  intro f
  induction f with
  | zero => intro I V k _ _ _ _ hf _; omega
  | succ f ih =>
    intro I V k h hT e170 hk hf hP
    have e6 : I (a + 111) 6 = V 171 := h.2.2.1.2.2.2.2.1
    have g171 : ∀ (o : Nat) (J : MI) (V : Nat → Int32), kb J (o + 1) 516 V (o + 1) (ix (687)) = V 171 := fun o J V => kg (b := 516) (k := 171) (by omega) (by omega)
    have g170 : ∀ (o : Nat) (J : MI) (V : Nat → Int32), kb J (o + 1) 516 V (o + 1) (ix (686)) = V 170 := fun o J V => kg (b := 516) (k := 170) (by omega) (by omega)
    have gc : ∀ (o : Nat) (J : MI) (V : Nat → Int32), vp_in ((694) + nI c) 4905 ∧ kb J (o + 1) 516 V (o + 1) (ix ((694) + nI c)) = V (178 + c) := fun o J V => by
      rw [show (694 : Int32) + nI c = nI (516 + (178 + c)) from (nI_add 694 c).trans (congrArg nI (by omega))]
      exact ⟨kin (by omega) (by omega), kg (by omega) (by omega)⟩
    by_cases hz : V 171 = 0
    · obtain ⟨t, ht, et⟩ := hT hz
      have etk : t = k := nI_inj (by omega) (by omega) (et.symm.trans e170)
      obtain ⟨I1, V1, a1, a2, a3, a4, a5, a6, a7, a8, a9⟩ := p_cycle h hz (hT hz)
      have ec : I1 (a + 147) c = V1 (178 + c) := (a3.2.2.1.2.1 c hc).1
      have e5 : I1 (a + 111) 5 = V1 170 := a3.2.2.1.2.2.1
      have f1 : TFr a I I1 := fun d hd => a5 d (by omega)
      by_cases hx : V1 (178 + c) = x2
      · obtain ⟨n, hn⟩ := ih I1 V1 (k + 1) a3 a9 (by rw [a8, e170, nI_1]) (by omega) (by omega) (fun v I' m' t' f' => hP v I' (fun o J S hS => by
          obtain ⟨n, hn⟩ := m' o J S hS
          refine ⟨n + 1, ?_⟩
          show w_X10_changed_l27 o (nI c) x2 S (lpN1 (w_X10_changed_l27 o (nI c) x2 S) n) (kb J (o + 1) 516 V)
          revert hn
          generalize lpN1 (w_X10_changed_l27 o (nI c) x2 S) n = rec
          intro hn
          unfold w_X10_changed_l27
          rw [g171]
          refine ⟨fun q => absurd hz q, fun _ => a1 o 516 J _ (by omega) ?_⟩
          rw [(gc o J V1).2]
          exact ⟨(gc o J V1).1, fun _ => hn, fun q => absurd hx q⟩) t' (f1.tr f'))
        refine ⟨n + 1, ?_⟩
        show w_X9_changed_l25 a (nI c) x2 P (lpN2 (w_X9_changed_l25 a (nI c) x2 P) n) (nI k) I
        revert hn
        generalize lpN2 (w_X9_changed_l25 a (nI c) x2 P) n = rec
        intro hn
        unfold w_X9_changed_l25
        rw [e6]
        refine ⟨fun q => absurd ((nI_leI (a := 999) (by omega) (by omega)).mp q) (by omega), fun _ => ⟨fun q => absurd hz q, fun _ => a2 _ ?_⟩⟩
        rw [ixn (by omega), ec, nI_1]
        exact ⟨inn hc (by omega), fun _ => hn, fun q => absurd hx q⟩
      · refine ⟨1, ?_⟩
        show w_X9_changed_l25 a (nI c) x2 P _ (nI k) I
        unfold w_X9_changed_l25
        rw [e6]
        refine ⟨fun q => absurd ((nI_leI (a := 999) (by omega) (by omega)).mp q) (by omega), fun _ => ⟨fun q => absurd hz q, fun _ => a2 _ ?_⟩⟩
        rw [ixn (by omega), ec, e5]
        refine ⟨inn hc (by omega), fun q => absurd q hx, fun _ => hP _ I1 (fun o J S hS => ⟨1, ?_⟩) (TrOK.of a3) f1⟩
        show w_X10_changed_l27 o (nI c) x2 S _ (kb J (o + 1) 516 V)
        unfold w_X10_changed_l27
        rw [g171]
        refine ⟨fun q => absurd hz q, fun _ => a1 o 516 J _ (by omega) ?_⟩
        rw [(gc o J V1).2, g170]
        exact ⟨(gc o J V1).1, fun q => absurd q hx, fun _ => hS V1⟩
    · have hm : P (-1) I := hP _ I (fun o J S hS => ⟨1, by
        show w_X10_changed_l27 o (nI c) x2 S _ (kb J (o + 1) 516 V)
        unfold w_X10_changed_l27
        rw [g171]
        exact ⟨fun _ => hS V, fun q => absurd q hz⟩⟩) (TrOK.of h) (fun _ _ => rfl)
      refine ⟨1, ?_⟩
      show w_X9_changed_l25 a (nI c) x2 P _ (nI k) I
      unfold w_X9_changed_l25
      rw [e6]
      exact ⟨fun _ => hm, fun _ => ⟨fun _ => hm, fun q => absurd q hz⟩⟩
theorem q_changed {I : MI} {V : Nat → Int32} {x : Int32} {P : Int32 → MI → Prop} (h : Inv a I V) (hT : TrOK a I) (hP : ∀ v I', (∀ (o : Nat) (J : MI) (S : Int32 → MI → Prop), (∀ V', S v (kb (kb J (o + 1) 0 V) (o + 1) 516 V')) → S v (kb J (o + 1) 0 V) → w_X10_changed o x (kb J (o + 1) 0 V) S) → TrOK a I' → TFr a I I' → P v I') : w_X9_changed a x I P := by
  unfold w_X9_changed
  rcases in_cases x (lo := 0) (hi := 31) (by omega) (by omega) with ⟨c, h1, h2, rfl⟩ | hx
  · refine k_Cell1 (by omega) ⟨fun _ => q_tries0 h hT (fun I1 V1 m1 r1 r2 r3 r4 f1 z => ⟨inn (by omega) (by omega), ?_⟩), fun q => absurd q (by decide)⟩
    have ec : I1 (a + 147) c = V1 (178 + c) := (r1.2.2.1.2.1 c (by omega)).1
    rw [ixn (by omega), ec]
    rintro _ rfl
    refine q_chgN (by omega) 1000 I1 V1 0 r1 r3 z (by omega) (by omega) (fun v I' m' t' f' => hP v I' (fun o J S hS _ => ?_) t' (f1.tr f'))
    unfold w_X10_changed
    refine t_isIn1 (lo := 0) (hi := 31) (by omega) h2 (by omega) ⟨fun _ => m1 o J _ ?_, fun q => absurd q (by decide)⟩
    rw [show (694 : Int32) + nI c = nI (516 + (178 + c)) from (nI_add 694 c).trans (congrArg nI (by omega)), kg (by omega) (by omega)]
    refine ⟨kin (by omega) (by omega), ?_⟩
    rintro _ rfl
    exact m' o _ S (fun V' => hS V')
  · have hno : P (-1) I := hP (-1) I (fun o J S _ hS => by
      unfold w_X10_changed
      exact t_isIn0 hx ⟨fun q => absurd rfl q, fun _ => hS⟩) hT (fun _ _ => rfl)
    exact k_Cell0 hx ⟨fun q => absurd rfl q, fun _ => hno⟩
end
