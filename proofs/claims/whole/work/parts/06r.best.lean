section
variable {a : Nat} {I : MI} {V : Nat → Int32}
theorem q_timeV {P : Int32 → MI → Prop} (h : Inv a I V) (hT : TrOK a I) (hP : ∀ v I' V2, (∀ (o : Nat) (J : MI) (S : Int32 → MI → Prop), S v (kb (kb J (o + 1) 0 V) (o + 1) 516 V2) → w_X10_time o (kb J (o + 1) 0 V) S) → TrOK a I' → TFr a I I' → TimeOK v → P v I') : w_X9_time a I P := by
  unfold w_X9_time
  refine q_tries h hT (fun I1 V1 m1 r1 r2 r3 r4 f1 => q_ending r1 r2 r3 (fun I2 V2 m2 t2 f2 b2 => hP _ I2 V2 (fun o J S hS => ?_) t2 (f1.tr f2) b2))
  unfold w_X10_time
  exact m1 o J _ (m2 o _ _ hS)
theorem kb_over (J : MI) (A : Nat) (V V1 V2 : Nat → Int32) : kb (kb (kb J A 516 V1) A 0 V) A 516 V2 = kb (kb J A 0 V) A 516 V2 := by rw [kb_swap, kb_sb, ← kb_swap]
/-- no time counts as the most -/
def clT (v : Int32) : Int32 := if v = -1 then 1000 else v
theorem k_noTime {v : Int32} {Q : Int32 → Prop} (h : Q (clT v)) : w_X9_noTimeIsMost v Q := by
  unfold w_X9_noTimeIsMost
  unfold clT at h
  refine ⟨fun c => ?_, fun c => ?_⟩
  · rw [if_neg c] at h; exact h
  · rw [if_pos c] at h; exact h
theorem q_bestN {P : Int32 → MI → Prop} : ∀ (d : Nat) (I : MI) (r : Nat) (b v : Int32), Inv a I V → TrOK a I → TimeOK v → r + d = 8 →
    (∀ x I', (∀ (o : Nat) (J : MI) (S : Int32 → MI → Prop) (Vx : Nat → Int32), (∀ V', S x (kb (kb J (o + 1) 0 V) (o + 1) 516 V')) → lpN4 (w_X10_best_l9 o S) (d + 1) v b (nI r) (kb (kb J (o + 1) 0 V) (o + 1) 516 Vx)) → TrOK a I' → TFr a I I' → P x I') → lpN4 (w_X9_best_l12 a P) (d + 1) b (clT v) (nI r) I := by
  intro d
  induction d with
  | zero =>
    intro I r b v h hT hv hr hP
    have h8 : r = 8 := by omega
    subst h8
    show w_X9_best_l12 a P _ b (clT v) (nI 8) I
    unfold w_X9_best_l12
    refine ⟨fun _ => hP b I (fun o J S Vx hS => ?_) hT (fun _ _ => rfl), fun c => absurd (nI_le (a := 8) (b := 8) (by omega) (by omega)) c⟩
    show w_X10_best_l9 o S _ v b (nI 8) _
    unfold w_X10_best_l9
    exact ⟨fun _ => hS Vx, fun c => absurd (nI_le (a := 8) (b := 8) (by omega) (by omega)) c⟩
  | succ d ih =>
    intro I r b v h hT hv hr hP
    have n8 : ¬ (8 : Int32) ≤ nI r := fun c => absurd ((nI_leI (a := 8) (by omega) (by omega)).mp c) (by omega)
    have e4 : I (a + 4) 4 = V 49 := h.1.2.1.1
    show w_X9_best_l12 a P (lpN4 (w_X9_best_l12 a P) (d + 1)) b (clT v) (nI r) I
    have hP : ∀ x I', (∀ (o : Nat) (J : MI) (S : Int32 → MI → Prop) (Vx : Nat → Int32), (∀ V', S x (kb (kb J (o + 1) 0 V) (o + 1) 516 V')) → w_X10_best_l9 o S (lpN4 (w_X10_best_l9 o S) (d + 1)) v b (nI r) (kb (kb J (o + 1) 0 V) (o + 1) 516 Vx)) → TrOK a I' → TFr a I I' → P x I' := hP
    have ih' := fun (I : MI) (b v : Int32) => ih I (r + 1) b v
    clear ih
    generalize lpN4 (w_X9_best_l12 a P) (d + 1) = rec at ih' ⊢
    by_cases hh : hs (V 49) (nI r) = true
    · unfold w_X9_best_l12
      refine ⟨fun c => absurd c n8, fun _ => ?_⟩
      rw [e4]
      refine k_isIn ?_
      rw [if_pos hh]
      refine ⟨fun _ => ?_, fun c => absurd c (by decide)⟩
      rw [nI_1]
      refine ih' I b v h hT hv (by omega) (fun x I' m' t' f' => hP x I' (fun o J S Vx hS => ?_) t' f')
      have hn := m' o J S Vx hS
      revert hn
      generalize lpN4 (w_X10_best_l9 o S) (d + 1) = rec2
      intro hn
      unfold w_X10_best_l9
      refine ⟨fun c => absurd c n8, fun _ => ?_⟩
      rw [kb_swap] at hn ⊢
      refine t_isAim (b := 0) (by omega) ?_
      rw [if_pos hh]
      exact ⟨fun c => absurd c (by decide), fun _ => by rw [nI_1]; exact hn⟩
    · unfold w_X9_best_l12
      refine ⟨fun c => absurd c n8, fun _ => ?_⟩
      rw [e4]
      refine k_isIn ?_
      rw [if_neg hh]
      refine ⟨fun c => absurd rfl c, fun _ => ?_⟩
      refine q_keepV h hT (by omega) (fun u I' V2 m2 t2 f2 b2 => ?_)
      have hI' := h.tfr f2
      have hm : ∀ (o : Nat) (J : MI) (S : Int32 → MI → Prop) (Vx : Nat → Int32) (rec2 : Int32 → Int32 → Int32 → MI → Prop), ((u = (-1 : Int32) → rec2 v b (nI (r + 1)) (kb (kb J (o + 1) 0 V) (o + 1) 516 V2)) ∧ (¬ u = (-1 : Int32) → ((v = (-1 : Int32) → rec2 u (nI r) (nI (r + 1)) (kb (kb J (o + 1) 0 V) (o + 1) 516 V2)) ∧ (¬ v = (-1 : Int32) → ((u < v → rec2 u (nI r) (nI (r + 1)) (kb (kb J (o + 1) 0 V) (o + 1) 516 V2)) ∧ (¬ u < v → rec2 v b (nI (r + 1)) (kb (kb J (o + 1) 0 V) (o + 1) 516 V2))))))) → w_X10_best_l9 o S rec2 v b (nI r) (kb (kb J (o + 1) 0 V) (o + 1) 516 Vx) := by
        intro o J S Vx rec2 hh3
        unfold w_X10_best_l9
        refine ⟨fun c => absurd c n8, fun _ => ?_⟩
        rw [kb_swap]
        refine t_isAim (b := 0) (by omega) ?_
        rw [if_neg hh]
        refine ⟨fun _ => m2 o _ _ ?_, fun c => absurd rfl c⟩
        rw [kb_over, nI_1]
        exact hh3
      refine k_noTime ⟨fun hlt => ?_, fun hlt => ?_⟩
      · rw [nI_1]
        refine ih' I' b v hI' t2 hv (by omega) (fun x I3 m3 t3 f3 => hP x I3 (fun o J S Vx hS => hm o J S Vx _ ?_) t3 (f2.tr f3))
        have hn := m3 o J S V2 hS
        refine ⟨fun _ => hn, fun c => ⟨fun c2 => ?_, fun c2 => ⟨fun c3 => ?_, fun _ => hn⟩⟩⟩
        · exfalso
          unfold clT at hlt
          rw [if_pos c2, if_neg c] at hlt
          rcases b2 with q | ⟨k, hk, rfl⟩
          · exact c q
          · exact absurd ((nI_leI (a := 1000) (by omega) (by omega)).mp hlt) (by omega)
        · exfalso
          unfold clT at hlt
          rw [if_neg c2, if_neg c] at hlt
          exact absurd c3 (Int32.not_lt.mpr hlt)
      · have hu1 : ¬ u = -1 := fun c => hlt (by
          unfold clT
          rw [if_pos c]
          rcases hv with q | ⟨k, hk, rfl⟩
          · rw [if_pos q]; exact nI_le (a := 1000) (b := 1000) (by omega) (by omega)
          · split
            · exact nI_le (a := 1000) (b := 1000) (by omega) (by omega)
            · exact nI_le (b := 1000) (by omega) (by omega))
        have eu : clT u = u := if_neg hu1
        have hlt2 := hlt
        rw [eu] at hlt
        rw [nI_1]
        refine ih' I' (nI r) u hI' t2 b2 (by omega) (fun x I3 m3 t3 f3 => hP x I3 (fun o J S Vx hS => hm o J S Vx _ ?_) t3 (f2.tr f3))
        have hn := m3 o J S V2 hS
        refine ⟨fun c => absurd c hu1, fun c => ⟨fun c2 => hn, fun c2 => ⟨fun c3 => hn, fun c3 => ?_⟩⟩⟩
        exfalso
        unfold clT at hlt
        rw [if_neg c2] at hlt
        exact hlt (Int32.not_lt.mp c3)
theorem q_best {P : Int32 → MI → Prop} (h : Inv a I V) (hT : TrOK a I) (hP : ∀ v I', (∀ (o : Nat) (J : MI) (S : Int32 → MI → Prop), (∀ V', S v (kb (kb J (o + 1) 0 V) (o + 1) 516 V')) → w_X10_best o (kb J (o + 1) 0 V) S) → TrOK a I' → TFr a I I' → P v I') : w_X9_best a I P := by
  unfold w_X9_best
  refine q_timeV h hT (fun v I1 V1 m1 t1 f1 b1 => k_noTime ⟨9, ?_⟩)
  refine q_bestN 8 I1 0 (-1) v (h.tfr f1) t1 b1 (by omega) (fun x I' m' t' f' => hP x I' (fun o J S hS => ?_) t' (f1.tr f'))
  unfold w_X10_best
  exact m1 o J _ ⟨9, m' o J S V1 hS⟩
end
