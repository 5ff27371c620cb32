section
variable {p o b : Nat} {I J : MI} {V : Nat → Int32}
theorem t_isReck {x : Int32} {Q : Int32 → Prop} (h : Q (if x = 1 ∨ x = 2 ∨ x = 3 then 1 else 0)) : w_X10_isReckoning x Q := by
  unfold w_X10_isReckoning
  refine ⟨fun c => ?_, fun c => ⟨fun c2 => ?_, fun c2 => ⟨fun c3 => ?_, fun c3 => ?_⟩⟩⟩
  · rw [if_pos (Or.inl c)] at h; exact h
  · rw [if_pos (Or.inr (Or.inl c2))] at h; exact h
  · rw [if_neg (fun q => q.elim c (fun q => q.elim c2 c3))] at h; exact h
  · rw [if_pos (Or.inr (Or.inr c3))] at h; exact h
theorem k_isReck {x : Int32} {Q : Int32 → Prop} (h : Q (if x = 1 ∨ x = 2 ∨ x = 3 then 1 else 0)) : w_X9_isReckoning x Q := by
  unfold w_X9_isReckoning
  refine ⟨fun c => ?_, fun c => ⟨fun c2 => ?_, fun c2 => ⟨fun c3 => ?_, fun c3 => ?_⟩⟩⟩
  · rw [if_pos (Or.inl c)] at h; exact h
  · rw [if_pos (Or.inr (Or.inl c2))] at h; exact h
  · rw [if_neg (fun q => q.elim c (fun q => q.elim c2 c3))] at h; exact h
  · rw [if_pos (Or.inr (Or.inr c3))] at h; exact h
/-- one pass of the model -/
theorem t_pass {A : Nat} {ke : Int32 → Int32 → Prop} {Q : Int32 → Prop} (h : RelR p I V) (hb : b ≤ 1032) (hA : A < 256) (hk : ke (nI (jacN V A (ix (V 48)))) (nI (ix (V 48)))) : Lp2 (w_X10_aims_l22 o (nI b) (nI A) (kb J (o + 1) b V) ke Q) (nI A) 0 := by
  obtain ⟨hsz, e48⟩ := size_lt h
  refine Lp2.of (fun x y => ∃ k, k ≤ ix (V 48) ∧ x = nI (jacN V A k) ∧ y = nI k) (fun x y => 100 - ix y) ?_ _ _ ⟨0, by omega, rfl, rfl⟩
  rintro rec x y ⟨k, hkk, rfl, rfl⟩ hrec
  unfold w_X10_aims_l22
  obtain ⟨y1, y2, -⟩ := t_val (o := o) (J := J) (V := V) (k := 48) hb (by omega)
  have y2 : kb J (o + 1) b V (o + 1) (ix (nI b + 48)) = nI (ix (V 48)) := by rw [show (48 : Int32) = nI 48 from rfl, y2]; exact e48
  rw [y2]
  refine ⟨y1, fun c => ?_, fun c => ?_⟩
  · have := (nI_leI (by omega) (by omega)).mp c
    have e : k = ix (V 48) := by omega
    rw [e]; exact hk
  · have hlt : k < ix (V 48) := by
      rcases Nat.lt_or_ge k (ix (V 48)) with q | q
      · exact q
      · exact absurd (nI_le q (by omega)) c
    have go : ∀ M : Nat, M = jacN V A (k + 1) → rec (nI M) (nI k + 1) := fun M hM => by
      rw [hM]
      refine hrec _ _ ⟨k + 1, by omega, rfl, nI_1 k⟩ ?_
      rw [nI_1, ixn (by omega), ixn (by omega)]; omega
    obtain ⟨b0, b1, b2, b3, -⟩ := h.2.2.2.1 k hlt
    have hop : vOp V k = V (50 + 5 * k) := by
      rcases vOp_row h (Nat.le_of_lt hlt) with ⟨e, -⟩ | ⟨-, e⟩
      · omega
      · exact e
    obtain ⟨e1, l1⟩ := bd_ix b1 (by omega)
    obtain ⟨e2, l2⟩ := bd_ix b2 (by omega)
    have bit2 : (1 : Int32) <<< (V (52 + 5 * k) &&& 31) = nI (2 ^ ix (V (52 + 5 * k))) := by rw [e2, ixn (by omega)]; exact bit_nI _ l2
    have eJ : jacN V A (k + 1) = jacN V A k ||| gRow V A k := rfl
    refine t_opOf hb (by omega) ?_
    rw [hop]
    have h45 : V (50 + 5 * k) = 4 ∨ V (50 + 5 * k) = 5 → w_X10_aims_p70 o (nI b) (nI (jacN V A k) ||| nI (2 ^ ix (V (52 + 5 * k)))) (nI A) (nI k) (V (50 + 5 * k)) (kb J (o + 1) b V) rec ke Q := fun g => by
      unfold w_X10_aims_p70
      refine t_isReck ?_
      rw [if_neg (by rcases g with g | g <;> rw [g] <;> decide)]
      refine ⟨fun _ => ?_, fun c => absurd rfl c⟩
      rw [nI_or]
      refine go _ ?_
      rw [eJ]; unfold gRow; rw [if_pos g]
    refine ⟨fun c => t_of' (k := 2) hb (by omega) (by omega) ?_, fun c => ⟨fun c5 => ?_, fun c5 => t_of' (k := 2) hb (by omega) (by omega) ?_⟩⟩
    · rintro _ rfl
      rw [show 50 + 5 * k + 2 = 52 + 5 * k by omega, bit2]
      exact h45 (Or.inl c)
    · unfold w_X10_aims_p70
      have n45 : ¬ (V (50 + 5 * k) = 4 ∨ V (50 + 5 * k) = 5) := fun q => q.elim c c5
      refine t_isReck ?_
      by_cases g : V (50 + 5 * k) = 1 ∨ V (50 + 5 * k) = 2 ∨ V (50 + 5 * k) = 3
      · rw [if_pos g]
        refine ⟨fun c => absurd c (by decide), fun _ => t_of' (k := 1) hb (by omega) (by omega) (t_has ?_)⟩
        have b3 := b3 (fun c => by rcases g with q | q | q <;> rw [q] at c <;> exact absurd c (by decide))
        obtain ⟨e3, l3⟩ := bd_ix b3 (by omega)
        have bit3 : (1 : Int32) <<< (V (53 + 5 * k) &&& 31) = nI (2 ^ ix (V (53 + 5 * k))) := by rw [e3, ixn (by omega)]; exact bit_nI _ l3
        have eh : hs (nI A) (V (50 + 5 * k + 1)) = A.testBit (ix (V (51 + 5 * k))) := by
          rw [show 50 + 5 * k + 1 = 51 + 5 * k by omega]
          conv => lhs; rw [e1]
          exact hs_bit A hA _ l1
        rw [eh]
        by_cases g2 : A.testBit (ix (V (51 + 5 * k))) = true
        · rw [if_pos g2]
          refine ⟨fun c => absurd c (by decide), fun _ => t_of' (k := 2) hb (by omega) (by omega) (t_of' (k := 3) hb (by omega) (by omega) ?_)⟩
          rintro _ rfl
          rw [show 50 + 5 * k + 2 = 52 + 5 * k by omega, show 50 + 5 * k + 3 = 53 + 5 * k by omega, bit2, bit3, nI_or, nI_or]
          refine go _ ?_
          rw [eJ]; unfold gRow; rw [if_neg n45, if_pos ⟨g, g2⟩]
        · rw [if_neg g2]
          refine ⟨fun _ => go _ ?_, fun c => absurd rfl c⟩
          rw [eJ]; unfold gRow; rw [if_neg n45, if_neg (fun q => g2 q.2), Nat.or_zero]
      · rw [if_neg g]
        refine ⟨fun _ => go _ ?_, fun c => absurd rfl c⟩
        rw [eJ]; unfold gRow; rw [if_neg n45, if_neg (fun q => g q.1), Nat.or_zero]
    · rintro _ rfl
      rw [show 50 + 5 * k + 2 = 52 + 5 * k by omega, bit2]
      exact h45 (Or.inr c5)
theorem t_aims {K : Nat} {Q : Int32 → Prop} (h : RelR p I V) (hb : b ≤ 1032) (hK : K < 256) (e47 : V 47 = nI K) (hQ : ∀ A, IsL V K A → Q (nI A)) : w_X10_aims o (nI b) (kb J (o + 1) b V) Q := by
  unfold w_X10_aims
  obtain ⟨y1, y2, -⟩ := t_val (o := o) (J := J) (V := V) (k := 47) hb (by omega)
  have y2 : kb J (o + 1) b V (o + 1) (ix (nI b + 47)) = nI K := by rw [show (47 : Int32) = nI 47 from rfl, y2]; exact e47
  refine ⟨y1, ?_⟩
  rw [y2]
  rintro _ rfl
  have hm1 : ∀ A, A < 256 → ¬ nI A = -1 := fun A hA c => by
    have := congrArg Int32.toInt c
    rw [nI_toInt (by omega)] at this
    exact absurd this (by show ¬ ((A : Int) = -1); omega)
  refine Lp2.of (fun x y => ∃ A, A < 256 ∧ x = nI A ∧ Sb K A ∧ (∀ C, Sb K C → Clo V C → Sb A C) ∧ (y = -1 ∨ ∃ B, B < 256 ∧ y = nI B ∧ A = jacN V B (ix (V 48)))) (fun x y => if y = -1 then 600 else 256 - ix y) ?_ _ _ ⟨K, hK, rfl, Sb.rf _, fun C h1 _ => h1, Or.inl rfl⟩
  rintro rec x y ⟨A, hA, rfl, hu, hl, hy⟩ hrec
  unfold w_X10_aims_l12
  refine ⟨fun c => hQ A ⟨hA, hu, ?_, hl⟩, fun c => t_pass h hb hA (hrec _ _ ⟨_, jac_bd h hA _ (Nat.le_refl _), rfl, hu.tr (jac_up _), fun C h1 h2 => jac_in (hl C h1 h2) h2 _ (Nat.le_refl _), Or.inr ⟨A, hA, rfl, rfl⟩⟩ ?_)⟩
  · rcases hy with rfl | ⟨B, hB, rfl, e⟩
    · exact absurd c (hm1 A hA)
    · have eB : A = B := nI_inj (by omega) (by omega) c
      subst eB
      intro i hi
      have := jac_row (V := V) (A := A) _ i hi
      rw [← e] at this
      exact this
  · show (if nI A = -1 then 600 else 256 - ix (nI A)) < _
    rw [if_neg (hm1 A hA), ixn (by omega)]
    rcases hy with rfl | ⟨B, hB, rfl, e⟩
    · rw [if_pos rfl]; omega
    · rw [if_neg (hm1 B hB), ixn (by omega)]
      have hle : B ≤ A := by
        have hs' : Sb B A := by rw [e]; exact jac_up _
        have : B ||| A = A := (Sb.or hs' (Sb.rf A)).anti (Sb.orr _ _)
        rw [← this]; exact Nat.left_le_or
      have hne : ¬ A = B := fun q => c (by rw [q])
      omega
theorem ui_self (I : MI) (a k : Nat) : ui I a k (I a k) = I := by
  funext c j
  rw [ui_g]
  split
  · rename_i e; subst e
    split
    · rename_i e; subst e; rfl
    · rfl
  · rfl
theorem ui_ui (I : MI) (a k : Nat) (x y : Int32) : ui (ui I a k x) a k y = ui I a k y := by
  funext c j
  rw [ui_g, ui_g, ui_g]
  split
  · split <;> rfl
  · rfl
/-- one pass of the class -/
theorem k_widen {A : Nat} {P : MI → Prop} (h : RelR p I V) (hA : A < 256) (e4 : I p 4 = nI A) (hP : P (ui I p 4 (nI (gsN V A (ix (V 48)))))) : w_X2_widenAims p I P := by
  obtain ⟨hsz, e48⟩ := size_lt h
  unfold w_X2_widenAims
  refine Lp2.of (fun x I' => ∃ k, k ≤ ix (V 48) ∧ x = nI k ∧ I' = ui I p 4 (nI (gsN V A k))) (fun x I' => 100 - ix x) ?_ _ _ ⟨0, by omega, rfl, by rw [show gsN V A 0 = A from rfl, ← e4, ui_self]⟩
  rintro rec x I' ⟨k, hkk, rfl, rfl⟩ hrec
  unfold w_X2_widenAims_l2
  have i1 : ui I p 4 (nI (gsN V A k)) p 1 = nI (ix (V 48)) := by rw [ui_gj _ _ _ (by omega), h.1]; exact e48
  rw [i1]
  refine ⟨fun c => ?_, fun c => ?_⟩
  · have := (nI_leI (by omega) (by omega)).mp c
    have e : k = ix (V 48) := by omega
    rw [e]; exact hP
  · have hlt : k < ix (V 48) := by
      rcases Nat.lt_or_ge k (ix (V 48)) with q | q
      · exact q
      · exact absurd (nI_le q (by omega)) c
    have hG := gs_bd h hA k hkk
    have go : ∀ M : Nat, M = gsN V A (k + 1) → rec (nI k + 1) (ui I p 4 (nI M)) := fun M hM => by
      rw [hM]
      refine hrec _ _ ⟨k + 1, by omega, nI_1 k, rfl⟩ ?_
      rw [nI_1, ixn (by omega), ixn (by omega)]; omega
    obtain ⟨b0, b1, b2, b3, r0, r1, r4, -⟩ := h.2.2.2.1 k hlt
    have hop : vOp V k = V (50 + 5 * k) := by
      rcases vOp_row h (Nat.le_of_lt hlt) with ⟨e, -⟩ | ⟨-, e⟩
      · omega
      · exact e
    have iw : ∀ j, ui I p 4 (nI (gsN V A k)) (p + 9 + k) j = I (p + 9 + k) j := fun j => by rw [ui_gn _ _ _ _ (by omega)]
    have eo : I (p + 9 + k) 0 = V (50 + 5 * k) := by rw [h.2.2.1 k (by omega), hop]
    rw [ixn (by omega), iw, iw, iw, iw, eo, ui_gs]
    obtain ⟨e1, l1⟩ := bd_ix b1 (by omega)
    obtain ⟨e2, l2⟩ := bd_ix b2 (by omega)
    have bit2 : (1 : Int32) <<< (V (52 + 5 * k) &&& 31) = nI (2 ^ ix (V (52 + 5 * k))) := by rw [e2, ixn (by omega)]; exact bit_nI _ l2
    have eG : gsN V A (k + 1) = gsN V A k ||| gRow V (gsN V A k) k := rfl
    refine ⟨inn (by omega) (by omega), fun c4 => ?_, fun c4 => ⟨fun c5 => k_isReck ?_, fun c5 => ?_⟩⟩
    · unfold w_X9_bit
      rintro _ rfl
      rw [(r4 (Or.inl c4)).2.1, bit2, nI_or, ui_ui]
      refine go _ ?_
      rw [eG]; unfold gRow; rw [if_pos (Or.inl c4)]
    · have n45 : ¬ (V (50 + 5 * k) = 4 ∨ V (50 + 5 * k) = 5) := fun q => q.elim c4 c5
      by_cases g : V (50 + 5 * k) = 1 ∨ V (50 + 5 * k) = 2 ∨ V (50 + 5 * k) = 3
      · obtain ⟨f1, f2, f3⟩ := r1 g
        rw [if_pos g, f1, f2, f3]
        have b3 := b3 (fun c => by rcases g with q | q | q <;> rw [q] at c <;> exact absurd c (by decide))
        obtain ⟨e3, l3⟩ := bd_ix b3 (by omega)
        have bit3 : (1 : Int32) <<< (V (53 + 5 * k) &&& 31) = nI (2 ^ ix (V (53 + 5 * k))) := by rw [e3, ixn (by omega)]; exact bit_nI _ l3
        refine ⟨fun c => absurd c (by decide), fun _ => k_isIn ?_⟩
        have eh : hs (nI (gsN V A k)) (V (51 + 5 * k)) = (gsN V A k).testBit (ix (V (51 + 5 * k))) := by
          conv => lhs; rw [e1]
          exact hs_bit _ hG _ l1
        rw [eh]
        by_cases g2 : (gsN V A k).testBit (ix (V (51 + 5 * k))) = true
        · rw [if_pos g2]
          refine ⟨fun c => absurd c (by decide), fun _ => ?_⟩
          unfold w_X9_bit
          rintro _ rfl
          rw [bit2, bit3, nI_or, nI_or, ui_ui]
          refine go _ ?_
          rw [eG]; unfold gRow; rw [if_neg n45, if_pos ⟨g, g2⟩]
        · rw [if_neg g2]
          refine ⟨fun _ => go _ ?_, fun c => absurd rfl c⟩
          rw [eG]; unfold gRow; rw [if_neg n45, if_neg (fun q => g2 q.2), Nat.or_zero]
      · rw [if_neg g]
        refine ⟨fun _ => go _ ?_, fun c => absurd rfl c⟩
        rw [eG]; unfold gRow; rw [if_neg n45, if_neg (fun q => g q.1), Nat.or_zero]
    · unfold w_X9_bit
      rintro _ rfl
      rw [(r4 (Or.inr c5)).2.1, bit2, nI_or, ui_ui]
      refine go _ ?_
      rw [eG]; unfold gRow; rw [if_pos (Or.inr c5)]
end
