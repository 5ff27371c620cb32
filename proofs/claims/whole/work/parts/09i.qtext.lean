/-! text: class and model agree -/
section
variable {m b s i k : Nat} {I : MI} {V : Nat → Int32}
theorem dv16 : ∀ r, r < 8 → nI (1 + 16 * r) / 16 = nI r := by decide
set_option maxRecDepth 20000 in
theorem tx_send {r : Nat} (h : Rel m I V) (hs' : s < 2) (hi : i ≤ ix (V 48)) (hk : k < 2) (hb : ∀ c, m + 1 ≤ c → c ≤ m + 34 → c ≠ b ∧ c ≠ b + 1) (hr : r < 8) (er : I (m + 1 + 6) (2 * i + k) = nI r) (ek : I (m + 1 + 5) (2 * (25 * s + i) + k) = nI 9) : ∃ T, TxC m b s i k I T ∧ TxM V i (nI (1 + 16 * r)) T := by
  obtain ⟨hsz, e48⟩ := size_lt h.1
  have hL : (sT (wdj 9)).length = sL (wdj 9) := (sT_at _ (wdj_lt 9 (by decide)).2).1
  rw [show sL (wdj 9) = 4 from rfl] at hL
  refine ⟨[] ++ sT (wdj 9) ++ [32, 97 + r], fun I7 Q hC hQ => ?_, fun o I0 J Q hM hQ => ?_⟩
  · unfold w_X2_write
    refine ⟨inn (by omega) (by omega), k_kindOf hs' (by omega) hk ?_⟩
    rw [hC.2 (m + 1 + 5) (hb _ (by omega) (by omega)).1 (hb _ (by omega) (by omega)).2, ek, ixn (by omega)]
    refine ⟨9, by decide, rfl, e_str hC (by decide) (fun I1 h1 => ?_)⟩
    simp (config := { decide := true }) only [true_implies, false_implies, and_true, true_and, not_true_eq_false, not_false_eq_true, or_false, false_or, or_true, true_or, forall_const]
    refine k_sentAt (by omega) hk ?_
    rw [h1.2 (m + 1 + 6) (hb _ (by omega) (by omega)).1 (hb _ (by omega) (by omega)).2, er]
    refine e_reg h1 rfl hr (by simp only [List.length_append, List.length_cons, List.length_nil, hL]; omega) (fun I2 h2 => ?_)
    exact hQ _ h2
  · unfold w_X10_tells
    intro x3 e3
    rw [send_mod hr] at e3
    subst e3
    simp (config := { decide := true }) only [w_X10_tells_p21, w_X10_tells_p184, w_X10_tells_p200, w_X10_tells_p221, w_X10_tells_p232, w_X10_tells_p262, w_X10_tells_p273, w_X10_tells_p298, w_X10_tells_p312, w_X10_tells_p346, w_X10_tells_p357, true_implies, false_implies, and_true, true_and, not_true_eq_false, not_false_eq_true, or_false, false_or, or_true, true_or, forall_const]
    refine s_word hM (by decide) wdk_all.2.2.2.2.2.2.1.1 (fun I1 h1 => ?_)
    rw [wdk_all.2.2.2.2.2.2.1.2] at h1
    refine s_letter h1 (by simp only [List.length_append, List.length_cons, List.length_nil, hL]; omega) (dv16 r hr) (fun I2 h2 => ?_)
    exact hQ _ h2
theorem tx_all (h : Rel m I V) (hs' : s < 2) (hi : i ≤ ix (V 48)) (hk : k < vMany V s i) (hb : ∀ c, m + 1 ≤ c → c ≤ m + 34 → c ≠ b ∧ c ≠ b + 1) : ∃ T, TxC m b s i k I T ∧ TxM V i (vDeed V s i k) T := by
  have hle := vMany_le (V := V) (s := s) (i := i)
  have hk2 : k < 2 := by omega
  have hnz := (vMany_iff h.1 hs' hi (by omega)).mp hk
  have ek := h.2.1.2.2.1 s i k hs' hi hk
  rcases (show s = 0 ∨ s = 1 by omega) with rfl | rfl
  · rcases dc0 h.1 hi (k := k) with e | e
    · exact absurd e hnz
    rcases e with ⟨e, ho⟩ | ⟨e, ho⟩ | ⟨e, ho⟩ | ⟨e, ho⟩ | ⟨r, hr, e, ho⟩ | ⟨e, ho⟩ | ⟨e, ho⟩ | ⟨e, ho⟩ | ⟨e, ho⟩ | ⟨e, ho⟩
    · rw [e, ho] at ek; rw [e]; exact tx_end h hs' hi hk2 hb ho (ek.trans (by decide))
    · rw [e, ho] at ek; rw [e]; exact tx_jump h hs' hi hk2 hb ho (ek.trans (by decide))
    · rw [e, ho] at ek; rw [e]; exact tx_tell h hs' hi hk2 hb ho (ek.trans (by decide))
    · rw [e, ho] at ek; rw [e]; exact tx_ask h hs' hi hk2 hb ho (ek.trans (by decide))
    · have ec : ∀ (op : Int32) (r : Nat), r < 8 → cKind op (nI (1 + 16 * r)) = 9 := by
        intro op r hr
        rcases (show r = 0 ∨ r = 1 ∨ r = 2 ∨ r = 3 ∨ r = 4 ∨ r = 5 ∨ r = 6 ∨ r = 7 by omega) with rfl | rfl | rfl | rfl | rfl | rfl | rfl | rfl <;> (unfold cKind; simp (config := { decide := true }) only [if_false])
      rw [e, ec _ r hr] at ek
      obtain ⟨e1, r2, hr2, e2⟩ := h.2.1.2.2.2 i k hi hk (by rw [e]; exact ec _ r hr)
      rw [e2] at e1
      have e3 : (1 : Int32) + 16 * nI r2 = nI (1 + 16 * r2) := by simp only [lit, pk_mul, nI_add]
      rw [e1, e3]
      exact tx_send h hs' hi hk2 hb hr2 e2 ek
    · rw [e, ho] at ek; rw [e]; exact tx_fetch h hs' hi hk2 hb ho (ek.trans (by decide))
    · rw [e, ho] at ek; rw [e]; exact tx_put h hs' hi hk2 hb ho (ek.trans (by decide))
    · rcases ho with ho | ho | ho | ho
      · rw [e, ho] at ek; rw [e]; exact tx_set h hs' hi hk2 hb ho (ek.trans (by decide))
      · rw [e, ho] at ek; rw [e]; exact tx_add h hs' hi hk2 hb ho (ek.trans (by decide))
      · rw [e, ho] at ek; rw [e]; exact tx_sub h hs' hi hk2 hb ho (ek.trans (by decide))
      · rw [e, ho] at ek; rw [e]; exact tx_mul h hs' hi hk2 hb ho (ek.trans (by decide))
    · rw [e, ho] at ek; rw [e]; exact tx_issue h hs' hi hk2 hb ho (ek.trans (by decide))
    · rw [e, ho] at ek; rw [e]; exact tx_place h hs' hi hk2 hb ho (ek.trans (by decide))
  · rcases dc1 h.1 hi (k := k) with e | e
    · exact absurd e hnz
    rcases e with ⟨e, ho⟩ | ⟨e, ho⟩ | ⟨e, ho⟩ | ⟨e, ho⟩ | ⟨e, ho⟩ | ⟨e, ho⟩ | ⟨e, ho⟩
    · rw [e, ho] at ek; rw [e]; exact tx_end h hs' hi hk2 hb ho (ek.trans (by decide))
    · rw [e, ho] at ek; rw [e]; exact tx_jump h hs' hi hk2 hb ho (ek.trans (by decide))
    · rw [e, ho] at ek; rw [e]; exact tx_heed h hs' hi hk2 hb ho (ek.trans (by decide))
    · rw [e, ho] at ek; rw [e]; exact tx_judge h hs' hi hk2 hb ho (ek.trans (by decide))
    · rw [e, ho] at ek; rw [e]; exact tx_get h hs' hi hk2 hb ho (ek.trans (by decide))
    · rw [e, ho] at ek; rw [e]; exact tx_give h hs' hi hk2 hb ho (ek.trans (by decide))
    · rcases ho with ho | ho | ho | ho
      · rw [e, ho] at ek; rw [e]; exact tx_set h hs' hi hk2 hb ho (ek.trans (by decide))
      · rw [e, ho] at ek; rw [e]; exact tx_add h hs' hi hk2 hb ho (ek.trans (by decide))
      · rw [e, ho] at ek; rw [e]; exact tx_sub h hs' hi hk2 hb ho (ek.trans (by decide))
      · rw [e, ho] at ek; rw [e]; exact tx_mul h hs' hi hk2 hb ho (ek.trans (by decide))
theorem MlF.rf {o : Nat} {J : MI} : MlF o J J := ⟨fun _ _ _ => rfl, fun _ _ => rfl⟩
/-- the text's character at a place, or -1 -/
def txv (T : List Nat) (w : Int32) : Int32 := if w < 0 then -1 else match T[ix w]? with | some c => nI c | none => -1
theorem q_text {a : Nat} {x y z w : Int32} {P : Int32 → MI → Prop} (h : Rel (a + 3) I V) (hB : ∃ t, SbT (a + 177) I t)
    (hP : ∀ v I', (∀ (o : Nat) (J : MI) (S : Int32 → MI → Prop), (∀ J', MlF o (kb J (o + 1) 0 V) J' → S v J') → w_X10_text o x y z w (kb J (o + 1) 0 V) S) → (∃ t, SbT (a + 177) I' t) → SbF (a + 177) I I' → P v I') : w_X9_text a x y z w I P := by
  obtain ⟨hsz, e48⟩ := size_lt h.1
  obtain ⟨t0, hB⟩ := hB
  rcases q_has h x y z with ⟨g1, g2⟩ | ⟨s, i, k, hs', hi, hk, rfl, rfl, rfl, g1, g2⟩
  · unfold w_X9_text
    refine g2 _ ⟨fun c => absurd rfl c, fun _ => hP _ I (fun o J S hS => ?_) ⟨t0, hB⟩ (fun _ _ _ => rfl)⟩
    unfold w_X10_text
    exact g1 o J _ ⟨fun c => absurd rfl c, fun _ => hS _ MlF.rf⟩
  · obtain ⟨T, hC, hM⟩ := tx_all (b := a + 177) h hs' hi hk (fun c c1 c2 => ⟨by omega, by omega⟩)
    have hle := vMany_le (V := V) (s := s) (i := i)
    have hmod : ∀ I8, SbT (a + 177) I8 T → SbF (a + 177) I I8 → P (txv T w) I8 := fun I8 h1 h2 => by
      refine hP _ I8 (fun o J S hS => ?_) ⟨T, h1⟩ h2
      unfold w_X10_text
      refine g1 o J _ ⟨fun _ I3 e3 => ?_, fun c => absurd c (by decide)⟩
      rw [kb_o] at e3
      rw [e3]
      refine t_deed (b := 0) (by omega) (by omega) (by omega) (by omega) ?_
      refine hM o _ _ _ ⟨⟨?_, fun j c hj => absurd hj (by simp)⟩, MlF.rf, _, rfl⟩ (fun J' hJ => ?_)
      · rw [kb_oo, ui_gs]; rfl
      · obtain ⟨⟨l1, l2⟩, f, -⟩ := hJ
        have hf : MlF o (kb J (o + 1) 0 V) J' := by
          refine ⟨fun c c1 c2 => ?_, fun j hj => ?_⟩
          · rw [f.1 c c1 c2, ← kb_o, ui_ne _ _ _ c1]
          · rw [f.2 j hj, ← kb_o, ui_gj _ _ _ hj]
        have hS' := hS J' hf
        have h16 := h1.2.2.1
        rw [l1]
        unfold w_X10_isIn
        unfold txv at hS'
        refine ⟨fun c => ⟨fun _ => ?_, fun d => absurd rfl d⟩, fun c => ?_⟩
        · rw [if_pos c] at hS'; exact hS'
        · rw [if_neg c] at hS'
          obtain ⟨j, hj, rfl⟩ := nI_of c
          rw [ixn hj] at hS'
          rcases Nat.lt_or_ge j T.length with q | q
          · have e1 : nI T.length - 1 = nI (T.length - 1) := sub1 (by omega)
            rw [e1]
            refine ⟨fun d => absurd ((nI_ltI (by omega) hj).mp d) (by omega), fun _ => ⟨fun d => absurd d (by decide), fun _ => ⟨inn (by omega) (by omega), ?_⟩⟩⟩
            have e2 : T[j]? = some T[j] := List.getElem?_eq_getElem q
            rw [e2] at hS'
            rw [ixn hj, l2 j _ e2]
            exact hS'
          · have e2 : T[j]? = none := List.getElem?_eq_none q
            rw [e2] at hS'
            refine ⟨fun _ => ⟨fun _ => hS', fun d => absurd rfl d⟩, fun d => absurd ?_ d⟩
            by_cases h0 : T.length = 0
            · rw [h0]; exact Int32.lt_of_lt_of_le (show nI 0 - 1 < 0 by decide) (nI_pos' hj)
            · rw [show nI T.length - 1 = nI (T.length - 1) from sub1 (by omega)]
              exact nI_lt (by omega) hj
    unfold w_X9_text
    refine g2 _ ⟨fun _ => ⟨rfl, t0, hB, fun I7 h1 h2 => ?_⟩, fun c => absurd c (by decide)⟩
    refine hC I7 _ ⟨h1, h2⟩ (fun I8 h8 => ?_)
    have hv := hmod I8 h8.1 h8.2
    unfold txv at hv
    refine ⟨fun c => ?_, fun c => ⟨T, h8.1, fun d => ?_, fun d => ?_⟩⟩
    · rw [if_pos c] at hv; exact hv
    · rw [if_neg c] at hv
      obtain ⟨j, hj, rfl⟩ := nI_of c
      have h16 := h8.1.2.2.1
      have q := (nI_ltI hj (by omega)).mp d
      rw [ixn hj] at hv
      have e2 : T[j]? = some T[j] := List.getElem?_eq_getElem q
      rw [e2] at hv
      exact ⟨T, j, T[j], h8.1, rfl, e2, hv⟩
    · rw [if_neg c] at hv
      obtain ⟨j, hj, rfl⟩ := nI_of c
      have h16 := h8.1.2.2.1
      rw [ixn hj] at hv
      have q : T.length ≤ j := Nat.not_lt.mp (fun q => d (nI_lt q (by omega)))
      rw [List.getElem?_eq_none q] at hv
      exact hv
end
