section
variable {m : Nat} {I : MI} {V : Nat → Int32}
/-- past an instruction without a deed -/
theorem RelS.pass {s p : Nat} (h : RelS m s I V) (hs' : s < 2) (hp : p + 1 ≤ ix (V 48)) (ep : V (222 + 14 * s) = nI p) (ek : V (223 + 14 * s) = 0) : RelS m s (ui (ui I (m + 57 + 3 * s) 1 (nI (p + 1))) (m + 57 + 3 * s) 3 (I (m + 57 + 3 * s) 3 + 1)) (upd (upd V (225 + 14 * s) (V (225 + 14 * s) + 1)) (222 + 14 * s) (nI (p + 1))) := by
  obtain ⟨g0, -, g1, g2, g3, g4, g5, g6, g9, g10⟩ := h
  have v : ∀ j, j ≠ 222 + 14 * s → j ≠ 225 + 14 * s → upd (upd V (225 + 14 * s) (V (225 + 14 * s) + 1)) (222 + 14 * s) (nI (p + 1)) j = V j := fun j h1 h2 => by rw [upd_n _ _ h1, upd_n _ _ h2]
  have i : ∀ j, j ≠ 1 → j ≠ 3 → ui (ui I (m + 57 + 3 * s) 1 (nI (p + 1))) (m + 57 + 3 * s) 3 (I (m + 57 + 3 * s) 3 + 1) (m + 57 + 3 * s) j = I (m + 57 + 3 * s) j := fun j h1 h2 => by rw [ui_gj _ _ _ h2, ui_gj _ _ _ h1]
  unfold RelS
  rw [i 0 (by omega) (by omega), i 2 (by omega) (by omega), i 4 (by omega) (by omega), i 5 (by omega) (by omega), ui_gj _ _ _ (show (1 : Nat) ≠ 3 by omega), ui_gs, ui_gs, ui_ne _ _ _ (show m + 58 + 3 * s ≠ m + 57 + 3 * s by omega), ui_ne _ _ _ (show m + 58 + 3 * s ≠ m + 57 + 3 * s by omega), ui_ne _ _ _ (show m + 59 + 3 * s ≠ m + 57 + 3 * s by omega), ui_ne _ _ _ (show m + 59 + 3 * s ≠ m + 57 + 3 * s by omega)]
  rw [upd_s, v (223 + 14 * s) (by omega) (by omega), v (224 + 14 * s) (by omega) (by omega), upd_n _ _ (show 225 + 14 * s ≠ 222 + 14 * s by omega), upd_s, v (226 + 14 * s) (by omega) (by omega), v 48 (by omega) (by omega)]
  exact ⟨g0, ⟨p + 1, 0, hp, rfl, ek, Or.inl rfl⟩, rfl, g2, g3, by rw [g4], g5, g6, fun r h1 h2 => by rw [v _ (by omega) (by omega)]; exact g9 r h1 h2, fun j k hj hk => by rw [v _ (by omega) (by omega)]; exact g10 j k hj hk⟩
/-- what passing keeps -/
def PsF (m s : Nat) (I I' : MI) (V V' : Nat → Int32) : Prop := (∀ c, c ≠ m + 57 + 3 * s → I' c = I c) ∧ (∀ j, j ≠ 1 → j ≠ 3 → I' (m + 57 + 3 * s) j = I (m + 57 + 3 * s) j) ∧ ∀ j, j ≠ 222 + 14 * s → j ≠ 225 + 14 * s → V' j = V j
theorem PsF.tr {s : Nat} {I' I'' : MI} {V' V'' : Nat → Int32} (h : PsF m s I I' V V') (h' : PsF m s I' I'' V' V'') : PsF m s I I'' V V'' := ⟨fun c hc => (h'.1 c hc).trans (h.1 c hc), fun j h1 h2 => (h'.2.1 j h1 h2).trans (h.2.1 j h1 h2), fun j h1 h2 => (h'.2.2 j h1 h2).trans (h.2.2 j h1 h2)⟩
theorem p_passesN {s : Nat} (hs' : s < 2) : ∀ (f : Nat) (I : MI) (V : Nat → Int32) (p : Nat), Rel m I V → V (226 + 14 * s) = 0 → V (222 + 14 * s) = nI p → p ≤ ix (V 48) → ix (V 48) - p < f →
    ∃ I' V', (∀ (o b : Nat) (J : MI) (Q : MI → Prop), b ≤ 1032 → Q (kb J (o + 1) b V') → ∃ n, lpN1 (w_X10_passes_l6 o (nI b) (nI s) (nI (b + 222 + 14 * s)) Q) n (kb J (o + 1) b V)) ∧ (∀ P : MI → Prop, P I' → ∃ n, lpN1 (w_X5_passWithoutDeeds_l0 (m + 57 + 3 * s) (m + 1) P) n I) ∧ Rel m I' V' ∧ PsF m s I I' V V' ∧ ∃ p', p' ≤ ix (V' 48) ∧ V' (222 + 14 * s) = nI p' ∧ ¬ vDeed V' s p' 0 = 0 := by
  intro f
  induction f with
  | zero => intro I V p _ _ _ _ h; omega
  | succ f ih =>
    intro I V p h hend ep hp hf
    obtain ⟨hsz, e48⟩ := size_lt h.1
    obtain ⟨g0, ⟨p0, k0, hp0, ep0, ek0, hk0⟩, g1, g2, g3, g4, g5, g6, g9, g10⟩ := h.2.2.2.2 s hs'
    have epp : p0 = p := nI_inj (by omega) (by omega) (ep0.symm.trans ep)
    subst epp
    by_cases hd : vDeed V s p0 0 = 0
    · have hm0 : vMany V s p0 = 0 := by unfold vMany; rw [if_pos hd]
      have hkz : k0 = 0 := by omega
      subst hkz
      have hlt : p0 + 1 ≤ ix (V 48) := by
        rcases vOp_row h.1 hp with ⟨e, h8⟩ | ⟨hl, -⟩
        · unfold vDeed at hd; rw [h8, vd_8, if_pos rfl] at hd; exact absurd hd (by decide)
        · omega
      have hS := (h.2.2.2.2 s hs').pass hs' hlt ep ek0
      have hR : Rel m _ _ := h.side hs' (fun c hc => by rw [ui_ne _ _ _ (by omega), ui_ne _ _ _ (by omega)]) (fun j h1 h2 => by rw [upd_n _ _ (by omega), upd_n _ _ (by omega)]) ⟨by rw [upd_n _ _ (by omega), upd_n _ _ (by omega)], by rw [upd_n _ _ (by omega), upd_n _ _ (by omega)], by rw [upd_n _ _ (by omega), upd_n _ _ (by omega)]⟩ hS
      have e48' : (upd (upd V (225 + 14 * s) (V (225 + 14 * s) + 1)) (222 + 14 * s) (nI (p0 + 1))) 48 = V 48 := by rw [upd_n _ _ (by omega), upd_n _ _ (by omega)]
      obtain ⟨I', V', q1, q2, q3, q4, q5⟩ := ih _ _ (p0 + 1) hR (by rw [upd_n _ _ (by omega), upd_n _ _ (by omega)]; exact hend) (by rw [upd_s]) (by rw [e48']; exact hlt) (by rw [e48']; omega)
      refine ⟨I', V', ?_, ?_, q3, ?_, q5⟩
      · intro o b J Q hb hQ
        obtain ⟨n, hn⟩ := q1 o b J Q hb hQ
        refine ⟨n + 1, ?_⟩
        show w_X10_passes_l6 o (nI b) (nI s) (nI (b + 222 + 14 * s)) Q (lpN1 (w_X10_passes_l6 o (nI b) (nI s) (nI (b + 222 + 14 * s)) Q) n) (kb J (o + 1) b V)
        revert hn
        generalize lpN1 (w_X10_passes_l6 o (nI b) (nI s) (nI (b + 222 + 14 * s)) Q) n = rec
        intro hn
        unfold w_X10_passes_l6
        simp only [lit, nI_add]
        rw [show b + 222 + 14 * s + 4 = b + (226 + 14 * s) by omega, show b + 222 + 14 * s + 0 = b + (222 + 14 * s) by omega, show b + 222 + 14 * s + 3 = b + (225 + 14 * s) by omega, kg hb (by omega), kg hb (by omega), kg hb (by omega), ep]
        refine ⟨kin hb (by omega), fun c => absurd hend c, fun _ => ⟨kin hb (by omega), t_deed (k := 0) hb (by omega) (by omega) (by omega) ⟨fun c => absurd hd c, fun _ => ⟨kin hb (by omega), kin hb (by omega), ?_⟩⟩⟩⟩
        rintro _ rfl
        rw [kx hb (by omega)]
        refine ⟨kin hb (by omega), kin hb (by omega), ?_⟩
        rintro _ rfl
        rw [kg hb (by omega), kx hb (by omega), upd_n _ _ (by omega), ep, nI_add]
        exact hn
      · intro P hP
        obtain ⟨n, hn⟩ := q2 P hP
        refine ⟨n + 1, ?_⟩
        show w_X5_passWithoutDeeds_l0 (m + 57 + 3 * s) (m + 1) P (lpN1 (w_X5_passWithoutDeeds_l0 (m + 57 + 3 * s) (m + 1) P) n) I
        revert hn
        generalize lpN1 (w_X5_passWithoutDeeds_l0 (m + 57 + 3 * s) (m + 1) P) n = rec
        intro hn
        unfold w_X5_passWithoutDeeds_l0
        rw [g0, g1, ep, h.1.1, e48]
        refine ⟨fun c => absurd ((nI_leI (by omega) (by omega)).mp c) (by omega), fun _ => k_deedsAt hs' hsz hp (h.1.1.trans e48) ?_⟩
        rw [h.2.1.2.1 s p0 hs' hp, hm0]
        refine ⟨fun c => absurd rfl c, fun _ => ?_⟩
        rintro _ rfl
        rintro _ rfl
        rw [lit, nI_add, ui_gj _ _ _ (show (3 : Nat) ≠ 1 by omega)]
        exact hn
      · refine PsF.tr ⟨fun c hc => ?_, fun j h1 h2 => ?_, fun j h1 h2 => ?_⟩ q4
        · rw [ui_ne _ _ _ hc, ui_ne _ _ _ hc]
        · rw [ui_gj _ _ _ h2, ui_gj _ _ _ h1]
        · rw [upd_n _ _ h1, upd_n _ _ h2]
    · refine ⟨I, V, ?_, ?_, h, ⟨fun _ _ => rfl, fun _ _ _ => rfl, fun _ _ _ => rfl⟩, p0, hp, ep, hd⟩
      · intro o b J Q hb hQ
        refine ⟨1, ?_⟩
        show w_X10_passes_l6 o (nI b) (nI s) (nI (b + 222 + 14 * s)) Q _ (kb J (o + 1) b V)
        unfold w_X10_passes_l6
        simp only [lit, nI_add]
        rw [show b + 222 + 14 * s + 4 = b + (226 + 14 * s) by omega, show b + 222 + 14 * s + 0 = b + (222 + 14 * s) by omega, kg hb (by omega), kg hb (by omega), ep]
        exact ⟨kin hb (by omega), fun c => absurd hend c, fun _ => ⟨kin hb (by omega), t_deed (k := 0) hb (by omega) (by omega) (by omega) ⟨fun _ => hQ, fun c => absurd c hd⟩⟩⟩
      · intro P hP
        refine ⟨1, ?_⟩
        show w_X5_passWithoutDeeds_l0 (m + 57 + 3 * s) (m + 1) P _ I
        unfold w_X5_passWithoutDeeds_l0
        refine ⟨fun _ => hP, fun c => ?_⟩
        rw [g0, g1, ep]
        refine k_deedsAt hs' hsz hp (h.1.1.trans e48) ?_
        rw [h.2.1.2.1 s p0 hs' hp]
        refine ⟨fun _ => hP, fun c2 => ?_⟩
        rw [nI_z (by have := vMany_le (V := V) (s := s) (i := p0); omega)] at c2
        have := (vMany_iff h.1 hs' hp (k := 0) (by omega)).mpr hd
        omega
theorem p_passes {s : Nat} (h : Rel m I V) (hs' : s < 2) (hend : V (226 + 14 * s) = 0) :
    ∃ I' V', MOut (fun o b J Q => w_X10_passes o b (nI s) J Q) V V' ∧ (∀ P : MI → Prop, P I' → w_X5_passWithoutDeeds (m + 57 + 3 * s) (m + 1) I P) ∧ Rel m I' V' ∧ PsF m s I I' V V' ∧ ∃ p k, p ≤ ix (V' 48) ∧ V' (222 + 14 * s) = nI p ∧ V' (223 + 14 * s) = nI k ∧ k < vMany V' s p := by
  obtain ⟨-, ⟨p0, k0, hp0, ep0, ek0, hk0⟩, -⟩ := h.2.2.2.2 s hs'
  obtain ⟨I', V', q1, q2, q3, q4, p', hp', ep', hd⟩ := p_passesN hs' (ix (V 48) - p0 + 1) I V p0 h hend ep0 hp0 (by omega)
  refine ⟨I', V', fun o b J Q hb hQ => ?_, fun P hP => q2 P hP, q3, q4, ?_⟩
  · show w_X10_passes o (nI b) (nI s) (kb J (o + 1) b V) Q
    unfold w_X10_passes
    exact t_sideAt (q1 o b J Q hb hQ)
  · obtain ⟨-, ⟨p1, k1, hp1, ep1, ek1, hk1⟩, -⟩ := q3.2.2.2.2 s hs'
    obtain ⟨hsz, -⟩ := size_lt q3.1
    have e : p1 = p' := nI_inj (by omega) (by omega) (ep1.symm.trans ep')
    subst e
    refine ⟨p1, k1, hp1, ep1, ek1, ?_⟩
    rcases hk1 with rfl | hk1
    · exact (vMany_iff q3.1 hs' hp1 (by omega)).mpr hd
    · exact hk1
end
