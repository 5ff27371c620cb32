section
variable {m : Nat} {I : MI} {V : Nat → Int32}
theorem or1 {x : Int32} (h : bln x) : x ||| 1 = 1 := by rcases h with rfl | rfl <;> decide
theorem or0 {x : Int32} (h : bln x) : x ||| 0 = x := by rcases h with rfl | rfl <;> decide
theorem p_runs (h : Rel m I V) (hend : V 226 = 0) (h0 : V 227 = 0) :
    ∃ I' V', MOut (fun o b J Q => w_X10_runs o b J Q) V V' ∧ (∀ P : MI → Prop, P I' → w_X1_runnerTries m I P) ∧ Rel m I' V' ∧ Frm m I I' ∧ VFr V V' ∧ (∀ c, m + 60 ≤ c → I' c = I c) ∧ I' (m + 57) 6 = V' 227 ∧ (∀ j, 170 ≤ j → j < 178 → V' j = V j) ∧ (∀ j, 218 ≤ j → j < 222 → V' j = V j) ∧ (∀ j, 236 ≤ j → j < 250 → V' j = V j) ∧ ((V' 224 = V 224 + 1 ∧ I' m 15 = 1) ∨ (V' 224 = V 224 ∧ V' 227 = 7 ∧ I' m 15 = 1) ∨ (V' 224 = V 224 ∧ ¬ V' 227 = 7 ∧ I' m 15 = I m 15)) := by
  have hA := h.slot6 (s := 0) (x := 0) (by omega)
  rw [show m + 57 + 3 * 0 = m + 57 by omega] at hA
  obtain ⟨I1, V1, c1, c2, hB, c4, p, k, hp, ep, ek, hk⟩ := p_passes (s := 0) hA (by omega) hend
  rw [show m + 57 + 3 * 0 = m + 57 by omega] at c2
  have ep : V1 222 = nI p := ep
  have ek : V1 223 = nI k := ek
  have c41 : ∀ c, c ≠ m + 57 → I1 c = ui I (m + 57) 6 0 c := fun c hc => c4.1 c (by omega)
  have c42 : ∀ j, j ≠ 1 → j ≠ 3 → I1 (m + 57) j = ui I (m + 57) 6 0 (m + 57) j := fun j h1 h2 => c4.2.1 j h1 h2
  have c43 : ∀ j, j ≠ 222 → j ≠ 225 → V1 j = V j := fun j h1 h2 => c4.2.2 j (by omega) (by omega)
  obtain ⟨hsz, e48⟩ := size_lt hB.1
  have hk2 : k < 2 := by have := vMany_le (V := V1) (s := 0) (i := p); omega
  obtain ⟨r, I2, V2, hr, d1, d2, hC, d4, d5, d6, d7⟩ := p_reason hB hp hk
  have vf2 : VFr V1 V2 := fun j hj => d6 j (by omega) (by omega)
  have hl := ilow hB.1.2.1 hp
  obtain ⟨u0, -, u1, u2, -, -, u4, -⟩ := hB.2.2.2.2 0 (by omega)
  have u0 : I1 (m + 57) 0 = nI 0 := u0
  have u1 : I1 (m + 57) 1 = nI p := u1.trans ep
  have u2 : I1 (m + 57) 2 = nI k := u2.trans ek
  have Cpre : ∀ P : MI → Prop, (w_X5_setReason (m + 57) (nI r) I2 (fun I13 => ((nI r < (5) → ((¬ nI r = 0 → w_X1_runnerTries_p99 m (nI r) I13 P) ∧ (nI r = 0 → (w_X1_runnerDoes m (cKind (vOp V1 p) (vDeed V1 0 p k)) (m + 10 + p) I13 (fun r24 I25 => (w_X5_finishDeed (m + 57) (m + 1) r24 I25 (fun I26 => w_X1_runnerTries_p99 m (nI r) I26 P))))))) ∧ (¬ nI r < (5) → (∀ I27, I27 = ui I13 m 11 ((I13 m 11) + (1)) → ((¬ nI r = 0 → w_X1_runnerTries_p99 m (nI r) I27 P) ∧ (nI r = 0 → (w_X1_runnerDoes m (cKind (vOp V1 p) (vDeed V1 0 p k)) (m + 10 + p) I27 (fun r29 I30 => (w_X5_finishDeed (m + 57) (m + 1) r29 I30 (fun I31 => w_X1_runnerTries_p99 m (nI r) I31 P))))))))))) → w_X1_runnerTries m I P := fun P hP => by
    unfold w_X1_runnerTries
    refine k_setReason (r := 0) (by omega) ?_
    rw [if_pos rfl]
    refine ⟨fun _ => c2 _ ?_, fun c => absurd ?_ c⟩
    · rw [u1]
      refine ⟨inn (by omega) (by omega), ?_⟩
      unfold w_X5_kindOfNext
      rw [u0, u1, u2, ixn (by omega)]
      refine k_kindOf (by omega) (by omega) hk2 ?_
      rw [hB.2.1.2.2.1 0 p k (by omega) hp hk]
      exact d2 _ hP
    · obtain ⟨-, -, -, -, -, -, q, -⟩ := hA.2.2.2.2 0 (by omega)
      exact q.trans hend
  have Mpre : ∀ (o b : Nat) (J : MI) (Q : MI → Prop), b ≤ 1032 → (nI r ≤ 0 → swR o (nI b) (nI p) (vDeed V1 0 p k - vDeed V1 0 p k / 16 * 16) (vDeed V1 0 p k) (kb J (o + 1) b V2) Q) → (¬ nI r ≤ 0 → w_X10_waits o (nI b) (nI 0) (nI r) (kb J (o + 1) b V2) Q) → w_X10_runs o (nI b) (kb J (o + 1) b V) Q := fun o b J Q hb q1 q2 => by
    unfold w_X10_runs
    refine t_sideAt (s := 0) (c1 o b J _ hb ?_)
    simp only [show nI (b + 222 + 14 * 0) + 0 = nI (b + 222) from nI_add _ 0, show nI (b + 222 + 14 * 0) + 1 = nI (b + 223) from nI_1 _]
    rw [kg hb (by omega), kg hb (by omega), ep, ek]
    refine ⟨kin hb (by omega), ?_⟩
    rintro _ rfl
    exact ⟨kin hb (by omega), t_deed (side := 0) hb (by omega) (by omega) (by omega) (d1 o b J _ hb ⟨q1, q2⟩)⟩
  have e15 : I2 m 15 = I m 15 := by rw [d5 15 (by omega) (by omega), c41 m (by omega), ui_ne _ _ _ (by omega)]
  have hb15 : bln (I m 15) := h.2.2.1.2.2.2.2.2.2.2.2.2.2.2.2.2.2.2.2.2.2
  have f12 : Frm m I I2 := fun c hc => by rw [d4 c (by omega), c41 c (by omega), ui_ne _ _ _ (by omega)]
  have fv12 : VFr V V2 := fun j hj => by rw [d6 j (by omega) (by omega), c43 j (by omega) (by omega)]
  have f60 : ∀ c, m + 60 ≤ c → I2 c = I c := fun c hc => by rw [d4 c (by omega), c41 c (by omega), ui_ne _ _ _ (by omega)]
  have v2 : ∀ j, j ≠ 222 → j ≠ 225 → j ≠ 250 → j ≠ 251 → V2 j = V j := fun j q1 q2 q3 q4 => by rw [d6 j q3 q4, c43 j q1 q2]
  by_cases hz : r = 0
  · subst hz
    have hD := hC.slot6 (s := 0) (x := 0) (by omega)
    rw [show m + 57 + 3 * 0 = m + 57 by omega] at hD
    have eop : vOp V2 p = vOp V1 p := vOp_fr vf2 hl
    have ed : vDeed V2 0 p k = vDeed V1 0 p k := vDeed_fr vf2 hl
    have hRA := ra_all (k := k) hD (by rw [vf2 48 (by omega)]; exact hp) (by rw [d6 _ (by omega) (by omega)]; exact ep) (by rw [d6 _ (by omega) (by omega)]; exact ek) (by rw [vMany_fr vf2 hl]; exact hk) (by rw [ed]; exact d7 rfl)
    rw [ed, eop] at hRA
    obtain ⟨I3, V3, g1, g2, g3, g4, g5, g6, g7, g8, g9, g10, g11, g12⟩ := hRA
    have hb3 : bln (I3 m 15) := g3.2.2.1.2.2.2.2.2.2.2.2.2.2.2.2.2.2.2.2.2.2
    have hE := g3.mz (c := m) (k := 15) (v := 1) (Or.inl rfl) (g3.2.2.1.stir (Or.inr rfl))
    refine ⟨ui I3 m 15 1, V3, fun o b J Q hb hQ => Mpre o b J Q hb (fun _ => g1 o b J Q hb hQ) (fun c => absurd (by decide) c), fun P hP => Cpre P ?_, hE, ?_, ?_, ?_, ?_, ?_, ?_, ?_, ?_⟩
    · refine k_setReason (r := 0) (by omega) ?_
      rw [if_pos rfl]
      refine ⟨fun _ => ⟨fun c => absurd rfl c, fun _ => g2 _ ?_⟩, fun c => absurd (by decide) c⟩
      unfold w_X1_runnerTries_p99
      refine ⟨fun _ => ⟨by rw [or1 hb3]; exact Or.inr rfl, ?_⟩, fun c => absurd rfl c⟩
      rintro _ rfl
      rw [or1 hb3]
      exact hP
    · exact f12.tr (fun c hc => by rw [ui_ne _ _ _ (by omega), g4 c hc, ui_ne _ _ _ (by omega)])
    · exact fv12.tr g5
    · intro c hc; rw [ui_ne _ _ _ (by omega), g6 c hc, ui_ne _ _ _ (by omega), f60 c hc]
    · rw [ui_gn _ _ _ _ (by omega), g7, ui_gs, g11 227 (by omega) (by omega), v2 _ (by omega) (by omega) (by omega) (by omega), h0]
    · intro j h1 h2; rw [g9 j h1 h2, v2 j (by omega) (by omega) (by omega) (by omega)]
    · intro j h1 h2; rw [g10 j h1 h2, v2 j (by omega) (by omega) (by omega) (by omega)]
    · intro j h1 h2; rw [g11 j (by omega) h2, v2 j (by omega) (by omega) (by omega) (by omega)]
    · left; exact ⟨by rw [g12, v2 _ (by omega) (by omega) (by omega) (by omega)], ui_gs _ _ _ _⟩
  · have hrz : ¬ nI r = 0 := fun c => hz ((nI_z (by omega)).mp c)
    have w0 : ∀ j, j ≠ 227 → j ≠ 228 + r → vWait V2 0 r j = V2 j := fun j q1 q2 => vWait_o (by omega) (by omega)
    have w7 : vWait V2 0 r 227 = nI r := by unfold vWait; rw [upd_n _ _ (by omega), upd_s]
    have Mw : ∀ (o b : Nat) (J : MI) (Q : MI → Prop), b ≤ 1032 → Q (kb J (o + 1) b (vWait V2 0 r)) → w_X10_runs o (nI b) (kb J (o + 1) b V) Q := fun o b J Q hb hQ => Mpre o b J Q hb (fun c => absurd c (nI_nle (by omega) (by omega))) (fun _ => t_waits (s := 0) hb (by omega) hr hQ)
    have i15 : ∀ x y : Int32, ui (ui I2 (m + 57) 6 x) (m + 58) r y m 15 = I m 15 := fun x y => by rw [ui_gn _ _ _ _ (by omega), ui_gn _ _ _ _ (by omega)]; exact e15
    by_cases h5 : r < 5
    · have hD := hC.wait0 (s := 0) (r := r) (by omega) (by omega) hr (Or.inr h5)
      rw [show m + 57 + 3 * 0 = m + 57 by omega, show m + 58 + 3 * 0 = m + 58 by omega] at hD
      have hE := hD.mz (c := m) (k := 15) (v := I m 15) (Or.inl rfl) (hD.2.2.1.stir hb15)
      refine ⟨_, _, Mw, fun P hP => Cpre P (k_setReason hr ?_), hE, ?_, ?_, ?_, ?_, ?_, ?_, ?_, ?_⟩
      · rw [if_neg hz]
        refine ⟨fun _ => ⟨fun _ => ?_, fun c => absurd c hrz⟩, fun c => absurd (nI_lt (b := 5) h5 (by omega)) c⟩
        unfold w_X1_runnerTries_p99
        refine ⟨fun c => absurd c hrz, fun _ => ⟨fun _ => ?_, fun c => absurd (nI_inj (b := 7) (by omega) (by omega) c) (by omega)⟩⟩
        rw [show m + 57 + 1 = m + 58 by omega, i15, or0 hb15]
        refine ⟨hb15, ?_⟩
        rintro _ rfl
        exact hP
      · exact f12.tr (fun c hc => by rw [ui_ne _ _ _ (by omega), ui_ne _ _ _ (by omega), ui_ne _ _ _ (by omega)])
      · exact fv12.tr (fun j hj => w0 j (by omega) (by omega))
      · intro c hc; rw [ui_ne _ _ _ (by omega), ui_ne _ _ _ (by omega), ui_ne _ _ _ (by omega), f60 c hc]
      · rw [ui_gn _ _ _ _ (by omega), ui_gn _ _ _ _ (by omega), ui_gs, w7]
      · intro j h1 h2; rw [w0 j (by omega) (by omega), v2 j (by omega) (by omega) (by omega) (by omega)]
      · intro j h1 h2; rw [w0 j (by omega) (by omega), v2 j (by omega) (by omega) (by omega) (by omega)]
      · intro j h1 h2; rw [w0 j (by omega) (by omega), v2 j (by omega) (by omega) (by omega) (by omega)]
      · right; right
        exact ⟨by rw [w0 _ (by omega) (by omega), v2 _ (by omega) (by omega) (by omega) (by omega)], by rw [w7]; exact fun c => absurd (nI_inj (b := 7) (by omega) (by omega) c) (by omega), ui_gs _ _ _ _⟩
    · have hD := hC.wait1 (r := r) (by omega) hr
      have j15 : ∀ x y z : Int32, ui (ui (ui I2 (m + 57) 6 x) (m + 58) r y) m 11 z m 15 = I m 15 := fun x y z => by rw [ui_gj _ _ _ (by omega)]; exact i15 x y
      have j11 : ∀ x y : Int32, ui (ui I2 (m + 57) 6 x) (m + 58) r y m 11 = I2 m 11 := fun x y => by rw [ui_gn _ _ _ _ (by omega), ui_gn _ _ _ _ (by omega)]
      by_cases h7 : r = 7
      · have hE := hD.mz (c := m) (k := 15) (v := 1) (Or.inl rfl) (hD.2.2.1.stir (Or.inr rfl))
        refine ⟨_, _, Mw, fun P hP => Cpre P (k_setReason hr ?_), hE, ?_, ?_, ?_, ?_, ?_, ?_, ?_, ?_⟩
        · rw [if_neg hz]
          refine ⟨fun c => absurd ((nI_ltI (b := 5) (by omega) (by omega)).mp c) h5, fun _ => ?_⟩
          rintro _ rfl
          refine ⟨fun _ => ?_, fun c => absurd c hrz⟩
          unfold w_X1_runnerTries_p99
          refine ⟨fun c => absurd c hrz, fun _ => ⟨fun c => absurd (by rw [h7]; rfl) c, fun _ => ?_⟩⟩
          rw [show m + 57 + 1 = m + 58 by omega, j11, j15, or1 hb15]
          refine ⟨Or.inr rfl, ?_⟩
          rintro _ rfl
          exact hP
        · exact f12.tr (fun c hc => by rw [ui_ne _ _ _ (by omega), ui_ne _ _ _ (by omega), ui_ne _ _ _ (by omega), ui_ne _ _ _ (by omega)])
        · exact fv12.tr (fun j hj => w0 j (by omega) (by omega))
        · intro c hc; rw [ui_ne _ _ _ (by omega), ui_ne _ _ _ (by omega), ui_ne _ _ _ (by omega), ui_ne _ _ _ (by omega), f60 c hc]
        · rw [ui_gn _ _ _ _ (by omega), ui_gn _ _ _ _ (by omega), ui_gn _ _ _ _ (by omega), ui_gs, w7]
        · intro j h1 h2; rw [w0 j (by omega) (by omega), v2 j (by omega) (by omega) (by omega) (by omega)]
        · intro j h1 h2; rw [w0 j (by omega) (by omega), v2 j (by omega) (by omega) (by omega) (by omega)]
        · intro j h1 h2; rw [w0 j (by omega) (by omega), v2 j (by omega) (by omega) (by omega) (by omega)]
        · right; left
          exact ⟨by rw [w0 _ (by omega) (by omega), v2 _ (by omega) (by omega) (by omega) (by omega)], by rw [w7, h7]; rfl, ui_gs _ _ _ _⟩
      · have hE := hD.mz (c := m) (k := 15) (v := I m 15) (Or.inl rfl) (hD.2.2.1.stir hb15)
        refine ⟨_, _, Mw, fun P hP => Cpre P (k_setReason hr ?_), hE, ?_, ?_, ?_, ?_, ?_, ?_, ?_, ?_⟩
        · rw [if_neg hz]
          refine ⟨fun c => absurd ((nI_ltI (b := 5) (by omega) (by omega)).mp c) h5, fun _ => ?_⟩
          rintro _ rfl
          refine ⟨fun _ => ?_, fun c => absurd c hrz⟩
          unfold w_X1_runnerTries_p99
          refine ⟨fun c => absurd c hrz, fun _ => ⟨fun _ => ?_, fun c => absurd (nI_inj (b := 7) (by omega) (by omega) c) h7⟩⟩
          rw [show m + 57 + 1 = m + 58 by omega, j11, j15, or0 hb15]
          refine ⟨hb15, ?_⟩
          rintro _ rfl
          exact hP
        · exact f12.tr (fun c hc => by rw [ui_ne _ _ _ (by omega), ui_ne _ _ _ (by omega), ui_ne _ _ _ (by omega), ui_ne _ _ _ (by omega)])
        · exact fv12.tr (fun j hj => w0 j (by omega) (by omega))
        · intro c hc; rw [ui_ne _ _ _ (by omega), ui_ne _ _ _ (by omega), ui_ne _ _ _ (by omega), ui_ne _ _ _ (by omega), f60 c hc]
        · rw [ui_gn _ _ _ _ (by omega), ui_gn _ _ _ _ (by omega), ui_gn _ _ _ _ (by omega), ui_gs, w7]
        · intro j h1 h2; rw [w0 j (by omega) (by omega), v2 j (by omega) (by omega) (by omega) (by omega)]
        · intro j h1 h2; rw [w0 j (by omega) (by omega), v2 j (by omega) (by omega) (by omega) (by omega)]
        · intro j h1 h2; rw [w0 j (by omega) (by omega), v2 j (by omega) (by omega) (by omega) (by omega)]
        · right; right
          exact ⟨by rw [w0 _ (by omega) (by omega), v2 _ (by omega) (by omega) (by omega) (by omega)], by rw [w7]; exact fun c => absurd (nI_inj (b := 7) (by omega) (by omega) c) h7, ui_gs _ _ _ _⟩
end
