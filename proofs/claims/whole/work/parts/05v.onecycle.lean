section
variable {m : Nat} {I : MI} {V : Nat → Int32}
theorem p_cycle (h : Rel m I V) (hst : V 171 = 0) (hnow : bd (V 170) 999) :
    ∃ I' V', MOut (fun o b J Q => w_X10_cycle o b J Q) V V' ∧ (∀ P : MI → Prop, P I' → w_X1_oneCycle m I P) ∧ Rel m I' V' ∧ RelW m I' V' ∧ Frm m I I' ∧ VFr V V' ∧ (∀ j, 172 ≤ j → j < 178 → V' j = V j) ∧ V' 170 = V 170 + 1 ∧ (V' 171 = 0 → bd (V' 170) 999) := by
  obtain ⟨t, ht, et⟩ := hnow
  have h1 := h.mm (c := m) (j := 170) (Or.inl rfl) (by omega) (h.2.2.1.now (x := nI (t + 1)) ⟨t + 1, by omega, rfl⟩)
  have h2 := h1.mz (c := m) (k := 15) (v := 0) (Or.inl rfl) (h1.2.2.1.stir (Or.inl rfl))
  have h3 := h2.rsn (s := 0) (x := 0) (by omega)
  have h4 := h3.rsn (s := 1) (x := 0) (by omega)
  rw [show 227 + 14 * 0 = 227 by omega, show 227 + 14 * 1 = 241 by omega] at h4
  generalize hV0 : upd (upd (upd V 170 (nI (t + 1))) 227 0) 241 0 = V0 at h4
  generalize hI0 : ui (ui I m 5 (nI (t + 1))) m 15 0 = I0 at h4
  have v0 : ∀ j, j ≠ 170 → j ≠ 227 → j ≠ 241 → V0 j = V j := fun j q1 q2 q3 => by rw [← hV0, upd_n _ _ q3, upd_n _ _ q2, upd_n _ _ q1]
  have v170 : V0 170 = nI (t + 1) := by rw [← hV0, upd_n _ _ (by omega), upd_n _ _ (by omega), upd_s]
  have v227 : V0 227 = 0 := by rw [← hV0, upd_n _ _ (by omega), upd_s]
  have v241 : V0 241 = 0 := by rw [← hV0, upd_s]
  have i15 : I0 m 15 = 0 := by rw [← hI0, ui_gs]
  have i0 : ∀ c, c ≠ m → I0 c = I c := fun c hc => by rw [← hI0, ui_ne _ _ _ hc, ui_ne _ _ _ hc]
  obtain ⟨I1, V1, a1, a2, a3, a4, a5, a6, a7, a8⟩ := p_writes h4
  obtain ⟨I2, V2, b1, b1', b2, b3, b4, b5, b6, b7, b8, b9, na, hna, ea, eb⟩ := p_runE a3 (by rw [a7 227 (by omega) (by omega)]; exact v227)
  have e241 : V2 241 = 0 := by rw [b9 241 (by omega) (by omega), a7 241 (by omega) (by omega)]; exact v241
  obtain ⟨I3, V3, c1, c1', c2, c3, c4, c5, c6, c7, c8, c9, nb, hnb, ec, ed⟩ := p_workE b3 e241
  -- how much was done
  obtain ⟨nw, hnw, ew, ewi⟩ : ∃ nw : Nat, nw ≤ 1 ∧ V1 221 = V 221 + nI nw ∧ I1 m 15 = nI nw := by
    rcases a6 with ⟨q1, q2⟩ | ⟨q1, q2⟩
    · exact ⟨0, by omega, by rw [q1, v0 221 (by omega) (by omega) (by omega)]; exact (Int32.add_zero _).symm, by rw [q2, i15]; rfl⟩
    · exact ⟨1, by omega, by rw [q1, v0 221 (by omega) (by omega) (by omega)]; rfl, by rw [q2]; rfl⟩
  have e221 : V3 221 = V 221 + nI nw := by rw [c9 221 (by omega) (by omega), b8 221 (by omega) (by omega), ew]
  have e224 : V3 224 = V 224 + nI na := by rw [c9 224 (by omega) (by omega), ea, a7 224 (by omega) (by omega), v0 224 (by omega) (by omega) (by omega)]
  have e238 : V3 238 = V 238 + nI nb := by rw [ec, b9 238 (by omega) (by omega), a7 238 (by omega) (by omega), v0 238 (by omega) (by omega) (by omega)]
  have e227 : V3 227 = V2 227 := c9 227 (by omega) (by omega)
  have e170 : V3 170 = nI (t + 1) := by rw [c8 170 (by omega) (by omega), b7 170 (by omega) (by omega), a7 170 (by omega) (by omega), v170]
  have e171 : V3 171 = 0 := by rw [c8 171 (by omega) (by omega), b7 171 (by omega) (by omega), a7 171 (by omega) (by omega), v0 171 (by omega) (by omega) (by omega), hst]
  generalize hsl : V3 225 - V3 239 = sl
  -- the numbers
  have d1 := c3.mm (c := m) (j := 218) (Or.inl rfl) (by omega) (c3.2.2.1.most (x := if V3 218 < sl then sl else V3 218))
  have d2 := d1.mm (c := m) (j := 219) (Or.inl rfl) (by omega) (d1.2.2.1.least (x := if sl < V3 219 then sl else V3 219))
  have d3 := d2.mm (c := m) (j := 220) (Or.inl rfl) (by omega) (d2.2.2.1.sum (x := V3 220 + sl))
  have hN : upd (upd (upd V3 218 (if V3 218 < sl then sl else V3 218)) 219 (if sl < V3 219 then sl else V3 219)) 220 (V3 220 + sl) = vNum V3 sl := rfl
  rw [hN] at d3
  generalize hI4 : ui (ui (ui I3 m 8 (if V3 218 < sl then sl else V3 218)) m 9 (if sl < V3 219 then sl else V3 219)) m 10 (V3 220 + sl) = I4 at d3
  have n0 : ∀ j, (j < 218 ∨ 220 < j) → vNum V3 sl j = V3 j := fun j hj => by unfold vNum; rw [upd_n _ _ (by omega), upd_n _ _ (by omega), upd_n _ _ (by omega)]
  have i4 : ∀ c, c ≠ m → I4 c = I3 c := fun c hc => by rw [← hI4, ui_ne _ _ _ hc, ui_ne _ _ _ hc, ui_ne _ _ _ hc]
  have i415 : I4 m 15 = I3 m 15 := by rw [← hI4, ui_gj _ _ _ (by omega), ui_gj _ _ _ (by omega), ui_gj _ _ _ (by omega)]
  have d4 := d3.mm (c := m) (j := 171) (Or.inl rfl) (by omega) (d3.2.2.1.state (vOut_bd (vNum V3 sl) (stc (V 221) (V 224 + V 238) (vNum V3 sl))))
  have hstir : stc (V 221) (V 224 + V 238) (vNum V3 sl) = true ↔ I4 m 15 = 0 ∧ vAll (vNum V3 sl) = true := by
    have us : stc (V 221) (V 224 + V 238) (vNum V3 sl) = true ↔ (V 221 = vNum V3 sl 221 ∧ V 224 + V 238 = vNum V3 sl 224 + vNum V3 sl 238 ∧ ¬ vNum V3 sl 227 = 7 ∧ vAll (vNum V3 sl) = true) := by unfold stc; exact decide_eq_true_iff
    rw [us, n0 221 (by omega), n0 224 (by omega), n0 238 (by omega), n0 227 (by omega), e221, e224, e238, e227, i415, ed, eb, ewi]
    have esum : V 224 + nI na + (V 238 + nI nb) = (V 224 + V 238) + nI (na + nb) := by rw [← nI_add]; ac_rfl
    rw [esum]
    constructor
    · rintro ⟨q1, q2, q3, q4⟩
      have z1 : nw = 0 := (nI_z (by omega)).mp (addz q1)
      have z2 : na + nb = 0 := (nI_z (by omega)).mp (addz q2)
      have z3 : na = 0 := by omega
      have z4 : nb = 0 := by omega
      refine ⟨?_, q4⟩
      rw [z1, z3, z4, if_neg (by omega), if_neg (fun c => c.elim (by omega) q3)]
      rfl
    · rintro ⟨q1, q4⟩
      by_cases z4 : nb = 1
      · rw [if_pos z4] at q1; exact absurd q1 (by decide)
      · rw [if_neg z4] at q1
        by_cases z3 : na = 1 ∨ V2 227 = 7
        · rw [if_pos z3] at q1; exact absurd q1 (by decide)
        · rw [if_neg z3, nI_z (by omega)] at q1
          have z5 : na = 0 := by have : ¬ na = 1 := fun c => z3 (Or.inl c); omega
          have z6 : nb = 0 := by omega
          rw [q1, z5, z6]
          exact ⟨(Int32.add_zero _).symm, (Int32.add_zero _).symm, fun c => z3 (Or.inr c), q4⟩
  obtain ⟨n3, f3, hn3, hf3, en3, -⟩ := c3.2.2.2.1 0 (by omega)
  obtain ⟨-, -, -, -, -, g4, g5, g6, -⟩ := c3.2.2.2.2 0 (by omega)
  obtain ⟨-, -, -, -, -, k4, k5, k6, -⟩ := c3.2.2.2.2 1 (by omega)
  have g4 : I3 (m + 57) 3 = V3 225 := g4
  have k4 : I3 (m + 60) 3 = V3 239 := k4
  have fF : Frm m I I3 := fun c hc => by rw [c4 c hc, b4 c hc, a4 c hc, i0 c (by omega)]
  have fV : VFr V V3 := fun j hj => by rw [c5 j hj, b5 j hj, a5 j hj, v0 j (by omega) (by omega) (by omega)]
  refine ⟨_, _, fun o b J Q hb hQ => ?_, fun P hP => ?_, d4, ?_, ?_, ?_, ?_, ?_, ?_⟩
  · -- the model
    show w_X10_cycle o (nI b) (kb J (o + 1) b V) Q
    unfold w_X10_cycle
    obtain ⟨x1, x2, x3⟩ := t_val (o := o) (J := J) (V := V) (k := 170) hb (by omega)
    have x2 : kb J (o + 1) b V (o + 1) (ix (nI b + 170)) = V 170 := x2
    have x3 : ui (kb J (o + 1) b V) (o + 1) (ix (nI b + 170)) (nI (t + 1)) = kb J (o + 1) b (upd V 170 (nI (t + 1))) := x3 _
    refine ⟨x1, x1, ?_⟩
    rw [x2, et, nI_1, x3]
    rintro _ rfl
    obtain ⟨y1, y2, -⟩ := t_val (o := o) (J := J) (V := upd V 170 (nI (t + 1))) (k := 221) hb (by omega)
    have y2 : kb J (o + 1) b (upd V 170 (nI (t + 1))) (o + 1) (ix (nI b + 221)) = V 221 := by rw [show (221 : Int32) = nI 221 from rfl, y2, upd_n _ _ (by omega)]
    refine ⟨y1, ?_⟩
    rw [y2]
    rintro _ rfl
    refine t_sideAt (s := 0) ?_
    rw [show nI (b + 222 + 14 * 0) + 2 = nI (b + 224) from nI_add _ 2, kg hb (by omega), upd_n _ _ (by omega)]
    refine ⟨kin hb (by omega), t_sideAt (s := 1) ?_⟩
    rw [show nI (b + 222 + 14 * 1) + 2 = nI (b + 238) from nI_add _ 2, kg hb (by omega), upd_n _ _ (by omega)]
    refine ⟨kin hb (by omega), ?_⟩
    rintro _ rfl
    refine t_sideAt (s := 0) ?_
    rw [show nI (b + 222 + 14 * 0) + 5 = nI (b + 227) from nI_add _ 5, kx hb (by omega)]
    refine ⟨kin hb (by omega), ?_⟩
    rintro _ rfl
    refine t_sideAt (s := 1) ?_
    rw [show nI (b + 222 + 14 * 1) + 5 = nI (b + 241) from nI_add _ 5, kx hb (by omega)]
    refine ⟨kin hb (by omega), ?_⟩
    rintro _ rfl
    rw [hV0]
    refine a1 o b J _ hb ?_
    have hfin : w_X10_cycle_p110 o (nI b) (V 221) (V 224 + V 238) (kb J (o + 1) b V3) Q := t_p110 hb en3 hn3 (by rw [hsl]; exact hQ)
    have hE : ∀ s, s < 2 → V1 (226 + 14 * s) = 0 ∨ V1 (226 + 14 * s) = 1 := fun s hs => by
      obtain ⟨-, -, -, -, -, -, -, q, -⟩ := a3.2.2.2.2 s hs
      exact bit_c q
    have hE2 : V2 240 = V1 240 := b9 240 (by omega) (by omega)
    refine t_isEnded (s := 0) hb (by omega) ?_
    rw [show 226 + 14 * 0 = 226 by omega]
    rcases hE 0 (by omega) with q | q
    · have q : V1 226 = 0 := q
      rw [if_neg (by rw [q]; decide)]
      refine ⟨fun c => absurd rfl c, fun _ => b1 q o b J _ hb (t_isEnded (s := 1) hb (by omega) ?_)⟩
      rw [show 226 + 14 * 1 = 240 by omega, hE2]
      rcases hE 1 (by omega) with r | r
      · have r : V1 240 = 0 := r
        rw [if_neg (by rw [r]; decide)]
        exact ⟨fun c => absurd rfl c, fun _ => c1 (by rw [hE2]; exact r) o b J _ hb hfin⟩
      · have r : V1 240 = 1 := r
        rw [if_pos r]
        refine ⟨fun _ => ?_, fun c => absurd c (by decide)⟩
        rw [← c1' (by rw [hE2, r]; decide)]
        exact hfin
    · have q : V1 226 = 1 := q
      have e12 := b1' (by rw [q]; decide)
      rw [if_pos q]
      refine ⟨fun _ => t_isEnded (s := 1) hb (by omega) ?_, fun c => absurd c (by decide)⟩
      rw [show 226 + 14 * 1 = 240 by omega]
      rcases hE 1 (by omega) with r | r
      · have r : V1 240 = 0 := r
        rw [if_neg (by rw [r]; decide)]
        refine ⟨fun c => absurd rfl c, fun _ => ?_⟩
        rw [← e12]
        exact c1 (by rw [hE2]; exact r) o b J _ hb hfin
      · have r : V1 240 = 1 := r
        rw [if_pos r]
        refine ⟨fun _ => ?_, fun c => absurd c (by decide)⟩
        rw [← e12, ← c1' (by rw [hE2, r]; decide)]
        exact hfin
  · -- the class
    unfold w_X1_oneCycle
    rw [h.2.2.1.2.2.1, et, nI_1]
    rintro _ rfl
    rintro _ rfl
    rw [hI0]
    refine a2 _ (b2 _ (c2 _ ?_))
    unfold w_X1_slip
    have s8 : I3 m 8 = V3 218 := c3.2.2.1.2.2.2.2.2.2.2.2.2.1
    have s9 : I3 m 9 = V3 219 := c3.2.2.1.2.2.2.2.2.2.2.2.2.2.1
    have s10 : I3 m 10 = V3 220 := c3.2.2.1.2.2.2.2.2.2.2.2.2.2.2.1
    rw [g4, k4, hsl]
    rintro _ rfl
    rintro _ rfl
    rintro _ rfl
    rw [s8, ui_gj _ _ _ (show (9 : Nat) ≠ 8 by omega), s9, ui_gj _ _ _ (show (10 : Nat) ≠ 9 by omega), ui_gj _ _ _ (show (10 : Nat) ≠ 8 by omega), s10, hI4]
    refine k_outcome d3 hstir (by rw [n0 170 (by omega)]; exact e170) (by omega) ?_
    rintro _ rfl
    exact hP
  · intro s hs
    rcases (show s = 0 ∨ s = 1 by omega) with rfl | rfl
    · rw [ui_ne _ _ _ (by omega), i4 _ (by omega), upd_n _ _ (by omega), n0 _ (by omega), show m + 57 + 3 * 0 = m + 57 by omega, show 227 + 14 * 0 = 227 by omega, c6 _ (by omega) (by omega), b6, e227]
    · rw [ui_ne _ _ _ (by omega), i4 _ (by omega), upd_n _ _ (by omega), n0 _ (by omega), show m + 57 + 3 * 1 = m + 60 by omega, show 227 + 14 * 1 = 241 by omega, c7]
  · exact fF.tr (fun c hc => by rw [ui_ne _ _ _ (by omega), i4 c (by omega)])
  · exact fV.tr (fun j hj => by rw [upd_n _ _ (by omega), n0 j (by omega)])
  · intro j h1 h2
    rw [upd_n _ _ (by omega), n0 j (by omega), c8 j (by omega) (by omega), b7 j (by omega) (by omega), a7 j (by omega) (by omega), v0 j (by omega) (by omega) (by omega)]
  · rw [upd_n _ _ (by omega), n0 170 (by omega), e170, et, nI_1]
  · rw [upd_s, upd_n _ _ (by omega), n0 170 (by omega), e170]
    intro q
    refine ⟨t + 1, ?_, rfl⟩
    unfold vOut at q
    rw [n0 170 (by omega), e170] at q
    split at q
    · exact absurd q (by decide)
    · split at q
      · exact absurd q (by decide)
      · split at q
        · exact absurd q (by decide)
        · rename_i q3
          have : ¬ t + 1 = 999 := fun c => q3 (by rw [c]; rfl)
          omega
end
