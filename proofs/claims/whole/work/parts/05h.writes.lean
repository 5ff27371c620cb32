/-- the model's method comes from block V to V' (any place, any rest) -/
def MOut (w : Nat → Int32 → MI → (MI → Prop) → Prop) (V V' : Nat → Int32) : Prop := ∀ (o b : Nat) (J : MI) (Q : MI → Prop), b ≤ 1032 → Q (kb J (o + 1) b V') → w o (nI b) (kb J (o + 1) b V) Q
section
variable {m : Nat} {I : MI} {V : Nat → Int32}
theorem kx {o b k : Nat} {J : MI} {x : Int32} (hb : b ≤ 1032) (hk : k < 516) : ui (kb J (o + 1) b V) (o + 1) (ix (nI (b + k))) x = kb J (o + 1) b (upd V k x) := by rw [ixn (by omega), kb_up _ _ _ _ hk]
theorem kg {o b k : Nat} {J : MI} (hb : b ≤ 1032) (hk : k < 516) : kb J (o + 1) b V (o + 1) (ix (nI (b + k))) = V k := by rw [ixn (by omega), kb_at _ _ _ _ hk]
theorem kin {b k : Nat} (hb : b ≤ 1032) (hk : k < 516) : vp_in (nI (b + k)) 4905 := inn (by omega) (by omega)
/-- what writing one cell does -/
theorem p_write1 {n f : Nat} {v : Int32} (h : Rel m I V) (hn : 0 < n) (hn6 : n ≤ 6) (hf : f < 6) (e1 : V 271 = nI n) (e2 : I (m + 42) 3 = nI n) (e3 : I (m + 42) 2 = nI f) (e4 : I (m + 42) 4 = V 173) (e5 : ∃ k, 1 ≤ k ∧ k ≤ 6 ∧ V 173 = nI k)
    (hj : ∀ j, j < n → I (m + 43) ((f + j) % 6) = V (272 + 3 * j) ∧ EntR 1 (V (272 + 3 * j)) (V (273 + 3 * j)) (V (274 + 3 * j)) (I (m + 44) ((f + j) % 6))) (hv : bd v 1000) :
    ∃ I' V', MOut (fun o b J Q => w_X10_writes_p61 o b v J Q) V V' ∧ (∀ P : MI → Prop, P I' → w_X1_writeOne_p52 m v I P) ∧ Rel m I' V' ∧ Frm m I I' ∧ VFr V V' ∧ I' m 15 = 1 ∧ V' 221 = V 221 + 1 ∧ (∀ k, (170 ≤ k ∧ k < 178 ∨ 218 ≤ k ∧ k < 221 ∨ 222 ≤ k) → k < 252 → V' k = V k) ∧ (∀ c, m + 57 ≤ c → I' c = I c) := by
  obtain ⟨h0, hE⟩ := hj 0 hn
  obtain ⟨hc, -⟩ := hE.2.1 rfl
  obtain ⟨ec, hc32⟩ := bd_ix hc (by omega)
  rw [Nat.mul_zero, Nat.add_zero] at h0 ec hc32 hc
  rw [show (f + 0) % 6 = f by omega, Nat.add_zero] at h0
  generalize hcc : ix (V 272) = c at ec hc32
  have hT := h.take (q := 1) (by omega) hn hn6 hf e1 e2 e4 e5 hj
  have h2 := hT.mm (Or.inr (Or.inr rfl)) (by omega) (hT.2.2.1.cell hc32 hv)
  have h3 := h2.mm (Or.inl rfl) (by omega) h2.2.2.1.wrote
  have h4 := h3.mz (Or.inl rfl) (h3.2.2.1.stir (x := 1) (Or.inr rfl))
  refine ⟨_, _, ?_, ?_, h4, ?_, ?_, ?_, ?_, ?_, ?_⟩
  · intro o b J Q hb hQ
    unfold w_X10_writes_p61
    refine t_takes (q := 1) hb (by omega) ?_
    rw [show 253 + 19 * 1 = 272 by omega, ec]
    simp only [lit, nI_add]
    refine ⟨inn (by omega) (by omega), ?_⟩
    rintro _ rfl
    refine ⟨inn (by omega) (by omega), inn (by omega) (by omega), ?_⟩
    rintro _ rfl
    rw [show b + 178 + c = b + (178 + c) by omega, kx hb (by omega), kx hb (by omega), kg hb (by omega)]
    exact hQ
  · intro P hP
    unfold w_X1_writeOne_p52
    refine k_take hn hn6 hf e2 e3 ?_
    rw [show m + 42 + 1 = m + 43 by omega, h0, ec]
    refine ⟨inn hc32 (by omega), ?_⟩
    rw [ixn (by omega)]
    rintro _ rfl
    rintro _ rfl
    rintro _ rfl
    exact hP
  · exact ((qTake_frm (q := 1) (by omega)).tr (Frm.ui (by omega) (by omega) (by omega))).tr ((Frm.ui (by omega) (by omega) (by omega)).tr (Frm.ui (by omega) (by omega) (by omega)))
  · exact (vTake_vfr (q := 1)).tr ((VFr.up (by omega)).tr (VFr.up (by omega)))
  · rw [ui_gs]
  · rw [upd_s, upd_n _ _ (by omega), vTake_o (by omega)]
  · intro k h1 h2
    rw [upd_n _ _ (by omega), upd_n _ _ (by omega), vTake_o (by omega)]
  · intro d hd
    rw [ui_ne _ _ _ (by omega), ui_ne _ _ _ (by omega), ui_ne _ _ _ (by omega), qTake_o (by omega)]
theorem p_writes (h : Rel m I V) : ∃ I' V', MOut (fun o b J Q => w_X10_writes o b J Q) V V' ∧ (∀ P : MI → Prop, P I' → w_X1_writeOne m I P) ∧ Rel m I' V' ∧ Frm m I I' ∧ VFr V V' ∧ ((V' 221 = V 221 ∧ I' m 15 = I m 15) ∨ (V' 221 = V 221 + 1 ∧ I' m 15 = 1)) ∧ (∀ k, (170 ≤ k ∧ k < 178 ∨ 218 ≤ k ∧ k < 221 ∨ 222 ≤ k) → k < 250 → V' k = V k) ∧ (∀ c, m + 57 ≤ c → I' c = I c) := by
  obtain ⟨n, f, hn, hf, e1, e2, e3, e4, e5, hj⟩ := h.2.2.2.1 1 (by omega)
  have e1' : V 271 = nI n := e1
  have e2' : I (m + 42) 3 = nI n := e2
  by_cases hn0 : n = 0
  · subst hn0
    refine ⟨I, V, ?_, ?_, h, Frm.rf, VFr.rf, Or.inl ⟨rfl, rfl⟩, fun _ _ _ => rfl, fun _ _ => rfl⟩
    · intro o b J Q hb hQ
      unfold w_X10_writes
      refine t_inQueue (q := 1) hb (by omega) ⟨fun c => absurd e1' c, fun _ => hQ⟩
    · intro P hP
      unfold w_X1_writeOne
      exact ⟨fun c => absurd e2' c, fun _ => hP⟩
  · have hp : 0 < n := by omega
    have hnz : ¬ V 271 = 0 := fun c => by rw [e1', nI_z (by omega)] at c; exact hn0 c
    have hnz2 : ¬ I (m + 42) 3 = 0 := fun c => by rw [e2', nI_z (by omega)] at c; exact hn0 c
    obtain ⟨h0, hE⟩ := hj 0 hp
    obtain ⟨-, hyz⟩ := hE.2.1 rfl
    have hyz : (V 273 = 1 ∧ I (m + 44) ((f + 0) % 6) = V 274 ∧ bd (V 274) 1000) ∨ (V 273 = 0 ∧ I (m + 44) ((f + 0) % 6) = -1) := hyz
    rcases hyz with ⟨hy, hm, hz⟩ | ⟨hy, hm⟩
    · obtain ⟨I', V', g1, g2, g3, g4, g5, g6, g7, g8, g9⟩ := p_write1 (v := V 274) h hp hn hf e1 e2 e3 e4 e5 hj hz
      refine ⟨I', V', ?_, ?_, g3, g4, g5, Or.inr ⟨g7, g6⟩, fun k h1 h2 => g8 k h1 (by omega), g9⟩
      · intro o b J Q hb hQ
        unfold w_X10_writes
        refine t_inQueue (q := 1) hb (by omega) ⟨fun _ => t_first (q := 1) (k := 1) hb (by omega) (by omega) ⟨fun c => absurd hy c, fun _ => ?_⟩, fun c => absurd c hnz⟩
        unfold w_X10_writes_p26
        refine ⟨fun _ => ⟨fun c => absurd c (by decide), fun _ => t_first (q := 1) (k := 2) hb (by omega) (by omega) (g1 o b J Q hb hQ)⟩, fun c => absurd c (by decide)⟩
      · intro P hP
        unfold w_X1_writeOne
        refine ⟨fun _ => k_markAt (i := 0) hp hn hf e2 e3 ?_, fun c => absurd c hnz2⟩
        rw [show m + 39 + 3 * 1 + 2 = m + 44 by omega, hm]
        refine ⟨fun _ => g2 P hP, fun c => ?_⟩
        obtain ⟨k, hk, ek⟩ := hz
        rw [ek] at c
        have := congrArg Int32.toInt c
        rw [nI_toInt (by omega)] at this
        exact absurd this (by show ¬ ((k : Int) = -1); omega)
    · obtain ⟨n2, f2, hn2, hf2, d1, d2, d3, d4, d5, dj⟩ := h.2.2.2.1 2 (by omega)
      have d1' : V 290 = nI n2 := d1
      have d2' : I (m + 45) 3 = nI n2 := d2
      by_cases hz : n2 = 0
      · subst hz
        refine ⟨I, V, ?_, ?_, h, Frm.rf, VFr.rf, Or.inl ⟨rfl, rfl⟩, fun _ _ _ => rfl, fun _ _ => rfl⟩
        · intro o b J Q hb hQ
          unfold w_X10_writes
          refine t_inQueue (q := 1) hb (by omega) ⟨fun _ => t_first (q := 1) (k := 1) hb (by omega) (by omega) ⟨fun _ => ?_, fun c => ?_⟩, fun c => absurd c hnz⟩
          · unfold w_X10_writes_p26
            exact ⟨fun c => absurd rfl c, fun _ => t_inQueue (q := 2) hb (by omega) ⟨fun c => absurd d1' c, fun _ => hQ⟩⟩
          · have c' : V 273 = 1 := c
            rw [hy] at c'
            exact absurd c' (by decide)
        · intro P hP
          unfold w_X1_writeOne
          refine ⟨fun _ => k_markAt (i := 0) hp hn hf e2 e3 ?_, fun c => absurd c hnz2⟩
          rw [show m + 39 + 3 * 1 + 2 = m + 44 by omega, hm]
          exact ⟨fun c => absurd rfl c, fun _ => ⟨fun c => absurd d2' c, fun _ => hP⟩⟩
      · have hp2 : 0 < n2 := by omega
        have hnz3 : ¬ V 290 = 0 := fun c => by rw [d1', nI_z (by omega)] at c; exact hz c
        have hnz4 : ¬ I (m + 45) 3 = 0 := fun c => by rw [d2', nI_z (by omega)] at c; exact hz c
        obtain ⟨q0, qE⟩ := dj 0 hp2
        have qb : bd (V 291) 1000 := qE.2.2.1 (Or.inl rfl)
        have hT := h.take (q := 2) (by omega) hp2 hn2 hf2 d1 d2 d4 d5 dj
        have o1 : ∀ c, c ≠ m + 45 → qTake I (m + 45) f2 n2 c = I c := fun c hc => qTake_o hc
        have o2 : ∀ k, (k < 290 ∨ 306 ≤ k) → vTake V 2 k = V k := fun k hk => vTake_o (by omega)
        obtain ⟨I', V', g1, g2, g3, g4, g5, g6, g7, g8, g9⟩ := p_write1 (v := V 291) hT hp hn hf (by rw [o2 _ (by omega)]; exact e1') (by rw [show m + 39 + 3 * 2 = m + 45 by omega, o1 _ (by omega)]; exact e2') (by rw [show m + 39 + 3 * 2 = m + 45 by omega, o1 _ (by omega)]; exact e3) (by rw [show m + 39 + 3 * 2 = m + 45 by omega, o1 _ (by omega), o2 _ (by omega)]; exact e4) (by rw [o2 _ (by omega)]; exact e5) (fun j hj2 => by
          rw [show m + 39 + 3 * 2 = m + 45 by omega, o1 _ (by omega), o1 _ (by omega), o2 _ (by omega), o2 _ (by omega), o2 _ (by omega)]; exact hj j hj2) qb
        refine ⟨I', V', ?_, ?_, g3, (qTake_frm (q := 2) (by omega)).tr g4, (vTake_vfr (q := 2)).tr g5, Or.inr ⟨by rw [g7, o2 _ (by omega)], g6⟩, fun k h1 h2 => by rw [g8 k h1 (by omega), o2 _ (by omega)], fun c hc => by rw [g9 c hc]; exact o1 c (by omega)⟩
        · intro o b J Q hb hQ
          unfold w_X10_writes
          refine t_inQueue (q := 1) hb (by omega) ⟨fun _ => t_first (q := 1) (k := 1) hb (by omega) (by omega) ⟨fun _ => ?_, fun c => ?_⟩, fun c => absurd c hnz⟩
          · unfold w_X10_writes_p26
            exact ⟨fun c => absurd rfl c, fun _ => t_inQueue (q := 2) hb (by omega) ⟨fun _ => ⟨fun _ => t_takes (q := 2) hb (by omega) (g1 o b J Q hb hQ), fun c => absurd rfl c⟩, fun c => absurd c hnz3⟩⟩
          · have c' : V 273 = 1 := c
            rw [hy] at c'
            exact absurd c' (by decide)
        · intro P hP
          unfold w_X1_writeOne
          refine ⟨fun _ => k_markAt (i := 0) hp hn hf e2 e3 ?_, fun c => absurd c hnz2⟩
          rw [show m + 39 + 3 * 1 + 2 = m + 44 by omega, hm]
          refine ⟨fun c => absurd rfl c, fun _ => ⟨fun _ => k_take hp2 hn2 hf2 d2 d3 ?_, fun c => absurd c hnz4⟩⟩
          have q0' : I (m + 45 + 1) f2 = V 291 := by
            have := q0
            rw [show (f2 + 0) % 6 = f2 by omega] at this
            exact this
          rw [q0']
          exact g2 P hP
end
