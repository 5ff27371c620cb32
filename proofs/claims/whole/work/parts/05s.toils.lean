section
variable {m : Nat} {I : MI} {V : Nat → Int32}
theorem p_works {x : Int32} (h : Rel m I V) (hx : bd x 8) (hne : hs (V 49) x = true → ¬ V 309 = 0) :
    ∃ (v : Int32) (I' : MI) (V' : Nat → Int32), bd v 1000 ∧ (∀ (o b : Nat) (J : MI) (S : Int32 → MI → Prop), b ≤ 1032 → S v (kb J (o + 1) b V') → w_X10_works o (nI b) x (kb J (o + 1) b V) S) ∧ (∀ S : Int32 → MI → Prop, S v I' → w_X1_ownOrCopy m x I S) ∧ Rel m I' V' ∧ Fr1 m I I' V V' ∧ (hs (V 49) x = true → V' 309 = nI (ix (V 309) - 1)) ∧ (¬ hs (V 49) x = true → V' = V) ∧ V' 347 = V 347 := by
  obtain ⟨x1, x2, x3, x4, x5⟩ := reg_at h.2.2.1 hx
  by_cases g : hs (V 49) x = true
  · obtain ⟨I', V', g1, g2, g3, g4, ⟨mk, g5⟩, g6, g7, g8⟩ := p_take (q := 3) h (by omega) (hne g)
    refine ⟨V 310, I', V', g5.2.2.1 (Or.inr rfl), fun o b J S hb hS => ?_, fun S hS => ?_, g3, g4, fun _ => g7, fun c => absurd g c, g8 _ (by omega)⟩
    · unfold w_X10_works
      refine t_isAim hb ?_
      rw [if_pos g]
      exact ⟨fun c => absurd c (by decide), fun _ => g1 o b J _ hb hS⟩
    · unfold w_X1_ownOrCopy
      rw [h.2.1.1]
      refine k_isIn ?_
      rw [if_pos g]
      exact ⟨fun c => absurd c (by decide), fun _ => g2 _ hS⟩
  · refine ⟨V (210 + ix x), I, V, x3, fun o b J S hb hS => ?_, fun S hS => ?_, h, Fr1.rf, fun c => absurd c g, fun _ => rfl, rfl⟩
    · unfold w_X10_works
      refine t_isAim hb ?_
      rw [if_neg g]
      exact ⟨fun _ => t_regB hb hx hS, fun c => absurd rfl c⟩
    · unfold w_X1_ownOrCopy
      rw [h.2.1.1]
      refine k_isIn ?_
      rw [if_neg g]
      exact ⟨fun _ => ⟨x1, by rw [x2]; exact hS⟩, fun c => absurd rfl c⟩
theorem Fr1.tr {I' I'' : MI} {V' V'' : Nat → Int32} (h : Fr1 m I I' V V') (h' : Fr1 m I' I'' V' V'') : Fr1 m I I'' V V'' :=
  ⟨h.1.tr h'.1, h.2.1.tr h'.2.1, fun c hc => (h'.2.2.1 c hc).trans (h.2.2.1 c hc), h'.2.2.2.1.trans h.2.2.2.1, fun j h1 h2 => (h'.2.2.2.2.1 j h1 h2).trans (h.2.2.2.2.1 j h1 h2), fun j h1 h2 => (h'.2.2.2.2.2 j h1 h2).trans (h.2.2.2.2.2 j h1 h2)⟩
/-- both operands -/
theorem p_two {x y : Int32} (h : Rel m I V) (hx : bd x 8) (hy : bd y 8) (hle : nI (vSends V x y) ≤ V 309) :
    ∃ (v w : Int32) (I1 I' : MI) (V1 V' : Nat → Int32), bd v 1000 ∧ bd w 1000 ∧ (∀ (o b : Nat) (J : MI) (S : Int32 → MI → Prop), b ≤ 1032 → S v (kb J (o + 1) b V1) → w_X10_works o (nI b) x (kb J (o + 1) b V) S) ∧ (∀ (o b : Nat) (J : MI) (S : Int32 → MI → Prop), b ≤ 1032 → S w (kb J (o + 1) b V') → w_X10_works o (nI b) y (kb J (o + 1) b V1) S) ∧ (∀ S : Int32 → MI → Prop, S v I1 → w_X1_ownOrCopy m x I S) ∧ (∀ S : Int32 → MI → Prop, S w I' → w_X1_ownOrCopy m y I1 S) ∧ Fr1 m I I1 V V1 ∧ Rel m I' V' ∧ Fr1 m I I' V V' ∧ V' 347 = V 347 ∧ V' 177 = V 177 := by
  obtain ⟨n, f, hn, hf, e1, e2, -⟩ := h.2.2.2.1 3 (by omega)
  have e1 : V 309 = nI n := e1
  have hs2 := vSends_le V x y
  rw [e1] at hle
  have hle := (nI_leI (by omega) (by omega)).mp hle
  unfold vSends at hle
  obtain ⟨v, I1, V1, a1, a2, a3, a4, a5, a6, a7, a8⟩ := p_works h hx (fun c => by
    rw [if_pos c] at hle
    rw [e1]
    exact fun c2 => by rw [nI_z (by omega)] at c2; omega)
  have v49 := a5.2.1 49 (by omega)
  obtain ⟨w, I', V', b1, b2, b3, b4, b5, b6, b7, b8⟩ := p_works (x := y) a4 hy (fun c => by
    rw [v49] at c
    rw [if_pos c] at hle
    by_cases g : hs (V 49) x = true
    · rw [if_pos g] at hle
      rw [a6 g, e1, ixn (by omega)]
      exact fun c2 => by rw [nI_z (by omega)] at c2; omega
    · rw [a7 g, e1]
      exact fun c2 => by rw [nI_z (by omega)] at c2; omega)
  refine ⟨v, w, I1, I', V1, V', a1, b1, a2, b2, a3, b3, a5, b4, a5.tr b5, ?_, ?_⟩
  · rw [b8, a8]
  · rw [b5.2.2.2.2.1 177 (by omega) (by omega), a5.2.2.2.2.1 177 (by omega) (by omega)]
/-- what the worker's acting ends with -/
def WA (m p : Nat) (I : MI) (V : Nat → Int32) (d kd : Int32) : Prop := ∃ (I' : MI) (V' : Nat → Int32), (∀ (o b : Nat) (J : MI) (Q : MI → Prop), b ≤ 1032 → Q (kb J (o + 1) b V') → swT o (nI b) (nI p) d (kb J (o + 1) b V) Q) ∧ (∀ P : MI → Prop, P I' → w_X1_workerDoes m kd (m + 10 + p) I (fun r I1 => w_X5_finishDeed (m + 60) (m + 1) r I1 P)) ∧ Rel m I' V' ∧ Frm m I I' ∧ VFr V V' ∧ (∀ c, m + 57 ≤ c → c < m + 60 → I' c = I c) ∧ I' (m + 60) 6 = I (m + 60) 6 ∧ (∀ j, 170 ≤ j → j < 178 → V' j = V j) ∧ (∀ j, 218 ≤ j → j < 236 → V' j = V j) ∧ V' 241 = V 241 ∧ V' 238 = V 238 + 1
theorem WA.of {p k t : Nat} {I1 : MI} {V1 : Nat → Int32} {d kd : Int32} (h1 : Rel m I1 V1) (hp : p ≤ ix (V 48)) (ep : V 236 = nI p) (ek : V 237 = nI k) (hk : k < vMany V 1 p) (hl : p ≤ 23 ∨ nI p = V 48) (ht : t ≤ ix (V 48)) (hF : Fr1 m I I1 V V1) (hm : ∀ (o b : Nat) (J : MI) (Q : MI → Prop), b ≤ 1032 → w_X10_toils_p395 o (nI b) (nI t) (kb J (o + 1) b V1) Q → swT o (nI b) (nI p) d (kb J (o + 1) b V) Q) (hc : ∀ S : Int32 → MI → Prop, S (nI t) I1 → w_X1_workerDoes m kd (m + 10 + p) I S) : WA m p I V d kd := by
  obtain ⟨f1, f2, f3, f4, f5, f6⟩ := hF
  have e48 := f2 48 (by omega)
  obtain ⟨I', V', g1, g2, g3, g4, g5, g6, g7, g8⟩ := p_does (s := 1) h1 (by omega) ((f6 236 (by omega) (by omega)).trans ep) (by rw [e48]; exact hp) ((f6 237 (by omega) (by omega)).trans ek) (by rw [vMany_fr f2 hl]; exact hk) (t := t) (by rw [e48]; exact ht)
  refine ⟨I', V', fun o b J Q hb hQ => hm o b J Q hb (g1 o b J Q hb hQ), fun P hP => hc _ (g2 P hP), g3, f1.tr (fun c hc => g4 c (by omega)), f2.tr (fun j hj => g7 j (by omega) (by omega)), fun c hc1 hc2 => (g4 c (by omega)).trans (f3 c (by omega)), ?_, fun j h1 h2 => (g7 j (by omega) (by omega)).trans (f5 j h1 h2), fun j h1 h2 => (g7 j (by omega) (by omega)).trans (f6 j h1 (by omega)), (g7 241 (by omega) (by omega)).trans (f6 241 (by omega) (by omega)), ?_⟩
  · have := g5; rw [show m + 57 + 3 * 1 = m + 60 by omega, f3 _ (by omega)] at this; exact this
  · have := g8; rw [show 224 + 14 * 1 = 238 by omega, f6 _ (by omega) (by omega)] at this; exact this
theorem wa_set {p k : Nat} (h : Rel m I V) (hp : p ≤ ix (V 48)) (ep : V 236 = nI p) (ek : V 237 = nI k) (hk : k < vMany V 1 p) (ho : vOp V p = 0) : WA m p I V 2 0 := by
  have hl := ilow h.1.2.1 hp
  obtain ⟨hsz, e48⟩ := size_lt h.1
  have hM := h.2.2.1
  obtain ⟨s0, -, s1, s2, -⟩ := h.2.2.2.2 1 (by omega)
  have s1 : I (m + 60) 1 = nI p := s1.trans ep
  have eA : m + 1 + 9 + p = m + 10 + p := by omega
  obtain ⟨hlt, e0, b0, b1, b2, b3, r0, -⟩ := row_of h.1 hp (by rw [ho]; decide)
  rw [ho] at e0
  obtain ⟨f1, f4, b4⟩ := r0 e0
  rw [eA] at f1 f4
  obtain ⟨x1, x2, x3, x4, x5⟩ := reg_at hM b1
  have h1 := h.mm (Or.inr (Or.inl rfl)) (by omega) (hM.reg x4 b4)
  refine WA.of h1 hp ep ek hk hl (t := p + 1) (by omega) ⟨Frm.ui (by omega) (by omega) (by omega), VFr.up (by omega), fun c hc => ui_ne _ _ _ (by omega), ui_gn _ _ _ _ (by omega), fun j _ _ => upd_n _ _ (by omega), fun j _ _ => upd_n _ _ (by omega)⟩ (fun o b J Q hb hQ => ?_) (fun S hS => ?_)
  · unfold swT
    refine t_of' (k := 1) hb (by omega) (by omega) ?_
    rintro _ rfl
    rw [show 50 + 5 * p + 1 = 51 + 5 * p by omega]
    obtain ⟨y1, y2⟩ := t_setreg (o := o) (J := J) (V := V) (v := V (54 + 5 * p)) hb b1
    refine ⟨fun _ => ?_, fun c => absurd c (by decide), fun c => absurd c (by decide), fun c => absurd c (by decide), fun c => absurd c (by decide), fun c => absurd c (by decide), fun n2 n5 n8 n9 n11 n13 => absurd rfl n2⟩
    refine t_opOf hb (by omega) ⟨fun c => absurd ho c, fun _ => t_of' (k := 4) hb (by omega) (by omega) ⟨y1, ?_⟩⟩
    rintro _ rfl
    rw [show 50 + 5 * p + 4 = 54 + 5 * p by omega, y2, nI_1]
    exact hQ
  · unfold w_X1_workerDoes
    rw [f1, f4]
    refine ⟨fun _ => ?_, fun c => absurd c (by decide), fun c => absurd c (by decide), fun c => absurd c (by decide), fun c => absurd c (by decide), fun c => absurd c (by decide), fun c => absurd c (by decide), fun n0 n6 n8 n12 n15 n17 n19 => absurd rfl n0⟩
    refine ⟨x1, ?_⟩
    rintro _ rfl
    rw [ui_gn _ _ _ _ (show m + 60 ≠ m + 35 by omega), s1, nI_1]
    exact hS
theorem wa_op {p k : Nat} (h : Rel m I V) (hp : p ≤ ix (V 48)) (ep : V 236 = nI p) (ek : V 237 = nI k) (hk : k < vMany V 1 p) (ho : vOp V p = 1 ∨ vOp V p = 2 ∨ vOp V p = 3) (hd : Rdy1 V p 2) : WA m p I V 2 (vOp V p) := by
  have hl := ilow h.1.2.1 hp
  obtain ⟨hsz, e48⟩ := size_lt h.1
  have hM := h.2.2.1
  obtain ⟨s0, -, s1, s2, -⟩ := h.2.2.2.2 1 (by omega)
  have s1 : I (m + 60) 1 = nI p := s1.trans ep
  have eA : m + 1 + 9 + p = m + 10 + p := by omega
  have h8 : ¬ vOp V p = 8 := by rcases ho with e | e | e <;> rw [e] <;> decide
  have h0 : ¬ vOp V p = 0 := by rcases ho with e | e | e <;> rw [e] <;> decide
  have h7 : ¬ V (50 + 5 * p) = 7 := fun c => by
    have e := (row_of h.1 hp h8).2.1
    rw [c] at e
    rcases ho with q | q | q <;> rw [q] at e <;> exact absurd e (by decide)
  obtain ⟨hlt, e0, b0, b1, b2, b3, r0, r1, -⟩ := row_of h.1 hp h8
  have b3 := b3 h7
  obtain ⟨f1, f2, f3⟩ := r1 (by rw [e0]; exact ho)
  rw [eA] at f1 f2 f3
  obtain ⟨v, w, I1, I2, V1, V2, ⟨ya, yb, yc⟩, ⟨za, zb, zc⟩, c1, c2, c3, c4, c5, c6, c7, -, -⟩ := p_two h b2 b3 (hd.2.2.2.2 rfl h0)
  subst yc
  subst zc
  have g49 : V1 (53 + 5 * p) = V (53 + 5 * p) := c5.2.1 _ (by omega)
  have g51 : V2 (51 + 5 * p) = V (51 + 5 * p) := c7.2.1 _ (by omega)
  have gop : vOp V2 p = vOp V p := vOp_fr c7.2.1 hl
  obtain ⟨x1, x2, x3, x4, x5⟩ := reg_at c6.2.2.1 b1
  have hv : bd (vReck (vOp V p) (nI ya) (nI za)) 1000 := by
    by_cases g : bd (vReck (vOp V p) (nI ya) (nI za)) 1000
    · exact g
    · have := reck_eq (Q := fun _ => False) ho yb zb (fun q => g q)
      unfold w_X9_reckon at this
      rcases ho with q | q | q <;> rw [q] at this
      · exact (this.1 rfl).elim
      · exact (this.2.1 rfl).elim
      · exact (this.2.2 (by decide) (by decide)).elim
  have h1 := c6.mm (Or.inr (Or.inl rfl)) (by omega) (c6.2.2.1.reg x4 hv)
  refine WA.of h1 hp ep ek hk hl (t := p + 1) (by omega) (c7.tr ⟨Frm.ui (by omega) (by omega) (by omega), VFr.up (by omega), fun c hc => ui_ne _ _ _ (by omega), ui_gn _ _ _ _ (by omega), fun j _ _ => upd_n _ _ (by omega), fun j _ _ => upd_n _ _ (by omega)⟩) (fun o b J Q hb hQ => ?_) (fun S hS => ?_)
  · unfold swT
    refine t_of' (k := 1) hb (by omega) (by omega) ?_
    rintro _ rfl
    rw [show 50 + 5 * p + 1 = 51 + 5 * p by omega]
    obtain ⟨u1, u2⟩ := t_setreg (o := o) (J := J) (V := V2) (v := vReck (vOp V p) (nI ya) (nI za)) hb b1
    refine ⟨fun _ => ?_, fun c => absurd c (by decide), fun c => absurd c (by decide), fun c => absurd c (by decide), fun c => absurd c (by decide), fun c => absurd c (by decide), fun n2 n5 n8 n9 n11 n13 => absurd rfl n2⟩
    refine t_opOf hb (by omega) ⟨fun _ => t_of' (k := 2) hb (by omega) (by omega) ?_, fun c => absurd c h0⟩
    rw [show 50 + 5 * p + 2 = 52 + 5 * p by omega]
    refine c1 o b J _ hb (t_of' (k := 3) hb (by omega) (by omega) ?_)
    rw [show 50 + 5 * p + 3 = 53 + 5 * p by omega, g49]
    refine c2 o b J _ hb (t_opOf hb (by omega) ?_)
    rw [gop]
    refine t_reckons ⟨u1, ?_⟩
    rintro _ rfl
    rw [u2, nI_1]
    exact hQ
  · have hc : ∀ Q : Int32 → Prop, Q (vReck (vOp V p) (nI ya) (nI za)) → w_X9_reckon (vOp V p) (nI ya) (nI za) Q := fun Q hQ => reck_eq ho yb zb (fun _ => hQ)
    have hn : ∀ j : Nat, j < 20 → (j = 0 ∨ 4 ≤ j) → ¬ vOp V p = nI j := fun j h1 h2 c => by
      rcases ho with q | q | q <;> rw [q] at c
      · have := nI_inj (a := 1) (by omega) (by omega) c; omega
      · have := nI_inj (a := 2) (by omega) (by omega) c; omega
      · have := nI_inj (a := 3) (by omega) (by omega) c; omega
    have i1 : I1 (m + 10 + p) = I (m + 10 + p) := c5.1 _ (by omega)
    unfold w_X1_workerDoes
    rw [f2]
    refine ⟨fun c => absurd c (hn 0 (by omega) (by omega)), fun c => absurd c (hn 6 (by omega) (by omega)), fun c => absurd c (hn 8 (by omega) (by omega)), fun c => absurd c (hn 12 (by omega) (by omega)), fun c => absurd c (hn 15 (by omega) (by omega)), fun c => absurd c (hn 17 (by omega) (by omega)), fun c => absurd c (hn 19 (by omega) (by omega)), fun _ _ _ _ _ _ _ => c3 _ ?_⟩
    rw [i1, f3, f1]
    refine c4 _ (hc _ ⟨x1, ?_⟩)
    rintro _ rfl
    rw [ui_gn _ _ _ _ (show m + 60 ≠ m + 35 by omega), c7.2.2.1 _ (by omega), s1, nI_1]
    exact hS
theorem wa_come {p k : Nat} (h : Rel m I V) (hp : p ≤ ix (V 48)) (ep : V 236 = nI p) (ek : V 237 = nI k) (hk : k < vMany V 1 p) (ho : vOp V p = 4) (hd : Rdy1 V p 5) : WA m p I V 5 12 := by
  have hl := ilow h.1.2.1 hp
  obtain ⟨hsz, e48⟩ := size_lt h.1
  have hM := h.2.2.1
  obtain ⟨s0, -, s1, s2, -⟩ := h.2.2.2.2 1 (by omega)
  have s1 : I (m + 60) 1 = nI p := s1.trans ep
  have eA : m + 1 + 9 + p = m + 10 + p := by omega
  obtain ⟨hlt, e0, b0, b1, b2, b3, r0, r1, r4, -⟩ := row_of h.1 hp (by rw [ho]; decide)
  rw [ho] at e0
  obtain ⟨f1, f2, f4, b4⟩ := r4 (Or.inl e0)
  rw [eA] at f1 f2 f4
  obtain ⟨I1, V1, g1, g2, g3, g4, ⟨mk, g5⟩, -⟩ := p_take (q := 0) h (by omega) (hd.1 rfl)
  have bv : bd (V 253) 1000 := (g5.1 rfl).1
  obtain ⟨x1, x2, x3, x4, x5⟩ := reg_at g3.2.2.1 b1
  have h1 := g3.mm (Or.inr (Or.inl rfl)) (by omega) (g3.2.2.1.reg x4 bv)
  refine WA.of h1 hp ep ek hk hl (t := p + 1) (by omega) (g4.tr ⟨Frm.ui (by omega) (by omega) (by omega), VFr.up (by omega), fun c hc => ui_ne _ _ _ (by omega), ui_gn _ _ _ _ (by omega), fun j _ _ => upd_n _ _ (by omega), fun j _ _ => upd_n _ _ (by omega)⟩) (fun o b J Q hb hQ => ?_) (fun S hS => ?_)
  · unfold swT
    refine t_of' (k := 1) hb (by omega) (by omega) ?_
    rintro _ rfl
    rw [show 50 + 5 * p + 1 = 51 + 5 * p by omega]
    obtain ⟨y1, y2⟩ := t_setreg (o := o) (J := J) (V := V1) (v := V 253) hb b1
    refine ⟨fun c => absurd c (by decide), fun _ => ?_, fun c => absurd c (by decide), fun c => absurd c (by decide), fun c => absurd c (by decide), fun c => absurd c (by decide), fun n2 n5 n8 n9 n11 n13 => absurd rfl n5⟩
    refine g1 o b J _ hb ⟨y1, ?_⟩
    rintro _ rfl
    rw [show 253 + 19 * 0 = 253 by omega, y2, nI_1]
    exact hQ
  · unfold w_X1_workerDoes
    rw [f1]
    refine ⟨fun c => absurd c (by decide), fun c => absurd c (by decide), fun c => absurd c (by decide), fun _ => ?_, fun c => absurd c (by decide), fun c => absurd c (by decide), fun c => absurd c (by decide), fun n0 n6 n8 n12 n15 n17 n19 => absurd rfl n12⟩
    refine g2 _ ⟨x1, ?_⟩
    rintro _ rfl
    rw [ui_gn _ _ _ _ (show m + 60 ≠ m + 35 by omega), g4.2.2.1 _ (by omega), s1, nI_1]
    exact hS
theorem wa_give {p k : Nat} (h : Rel m I V) (hp : p ≤ ix (V 48)) (ep : V 236 = nI p) (ek : V 237 = nI k) (hk : k < vMany V 1 p) (ho : vOp V p = 5) (hd : Rdy1 V p 8) : WA m p I V 8 15 := by
  have hl := ilow h.1.2.1 hp
  obtain ⟨hsz, e48⟩ := size_lt h.1
  have hM := h.2.2.1
  obtain ⟨s0, -, s1, s2, -⟩ := h.2.2.2.2 1 (by omega)
  have s1 : I (m + 60) 1 = nI p := s1.trans ep
  have eA : m + 1 + 9 + p = m + 10 + p := by omega
  obtain ⟨hlt, e0, b0, b1, b2, b3, r0, r1, r4, -⟩ := row_of h.1 hp (by rw [ho]; decide)
  rw [ho] at e0
  obtain ⟨f1, f2, f4, b4⟩ := r4 (Or.inr e0)
  rw [eA] at f1 f2 f4
  obtain ⟨x1, x2, x3, x4, x5⟩ := reg_at hM b1
  obtain ⟨I1, V1, g1, g2, g3, g4⟩ := p_push (q := 2) (x := V (210 + ix (V (51 + 5 * p)))) (y := 0) (z := 0) (mk := -1) h (by omega) (hd.2.1 rfl) ⟨fun c => absurd c (by omega), fun c => absurd c (by omega), fun _ => x3, fun c => absurd c (by omega)⟩
  refine WA.of g3 hp ep ek hk hl (t := p + 1) (by omega) g4 (fun o b J Q hb hQ => ?_) (fun S hS => ?_)
  · unfold swT
    refine t_of' (k := 1) hb (by omega) (by omega) ?_
    rintro _ rfl
    rw [show 50 + 5 * p + 1 = 51 + 5 * p by omega]
    refine ⟨fun c => absurd c (by decide), fun c => absurd c (by decide), fun _ => ?_, fun c => absurd c (by decide), fun c => absurd c (by decide), fun c => absurd c (by decide), fun n2 n5 n8 n9 n11 n13 => absurd rfl n8⟩
    refine t_regB hb b1 (g1 o b J _ hb ?_)
    rw [nI_1]
    exact hQ
  · unfold w_X1_workerDoes
    rw [f1]
    refine ⟨fun c => absurd c (by decide), fun c => absurd c (by decide), fun c => absurd c (by decide), fun c => absurd c (by decide), fun _ => ?_, fun c => absurd c (by decide), fun c => absurd c (by decide), fun n0 n6 n8 n12 n15 n17 n19 => absurd rfl n15⟩
    refine ⟨x1, ?_⟩
    rw [x2]
    refine g2 _ ?_
    rw [g4.2.2.1 _ (by omega), s1, nI_1]
    exact hS
theorem wa_go {p k : Nat} (h : Rel m I V) (hp : p ≤ ix (V 48)) (ep : V 236 = nI p) (ek : V 237 = nI k) (hk : k < vMany V 1 p) (ho : vOp V p = 6) : WA m p I V 9 6 := by
  have hl := ilow h.1.2.1 hp
  obtain ⟨hsz, e48⟩ := size_lt h.1
  have hM := h.2.2.1
  obtain ⟨s0, -, s1, s2, -⟩ := h.2.2.2.2 1 (by omega)
  have s1 : I (m + 60) 1 = nI p := s1.trans ep
  have eA : m + 1 + 9 + p = m + 10 + p := by omega
  obtain ⟨hlt, e0, b0, b1, b2, b3, r0, r1, r4, r6, -⟩ := row_of h.1 hp (by rw [ho]; decide)
  rw [ho] at e0
  obtain ⟨f4, t, ht, et⟩ := r6 e0
  rw [eA] at f4
  refine WA.of h hp ep ek hk hl (t := t) (by omega) Fr1.rf (fun o b J Q hb hQ => ?_) (fun S hS => ?_)
  · unfold swT
    refine t_of' (k := 1) hb (by omega) (by omega) ?_
    rintro _ rfl
    refine ⟨fun c => absurd c (by decide), fun c => absurd c (by decide), fun c => absurd c (by decide), fun _ => ?_, fun c => absurd c (by decide), fun c => absurd c (by decide), fun n2 n5 n8 n9 n11 n13 => absurd rfl n9⟩
    refine t_of' (k := 4) hb (by omega) (by omega) ?_
    rw [show 50 + 5 * p + 4 = 54 + 5 * p by omega, et]
    exact hQ
  · unfold w_X1_workerDoes
    rw [f4, et]
    exact ⟨fun c => absurd c (by decide), fun _ => hS, fun c => absurd c (by decide), fun c => absurd c (by decide), fun c => absurd c (by decide), fun c => absurd c (by decide), fun c => absurd c (by decide), fun n0 n6 n8 n12 n15 n17 n19 => absurd rfl n6⟩
theorem wa_told {p k : Nat} (h : Rel m I V) (hp : p ≤ ix (V 48)) (ep : V 236 = nI p) (ek : V 237 = nI k) (hk : k < vMany V 1 p) (ho : vOp V p = 7) (hd : Rdy1 V p 11) : WA m p I V 11 17 := by
  have hl := ilow h.1.2.1 hp
  obtain ⟨hsz, e48⟩ := size_lt h.1
  have hM := h.2.2.1
  obtain ⟨s0, -, s1, s2, -⟩ := h.2.2.2.2 1 (by omega)
  have s1 : I (m + 60) 1 = nI p := s1.trans ep
  have eA : m + 1 + 9 + p = m + 10 + p := by omega
  obtain ⟨hlt, e0, b0, b1, b2, b3, r0, r1, r4, r6, r7⟩ := row_of h.1 hp (by rw [ho]; decide)
  rw [ho] at e0
  obtain ⟨f2, f3, f5, f4, ⟨t, ht, et⟩, hsg⟩ := r7 e0
  rw [eA] at f2 f3 f5 f4
  obtain ⟨I1, V1, g1, g2, g3, g4, -, -⟩ := p_take (q := 4) h (by omega) (hd.2.2.1 rfl)
  have e57 : I1 (m + 60) 1 = nI p := by rw [g4.2.2.1 _ (by omega)]; exact s1
  have e10 : I1 (m + 10 + p) 4 = nI t := by rw [g4.1 _ (by omega)]; exact f4.trans et
  by_cases hv : V 329 = 1
  · refine WA.of g3 hp ep ek hk hl (t := t) (by omega) g4 (fun o b J Q hb hQ => ?_) (fun S hS => ?_)
    · unfold swT
      refine t_of' (k := 1) hb (by omega) (by omega) ?_
      rintro _ rfl
      refine ⟨fun c => absurd c (by decide), fun c => absurd c (by decide), fun c => absurd c (by decide), fun c => absurd c (by decide), fun _ => ?_, fun c => absurd c (by decide), fun n2 n5 n8 n9 n11 n13 => absurd rfl n11⟩
      refine g1 o b J _ hb ⟨fun c => absurd hv c, fun _ => t_of' (k := 4) hb (by omega) (by omega) ?_⟩
      rw [show 50 + 5 * p + 4 = 54 + 5 * p by omega, g4.2.1 _ (by omega), et]
      exact hQ
    · unfold w_X1_workerDoes
      refine ⟨fun c => absurd c (by decide), fun c => absurd c (by decide), fun c => absurd c (by decide), fun c => absurd c (by decide), fun c => absurd c (by decide), fun _ => ?_, fun c => absurd c (by decide), fun n0 n6 n8 n12 n15 n17 n19 => absurd rfl n17⟩
      exact g2 _ ⟨fun c => absurd hv c, fun _ => by rw [e10]; exact hS⟩
  · refine WA.of g3 hp ep ek hk hl (t := p + 1) (by omega) g4 (fun o b J Q hb hQ => ?_) (fun S hS => ?_)
    · unfold swT
      refine t_of' (k := 1) hb (by omega) (by omega) ?_
      rintro _ rfl
      refine ⟨fun c => absurd c (by decide), fun c => absurd c (by decide), fun c => absurd c (by decide), fun c => absurd c (by decide), fun _ => ?_, fun c => absurd c (by decide), fun n2 n5 n8 n9 n11 n13 => absurd rfl n11⟩
      refine g1 o b J _ hb ⟨fun _ => ?_, fun c => absurd c hv⟩
      rw [nI_1]
      exact hQ
    · unfold w_X1_workerDoes
      refine ⟨fun c => absurd c (by decide), fun c => absurd c (by decide), fun c => absurd c (by decide), fun c => absurd c (by decide), fun c => absurd c (by decide), fun _ => ?_, fun c => absurd c (by decide), fun n0 n6 n8 n12 n15 n17 n19 => absurd rfl n17⟩
      exact g2 _ ⟨fun _ => by rw [e57, nI_1]; exact hS, fun c => absurd c hv⟩
theorem wa_ask {p k : Nat} (h : Rel m I V) (hp : p ≤ ix (V 48)) (ep : V 236 = nI p) (ek : V 237 = nI k) (hk : k < vMany V 1 p) (ho : vOp V p = 7) (hd : Rdy1 V p 13) : WA m p I V 13 19 := by
  have hl := ilow h.1.2.1 hp
  obtain ⟨hsz, e48⟩ := size_lt h.1
  have hM := h.2.2.1
  obtain ⟨s0, -, s1, s2, -⟩ := h.2.2.2.2 1 (by omega)
  have s1 : I (m + 60) 1 = nI p := s1.trans ep
  have eA : m + 1 + 9 + p = m + 10 + p := by omega
  obtain ⟨hlt, e0, b0, b1, b2, b3, r0, r1, r4, r6, r7⟩ := row_of h.1 hp (by rw [ho]; decide)
  rw [ho] at e0
  obtain ⟨f2, f3, f5, f4, ⟨t, ht, et⟩, hsg⟩ := r7 e0
  rw [eA] at f2 f3 f5 f4
  obtain ⟨v, w, I1, I2, V1, V2, bv, bw, c1, c2, c3, c4, c5, c6, c7, c8, c9⟩ := p_two h b1 b2 (hd.2.2.2.1 rfl).1
  by_cases hv : vHold (V (53 + 5 * p)) v w = true
  · obtain ⟨I3, V3, g1, g2, g3, g4⟩ := p_push (q := 5) (x := 1) (y := 0) (z := 0) (mk := -1) c6 (by omega) (by rw [show 252 + 19 * 5 = 347 by omega, show 172 + 5 = 177 by omega, c8, c9]; exact (hd.2.2.2.1 rfl).2) ⟨fun c => absurd c (by omega), fun c => absurd c (by omega), fun c => absurd c (by omega), fun _ => ⟨1, by omega, rfl⟩⟩
    have hF := c7.tr g4
    have e57 : I3 (m + 60) 1 = nI p := by rw [hF.2.2.1 _ (by omega)]; exact s1
    have e10 : I3 (m + 10 + p) 4 = nI t := by rw [hF.1 _ (by omega)]; exact f4.trans et
    refine WA.of g3 hp ep ek hk hl (t := t) (by omega) hF (fun o b J Q hb hQ => ?_) (fun S hS => ?_)
    · unfold swT
      refine t_of' (k := 1) hb (by omega) (by omega) ?_
      rintro _ rfl
      rw [show 50 + 5 * p + 1 = 51 + 5 * p by omega]
      refine ⟨fun c => absurd c (by decide), fun c => absurd c (by decide), fun c => absurd c (by decide), fun c => absurd c (by decide), fun c => absurd c (by decide), fun _ => ?_, fun n2 n5 n8 n9 n11 n13 => absurd rfl n13⟩
      refine c1 o b J _ hb (t_of' (k := 2) hb (by omega) (by omega) ?_)
      rw [show 50 + 5 * p + 2 = 52 + 5 * p by omega, c5.2.1 _ (by omega)]
      refine c2 o b J _ hb (t_of' (k := 3) hb (by omega) (by omega) ?_)
      rw [show 50 + 5 * p + 3 = 53 + 5 * p by omega, c7.2.1 _ (by omega)]
      refine t_holds ?_
      rw [if_pos hv]
      refine ⟨fun c => absurd c (by decide), fun c => ?_⟩
      unfold w_X10_toils_p361
      refine g1 o b J _ hb ⟨fun c => absurd c (by decide), fun _ => t_of' (k := 4) hb (by omega) (by omega) ?_⟩
      rw [show 50 + 5 * p + 4 = 54 + 5 * p by omega, hF.2.1 _ (by omega), et]
      exact hQ
    · unfold w_X1_workerDoes
      rw [f2]
      refine ⟨fun c => absurd c (by decide), fun c => absurd c (by decide), fun c => absurd c (by decide), fun c => absurd c (by decide), fun c => absurd c (by decide), fun c => absurd c (by decide), fun _ => ?_, fun n0 n6 n8 n12 n15 n17 n19 => absurd rfl n19⟩
      refine c3 _ ?_
      rw [show I1 (m + 10 + p) = I (m + 10 + p) from c5.1 _ (by omega), f3]
      refine c4 _ (k_decide ?_)
      rw [show I2 (m + 10 + p) = I (m + 10 + p) from c7.1 _ (by omega), f5, if_pos hv]
      exact ⟨fun c => absurd c (by decide), fun c => g2 _ ⟨fun c => absurd c (by decide), fun _ => by rw [e10]; exact hS⟩⟩
  · obtain ⟨I3, V3, g1, g2, g3, g4⟩ := p_push (q := 5) (x := 0) (y := 0) (z := 0) (mk := -1) c6 (by omega) (by rw [show 252 + 19 * 5 = 347 by omega, show 172 + 5 = 177 by omega, c8, c9]; exact (hd.2.2.2.1 rfl).2) ⟨fun c => absurd c (by omega), fun c => absurd c (by omega), fun c => absurd c (by omega), fun _ => ⟨0, by omega, rfl⟩⟩
    have hF := c7.tr g4
    have e57 : I3 (m + 60) 1 = nI p := by rw [hF.2.2.1 _ (by omega)]; exact s1
    have e10 : I3 (m + 10 + p) 4 = nI t := by rw [hF.1 _ (by omega)]; exact f4.trans et
    refine WA.of g3 hp ep ek hk hl (t := p + 1) (by omega) hF (fun o b J Q hb hQ => ?_) (fun S hS => ?_)
    · unfold swT
      refine t_of' (k := 1) hb (by omega) (by omega) ?_
      rintro _ rfl
      rw [show 50 + 5 * p + 1 = 51 + 5 * p by omega]
      refine ⟨fun c => absurd c (by decide), fun c => absurd c (by decide), fun c => absurd c (by decide), fun c => absurd c (by decide), fun c => absurd c (by decide), fun _ => ?_, fun n2 n5 n8 n9 n11 n13 => absurd rfl n13⟩
      refine c1 o b J _ hb (t_of' (k := 2) hb (by omega) (by omega) ?_)
      rw [show 50 + 5 * p + 2 = 52 + 5 * p by omega, c5.2.1 _ (by omega)]
      refine c2 o b J _ hb (t_of' (k := 3) hb (by omega) (by omega) ?_)
      rw [show 50 + 5 * p + 3 = 53 + 5 * p by omega, c7.2.1 _ (by omega)]
      refine t_holds ?_
      rw [if_neg hv]
      refine ⟨fun c => ?_, fun c => absurd rfl c⟩
      unfold w_X10_toils_p361
      refine g1 o b J _ hb ⟨fun _ => ?_, fun c => absurd rfl c⟩
      rw [nI_1]
      exact hQ
    · unfold w_X1_workerDoes
      rw [f2]
      refine ⟨fun c => absurd c (by decide), fun c => absurd c (by decide), fun c => absurd c (by decide), fun c => absurd c (by decide), fun c => absurd c (by decide), fun c => absurd c (by decide), fun _ => ?_, fun n0 n6 n8 n12 n15 n17 n19 => absurd rfl n19⟩
      refine c3 _ ?_
      rw [show I1 (m + 10 + p) = I (m + 10 + p) from c5.1 _ (by omega), f3]
      refine c4 _ (k_decide ?_)
      rw [show I2 (m + 10 + p) = I (m + 10 + p) from c7.1 _ (by omega), f5, if_neg hv]
      exact ⟨fun c => g2 _ ⟨fun _ => by rw [e57, nI_1]; exact hS, fun c => absurd rfl c⟩, fun c => absurd rfl c⟩
theorem wa_end {p k : Nat} (h : Rel m I V) (hp : p ≤ ix (V 48)) (ep : V 236 = nI p) (ek : V 237 = nI k) (hk : k < vMany V 1 p) : WA m p I V 14 8 := by
  have hl := ilow h.1.2.1 hp
  obtain ⟨hsz, e48⟩ := size_lt h.1
  have hM := h.2.2.1
  obtain ⟨s0, -, s1, s2, -⟩ := h.2.2.2.2 1 (by omega)
  have s1 : I (m + 60) 1 = nI p := s1.trans ep
  have eA : m + 1 + 9 + p = m + 10 + p := by omega
  have hk2 : k < 2 := by have := vMany_le (V := V) (s := 1) (i := p); omega
  have h1 := h.ended (s := 1) (by omega)
  have vf : VFr V (upd V (226 + 14 * 1) 1) := VFr.up (by omega)
  obtain ⟨I', V', g0, g1, g2, g3, g4, g5, g6, g7, g8⟩ := p_doesE (s := 1) h1 (by omega) (by rw [upd_n _ _ (by omega)]; exact ep) (by rw [vf 48 (by omega)]; exact hp) (by rw [upd_n _ _ (by omega)]; exact ek) (by rw [vMany_fr vf hl]; exact hk) (t := p) (by rw [vf 48 (by omega)]; exact hp)
  rw [vDone_e (by omega) (by omega) hk2 hl] at g0
  refine ⟨I', V', fun o b J Q hb hQ => ?_, fun P hP => ?_, g3, ?_, ?_, ?_, ?_, ?_, ?_, ?_, ?_⟩
  · unfold swT
    refine t_of' (k := 1) hb (by omega) (by omega) ?_
    rintro _ rfl
    refine ⟨fun c => absurd c (by decide), fun c => absurd c (by decide), fun c => absurd c (by decide), fun c => absurd c (by decide), fun c => absurd c (by decide), fun c => absurd c (by decide), fun _ _ _ _ _ _ => ?_⟩
    refine t_ends (s := 1) hb (by omega) (by omega) (by omega) ep ek hl (vDeed_pos h.1 (by omega) hp) ?_
    rw [← g0]
    exact hQ
  · unfold w_X1_workerDoes
    refine ⟨fun c => absurd c (by decide), fun c => absurd c (by decide), fun _ => ?_, fun c => absurd c (by decide), fun c => absurd c (by decide), fun c => absurd c (by decide), fun c => absurd c (by decide), fun n0 n6 n8 n12 n15 n17 n19 => absurd rfl n8⟩
    rintro _ rfl
    show w_X5_finishDeed (m + 60) (m + 1) (ui I (m + 60) 4 1 (m + 60) 1) (ui I (m + 60) 4 1) P
    rw [ui_gj _ _ _ (show (1 : Nat) ≠ 4 by omega), s1]
    exact g2 P hP
  · intro c hc
    rw [g4 c (by omega), ui_ne _ _ _ (by omega)]
  · exact vf.tr (fun j hj => g7 j (by omega) (by omega))
  · intro c hc1 hc2
    rw [g4 c (by omega), ui_ne _ _ _ (by omega)]
  · have := g5
    rw [show m + 57 + 3 * 1 = m + 60 by omega, ui_gj _ _ _ (by omega)] at this
    exact this
  · intro j h1 h2
    rw [g7 j (by omega) (by omega), upd_n _ _ (by omega)]
  · intro j h1 h2
    rw [g7 j (by omega) (by omega), upd_n _ _ (by omega)]
  · rw [g7 241 (by omega) (by omega), upd_n _ _ (by omega)]
  · have := g8
    rw [show 224 + 14 * 1 = 238 by omega, upd_n _ _ (by omega)] at this
    exact this
theorem wa_all {p k : Nat} (h : Rel m I V) (hp : p ≤ ix (V 48)) (ep : V 236 = nI p) (ek : V 237 = nI k) (hk : k < vMany V 1 p) (hd : Rdy1 V p (vDeed V 1 p k)) : WA m p I V (vDeed V 1 p k) (cKind (vOp V p) (vDeed V 1 p k)) := by
  have hk2 : k ≤ 2 := by have := vMany_le (V := V) (s := 1) (i := p); omega
  have hnz := (vMany_iff h.1 (s := 1) (by omega) hp hk2).mp hk
  rcases dc1 h.1 hp (k := k) with e | e
  · exact absurd e hnz
  rcases e with ⟨e, ho⟩ | ⟨e, ho⟩ | ⟨e, ho⟩ | ⟨e, ho⟩ | ⟨e, ho⟩ | ⟨e, ho⟩ | ⟨e, ho⟩
  · rw [e, ho]; exact wa_end h hp ep ek hk
  · rw [e, ho]; exact wa_go h hp ep ek hk ho
  · rw [e] at hd ⊢; rw [ho]; exact wa_told h hp ep ek hk ho hd
  · rw [e] at hd ⊢; rw [ho]; exact wa_ask h hp ep ek hk ho hd
  · rw [e] at hd ⊢; rw [ho]; exact wa_come h hp ep ek hk ho hd
  · rw [e] at hd ⊢; rw [ho]; exact wa_give h hp ep ek hk ho hd
  · rw [e] at hd ⊢
    rcases ho with ho | ho
    · rw [ho]; exact wa_set h hp ep ek hk ho
    · exact wa_op h hp ep ek hk ho hd
end
