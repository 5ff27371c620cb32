section
variable {m : Nat} {I : MI} {V : Nat → Int32}
theorem t_setreg {o b : Nat} {J : MI} {r v : Int32} (hb : b ≤ 1032) (hr : bd r 8) : vp_in (nI b + 210 + r) 4905 ∧ ui (kb J (o + 1) b V) (o + 1) (ix (nI b + 210 + r)) v = kb J (o + 1) b (upd V (210 + ix r) v) := by
  obtain ⟨k, hk, rfl⟩ := hr
  simp only [lit, nI_add]
  rw [ixn (n := k) (by omega), show b + 210 + k = b + (210 + k) by omega, kx hb (by omega)]
  exact ⟨kin hb (by omega), rfl⟩
theorem t_cellat {o b : Nat} {J : MI} {c : Int32} (hb : b ≤ 1032) (hc : bd c 32) : vp_in (nI b + 178 + c) 4905 ∧ kb J (o + 1) b V (o + 1) (ix (nI b + 178 + c)) = V (178 + ix c) := by
  obtain ⟨k, hk, rfl⟩ := hc
  simp only [lit, nI_add]
  rw [ixn (n := k) (by omega), show b + 178 + k = b + (178 + k) by omega, kg hb (by omega)]
  exact ⟨kin hb (by omega), rfl⟩
theorem t_val {o b k : Nat} {J : MI} (hb : b ≤ 1032) (hk : k < 516) : vp_in (nI b + nI k) 4905 ∧ kb J (o + 1) b V (o + 1) (ix (nI b + nI k)) = V k ∧ ∀ x, ui (kb J (o + 1) b V) (o + 1) (ix (nI b + nI k)) x = kb J (o + 1) b (upd V k x) := by
  rw [nI_add, kg hb hk]
  exact ⟨kin hb hk, rfl, fun x => kx hb hk⟩
theorem ra_send {p k r : Nat} (h : Rel m I V) (hp : p ≤ ix (V 48)) (ep : V 222 = nI p) (ek : V 223 = nI k) (hk : k < vMany V 0 p) (hr : r < 8) (ed : vDeed V 0 p k = nI (1 + 16 * r)) (ho : ¬ vOp V p = 8) (hd : Rdy V (nI (1 + 16 * r))) : RA m p I V 1 (nI (1 + 16 * r)) 9 := by
  have hl := ilow h.1.2.1 hp
  obtain ⟨hsz, e48⟩ := size_lt h.1
  have hM := h.2.2.1
  obtain ⟨s0, -, s1, s2, -⟩ := h.2.2.2.2 0 (by omega)
  have s1 : I (m + 57) 1 = nI p := s1.trans ep
  have s2 : I (m + 57) 2 = nI k := s2.trans ek
  have eA : m + 1 + 9 + p = m + 10 + p := by omega
  obtain ⟨hlt, e0, hrow⟩ := row_of h.1 hp ho
  obtain ⟨q1, q2⟩ := h.2.1.2.2.2 p k hp hk (by rw [ed]; exact cKind_send hr)
  obtain ⟨j, hj, ej⟩ := q2
  rw [ed, ej] at q1
  have ejr : j = r := by
    have q3 : nI (1 + 16 * r) = nI (1 + 16 * j) := by rw [q1]; simp only [lit, pk_mul, nI_add]
    have := nI_inj (by omega) (by omega) q3
    omega
  subst ejr
  obtain ⟨ev, bv⟩ := hM.1 j hj
  obtain ⟨I1, V1, g1, g2, g3, g4⟩ := p_push (q := 3) (x := V (210 + j)) (y := 0) (z := 0) (mk := -1) h (by omega) (hd.1 ⟨j, hj, rfl⟩) ⟨fun c => absurd c (by omega), fun c => absurd c (by omega), fun _ => bv, fun c => absurd c (by omega)⟩
  refine RA.of g3 hp ep ek hk hl (t := p + 1) (by omega) g4 (fun o b J Q hb hQ => ?_) (fun S hS => ?_)
  · unfold swR
    refine t_of' (k := 1) hb (by omega) (by omega) ?_
    rintro _ rfl
    rw [show nI (1 + 16 * j) / 16 = nI j from (pk_div (d := 16) (by omega) (by omega) (by omega)).trans (congrArg nI (by omega))]
    exact ⟨fun _ => t_reg hb (by omega) (g1 o b J _ hb (by rw [nI_1]; exact hQ)), fun c => absurd c (by decide), fun c => absurd c (by decide), fun c => absurd c (by decide), fun c => absurd c (by decide), fun c => absurd c (by decide), fun c => absurd c (by decide), fun c => absurd c (by decide), fun c => absurd c (by decide), fun n1 n2 n3 n4 n6 n7 n9 n10 n12 => absurd rfl n1⟩
  · have e57 : I1 (m + 57) 1 = nI p := by rw [g4.2.2.1 _ (by omega)]; exact s1
    unfold w_X1_runnerDoes
    rw [s1, s2]
    exact ⟨fun c => absurd c (by decide), fun c => absurd c (by decide), fun c => absurd c (by decide), fun _ => k_sentAt (by omega) (by have := vMany_le (V := V) (s := 0) (i := p); omega) ⟨by rw [ej]; exact inn hj (by omega), by rw [ej, ixn (by omega), ev]; exact g2 _ (by rw [e57, nI_1]; exact hS)⟩, fun c => absurd c (by decide), fun c => absurd c (by decide), fun c => absurd c (by decide), fun c => absurd c (by decide), fun c => absurd c (by decide), fun c => absurd c (by decide), fun n0 n6 n8 n9 n10 n11 n13 n14 n16 n18 => absurd rfl n9⟩
theorem ra_set {p k : Nat} (h : Rel m I V) (hp : p ≤ ix (V 48)) (ep : V 222 = nI p) (ek : V 223 = nI k) (hk : k < vMany V 0 p) (ho : vOp V p = 0) : RA m p I V 2 2 0 := by
  have hl := ilow h.1.2.1 hp
  obtain ⟨hsz, e48⟩ := size_lt h.1
  have hM := h.2.2.1
  obtain ⟨s0, -, s1, s2, -⟩ := h.2.2.2.2 0 (by omega)
  have s1 : I (m + 57) 1 = nI p := s1.trans ep
  have s2 : I (m + 57) 2 = nI k := s2.trans ek
  have eA : m + 1 + 9 + p = m + 10 + p := by omega
  obtain ⟨hlt, e0, b0, b1, b2, b3, r0, -⟩ := row_of h.1 hp (by rw [ho]; decide)
  rw [ho] at e0
  obtain ⟨f1, f4, b4⟩ := r0 e0
  rw [eA] at f1 f4
  obtain ⟨x1, x2, x3, x4, x5⟩ := reg_at hM b1
  have h1 := h.mm (Or.inr (Or.inl rfl)) (by omega) (hM.reg x4 b4)
  refine RA.of h1 hp ep ek hk hl (t := p + 1) (by omega) ⟨Frm.ui (by omega) (by omega) (by omega), VFr.up (by omega), fun c hc => ui_ne _ _ _ (by omega), ui_gn _ _ _ _ (by omega), fun j _ _ => upd_n _ _ (by omega), fun j _ _ => upd_n _ _ (by omega)⟩ (fun o b J Q hb hQ => ?_) (fun S hS => ?_)
  · unfold swR
    refine t_of' (k := 1) hb (by omega) (by omega) ?_
    rintro _ rfl
    rw [show 50 + 5 * p + 1 = 51 + 5 * p by omega]
    obtain ⟨y1, y2⟩ := t_setreg (o := o) (J := J) (V := V) (v := V (54 + 5 * p)) hb b1
    refine ⟨fun c => absurd c (by decide), fun _ => ?_, fun c => absurd c (by decide), fun c => absurd c (by decide), fun c => absurd c (by decide), fun c => absurd c (by decide), fun c => absurd c (by decide), fun c => absurd c (by decide), fun c => absurd c (by decide), fun n1 n2 n3 n4 n6 n7 n9 n10 n12 => absurd rfl n2⟩
    refine t_opOf hb (by omega) ⟨fun c => absurd ho c, fun _ => t_of' (k := 4) hb (by omega) (by omega) ⟨y1, ?_⟩⟩
    rintro _ rfl
    rw [show 50 + 5 * p + 4 = 54 + 5 * p by omega, y2, nI_1]
    exact hQ
  · unfold w_X1_runnerDoes
    rw [f1, f4]
    refine ⟨fun _ => ?_, fun c => absurd c (by decide), fun c => absurd c (by decide), fun c => absurd c (by decide), fun c => absurd c (by decide), fun c => absurd c (by decide), fun c => absurd c (by decide), fun c => absurd c (by decide), fun c => absurd c (by decide), fun c => absurd c (by decide), fun n0 n6 n8 n9 n10 n11 n13 n14 n16 n18 => absurd rfl n0⟩
    refine ⟨x1, ?_⟩
    rintro _ rfl
    rw [ui_gn _ _ _ _ (show m + 57 ≠ m + 35 by omega), s1, nI_1]
    exact hS
theorem ra_op {p k : Nat} (h : Rel m I V) (hp : p ≤ ix (V 48)) (ep : V 222 = nI p) (ek : V 223 = nI k) (hk : k < vMany V 0 p) (ho : vOp V p = 1 ∨ vOp V p = 2 ∨ vOp V p = 3) : RA m p I V 2 2 (vOp V p) := by
  have hl := ilow h.1.2.1 hp
  obtain ⟨hsz, e48⟩ := size_lt h.1
  have hM := h.2.2.1
  obtain ⟨s0, -, s1, s2, -⟩ := h.2.2.2.2 0 (by omega)
  have s1 : I (m + 57) 1 = nI p := s1.trans ep
  have s2 : I (m + 57) 2 = nI k := s2.trans ek
  have eA : m + 1 + 9 + p = m + 10 + p := by omega
  have h8 : ¬ vOp V p = 8 := by rcases ho with e | e | e <;> rw [e] <;> decide
  have h7 : ¬ V (50 + 5 * p) = 7 := fun c => by
    have e := (row_of h.1 hp h8).2.1
    rw [c] at e
    rcases ho with q | q | q <;> rw [q] at e <;> exact absurd e (by decide)
  obtain ⟨hlt, e0, b0, b1, b2, b3, r0, r1, -⟩ := row_of h.1 hp h8
  have b3 := b3 h7
  obtain ⟨f1, f2, f3⟩ := r1 (by rw [e0]; exact ho)
  rw [eA] at f1 f2 f3
  obtain ⟨x1, x2, x3, x4, x5⟩ := reg_at hM b1
  obtain ⟨y1, y2, ⟨ya, yb, yc⟩, y4, y5⟩ := reg_at hM b2
  obtain ⟨z1, z2, ⟨za, zb, zc⟩, z4, z5⟩ := reg_at hM b3
  have hv : bd (vReck (vOp V p) (nI ya) (nI za)) 1000 := by
    have : w_X9_reckon (vOp V p) (nI ya) (nI za) (fun x => x = vReck (vOp V p) (nI ya) (nI za) → bd (vReck (vOp V p) (nI ya) (nI za)) 1000) := reck_eq ho yb zb (fun g _ => g)
    by_cases g : bd (vReck (vOp V p) (nI ya) (nI za)) 1000
    · exact g
    · have := reck_eq (Q := fun _ => False) ho yb zb (fun q => g q)
      unfold w_X9_reckon at this
      rcases ho with q | q | q <;> rw [q] at this
      · exact (this.1 rfl).elim
      · exact (this.2.1 rfl).elim
      · exact (this.2.2 (by decide) (by decide)).elim
  have h1 := h.mm (Or.inr (Or.inl rfl)) (by omega) (hM.reg x4 hv)
  refine RA.of h1 hp ep ek hk hl (t := p + 1) (by omega) ⟨Frm.ui (by omega) (by omega) (by omega), VFr.up (by omega), fun c hc => ui_ne _ _ _ (by omega), ui_gn _ _ _ _ (by omega), fun j _ _ => upd_n _ _ (by omega), fun j _ _ => upd_n _ _ (by omega)⟩ (fun o b J Q hb hQ => ?_) (fun S hS => ?_)
  · unfold swR
    refine t_of' (k := 1) hb (by omega) (by omega) ?_
    rintro _ rfl
    rw [show 50 + 5 * p + 1 = 51 + 5 * p by omega]
    obtain ⟨u1, u2⟩ := t_setreg (o := o) (J := J) (V := V) (v := vReck (vOp V p) (nI ya) (nI za)) hb b1
    refine ⟨fun c => absurd c (by decide), fun _ => ?_, fun c => absurd c (by decide), fun c => absurd c (by decide), fun c => absurd c (by decide), fun c => absurd c (by decide), fun c => absurd c (by decide), fun c => absurd c (by decide), fun c => absurd c (by decide), fun n1 n2 n3 n4 n6 n7 n9 n10 n12 => absurd rfl n2⟩
    refine t_opOf hb (by omega) ⟨fun _ => t_opOf hb (by omega) (t_of' (k := 2) hb (by omega) (by omega) ?_), fun c => ?_⟩
    · rw [show 50 + 5 * p + 2 = 52 + 5 * p by omega]
      refine t_regB hb b2 (t_of' (k := 3) hb (by omega) (by omega) ?_)
      rw [show 50 + 5 * p + 3 = 53 + 5 * p by omega]
      refine t_regB hb b3 (t_reckons ⟨u1, ?_⟩)
      rintro _ rfl
      rw [yc, zc, u2, nI_1]
      exact hQ
    · rcases ho with q | q | q <;> rw [q] at c <;> exact absurd c (by decide)
  · have hc : ∀ Q : Int32 → Prop, Q (vReck (vOp V p) (nI ya) (nI za)) → w_X9_reckon (vOp V p) (nI ya) (nI za) Q := fun Q hQ => reck_eq ho yb zb (fun _ => hQ)
    have hn : ∀ j : Nat, j < 20 → (j = 0 ∨ 4 ≤ j) → ¬ vOp V p = nI j := fun j h1 h2 c => by
      rcases ho with q | q | q <;> rw [q] at c
      · have := nI_inj (a := 1) (by omega) (by omega) c; omega
      · have := nI_inj (a := 2) (by omega) (by omega) c; omega
      · have := nI_inj (a := 3) (by omega) (by omega) c; omega
    unfold w_X1_runnerDoes
    rw [f1, f2, f3, y2, z2, yc, zc]
    refine ⟨fun c => absurd c (hn 0 (by omega) (by omega)), fun c => absurd c (hn 6 (by omega) (by omega)), fun c => absurd c (hn 8 (by omega) (by omega)), fun c => absurd c (hn 9 (by omega) (by omega)), fun c => absurd c (hn 10 (by omega) (by omega)), fun c => absurd c (hn 11 (by omega) (by omega)), fun c => absurd c (hn 13 (by omega) (by omega)), fun c => absurd c (hn 14 (by omega) (by omega)), fun c => absurd c (hn 16 (by omega) (by omega)), fun c => absurd c (hn 18 (by omega) (by omega)), fun _ _ _ _ _ _ _ _ _ _ => ⟨y1, z1, hc _ ⟨x1, ?_⟩⟩⟩
    rintro _ rfl
    rw [ui_gn _ _ _ _ (show m + 57 ≠ m + 35 by omega), s1, nI_1]
    exact hS
theorem ra_fetch {p k : Nat} (h : Rel m I V) (hp : p ≤ ix (V 48)) (ep : V 222 = nI p) (ek : V 223 = nI k) (hk : k < vMany V 0 p) (ho : vOp V p = 4) : RA m p I V 3 3 10 := by
  have hl := ilow h.1.2.1 hp
  obtain ⟨hsz, e48⟩ := size_lt h.1
  have hM := h.2.2.1
  obtain ⟨s0, -, s1, s2, -⟩ := h.2.2.2.2 0 (by omega)
  have s1 : I (m + 57) 1 = nI p := s1.trans ep
  have s2 : I (m + 57) 2 = nI k := s2.trans ek
  have eA : m + 1 + 9 + p = m + 10 + p := by omega
  obtain ⟨hlt, e0, b0, b1, b2, b3, r0, r1, r4, -⟩ := row_of h.1 hp (by rw [ho]; decide)
  rw [ho] at e0
  obtain ⟨f1, f2, f4, b4⟩ := r4 (Or.inl e0)
  rw [eA] at f1 f2 f4
  obtain ⟨x1, x2, x3, x4, x5⟩ := reg_at hM b1
  have hcb := cell_bd hM b2 b4
  obtain ⟨hce, hcl⟩ := bd_ix hcb (by omega)
  have hci : vp_in (vCell V p) 32 := by rw [hce]; exact inn hcl (by omega)
  obtain ⟨a1, a2, a3, a4, a5, a6, a7, a8, a9, a10, a11, a12, a13, a14, a15, a16, a17, a18, a19⟩ := h.2.2.1
  have h1 := h.mm (Or.inr (Or.inl rfl)) (by omega) (hM.reg x4 a18)
  have h2 := h1.mm (c := m) (j := 250) (Or.inl rfl) (by omega) (h1.2.2.1.began (x := -1) (Or.inl rfl))
  refine RA.of h2 hp ep ek hk hl (t := p + 1) (by omega) ⟨(Frm.ui (by omega) (by omega) (by omega)).tr (Frm.ui (by omega) (by omega) (by omega)), (VFr.up (by omega)).tr (VFr.up (by omega)), fun c hc => by rw [ui_ne _ _ _ (by omega), ui_ne _ _ _ (by omega)], by rw [ui_gj _ _ _ (by omega), ui_gn _ _ _ _ (by omega)], fun j _ _ => by rw [upd_n _ _ (by omega), upd_n _ _ (by omega)], fun j _ _ => by rw [upd_n _ _ (by omega), upd_n _ _ (by omega)]⟩ (fun o b J Q hb hQ => ?_) (fun S hS => ?_)
  · unfold swR
    refine t_of' (k := 1) hb (by omega) (by omega) ?_
    rintro _ rfl
    rw [show 50 + 5 * p + 1 = 51 + 5 * p by omega]
    obtain ⟨y1, y2⟩ := t_setreg (o := o) (J := J) (V := V) (v := V 251) hb b1
    obtain ⟨z1, z2, -⟩ := t_val (o := o) (J := J) (V := V) (k := 251) hb (by omega)
    obtain ⟨w1, -, w3⟩ := t_val (o := o) (J := J) (V := upd V (210 + ix (V (51 + 5 * p))) (V 251)) (k := 250) hb (by omega)
    have z2' : kb J (o + 1) b V (o + 1) (ix (nI b + 251)) = V 251 := z2
    refine ⟨fun c => absurd c (by decide), fun c => absurd c (by decide), fun _ => ?_, fun c => absurd c (by decide), fun c => absurd c (by decide), fun c => absurd c (by decide), fun c => absurd c (by decide), fun c => absurd c (by decide), fun c => absurd c (by decide), fun n1 n2 n3 n4 n6 n7 n9 n10 n12 => absurd rfl n3⟩
    refine ⟨z1, y1, ?_⟩
    rintro _ rfl
    rw [z2', y2]
    refine ⟨w1, ?_⟩
    rintro _ rfl
    rw [nI_1]
    have w3' := w3 (-1)
    show w_X10_runs_p422 o (nI b) (nI (p + 1)) (ui (kb J (o + 1) b (upd V (210 + ix (V (51 + 5 * p))) (V 251))) (o + 1) (ix (nI b + nI 250)) (-1)) Q
    rw [w3']
    exact hQ
  · unfold w_X1_runnerDoes
    rw [f1]
    refine ⟨fun c => absurd c (by decide), fun c => absurd c (by decide), fun c => absurd c (by decide), fun c => absurd c (by decide), fun _ => ?_, fun c => absurd c (by decide), fun c => absurd c (by decide), fun c => absurd c (by decide), fun c => absurd c (by decide), fun c => absurd c (by decide), fun n0 n6 n8 n9 n10 n11 n13 n14 n16 n18 => absurd rfl n10⟩
    refine ⟨x1, ?_⟩
    rintro _ rfl
    rintro _ rfl
    rw [a17, ui_gn _ _ _ _ (show m + 57 ≠ m by omega), ui_gn _ _ _ _ (show m + 57 ≠ m + 35 by omega), s1, nI_1]
    exact hS
theorem ra_load {p k : Nat} (h : Rel m I V) (hp : p ≤ ix (V 48)) (ep : V 222 = nI p) (ek : V 223 = nI k) (hk : k < vMany V 0 p) (ho : vOp V p = 4) (hd : Rdy V 4) : RA m p I V 4 4 11 := by
  have hl := ilow h.1.2.1 hp
  obtain ⟨hsz, e48⟩ := size_lt h.1
  have hM := h.2.2.1
  obtain ⟨s0, -, s1, s2, -⟩ := h.2.2.2.2 0 (by omega)
  have s1 : I (m + 57) 1 = nI p := s1.trans ep
  have s2 : I (m + 57) 2 = nI k := s2.trans ek
  have eA : m + 1 + 9 + p = m + 10 + p := by omega
  obtain ⟨hlt, e0, b0, b1, b2, b3, r0, r1, r4, -⟩ := row_of h.1 hp (by rw [ho]; decide)
  rw [ho] at e0
  obtain ⟨f1, f2, f4, b4⟩ := r4 (Or.inl e0)
  rw [eA] at f1 f2 f4
  obtain ⟨x1, x2, x3, x4, x5⟩ := reg_at hM b1
  have hcb := cell_bd hM b2 b4
  obtain ⟨hce, hcl⟩ := bd_ix hcb (by omega)
  have hci : vp_in (vCell V p) 32 := by rw [hce]; exact inn hcl (by omega)
  obtain ⟨a1, a2, a3, a4, a5, a6, a7, a8, a9, a10, a11, a12, a13, a14, a15, a16, a17, a18, a19⟩ := h.2.2.1
  obtain ⟨ev, bv⟩ := a2 _ hcl
  obtain ⟨I1, V1, g1, g2, g3, g4⟩ := p_push (q := 0) (x := V (178 + ix (vCell V p))) (y := V 170) (z := 0) (mk := V 170) h (by omega) (hd.2.1 rfl) ⟨fun _ => ⟨bv, rfl, a4⟩, fun c => absurd c (by omega), fun c => absurd c (by omega), fun c => absurd c (by omega)⟩
  refine RA.of g3 hp ep ek hk hl (t := p + 1) (by omega) g4 (fun o b J Q hb hQ => ?_) (fun S hS => ?_)
  · unfold swR
    refine t_of' (k := 1) hb (by omega) (by omega) ?_
    rintro _ rfl
    obtain ⟨y1, y2⟩ := t_cellat (o := o) (J := J) (V := V) hb hcb
    obtain ⟨z1, z2, -⟩ := t_val (o := o) (J := J) (V := V) (k := 170) hb (by omega)
    have z2' : kb J (o + 1) b V (o + 1) (ix (nI b + 170)) = V 170 := z2
    refine ⟨fun c => absurd c (by decide), fun c => absurd c (by decide), fun c => absurd c (by decide), fun _ => ?_, fun c => absurd c (by decide), fun c => absurd c (by decide), fun c => absurd c (by decide), fun c => absurd c (by decide), fun c => absurd c (by decide), fun n1 n2 n3 n4 n6 n7 n9 n10 n12 => absurd rfl n4⟩
    refine t_cellOf hb (by omega) b2 ⟨y1, z1, ?_⟩
    rw [y2, z2', nI_1]
    exact g1 o b J _ hb hQ
  · have e57 : I1 (m + 57) 1 = nI p := by rw [g4.2.2.1 _ (by omega)]; exact s1
    unfold w_X1_runnerDoes
    refine ⟨fun c => absurd c (by decide), fun c => absurd c (by decide), fun c => absurd c (by decide), fun c => absurd c (by decide), fun c => absurd c (by decide), fun _ => ?_, fun c => absurd c (by decide), fun c => absurd c (by decide), fun c => absurd c (by decide), fun c => absurd c (by decide), fun n0 n6 n8 n9 n10 n11 n13 n14 n16 n18 => absurd rfl n11⟩
    refine k_cellBy hM b2 f2 f4 ⟨hci, ?_⟩
    rw [ev, a3]
    exact g2 _ (by rw [e57, nI_1]; exact hS)
theorem ra_store {p k : Nat} (h : Rel m I V) (hp : p ≤ ix (V 48)) (ep : V 222 = nI p) (ek : V 223 = nI k) (hk : k < vMany V 0 p) (ho : vOp V p = 5) (hd : Rdy V 6) : RA m p I V 6 6 13 := by
  have hl := ilow h.1.2.1 hp
  obtain ⟨hsz, e48⟩ := size_lt h.1
  have hM := h.2.2.1
  obtain ⟨s0, -, s1, s2, -⟩ := h.2.2.2.2 0 (by omega)
  have s1 : I (m + 57) 1 = nI p := s1.trans ep
  have s2 : I (m + 57) 2 = nI k := s2.trans ek
  have eA : m + 1 + 9 + p = m + 10 + p := by omega
  obtain ⟨hlt, e0, b0, b1, b2, b3, r0, r1, r4, -⟩ := row_of h.1 hp (by rw [ho]; decide)
  rw [ho] at e0
  obtain ⟨f1, f2, f4, b4⟩ := r4 (Or.inr e0)
  rw [eA] at f1 f2 f4
  obtain ⟨x1, x2, x3, x4, x5⟩ := reg_at hM b1
  have hcb := cell_bd hM b2 b4
  obtain ⟨hce, hcl⟩ := bd_ix hcb (by omega)
  have hci : vp_in (vCell V p) 32 := by rw [hce]; exact inn hcl (by omega)
  obtain ⟨a1, a2, a3, a4, a5, a6, a7, a8, a9, a10, a11, a12, a13, a14, a15, a16, a17, a18, a19⟩ := h.2.2.1
  obtain ⟨I1, V1, g1, g2, g3, g4⟩ := p_push (q := 1) (x := vCell V p) (y := 1) (z := V (210 + ix (V (51 + 5 * p)))) (mk := V (210 + ix (V (51 + 5 * p)))) h (by omega) (hd.2.2.1 (Or.inl rfl)) ⟨fun c => absurd c (by omega), fun _ => ⟨hcb, Or.inl ⟨rfl, rfl, x3⟩⟩, fun c => absurd c (by omega), fun c => absurd c (by omega)⟩
  refine RA.of g3 hp ep ek hk hl (t := p + 1) (by omega) g4 (fun o b J Q hb hQ => ?_) (fun S hS => ?_)
  · unfold swR
    refine t_of' (k := 1) hb (by omega) (by omega) ?_
    rintro _ rfl
    rw [show 50 + 5 * p + 1 = 51 + 5 * p by omega]
    refine ⟨fun c => absurd c (by decide), fun c => absurd c (by decide), fun c => absurd c (by decide), fun c => absurd c (by decide), fun _ => ?_, fun c => absurd c (by decide), fun c => absurd c (by decide), fun c => absurd c (by decide), fun c => absurd c (by decide), fun n1 n2 n3 n4 n6 n7 n9 n10 n12 => absurd rfl n6⟩
    refine t_cellOf hb (by omega) b2 (t_regB hb b1 ?_)
    rw [nI_1]
    exact g1 o b J _ hb hQ
  · have e57 : I1 (m + 57) 1 = nI p := by rw [g4.2.2.1 _ (by omega)]; exact s1
    unfold w_X1_runnerDoes
    rw [f1]
    refine ⟨fun c => absurd c (by decide), fun c => absurd c (by decide), fun c => absurd c (by decide), fun c => absurd c (by decide), fun c => absurd c (by decide), fun c => absurd c (by decide), fun _ => ?_, fun c => absurd c (by decide), fun c => absurd c (by decide), fun c => absurd c (by decide), fun n0 n6 n8 n9 n10 n11 n13 n14 n16 n18 => absurd rfl n13⟩
    refine k_cellBy hM b2 f2 f4 ⟨x1, ?_⟩
    rw [x2]
    exact g2 _ (by rw [e57, nI_1]; exact hS)
theorem ra_place {p k : Nat} (h : Rel m I V) (hp : p ≤ ix (V 48)) (ep : V 222 = nI p) (ek : V 223 = nI k) (hk : k < vMany V 0 p) (ho : vOp V p = 5) (hd : Rdy V 7) : RA m p I V 7 7 14 := by
  have hl := ilow h.1.2.1 hp
  obtain ⟨hsz, e48⟩ := size_lt h.1
  have hM := h.2.2.1
  obtain ⟨s0, -, s1, s2, -⟩ := h.2.2.2.2 0 (by omega)
  have s1 : I (m + 57) 1 = nI p := s1.trans ep
  have s2 : I (m + 57) 2 = nI k := s2.trans ek
  have eA : m + 1 + 9 + p = m + 10 + p := by omega
  obtain ⟨hlt, e0, b0, b1, b2, b3, r0, r1, r4, -⟩ := row_of h.1 hp (by rw [ho]; decide)
  rw [ho] at e0
  obtain ⟨f1, f2, f4, b4⟩ := r4 (Or.inr e0)
  rw [eA] at f1 f2 f4
  obtain ⟨x1, x2, x3, x4, x5⟩ := reg_at hM b1
  have hcb := cell_bd hM b2 b4
  obtain ⟨hce, hcl⟩ := bd_ix hcb (by omega)
  have hci : vp_in (vCell V p) 32 := by rw [hce]; exact inn hcl (by omega)
  obtain ⟨a1, a2, a3, a4, a5, a6, a7, a8, a9, a10, a11, a12, a13, a14, a15, a16, a17, a18, a19⟩ := h.2.2.1
  obtain ⟨I1, V1, g1, g2, g3, g4⟩ := p_push (q := 1) (x := vCell V p) (y := 0) (z := 0) (mk := -1) h (by omega) (hd.2.2.1 (Or.inr rfl)) ⟨fun c => absurd c (by omega), fun _ => ⟨hcb, Or.inr ⟨rfl, rfl⟩⟩, fun c => absurd c (by omega), fun c => absurd c (by omega)⟩
  refine RA.of g3 hp ep ek hk hl (t := p + 1) (by omega) g4 (fun o b J Q hb hQ => ?_) (fun S hS => ?_)
  · unfold swR
    refine t_of' (k := 1) hb (by omega) (by omega) ?_
    rintro _ rfl
    refine ⟨fun c => absurd c (by decide), fun c => absurd c (by decide), fun c => absurd c (by decide), fun c => absurd c (by decide), fun c => absurd c (by decide), fun _ => ?_, fun c => absurd c (by decide), fun c => absurd c (by decide), fun c => absurd c (by decide), fun n1 n2 n3 n4 n6 n7 n9 n10 n12 => absurd rfl n7⟩
    refine t_cellOf hb (by omega) b2 ?_
    rw [nI_1]
    exact g1 o b J _ hb hQ
  · have e57 : I1 (m + 57) 1 = nI p := by rw [g4.2.2.1 _ (by omega)]; exact s1
    unfold w_X1_runnerDoes
    refine ⟨fun c => absurd c (by decide), fun c => absurd c (by decide), fun c => absurd c (by decide), fun c => absurd c (by decide), fun c => absurd c (by decide), fun c => absurd c (by decide), fun c => absurd c (by decide), fun _ => ?_, fun c => absurd c (by decide), fun c => absurd c (by decide), fun n0 n6 n8 n9 n10 n11 n13 n14 n16 n18 => absurd rfl n14⟩
    exact k_cellBy hM b2 f2 f4 (g2 _ (by rw [e57, nI_1]; exact hS))
theorem ra_go {p k : Nat} (h : Rel m I V) (hp : p ≤ ix (V 48)) (ep : V 222 = nI p) (ek : V 223 = nI k) (hk : k < vMany V 0 p) (ho : vOp V p = 6) : RA m p I V 9 9 6 := by
  have hl := ilow h.1.2.1 hp
  obtain ⟨hsz, e48⟩ := size_lt h.1
  have hM := h.2.2.1
  obtain ⟨s0, -, s1, s2, -⟩ := h.2.2.2.2 0 (by omega)
  have s1 : I (m + 57) 1 = nI p := s1.trans ep
  have s2 : I (m + 57) 2 = nI k := s2.trans ek
  have eA : m + 1 + 9 + p = m + 10 + p := by omega
  obtain ⟨hlt, e0, b0, b1, b2, b3, r0, r1, r4, r6, -⟩ := row_of h.1 hp (by rw [ho]; decide)
  rw [ho] at e0
  obtain ⟨f4, t, ht, et⟩ := r6 e0
  rw [eA] at f4
  refine RA.of h hp ep ek hk hl (t := t) (by omega) Fr1.rf (fun o b J Q hb hQ => ?_) (fun S hS => ?_)
  · unfold swR
    refine t_of' (k := 1) hb (by omega) (by omega) ?_
    rintro _ rfl
    refine ⟨fun c => absurd c (by decide), fun c => absurd c (by decide), fun c => absurd c (by decide), fun c => absurd c (by decide), fun c => absurd c (by decide), fun c => absurd c (by decide), fun _ => ?_, fun c => absurd c (by decide), fun c => absurd c (by decide), fun n1 n2 n3 n4 n6 n7 n9 n10 n12 => absurd rfl n9⟩
    refine t_of' (k := 4) hb (by omega) (by omega) ?_
    rw [show 50 + 5 * p + 4 = 54 + 5 * p by omega, et]
    exact hQ
  · unfold w_X1_runnerDoes
    rw [f4, et]
    exact ⟨fun c => absurd c (by decide), fun _ => hS, fun c => absurd c (by decide), fun c => absurd c (by decide), fun c => absurd c (by decide), fun c => absurd c (by decide), fun c => absurd c (by decide), fun c => absurd c (by decide), fun c => absurd c (by decide), fun c => absurd c (by decide), fun n0 n6 n8 n9 n10 n11 n13 n14 n16 n18 => absurd rfl n6⟩
theorem ra_tell {p k : Nat} (h : Rel m I V) (hp : p ≤ ix (V 48)) (ep : V 222 = nI p) (ek : V 223 = nI k) (hk : k < vMany V 0 p) (ho : vOp V p = 7) (hd : Rdy V 10) : RA m p I V 10 10 16 := by
  have hl := ilow h.1.2.1 hp
  obtain ⟨hsz, e48⟩ := size_lt h.1
  have hM := h.2.2.1
  obtain ⟨s0, -, s1, s2, -⟩ := h.2.2.2.2 0 (by omega)
  have s1 : I (m + 57) 1 = nI p := s1.trans ep
  have s2 : I (m + 57) 2 = nI k := s2.trans ek
  have eA : m + 1 + 9 + p = m + 10 + p := by omega
  obtain ⟨hlt, e0, b0, b1, b2, b3, r0, r1, r4, r6, r7⟩ := row_of h.1 hp (by rw [ho]; decide)
  rw [ho] at e0
  obtain ⟨f2, f3, f5, f4, ⟨t, ht, et⟩, hsg⟩ := r7 e0
  rw [eA] at f2 f3 f5 f4
  obtain ⟨x1, x2, x3, x4, x5⟩ := reg_at hM b1
  obtain ⟨y1, y2, y3, y4, y5⟩ := reg_at hM b2
  by_cases hv : vHold (V (53 + 5 * p)) (V (210 + ix (V (51 + 5 * p)))) (V (210 + ix (V (52 + 5 * p)))) = true
  · obtain ⟨I1, V1, g1, g2, g3, g4⟩ := p_push (q := 4) (x := 1) (y := 0) (z := 0) (mk := -1) h (by omega) (hd.2.2.2.1 rfl) ⟨fun c => absurd c (by omega), fun c => absurd c (by omega), fun c => absurd c (by omega), fun _ => ⟨1, by omega, rfl⟩⟩
    have e57 : I1 (m + 57) 1 = nI p := by rw [g4.2.2.1 _ (by omega)]; exact s1
    have e10 : I1 (m + 10 + p) 4 = nI t := by rw [g4.1 _ (by omega)]; exact f4.trans et
    refine RA.of g3 hp ep ek hk hl (t := t) (by omega) g4 (fun o b J Q hb hQ => ?_) (fun S hS => ?_)
    · unfold swR
      refine t_of' (k := 1) hb (by omega) (by omega) ?_
      rintro _ rfl
      rw [show 50 + 5 * p + 1 = 51 + 5 * p by omega]
      refine ⟨fun c => absurd c (by decide), fun c => absurd c (by decide), fun c => absurd c (by decide), fun c => absurd c (by decide), fun c => absurd c (by decide), fun c => absurd c (by decide), fun c => absurd c (by decide), fun _ => ?_, fun c => absurd c (by decide), fun n1 n2 n3 n4 n6 n7 n9 n10 n12 => absurd rfl n10⟩
      refine t_of' (k := 3) hb (by omega) (by omega) (t_regB hb b1 (t_of' (k := 2) hb (by omega) (by omega) ?_))
      rw [show 50 + 5 * p + 2 = 52 + 5 * p by omega, show 50 + 5 * p + 3 = 53 + 5 * p by omega]
      refine t_regB hb b2 (t_holds ?_)
      rw [if_pos hv]
      refine ⟨fun c => absurd c (by decide), fun c => ?_⟩
      unfold w_X10_runs_p361
      refine g1 o b J _ hb ⟨fun c => absurd c (by decide), fun _ => t_of' (k := 4) hb (by omega) (by omega) ?_⟩
      rw [show 50 + 5 * p + 4 = 54 + 5 * p by omega, g4.2.1 _ (by omega), et]
      exact hQ
    · unfold w_X1_runnerDoes
      rw [f2, f3]
      refine ⟨fun c => absurd c (by decide), fun c => absurd c (by decide), fun c => absurd c (by decide), fun c => absurd c (by decide), fun c => absurd c (by decide), fun c => absurd c (by decide), fun c => absurd c (by decide), fun c => absurd c (by decide), fun _ => ?_, fun c => absurd c (by decide), fun n0 n6 n8 n9 n10 n11 n13 n14 n16 n18 => absurd rfl n16⟩
      refine ⟨x1, y1, k_decide ?_⟩
      rw [f5, x2, y2, if_pos hv]
      exact ⟨fun c => absurd c (by decide), fun c => g2 _ ⟨fun c => absurd c (by decide), fun _ => by rw [e10]; exact hS⟩⟩
  · obtain ⟨I1, V1, g1, g2, g3, g4⟩ := p_push (q := 4) (x := 0) (y := 0) (z := 0) (mk := -1) h (by omega) (hd.2.2.2.1 rfl) ⟨fun c => absurd c (by omega), fun c => absurd c (by omega), fun c => absurd c (by omega), fun _ => ⟨0, by omega, rfl⟩⟩
    have e57 : I1 (m + 57) 1 = nI p := by rw [g4.2.2.1 _ (by omega)]; exact s1
    have e10 : I1 (m + 10 + p) 4 = nI t := by rw [g4.1 _ (by omega)]; exact f4.trans et
    refine RA.of g3 hp ep ek hk hl (t := p + 1) (by omega) g4 (fun o b J Q hb hQ => ?_) (fun S hS => ?_)
    · unfold swR
      refine t_of' (k := 1) hb (by omega) (by omega) ?_
      rintro _ rfl
      rw [show 50 + 5 * p + 1 = 51 + 5 * p by omega]
      refine ⟨fun c => absurd c (by decide), fun c => absurd c (by decide), fun c => absurd c (by decide), fun c => absurd c (by decide), fun c => absurd c (by decide), fun c => absurd c (by decide), fun c => absurd c (by decide), fun _ => ?_, fun c => absurd c (by decide), fun n1 n2 n3 n4 n6 n7 n9 n10 n12 => absurd rfl n10⟩
      refine t_of' (k := 3) hb (by omega) (by omega) (t_regB hb b1 (t_of' (k := 2) hb (by omega) (by omega) ?_))
      rw [show 50 + 5 * p + 2 = 52 + 5 * p by omega, show 50 + 5 * p + 3 = 53 + 5 * p by omega]
      refine t_regB hb b2 (t_holds ?_)
      rw [if_neg hv]
      refine ⟨fun c => ?_, fun c => absurd rfl c⟩
      unfold w_X10_runs_p361
      refine g1 o b J _ hb ⟨fun _ => ?_, fun c => absurd rfl c⟩
      rw [nI_1]
      exact hQ
    · unfold w_X1_runnerDoes
      rw [f2, f3]
      refine ⟨fun c => absurd c (by decide), fun c => absurd c (by decide), fun c => absurd c (by decide), fun c => absurd c (by decide), fun c => absurd c (by decide), fun c => absurd c (by decide), fun c => absurd c (by decide), fun c => absurd c (by decide), fun _ => ?_, fun c => absurd c (by decide), fun n0 n6 n8 n9 n10 n11 n13 n14 n16 n18 => absurd rfl n16⟩
      refine ⟨x1, y1, k_decide ?_⟩
      rw [f5, x2, y2, if_neg hv]
      exact ⟨fun c => g2 _ ⟨fun _ => by rw [e57, nI_1]; exact hS, fun c => absurd rfl c⟩, fun c => absurd rfl c⟩
theorem ra_ask {p k : Nat} (h : Rel m I V) (hp : p ≤ ix (V 48)) (ep : V 222 = nI p) (ek : V 223 = nI k) (hk : k < vMany V 0 p) (ho : vOp V p = 7) (hd : Rdy V 12) : RA m p I V 12 12 18 := by
  have hl := ilow h.1.2.1 hp
  obtain ⟨hsz, e48⟩ := size_lt h.1
  have hM := h.2.2.1
  obtain ⟨s0, -, s1, s2, -⟩ := h.2.2.2.2 0 (by omega)
  have s1 : I (m + 57) 1 = nI p := s1.trans ep
  have s2 : I (m + 57) 2 = nI k := s2.trans ek
  have eA : m + 1 + 9 + p = m + 10 + p := by omega
  obtain ⟨hlt, e0, b0, b1, b2, b3, r0, r1, r4, r6, r7⟩ := row_of h.1 hp (by rw [ho]; decide)
  rw [ho] at e0
  obtain ⟨f2, f3, f5, f4, ⟨t, ht, et⟩, hsg⟩ := r7 e0
  rw [eA] at f2 f3 f5 f4
  obtain ⟨x1, x2, x3, x4, x5⟩ := reg_at hM b1
  obtain ⟨y1, y2, y3, y4, y5⟩ := reg_at hM b2
  obtain ⟨I1, V1, g1, g2, g3, g4, -, -⟩ := p_take (q := 5) h (by omega) (hd.2.2.2.2 rfl)
  have e57 : I1 (m + 57) 1 = nI p := by rw [g4.2.2.1 _ (by omega)]; exact s1
  have e10 : I1 (m + 10 + p) 4 = nI t := by rw [g4.1 _ (by omega)]; exact f4.trans et
  by_cases hv : V 348 = 1
  · refine RA.of g3 hp ep ek hk hl (t := t) (by omega) g4 (fun o b J Q hb hQ => ?_) (fun S hS => ?_)
    · unfold swR
      refine t_of' (k := 1) hb (by omega) (by omega) ?_
      rintro _ rfl
      refine ⟨fun c => absurd c (by decide), fun c => absurd c (by decide), fun c => absurd c (by decide), fun c => absurd c (by decide), fun c => absurd c (by decide), fun c => absurd c (by decide), fun c => absurd c (by decide), fun c => absurd c (by decide), fun _ => ?_, fun n1 n2 n3 n4 n6 n7 n9 n10 n12 => absurd rfl n12⟩
      refine g1 o b J _ hb ⟨fun c => absurd hv c, fun _ => t_of' (k := 4) hb (by omega) (by omega) ?_⟩
      rw [show 50 + 5 * p + 4 = 54 + 5 * p by omega, g4.2.1 _ (by omega), et]
      exact hQ
    · unfold w_X1_runnerDoes
      refine ⟨fun c => absurd c (by decide), fun c => absurd c (by decide), fun c => absurd c (by decide), fun c => absurd c (by decide), fun c => absurd c (by decide), fun c => absurd c (by decide), fun c => absurd c (by decide), fun c => absurd c (by decide), fun c => absurd c (by decide), fun _ => ?_, fun n0 n6 n8 n9 n10 n11 n13 n14 n16 n18 => absurd rfl n18⟩
      exact g2 _ ⟨fun c => absurd hv c, fun _ => by rw [e10]; exact hS⟩
  · refine RA.of g3 hp ep ek hk hl (t := p + 1) (by omega) g4 (fun o b J Q hb hQ => ?_) (fun S hS => ?_)
    · unfold swR
      refine t_of' (k := 1) hb (by omega) (by omega) ?_
      rintro _ rfl
      refine ⟨fun c => absurd c (by decide), fun c => absurd c (by decide), fun c => absurd c (by decide), fun c => absurd c (by decide), fun c => absurd c (by decide), fun c => absurd c (by decide), fun c => absurd c (by decide), fun c => absurd c (by decide), fun _ => ?_, fun n1 n2 n3 n4 n6 n7 n9 n10 n12 => absurd rfl n12⟩
      refine g1 o b J _ hb ⟨fun _ => ?_, fun c => absurd c hv⟩
      rw [nI_1]
      exact hQ
    · unfold w_X1_runnerDoes
      refine ⟨fun c => absurd c (by decide), fun c => absurd c (by decide), fun c => absurd c (by decide), fun c => absurd c (by decide), fun c => absurd c (by decide), fun c => absurd c (by decide), fun c => absurd c (by decide), fun c => absurd c (by decide), fun c => absurd c (by decide), fun _ => ?_, fun n0 n6 n8 n9 n10 n11 n13 n14 n16 n18 => absurd rfl n18⟩
      exact g2 _ ⟨fun _ => by rw [e57, nI_1]; exact hS, fun c => absurd c hv⟩
end
