/-! an instruction: class and model -/
section
variable {o n L : Nat} {T : Nat → Nat} {I : MI} {J : MJ} {s : PS}
theorem op_tab : (7562612 : Int64) = lN (pkv (WL 5)) ∧ (6382692 : Int64) = lN (pkv (WL 6)) ∧ (7566690 : Int64) = lN (pkv (WL 7)) ∧ (7173484 : Int64) = lN (pkv (WL 8)) ∧ (1819238756 : Int64) = lN (pkv (WL 9)) ∧ (495874699877 : Int64) = lN (pkv (WL 10)) ∧ (1786080624 : Int64) = lN (pkv (WL 11)) ∧ (26982 : Int64) = lN (pkv (WL 12)) ∧ (6647396 : Int64) = lN (pkv (WL 13)) := by decide +kernel
theorem t_opHere {h : Nat} {Q : Int32 → Prop} (c : MT o I J T L n h s) (h1 : ∀ op, op < 9 → (s.2.1 = false ∧ tkd T L s.1 = 1 ∧ tvN T L s.1 = 5 + op) → Q (nI op)) (h0 : ¬ (s.2.1 = false ∧ tkd T L s.1 = 1 ∧ 5 ≤ tvN T L s.1 ∧ tvN T L s.1 ≤ 13) → Q (-1)) : w_X10_opHere o I J Q := by
  obtain ⟨w0, w1, w2, w3, w4, w5, w6, w7, w8⟩ := op_tab
  unfold w_X10_opHere
  refine Lp1.of (fun x => ∃ z, z ≤ 9 ∧ x = nI z ∧ ∀ y, y < z → ¬ (s.2.1 = false ∧ tkd T L s.1 = 1 ∧ tvN T L s.1 = 5 + y)) (fun x => 10 - ix x) ?_ _ ⟨0, by omega, rfl, fun y hy => by omega⟩
  rintro rec x ⟨z, hz, rfl, hy⟩ hrec
  have p100 : ∀ w : Int64, z < 9 → w = lN (pkv (WL (5 + z))) → w_X10_opHere_p100 o (nI z) w I J rec Q := fun w hz9 hw => by
    unfold w_X10_opHere_p100
    refine t_isWord c (j := 5 + z) (by omega) hw (fun q => ⟨fun c => absurd c (by decide), fun _ => h1 z hz9 q⟩) (fun q => ⟨fun _ => hrec _ ⟨z + 1, by omega, nI_1 z, fun y hy2 => ?_⟩ (by rw [nI_1, ixn (by omega), ixn (by omega)]; omega), fun c => absurd rfl c⟩)
    by_cases e : y = z
    · subst e; exact q
    · exact hy y (by omega)
  unfold w_X10_opHere_l2
  refine ⟨fun c8 => ?_, fun c8 => ?_⟩
  · have := (nI_ltI (a := 8) (by omega) (by omega)).mp c8
    exact h0 (fun q => hy (tvN T L s.1 - 5) (by omega) ⟨q.1, q.2.1, by omega⟩)
  · have hz9 : z < 9 := by
      rcases Nat.lt_or_ge z 9 with q | q
      · exact q
      · exact absurd (nI_lt (a := 8) (b := z) (by omega) (by omega)) c8
    have ne : ∀ y : Nat, y < 9 → y ≠ z → ¬ nI z = nI y := fun y hy hne q => hne (nI_inj (by omega) (by omega) q).symm
    have hc : z = 0 ∨ z = 1 ∨ z = 2 ∨ z = 3 ∨ z = 4 ∨ z = 5 ∨ z = 6 ∨ z = 7 ∨ z = 8 := by omega
    rcases hc with rfl | rfl | rfl | rfl | rfl | rfl | rfl | rfl | rfl
    · have h100 := p100 7562612 hz9 w0
      exact ⟨fun q => absurd rfl q, fun _ => h100⟩
    · have h100 := p100 6382692 hz9 w1
      exact ⟨fun _ => ⟨fun q => absurd rfl q, fun _ => h100⟩, fun q => absurd q (ne 0 (by omega) (by omega))⟩
    · have h100 := p100 7566690 hz9 w2
      exact ⟨fun _ => ⟨fun _ => ⟨fun q => absurd rfl q, fun _ => h100⟩, fun q => absurd q (ne 1 (by omega) (by omega))⟩, fun q => absurd q (ne 0 (by omega) (by omega))⟩
    · have h100 := p100 7173484 hz9 w3
      exact ⟨fun _ => ⟨fun _ => ⟨fun _ => ⟨fun q => absurd rfl q, fun _ => h100⟩, fun q => absurd q (ne 2 (by omega) (by omega))⟩, fun q => absurd q (ne 1 (by omega) (by omega))⟩, fun q => absurd q (ne 0 (by omega) (by omega))⟩
    · have h100 := p100 1819238756 hz9 w4
      exact ⟨fun _ => ⟨fun _ => ⟨fun _ => ⟨fun _ => ⟨fun q => absurd rfl q, fun _ => h100⟩, fun q => absurd q (ne 3 (by omega) (by omega))⟩, fun q => absurd q (ne 2 (by omega) (by omega))⟩, fun q => absurd q (ne 1 (by omega) (by omega))⟩, fun q => absurd q (ne 0 (by omega) (by omega))⟩
    · have h100 := p100 495874699877 hz9 w5
      exact ⟨fun _ => ⟨fun _ => ⟨fun _ => ⟨fun _ => ⟨fun _ => ⟨fun q => absurd rfl q, fun _ => h100⟩, fun q => absurd q (ne 4 (by omega) (by omega))⟩, fun q => absurd q (ne 3 (by omega) (by omega))⟩, fun q => absurd q (ne 2 (by omega) (by omega))⟩, fun q => absurd q (ne 1 (by omega) (by omega))⟩, fun q => absurd q (ne 0 (by omega) (by omega))⟩
    · have h100 := p100 1786080624 hz9 w6
      exact ⟨fun _ => ⟨fun _ => ⟨fun _ => ⟨fun _ => ⟨fun _ => ⟨fun _ => ⟨fun q => absurd rfl q, fun _ => h100⟩, fun q => absurd q (ne 5 (by omega) (by omega))⟩, fun q => absurd q (ne 4 (by omega) (by omega))⟩, fun q => absurd q (ne 3 (by omega) (by omega))⟩, fun q => absurd q (ne 2 (by omega) (by omega))⟩, fun q => absurd q (ne 1 (by omega) (by omega))⟩, fun q => absurd q (ne 0 (by omega) (by omega))⟩
    · have h100 := p100 26982 hz9 w7
      exact ⟨fun _ => ⟨fun _ => ⟨fun _ => ⟨fun _ => ⟨fun _ => ⟨fun _ => ⟨fun _ => ⟨fun q => absurd rfl q, fun _ => h100⟩, fun q => absurd q (ne 6 (by omega) (by omega))⟩, fun q => absurd q (ne 5 (by omega) (by omega))⟩, fun q => absurd q (ne 4 (by omega) (by omega))⟩, fun q => absurd q (ne 3 (by omega) (by omega))⟩, fun q => absurd q (ne 2 (by omega) (by omega))⟩, fun q => absurd q (ne 1 (by omega) (by omega))⟩, fun q => absurd q (ne 0 (by omega) (by omega))⟩
    · have h100 := p100 6647396 hz9 w8
      exact ⟨fun _ => ⟨fun _ => ⟨fun _ => ⟨fun _ => ⟨fun _ => ⟨fun _ => ⟨fun _ => ⟨fun _ => h100, fun q => absurd q (ne 7 (by omega) (by omega))⟩, fun q => absurd q (ne 6 (by omega) (by omega))⟩, fun q => absurd q (ne 5 (by omega) (by omega))⟩, fun q => absurd q (ne 4 (by omega) (by omega))⟩, fun q => absurd q (ne 3 (by omega) (by omega))⟩, fun q => absurd q (ne 2 (by omega) (by omega))⟩, fun q => absurd q (ne 1 (by omega) (by omega))⟩, fun q => absurd q (ne 0 (by omega) (by omega))⟩
end
section
variable {o n L R c op : Nat} {T : Nat → Nat} {I : MI} {J : MJ} {s : PS} {V : Nat → Int32}
/-- the op's token taken, a 25th instruction noted -/
def aOp (T : Nat → Nat) (L R : Nat) (s : PS) : PS := aAdv (if R < 24 then s else aNote 4 (pos T L s.1) s)
def vOp0 (V : Nat → Int32) (c op : Nat) : Nat → Int32 := upd (upd (upd (upd (upd V (51 + 5 * c) 0) (52 + 5 * c) 0) (53 + 5 * c) 0) (54 + 5 * c) 0) (50 + 5 * c) (nI op)
theorem t_clr {x1 x2 : Int32} {ke : Int32 → MI → Prop} {S : MI → MJ → Prop} (hc : c ≤ 24) (h : MB o I J T L n s V) (hke : ∀ I', MB o I' J T L n s (upd (upd (upd (upd V (51 + 5 * c) 0) (52 + 5 * c) 0) (53 + 5 * c) 0) (54 + 5 * c) 0) → MsF o I I' → ke (nI 5) I') : Lp2 (w_X10_readsInstruction_l53 o x1 x2 (nI (1082 + 5 * c)) J ke S) 1 I := by
  have st : ∀ {k : Nat} {I' : MI} {V' : Nat → Int32} {rec : Int32 → MI → Prop}, 1 ≤ k → k < 5 → MB o I' J T L n s V' → (∀ I2, MB o I2 J T L n s (upd V' (50 + 5 * c + k) 0) → MsF o I' I2 → rec (nI (k + 1)) I2) → w_X10_readsInstruction_l53 o x1 x2 (nI (1082 + 5 * c)) J ke S rec (nI k) I' := fun {k I' V' rec} h1 h5 m hr => by
    unfold w_X10_readsInstruction_l53
    refine ⟨fun c => absurd ((nI_leI (a := 5) (by omega) (by omega)).mp c) (by omega), fun _ => ?_⟩
    rw [xk, nI_1]
    refine ⟨in_k (by omega), ?_⟩
    rintro _ rfl
    exact hr _ (m.wr (by omega)) (MsF.wr (by omega))
  refine ⟨5, ?_⟩
  refine st (k := 1) (by omega) (by omega) h (fun I1 m1 f1 => ?_)
  refine st (k := 2) (by omega) (by omega) m1 (fun I2 m2 f2 => ?_)
  refine st (k := 3) (by omega) (by omega) m2 (fun I3 m3 f3 => ?_)
  refine st (k := 4) (by omega) (by omega) m3 (fun I4 m4 f4 => ?_)
  show w_X10_readsInstruction_l53 o x1 x2 (nI (1082 + 5 * c)) J ke S _ (nI 5) I4
  unfold w_X10_readsInstruction_l53
  refine ⟨fun _ => hke I4 ?_ (((f1.tr f2).tr f3).tr f4), fun c => absurd (nI_le (a := 5) (b := 5) (by omega) (by omega)) c⟩
  rw [show 51 + 5 * c = 50 + 5 * c + 1 by omega, show 52 + 5 * c = 50 + 5 * c + 2 by omega, show 53 + 5 * c = 50 + 5 * c + 3 by omega, show 54 + 5 * c = 50 + 5 * c + 4 by omega]
  exact m4
theorem t_instH {S : MI → MJ → Prop} (h : MB o I J T L n s V) (h48 : V 48 = nI (cap R)) (ho : op < 9) (hq : s.2.1 = false ∧ tkd T L s.1 = 1 ∧ tvN T L s.1 = 5 + op)
    (hS : ∀ I' J', MB o I' J' T L n (aOp T L R s) (vOp0 V (cap R) op) → MsF o I I' → JF o J J' → aoP o (nI op) (nI (cap R)) (nI (1082 + 5 * cap R)) I' J' S) : w_X10_readsInstruction o I J S := by
  have cl := cap_le R
  have hv : I (o + 1) (ix (1080)) = nI (cap R) := by
    rw [show (1080 : Int32) = nI (1032 + 48) from rfl, ix_k (by omega), h.2 hq.1 48 (by omega)]; exact h48
  obtain ⟨g4, g15, g14, g13, g11, g12, g17⟩ := h.1.2.2.2 hq.1
  have x3 : (1082 : Int32) + 5 * nI (cap R) = nI (1082 + 5 * cap R) := by
    rw [show (5 : Int32) * nI (cap R) = nI (5 * cap R) from pk_mul 5 _]; exact nI_add 1082 _
  unfold w_X10_readsInstruction
  refine t_opHere h.1 (fun op' ho' q' => ?_) (fun q => absurd ⟨hq.1, hq.2.1, by omega, by omega⟩ q)
  have eo : op' = op := by have := q'.2.2; have := hq.2.2; omega
  subst eo
  refine ⟨fun _ => ?_, fun q => absurd (nI_pos' (by omega)) q⟩
  rintro _ rfl
  rw [hv, g13]
  have tail : ∀ I1 J1, MB o I1 J1 T L n (aOp T L R s) V → MsF o I I1 → JF o J J1 → ∀ x3_8, x3_8 = (1082 : Int32) + 5 * nI (cap R) → Lp2 (w_X10_readsInstruction_l53 o (nI op') (nI (cap R)) x3_8 J1 (fun x4_13 I14 => (vp_in x3_8 4905 ∧ (∀ I16, I16 = ui I14 (o + 1) (ix x3_8) (nI op') → aoP o (nI op') (nI (cap R)) x3_8 I16 J1 S))) S) 1 I1 := fun I1 J1 m1 f1 j1 x ex => by
    subst ex
    rw [x3]
    refine t_clr cl m1 (fun I2 m2 f2 => ?_)
    rw [show nI (1082 + 5 * cap R) = nI (1032 + (50 + 5 * cap R)) from congrArg nI (by omega)]
    refine ⟨in_k (by omega), ?_⟩
    rintro _ rfl
    rw [show nI (1032 + (50 + 5 * cap R)) = nI (1082 + 5 * cap R) from congrArg nI (by omega)]
    refine hS _ _ ?_ ((f1.tr f2).tr ?_) j1
    · have := m2.wr (k := 50 + 5 * cap R) (x := nI op') (by omega)
      rw [show nI (1032 + (50 + 5 * cap R)) = nI (1082 + 5 * cap R) from congrArg nI (by omega)] at this
      exact this
    · have := MsF.wr (o := o) (I := I2) (k := 50 + 5 * cap R) (x := nI op') (by omega)
      rw [show nI (1032 + (50 + 5 * cap R)) = nI (1082 + 5 * cap R) from congrArg nI (by omega)] at this
      exact this
  refine ⟨fun n24 => ?_, fun e24 => ?_⟩
  · have lt : R < 24 := by
      rcases Nat.lt_or_ge R 24 with q | q
      · exact q
      · exact absurd (show nI (cap R) = 24 from by unfold cap; rw [if_neg (by omega)]; rfl) n24
    have ea : aOp T L R s = aAdv s := by unfold aOp; rw [if_pos lt]
    exact t_adv h.1 hq.1 hq.2.1 (by omega) (fun I1 J1 c1 f1 j1 => tail I1 J1 ⟨by rw [ea]; exact c1, fun _ => (h.2 hq.1).mt f1⟩ (MsF.mt f1) j1)
  · have ge : ¬ R < 24 := fun q => by
      have : cap R = R := by unfold cap; exact if_pos q
      rw [this] at e24
      have := nI_inj (b := 24) (by omega) (by omega) e24
      omega
    have ea : aOp T L R s = aAdv (aNote 4 (pos T L s.1) s) := by unfold aOp; rw [if_neg ge]
    refine t_note (kind := 4) h.1 hq.1 ⟨by omega, by omega, by omega⟩ (by omega) (fun I1 c1 f1 => ?_)
    have e1 : (aNote 4 (pos T L s.1) s).1 = s.1 ∧ (aNote 4 (pos T L s.1) s).2.1 = s.2.1 := by unfold aNote; split <;> exact ⟨rfl, rfl⟩
    exact t_adv c1 (kd := 1) (by rw [e1.2]; exact hq.1) (by rw [e1.1]; exact hq.2.1) (by omega) (fun I2 J2 c2 f2 j2 => tail I2 J2 ⟨by rw [ea]; exact c2, fun _ => (h.2 hq.1).mt (f1.tr f2)⟩ (MsF.mt (f1.tr f2)) j2)
/-- the class's way into an instruction -/
theorem k_instH {r : Nat} {P : MI → Prop} (d : CT r I T L n 0 s) (hT : Toks (r + 35) I T L n) (hL : L ≤ 600) (ho : op < 9) (hR : R < 150) (e5 : I r 5 = nI R) (hq : s.2.1 = false ∧ tkd T L s.1 = 1 ∧ tvN T L s.1 = 5 + op)
    (hP : ∀ I1, CT r I1 T L n 0 (aOp T L R s) → RdF r I I1 → w_X4_readRest r (r + 10 + cap R) (ui I1 (r + 10 + cap R) 0 (nI op)) (fun I18 => ∀ I19, I19 = ui I18 r 5 (I18 r 5 + 1) → P I19)) : w_X4_readInstruction r I P := by
  have cl := cap_le R
  have hn := hT.2.1
  have w1 := d.1.1.1
  have ws := d.1.1.2.2.2
  have ev : I (r + 37) s.1 = nI (tvN T L s.1) := (hT.1 s.1 (by omega)).2.2.2 (Or.inl hq.2.1)
  have pm := pos_mono (pos_s (T := T) (L := L) (k := s.1) (by omega))
  have mn : ∀ I12 : MI, I12 r 5 = nI R → (if (24 : Int32) < I12 r 5 then (24 : Int32) else I12 r 5) = nI (cap R) := fun I12 e => by
    rw [e]
    unfold cap
    by_cases q : R < 24
    · rw [if_pos q, if_neg (show ¬ (24 : Int32) < nI R from fun c => absurd ((nI_ltI (a := 24) (b := R) (by omega) (by omega)).mp c) (by omega))]
    · rw [if_neg q]
      by_cases q2 : R = 24
      · subst q2; rfl
      · rw [if_pos (show (24 : Int32) < nI R from nI_lt (a := 24) (b := R) (by omega) (by omega))]; rfl
  have p61 : ∀ {h : Nat} {s1 : PS} {I1 : MI}, CT r I1 T L n h s1 → RdF r I I1 → s1.1 = s.1 → s1.2.1 = false → aAdv s1 = aOp T L R s → w_X4_readInstruction_p61 r (nI op) I1 P := fun {h s1 I1} d1 f1 a1 a2 a3 => by
    unfold w_X4_readInstruction_p61
    refine k_takes (kd := 1) d1 (hT.rd f1) (by omega) (fun I2 d2 f2 => ?_)
    have ea : aTake T L 1 s1 = (tvN T L s1.1, aAdv s1) := by unfold aTake; exact if_pos ⟨a2, by rw [a1]; exact hq.2.1⟩
    rw [ea] at d2
    rw [mn I2 (by rw [(f1.tr f2).2 5 (by omega) (by omega) (by omega)]; exact e5), ixn (by omega)]
    refine ⟨inn (by omega) (by omega), ?_⟩
    rintro _ rfl
    exact hP I2 (by rw [← a3]; exact d2) (f1.tr f2)
  unfold w_X4_readInstruction
  refine k_isNext (kd := 1) d hT (by omega) (fun q => ⟨fun _ => ?_, fun c => absurd c (by decide)⟩) (fun q => absurd ⟨hq.1, hq.2.1⟩ q)
  rw [d.2.1, ixn (by omega), ev, hq.2.2, e5]
  refine ⟨inn (by omega) (by omega), ?_⟩
  rintro _ rfl
  rw [show nI (5 + op) - 5 = nI op from (nI_sub (x := 5 + op) (z := 5) (by omega)).trans (congrArg nI (by omega))]
  refine ⟨fun c => absurd c (nI_pos (by omega)), fun _ => ⟨fun _ => ⟨fun c => ?_, fun c => ?_⟩, fun c => absurd (nI_le (b := 8) (by omega) (by omega)) c⟩⟩
  · have lt : R < 24 := (nI_ltI (b := 24) (by omega) (by omega)).mp c
    exact p61 d RdF.rf rfl hq.1 (by unfold aOp; rw [if_pos lt])
  · have ge : ¬ R < 24 := fun q => c (nI_lt (b := 24) q (by omega))
    refine k_note (kind := 4) (h' := 1) d hT hL hq.1 w1 ⟨by omega, by omega, by omega⟩ (by omega) pm (fun z => Nat.le_of_lt (ws hq.1 z)) (fun I1 d1 f1 => ?_)
    have e1 : (aNote 4 (pos T L s.1) s).1 = s.1 ∧ (aNote 4 (pos T L s.1) s).2.1 = s.2.1 := by unfold aNote; split <;> exact ⟨rfl, rfl⟩
    exact p61 d1 f1 e1.1 (by rw [e1.2]; exact hq.1) (by unfold aOp; rw [if_neg ge])
theorem k_instN {r : Nat} {P : MI → Prop} (d : CT r I T L n 0 s) (hT : Toks (r + 35) I T L n) (hq : ¬ (s.2.1 = false ∧ tkd T L s.1 = 1 ∧ 5 ≤ tvN T L s.1 ∧ tvN T L s.1 ≤ 13)) (hP : ∀ I', CT r I' T L n 0 (aBrk s) → RdF r I I' → P I') : w_X4_readInstruction r I P := by
  have hn := hT.2.1
  have w1 := d.1.1.1
  unfold w_X4_readInstruction
  refine k_isNext (kd := 1) d hT (by omega) (fun q => ⟨fun _ => ?_, fun c => absurd c (by decide)⟩) (fun q => ⟨fun c => absurd rfl c, fun _ => k_breakOff d hT hP⟩)
  have ev : I (r + 37) s.1 = nI (tvN T L s.1) := (hT.1 s.1 (by omega)).2.2.2 (Or.inl q.2)
  have tv : tvN T L s.1 < 20 := by have := q.2; rcases alk T L s.1 with q | q | q | q | q | q | q | q <;> omega
  rw [d.2.1, ixn (by omega), ev]
  refine ⟨inn (by omega) (by omega), ?_⟩
  rintro _ rfl
  refine ⟨fun _ => k_breakOff d hT hP, fun c => ⟨fun c8 => ?_, fun _ => k_breakOff d hT hP⟩⟩
  exfalso
  rcases Nat.lt_or_ge (tvN T L s.1) 5 with z | z
  · have key : ∀ v, v < 5 → nI v - 5 < 0 := by decide +kernel
    exact c (key _ z)
  · rw [show nI (tvN T L s.1) - 5 = nI (tvN T L s.1 - 5) from nI_sub (z := 5) z] at c8
    have := (nI_leI (b := 8) (by omega) (by omega)).mp c8
    exact hq ⟨q.1, q.2, z, by omega⟩
end
