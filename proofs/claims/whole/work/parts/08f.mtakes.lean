/-! the model takes alike -/
section
variable {o n L : Nat} {T : Nat → Nat} {I : MI} {J : MJ} {s : PS}
/-- the model's reading stands so -/
def MT (o : Nat) (I : MI) (J : MJ) (T : Nat → Nat) (L n h : Nat) (s : PS) : Prop :=
  (WfS T L n h s ∧ h ≤ 1 ∧ pos T L n = L) ∧ MBs o I T L ∧ (s.2.1 = true → I o 4 = 1 ∧ I o 5 = nI (pos T L s.1)) ∧
  (s.2.1 = false → I o 4 = 0 ∧ I o 15 = nI s.2.2.1 ∧ (s.2.2.1 ≠ 0 → I o 14 = nI s.2.2.2) ∧ I o 13 = nI (pos T L s.1) ∧ I o 11 = nI (te T L s.1) ∧ I o 12 = nI (tsk T L s.1) ∧ ((tsk T L s.1 = 1 ∨ tsk T L s.1 = 2 ∨ tsk T L s.1 = 3) → J o 17 = lN (twk T L s.1)))
/-- what these may change: some of the model's own numbers -/
def MtF (o : Nat) (I I' : MI) : Prop := (∀ c, c ≠ o → I' c = I c) ∧ ∀ j, j ≠ 4 → j ≠ 5 → (j < 11 ∨ 15 < j) → I' o j = I o j
theorem MtF.rf : MtF o I I := ⟨fun _ _ => rfl, fun _ _ _ _ => rfl⟩
theorem MtF.tr {I' I'' : MI} (h : MtF o I I') (h' : MtF o I' I'') : MtF o I I'' := ⟨fun c hc => (h'.1 c hc).trans (h.1 c hc), fun j a b c => (h'.2 j a b c).trans (h.2 j a b c)⟩
theorem MtF.ui {k : Nat} {x : Int32} (h : k = 4 ∨ k = 5 ∨ (11 ≤ k ∧ k ≤ 15)) : MtF o I (ui I o k x) := ⟨fun c hc => ui_ne _ _ _ hc, fun j a b c => ui_gj _ _ _ (by omega)⟩
theorem MtF.tk {I' : MI} (h : TkF o I I') : MtF o I I' := ⟨h.1, fun j a b c => h.2 j (by omega) (by omega) (by omega)⟩
theorem MBs.mt {I' : MI} (h : MBs o I T L) (hF : MtF o I I') : MBs o I' T L := ⟨(hF.2 10 (by omega) (by omega) (by omega)).trans h.1, h.2.1, fun k hk => by rw [hF.1 _ (by omega)]; exact h.2.2 k hk⟩
/-- other cells of the model change: the reading stands -/
theorem MT.fr {h : Nat} {I' : MI} {J' : MJ} (c : MT o I J T L n h s) (hI : I' o = I o) (h2 : I' (o + 2) = I (o + 2)) (hJ : J' o 17 = J o 17) : MT o I' J' T L n h s := by
  obtain ⟨c1, c2, c3, c4⟩ := c
  refine ⟨c1, ⟨by rw [hI]; exact c2.1, c2.2.1, fun k hk => by rw [h2]; exact c2.2.2 k hk⟩, by rw [hI]; exact c3, by rw [hI, hJ]; exact c4⟩
theorem MT.own {h k : Nat} {x : Int32} (c : MT o I J T L n h s) (hk : 16 ≤ k) : MT o (ui I o k x) J T L n h s := by
  obtain ⟨c1, c2, c3, c4⟩ := c
  have e : ∀ j, j ≤ 15 → ui I o k x o j = I o j := fun j hj => ui_gj _ _ _ (by omega)
  refine ⟨c1, ⟨by rw [e _ (by omega)]; exact c2.1, c2.2.1, fun j hj => by rw [ui_ne _ _ _ (by omega)]; exact c2.2.2 j hj⟩, ?_, ?_⟩
  · rw [e 4 (by omega), e 5 (by omega)]; exact c3
  · rw [e 4 (by omega), e 15 (by omega), e 14 (by omega), e 13 (by omega), e 11 (by omega), e 12 (by omega)]; exact c4
theorem MT.good {h : Nat} (c : MT o I J T L n h s) : (I o 4 = 0 ↔ s.2.1 = false) := by
  obtain ⟨-, -, hb, hg⟩ := c
  cases q : s.2.1 with
  | true => exact ⟨fun e => by rw [(hb q).1] at e; exact absurd e (by decide), fun e => Bool.noConfusion e⟩
  | false => exact ⟨fun _ => rfl, fun _ => (hg q).1⟩
theorem t_isGood {h : Nat} {Q : Int32 → Prop} (c : MT o I J T L n h s) (h1 : s.2.1 = false → Q 1) (h0 : s.2.1 = true → Q 0) : w_X10_isGood o I Q := by
  unfold w_X10_isGood
  refine ⟨fun q => h0 ?_, fun q => h1 (c.good.mp q)⟩
  cases e : s.2.1 with
  | true => rfl
  | false => exact absurd (c.good.mpr e) q
theorem t_fails {h : Nat} {S : MI → Prop} (c : MT o I J T L n h s) (hS : ∀ I', MT o I' J T L n 0 (aBrk s) → MtF o I I' → S I') : w_X10_fails o I S := by
  have hgd := c.good
  obtain ⟨⟨w, hh, hn⟩, hB, hb, hg⟩ := c
  unfold w_X10_fails
  refine ⟨fun q => ?_, fun q => ?_⟩
  · have e : s.2.1 = false := by
      cases e : s.2.1 with
      | false => rfl
      | true => rw [(hb e).1] at q; exact absurd q (by decide)
    obtain ⟨g1, -, -, g13, -⟩ := hg e
    rintro _ rfl _ rfl
    rw [ui_gj _ _ _ (by omega), g13]
    have f : MtF o I (ui (ui I o 4 1) o 5 (nI (pos T L s.1))) := (MtF.ui (Or.inl rfl)).tr (MtF.ui (Or.inr (Or.inl rfl)))
    exact hS _ ⟨⟨w.brk, by omega, hn⟩, hB.mt f, fun _ => ⟨by rw [ui_gj _ _ _ (by omega), ui_gs], ui_gs _ _ _ _⟩, fun z => Bool.noConfusion z⟩ f
  · have e : s.2.1 = true := by
      cases e : s.2.1 with
      | true => rfl
      | false => rw [(hg e).1] at q; exact absurd (by decide) q
    exact hS I ⟨⟨w.brk, by omega, hn⟩, hB, fun _ => hb e, fun z => Bool.noConfusion z⟩ MtF.rf
/-- the next token -/
theorem t_adv {h : Nat} {S : MI → MJ → Prop} (c : MT o I J T L n h s) (hg : s.2.1 = false) {kd : Nat} (hk : tkd T L s.1 = kd) (h6 : kd ≠ 6) (hS : ∀ I' J', MT o I' J' T L n 0 (aAdv s) → MtF o I I' → JF o J J' → S I' J') : w_X10_takesToken o I J S := by
  obtain ⟨⟨w, hh, hn⟩, hB, hb, hgd⟩ := c
  obtain ⟨g4, g15, g14, g13, g11, g12, g17⟩ := hgd hg
  have hp := pos_s (T := T) (L := L) (k := s.1) (by rw [hk]; exact h6)
  refine t_takesToken hB (te_gt hp).2 g11 (fun I' J' f j a13 a11 a12 a17 => hS I' J' ⟨⟨w.adv hn hh hk h6, by omega, hn⟩, hB.fr f, fun z => ?_, fun _ => ⟨?_, ?_, fun z => ?_, a13, a11, a12, a17⟩⟩ (MtF.tk f) j)
  · have : s.2.1 = true := z
    rw [hg] at this; exact Bool.noConfusion this
  · rw [f.2 4 (by omega) (by omega) (by omega)]; exact g4
  · rw [f.2 15 (by omega) (by omega) (by omega)]; exact g15
  · rw [f.2 14 (by omega) (by omega) (by omega)]; exact g14 z
/-- something else is wrong at the token that is next -/
theorem t_note {kind : Nat} {S : MI → Prop} (c : MT o I J T L n 0 s) (hg : s.2.1 = false) (hk : kind ≠ 1 ∧ kind ≤ 5 ∧ kind ≠ 0) (h6 : tkd T L s.1 ≠ 6) (hS : ∀ I', MT o I' J T L n 1 (aNote kind (pos T L s.1) s) → MtF o I I' → S I') : w_X10_alsoWrong o (nI kind) (nI (pos T L s.1)) I S := by
  obtain ⟨⟨w, hh, hn⟩, hB, hb, hgd⟩ := c
  obtain ⟨g4, g15, g14, g13, g11, g12, g17⟩ := hgd hg
  have hL := hB.2.1
  have pl := pos_le (T := T) (L := L) s.1
  have pm := pos_mono (pos_s (T := T) (L := L) (k := s.1) h6)
  have w3 := w.2.2.1
  unfold w_X10_alsoWrong
  rw [g15]
  by_cases z : s.2.2.1 = 0
  · have ea : aNote kind (pos T L s.1) s = (s.1, s.2.1, kind, pos T L s.1) := by unfold aNote; exact if_pos z
    rw [ea] at hS
    refine ⟨fun _ => ?_, fun c => absurd (show nI s.2.2.1 ≤ 0 by rw [z]; decide) c⟩
    rintro _ rfl _ rfl
    have f : MtF o I (ui (ui I o 15 (nI kind)) o 14 (nI (pos T L s.1))) := (MtF.ui (by omega)).tr (MtF.ui (by omega))
    have e : ∀ j, j ≠ 14 → j ≠ 15 → ui (ui I o 15 (nI kind)) o 14 (nI (pos T L s.1)) o j = I o j := fun j a b => by rw [ui_gj _ _ _ a, ui_gj _ _ _ b]
    refine hS _ ⟨⟨⟨w.1, hk.1, hk.2.1, fun _ _ => pm⟩, by omega, hn⟩, hB.mt f, fun q => ?_, fun _ => ⟨?_, ?_, fun _ => ui_gs _ _ _ _, ?_, ?_, ?_, g17⟩⟩ f
    · have : s.2.1 = true := q
      rw [hg] at this; exact Bool.noConfusion this
    · rw [e 4 (by omega) (by omega)]; exact g4
    · rw [ui_gj _ _ _ (by omega), ui_gs]
    · rw [e 13 (by omega) (by omega)]; exact g13
    · rw [e 11 (by omega) (by omega)]; exact g11
    · rw [e 12 (by omega) (by omega)]; exact g12
  · have ea : aNote kind (pos T L s.1) s = s := by unfold aNote; exact if_neg z
    rw [ea] at hS
    have hw : s.2.2.2 < pos T L s.1 := w.2.2.2 hg z
    rw [g14 z]
    refine ⟨fun c => absurd ((nI_leI (b := 0) (by omega) (by omega)).mp c) (by omega), fun _ => ⟨fun _ => ?_, fun c => absurd (nI_lt hw (by omega)) c⟩⟩
    exact hS I ⟨⟨⟨w.1, w.2.1, w.2.2.1, fun _ _ => Nat.lt_trans hw pm⟩, by omega, hn⟩, hB, hb, hgd⟩ MtF.rf
theorem cmpE {a b : Nat} (ha : a < 2 ^ 63) (hb : b < 2 ^ 63) : lg_cmp (lN a) (lN b) = 0 ↔ a = b := by rw [lg_cmp_eq, pk_lEQ ha hb]
theorem cmpL {a b : Nat} (ha : a < 2 ^ 63) (hb : b < 2 ^ 63) : lg_cmp (lN a) (lN b) < 0 ↔ a < b := by rw [lg_cmp_lt, pk_lLT ha hb]
theorem cmpG {a b : Nat} (ha : a < 2 ^ 63) (hb : b < 2 ^ 63) : 0 < lg_cmp (lN a) (lN b) ↔ b < a := by rw [lg_cmp_gt, pk_lLT hb ha]
theorem cmpLe {a b : Nat} (ha : a < 2 ^ 63) (hb : b < 2 ^ 63) : lg_cmp (lN a) (lN b) ≤ 0 ↔ a ≤ b := by rw [lg_cmp_le, pk_lLE ha hb]
theorem twk_lt (T : Nat → Nat) (L k : Nat) (h : tsk T L k = 1 ∨ tsk T L k = 2 ∨ tsk T L k = 3) : twk T L k < 2 ^ 63 := by
  have p63 : (1000 : Nat) < 2 ^ 63 := by decide
  generalize hP : (2 : Nat) ^ 63 = P at *
  rcases alk T L k with q | q | q | q | q | q | q | q
  · omega
  · omega
  · omega
  · omega
  · omega
  · omega
  · have := (wl_pk _ q.2.2.1).2
    rw [hP] at this
    rw [q.2.2.2.1]; exact this
  · have := q.2.2.2.1
    rw [hP] at this; exact this
theorem t_letter {h : Nat} {S : Int32 → MI → MJ → Prop} (c : MT o I J T L n h s) (hS : ∀ I' J', MT o I' J' T L n 0 (aTake T L 2 s).2 → MtF o I I' → JF o J J' → S (nI (aTake T L 2 s).1) I' J') : w_X10_letterTaken o I J S := by
  have p41 : ∀ {h : Nat} {s' : PS} {I' : MI}, MT o I' J T L n h s' → s'.2.1 = true → (∀ I2 J2, I2 = I' → J2 = J → S 0 I2 J2) → w_X10_letterTaken_p41 o I' J S := fun c' e k => by
    unfold w_X10_letterTaken_p41
    exact t_isGood c' (fun z => by rw [e] at z; exact Bool.noConfusion z) (fun _ => ⟨fun c => absurd rfl c, fun _ => k _ _ rfl rfl⟩)
  have brk : ¬ (s.2.1 = false ∧ tkd T L s.1 = 2) → s.2.1 = false → w_X10_fails o I (fun I9 => w_X10_letterTaken_p41 o I9 J S) := fun q _ => by
    have ea : aTake T L 2 s = (0, aBrk s) := by unfold aTake; exact if_neg q
    rw [ea] at hS
    refine t_fails c (fun I' c' f' => p41 c' rfl (fun I2 J2 e1 e2 => ?_))
    subst e1 e2
    exact hS _ _ c' f' JF.rf
  unfold w_X10_letterTaken
  refine t_isGood c (fun g => ⟨fun c => absurd c (by decide), fun _ => ?_⟩) (fun b => ⟨fun _ => p41 c b (fun I2 J2 e1 e2 => ?_), fun c => absurd rfl c⟩)
  · obtain ⟨-, -, -, -, -, g12, g17⟩ := c.2.2.2 g
    have tw := twk_lt T L s.1
    rw [g12]
    have al := alk T L s.1
    refine ⟨fun n1 => brk (fun q => ?_) g, fun e1 => ?_⟩
    · have : tsk T L s.1 = 1 := by have := q.2; unfold Alk at al; omega
      exact n1 (by rw [this]; rfl)
    · have e1 : tsk T L s.1 = 1 := nI_inj (b := 1) (by unfold Alk at al; omega) (by omega) e1
      have tw := tw (Or.inl e1)
      rw [g17 (Or.inl e1)]
      have l97 : lg_cmp (lN (twk T L s.1)) 97 < 0 ↔ twk T L s.1 < 97 := cmpL tw (b := 97) (by decide)
      have l104 : lg_cmp (lN (twk T L s.1)) 104 ≤ 0 ↔ twk T L s.1 ≤ 104 := cmpLe tw (b := 104) (by decide)
      have wpk : tkd T L s.1 = 1 → 255 < twk T L s.1 := fun q => by
        unfold Alk at al
        rcases al with a | a | a | a | a | a | a | a
        · omega
        · omega
        · omega
        · omega
        · omega
        · omega
        · rw [a.2.2.2.1]; exact (wl_pk _ a.2.2.1).1
        · omega
      refine ⟨fun c97 => brk (fun q => ?_) g, fun c97 => ⟨fun c104 => ?_, fun c104 => brk (fun q => ?_) g⟩⟩
      · rw [l97] at c97
        unfold Alk at al
        have := q.2; clear g17; clear tw; omega
      · rw [l97] at c97; rw [l104] at c104
        have q2 : tkd T L s.1 = 2 ∧ tvN T L s.1 < 8 ∧ twk T L s.1 = tvN T L s.1 + 97 := by
          unfold Alk at al
          clear tw
          rcases al with a | a | a | a | a | a | a | a
          · omega
          · omega
          · omega
          · omega
          · omega
          · exact ⟨a.1, a.2.2.1, a.2.2.2⟩
          · have := wpk a.1; omega
          · omega
        have ea : aTake T L 2 s = (tvN T L s.1, aAdv s) := by unfold aTake; exact if_pos ⟨g, q2.1⟩
        rw [ea] at hS
        unfold w_X10_letterTaken_p41
        refine t_isGood c (fun _ => ⟨fun _ => ?_, fun c => absurd c (by decide)⟩) (fun b => by rw [g] at b; exact Bool.noConfusion b)
        rintro _ rfl
        rw [g17 (Or.inl e1), lN_i, q2.2.2, show nI (tvN T L s.1 + 97) - 97 = nI (tvN T L s.1) from (nI_sub (x := tvN T L s.1 + 97) (z := 97) (by omega)).trans (congrArg nI (by omega))]
        exact t_adv c g q2.1 (by omega) hS
      · rw [l104] at c104
        unfold Alk at al
        have := q.2; clear g17; clear tw; omega
  · subst e1 e2
    have ea : aTake T L 2 s = (0, aBrk s) := by unfold aTake; exact if_neg (fun z => by rw [b] at z; exact Bool.noConfusion z.1)
    rw [ea] at hS
    obtain ⟨⟨w, hh, hn⟩, hB, hb, hg⟩ := c
    exact hS _ _ ⟨⟨w.brk, by omega, hn⟩, hB, fun _ => hb b, fun z => Bool.noConfusion z⟩ MtF.rf JF.rf
/-- a broken reading stays as it is -/
theorem MT.brk {h : Nat} (c : MT o I J T L n h s) (b : s.2.1 = true) : MT o I J T L n 0 (aBrk s) := by
  obtain ⟨⟨w, hh, hn⟩, hB, hb, hg⟩ := c
  exact ⟨⟨w.brk, by omega, hn⟩, hB, fun _ => hb b, fun z => Bool.noConfusion z⟩
theorem note_adv {kind place : Nat} : aAdv (aNote kind place s) = aNote kind place (aAdv s) := by
  unfold aNote aAdv
  by_cases z : s.2.2.1 = 0
  · rw [if_pos z, if_pos z]
  · rw [if_neg z, if_neg z]
theorem t_numeral {lo hi : Nat} {S : Int32 → MI → MJ → Prop} (c : MT o I J T L n 0 s) (hlh : lo ≤ hi) (hhi : hi < 1000) (hS : ∀ I' J', MT o I' J' T L n 0 (aNum T L lo hi s).2 → MtF o I I' → JF o J J' → S (nI (aNum T L lo hi s).1) I' J') : w_X10_numeral o (nI lo) (nI hi) I J S := by
  have p19b : ∀ {h : Nat} {s' : PS} {I' : MI}, MT o I' J T L n h s' → s'.2.1 = true → S (nI lo) I' J → w_X10_numeral_p19 o (nI lo) (nI hi) I' J S := fun c' e k => by
    unfold w_X10_numeral_p19
    exact t_isGood c' (fun z => by rw [e] at z; exact Bool.noConfusion z) (fun _ => ⟨fun c => absurd rfl c, fun _ => k⟩)
  unfold w_X10_numeral
  refine t_isGood c (fun g => ⟨fun c => absurd c (by decide), fun _ => ?_⟩) (fun b => ⟨fun _ => p19b c b ?_, fun c => absurd rfl c⟩)
  · obtain ⟨g4, g15, g14, g13, g11, g12, g17⟩ := c.2.2.2 g
    have al := alk T L s.1
    rw [g12]
    refine ⟨fun e2 => ?_, fun n2 => ?_⟩
    · have e2 : tsk T L s.1 = 2 := nI_inj (b := 2) (by unfold Alk at al; omega) (by omega) e2
      have q : tkd T L s.1 = 4 ∧ tvN T L s.1 = twk T L s.1 ∧ tvN T L s.1 < 1000 := by unfold Alk at al; omega
      have tw : twk T L s.1 < 2 ^ 63 := by have : (1000 : Nat) < 2 ^ 63 := by decide
                                           rw [← q.2.1]; exact Nat.lt_trans q.2.2 this
      have h1000 : ∀ z : Nat, z < 1000 → z < 2 ^ 63 := fun z hz => Nat.lt_trans hz (by decide)
      have eN : aNum T L lo hi s = (if lo ≤ tvN T L s.1 ∧ tvN T L s.1 ≤ hi then (tvN T L s.1, aAdv s) else (lo, aNote 2 (pos T L s.1) (aAdv s))) := by unfold aNum; exact if_pos ⟨g, q.1⟩
      have bad : ¬ (lo ≤ tvN T L s.1 ∧ tvN T L s.1 ≤ hi) → w_X10_numeral_p67 o 0 (nI lo) I J S := fun nr => by
        rw [if_neg nr] at eN
        rw [eN] at hS
        unfold w_X10_numeral_p67
        refine ⟨fun c => absurd rfl c, fun _ => ?_⟩
        rw [g13]
        refine t_note (kind := 2) c g ⟨by omega, by omega, by omega⟩ (by omega) (fun I1 c1 f1 => ?_)
        refine t_adv c1 (kd := 4) ?_ ?_ (by omega) (fun I2 J2 c2 f2 j2 => hS I2 J2 (by rw [← note_adv]; exact c2) (f1.tr f2) j2)
        · unfold aNote; split <;> exact g
        · unfold aNote; split <;> exact q.1
      unfold w_X10_numeral_p19
      refine t_isGood c (fun _ => ⟨fun _ => ?_, fun c => absurd c (by decide)⟩) (fun b => by rw [g] at b; exact Bool.noConfusion b)
      rw [g17 (Or.inr (Or.inl e2)), nI_l (by omega), nI_l (by omega), cmpL tw (h1000 _ (by omega)), cmpG tw (h1000 _ (by omega)), ← q.2.1]
      refine ⟨fun c1 => ⟨fun _ => bad (by omega), fun c => absurd rfl c⟩, fun c1 => ⟨fun c2 => ⟨fun _ => bad (by omega), fun c => absurd rfl c⟩, fun c2 => ⟨fun c => absurd c (by decide), fun _ => ?_⟩⟩⟩
      rw [if_pos ⟨by omega, by omega⟩] at eN
      rw [eN] at hS
      unfold w_X10_numeral_p67
      refine ⟨fun _ => ?_, fun c => absurd c (by decide)⟩
      rw [lN_i]
      exact t_adv c g q.1 (by omega) hS
    · have q : ¬ (s.2.1 = false ∧ tkd T L s.1 = 4) := fun q => by
        have : tsk T L s.1 = 2 := by have := q.2; unfold Alk at al; omega
        exact n2 (by rw [this]; rfl)
      have eN : aNum T L lo hi s = (lo, aBrk s) := by unfold aNum; exact if_neg q
      rw [eN] at hS
      exact t_fails c (fun I' c' f' => p19b c' rfl (hS _ _ c' f' JF.rf))
  · have eN : aNum T L lo hi s = (lo, aBrk s) := by unfold aNum; exact if_neg (fun z => by rw [b] at z; exact Bool.noConfusion z.1)
    rw [eN] at hS
    exact hS _ _ (c.brk b) MtF.rf JF.rf
theorem t_sign {sg h : Nat} {S : MI → MJ → Prop} (c : MT o I J T L n h s) (hsg : sg < 128) (hS : ∀ I' J', MT o I' J' T L n 0 (aSgn T L sg s) → MtF o I I' → JF o J J' → S I' J') : w_X10_sign o (nI sg) I J S := by
  have brk : ¬ (s.2.1 = false ∧ tkd T L s.1 = 5 ∧ tvN T L s.1 = sg) → w_X10_fails o I (fun I4 => S I4 J) := fun q => by
    have e : aSgn T L sg s = aBrk s := by unfold aSgn; exact if_neg q
    rw [e] at hS
    exact t_fails c (fun I' c' f' => hS _ _ c' f' JF.rf)
  unfold w_X10_sign
  refine t_isGood c (fun g => ⟨fun _ => ?_, fun c => absurd c (by decide)⟩) (fun b => ⟨fun c => absurd rfl c, fun _ => ?_⟩)
  · obtain ⟨-, -, -, -, -, g12, g17⟩ := c.2.2.2 g
    have al := alk T L s.1
    rw [g12]
    refine ⟨fun n3 => brk (fun q => ?_), fun e3 => ?_⟩
    · have : tsk T L s.1 = 3 := by have := q.2.1; unfold Alk at al; omega
      exact n3 (by rw [this]; rfl)
    · have e3 : tsk T L s.1 = 3 := nI_inj (b := 3) (by unfold Alk at al; omega) (by omega) e3
      have q : tkd T L s.1 = 5 ∧ tvN T L s.1 = twk T L s.1 ∧ tvN T L s.1 < 1000 := by unfold Alk at al; omega
      have h1000 : ∀ z : Nat, z < 1000 → z < 2 ^ 63 := fun z hz => Nat.lt_trans hz (by decide)
      rw [g17 (Or.inr (Or.inr e3)), nI_l (by omega), cmpE (h1000 _ (by omega)) (h1000 _ (by omega)), ← q.2.1]
      refine ⟨fun ne => brk (fun z => ne z.2.2), fun e => ?_⟩
      have e' : aSgn T L sg s = aAdv s := by unfold aSgn; exact if_pos ⟨g, q.1, e⟩
      rw [e'] at hS
      exact t_adv c g q.1 (by omega) hS
  · have e : aSgn T L sg s = aBrk s := by unfold aSgn; exact if_neg (fun z => by rw [b] at z; exact Bool.noConfusion z.1)
    rw [e] at hS
    exact hS _ _ (c.brk b) MtF.rf JF.rf
/-- a word at hand -/
theorem t_isWord {j h : Nat} {w : Int64} {Q : Int32 → Prop} (c : MT o I J T L n h s) (hj : j < 20) (hw : w = lN (pkv (WL j))) (h1 : (s.2.1 = false ∧ tkd T L s.1 = 1 ∧ tvN T L s.1 = j) → Q 1) (h0 : ¬ (s.2.1 = false ∧ tkd T L s.1 = 1 ∧ tvN T L s.1 = j) → Q 0) : w_X10_isWord o w I J Q := by
  unfold w_X10_isWord
  subst hw
  refine t_isGood c (fun g => ⟨fun c => absurd c (by decide), fun _ => ?_⟩) (fun b => ⟨fun _ => h0 (fun z => by rw [b] at z; exact Bool.noConfusion z.1), fun c => absurd rfl c⟩)
  obtain ⟨-, -, -, -, -, g12, g17⟩ := c.2.2.2 g
  have al := alk T L s.1
  rw [g12]
  refine ⟨fun n1 => h0 (fun q => ?_), fun e1 => ?_⟩
  · have : tsk T L s.1 = 1 := by have := q.2.1; unfold Alk at al; omega
    exact n1 (by rw [this]; rfl)
  · have e1 : tsk T L s.1 = 1 := nI_inj (b := 1) (by unfold Alk at al; omega) (by omega) e1
    rw [g17 (Or.inl e1), cmpE (twk_lt T L s.1 (Or.inl e1)) (wl_pk j hj).2]
    have key : twk T L s.1 = pkv (WL j) ↔ (tkd T L s.1 = 1 ∧ tvN T L s.1 = j) := by
      have wj := (wl_pk j hj).1
      unfold Alk at al
      rcases al with a | a | a | a | a | a | a | a
      · omega
      · omega
      · exact ⟨fun e => by omega, fun e => by omega⟩
      · omega
      · omega
      · exact ⟨fun e => by omega, fun e => by omega⟩
      · refine ⟨fun e => ⟨a.1, ?_⟩, fun e => by rw [a.2.2.2.1, e.2]⟩
        rw [a.2.2.2.1] at e
        have := pkv_inj (wl_b _ a.2.2.1) (wl_b j hj) e
        have z := wl_no _ a.2.2.1
        rw [this, wl_no j hj] at z
        exact z.symm
      · exact ⟨fun e => absurd e (a.2.2.2.2.1 j hj), fun e => by omega⟩
    rw [key]
    exact ⟨fun ne => h0 (fun z => ne z.2), fun e => h1 ⟨g, e.1, e.2⟩⟩
theorem t_hasWord {j h : Nat} {w : Int64} {S : Int32 → MI → MJ → Prop} (c : MT o I J T L n h s) (hj : j < 20) (hw : w = lN (pkv (WL j))) (h1 : (s.2.1 = false ∧ tkd T L s.1 = 1 ∧ tvN T L s.1 = j) → ∀ I' J', MT o I' J' T L n 0 (aAdv s) → MtF o I I' → JF o J J' → S 1 I' J') (h0 : ¬ (s.2.1 = false ∧ tkd T L s.1 = 1 ∧ tvN T L s.1 = j) → S 0 I J) : w_X10_hasWord o w I J S := by
  unfold w_X10_hasWord
  refine t_isWord c hj hw (fun q => ⟨fun c => absurd c (by decide), fun _ => ?_⟩) (fun q => ⟨fun _ => ⟨Or.inl rfl, h0 q⟩, fun c => absurd rfl c⟩)
  exact t_adv c q.1 q.2.1 (by omega) (fun I' J' c' f' j' => ⟨Or.inr rfl, h1 q I' J' c' f' j'⟩)
theorem wq_tab : (465725121651 : Int64) = lN (pkv (WL 14)) ∧ (126943923168627 : Int64) = lN (pkv (WL 15)) ∧ (1684108385 : Int64) = lN (pkv (WL 16)) ∧ (109330278475123 : Int64) = lN (pkv (WL 17)) ∧ (1953459300 : Int64) = lN (pkv (WL 18)) ∧ (418548245860 : Int64) = lN (pkv (WL 19)) := by decide +kernel
theorem t_queueWord {q : Nat} {Q : Int64 → Prop} (hq : q < 6) (h : Q (lN (pkv (WL (14 + q))))) : w_X10_queueWord (nI q) Q := by
  obtain ⟨w0, w1, w2, w3, w4, w5⟩ := wq_tab
  have ne : ∀ z : Nat, z < 6 → z ≠ q → ¬ nI q = nI z := fun z hz hne c => hne (nI_inj (by omega) (by omega) c).symm
  unfold w_X10_queueWord
  have hc : q = 0 ∨ q = 1 ∨ q = 2 ∨ q = 3 ∨ q = 4 ∨ q = 5 := by omega
  rcases hc with rfl | rfl | rfl | rfl | rfl | rfl
  · rw [← w0] at h; exact ⟨fun c => absurd rfl c, fun _ => h⟩
  · rw [← w1] at h; exact ⟨fun _ => ⟨fun c => absurd rfl c, fun _ => h⟩, fun c => absurd c (ne 0 (by omega) (by omega))⟩
  · rw [← w2] at h; exact ⟨fun _ => ⟨fun _ => ⟨fun c => absurd rfl c, fun _ => h⟩, fun c => absurd c (ne 1 (by omega) (by omega))⟩, fun c => absurd c (ne 0 (by omega) (by omega))⟩
  · rw [← w3] at h; exact ⟨fun _ => ⟨fun _ => ⟨fun _ => ⟨fun c => absurd rfl c, fun _ => h⟩, fun c => absurd c (ne 2 (by omega) (by omega))⟩, fun c => absurd c (ne 1 (by omega) (by omega))⟩, fun c => absurd c (ne 0 (by omega) (by omega))⟩
  · rw [← w4] at h; exact ⟨fun _ => ⟨fun _ => ⟨fun _ => ⟨fun _ => ⟨fun c => absurd rfl c, fun _ => h⟩, fun c => absurd c (ne 3 (by omega) (by omega))⟩, fun c => absurd c (ne 2 (by omega) (by omega))⟩, fun c => absurd c (ne 1 (by omega) (by omega))⟩, fun c => absurd c (ne 0 (by omega) (by omega))⟩
  · rw [← w5] at h; exact ⟨fun _ => ⟨fun _ => ⟨fun _ => ⟨fun _ => ⟨fun _ => h, fun c => absurd c (ne 4 (by omega) (by omega))⟩, fun c => absurd c (ne 3 (by omega) (by omega))⟩, fun c => absurd c (ne 2 (by omega) (by omega))⟩, fun c => absurd c (ne 1 (by omega) (by omega))⟩, fun c => absurd c (ne 0 (by omega) (by omega))⟩
theorem t_queueTaken {h : Nat} {S : Int32 → MI → MJ → Prop} (c : MT o I J T L n h s) (hS : ∀ I' J', MT o I' J' T L n 0 (aQue T L s).2 → MtF o I I' → JF o J J' → S (nI (aQue T L s).1) I' J') : w_X10_queueTaken o I J S := by
  unfold w_X10_queueTaken
  refine Lp3.of (fun x I' J' => I' = I ∧ J' = J ∧ ∃ q, q ≤ 6 ∧ x = nI q ∧ ∀ z, z < q → ¬ (s.2.1 = false ∧ tkd T L s.1 = 1 ∧ tvN T L s.1 = 14 + z)) (fun x _ _ => 10 - ix x) ?_ _ _ _ ⟨rfl, rfl, 0, by omega, rfl, fun z hz => by omega⟩
  rintro rec x _ _ ⟨rfl, rfl, q, hq, rfl, hz⟩ hrec
  unfold w_X10_queueTaken_l2
  refine ⟨fun c6 => ?_, fun c6 => ?_⟩
  · have := (nI_leI (a := 6) (by omega) (by omega)).mp c6
    have nq : ¬ (s.2.1 = false ∧ tkd T L s.1 = 1 ∧ 14 ≤ tvN T L s.1) := fun z => by
      have al := alk T L s.1
      have : tvN T L s.1 < 20 := by have := z.2.1; unfold Alk at al; omega
      exact hz (tvN T L s.1 - 14) (by omega) ⟨z.1, z.2.1, by omega⟩
    have e : aQue T L s = (0, aBrk s) := by unfold aQue; exact if_neg nq
    rw [e] at hS
    exact t_fails c (fun I' c' f' => hS _ _ c' f' JF.rf)
  · have hq6 : q < 6 := Nat.not_le.mp fun r => c6 (nI_le (a := 6) r (by omega))
    refine t_queueWord hq6 (t_hasWord c (j := 14 + q) (by omega) rfl (fun z I' J' c' f' j' => ⟨fun c => absurd c (by decide), fun _ => ?_⟩) (fun z => ⟨fun _ => ?_, fun c => absurd rfl c⟩))
    · have e : aQue T L s = (q, aAdv s) := by unfold aQue; rw [if_pos ⟨z.1, z.2.1, by omega⟩, z.2.2, show 14 + q - 14 = q by omega]
      rw [e] at hS
      exact hS I' J' c' f' j'
    · refine hrec _ _ _ ⟨rfl, rfl, q + 1, by omega, nI_1 q, fun y hy => ?_⟩ (by rw [nI_1, ixn (by omega), ixn (by omega)]; omega)
      by_cases e : y = q
      · subst e; exact z
      · exact hz y (by omega)
end
