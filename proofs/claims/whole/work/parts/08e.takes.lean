/-! how far the reading has come: the token that is next; whether it broke off; what else is wrong, and where -/
abbrev PS : Type := Nat × Bool × Nat × Nat
section
variable (T : Nat → Nat) (L : Nat)
def aBrk (s : PS) : PS := (s.1, true, s.2.2)
def aAdv (s : PS) : PS := (s.1 + 1, s.2)
def aNote (kind place : Nat) (s : PS) : PS := if s.2.2.1 = 0 then (s.1, s.2.1, kind, place) else s
def aIs (kd : Nat) (s : PS) : Prop := s.2.1 = false ∧ tkd T L s.1 = kd
def aTake (kd : Nat) (s : PS) : Nat × PS := if s.2.1 = false ∧ tkd T L s.1 = kd then (tvN T L s.1, aAdv s) else (0, aBrk s)
def aNum (lo hi : Nat) (s : PS) : Nat × PS := if s.2.1 = false ∧ tkd T L s.1 = 4 then (if lo ≤ tvN T L s.1 ∧ tvN T L s.1 ≤ hi then (tvN T L s.1, aAdv s) else (lo, aNote 2 (pos T L s.1) (aAdv s))) else (lo, aBrk s)
def aSgn (c : Nat) (s : PS) : PS := if s.2.1 = false ∧ tkd T L s.1 = 5 ∧ tvN T L s.1 = c then aAdv s else aBrk s
def aQue (s : PS) : Nat × PS := if s.2.1 = false ∧ tkd T L s.1 = 1 ∧ 14 ≤ tvN T L s.1 then (tvN T L s.1 - 14, aAdv s) else (0, aBrk s)
/-- what must hold of it: the token is there, and what was wrong lies ahead of it -/
def WfS (n h : Nat) (s : PS) : Prop := s.1 ≤ n ∧ s.2.2.1 ≠ 1 ∧ s.2.2.1 ≤ 5 ∧ (s.2.1 = false → s.2.2.1 ≠ 0 → s.2.2.2 < pos T L (s.1 + h))
end
section
variable {T : Nat → Nat} {L n : Nat} {s : PS}
theorem tk_lt (hn : pos T L n = L) {k kd : Nat} (hk : k ≤ n) (h : tkd T L k = kd) (h6 : kd ≠ 6) : k < n := by
  rcases Nat.lt_or_ge k n with q | q
  · exact q
  · have : k = n := by omega
    subst this
    unfold tkd at h
    rw [if_pos (by omega)] at h
    omega
theorem pos_s {k : Nat} (h : tkd T L k ≠ 6) : pos T L k < L := by
  unfold tkd at h
  rcases Nat.lt_or_ge (pos T L k) L with q | q
  · exact q
  · rw [if_pos q] at h; exact absurd rfl h
theorem WfS.brk {h h' : Nat} (w : WfS T L n h s) : WfS T L n h' (aBrk s) := ⟨w.1, w.2.1, w.2.2.1, fun q => Bool.noConfusion q⟩
theorem WfS.adv {h : Nat} (hn : pos T L n = L) (hh : h ≤ 1) {kd : Nat} (w : WfS T L n h s) (hk : tkd T L s.1 = kd) (h6 : kd ≠ 6) : WfS T L n 0 (aAdv s) := by
  obtain ⟨h1, h2, h3, h4⟩ := w
  have := tk_lt hn h1 hk h6
  have pm := pos_mono (pos_s (T := T) (L := L) (k := s.1) (by rw [hk]; exact h6))
  refine ⟨this, h2, h3, fun g q => ?_⟩
  have := h4 g q
  show s.2.2.2 < pos T L (s.1 + 1 + 0)
  rcases Nat.lt_or_ge 0 h with c | c
  · have e : h = 1 := by omega
    rw [e] at this; exact this
  · have e : h = 0 := by omega
    rw [e] at this
    exact Nat.lt_trans this pm
/-- once broken off, always -/
theorem aTake_br {kd : Nat} (h : (aTake T L kd s).2.2.1 = false) : s.2.1 = false := by
  unfold aTake at h
  split at h
  · rename_i c; exact c.1
  · exact absurd h (by unfold aBrk; exact Bool.noConfusion)
theorem aNum_br {lo hi : Nat} (h : (aNum T L lo hi s).2.2.1 = false) : s.2.1 = false := by
  unfold aNum at h
  split at h
  · rename_i c; exact c.1
  · exact absurd h (by unfold aBrk; exact Bool.noConfusion)
theorem aSgn_br {c : Nat} (h : (aSgn T L c s).2.1 = false) : s.2.1 = false := by
  unfold aSgn at h
  split at h
  · rename_i c; exact c.1
  · exact absurd h (by unfold aBrk; exact Bool.noConfusion)
theorem aQue_br (h : (aQue T L s).2.2.1 = false) : s.2.1 = false := by
  unfold aQue at h
  split at h
  · rename_i c; exact c.1
  · exact absurd h (by unfold aBrk; exact Bool.noConfusion)
theorem aNum_bd {lo hi : Nat} (hl : lo ≤ hi) : lo ≤ (aNum T L lo hi s).1 ∧ (aNum T L lo hi s).1 ≤ hi := by
  unfold aNum
  split
  · split
    · rename_i c; exact c
    · exact ⟨Nat.le_refl _, hl⟩
  · exact ⟨Nat.le_refl _, hl⟩
theorem aTake_let : (aTake T L 2 s).1 < 8 := by
  unfold aTake
  split
  · rename_i c
    show tvN T L s.1 < 8
    rcases alk T L s.1 with q | q | q | q | q | q | q | q <;> omega
  · exact Nat.zero_lt_succ _
theorem aQue_bd : (aQue T L s).1 < 6 := by
  unfold aQue
  split
  · rename_i c
    show tvN T L s.1 - 14 < 6
    rcases alk T L s.1 with q | q | q | q | q | q | q | q <;> omega
  · exact Nat.zero_lt_succ _
end
/-! the class -/
section
variable {r n L : Nat} {T : Nat → Nat} {I : MI} {s : PS}
/-- the class's reader stands so -/
def CT (r : Nat) (I : MI) (T : Nat → Nat) (L n h : Nat) (s : PS) : Prop :=
  (WfS T L n h s ∧ h ≤ 1) ∧ I r 4 = nI s.1 ∧ (s.2.1 = true → I r 1 = 1 ∧ I r 2 = nI (pos T L s.1)) ∧ (s.2.1 = false → I r 1 = nI s.2.2.1 ∧ (s.2.2.1 ≠ 0 → I r 2 = nI s.2.2.2) ∧ (s.2.2.1 = 0 → I r 2 = -1))
/-- of the reader only fault, place and next are changed -/
def RdF (r : Nat) (I I' : MI) : Prop := (∀ c, c ≠ r → I' c = I c) ∧ ∀ j, j ≠ 1 → j ≠ 2 → j ≠ 4 → I' r j = I r j
theorem RdF.rf : RdF r I I := ⟨fun _ _ => rfl, fun _ _ _ _ => rfl⟩
theorem RdF.tr {I' I'' : MI} (h : RdF r I I') (h' : RdF r I' I'') : RdF r I I'' := ⟨fun c hc => (h'.1 c hc).trans (h.1 c hc), fun j a b c => (h'.2 j a b c).trans (h.2 j a b c)⟩
theorem RdF.ui {k : Nat} {x : Int32} (h : k = 1 ∨ k = 2 ∨ k = 4) : RdF r I (ui I r k x) := ⟨fun c hc => ui_ne _ _ _ hc, fun j a b c => ui_gj _ _ _ (by omega)⟩
theorem Toks.fr {t : Nat} {I' : MI} (h : Toks t I T L n) (hI : ∀ c, t ≤ c → c ≤ t + 4 → I' c = I c) : Toks t I' T L n := ⟨fun j hj => by rw [hI _ (by omega) (by omega), hI _ (by omega) (by omega), hI _ (by omega) (by omega), hI _ (by omega) (by omega)]; exact h.1 j hj, h.2⟩
theorem Toks.rd {I' : MI} (h : Toks (r + 35) I T L n) (hF : RdF r I I') : Toks (r + 35) I' T L n := h.fr (fun c h1 _ => hF.1 c (by omega))
theorem CT.fr {h : Nat} {I' : MI} (c : CT r I T L n h s) (hI : I' r = I r) : CT r I' T L n h s := by unfold CT at c ⊢; rw [hI]; exact c
theorem CT.f1 {h : Nat} (c : CT r I T L n h s) : (I r 1 = 1 ↔ s.2.1 = true) := by
  obtain ⟨⟨w, -⟩, -, hb, hg⟩ := c
  cases q : s.2.1 with
  | true => exact ⟨fun _ => rfl, fun _ => (hb q).1⟩
  | false =>
    refine ⟨fun c => ?_, fun c => Bool.noConfusion c⟩
    rw [(hg q).1] at c
    have w3 := w.2.2.1
    exact absurd (nI_inj (b := 1) (by omega) (by omega) c) w.2.1
theorem CT.good {h : Nat} (c : CT r I T L n h s) (hb : ¬ I r 1 = 1) : s.2.1 = false := by
  cases q : s.2.1 with
  | false => rfl
  | true => exact absurd (c.f1.mpr q) hb
theorem k_isNext {kd h : Nat} {Q : Int32 → Prop} (c : CT r I T L n h s) (hT : Toks (r + 35) I T L n) (hkd : kd < 10) (h1 : aIs T L kd s → Q 1) (h0 : ¬ aIs T L kd s → Q 0) : w_X4_isNext r (nI kd) I Q := by
  have hf := c.f1
  have hgd := c.good
  obtain ⟨⟨w, -⟩, e4, hb, hg⟩ := c
  obtain ⟨t1, t2, t3, t4⟩ := hT
  unfold w_X4_isNext
  rw [e4]
  have w1 := w.1
  refine ⟨fun c => h0 (fun q => ?_), fun c => ⟨fun c2 => absurd ((nI_ltI (a := 600) (by omega) (by omega)).mp c2) (by omega), fun _ => ⟨inn (by omega) (by omega), ?_⟩⟩⟩
  · have q1 := q.1
    rw [hf.mp c] at q1; exact Bool.noConfusion q1
  · have ek := (t1 s.1 (by omega)).1
    rw [ixn (by omega)]
    have ek : I (r + 36) s.1 = nI (tkd T L s.1) := ek
    rw [ek]
    have tl : tkd T L s.1 < 10 := by
      rcases alk T L s.1 with q | q | q | q | q | q | q | q <;> omega
    refine ⟨fun c2 => h0 (fun q => c2 (by rw [q.2])), fun c2 => h1 ⟨hgd c, nI_inj (by omega) (by omega) c2⟩⟩
theorem k_isBroken {h : Nat} {Q : Int32 → Prop} (c : CT r I T L n h s) (h1 : s.2.1 = true → Q 1) (h0 : s.2.1 = false → Q 0) : w_X4_isBroken r I Q := by
  have hf := c.f1
  unfold w_X4_isBroken
  exact ⟨fun q => h0 (c.good q), fun q => h1 (hf.mp q)⟩
theorem k_breakOff {h : Nat} {P : MI → Prop} (c : CT r I T L n h s) (hT : Toks (r + 35) I T L n) (hP : ∀ I', CT r I' T L n 0 (aBrk s) → RdF r I I' → P I') : w_X4_breakOff r I P := by
  have hf := c.f1
  obtain ⟨⟨w, -⟩, e4, hb, hg⟩ := c
  have w1 := w.1
  unfold w_X4_breakOff
  refine ⟨fun c => hP I ⟨⟨w.brk, by omega⟩, e4, fun _ => hb (hf.mp c), fun q => Bool.noConfusion q⟩ RdF.rf, fun c => ⟨fun c2 => ?_, fun _ => ?_⟩⟩
  · rw [e4] at c2
    have := hT.2.1
    exact absurd ((nI_ltI (a := 600) (by omega) (by omega)).mp c2) (by omega)
  · have hn := hT.2.1
    have ek : I (r + 38) s.1 = nI (pos T L s.1) := (hT.1 s.1 (by omega)).2.1
    rintro _ rfl
    rw [ui_gj _ _ _ (by omega), e4]
    refine ⟨inn (by omega) (by omega), ?_⟩
    rintro _ rfl
    rw [ui_ne _ _ _ (show r + 38 ≠ r by omega), ixn (by omega), ek]
    exact hP _ ⟨⟨w.brk, by omega⟩, by rw [ui_gj _ _ _ (by omega), ui_gj _ _ _ (by omega)]; exact e4, fun _ => ⟨by rw [ui_gj _ _ _ (by omega), ui_gs], ui_gs _ _ _ _⟩, fun q => Bool.noConfusion q⟩ ((RdF.ui (Or.inl rfl)).tr (RdF.ui (Or.inr (Or.inl rfl))))
theorem CT.adv {h : Nat} (c : CT r I T L n h s) (hn : pos T L n = L) {kd : Nat} (hk : aIs T L kd s) (h6 : kd ≠ 6) : CT r (ui I r 4 (nI s.1 + 1)) T L n 0 (aAdv s) := by
  obtain ⟨⟨w, hh⟩, e4, hb, hg⟩ := c
  refine ⟨⟨w.adv hn hh hk.2 h6, by omega⟩, by rw [ui_gs, nI_1]; rfl, fun q => ?_, fun q => ?_⟩
  · have : s.2.1 = true := q
    rw [hk.1] at this; exact Bool.noConfusion this
  · obtain ⟨g1, g2, g3⟩ := hg hk.1
    exact ⟨by rw [ui_gj _ _ _ (by omega)]; exact g1, fun c => by rw [ui_gj _ _ _ (by omega)]; exact g2 c, fun c => by rw [ui_gj _ _ _ (by omega)]; exact g3 c⟩
theorem k_takes {kd h : Nat} {P : Int32 → MI → Prop} (c : CT r I T L n h s) (hT : Toks (r + 35) I T L n) (hkd : kd = 1 ∨ kd = 2 ∨ kd = 4 ∨ kd = 5) (hP : ∀ I', CT r I' T L n 0 (aTake T L kd s).2 → RdF r I I' → P (nI (aTake T L kd s).1) I') : w_X4_take r (nI kd) I P := by
  unfold w_X4_take
  have hn := hT.2.1
  refine k_isNext c hT (by omega) (fun q => ⟨fun _ => ?_, fun c => absurd c (by decide)⟩) (fun q => ⟨fun c => absurd rfl c, fun _ => k_breakOff c hT (fun I' c' f' => ?_)⟩)
  · have w1 := c.1.1.1
    have ev : I (r + 37) s.1 = nI (tvN T L s.1) := (hT.1 s.1 (by omega)).2.2.2 (by rw [q.2]; exact hkd)
    have ea : aTake T L kd s = (tvN T L s.1, aAdv s) := by unfold aTake; exact if_pos q
    rw [ea] at hP
    rw [c.2.1]
    refine ⟨inn (by omega) (by omega), ?_⟩
    rintro _ rfl _ rfl
    rw [ixn (by omega), ev]
    exact hP _ (c.adv hT.2.2.1 q (by omega)) (RdF.ui (Or.inr (Or.inr rfl)))
  · have ea : aTake T L kd s = (0, aBrk s) := by unfold aTake; exact if_neg q
    rw [ea] at hP
    exact hP I' c' f'
/-- a name is taken -/
def aNam (T : Nat → Nat) (L : Nat) (s : PS) : PS := if s.2.1 = false ∧ tkd T L s.1 = 3 then aAdv s else aBrk s
theorem k_takeName {h : Nat} {P : Int32 → MI → Prop} (c : CT r I T L n h s) (hT : Toks (r + 35) I T L n) (hP : ∀ v I', CT r I' T L n 0 (aNam T L s) → RdF r I I' → P v I') : w_X4_take r (nI 3) I P := by
  unfold w_X4_take
  have hn := hT.2.1
  refine k_isNext c hT (by omega) (fun q => ⟨fun _ => ?_, fun c => absurd c (by decide)⟩) (fun q => ⟨fun c => absurd rfl c, fun _ => k_breakOff c hT (fun I' c' f' => ?_)⟩)
  · have w1 := c.1.1.1
    have ea : aNam T L s = aAdv s := by unfold aNam; exact if_pos q
    rw [ea] at hP
    rw [c.2.1]
    refine ⟨inn (by omega) (by omega), ?_⟩
    rintro _ rfl _ rfl
    exact hP _ _ (c.adv hT.2.2.1 q (by omega)) (RdF.ui (Or.inr (Or.inr rfl)))
  · have ea : aNam T L s = aBrk s := by unfold aNam; exact if_neg q
    rw [ea] at hP
    exact hP _ I' c' f'
/-- something else is wrong, at a token not behind -/
theorem k_note {kind j h h' : Nat} {P : MI → Prop} (c : CT r I T L n h s) (hT : Toks (r + 35) I T L n) (hL : L ≤ 600) (hg : s.2.1 = false) (hj : j ≤ n) (hk : kind ≠ 1 ∧ kind ≤ 5 ∧ kind ≠ 0) (hh : h' ≤ 1) (hp : pos T L j < pos T L (s.1 + h')) (hw : s.2.2.1 ≠ 0 → s.2.2.2 ≤ pos T L j) (hP : ∀ I', CT r I' T L n h' (aNote kind (pos T L j) s) → RdF r I I' → P I') : w_X4_note r (nI kind) (nI j) I P := by
  obtain ⟨⟨w, -⟩, e4, hb, hg'⟩ := c
  obtain ⟨g1, g2, g3⟩ := hg' hg
  have hn := hT.2.1
  have ek : I (r + 38) j = nI (pos T L j) := (hT.1 j (by omega)).2.1
  have pl := pos_le (T := T) (L := L) j
  unfold w_X4_note
  rw [g1]
  have w3 := w.2.2.1
  by_cases z : s.2.2.1 = 0
  · have ea : aNote kind (pos T L j) s = (s.1, s.2.1, kind, pos T L j) := by unfold aNote; exact if_pos z
    rw [ea] at hP
    rw [z]
    refine ⟨fun _ => ?_, fun c => absurd rfl c⟩
    rintro _ rfl
    refine ⟨inn (by omega) (by omega), ?_⟩
    rintro _ rfl
    rw [ui_ne _ _ _ (show r + 38 ≠ r by omega), ixn (by omega), ek]
    refine hP _ ⟨⟨⟨w.1, hk.1, hk.2.1, fun _ _ => hp⟩, hh⟩, by rw [ui_gj _ _ _ (by omega), ui_gj _ _ _ (by omega)]; exact e4, fun q => ?_, fun _ => ⟨by rw [ui_gj _ _ _ (by omega), ui_gs], fun _ => ui_gs _ _ _ _, fun q => absurd q hk.2.2⟩⟩ ((RdF.ui (Or.inl rfl)).tr (RdF.ui (Or.inr (Or.inl rfl))))
    have : s.2.1 = true := q
    rw [hg] at this; exact Bool.noConfusion this
  · have ea : aNote kind (pos T L j) s = s := by unfold aNote; exact if_neg z
    rw [ea] at hP
    have hw := hw z
    rw [g2 z, ixn (by omega), ek]
    refine ⟨fun c => absurd ((nI_z (by omega)).mp c) z, fun _ => ⟨inn (by omega) (by omega), fun _ => ?_, fun c => absurd (nI_le hw (by omega)) c⟩⟩
    exact hP I ⟨⟨⟨w.1, w.2.1, w.2.2.1, fun _ _ => by omega⟩, hh⟩, e4, hb, hg'⟩ RdF.rf
theorem k_takeNumber {lo hi h : Nat} {P : Int32 → MI → Prop} (c : CT r I T L n h s) (hh0 : h = 0) (hT : Toks (r + 35) I T L n) (hL : L ≤ 600) (hlh : lo ≤ hi) (hhi : hi < 1000) (hP : ∀ I', CT r I' T L n 0 (aNum T L lo hi s).2 → RdF r I I' → P (nI (aNum T L lo hi s).1) I') : w_X4_takeNumber r (nI lo) (nI hi) I P := by
  subst hh0
  have hmax : ∀ v : Nat, v < 2147483648 → (if nI lo < nI v then nI v else nI lo) = nI (max lo v) := fun v hv => by
    by_cases q : lo < v
    · rw [if_pos (nI_lt q (by omega)), Nat.max_eq_right (by omega)]
    · rw [if_neg (fun c => q ((nI_ltI (by omega) (by omega)).mp c)), Nat.max_eq_left (by omega)]
  unfold w_X4_takeNumber
  rintro _ rfl
  have w1 := c.1.1.1
  have ws := c.1.1.2.2.2
  rw [c.2.1]
  by_cases q : s.2.1 = false ∧ tkd T L s.1 = 4
  · have ea : aTake T L 4 s = (tvN T L s.1, aAdv s) := by unfold aTake; exact if_pos q
    have tv : tvN T L s.1 < 1000 := by rcases alk T L s.1 with q | q | q | q | q | q | q | q <;> omega
    have eN : aNum T L lo hi s = (if lo ≤ tvN T L s.1 ∧ tvN T L s.1 ≤ hi then (tvN T L s.1, aAdv s) else (lo, aNote 2 (pos T L s.1) (aAdv s))) := by unfold aNum; exact if_pos q
    refine k_takes (kd := 4) c hT (by omega) (fun I1 c1 f1 => ?_)
    rw [ea] at c1 ⊢
    have pm := pos_mono (pos_s (T := T) (L := L) (k := s.1) (by omega))
    have note : ¬ (lo ≤ tvN T L s.1 ∧ tvN T L s.1 ≤ hi) → w_X4_note r 2 (nI s.1) I1 (fun I7 => P (nI lo) I7) := fun nr => by
      rw [if_neg nr] at eN
      rw [eN] at hP
      exact k_note (kind := 2) c1 (hT.rd f1) hL q.1 w1 ⟨by omega, by omega, by omega⟩ (h' := 0) (by omega) pm (fun z => Nat.le_of_lt (ws q.1 z)) (fun I2 c2 f2 => hP I2 c2 (f1.tr f2))
    refine k_isBroken c1 (fun b => ?_) (fun _ => ⟨fun c => absurd rfl c, fun _ => ⟨fun c => ?_, fun c => ⟨fun c2 => ?_, fun c2 => ?_⟩⟩⟩)
    · have : s.2.1 = true := b
      rw [q.1] at this; exact Bool.noConfusion this
    · have := (nI_ltI (by omega) (by omega)).mp c
      exact note (by omega)
    · have := (nI_ltI (by omega) (by omega)).mp c2
      exact note (by omega)
    · have a1 : ¬ tvN T L s.1 < lo := fun z => c (nI_lt z (by omega))
      have a2 : ¬ hi < tvN T L s.1 := fun z => c2 (nI_lt z (by omega))
      rw [if_pos ⟨by omega, by omega⟩] at eN
      rw [eN] at hP
      show P (if nI lo < nI (tvN T L s.1) then nI (tvN T L s.1) else nI lo) I1
      rw [hmax _ (by omega), Nat.max_eq_right (by omega)]
      exact hP I1 c1 f1
  · have ea : aTake T L 4 s = (0, aBrk s) := by unfold aTake; exact if_neg q
    have eN : aNum T L lo hi s = (lo, aBrk s) := by unfold aNum; exact if_neg q
    refine k_takes (kd := 4) c hT (by omega) (fun I1 c1 f1 => ?_)
    rw [ea] at c1 ⊢
    rw [eN] at hP
    refine k_isBroken c1 (fun _ => ⟨fun _ => ?_, fun c => absurd c (by decide)⟩) (fun b => Bool.noConfusion b)
    show P (if nI lo < nI 0 then nI 0 else nI lo) I1
    rw [hmax 0 (by omega), Nat.max_eq_left (by omega)]
    exact hP I1 c1 f1
theorem k_takeQueue {h : Nat} {P : Int32 → MI → Prop} (c : CT r I T L n h s) (hT : Toks (r + 35) I T L n) (hP : ∀ I', CT r I' T L n 0 (aQue T L s).2 → RdF r I I' → P (nI (aQue T L s).1) I') : w_X4_takeQueue r I P := by
  have hn := hT.2.1
  have w1 := c.1.1.1
  have brk : ¬ (s.2.1 = false ∧ tkd T L s.1 = 1 ∧ 14 ≤ tvN T L s.1) → w_X4_breakOff r I (fun I3 => P 0 I3) := fun q => by
    have e : aQue T L s = (0, aBrk s) := by unfold aQue; exact if_neg q
    rw [e] at hP
    exact k_breakOff c hT (fun I' c' f' => hP I' c' f')
  unfold w_X4_takeQueue
  refine k_isNext (kd := 1) c hT (by omega) (fun q => ⟨fun c => absurd c (by decide), fun _ => ?_⟩) (fun q => ⟨fun _ => brk (fun z => q ⟨z.1, z.2.1⟩), fun c => absurd rfl c⟩)
  have ev : I (r + 37) s.1 = nI (tvN T L s.1) := (hT.1 s.1 (by omega)).2.2.2 (Or.inl q.2)
  have tv : tvN T L s.1 < 20 := by have := q.2; rcases alk T L s.1 with q | q | q | q | q | q | q | q <;> omega
  rw [c.2.1, ixn (by omega), ev]
  refine ⟨inn (by omega) (by omega), fun c14 => ?_, fun c14 => brk (fun z => c14 (nI_le (a := 14) z.2.2 (by omega)))⟩
  have c14 := (nI_leI (a := 14) (by omega) (by omega)).mp c14
  have ea : aTake T L 1 s = (tvN T L s.1, aAdv s) := by unfold aTake; exact if_pos q
  have e : aQue T L s = (tvN T L s.1 - 14, aAdv s) := by unfold aQue; exact if_pos ⟨q.1, q.2, c14⟩
  rw [e] at hP
  refine k_takes (kd := 1) c hT (by omega) (fun I1 c1 f1 => ?_)
  rw [ea] at c1 ⊢
  show P (nI (tvN T L s.1) - 14) I1
  rw [show nI (tvN T L s.1) - 14 = nI (tvN T L s.1 - 14) from nI_sub (z := 14) c14]
  exact hP I1 c1 f1
theorem k_takeSign {sg h : Nat} {P : MI → Prop} (c : CT r I T L n h s) (hT : Toks (r + 35) I T L n) (hsg : sg < 128) (hP : ∀ I', CT r I' T L n 0 (aSgn T L sg s) → RdF r I I' → P I') : w_X4_takeSign r (nI sg) I P := by
  have hn := hT.2.1
  have w1 := c.1.1.1
  unfold w_X4_takeSign
  refine k_isNext (kd := 5) c hT (by omega) (fun q => ⟨fun c => absurd c (by decide), fun _ => ?_⟩) (fun q => ⟨fun _ => ?_, fun c => absurd rfl c⟩)
  · have ev : I (r + 37) s.1 = nI (tvN T L s.1) := (hT.1 s.1 (by omega)).2.2.2 (Or.inr (Or.inr (Or.inr q.2)))
    have tv : tvN T L s.1 < 128 := by have := q.2; rcases alk T L s.1 with q | q | q | q | q | q | q | q <;> omega
    rw [c.2.1, ixn (by omega), ev]
    refine ⟨inn (by omega) (by omega), fun ce => ?_, fun ce => ?_⟩
    · have ce : tvN T L s.1 = sg := nI_inj (by omega) (by omega) ce
      have ea : aTake T L 5 s = (tvN T L s.1, aAdv s) := by unfold aTake; exact if_pos q
      have e : aSgn T L sg s = aAdv s := by unfold aSgn; exact if_pos ⟨q.1, q.2, ce⟩
      rw [e] at hP
      refine k_takes (kd := 5) c hT (by omega) (fun I1 c1 f1 => ?_)
      rw [ea] at c1
      exact hP I1 c1 f1
    · have ce : tvN T L s.1 ≠ sg := fun z => ce (by rw [z])
      have e : aSgn T L sg s = aBrk s := by unfold aSgn; exact if_neg (fun z => ce z.2.2)
      rw [e] at hP
      refine k_breakOff c hT (fun I1 c1 f1 => k_takes (kd := 5) c1 (hT.rd f1) (by omega) (fun I2 c2 f2 => ?_))
      have ea : aTake T L 5 (aBrk s) = (0, aBrk (aBrk s)) := by unfold aTake; exact if_neg (fun z => Bool.noConfusion z.1)
      rw [ea] at c2
      exact hP I2 c2 (f1.tr f2)
  · have e : aSgn T L sg s = aBrk s := by unfold aSgn; exact if_neg (fun z => q ⟨z.1, z.2.1⟩)
    have ea : aTake T L 5 s = (0, aBrk s) := by unfold aTake; exact if_neg q
    rw [e] at hP
    refine k_takes (kd := 5) c hT (by omega) (fun I1 c1 f1 => ?_)
    rw [ea] at c1
    exact hP I1 c1 f1
/-- a sign that compares -/
def aRel (T : Nat → Nat) (L : Nat) (s : PS) : PS := if s.2.1 = false ∧ tkd T L s.1 = 5 ∧ 60 ≤ tvN T L s.1 then aAdv s else aBrk s
theorem chr_low : ∀ v, v < 128 → chr ((Int32.toUInt32 (nI v) % 65536).toInt32) ∧ (Int32.toUInt32 (nI v) % 65536).toInt32 = nI v := by
  have h : ∀ v, v < 128 → (Int32.toUInt32 (nI v) % 65536).toInt32 = nI v ∧ narrow .char (.int (nI v)) = .int (nI v) ∧ fits .char (.int (nI v)) = true := by decide +kernel
  intro v hv
  obtain ⟨h1, h2, h3⟩ := h v hv
  rw [h1]
  exact ⟨⟨h2, h3⟩, rfl⟩
theorem k_takeRelation {h : Nat} {P : Int32 → MI → Prop} (c : CT r I T L n h s) (hT : Toks (r + 35) I T L n) (hP : ∀ v I', CT r I' T L n 0 (aRel T L s) → RdF r I I' → chr v → ((aRel T L s).2.1 = false → v = nI (tvN T L s.1) ∧ 60 ≤ tvN T L s.1 ∧ tvN T L s.1 ≤ 62) → P v I') : w_X4_takeRelation r I P := by
  have hn := hT.2.1
  have w1 := c.1.1.1
  have brk : ¬ (s.2.1 = false ∧ tkd T L s.1 = 5 ∧ 60 ≤ tvN T L s.1) → ∀ v I', CT r I' T L n 0 (aBrk s) → RdF r I I' → chr v → P v I' := fun q v I' c' f' hc => by
    have e : aRel T L s = aBrk s := by unfold aRel; exact if_neg q
    rw [e] at hP
    exact hP v I' c' f' hc (fun z => Bool.noConfusion z)
  unfold w_X4_takeRelation
  refine k_isNext (kd := 5) c hT (by omega) (fun q => ⟨fun c => absurd c (by decide), fun _ => ?_⟩) (fun q => ⟨fun _ => ?_, fun c => absurd rfl c⟩)
  · have ev : I (r + 37) s.1 = nI (tvN T L s.1) := (hT.1 s.1 (by omega)).2.2.2 (Or.inr (Or.inr (Or.inr q.2)))
    have tv : 58 ≤ tvN T L s.1 ∧ tvN T L s.1 ≤ 62 := by have := q.2; rcases alk T L s.1 with q | q | q | q | q | q | q | q <;> omega
    rw [c.2.1, ixn (by omega), ev]
    refine ⟨inn (by omega) (by omega), fun ce => ?_, fun ce => ⟨inn (by omega) (by omega), fun ce2 => ?_, fun ce2 => ?_⟩⟩
    · have ce : tvN T L s.1 = 59 := nI_inj (b := 59) (by omega) (by omega) ce
      exact k_breakOff c hT (fun I1 c1 f1 => brk (fun z => by omega) _ I1 c1 f1 (chr_low 61 (by omega)).1)
    · have n59 : tvN T L s.1 ≠ 59 := fun z => ce (by rw [z]; rfl)
      have n58 : tvN T L s.1 ≠ 58 := fun z => ce2 (by rw [z]; rfl)
      have ea : aTake T L 5 s = (tvN T L s.1, aAdv s) := by unfold aTake; exact if_pos q
      have e : aRel T L s = aAdv s := by unfold aRel; exact if_pos ⟨q.1, q.2, by omega⟩
      refine k_takes (kd := 5) c hT (by omega) (fun I1 c1 f1 => ?_)
      rw [ea] at c1 ⊢
      obtain ⟨d1, d2⟩ := chr_low (tvN T L s.1) (by omega)
      refine ⟨d1, hP _ I1 (by rw [e]; exact c1) f1 d1 (fun _ => ⟨d2, by omega, by omega⟩)⟩
    · have ce2 : tvN T L s.1 = 58 := nI_inj (b := 58) (by omega) (by omega) ce2
      exact k_breakOff c hT (fun I1 c1 f1 => brk (fun z => by omega) _ I1 c1 f1 (chr_low 61 (by omega)).1)
  · have ea : aTake T L 5 s = (0, aBrk s) := by unfold aTake; exact if_neg q
    refine k_takes (kd := 5) c hT (by omega) (fun I1 c1 f1 => ?_)
    rw [ea] at c1 ⊢
    have d1 := (chr_low 0 (by omega)).1
    exact ⟨d1, brk (fun z => q ⟨z.1, z.2.1⟩) _ I1 c1 f1 d1⟩
end
