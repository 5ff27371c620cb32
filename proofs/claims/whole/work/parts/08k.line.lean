/-! lines: the draft beside the model's -/
section
variable {T : Nat → Nat} {L n : Nat} {s : PS}
/-- what was wrong stays so -/
def Kp (s s' : PS) : Prop := s.2.2.1 ≠ 0 → s'.2.2 = s.2.2
theorem Kp.rf : Kp s s := fun _ => rfl
theorem Kp.tr {s' s'' : PS} (h : Kp s s') (h' : Kp s' s'') : Kp s s'' := fun z => by
  have e := h z
  have := h' (by rw [e]; exact z)
  rw [this, e]
theorem aTake_kp {kd : Nat} : Kp s (aTake T L kd s).2 := fun _ => by unfold aTake; split <;> rfl
theorem aNum_kp {lo hi : Nat} : Kp s (aNum T L lo hi s).2 := fun z => by
  unfold aNum
  split
  · split
    · rfl
    · unfold aNote
      rw [if_neg (show ¬ (aAdv s).2.2.1 = 0 from z)]
      rfl
  · rfl
theorem aRel_kp : Kp s (aRel T L s) := fun _ => by unfold aRel; split <;> rfl
theorem aNam_kp : Kp s (aNam T L s) := fun _ => by unfold aNam; split <;> rfl
theorem aSgn_kp {c : Nat} : Kp s (aSgn T L c s) := fun _ => by unfold aSgn; split <;> rfl
theorem aQue_kp : Kp s (aQue T L s).2 := fun _ => by unfold aQue; split <;> rfl
theorem aNote_kp {a b : Nat} : Kp s (aNote a b s) := fun z => by unfold aNote; rw [if_neg z]
theorem aOp_kp {R : Nat} : Kp s (aOp T L R s) := by
  unfold aOp
  split
  · exact Kp.rf
  · exact aNote_kp
/-- forward -/
theorem pos_up {k k' : Nat} (h : k ≤ k') : pos T L k ≤ pos T L k' := by
  induction k' with
  | zero => rw [show k = 0 by omega]; exact Nat.le_refl _
  | succ k' ih =>
    by_cases e : k = k' + 1
    · rw [e]; exact Nat.le_refl _
    · refine Nat.le_trans (ih (by omega)) ?_
      rcases Nat.lt_or_ge (pos T L k') L with q | q
      · exact Nat.le_of_lt (pos_mono q)
      · have h1 := pos_le (T := T) (L := L) k'
        have h2 : te T L k' = L := by unfold te tkE; rw [if_pos q]
        have h3 : te T L k' ≤ pos T L (k' + 1) := pos_te
        omega
theorem aTake_up {kd : Nat} : s.1 ≤ (aTake T L kd s).2.1 := by unfold aTake; split; exact Nat.le_succ _; exact Nat.le_refl _
theorem aNum_up {lo hi : Nat} : s.1 ≤ (aNum T L lo hi s).2.1 := by
  unfold aNum
  split
  · split
    · exact Nat.le_succ _
    · unfold aNote; split <;> exact Nat.le_succ _
  · exact Nat.le_refl _
theorem aRel_up : s.1 ≤ (aRel T L s).1 := by unfold aRel; split; exact Nat.le_succ _; exact Nat.le_refl _
theorem aNam_up : s.1 ≤ (aNam T L s).1 := by unfold aNam; split; exact Nat.le_succ _; exact Nat.le_refl _
theorem aSgn_up {c : Nat} : s.1 ≤ (aSgn T L c s).1 := by unfold aSgn; split; exact Nat.le_succ _; exact Nat.le_refl _
theorem aQue_up : s.1 ≤ (aQue T L s).2.1 := by unfold aQue; split; exact Nat.le_succ _; exact Nat.le_refl _
theorem aTake_on {kd : Nat} (h6 : kd ≠ 6) (h : (aTake T L kd s).2.2.1 = false) : (aTake T L kd s).2.1 = s.1 + 1 ∧ pos T L s.1 < pos T L (s.1 + 1) := by
  unfold aTake at h ⊢
  split at h
  · rename_i q
    rw [if_pos q]
    exact ⟨rfl, pos_mono (pos_s (by rw [q.2]; exact h6))⟩
  · exact Bool.noConfusion h
theorem aSgn_on {c : Nat} (h : (aSgn T L c s).2.1 = false) : (aSgn T L c s).1 = s.1 + 1 ∧ pos T L s.1 < pos T L (s.1 + 1) := by
  unfold aSgn at h ⊢
  split at h
  · rename_i q
    rw [if_pos q]
    exact ⟨rfl, pos_mono (pos_s (by omega))⟩
  · exact Bool.noConfusion h
theorem aOp_1 {R : Nat} : (aOp T L R s).1 = s.1 + 1 ∧ (aOp T L R s).2.1 = s.2.1 := by
  unfold aOp
  split
  · exact ⟨rfl, rfl⟩
  · unfold aNote; split <;> exact ⟨rfl, rfl⟩
theorem word_len (h : tkd T L s.1 = 1) : pos T L s.1 + (WL (tvN T L s.1)).length ≤ pos T L (s.1 + 1) := by
  have al := alk T L s.1
  have hl : te T L s.1 - pos T L s.1 = (WL (tvN T L s.1)).length := by
    unfold Alk at al
    rcases al with a | a | a | a | a | a | a | a
    · omega
    · omega
    · omega
    · omega
    · omega
    · omega
    · exact a.2.2.2.2
    · omega
  have g := te_gt (pos_s (T := T) (L := L) (k := s.1) (by omega))
  have : te T L s.1 ≤ pos T L (s.1 + 1) := pos_te
  omega
theorem op_len : ∀ op, op < 9 → (op ≠ 7 → 3 ≤ (WL (5 + op)).length) ∧ 2 ≤ (WL (5 + op)).length := by decide +kernel
end
section
variable {r n L R : Nat} {T : Nat → Nat} {I : MI} {s : PS} {V : Nat → Int32} {nm am : Nat → Nat}
/-- a row of the draft; where it goes to isn't known yet -/
def RowD (p i : Nat) (I : MI) (V : Nat → Int32) (am : Nat → Nat) : Prop :=
  I (p + 9 + i) 0 = V (50 + 5 * i) ∧ bd (V (50 + 5 * i)) 9 ∧ bd (V (51 + 5 * i)) 8 ∧ bd (V (52 + 5 * i)) 8 ∧ (¬ V (50 + 5 * i) = 7 → bd (V (53 + 5 * i)) 8) ∧
  (V (50 + 5 * i) = 0 → I (p + 9 + i) 1 = V (51 + 5 * i) ∧ I (p + 9 + i) 4 = V (54 + 5 * i) ∧ bd (V (54 + 5 * i)) 1000) ∧
  ((V (50 + 5 * i) = 1 ∨ V (50 + 5 * i) = 2 ∨ V (50 + 5 * i) = 3) → I (p + 9 + i) 1 = V (51 + 5 * i) ∧ I (p + 9 + i) 2 = V (52 + 5 * i) ∧ I (p + 9 + i) 3 = V (53 + 5 * i)) ∧
  ((V (50 + 5 * i) = 4 ∨ V (50 + 5 * i) = 5) → I (p + 9 + i) 1 = V (51 + 5 * i) ∧ I (p + 9 + i) 2 = V (52 + 5 * i) ∧ I (p + 9 + i) 4 = V (54 + 5 * i) ∧ bd (V (54 + 5 * i)) 32) ∧
  (V (50 + 5 * i) = 7 → I (p + 9 + i) 2 = V (51 + 5 * i) ∧ I (p + 9 + i) 3 = V (52 + 5 * i) ∧ I (p + 9 + i) 5 = V (53 + 5 * i) ∧ (V (53 + 5 * i) = 60 ∨ V (53 + 5 * i) = 61 ∨ V (53 + 5 * i) = 62)) ∧
  (am i ≠ 0 ↔ (V (50 + 5 * i) = 6 ∨ V (50 + 5 * i) = 7))
theorem RowD.fr {p i : Nat} {I' : MI} {V' : Nat → Int32} {am' : Nat → Nat} (h : RowD p i I V am) (hI : I' (p + 9 + i) = I (p + 9 + i)) (hV : ∀ j, 50 + 5 * i ≤ j → j ≤ 54 + 5 * i → V' j = V j) (ha : am' i = am i) : RowD p i I' V' am' := by
  unfold RowD at h ⊢
  rw [hI, ha, hV (50 + 5 * i) (by omega) (by omega), hV (51 + 5 * i) (by omega) (by omega), hV (52 + 5 * i) (by omega) (by omega), hV (53 + 5 * i) (by omega) (by omega), hV (54 + 5 * i) (by omega) (by omega)]
  exact h
/-- the class's draft as far as it is read -/
def LCm (r : Nat) (I : MI) (T : Nat → Nat) (L n : Nat) (s : PS) (R : Nat) (V : Nat → Int32) (nm am : Nat → Nat) : Prop :=
  CT r I T L n 0 s ∧ Toks (r + 35) I T L n ∧ SgOK (r + 1) I ∧ (s.2.1 = false → I r 5 = nI R ∧ RelT (r + 1) I V ∧ (∀ i, i < cap R → RowD (r + 1) i I V am) ∧ NmC (r + 41) I T L n nm ∧ NmC (r + 42) I T L n am)
/-- what holds of what is read -/
def PIm (T : Nat → Nat) (L : Nat) (s : PS) (R : Nat) (V : Nat → Int32) (am : Nat → Nat) : Prop :=
  V 48 = nI (cap R) ∧ (∀ i, 24 ≤ i → i < R → s.2.2.1 ≠ 0 ∧ (am i ≠ 0 → s.2.2.2 < pos T L (am i - 1))) ∧ ∀ i, R ≤ i → am i = 0
/-- but for the reader's cells nothing is changed -/
def RrF (r : Nat) (I I' : MI) : Prop := ∀ c, (c < r ∨ r + 42 < c) → I' c = I c
/-- the model's jumps -/
def AmM (o : Nat) (I : MI) (J : MJ) (T : Nat → Nat) (L W R : Nat) (am : Nat → Nat) : Prop :=
  I o 24 = nI W ∧ W ≤ 24 ∧ W ≤ R ∧ (∀ w, w < W → ∃ i, i < R ∧ am i ≠ 0 ∧ J (o + 6) w = lN (twk T L (am i - 1)) ∧ I (o + 8) w = nI (cap i) ∧ I (o + 9) w = nI (pos T L (am i - 1))) ∧
  ∀ i, i < R → i < 24 → am i ≠ 0 → ∃ w, w < W ∧ J (o + 6) w = lN (twk T L (am i - 1)) ∧ I (o + 8) w = nI i ∧ I (o + 9) w = nI (pos T L (am i - 1))
/-- the model's draft as far as it is read -/
def LMm (o : Nat) (I : MI) (J : MJ) (T : Nat → Nat) (L n : Nat) (s : PS) (R : Nat) (V : Nat → Int32) (nm : Nat → Nat) (Rn : Nat) (am : Nat → Nat) (X : Nat) : Prop :=
  MB o I J T L n s V ∧ (s.2.1 = false → V 48 = nI (cap R) ∧ ∃ M W, NmM o I J T L M Rn nm ∧ 7 * M ≤ X ∧ AmM o I J T L W R am)
def MdF (o : Nat) (I I' : MI) : Prop := (∀ c, c ≠ o → c ≠ o + 1 → c ≠ o + 7 → c ≠ o + 8 → c ≠ o + 9 → I' c = I c) ∧ (∀ j, (j < 1032 ∨ 1548 ≤ j) → I' (o + 1) j = I (o + 1) j) ∧ I' o 3 = I o 3
theorem MdF.rf {o : Nat} : MdF o I I := ⟨fun _ _ _ _ _ _ => rfl, fun _ _ => rfl, rfl⟩
theorem MdF.tr {o : Nat} {I' I'' : MI} (h : MdF o I I') (h' : MdF o I' I'') : MdF o I I'' := ⟨fun c a b d e f => (h'.1 c a b d e f).trans (h.1 c a b d e f), fun j a => (h'.2.1 j a).trans (h.2.1 j a), h'.2.2.trans h.2.2⟩
theorem MdF.ms {o : Nat} {I' : MI} (h : MsF o I I') : MdF o I I' := ⟨fun c a b _ _ _ => h.1 c a b, h.2.1, h.2.2 3 (by omega) (by omega) (by omega)⟩
theorem MdF.mj {o : Nat} {I' : MI} {J J' : MJ} (h : MjF o I I' J J') : MdF o I I' := ⟨fun c a b _ d e => h.1 c a b d e, h.2.1, h.2.2.1 3 (by omega) (by omega) (by omega) (by omega)⟩
/-- names and jumps don't feel what only changes the draft -/
theorem NmM.fr {o M Rn : Nat} {I' : MI} {J J' : MJ} (h : NmM o I J T L M Rn nm) (e23 : I' o 23 = I o 23) (e7 : I' (o + 7) = I (o + 7)) (eJ : ∀ j, J' (o + 5) j = J (o + 5) j) : NmM o I' J' T L M Rn nm := by
  obtain ⟨h1, h2, h3⟩ := h
  refine ⟨by rw [e23]; exact h1, fun m hm => ?_, fun i hi hn => ?_⟩
  · obtain ⟨v, i, a1, a2, a3, a4⟩ := h2 m hm
    exact ⟨v, i, by rw [eJ]; exact a1, a2, a3, by rw [e7]; exact a4⟩
  · obtain ⟨m, a1, a2⟩ := h3 i hi hn
    exact ⟨m, a1, by rw [eJ]; exact a2⟩
theorem AmM.fr {o W : Nat} {I' : MI} {J J' : MJ} {R' : Nat} {am' : Nat → Nat} (h : AmM o I J T L W R am) (hR : R ≤ R') (ha : ∀ i, i < R → am' i = am i) (hz : ∀ i, R ≤ i → i < R' → am' i = 0) (e24 : I' o 24 = I o 24) (e8 : I' (o + 8) = I (o + 8)) (e9 : I' (o + 9) = I (o + 9)) (eJ : ∀ j, J' (o + 6) j = J (o + 6) j) : AmM o I' J' T L W R' am' := by
  obtain ⟨h1, h2, h3, h4, h5⟩ := h
  refine ⟨by rw [e24]; exact h1, h2, by omega, fun w hw => ?_, fun i hi h24 hn => ?_⟩
  · obtain ⟨i, a1, a2, a3, a4, a5⟩ := h4 w hw
    exact ⟨i, by omega, by rw [ha i a1]; exact a2, by rw [eJ, ha i a1]; exact a3, by rw [e8]; exact a4, by rw [e9, ha i a1]; exact a5⟩
  · have hiR : i < R := by
      rcases Nat.lt_or_ge i R with q | q
      · exact q
      · exact absurd (hz i q hi) hn
    rw [ha i hiR] at hn ⊢
    obtain ⟨w, a1, a2, a3, a4⟩ := h5 i hiR h24 hn
    exact ⟨w, a1, by rw [eJ]; exact a2, by rw [e8]; exact a3, by rw [e9]; exact a4⟩
/-- a jump more -/
theorem AmM.add {o W k : Nat} {I' : MI} {J J' : MJ} {am' : Nat → Nat} (h : AmM o I J T L W R am) (ha : ∀ i, i ≠ R → am' i = am i) (hR : am' R = k + 1) (f : JmF o T L I I' J J' W (cap R) k) : ∃ W', AmM o I' J' T L W' (R + 1) am' := by
  obtain ⟨h1, h2, h3, h4, h5⟩ := h
  obtain ⟨f1, f2, f3, f4, f5⟩ := f
  have old : ∀ w, w < W → ∃ i, i < R + 1 ∧ am' i ≠ 0 ∧ J' (o + 6) w = lN (twk T L (am' i - 1)) ∧ I' (o + 8) w = nI (cap i) ∧ I' (o + 9) w = nI (pos T L (am' i - 1)) := fun w hw => by
    obtain ⟨i, a1, a2, a3, a4, a5⟩ := h4 w hw
    obtain ⟨b1, b2, b3⟩ := f5 w (by omega)
    exact ⟨i, by omega, by rw [ha i (by omega)]; exact a2, by rw [b1, ha i (by omega)]; exact a3, by rw [b2]; exact a4, by rw [b3, ha i (by omega)]; exact a5⟩
  have old2 : ∀ i, i < R → i < 24 → am' i ≠ 0 → ∃ w, w < W ∧ J' (o + 6) w = lN (twk T L (am' i - 1)) ∧ I' (o + 8) w = nI i ∧ I' (o + 9) w = nI (pos T L (am' i - 1)) := fun i hi h24 hn => by
    rw [ha i (by omega)] at hn ⊢
    obtain ⟨w, a1, a2, a3, a4⟩ := h5 i hi h24 hn
    obtain ⟨b1, b2, b3⟩ := f5 w (by omega)
    exact ⟨w, a1, by rw [b1]; exact a2, by rw [b2]; exact a3, by rw [b3]; exact a4⟩
  by_cases q : W < 24
  · rw [if_pos q] at f1
    have new : J' (o + 6) W = lN (twk T L (am' R - 1)) ∧ I' (o + 8) W = nI (cap R) ∧ I' (o + 9) W = nI (pos T L (am' R - 1)) := by rw [hR, show k + 1 - 1 = k by omega]; exact ⟨f2, f3, f4⟩
    refine ⟨W + 1, f1, by omega, by omega, fun w hw => ?_, fun i hi h24 hn => ?_⟩
    · by_cases e : w = W
      · subst e; exact ⟨R, by omega, by rw [hR]; omega, new.1, new.2.1, new.2.2⟩
      · exact old w (by omega)
    · by_cases e : i = R
      · subst e
        exact ⟨W, by omega, new.1, by rw [new.2.1]; unfold cap; rw [if_pos h24], new.2.2⟩
      · obtain ⟨w, a1, a2⟩ := old2 i (by omega) h24 hn
        exact ⟨w, by omega, a2⟩
  · rw [if_neg q] at f1
    refine ⟨W, f1, h2, by omega, old, fun i hi h24 hn => ?_⟩
    exact old2 i (by omega) h24 hn
end
