/-! answers that only read -/
def vCnt (V : Nat → Int32) (len x : Int32) : Int32 := if x = 0 then V 170 else if x = 1 then V 171 else if x = 2 then V 48 else if x = 3 then V 49 else if x = 4 then V 0 else if x = 5 then V 225 - V 239 else if x = 6 then V 218 else if x = 7 then V 219 else if x = 8 then V 220 else if x = 9 then V 233 + V 234 + V 235 else if x = 10 then len else if x = 11 then V 221 else -1
section
variable {m o b : Nat} {I J : MI} {V : Nat → Int32} {Q : Int32 → Prop}
theorem t_counts {x : Int32} (hb : b ≤ 1032) (h : Q (vCnt V (J o 3) x)) : w_X10_counts o (nI b) x (kb J (o + 1) b V) Q := by
  have v : ∀ k, k < 516 → vp_in (nI b + nI k) 4905 ∧ kb J (o + 1) b V (o + 1) (ix (nI b + nI k)) = V k := fun k hk => ⟨(t_val (o := o) (J := J) (V := V) hb hk).1, (t_val (o := o) (J := J) (V := V) hb hk).2.1⟩
  have r : ∀ k, k < 516 → Q (V k) → vp_in (nI b + nI k) 4905 ∧ Q (kb J (o + 1) b V (o + 1) (ix (nI b + nI k))) := fun k hk hq => ⟨(v k hk).1, by rw [(v k hk).2]; exact hq⟩
  unfold w_X10_counts
  refine ⟨fun c => ?_, fun c => ?_, fun c => ?_, fun c => ?_, fun c => ?_, fun c => ?_, fun c => ?_, fun c => ?_, fun c => ?_, fun c => ?_, fun c => ?_, fun c => ?_, fun n0 n1 n2 n3 n4 n5 n6 n7 n8 n9 n10 n11 => ?_⟩
  · rw [c] at h; exact r 170 (by omega) h
  · rw [c] at h; exact r 171 (by omega) h
  · rw [c] at h; exact r 48 (by omega) h
  · rw [c] at h; exact r 49 (by omega) h
  · rw [c] at h; exact r 0 (by omega) h
  · rw [c] at h; exact t_slip hb h
  · rw [c] at h; exact r 218 (by omega) h
  · rw [c] at h; exact r 219 (by omega) h
  · rw [c] at h; exact r 220 (by omega) h
  · rw [c] at h
    refine t_sideAt (s := 0) ?_
    rw [show nI (b + 222 + 14 * 0) + 6 + 5 = nI (b + 233) from (congrArg (· + 5) (nI_add _ 6)).trans (nI_add _ 5), kg hb (by omega)]
    refine ⟨kin hb (by omega), t_sideAt (s := 0) ?_⟩
    rw [show nI (b + 222 + 14 * 0) + 6 + 6 = nI (b + 234) from (congrArg (· + 6) (nI_add _ 6)).trans (nI_add _ 6), kg hb (by omega)]
    refine ⟨kin hb (by omega), t_sideAt (s := 0) ?_⟩
    rw [show nI (b + 222 + 14 * 0) + 6 + 7 = nI (b + 235) from (congrArg (· + 7) (nI_add _ 6)).trans (nI_add _ 7), kg hb (by omega)]
    exact ⟨kin hb (by omega), h⟩
  · rw [c] at h; rw [kb_ne _ _ (show o ≠ o + 1 by omega)]; exact h
  · rw [c] at h; exact r 221 (by omega) h
  · unfold vCnt at h
    rw [if_neg n0, if_neg n1, if_neg n2, if_neg n3, if_neg n4, if_neg n5, if_neg n6, if_neg n7, if_neg n8, if_neg n9, if_neg n10, if_neg n11] at h
    exact h
theorem k_figure {x len : Int32} (h : Rel m I V) (hx : ¬ x = 10) (hQ : Q (vCnt V len x)) : w_X1_figure m x I Q := by
  obtain ⟨a1, a2, a3, a4, a5, a6, a7, a8, a9, a10, a11, a12, a13, a14, a15, a16, a17, a18, a19⟩ := h.2.2.1
  obtain ⟨-, -, -, -, -, g4, -⟩ := h.2.2.2.2 0 (by omega)
  obtain ⟨-, -, -, -, -, k4, -⟩ := h.2.2.2.2 1 (by omega)
  have g4 : I (m + 57) 3 = V 225 := g4
  have k4 : I (m + 60) 3 = V 239 := k4
  unfold w_X1_figure w_X1_slip
  rw [a3, a5, a8, a10, a11, a12, a13, a14, h.1.1, h.2.1.1, g4, k4]
  refine ⟨fun c => ?_, fun c => ?_, fun c => ?_, fun c => ?_, fun c => ?_, fun c => ?_, fun c => ?_, fun c => ?_, fun c => ?_, fun c => ?_, fun c => ?_, fun n0 n1 n2 n3 n4 n5 n6 n7 n8 n9 n11 => ?_⟩
  · rw [c] at hQ; exact hQ
  · rw [c] at hQ; exact hQ
  · rw [c] at hQ; exact hQ
  · rw [c] at hQ; exact hQ
  · rw [c] at hQ; exact hQ
  · rw [c] at hQ; exact hQ
  · rw [c] at hQ; exact hQ
  · rw [c] at hQ; exact hQ
  · rw [c] at hQ; exact hQ
  · rw [c] at hQ; exact hQ
  · rw [c] at hQ; exact hQ
  · unfold vCnt at hQ
    rw [if_neg n0, if_neg n1, if_neg n2, if_neg n3, if_neg n4, if_neg n5, if_neg n6, if_neg n7, if_neg n8, if_neg n9, if_neg hx, if_neg n11] at hQ
    exact hQ
theorem k_figureOf {a x : Int32} {p : Nat} (h : Rel m I V) (hQ : Q (vCnt V (I (p + 1) 1) x)) : w_X9_figureOf p m x I Q := by
  unfold w_X9_figureOf
  refine ⟨fun c => k_figure h c hQ, fun c => ?_⟩
  rw [c] at hQ
  exact hQ
def vTime (V : Nat → Int32) : Int32 := if V 171 = 1 then V 170 else -1
theorem k_timeIfDone (h : Rel m I V) (hQ : Q (vTime V)) : w_X1_timeIfDone m I Q := by
  obtain ⟨a1, a2, a3, a4, a5, -⟩ := h.2.2.1
  unfold w_X1_timeIfDone
  rw [a3, a5]
  unfold vTime at hQ
  refine ⟨fun c => ?_, fun c => ?_⟩
  · rw [if_neg c] at hQ; exact hQ
  · rw [if_pos c] at hQ; exact hQ
end
