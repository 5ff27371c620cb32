/-! tries on a copy -/
section
variable {a : Nat} {I : MI} {V : Nat → Int32}
/-- the trial machine's own shape -/
def TrOK (a : Nat) (I : MI) : Prop := SgOK (a + 112) I ∧ (∀ s, s < 2 → I (a + 168 + 3 * s) 0 = nI s) ∧ bln (I (a + 111) 15)
theorem TrOK.of {V' : Nat → Int32} (h : Rel (a + 111) I V') : TrOK a I := by
  refine ⟨fun i hi => h.1.2.2.2.2 i hi, fun s hs => ?_, h.2.2.1.2.2.2.2.2.2.2.2.2.2.2.2.2.2.2.2.2.2⟩
  obtain ⟨g0, -⟩ := h.2.2.2.2 s hs
  rw [show a + 168 + 3 * s = a + 111 + 57 + 3 * s by omega]; exact g0
/-- the aims are those of the rows -/
def AmOK (V : Nat → Int32) : Prop := ∃ K A, K < 256 ∧ V 47 = nI K ∧ IsL V K A ∧ V 49 = nI A
/-- what holds of the class's state and the model's first block -/
def Inv (a : Nat) (I : MI) (V : Nat → Int32) : Prop := Rel (a + 3) I V ∧ RelT (a + 4) I V ∧ RelW (a + 3) I V ∧ Tame V ∧ AmOK V
def TFr (a : Nat) (I I' : MI) : Prop := ∀ c, (c < a + 111 ∨ a + 174 ≤ c) → I' c = I c
/-- the model's tries -/
theorem t_tries {o K : Nat} {J : MI} {P : MI → Prop} {p : Nat} (h : RelR p I V) (hK : K < 256) (e47 : V 47 = nI K) (hP : ∀ A, IsL V K A → P (kb (kb J (o + 1) 0 V) (o + 1) 516 (vStart V A))) : w_X10_tries o (kb J (o + 1) 0 V) P := by
  unfold w_X10_tries
  refine t_copies (x := 0) (y := 516) (V' := V) (by omega) (by omega) (by omega) (fun k hk => kb_at _ _ _ _ hk) ?_
  exact t_starts (b := 516) h (by omega) hK e47 hP
theorem q_tries0 {P : MI → Prop} (h : Inv a I V) (hT : TrOK a I) (hP : ∀ I' V', (∀ (o : Nat) (J : MI) (S : MI → Prop), S (kb (kb J (o + 1) 0 V) (o + 1) 516 V') → w_X10_tries o (kb J (o + 1) 0 V) S) → Rel (a + 111) I' V' → RelW (a + 111) I' V' → Tame V' → VFr V V' → TFr a I I' → V' 170 = 0 → P I') : w_X9_tryFromBeginning a I P := by
  obtain ⟨hR, hRT, hW, hTm, K, A, hK, e47, hL, e49⟩ := h
  obtain ⟨hsz, e48⟩ := size_lt hR.1
  obtain ⟨t1, t2, t3⟩ := hT
  unfold w_X9_tryFromBeginning
  refine k_copyProg (by omega) hsz (hR.1.1.trans e48) (fun i hi => hR.1.2.2.2.2 i hi) (fun I1 c1 => ?_)
  have f1 : ∀ c, (c < a + 112 ∨ a + 145 < c) → I1 c = I c := fun c hc => c1.1 c (by omega)
  refine k_begin (fun I2 gQ gS gM gF => ?_)
  have hRR : RelR (a + 112) I1 V := hR.1.cp c1.2 t1
  obtain ⟨r1, r2, r3, r4⟩ := Rel.start (m := a + 111) (A := A) hRR (hR.2.1.cp hR.1 c1.2) (hRT.cp c1.2).u e49 (fun s hs => by rw [f1 _ (by omega), show a + 111 + 57 + 3 * s = a + 168 + 3 * s by omega]; exact t2 s hs) (by rw [f1 _ (by omega)]; exact t3) gQ gS gM gF
  refine hP I2 (vStart V A) (fun o J S hS => t_tries hR.1 hK e47 (fun A' hA' => ?_)) r1 r2 r3 r4 (fun c hc => ?_) (by unfold vStart; rw [upd_n _ _ (by omega), upd_n _ _ (by omega)]; unfold vLay; rw [if_neg (by omega), if_pos (by omega)])
  · rw [hA'.uq hL]; exact hS
  · rw [gF c (by omega), f1 c (by omega)]
theorem q_tries {P : MI → Prop} (h : Inv a I V) (hT : TrOK a I) (hP : ∀ I' V', (∀ (o : Nat) (J : MI) (S : MI → Prop), S (kb (kb J (o + 1) 0 V) (o + 1) 516 V') → w_X10_tries o (kb J (o + 1) 0 V) S) → Rel (a + 111) I' V' → RelW (a + 111) I' V' → Tame V' → VFr V V' → TFr a I I' → P I') : w_X9_tryFromBeginning a I P := q_tries0 h hT (fun I' V' m1 r1 r2 r3 r4 f1 _ => hP I' V' m1 r1 r2 r3 r4 f1)
def TimeOK (v : Int32) : Prop := v = -1 ∨ bd v 1000
theorem Rel.time {m : Nat} (h : Rel m I V) : TimeOK (vTime V) := by
  unfold vTime
  split
  · exact Or.inr h.2.2.1.2.2.2.1
  · exact Or.inl rfl
/-- going on to the end, and the time -/
theorem q_ending {I1 : MI} {V1 : Nat → Int32} {P : Int32 → MI → Prop} (h : Rel (a + 111) I1 V1) (hW : RelW (a + 111) I1 V1) (hT : Tame V1) (hP : ∀ I' V', (∀ (o : Nat) (J : MI) (S : Int32 → MI → Prop), S (vTime V') (kb J (o + 1) 516 V') → w_X10_ending o (kb J (o + 1) 516 V1) S) → TrOK a I' → TFr a I1 I' → TimeOK (vTime V') → P (vTime V') I') : w_X1_goOn (a + 111) 999 I1 (fun _ I4 => w_X1_timeIfDone (a + 111) I4 (fun r5 => P r5 I4)) := by
  obtain ⟨r, I', V', g1, g2, g3, g4, g5, g6, g7, g8⟩ := p_goes (m := a + 111) 999 h hT hW
  refine g2 _ (k_timeIfDone g3 (hP I' V' (fun o J S hS => ?_) (TrOK.of g3) (fun c hc => g6 c (by omega)) g3.time))
  unfold w_X10_ending
  refine g1 o 516 J _ (by omega) ?_
  have e1 : kb J (o + 1) 516 V' (o + 1) (ix (687)) = V' 171 := kg (b := 516) (k := 171) (by omega) (by omega)
  have e2 : kb J (o + 1) 516 V' (o + 1) (ix (686)) = V' 170 := kg (b := 516) (k := 170) (by omega) (by omega)
  rw [e1, e2]
  unfold vTime at hS
  refine ⟨fun c => ?_, fun c => ?_⟩
  · rw [if_neg c] at hS; exact hS
  · rw [if_pos c] at hS; exact hS
theorem TFr.tr {I' I'' : MI} (h : TFr a I I') (h' : TFr a I' I'') : TFr a I I'' := fun c hc => (h' c hc).trans (h c hc)
theorem q_time {P : Int32 → MI → Prop} (h : Inv a I V) (hT : TrOK a I) (hP : ∀ v I', (∀ (o : Nat) (J : MI) (S : Int32 → MI → Prop), (∀ V', S v (kb (kb J (o + 1) 0 V) (o + 1) 516 V')) → w_X10_time o (kb J (o + 1) 0 V) S) → TrOK a I' → TFr a I I' → TimeOK v → P v I') : w_X9_time a I P := by
  unfold w_X9_time
  refine q_tries h hT (fun I1 V1 m1 r1 r2 r3 r4 f1 => q_ending r1 r2 r3 (fun I2 V2 m2 t2 f2 b2 => hP _ I2 (fun o J S hS => ?_) t2 (f1.tr f2) b2))
  unfold w_X10_time
  exact m1 o J _ (m2 o _ _ (hS V2))
end
