/-! what the runner does -/
def swR (a0 : Nat) (x1 x3 x r7 : Int32) (I : MI) (Q : MI → Prop) : Prop := (w_X10_of a0 x1 x3 (1) I (fun r11 => (∀ x7_12, x7_12 = x3 + (1) → ((x = (1) → (w_X10_reg a0 x1 (r7 / (16)) I (fun r13 => (w_X10_pushes a0 x1 (3) r13 (0) (0) I (fun I14 => w_X10_runs_p422 a0 x1 x7_12 I14 Q))))) ∧ (x = (2) → (w_X10_reckoned a0 x1 x3 I (fun r16 => (vp_in ((x1 + (210)) + r11) 4905 ∧ (∀ I18, I18 = ui I (a0 + 1) (ix ((x1 + (210)) + r11)) r16 → w_X10_runs_p422 a0 x1 x7_12 I18 Q))))) ∧ (x = (3) → (vp_in (x1 + (251)) 4905 ∧ (vp_in ((x1 + (210)) + r11) 4905 ∧ (∀ I21, I21 = ui I (a0 + 1) (ix ((x1 + (210)) + r11)) (I (a0 + 1) (ix (x1 + (251)))) → (vp_in (x1 + (250)) 4905 ∧ (∀ I23, I23 = ui I21 (a0 + 1) (ix (x1 + (250))) (-1) → w_X10_runs_p422 a0 x1 x7_12 I23 Q)))))) ∧ (x = (4) → (w_X10_cellOf a0 x1 x3 I (fun r24 => (vp_in ((x1 + (178)) + r24) 4905 ∧ (vp_in (x1 + (170)) 4905 ∧ (w_X10_pushes a0 x1 (0) (I (a0 + 1) (ix ((x1 + (178)) + r24))) (I (a0 + 1) (ix (x1 + (170)))) (0) I (fun I27 => w_X10_runs_p422 a0 x1 x7_12 I27 Q))))))) ∧ (x = (6) → (w_X10_cellOf a0 x1 x3 I (fun r28 => (w_X10_reg a0 x1 r11 I (fun r29 => (w_X10_pushes a0 x1 (1) r28 (1) r29 I (fun I30 => w_X10_runs_p422 a0 x1 x7_12 I30 Q))))))) ∧ (x = (7) → (w_X10_cellOf a0 x1 x3 I (fun r31 => (w_X10_pushes a0 x1 (1) r31 (0) (0) I (fun I32 => w_X10_runs_p422 a0 x1 x7_12 I32 Q))))) ∧ (x = (9) → (w_X10_of a0 x1 x3 (4) I (fun r33 => w_X10_runs_p422 a0 x1 r33 I Q))) ∧ (x = (10) → (w_X10_of a0 x1 x3 (3) I (fun r34 => (w_X10_reg a0 x1 r11 I (fun r35 => (w_X10_of a0 x1 x3 (2) I (fun r36 => (w_X10_reg a0 x1 r36 I (fun r37 => (w_X10_holds r34 r35 r37 (fun r38 => ((r38 = 0 → w_X10_runs_p361 a0 x1 x3 x7_12 r38 (0) (4) x1 a0 I Q) ∧ (¬ r38 = 0 → w_X10_runs_p361 a0 x1 x3 x7_12 r38 (1) (4) x1 a0 I Q))))))))))))) ∧ (x = (12) → (w_X10_takes a0 x1 (5) I (fun r43 I44 => ((¬ r43 = (1) → w_X10_runs_p422 a0 x1 x7_12 I44 Q) ∧ (r43 = (1) → (w_X10_of a0 x1 x3 (4) I44 (fun r46 => w_X10_runs_p422 a0 x1 r46 I44 Q))))))) ∧ (¬ x = (1) → ¬ x = (2) → ¬ x = (3) → ¬ x = (4) → ¬ x = (6) → ¬ x = (7) → ¬ x = (9) → ¬ x = (10) → ¬ x = (12) → (w_X10_ends a0 x1 (0) I (fun I47 => Q I47)))))))
section
variable {m : Nat} {I : MI} {V : Nat → Int32}
theorem rem1000 {a : Nat} (ha : a < 2147483648) : irm (nI a) 1000 = nI (a % 1000) := rem_nI (d := 1000) ha (by omega) (by omega)
theorem irm_small {x : Int32} (h1 : -1000 < x.toInt) (h2 : x.toInt < 1000) : irm x 1000 = x := by
  unfold irm
  have h0 : x / 1000 = 0 := by
    refine Int32.toInt.inj ?_
    rw [Int32.toInt_div]
    have e : (1000 : Int32).toInt = 1000 := by decide
    have z : x.toInt.tdiv 1000 = 0 := by
      rcases Int.le_total 0 x.toInt with q | q
      · exact Int.tdiv_eq_zero_of_lt q h2
      · have : x.toInt = -(-x.toInt) := by omega
        rw [this, Int.neg_tdiv, Int.tdiv_eq_zero_of_lt (by omega) (by omega)]
        rfl
    rw [e, z]
    decide
  rw [h0]
  simp
theorem reck_eq {op : Int32} {a b : Nat} (ho : op = 1 ∨ op = 2 ∨ op = 3) (ha : a < 1000) (hb : b < 1000) {Q : Int32 → Prop} (h : bd (vReck op (nI a) (nI b)) 1000 → Q (vReck op (nI a) (nI b))) : w_X9_reckon op (nI a) (nI b) Q := by
  have w : ∀ n : Nat, n < 2147483648 → vWrap (nI n) = nI (n % 1000) := fun n hn => by
    unfold vWrap
    rw [rem1000 hn]
    simp only [lit, nI_add]
    rw [show irm (nI (n % 1000 + 1000)) (nI 1000) = nI ((n % 1000 + 1000) % 1000) from rem1000 (by omega)]
    exact congrArg nI (by omega)
  have hsub : nI a - nI b + 1000 = nI (a + 1000 - b) := by
    rw [← pk_sub (by omega), ← nI_add, Int32.sub_eq_add_neg, Int32.add_assoc, Int32.add_comm (-nI b), ← Int32.add_assoc, ← Int32.sub_eq_add_neg]
    rfl
  have hm : a * b < 1000000 := Nat.mul_lt_mul'' ha hb
  unfold w_X9_reckon
  rcases ho with rfl | rfl | rfl
  · have e : vReck 1 (nI a) (nI b) = nI ((a + b) % 1000) := by unfold vReck; rw [if_pos rfl, nI_add, w _ (by omega)]
    rw [e] at h
    refine ⟨fun _ => ?_, fun c => absurd c (by decide), fun c => absurd rfl c⟩
    rw [nI_add]
    rw [show nI (a + b) - nI (a + b) / 1000 * 1000 = nI ((a + b) % 1000) from rem1000 (by omega)]
    exact h ⟨_, Nat.mod_lt _ (by omega), rfl⟩
  · have e : vReck 2 (nI a) (nI b) = nI ((a + 1000 - b) % 1000) := by
      unfold vReck vWrap
      rw [if_neg (by decide), if_pos rfl, irm_small (x := nI a - nI b) (by rw [pk_sub_toInt (by omega) (by omega)]; omega) (by rw [pk_sub_toInt (by omega) (by omega)]; omega)]
      rw [show nI a - nI b + 1000 = nI (a + 1000 - b) from hsub]
      rw [rem1000 (by omega)]
    rw [e] at h
    refine ⟨fun c => absurd c (by decide), fun _ => ?_, fun _ c => absurd rfl c⟩
    rw [show nI a - nI b + 1000 = nI (a + 1000 - b) from hsub]
    rw [show nI (a + 1000 - b) - nI (a + 1000 - b) / 1000 * 1000 = nI ((a + 1000 - b) % 1000) from rem1000 (by omega)]
    exact h ⟨_, Nat.mod_lt _ (by omega), rfl⟩
  · have e : vReck 3 (nI a) (nI b) = nI ((a * b) % 1000) := by unfold vReck; rw [if_neg (by decide), if_neg (by decide), pk_mul, w _ (by omega)]
    rw [e] at h
    refine ⟨fun c => absurd c (by decide), fun c => absurd c (by decide), fun _ _ => ?_⟩
    rw [pk_mul]
    rw [show nI (a * b) - nI (a * b) / 1000 * 1000 = nI ((a * b) % 1000) from rem1000 (by omega)]
    exact h ⟨_, Nat.mod_lt _ (by omega), rfl⟩
theorem k_decide {a : Nat} {x y : Int32} {Q : Int32 → Prop} (h : Q (if vHold (I a 5) x y = true then 1 else 0)) : w_X0_decide a x y I Q := by
  unfold w_X0_decide
  unfold vHold at h
  refine ⟨fun c => ⟨fun c2 => ?_, fun c2 => ?_⟩, fun c => ⟨fun c2 => ?_, fun c2 => ?_⟩, fun c1 c => ⟨fun c2 => ?_, fun c2 => ?_⟩⟩
  · rw [if_pos c] at h
    have : ¬ x < y := Int32.not_lt.mpr c2
    simpa [this] using h
  · rw [if_pos c] at h
    have : x < y := Int32.not_le.mp c2
    simpa [this] using h
  · rw [if_neg (show ¬ I a 5 = 60 by rw [c]; decide), if_pos c] at h
    have : ¬ y < x := Int32.not_lt.mpr c2
    simpa [this] using h
  · rw [if_neg (show ¬ I a 5 = 60 by rw [c]; decide), if_pos c] at h
    have : y < x := Int32.not_le.mp c2
    simpa [this] using h
  · rw [if_neg c1, if_neg c] at h; simpa [c2] using h
  · rw [if_neg c1, if_neg c] at h; simpa [c2] using h
/-- a register, by number -/
theorem reg_at {r : Int32} (hM : RelM m I V) (hr : bd r 8) : vp_in r 8 ∧ I (m + 35) (ix r) = V (210 + ix r) ∧ bd (V (210 + ix r)) 1000 ∧ ix r < 8 ∧ r = nI (ix r) := by
  obtain ⟨e, hl⟩ := bd_ix hr (by omega)
  exact ⟨by rw [e]; exact inn hl (by omega), (hM.1 _ hl).1, (hM.1 _ hl).2, hl, e⟩
theorem room_lt {q n : Nat} (e1 : V (252 + 19 * q) = nI n) (hn : n ≤ 6) (e5 : ∃ k, 1 ≤ k ∧ k ≤ 6 ∧ V (172 + q) = nI k) (h : V (252 + 19 * q) < V (172 + q)) : n < 6 := by
  obtain ⟨k, h1, h2, e⟩ := e5
  rw [e1, e] at h
  have := (nI_ltI (by omega) (by omega)).mp h
  omega
def Fr1 (m : Nat) (I I' : MI) (V V' : Nat → Int32) : Prop := Frm m I I' ∧ VFr V V' ∧ (∀ c, m + 57 ≤ c → I' c = I c) ∧ I' m 15 = I m 15 ∧ (∀ j, 170 ≤ j → j < 178 → V' j = V j) ∧ ∀ j, 218 ≤ j → j < 250 → V' j = V j
theorem Fr1.rf : Fr1 m I I V V := ⟨Frm.rf, VFr.rf, fun _ _ => rfl, rfl, fun _ _ _ => rfl, fun _ _ _ => rfl⟩
/-- a push on both sides -/
theorem p_push {q : Nat} {x y z mk : Int32} (h : Rel m I V) (hq : q < 6) (hlt : V (252 + 19 * q) < V (172 + q)) (hE : EntR q x y z mk) :
    ∃ I' V', (∀ (o b : Nat) (J : MI) (Q : MI → Prop), b ≤ 1032 → Q (kb J (o + 1) b V') → w_X10_pushes o (nI b) (nI q) x y z (kb J (o + 1) b V) Q) ∧ (∀ P : MI → Prop, P I' → w_X3_add (m + 39 + 3 * q) x mk I P) ∧ Rel m I' V' ∧ Fr1 m I I' V V' := by
  obtain ⟨n, f, hn, hf, e1, e2, e3, e4, e5, hj⟩ := h.2.2.2.1 q hq
  have hn6 := room_lt e1 hn e5 hlt
  refine ⟨_, _, fun o b J Q hb hQ => t_pushes hb (by omega) ⟨n, hn6, e1⟩ hQ, fun P hP => k_add hn6 hf e2 e3 hP, h.push hq hn6 hf e1 e2 e3 e4 e5 hj hE, qAdd_frm hq, vPush_vfr e1 (by omega), fun c hc => qAdd_o (by omega), by rw [qAdd_o (by omega)], fun j h1 h2 => vPush_o e1 (by omega) (by omega) (by omega), fun j h1 h2 => vPush_o e1 (by omega) (by omega) (by omega)⟩
/-- a take on both sides -/
theorem p_take {q : Nat} (h : Rel m I V) (hq : q < 6) (hz : ¬ V (252 + 19 * q) = 0) :
    ∃ I' V', (∀ (o b : Nat) (J : MI) (S : Int32 → MI → Prop), b ≤ 1032 → S (V (253 + 19 * q)) (kb J (o + 1) b V') → w_X10_takes o (nI b) (nI q) (kb J (o + 1) b V) S) ∧ (∀ S : Int32 → MI → Prop, S (V (253 + 19 * q)) I' → w_X3_take (m + 39 + 3 * q) I S) ∧ Rel m I' V' ∧ Fr1 m I I' V V' ∧ (∃ mk, EntR q (V (253 + 19 * q)) (V (254 + 19 * q)) (V (255 + 19 * q)) mk) ∧ (∀ c, c ≠ m + 39 + 3 * q → I' c = I c) ∧ V' (252 + 19 * q) = nI (ix (V (252 + 19 * q)) - 1) ∧ (∀ j, (j < 252 + 19 * q ∨ 268 + 19 * q ≤ j) → V' j = V j) := by
  obtain ⟨n, f, hn, hf, e1, e2, e3, e4, e5, hj⟩ := h.2.2.2.1 q hq
  have hn0 : 0 < n := by
    rcases Nat.eq_zero_or_pos n with c | c
    · subst c; exact absurd e1 hz
    · exact c
  obtain ⟨g1, g2⟩ := hj 0 hn0
  rw [show (f + 0) % 6 = f by omega, Nat.mul_zero, Nat.add_zero] at g1
  refine ⟨_, _, fun o b J S hb hS => t_takes hb (by omega) hS, fun S hS => k_take hn0 hn hf e2 e3 (by rw [show m + 39 + 3 * q + 1 = m + 40 + 3 * q by omega, g1]; exact hS), h.take hq hn0 hn hf e1 e2 e4 e5 hj, ⟨qTake_frm hq, vTake_vfr, fun c hc => qTake_o (by omega), by rw [qTake_o (by omega)], fun j h1 h2 => vTake_o (by omega), fun j h1 h2 => vTake_o (by omega)⟩, ⟨_, g2⟩, fun c hc => qTake_o hc, by rw [vTake_c e1 hn0, e1, ixn (by omega)], fun j hj => vTake_o hj⟩
/-- what acting ends with -/
def RA (m p : Nat) (I : MI) (V : Nat → Int32) (x d kd : Int32) : Prop := ∃ (I' : MI) (V' : Nat → Int32), (∀ (o b : Nat) (J : MI) (Q : MI → Prop), b ≤ 1032 → Q (kb J (o + 1) b V') → swR o (nI b) (nI p) x d (kb J (o + 1) b V) Q) ∧ (∀ P : MI → Prop, P I' → w_X1_runnerDoes m kd (m + 10 + p) I (fun r I1 => w_X5_finishDeed (m + 57) (m + 1) r I1 P)) ∧ Rel m I' V' ∧ Frm m I I' ∧ VFr V V' ∧ (∀ c, m + 60 ≤ c → I' c = I c) ∧ I' (m + 57) 6 = I (m + 57) 6 ∧ I' m 15 = I m 15 ∧ (∀ j, 170 ≤ j → j < 178 → V' j = V j) ∧ (∀ j, 218 ≤ j → j < 222 → V' j = V j) ∧ (∀ j, 227 ≤ j → j < 250 → V' j = V j) ∧ V' 224 = V 224 + 1
theorem RA.of {p k t : Nat} {I1 : MI} {V1 : Nat → Int32} {x d kd : Int32} (h1 : Rel m I1 V1) (hp : p ≤ ix (V 48)) (ep : V 222 = nI p) (ek : V 223 = nI k) (hk : k < vMany V 0 p) (hl : p ≤ 23 ∨ nI p = V 48) (ht : t ≤ ix (V 48)) (hF : Fr1 m I I1 V V1) (hm : ∀ (o b : Nat) (J : MI) (Q : MI → Prop), b ≤ 1032 → w_X10_runs_p422 o (nI b) (nI t) (kb J (o + 1) b V1) Q → swR o (nI b) (nI p) x d (kb J (o + 1) b V) Q) (hc : ∀ S : Int32 → MI → Prop, S (nI t) I1 → w_X1_runnerDoes m kd (m + 10 + p) I S) : RA m p I V x d kd := by
  obtain ⟨f1, f2, f3, f4, f5, f6⟩ := hF
  have e48 := f2 48 (by omega)
  obtain ⟨I', V', g1, g2, g3, g4, g5, g6, g7, g8⟩ := p_does (s := 0) h1 (by omega) ((f6 222 (by omega) (by omega)).trans ep) (by rw [e48]; exact hp) ((f6 223 (by omega) (by omega)).trans ek) (by rw [vMany_fr f2 hl]; exact hk) (t := t) (by rw [e48]; exact ht)
  refine ⟨I', V', fun o b J Q hb hQ => hm o b J Q hb (g1 o b J Q hb hQ), fun P hP => hc _ (g2 P hP), g3, f1.tr (fun c hc => g4 c (by omega)), f2.tr (fun j hj => g7 j (by omega) (by omega)), fun c hc => (g4 c (by omega)).trans (f3 c (by omega)), ?_, ?_, fun j h1 h2 => (g7 j (by omega) (by omega)).trans (f5 j h1 h2), fun j h1 h2 => (g7 j (by omega) (by omega)).trans (f6 j h1 (by omega)), fun j h1 h2 => (g7 j (by omega) (by omega)).trans (f6 j (by omega) h2), ?_⟩
  · have := g5; rw [show m + 57 + 3 * 0 = m + 57 by omega, f3 _ (by omega)] at this; exact this
  · rw [g4 m (by omega)]; exact f4
  · have := g8; rw [show 224 + 14 * 0 = 224 by omega, f6 _ (by omega) (by omega)] at this; exact this
end
