section
variable {a : Nat} {I : MI} {V : Nat → Int32}
theorem x_copy0 {p q : Nat} {I : MI} {Q : MI → Prop} (h : w_X0_copyFrom p q I Q) : ∃ I', Q I' := ⟨_, (h _ rfl _ rfl _ rfl _ rfl _ rfl).2 _ rfl⟩
theorem x_copyProg {p q : Nat} {I : MI} {Q : MI → Prop} (h : w_X2_copyFrom p q I Q) : ∃ I', Q I' := by
  obtain ⟨n, h⟩ := h
  refine lpN2_ind (P := fun _ _ => ∃ I', Q I') (fun rec hrec x I h => ?_) n _ _ h
  unfold w_X2_copyFrom_l2 at h
  by_cases c : I q 1 < x
  · exact ⟨_, h.1 c _ rfl _ rfl _ rfl _ rfl _ rfl _ rfl _ rfl _ rfl _ rfl _ rfl⟩
  · obtain ⟨I', h'⟩ := x_copy0 (h.2 c).2.2
    exact hrec _ _ h'
theorem x_begin {m : Nat} {I : MI} {Q : MI → Prop} (h : w_X1_toBeginning m I Q) : ∃ I', Q I' := by
  obtain ⟨n, h⟩ := h _ rfl _ rfl
  refine lpN2_ind (P := fun _ _ => ∃ I', Q I') (fun rec hrec x I h => ?_) n _ _ h
  unfold w_X1_toBeginning_l38 at h
  by_cases c : (6 : Int32) ≤ x
  · obtain ⟨n, h⟩ := h.1 c
    refine lpN2_ind (P := fun _ _ => ∃ I', Q I') (fun rec hrec x I h => ?_) n _ _ h
    unfold w_X1_toBeginning_l70 at h
    by_cases c : (2 : Int32) ≤ x
    · exact ⟨_, h.1 c _ rfl _ rfl _ rfl _ rfl _ rfl _ rfl _ rfl _ rfl _ rfl _ rfl⟩
    · exact hrec _ _ ((h.2 c).2 _ rfl _ rfl _ rfl _ rfl _ rfl _ rfl _ rfl _ rfl)
  · exact hrec _ _ ((h.2 c).2.2 _ rfl _ rfl _ rfl)
/-- the model's tries, without a run of the class -/
theorem x_tries (h : Inv a I V) (hT : TrOK a I) : ∃ I' V', (∀ (o : Nat) (J : MI) (S : MI → Prop), S (kb (kb J (o + 1) 0 V) (o + 1) 516 V') → w_X10_tries o (kb J (o + 1) 0 V) S) ∧ Rel (a + 111) I' V' ∧ RelW (a + 111) I' V' ∧ Tame V' := by
  have q : w_X9_tryFromBeginning a I (fun I' => ∃ V', (∀ (o : Nat) (J : MI) (S : MI → Prop), S (kb (kb J (o + 1) 0 V) (o + 1) 516 V') → w_X10_tries o (kb J (o + 1) 0 V) S) ∧ Rel (a + 111) I' V' ∧ RelW (a + 111) I' V' ∧ Tame V') := q_tries h hT (fun I' V' m r1 r2 r3 _ _ => ⟨V', m, r1, r2, r3⟩)
  unfold w_X9_tryFromBeginning at q
  obtain ⟨I1, q1⟩ := x_copyProg q
  exact x_begin q1
/-- rooms of the queues below j -/
def stR (m : Nat) (y : Int32) (I : MI) : Nat → MI
  | 0 => I
  | j + 1 => ui (stR m y I j) (m + 39 + 3 * j) 4 y
def vrR (y : Int32) (V : Nat → Int32) : Nat → Nat → Int32
  | 0 => V
  | j + 1 => upd (vrR y V j) (172 + j) y
theorem k_setRoomsN {m : Nat} {y : Int32} {P : MI → Prop} : ∀ d j, j + d = 6 → P (stR m y I 6) → lpN2 (w_X1_setRooms_l7 m (nI 5) y P) (d + 1) (nI j) (stR m y I j) := by
  intro d
  induction d with
  | zero =>
    intro j hj hP
    have : j = 6 := by omega
    subst this
    show w_X1_setRooms_l7 m (nI 5) y P _ (nI 6) _
    unfold w_X1_setRooms_l7
    exact ⟨fun _ => hP, fun c => absurd (nI_lt (by omega) (by omega)) c⟩
  | succ d ih =>
    intro j hj hP
    show w_X1_setRooms_l7 m (nI 5) y P (lpN2 (w_X1_setRooms_l7 m (nI 5) y P) (d + 1)) (nI j) _
    have hn := ih (j + 1) (by omega) hP
    revert hn
    generalize lpN2 (w_X1_setRooms_l7 m (nI 5) y P) (d + 1) = rec
    intro hn
    unfold w_X1_setRooms_l7
    refine ⟨fun c => absurd ((nI_ltI (by omega) (by omega)).mp c) (by omega), fun _ => ⟨fun c => absurd ((nI_leI (a := 6) (by omega) (by omega)).mp c) (by omega), fun _ => ⟨inn (by omega) (by omega), ?_⟩⟩⟩
    rintro _ rfl
    rw [ixn (by omega), nI_1]
    exact hn
theorem k_setRooms6 {m : Nat} {y : Int32} {P : MI → Prop} (hP : P (stR m y I 6)) : w_X1_setRooms m 0 5 y I P := by
  unfold w_X1_setRooms
  rintro _ rfl
  exact ⟨7, k_setRoomsN 6 0 (by omega) hP⟩
theorem t_setRoomsN {o : Nat} {J : MI} {y : Int32} {ke S : Int32 → MI → Prop} : ∀ d j, j + d = 6 → ke (nI 6) (kb J (o + 1) 516 (vrR y V 6)) → lpN2 (w_X10_safe_l14 o y ke S) (d + 1) (nI j) (kb J (o + 1) 516 (vrR y V j)) := by
  intro d
  induction d with
  | zero =>
    intro j hj hP
    have : j = 6 := by omega
    subst this
    show w_X10_safe_l14 o y ke S _ (nI 6) _
    unfold w_X10_safe_l14
    exact ⟨fun _ => hP, fun c => absurd (nI_le (a := 6) (b := 6) (by omega) (by omega)) c⟩
  | succ d ih =>
    intro j hj hP
    show w_X10_safe_l14 o y ke S (lpN2 (w_X10_safe_l14 o y ke S) (d + 1)) (nI j) _
    have hn := ih (j + 1) (by omega) hP
    revert hn
    generalize lpN2 (w_X10_safe_l14 o y ke S) (d + 1) = rec
    intro hn
    unfold w_X10_safe_l14
    rw [show (688 : Int32) + nI j = nI (516 + (172 + j)) from (nI_add 688 j).trans (congrArg nI (by omega))]
    refine ⟨fun c => absurd ((nI_leI (a := 6) (by omega) (by omega)).mp c) (by omega), fun _ => ⟨kin (by omega) (by omega), ?_⟩⟩
    rintro _ rfl
    rw [kx (by omega) (by omega), nI_1]
    exact hn
theorem Rel.rooms {m n : Nat} (n1 : 1 ≤ n) (n2 : n ≤ 6) (h : Rel m I V) : ∀ j, j ≤ 6 → Rel m (stR m (nI n) I j) (vrR (nI n) V j) := by
  intro j
  induction j with
  | zero => intro _; exact h
  | succ j ih => intro hj; exact (ih (by omega)).room (by omega) n1 n2
theorem stR_ne {m : Nat} {y : Int32} {c : Nat} (hc : c < m + 39 ∨ m + 57 ≤ c) : ∀ j, j ≤ 6 → stR m y I j c = I c := by
  intro j
  induction j with
  | zero => intro _; rfl
  | succ j ih => intro hj; show ui (stR m y I j) (m + 39 + 3 * j) 4 y c = I c; rw [ui_ne _ _ _ (by omega)]; exact ih (by omega)
theorem vrR_ne {y : Int32} {k : Nat} (hk : k < 172 ∨ 178 ≤ k) : ∀ j, j ≤ 6 → vrR y V j k = V k := by
  intro j
  induction j with
  | zero => intro _; rfl
  | succ j ih => intro hj; show upd (vrR y V j) (172 + j) y k = V k; rw [upd_n _ _ (by omega)]; exact ih (by omega)
/-- one try after another, until nobody is stuck -/
theorem q_lnsN {x1 x2 : Int32} {P : Int32 → MI → Prop} {gI : Int32 → MI → MI} {gV : Int32 → (Nat → Int32) → Nat → Int32} {body : Nat → (Int32 → MI → Prop) → (Int32 → MI → Prop) → Int32 → MI → Prop}
    (hc : ∀ y I Q, Q (gI y I) → w_X1_setRooms (a + 111) x1 x2 y I Q)
    (hr : ∀ n I V, 1 ≤ n → n ≤ 6 → Rel (a + 111) I V → RelW (a + 111) I V → Tame V → Rel (a + 111) (gI (nI n) I) (gV (nI n) V) ∧ RelW (a + 111) (gI (nI n) I) (gV (nI n) V) ∧ Tame (gV (nI n) V) ∧ TFr a I (gI (nI n) I))
    (hM0 : ∀ o S rec M, S (-1) M → body o S rec (nI 7) M)
    (hM1 : ∀ o J S rec n Vx V1 V2, 1 ≤ n → n ≤ 6 → (∀ (o : Nat) (J : MI) (S : MI → Prop), S (kb (kb J (o + 1) 0 V) (o + 1) 516 V1) → w_X10_tries o (kb J (o + 1) 0 V) S) → (∀ (o : Nat) (J : MI) (S : Int32 → MI → Prop), S (vTime V2) (kb J (o + 1) 516 V2) → w_X10_ending o (kb J (o + 1) 516 (gV (nI n) V1)) S) → (V2 171 = 2 → rec (nI (n + 1)) (kb (kb J (o + 1) 0 V) (o + 1) 516 V2)) → (¬ V2 171 = 2 → S (nI n) (kb (kb J (o + 1) 0 V) (o + 1) 516 V2)) → body o S rec (nI n) (kb (kb J (o + 1) 0 V) (o + 1) 516 Vx)) :
    ∀ (d : Nat) (I : MI) (n : Nat), Inv a I V → TrOK a I → 1 ≤ n → n + d = 7 →
    (∀ x I', (∀ (o : Nat) (J : MI) (S : Int32 → MI → Prop) (Vx : Nat → Int32), (∀ V', S x (kb (kb J (o + 1) 0 V) (o + 1) 516 V')) → lpN2 (body o S) (d + 1) (nI n) (kb (kb J (o + 1) 0 V) (o + 1) 516 Vx)) → TrOK a I' → TFr a I I' → P x I') → lpN2 (w_X9_leastNotStuck_l2 a x1 x2 P) (d + 1) (nI n) I := by
  intro d
  induction d with
  | zero =>
    intro I n h hT n1 hn hP
    have : n = 7 := by omega
    subst this
    show w_X9_leastNotStuck_l2 a x1 x2 P _ (nI 7) I
    unfold w_X9_leastNotStuck_l2
    exact ⟨fun _ => hP _ I (fun o J S Vx hS => hM0 o S _ _ (hS Vx)) hT (fun _ _ => rfl), fun c => absurd (nI_lt (a := 6) (b := 7) (by omega) (by omega)) c⟩
  | succ d ih =>
    intro I n h hT n1 hn hP
    have hP : ∀ x I', (∀ (o : Nat) (J : MI) (S : Int32 → MI → Prop) (Vx : Nat → Int32), (∀ V', S x (kb (kb J (o + 1) 0 V) (o + 1) 516 V')) → body o S (lpN2 (body o S) (d + 1)) (nI n) (kb (kb J (o + 1) 0 V) (o + 1) 516 Vx)) → TrOK a I' → TFr a I I' → P x I' := hP
    show w_X9_leastNotStuck_l2 a x1 x2 P (lpN2 (w_X9_leastNotStuck_l2 a x1 x2 P) (d + 1)) (nI n) I
    have ih' := fun (I : MI) => ih I (n + 1)
    clear ih
    generalize lpN2 (w_X9_leastNotStuck_l2 a x1 x2 P) (d + 1) = rec at ih' ⊢
    unfold w_X9_leastNotStuck_l2
    refine ⟨fun c => absurd ((nI_ltI (a := 6) (by omega) (by omega)).mp c) (by omega), fun _ => ?_⟩
    refine q_tries h hT (fun I1 V1 m1 r1 r2 r3 r4 f1 => hc _ _ _ ?_)
    obtain ⟨s1, s2, s3, s4⟩ := hr n I1 V1 n1 (by omega) r1 r2 r3
    obtain ⟨r, I', V', g1, g2, g3, g4, g5, g6, g7, g8⟩ := p_goes (m := a + 111) 999 s1 s3 s2
    have e6 : I' (a + 111) 6 = V' 171 := g3.2.2.1.2.2.2.2.1
    have ft : TFr a I I' := fun c hc => by rw [g6 c (by omega), s4 c hc, f1 c hc]
    have me : ∀ (o : Nat) (J : MI) (S : Int32 → MI → Prop), S (vTime V') (kb J (o + 1) 516 V') → w_X10_ending o (kb J (o + 1) 516 (gV (nI n) V1)) S := fun o J S hS => by
      unfold w_X10_ending
      refine g1 o 516 J _ (by omega) ?_
      have e1 : kb J (o + 1) 516 V' (o + 1) (ix (687)) = V' 171 := kg (b := 516) (k := 171) (by omega) (by omega)
      have e2 : kb J (o + 1) 516 V' (o + 1) (ix (686)) = V' 170 := kg (b := 516) (k := 170) (by omega) (by omega)
      rw [e1, e2]
      unfold vTime at hS
      refine ⟨fun c => ?_, fun c => ?_⟩
      · rw [if_neg c] at hS; exact hS
      · rw [if_pos c] at hS; exact hS
    refine g2 _ ⟨fun c => ?_, fun c => ?_⟩
    · rw [e6] at c
      rw [nI_1]
      refine ih' I' (h.tfr ft) (TrOK.of g3) (by omega) (by omega) (fun x I3 m3 t3 f3 => hP x I3 (fun o J S Vx hS => ?_) t3 (ft.tr f3))
      exact hM1 o J S _ n Vx V1 V' n1 (by omega) m1 me (fun _ => m3 o J S V' hS) (fun q => absurd c q)
    · rw [e6] at c
      exact hP (nI n) I' (fun o J S Vx hS => hM1 o J S _ n Vx V1 V' n1 (by omega) m1 me (fun q => absurd q c) (fun _ => hS V')) (TrOK.of g3) ft
theorem g687 {o : Nat} {J : MI} {V2 : Nat → Int32} : kb J (o + 1) 516 V2 (o + 1) (ix (687)) = V2 171 := kg (b := 516) (k := 171) (by omega) (by omega)
theorem q_safe {P : Int32 → MI → Prop} (h : Inv a I V) (hT : TrOK a I) (hP : ∀ v I', (∀ (o : Nat) (J : MI) (S : Int32 → MI → Prop), (∀ V', S v (kb (kb J (o + 1) 0 V) (o + 1) 516 V')) → w_X10_safe o (kb J (o + 1) 0 V) S) → TrOK a I' → TFr a I I' → P v I') : w_X9_safe a I P := by
  unfold w_X9_safe w_X9_leastNotStuck
  refine ⟨7, q_lnsN (V := V) (gI := fun y I => stR (a + 111) y I 6) (gV := fun y V => vrR y V 6) (body := fun o S => w_X10_safe_l2 o S) (fun y I Q hQ => k_setRooms6 hQ) (fun n I V n1 n2 r1 r2 r3 => ⟨r1.rooms n1 n2 6 (by omega), fun s hs => ?_, fun c => ?_, fun c hc => stR_ne (by omega) 6 (by omega)⟩) (fun o S rec M hS => ?_) (fun o J S rec n Vx V1 V2 n1 n2 m1 m2 k1 k2 => ?_) 6 I 1 h hT (by omega) (by omega) (fun v I' m' t' f' => hP v I' (fun o J S hS => ?_) t' f')⟩
  · show stR _ _ _ 6 _ 6 = vrR _ _ 6 _
    rw [stR_ne (by omega) 6 (by omega), vrR_ne (by omega) 6 (by omega)]; exact r2 s hs
  · have c : vrR (nI n) V 6 171 = 0 := c
    show bd (vrR (nI n) V 6 170) 999
    rw [vrR_ne (by omega) 6 (by omega)] at c ⊢; exact r3 c
  · show w_X10_safe_l2 o S rec (nI 7) M
    unfold w_X10_safe_l2
    exact ⟨fun _ => hS, fun c => absurd (nI_lt (a := 6) (b := 7) (by omega) (by omega)) c⟩
  · show w_X10_safe_l2 o S rec (nI n) _
    unfold w_X10_safe_l2
    refine ⟨fun c => absurd ((nI_ltI (a := 6) (by omega) (by omega)).mp c) (by omega), fun _ => ?_⟩
    rw [kb_swap]
    refine m1 o _ _ ⟨7, ?_⟩
    rw [kb_over]
    refine t_setRoomsN (V := V1) 6 0 (by omega) (m2 o _ _ ?_)
    rw [g687, nI_1]
    exact ⟨k1, k2⟩
  · unfold w_X10_safe
    rw [← kb_self (kb J (o + 1) 0 V) (o + 1) 516]
    exact ⟨7, m' o J S _ hS⟩
/-- the model's time with a room, and the class's -/
theorem t_timeBy {q n : Nat} {V1 V2 : Nat → Int32} (hq : q < 6) (m1 : ∀ (o : Nat) (J : MI) (S : MI → Prop), S (kb (kb J (o + 1) 0 V) (o + 1) 516 V1) → w_X10_tries o (kb J (o + 1) 0 V) S) (m2 : ∀ (o : Nat) (J : MI) (S : Int32 → MI → Prop), S (vTime V2) (kb J (o + 1) 516 V2) → w_X10_ending o (kb J (o + 1) 516 (upd V1 (172 + q) (nI n))) S) (o : Nat) (J : MI) (S : Int32 → MI → Prop) (Vx : Nat → Int32) (hS : S (vTime V2) (kb (kb J (o + 1) 0 V) (o + 1) 516 V2)) : w_X10_timeBy o (nI q) (nI n) (kb (kb J (o + 1) 0 V) (o + 1) 516 Vx) S := by
  unfold w_X10_timeBy
  rw [kb_swap]
  refine m1 o _ _ ?_
  rw [show (688 : Int32) + nI q = nI (516 + (172 + q)) from (nI_add 688 q).trans (congrArg nI (by omega)), kb_over]
  refine ⟨kin (by omega) (by omega), ?_⟩
  rintro _ rfl
  rw [kx (by omega) (by omega)]
  exact m2 o _ _ hS
theorem RelW.room {m k : Nat} {x : Int32} (hk : k < 6) (h : RelW m I V) : RelW m (ui I (m + 39 + 3 * k) 4 x) (upd V (172 + k) x) := fun s hs => by rw [ui_ne _ _ _ (by omega), upd_n _ _ (by omega)]; exact h s hs
theorem Tame.room {k : Nat} {x : Int32} (hk : k < 6) (h : Tame V) : Tame (upd V (172 + k) x) := fun c => by rw [upd_n _ _ (by omega)] at c ⊢; exact h c
theorem q_timeRoom {q n : Nat} {P : Int32 → MI → Prop} (h : Inv a I V) (hT : TrOK a I) (hq : q < 6) (n1 : 1 ≤ n) (n2 : n ≤ 6) (hP : ∀ v I' V2, (∀ (o : Nat) (J : MI) (S : Int32 → MI → Prop) (Vx : Nat → Int32), S v (kb (kb J (o + 1) 0 V) (o + 1) 516 V2) → w_X10_timeBy o (nI q) (nI n) (kb (kb J (o + 1) 0 V) (o + 1) 516 Vx) S) → TrOK a I' → TFr a I I' → P v I') : w_X9_timeWithRoom a (nI q) (nI n) I P := by
  unfold w_X9_timeWithRoom
  refine q_tries h hT (fun I1 V1 m1 r1 r2 r3 r4 f1 => k_setRoom1 hq ?_)
  refine q_ending (r1.room hq n1 n2) (r2.room hq) (r3.room hq) (fun I2 V2 m2 t2 f2 _ => hP _ I2 V2 (fun o J S Vx hS => t_timeBy hq m1 m2 o J S Vx hS) t2 (fun c hc => by rw [f2 c hc, ui_ne _ _ _ (by omega), f1 c hc]))
theorem x_timeBy {q n : Nat} (h : Inv a I V) (hT : TrOK a I) (hq : q < 6) (n1 : 1 ≤ n) (n2 : n ≤ 6) : ∃ v V2, ∀ (o : Nat) (J : MI) (S : Int32 → MI → Prop) (Vx : Nat → Int32), S v (kb (kb J (o + 1) 0 V) (o + 1) 516 V2) → w_X10_timeBy o (nI q) (nI n) (kb (kb J (o + 1) 0 V) (o + 1) 516 Vx) S := by
  obtain ⟨I1, V1, m1, r1, r2, r3⟩ := x_tries h hT
  obtain ⟨r, I', V', g1, g2, g3, g4, g5, g6, g7, g8⟩ := p_goes (m := a + 111) 999 (r1.room hq n1 n2) (r3.room hq) (r2.room hq)
  refine ⟨vTime V', V', fun o J S Vx hS => t_timeBy hq m1 (fun o J S hS => ?_) o J S Vx hS⟩
  unfold w_X10_ending
  refine g1 o 516 J _ (by omega) ?_
  have e1 : kb J (o + 1) 516 V' (o + 1) (ix (687)) = V' 171 := kg (b := 516) (k := 171) (by omega) (by omega)
  have e2 : kb J (o + 1) 516 V' (o + 1) (ix (686)) = V' 170 := kg (b := 516) (k := 170) (by omega) (by omega)
  rw [e1, e2]
  unfold vTime at hS
  refine ⟨fun c => ?_, fun c => ?_⟩
  · rw [if_neg c] at hS; exact hS
  · rw [if_pos c] at hS; exact hS
/-- the fast way: the first room with the time that six rooms give -/
theorem q_fastN {q : Nat} {x2 due : Int32} {V6 : Nat → Int32} {P : Int32 → MI → Prop} (hx2 : ¬ x2 = 0) (hq : q < 6) (m6 : ∀ (o : Nat) (J : MI) (S : Int32 → MI → Prop) (Vx : Nat → Int32), S due (kb (kb J (o + 1) 0 V) (o + 1) 516 V6) → w_X10_timeBy o (nI q) (nI 6) (kb (kb J (o + 1) 0 V) (o + 1) 516 Vx) S) :
    ∀ (d : Nat) (I : MI) (n : Nat), Inv a I V → TrOK a I → 1 ≤ n → n + d = 6 →
    (∀ x I', (∀ (o : Nat) (J : MI) (S : Int32 → MI → Prop) (Vx : Nat → Int32), (∀ V', S x (kb (kb J (o + 1) 0 V) (o + 1) 516 V')) → lpN2 (w_X10_least_l33 o (nI q) x2 due S) (d + 1) (nI n) (kb (kb J (o + 1) 0 V) (o + 1) 516 Vx)) → TrOK a I' → TFr a I I' → P x I') → lpN2 (w_X9_least_l38 a (nI q) due P) (d + 1) (nI n) I := by
  intro d
  induction d with
  | zero =>
    intro I n h hT n1 hn hP
    have : n = 6 := by omega
    subst this
    show w_X9_least_l38 a (nI q) due P _ (nI 6) I
    unfold w_X9_least_l38
    refine ⟨fun _ => hP _ I (fun o J S Vx hS => ?_) hT (fun _ _ => rfl), fun c => absurd (nI_le (a := 6) (b := 6) (by omega) (by omega)) c⟩
    show w_X10_least_l33 o (nI q) x2 due S _ (nI 6) _
    unfold w_X10_least_l33
    exact ⟨fun c => absurd ((nI_ltI (a := 6) (by omega) (by omega)).mp c) (by omega), fun _ => m6 o J _ Vx ⟨fun c => absurd c hx2, fun _ => ⟨fun c => absurd rfl c, fun _ => hS V6⟩⟩⟩
  | succ d ih =>
    intro I n h hT n1 hn hP
    have hP : ∀ x I', (∀ (o : Nat) (J : MI) (S : Int32 → MI → Prop) (Vx : Nat → Int32), (∀ V', S x (kb (kb J (o + 1) 0 V) (o + 1) 516 V')) → w_X10_least_l33 o (nI q) x2 due S (lpN2 (w_X10_least_l33 o (nI q) x2 due S) (d + 1)) (nI n) (kb (kb J (o + 1) 0 V) (o + 1) 516 Vx)) → TrOK a I' → TFr a I I' → P x I' := hP
    show w_X9_least_l38 a (nI q) due P (lpN2 (w_X9_least_l38 a (nI q) due P) (d + 1)) (nI n) I
    have ih' := fun (I : MI) => ih I (n + 1)
    clear ih
    generalize lpN2 (w_X9_least_l38 a (nI q) due P) (d + 1) = rec at ih' ⊢
    unfold w_X9_least_l38
    refine ⟨fun c => absurd ((nI_leI (a := 6) (by omega) (by omega)).mp c) (by omega), fun _ => ?_⟩
    refine q_timeRoom h hT hq n1 (by omega) (fun v I' V2 m2 t2 f2 => ?_)
    have n6 : ¬ (6 : Int32) < nI n := fun c => absurd ((nI_ltI (a := 6) (by omega) (by omega)).mp c) (by omega)
    refine ⟨fun c => ?_, fun c => ?_⟩
    · rw [nI_1]
      refine ih' I' (h.tfr f2) t2 (by omega) (by omega) (fun x I3 m3 t3 f3 => hP x I3 (fun o J S Vx hS => ?_) t3 (f2.tr f3))
      have hn := m3 o J S V2 hS
      revert hn
      generalize lpN2 (w_X10_least_l33 o (nI q) x2 due S) (d + 1) = rec2
      intro hn
      unfold w_X10_least_l33
      exact ⟨fun q => absurd q n6, fun _ => m2 o J _ Vx ⟨fun q => absurd q hx2, fun _ => ⟨fun _ => by rw [nI_1]; exact hn, fun q => absurd q c⟩⟩⟩
    · refine hP (nI n) I' (fun o J S Vx hS => ?_) t2 f2
      generalize lpN2 (w_X10_least_l33 o (nI q) x2 due S) (d + 1) = rec2
      unfold w_X10_least_l33
      exact ⟨fun q => absurd q n6, fun _ => m2 o J _ Vx ⟨fun q => absurd q hx2, fun _ => ⟨fun q => absurd c q, fun _ => hS V2⟩⟩⟩
theorem q_least {x x2 : Int32} {P : Int32 → MI → Prop} (h : Inv a I V) (hT : TrOK a I) (hP : ∀ v I', (∀ (o : Nat) (J : MI) (S : Int32 → MI → Prop), (∀ V', S v (kb (kb J (o + 1) 0 V) (o + 1) 516 V')) → S v (kb J (o + 1) 0 V) → w_X10_least o x x2 (kb J (o + 1) 0 V) S) → TrOK a I' → TFr a I I' → P v I') : w_X9_least a x x2 I P := by
  unfold w_X9_least
  rcases in_cases x (lo := 0) (hi := 5) (by omega) (by omega) with ⟨q, h1, h2, rfl⟩ | hx
  · refine k_Queue1 (by omega) ⟨fun _ => ⟨fun c => ?_, fun c => ?_⟩, fun c => absurd c (by decide)⟩
    · refine q_timeRoom (n := 6) h hT (by omega) (by omega) (by omega) (fun v I1 V1 m1 t1 f1 => ?_)
      have ms : ∀ (o : Nat) (J : MI) (S : Int32 → MI → Prop), (∀ (I4 : MI), I4 = kb (kb J (o + 1) 0 V) (o + 1) 516 V1 → (¬ v = (-1 : Int32) → Lp2 (w_X10_least_l33 o (nI q) x2 v S) (1 : Int32) I4) ∧ (v = (-1 : Int32) → S (-1 : Int32) I4)) → w_X10_least o (nI q) x2 (kb J (o + 1) 0 V) S := fun o J S hS => by
        unfold w_X10_least
        refine t_isIn1 (lo := 0) (hi := 5) (by omega) h2 (by omega) ⟨fun _ => ?_, fun c => absurd c (by decide)⟩
        rw [← kb_self (kb J (o + 1) 0 V) (o + 1) 516]
        exact m1 o J _ _ ⟨fun q => absurd q c, fun _ => hS _ rfl⟩
      refine ⟨fun c2 => ⟨6, ?_⟩, fun c2 => ?_⟩
      · refine q_fastN c (by omega) m1 5 I1 1 (h.tfr f1) t1 (by omega) (by omega) (fun x I' m' t' f' => hP x I' (fun o J S hS _ => ms o J S ?_) t' (f1.tr f'))
        rintro _ rfl
        exact ⟨fun _ => ⟨6, m' o J S V1 hS⟩, fun q => absurd q c2⟩
      · refine hP _ I1 (fun o J S hS _ => ms o J S ?_) t1 f1
        rintro _ rfl
        exact ⟨fun q => absurd c2 q, fun _ => hS V1⟩
    · obtain ⟨v6, V6, m6⟩ := x_timeBy (q := q) (n := 6) h hT (by omega) (by omega) (by omega)
      unfold w_X9_leastNotStuck
      refine ⟨7, q_lnsN (V := V) (gI := fun y I => ui I (a + 111 + 39 + 3 * q) 4 y) (gV := fun y V => upd V (172 + q) y) (body := fun o S => w_X10_least_l33 o (nI q) x2 v6 S) (fun y I Q hQ => k_setRoom1 (by omega) hQ) (fun n I V n1 n2 r1 r2 r3 => ⟨r1.room (by omega) n1 n2, r2.room (by omega), r3.room (by omega), fun c hc => ui_ne _ _ _ (by omega)⟩) (fun o S rec M hS => ?_) (fun o J S rec n Vx V1 V2 n1 n2 m1 m2 k1 k2 => ?_) 6 I 1 h hT (by omega) (by omega) (fun v I' m' t' f' => hP v I' (fun o J S hS _ => ?_) t' f')⟩
      · show w_X10_least_l33 o (nI q) x2 v6 S rec (nI 7) M
        unfold w_X10_least_l33
        exact ⟨fun _ => hS, fun c => absurd (nI_lt (a := 6) (b := 7) (by omega) (by omega)) c⟩
      · show w_X10_least_l33 o (nI q) x2 v6 S rec (nI n) _
        unfold w_X10_least_l33
        refine ⟨fun c => absurd ((nI_ltI (a := 6) (by omega) (by omega)).mp c) (by omega), fun _ => t_timeBy (by omega) m1 m2 o J _ Vx ?_⟩
        rw [g687, nI_1]
        exact ⟨fun _ => ⟨k1, k2⟩, fun c2 => absurd c c2⟩
      · unfold w_X10_least
        refine t_isIn1 (lo := 0) (hi := 5) (by omega) h2 (by omega) ⟨fun _ => ?_, fun c => absurd c (by decide)⟩
        rw [← kb_self (kb J (o + 1) 0 V) (o + 1) 516]
        exact m6 o J _ _ ⟨fun _ => ⟨7, m' o J S V6 hS⟩, fun c2 => absurd c c2⟩
  · have hno : P (-1) I := hP (-1) I (fun o J S _ hS => by
      unfold w_X10_least
      exact t_isIn0 hx ⟨fun q => absurd rfl q, fun _ => hS⟩) hT (fun _ _ => rfl)
    exact k_Queue0 hx ⟨fun q => absurd rfl q, fun _ => hno⟩
end
