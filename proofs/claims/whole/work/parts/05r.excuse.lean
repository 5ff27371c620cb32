/-! the worker -/
def swT (a0 : Nat) (x1 x3 r7 : Int32) (I : MI) (Q : MI → Prop) : Prop := (w_X10_of a0 x1 x3 (1) I (fun r10 => (∀ x7_11, x7_11 = x3 + (1) → ((r7 = (2) → (w_X10_opOf a0 x1 x3 I (fun r12 => ((¬ r12 = 0 → (w_X10_of a0 x1 x3 (2) I (fun r14 => (w_X10_works a0 x1 r14 I (fun r15 I16 => (w_X10_of a0 x1 x3 (3) I16 (fun r17 => (w_X10_works a0 x1 r17 I16 (fun r18 I19 => (w_X10_opOf a0 x1 x3 I19 (fun r20 => (w_X10_reckons a0 r20 r15 r18 (fun r21 => (vp_in ((x1 + (210)) + r10) 4905 ∧ (∀ I23, I23 = ui I19 (a0 + 1) (ix ((x1 + (210)) + r10)) r21 → w_X10_toils_p395 a0 x1 x7_11 I23 Q))))))))))))))) ∧ (r12 = 0 → (w_X10_of a0 x1 x3 (4) I (fun r25 => (vp_in ((x1 + (210)) + r10) 4905 ∧ (∀ I27, I27 = ui I (a0 + 1) (ix ((x1 + (210)) + r10)) r25 → w_X10_toils_p395 a0 x1 x7_11 I27 Q))))))))) ∧ (r7 = (5) → (w_X10_takes a0 x1 (0) I (fun r28 I29 => (vp_in ((x1 + (210)) + r10) 4905 ∧ (∀ I31, I31 = ui I29 (a0 + 1) (ix ((x1 + (210)) + r10)) r28 → w_X10_toils_p395 a0 x1 x7_11 I31 Q))))) ∧ (r7 = (8) → (w_X10_reg a0 x1 r10 I (fun r32 => (w_X10_pushes a0 x1 (2) r32 (0) (0) I (fun I33 => w_X10_toils_p395 a0 x1 x7_11 I33 Q))))) ∧ (r7 = (9) → (w_X10_of a0 x1 x3 (4) I (fun r34 => w_X10_toils_p395 a0 x1 r34 I Q))) ∧ (r7 = (11) → (w_X10_takes a0 x1 (4) I (fun r35 I36 => ((¬ r35 = (1) → w_X10_toils_p395 a0 x1 x7_11 I36 Q) ∧ (r35 = (1) → (w_X10_of a0 x1 x3 (4) I36 (fun r38 => w_X10_toils_p395 a0 x1 r38 I36 Q))))))) ∧ (r7 = (13) → (w_X10_works a0 x1 r10 I (fun r39 I40 => (w_X10_of a0 x1 x3 (2) I40 (fun r41 => (w_X10_works a0 x1 r41 I40 (fun r42 I43 => (w_X10_of a0 x1 x3 (3) I43 (fun r44 => (w_X10_holds r44 r39 r42 (fun r45 => ((r45 = 0 → w_X10_toils_p361 a0 x1 x3 x7_11 r45 (0) (5) x1 a0 I43 Q) ∧ (¬ r45 = 0 → w_X10_toils_p361 a0 x1 x3 x7_11 r45 (1) (5) x1 a0 I43 Q))))))))))))) ∧ (¬ r7 = (2) → ¬ r7 = (5) → ¬ r7 = (8) → ¬ r7 = (9) → ¬ r7 = (11) → ¬ r7 = (13) → (w_X10_ends a0 x1 (1) I (fun I50 => Q I50)))))))
section
variable {m : Nat} {I : MI} {V : Nat → Int32}
theorem and1 (x : Int32) : x &&& 1 = 0 ∨ x &&& 1 = 1 := by
  obtain ⟨j, hj, e⟩ := pk_andE x (m := 1) 1 (by decide)
  rcases (show j = 0 ∨ j = 1 by omega) with rfl | rfl
  · exact Or.inl e
  · exact Or.inr e
theorem k_isIn {s x : Int32} {Q : Int32 → Prop} (h : Q (if hs s x = true then 1 else 0)) : w_X9_isIn s x Q := by
  unfold w_X9_isIn
  rcases and1 (s >>> (x &&& 31)) with e | e
  · rw [if_neg (hs_f (by rw [e]; decide))] at h
    exact ⟨fun _ => h, fun c => absurd e c⟩
  · rw [if_pos (hs_t e)] at h
    exact ⟨fun c => absurd (e.symm.trans c) (by decide), fun _ => h⟩
theorem k_lacks {a : Nat} {n : Nat} {Q : Int32 → Prop} (e4 : I (m + 1) 4 = V 49) (e3 : I (m + 48) 3 = nI n) (hn : n ≤ 6) (h : Q (if vSends V (I a 2) (I a 3) ≤ n then 0 else 1)) : w_X1_lacksCopies m a I Q := by
  unfold w_X1_lacksCopies
  rw [e4]
  have key : ∀ j : Nat, (j = if hs (V 49) (I a 2) = true then 1 else 0) → w_X1_lacksCopies_p22 m a (nI j) I Q := fun j hj => by
    unfold w_X1_lacksCopies_p22
    rw [e4, e3]
    refine k_isIn ?_
    unfold vSends at h
    rw [← hj] at h
    by_cases g : hs (V 49) (I a 3) = true
    · rw [if_pos g] at h ⊢
      refine ⟨fun c => absurd c (by decide), fun _ => ?_⟩
      rintro _ rfl
      rw [nI_1]
      refine ⟨fun c => ?_, fun c => ?_⟩
      · rw [if_pos ((nI_leI (by split at hj <;> omega) (by omega)).mp c)] at h; exact h
      · rw [if_neg (fun g => c ((nI_leI (by split at hj <;> omega) (by omega)).mpr g))] at h; exact h
    · rw [if_neg g] at h ⊢
      refine ⟨fun _ => ?_, fun c => absurd rfl c⟩
      rintro _ rfl
      rw [show nI j + 0 = nI (j + 0) from nI_add _ 0]
      refine ⟨fun c => ?_, fun c => ?_⟩
      · rw [if_pos ((nI_leI (by split at hj <;> omega) (by omega)).mp c)] at h; exact h
      · rw [if_neg (fun g => c ((nI_leI (by split at hj <;> omega) (by omega)).mpr g))] at h; exact h
  refine k_isIn ?_
  by_cases g : hs (V 49) (I a 2) = true
  · rw [if_pos g]
    exact ⟨fun c => absurd c (by decide), fun _ => key 1 (by rw [if_pos g])⟩
  · rw [if_neg g]
    exact ⟨fun _ => key 0 (by rw [if_neg g]), fun c => absurd rfl c⟩
theorem k_hasCome {k n : Nat} {Q : Int32 → Prop} (h : Rel m I V) (e1 : V 252 = nI n) (hn : n ≤ 6) (hk : k < n) (hQ : Q (if vCome V k = true then 1 else 0)) : w_X1_hasCome m (nI k) I Q := by
  obtain ⟨n', f, hn', hf, e1', e2, e3, e4, e5, hj⟩ := h.2.2.2.1 0 (by omega)
  have : n' = n := nI_inj (by omega) (by omega) (e1'.symm.trans e1)
  subst this
  obtain ⟨a1, a2, a3, a4, a5, a6, a7, a8, a9, a10, a11, a12, a13, a14, a15, a16, a17, a18, a19⟩ := h.2.2.1
  unfold w_X1_hasCome
  have e2 : I (m + 39) 3 = nI n' := e2
  rw [e2, a3, a8]
  refine ⟨fun c => absurd ((nI_leI (by omega) (by omega)).mp c) (by omega), fun _ => k_markAt hk hn hf e2 e3 ?_⟩
  obtain ⟨-, hE⟩ := hj k hk
  obtain ⟨-, hm, -⟩ := hE.1 rfl
  have hm : I (m + 39 + 2) ((f + k) % 6) = V (254 + 3 * k) := hm
  rw [hm]
  unfold vCome at hQ
  refine ⟨fun c => ?_, fun c => ?_⟩
  · have : ¬ V 0 ≤ V 170 - V (254 + 3 * k) := Int32.not_le.mpr c
    simpa [this] using hQ
  · have : V 0 ≤ V 170 - V (254 + 3 * k) := Int32.not_lt.mp c
    simpa [this] using hQ
def Rdy1 (V : Nat → Int32) (p : Nat) (d : Int32) : Prop := (d = 5 → ¬ V 252 = 0) ∧ (d = 8 → V 290 < V 174) ∧ (d = 11 → ¬ V 328 = 0) ∧ (d = 13 → nI (vSends V (V (51 + 5 * p)) (V (52 + 5 * p))) ≤ V 309 ∧ V 347 < V 177) ∧ (d = 2 → ¬ vOp V p = 0 → nI (vSends V (V (52 + 5 * p)) (V (53 + 5 * p))) ≤ V 309)
/-- what excusing ends with -/
def EO (m p : Nat) (I : MI) (V : Nat → Int32) (d kd : Int32) : Prop := ∃ r : Nat, r ≤ 7 ∧ (∀ (o b : Nat) (J : MI) (S : Int32 → Prop), b ≤ 1032 → S (nI r) → w_X10_excuse o (nI b) (nI p) d (kb J (o + 1) b V) S) ∧ (∀ S : Int32 → Prop, S (nI r) → w_X1_workerWaitsFor m kd (m + 10 + p) I S) ∧ (r = 0 → Rdy1 V p d)
theorem eo_no {p : Nat} (d kd : Int32) (n5 : ¬ d = 5) (n11 : ¬ d = 11) (n8 : ¬ d = 8) (n2 : ¬ d = 2) (n13 : ¬ d = 13) (k1 : ¬ kd = 1) (k2 : ¬ kd = 2) (k3 : ¬ kd = 3) (k12 : ¬ kd = 12) (k15 : ¬ kd = 15) (k17 : ¬ kd = 17) (k19 : ¬ kd = 19) : EO m p I V d kd :=
  ⟨0, by omega, fun o b J S hb hS => ⟨fun _ => ⟨fun _ => ⟨fun _ => ⟨fun _ => ⟨fun c => absurd c n13, fun _ => hS⟩, fun c => absurd c n2⟩, fun c => absurd c n8⟩, fun c => absurd c n11⟩, fun c => absurd c n5⟩, fun S hS => ⟨fun c => absurd c (fun c => c.elim k1 (fun c => c.elim k2 k3)), fun c => absurd c k12, fun c => absurd c k15, fun c => absurd c k17, fun c => absurd c k19, fun _ _ _ _ _ _ _ => hS⟩, fun _ => ⟨fun c => absurd c n5, fun c => absurd c n8, fun c => absurd c n11, fun c => absurd c n13, fun c => absurd c n2⟩⟩
theorem eo_set {p : Nat} (h : Rel m I V) (hp : p ≤ ix (V 48)) (ho : vOp V p = 0) : EO m p I V 2 0 := by
  obtain ⟨hsz, -⟩ := size_lt h.1
  refine ⟨0, by omega, fun o b J S hb hS => ?_, fun S hS => ?_, fun _ => ⟨fun c => absurd c (by decide), fun c => absurd c (by decide), fun c => absurd c (by decide), fun c => absurd c (by decide), fun _ c => absurd ho c⟩⟩
  · exact ⟨fun _ => ⟨fun _ => ⟨fun _ => ⟨fun c => absurd rfl c, fun _ => t_opOf hb (by omega) ⟨fun _ => hS, fun c => absurd ho c⟩⟩, fun c => absurd c (by decide)⟩, fun c => absurd c (by decide)⟩, fun c => absurd c (by decide)⟩
  · exact ⟨fun c => absurd c (by decide), fun c => absurd c (by decide), fun c => absurd c (by decide), fun c => absurd c (by decide), fun c => absurd c (by decide), fun _ _ _ _ _ _ _ => hS⟩
theorem eo_op {p : Nat} (h : Rel m I V) (hp : p ≤ ix (V 48)) (ho : vOp V p = 1 ∨ vOp V p = 2 ∨ vOp V p = 3) : EO m p I V 2 (vOp V p) := by
  obtain ⟨hsz, -⟩ := size_lt h.1
  have h8 : ¬ vOp V p = 8 := by rcases ho with e | e | e <;> rw [e] <;> decide
  have h0 : ¬ vOp V p = 0 := by rcases ho with e | e | e <;> rw [e] <;> decide
  have h7 : ¬ V (50 + 5 * p) = 7 := fun c => by
    have e := (row_of h.1 hp h8).2.1
    rw [c] at e
    rcases ho with q | q | q <;> rw [q] at e <;> exact absurd e (by decide)
  obtain ⟨hlt, e0, b0, b1, b2, b3, r0, r1, -⟩ := row_of h.1 hp h8
  obtain ⟨f1, f2, f3⟩ := r1 (by rw [e0]; exact ho)
  rw [show m + 1 + 9 + p = m + 10 + p by omega] at f1 f2 f3
  obtain ⟨n, f, hn, hf, e1, e2, -⟩ := h.2.2.2.1 3 (by omega)
  have e1 : V 309 = nI n := e1
  have e2 : I (m + 48) 3 = nI n := e2
  have hs2 := vSends_le V (V (52 + 5 * p)) (V (53 + 5 * p))
  have K : ∀ (S : Int32 → Prop) (w : Int32), (w = if vSends V (V (52 + 5 * p)) (V (53 + 5 * p)) ≤ n then 0 else 1) → (w = 0 → S 0) → (¬ w = 0 → S 2) → w_X1_workerWaitsFor m (vOp V p) (m + 10 + p) I S := fun S w hw q1 q2 => by
    have a : w_X1_lacksCopies m (m + 10 + p) I (fun r1 => (r1 = 0 → S 0) ∧ (¬ r1 = 0 → S 2)) := k_lacks h.2.1.1 e2 hn (by rw [f2, f3, ← hw]; exact ⟨q1, q2⟩)
    unfold w_X1_workerWaitsFor
    rcases ho with q | q | q <;> rw [q]
    · exact ⟨fun _ => a, fun c => absurd c (by decide), fun c => absurd c (by decide), fun c => absurd c (by decide), fun c => absurd c (by decide), fun c => absurd rfl c⟩
    · exact ⟨fun _ => a, fun c => absurd c (by decide), fun c => absurd c (by decide), fun c => absurd c (by decide), fun c => absurd c (by decide), fun _ c => absurd rfl c⟩
    · exact ⟨fun _ => a, fun c => absurd c (by decide), fun c => absurd c (by decide), fun c => absurd c (by decide), fun c => absurd c (by decide), fun _ _ c => absurd rfl c⟩
  have M : ∀ (o b : Nat) (J : MI) (S : Int32 → Prop), b ≤ 1032 → (vSends V (V (52 + 5 * p)) (V (53 + 5 * p)) ≤ n → S 0) → (¬ vSends V (V (52 + 5 * p)) (V (53 + 5 * p)) ≤ n → S 2) → w_X10_excuse o (nI b) (nI p) 2 (kb J (o + 1) b V) S := fun o b J S hb q1 q2 => by
    refine ⟨fun _ => ⟨fun _ => ⟨fun _ => ⟨fun c => absurd rfl c, fun _ => ?_⟩, fun c => absurd c (by decide)⟩, fun c => absurd c (by decide)⟩, fun c => absurd c (by decide)⟩
    refine t_opOf hb (by omega) ⟨fun c => absurd c h0, fun _ => t_inQueue (q := 3) hb (by omega) (t_of' (k := 2) hb (by omega) (by omega) (t_of' (k := 3) hb (by omega) (by omega) ?_))⟩
    rw [show 50 + 5 * p + 2 = 52 + 5 * p by omega, show 50 + 5 * p + 3 = 53 + 5 * p by omega, show 252 + 19 * 3 = 309 by omega, e1]
    exact t_sends hb ⟨fun c => q1 ((nI_leI (by omega) (by omega)).mp c), fun c => q2 (fun g => c ((nI_leI (by omega) (by omega)).mpr g))⟩
  by_cases g : vSends V (V (52 + 5 * p)) (V (53 + 5 * p)) ≤ n
  · exact ⟨0, by omega, fun o b J S hb hS => M o b J S hb (fun _ => hS) (fun c => absurd g c), fun S hS => K S 0 (by rw [if_pos g]) (fun _ => hS) (fun c => absurd rfl c), fun _ => ⟨fun c => absurd c (by decide), fun c => absurd c (by decide), fun c => absurd c (by decide), fun c => absurd c (by decide), fun _ _ => by rw [e1]; exact nI_le g (by omega)⟩⟩
  · exact ⟨2, by omega, fun o b J S hb hS => M o b J S hb (fun c => absurd c g) (fun _ => hS), fun S hS => K S 1 (by rw [if_neg g]) (fun c => absurd c (by decide)) (fun _ => hS), fun c => absurd c (by omega)⟩
theorem eo_come {p : Nat} (h : Rel m I V) (hp : p ≤ ix (V 48)) : EO m p I V 5 12 := by
  obtain ⟨n, f, hn, hf, e1, e2, -⟩ := h.2.2.2.1 0 (by omega)
  have e1 : V 252 = nI n := e1
  have e2 : I (m + 39) 3 = nI n := e2
  by_cases hz : n = 0
  · subst hz
    refine ⟨1, by omega, fun o b J S hb hS => ?_, fun S hS => ?_, fun c => absurd c (by omega)⟩
    · exact ⟨fun c => absurd rfl c, fun _ => t_inQueue (q := 0) hb (by omega) ⟨fun _ => hS, fun c => absurd e1 c⟩⟩
    · have a : w_X1_hasCome m 0 I (fun r3 => (r3 = 0 → S 1) ∧ (¬ r3 = 0 → S 0)) := by
        unfold w_X1_hasCome
        rw [e2]
        exact ⟨fun _ => ⟨fun _ => hS, fun c => absurd rfl c⟩, fun c => absurd (by decide) c⟩
      exact ⟨fun c => absurd c (by decide), fun _ => a, fun c => absurd c (by decide), fun c => absurd c (by decide), fun c => absurd c (by decide), fun n1 n2 n3 n12 n15 n17 n19 => absurd rfl n12⟩
  · have hnz : ¬ V 252 = 0 := fun c => by rw [e1, nI_z (by omega)] at c; exact hz c
    have K : ∀ S : Int32 → Prop, ((if vCome V 0 = true then (1 : Int32) else 0) = 0 → S 1) → (¬ (if vCome V 0 = true then (1 : Int32) else 0) = 0 → S 0) → w_X1_workerWaitsFor m 12 (m + 10 + p) I S := fun S q1 q2 => by
      have a : w_X1_hasCome m 0 I (fun r3 => (r3 = 0 → S 1) ∧ (¬ r3 = 0 → S 0)) := k_hasCome (k := 0) h e1 hn (by omega) ⟨q1, q2⟩
      exact ⟨fun c => absurd c (by decide), fun _ => a, fun c => absurd c (by decide), fun c => absurd c (by decide), fun c => absurd c (by decide), fun n1 n2 n3 n12 n15 n17 n19 => absurd rfl n12⟩
    have M : ∀ (o b : Nat) (J : MI) (S : Int32 → Prop), b ≤ 1032 → ((if vCome V 0 = true then (1 : Int32) else 0) = 0 → S 1) → (¬ (if vCome V 0 = true then (1 : Int32) else 0) = 0 → S 0) → w_X10_excuse o (nI b) (nI p) 5 (kb J (o + 1) b V) S := fun o b J S hb q1 q2 =>
      ⟨fun c => absurd rfl c, fun _ => t_inQueue (q := 0) hb (by omega) ⟨fun c => absurd c hnz, fun _ => t_hasCome (k := 0) hb (by omega) ⟨q2, q1⟩⟩⟩
    by_cases g : vCome V 0 = true
    · rw [if_pos g] at K M
      exact ⟨0, by omega, fun o b J S hb hS => M o b J S hb (fun c => absurd c (by decide)) (fun _ => hS), fun S hS => K S (fun c => absurd c (by decide)) (fun _ => hS), fun _ => ⟨fun _ => hnz, fun c => absurd c (by decide), fun c => absurd c (by decide), fun c => absurd c (by decide), fun c => absurd c (by decide)⟩⟩
    · rw [if_neg g] at K M
      exact ⟨1, by omega, fun o b J S hb hS => M o b J S hb (fun _ => hS) (fun c => absurd rfl c), fun S hS => K S (fun _ => hS) (fun c => absurd rfl c), fun c => absurd c (by omega)⟩
theorem eo_give {p : Nat} (h : Rel m I V) : EO m p I V 8 15 := by
  by_cases hf : V 290 < V 174
  · refine ⟨0, by omega, fun o b J S hb hS => ?_, fun S hS => ?_, fun _ => ⟨fun c => absurd c (by decide), fun _ => hf, fun c => absurd c (by decide), fun c => absurd c (by decide), fun c => absurd c (by decide)⟩⟩
    · exact ⟨fun _ => ⟨fun _ => ⟨fun c => absurd rfl c, fun _ => t_isFull (q := 2) hb (by omega) (by rw [if_pos hf]; exact ⟨fun _ => hS, fun c => absurd rfl c⟩)⟩, fun c => absurd c (by decide)⟩, fun c => absurd c (by decide)⟩
    · exact ⟨fun c => absurd c (by decide), fun c => absurd c (by decide), fun _ => k_full (q := 2) h (by omega) (by rw [if_pos hf]; exact ⟨fun _ => hS, fun c => absurd rfl c⟩), fun c => absurd c (by decide), fun c => absurd c (by decide), fun n1 n2 n3 n12 n15 n17 n19 => absurd rfl n15⟩
  · refine ⟨4, by omega, fun o b J S hb hS => ?_, fun S hS => ?_, fun c => absurd c (by omega)⟩
    · exact ⟨fun _ => ⟨fun _ => ⟨fun c => absurd rfl c, fun _ => t_isFull (q := 2) hb (by omega) (by rw [if_neg hf]; exact ⟨fun c => absurd c (by decide), fun _ => hS⟩)⟩, fun c => absurd c (by decide)⟩, fun c => absurd c (by decide)⟩
    · exact ⟨fun c => absurd c (by decide), fun c => absurd c (by decide), fun _ => k_full (q := 2) h (by omega) (by rw [if_neg hf]; exact ⟨fun c => absurd c (by decide), fun _ => hS⟩), fun c => absurd c (by decide), fun c => absurd c (by decide), fun n1 n2 n3 n12 n15 n17 n19 => absurd rfl n15⟩
theorem eo_told {p : Nat} (h : Rel m I V) : EO m p I V 11 17 := by
  obtain ⟨n, f, hn, hf, e1, e2, -⟩ := h.2.2.2.1 4 (by omega)
  have e3 : I (m + 51) 3 = V 328 := e2.trans e1.symm
  by_cases hz : V 328 = 0
  · refine ⟨3, by omega, fun o b J S hb hS => ?_, fun S hS => ?_, fun c => absurd c (by omega)⟩
    · exact ⟨fun _ => ⟨fun c => absurd rfl c, fun _ => t_inQueue (q := 4) hb (by omega) ⟨fun c => absurd hz c, fun _ => hS⟩⟩, fun c => absurd c (by decide)⟩
    · exact ⟨fun c => absurd c (by decide), fun c => absurd c (by decide), fun c => absurd c (by decide), fun _ => ⟨fun c => absurd (e3.trans hz) c, fun _ => hS⟩, fun c => absurd c (by decide), fun n1 n2 n3 n12 n15 n17 n19 => absurd rfl n17⟩
  · refine ⟨0, by omega, fun o b J S hb hS => ?_, fun S hS => ?_, fun _ => ⟨fun c => absurd c (by decide), fun c => absurd c (by decide), fun _ => hz, fun c => absurd c (by decide), fun c => absurd c (by decide)⟩⟩
    · exact ⟨fun _ => ⟨fun c => absurd rfl c, fun _ => t_inQueue (q := 4) hb (by omega) ⟨fun _ => hS, fun c => absurd c hz⟩⟩, fun c => absurd c (by decide)⟩
    · exact ⟨fun c => absurd c (by decide), fun c => absurd c (by decide), fun c => absurd c (by decide), fun _ => ⟨fun _ => hS, fun c => absurd (e3.symm.trans c) hz⟩, fun c => absurd c (by decide), fun n1 n2 n3 n12 n15 n17 n19 => absurd rfl n17⟩
theorem eo_ask {p : Nat} (h : Rel m I V) (hp : p ≤ ix (V 48)) (ho : vOp V p = 7) : EO m p I V 13 19 := by
  obtain ⟨hsz, -⟩ := size_lt h.1
  obtain ⟨hlt, e0, b0, b1, b2, b3, r0, r1, r4, r6, r7⟩ := row_of h.1 hp (by rw [ho]; decide)
  rw [ho] at e0
  obtain ⟨f2, f3, f5, f4, -⟩ := r7 e0
  rw [show m + 1 + 9 + p = m + 10 + p by omega] at f2 f3 f5 f4
  obtain ⟨n, f, hn, hf, e1, e2, -⟩ := h.2.2.2.1 3 (by omega)
  have e1 : V 309 = nI n := e1
  have e2 : I (m + 48) 3 = nI n := e2
  have hs2 := vSends_le V (V (51 + 5 * p)) (V (52 + 5 * p))
  have K : ∀ (S : Int32 → Prop) (w : Int32), (w = if vSends V (V (51 + 5 * p)) (V (52 + 5 * p)) ≤ n then 0 else 1) → (w = 0 → (V 347 < V 177 → S 0) ∧ (¬ V 347 < V 177 → S 5)) → (¬ w = 0 → S 2) → w_X1_workerWaitsFor m 19 (m + 10 + p) I S := fun S w hw q1 q2 => by
    have a : w_X1_lacksCopies m (m + 10 + p) I (fun r12 => (r12 = 0 → (w_X3_isFull (m + 54) I (fun r16 => ((r16 = 0 → S 0) ∧ (¬ r16 = 0 → S 5))))) ∧ (¬ r12 = 0 → S 2)) := k_lacks h.2.1.1 e2 hn (by
      rw [f2, f3, ← hw]
      refine ⟨fun c => k_full (q := 5) h (by omega) ?_, q2⟩
      by_cases g : V 347 < V 177
      · rw [if_pos g]; exact ⟨fun _ => (q1 c).1 g, fun c => absurd rfl c⟩
      · rw [if_neg g]; exact ⟨fun c => absurd c (by decide), fun _ => (q1 c).2 g⟩)
    exact ⟨fun c => absurd c (by decide), fun c => absurd c (by decide), fun c => absurd c (by decide), fun c => absurd c (by decide), fun _ => a, fun n1 n2 n3 n12 n15 n17 n19 => absurd rfl n19⟩
  have M : ∀ (o b : Nat) (J : MI) (S : Int32 → Prop), b ≤ 1032 → (vSends V (V (51 + 5 * p)) (V (52 + 5 * p)) ≤ n → (V 347 < V 177 → S 0) ∧ (¬ V 347 < V 177 → S 5)) → (¬ vSends V (V (51 + 5 * p)) (V (52 + 5 * p)) ≤ n → S 2) → w_X10_excuse o (nI b) (nI p) 13 (kb J (o + 1) b V) S := fun o b J S hb q1 q2 => by
    refine ⟨fun _ => ⟨fun _ => ⟨fun _ => ⟨fun _ => ⟨fun _ => ?_, fun c => absurd rfl c⟩, fun c => absurd c (by decide)⟩, fun c => absurd c (by decide)⟩, fun c => absurd c (by decide)⟩, fun c => absurd c (by decide)⟩
    refine t_inQueue (q := 3) hb (by omega) (t_of' (k := 1) hb (by omega) (by omega) (t_of' (k := 2) hb (by omega) (by omega) ?_))
    rw [show 50 + 5 * p + 2 = 52 + 5 * p by omega, show 50 + 5 * p + 1 = 51 + 5 * p by omega, show 252 + 19 * 3 = 309 by omega, e1]
    refine t_sends hb ⟨fun c => t_isFull (q := 5) hb (by omega) ?_, fun c => q2 (fun g => c ((nI_leI (by omega) (by omega)).mpr g))⟩
    have q1 := q1 ((nI_leI (by omega) (by omega)).mp c)
    by_cases g : V 347 < V 177
    · rw [if_pos g]; exact ⟨fun _ => q1.1 g, fun c => absurd rfl c⟩
    · rw [if_neg g]; exact ⟨fun c => absurd c (by decide), fun _ => q1.2 g⟩
  by_cases g : vSends V (V (51 + 5 * p)) (V (52 + 5 * p)) ≤ n
  · by_cases g2 : V 347 < V 177
    · exact ⟨0, by omega, fun o b J S hb hS => M o b J S hb (fun _ => ⟨fun _ => hS, fun c => absurd g2 c⟩) (fun c => absurd g c), fun S hS => K S 0 (by rw [if_pos g]) (fun _ => ⟨fun _ => hS, fun c => absurd g2 c⟩) (fun c => absurd rfl c), fun _ => ⟨fun c => absurd c (by decide), fun c => absurd c (by decide), fun c => absurd c (by decide), fun _ => ⟨by rw [e1]; exact nI_le g (by omega), g2⟩, fun c => absurd c (by decide)⟩⟩
    · exact ⟨5, by omega, fun o b J S hb hS => M o b J S hb (fun _ => ⟨fun c => absurd c g2, fun _ => hS⟩) (fun c => absurd g c), fun S hS => K S 0 (by rw [if_pos g]) (fun _ => ⟨fun c => absurd c g2, fun _ => hS⟩) (fun c => absurd rfl c), fun c => absurd c (by omega)⟩
  · exact ⟨2, by omega, fun o b J S hb hS => M o b J S hb (fun c => absurd c g) (fun _ => hS), fun S hS => K S 1 (by rw [if_neg g]) (fun c => absurd c (by decide)) (fun _ => hS), fun c => absurd c (by omega)⟩
theorem p_excuse {p k : Nat} (h : Rel m I V) (hp : p ≤ ix (V 48)) (hk : k < vMany V 1 p) : EO m p I V (vDeed V 1 p k) (cKind (vOp V p) (vDeed V 1 p k)) := by
  have hk2 : k ≤ 2 := by have := vMany_le (V := V) (s := 1) (i := p); omega
  have hnz := (vMany_iff h.1 (s := 1) (by omega) hp hk2).mp hk
  rcases dc1 h.1 hp (k := k) with e | e
  · exact absurd e hnz
  rcases e with ⟨e, ho⟩ | ⟨e, ho⟩ | ⟨e, ho⟩ | ⟨e, ho⟩ | ⟨e, ho⟩ | ⟨e, ho⟩ | ⟨e, ho⟩
  · rw [e, ho]; exact eo_no 14 8 (by decide) (by decide) (by decide) (by decide) (by decide) (by decide) (by decide) (by decide) (by decide) (by decide) (by decide) (by decide)
  · rw [e, ho]; exact eo_no 9 6 (by decide) (by decide) (by decide) (by decide) (by decide) (by decide) (by decide) (by decide) (by decide) (by decide) (by decide) (by decide)
  · rw [e, ho]; exact eo_told h
  · rw [e, ho]; exact eo_ask h hp ho
  · rw [e, ho]; exact eo_come h hp
  · rw [e, ho]; exact eo_give h
  · rw [e]
    rcases ho with ho | ho
    · rw [ho]; exact eo_set h hp ho
    · exact eo_op h hp ho
end
