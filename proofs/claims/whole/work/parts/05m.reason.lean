/-! why the runner waits -/
section
variable {m : Nat} {I : MI} {V : Nat → Int32}
def Rdy (V : Nat → Int32) (d : Int32) : Prop := ((∃ r, r < 8 ∧ d = nI (1 + 16 * r)) → V 309 < V 175) ∧ (d = 4 → V 252 < V 172) ∧ (d = 6 ∨ d = 7 → V 271 < V 173) ∧ (d = 10 → V 328 < V 176) ∧ (d = 12 → ¬ V 347 = 0)
theorem row_of {p i : Nat} (h : RelR p I V) (hi : i ≤ ix (V 48)) (ho : ¬ vOp V i = 8) : i < ix (V 48) ∧ V (50 + 5 * i) = vOp V i ∧ RowR p i I V := by
  rcases vOp_row h hi with ⟨e, h8⟩ | ⟨hl, e⟩
  · exact absurd h8 ho
  · exact ⟨hl, e.symm, h.2.2.2.1 i hl⟩
theorem cell_bd {i : Nat} (hM : RelM m I V) (h2 : bd (V (52 + 5 * i)) 8) (h4 : bd (V (54 + 5 * i)) 32) : bd (vCell V i) 32 := by
  obtain ⟨e, hl⟩ := bd_ix h2 (by omega)
  obtain ⟨-, k, hk, ek⟩ := hM.1 _ hl
  obtain ⟨j, hj, ej⟩ := h4
  unfold vCell irm
  rw [ek, ej, nI_add, rem32 (by omega)]
  exact ⟨_, Nat.mod_lt _ (by omega), rfl⟩
theorem k_cellBy {i : Nat} {Q : Int32 → Prop} (hM : RelM m I V) (h2 : bd (V (52 + 5 * i)) 8) (e2 : I (m + 10 + i) 2 = V (52 + 5 * i)) (e4 : I (m + 10 + i) 4 = V (54 + 5 * i)) (h : Q (vCell V i)) : w_X0_cellBy (m + 10 + i) (m + 35) I Q := by
  obtain ⟨e, hl⟩ := bd_ix h2 (by omega)
  unfold w_X0_cellBy
  rw [e2, e4, (hM.1 _ hl).1]
  refine ⟨by rw [e]; exact inn hl (by omega), h⟩
theorem stored_eq {n f : Nat} {x : Int32} (hn : n ≤ 6) (e1 : V 271 = nI n) (hj : ∀ j, j < n → I (m + 43) ((f + j) % 6) = V (272 + 3 * j)) : qHas I (m + 42) f n x = vStored V x := by
  unfold qHas vStored
  rw [e1, ixn (by omega)]
  refine decide_eq_decide.mpr ⟨?_, ?_⟩
  · rintro ⟨j, hj1, hj2⟩; exact ⟨j, hj1, by rw [← hj j hj1]; exact hj2⟩
  · rintro ⟨j, hj1, hj2⟩; exact ⟨j, hj1, by rw [show m + 42 + 1 = m + 43 by omega, hj j hj1]; exact hj2⟩
theorem k_stored {x : Int32} {Q : Int32 → Prop} (h : Rel m I V) (hq : Q (if vStored V x = true then 1 else 0)) : w_X3_holds (m + 42) x I Q := by
  obtain ⟨n, f, hn, hf, e1, e2, e3, e4, e5, hj⟩ := h.2.2.2.1 1 (by omega)
  refine k_holds hn hf e2 e3 ?_
  rw [stored_eq hn e1 (fun j hj1 => (hj j hj1).1)]
  exact hq
theorem t_stored {o b : Nat} {J : MI} {x : Int32} {Q : Int32 → Prop} (h : Rel m I V) (hb : b ≤ 1032) (hq : Q (if vStored V x = true then 1 else 0)) : w_X10_isStored o (nI b) x (kb J (o + 1) b V) Q := by
  obtain ⟨n, f, hn, hf, e1, -⟩ := h.2.2.2.1 1 (by omega)
  exact t_isStored hb ⟨n, by omega, e1⟩ hq
theorem k_full {q : Nat} {Q : Int32 → Prop} (h : Rel m I V) (hq : q < 6) (hQ : Q (if V (252 + 19 * q) < V (172 + q) then 0 else 1)) : w_X3_isFull (m + 39 + 3 * q) I Q := by
  obtain ⟨n, f, hn, hf, e1, e2, e3, e4, e5, hj⟩ := h.2.2.2.1 q hq
  refine k_isFull ?_
  rw [e2, e4, ← e1]
  exact hQ
theorem cKind_send {op : Int32} {r : Nat} (hr : r < 8) : cKind op (nI (1 + 16 * r)) = 9 := by
  have h : ∀ d : Nat, 2 ≤ d → d ≤ 14 → ¬ nI (1 + 16 * r) = nI d := fun d h1 h2 c => by
    have := nI_inj (by omega) (by omega) c
    omega
  unfold cKind
  rw [if_neg (show ¬ nI (1 + 16 * r) = 2 from h 2 (by omega) (by omega)), if_neg (show ¬ nI (1 + 16 * r) = 3 from h 3 (by omega) (by omega)), if_neg (show ¬ nI (1 + 16 * r) = 4 from h 4 (by omega) (by omega)), if_neg (show ¬ nI (1 + 16 * r) = 5 from h 5 (by omega) (by omega)), if_neg (show ¬ nI (1 + 16 * r) = 6 from h 6 (by omega) (by omega)), if_neg (show ¬ nI (1 + 16 * r) = 7 from h 7 (by omega) (by omega)), if_neg (show ¬ nI (1 + 16 * r) = 8 from h 8 (by omega) (by omega)), if_neg (show ¬ nI (1 + 16 * r) = 9 from h 9 (by omega) (by omega)), if_neg (show ¬ nI (1 + 16 * r) = 10 from h 10 (by omega) (by omega)), if_neg (show ¬ nI (1 + 16 * r) = 11 from h 11 (by omega) (by omega)), if_neg (show ¬ nI (1 + 16 * r) = 12 from h 12 (by omega) (by omega)), if_neg (show ¬ nI (1 + 16 * r) = 13 from h 13 (by omega) (by omega)), if_neg (show ¬ nI (1 + 16 * r) = 14 from h 14 (by omega) (by omega))]
theorem send_mod {r : Nat} (hr : r < 8) : nI (1 + 16 * r) - nI (1 + 16 * r) / (16 : Int32) * (16 : Int32) = 1 := by
  have := rem_nI (a := 1 + 16 * r) (d := 16) (by omega) (by omega) (by omega)
  rw [show (1 + 16 * r) % 16 = 1 by omega] at this
  exact this
/-- what trying ends with -/
def RO (m p : Nat) (I : MI) (V : Nat → Int32) (x kd d : Int32) : Prop := ∃ (r : Nat) (I' : MI) (V' : Nat → Int32), r ≤ 7 ∧ (∀ (o b : Nat) (J : MI) (S : Int32 → MI → Prop), b ≤ 1032 → S (nI r) (kb J (o + 1) b V') → w_X10_reason o (nI b) (nI p) x (kb J (o + 1) b V) S) ∧ (∀ S : Int32 → MI → Prop, S (nI r) I' → w_X1_runnerWaitsFor m kd (m + 10 + p) I S) ∧ Rel m I' V' ∧ (∀ c, c ≠ m → I' c = I c) ∧ (∀ j, j ≠ 13 → j ≠ 14 → I' m j = I m j) ∧ (∀ j, j ≠ 250 → j ≠ 251 → V' j = V j) ∧ (r = 0 → Rdy V' d)
theorem RO.same {p r : Nat} {x kd d : Int32} (h : Rel m I V) (hr : r ≤ 7) (hm : ∀ (o b : Nat) (J : MI) (S : Int32 → MI → Prop), b ≤ 1032 → S (nI r) (kb J (o + 1) b V) → w_X10_reason o (nI b) (nI p) x (kb J (o + 1) b V) S) (hc : ∀ S : Int32 → MI → Prop, S (nI r) I → w_X1_runnerWaitsFor m kd (m + 10 + p) I S) (hd : r = 0 → Rdy V d) : RO m p I V x kd d := ⟨r, I, V, hr, hm, hc, h, fun _ _ => rfl, fun _ _ _ => rfl, fun _ _ _ => rfl, hd⟩
theorem rdy_c {d : Int32} (h1 : ∀ r, r < 8 → ¬ d = nI (1 + 16 * r)) (h2 : d = 4 → V 252 < V 172) (h3 : d = 6 ∨ d = 7 → V 271 < V 173) (h4 : d = 10 → V 328 < V 176) (h5 : d = 12 → ¬ V 347 = 0) : Rdy V d := ⟨fun ⟨r, hr, e⟩ => absurd e (h1 r hr), h2, h3, h4, h5⟩
theorem nsend {d : Nat} (h1 : 2 ≤ d) (h2 : d ≤ 14) : ∀ r, r < 8 → ¬ nI d = nI (1 + 16 * r) := fun r hr c => by
  have := nI_inj (by omega) (by omega) c
  omega
theorem ro_send {p : Nat} {op : Int32} {r : Nat} (h : Rel m I V) (hr : r < 8) : RO m p I V 1 (cKind op (nI (1 + 16 * r))) (nI (1 + 16 * r)) := by
  rw [cKind_send hr]
  by_cases hf : V 309 < V 175
  · refine RO.same (r := 0) h (by omega) (fun o b J S hb hS => ?_) (fun S hS => ?_) (fun _ => ⟨fun _ => hf, fun c => ?_, fun c => ?_, fun c => ?_, fun c => ?_⟩)
    · exact ⟨fun c => absurd rfl c, fun _ => t_isFull (q := 3) hb (by omega) (by rw [if_pos hf]; exact ⟨fun _ => hS, fun c => absurd rfl c⟩)⟩
    · exact ⟨fun _ => k_full (q := 3) h (by omega) (by rw [if_pos hf]; exact ⟨fun _ => hS, fun c => absurd rfl c⟩), fun c => absurd c (by decide), fun c => absurd c (by decide), fun c => absurd c (by decide), fun c => absurd c (by decide), fun c => absurd c (by decide), fun c => absurd rfl c⟩
    · exact absurd c.symm (nsend (d := 4) (by omega) (by omega) r hr)
    · exact absurd c (fun c => c.elim (fun c => nsend (d := 6) (by omega) (by omega) r hr c.symm) (fun c => nsend (d := 7) (by omega) (by omega) r hr c.symm))
    · exact absurd c.symm (nsend (d := 10) (by omega) (by omega) r hr)
    · exact absurd c.symm (nsend (d := 12) (by omega) (by omega) r hr)
  · refine RO.same (r := 3) h (by omega) (fun o b J S hb hS => ?_) (fun S hS => ?_) (fun c => absurd c (by omega))
    · exact ⟨fun c => absurd rfl c, fun _ => t_isFull (q := 3) hb (by omega) (by rw [if_neg hf]; exact ⟨fun c => absurd c (by decide), fun _ => hS⟩)⟩
    · exact ⟨fun _ => k_full (q := 3) h (by omega) (by rw [if_neg hf]; exact ⟨fun c => absurd c (by decide), fun _ => hS⟩), fun c => absurd c (by decide), fun c => absurd c (by decide), fun c => absurd c (by decide), fun c => absurd c (by decide), fun c => absurd c (by decide), fun c => absurd rfl c⟩
theorem w_reason_no {o b p : Nat} {J : MI} {x : Int32} {S : Int32 → MI → Prop} (n1 : ¬ x = 1) (n7 : ¬ x = 7) (n6 : ¬ x = 6) (n10 : ¬ x = 10) (n12 : ¬ x = 12) (n4 : ¬ x = 4) (n3 : ¬ x = 3) (h : S 0 J) : w_X10_reason o (nI b) (nI p) x J S :=
  ⟨fun _ => ⟨fun c => absurd c n7, fun _ => ⟨fun _ => ⟨fun _ => ⟨fun _ => ⟨fun _ => ⟨fun c => absurd c n3, fun _ => h⟩, fun c => absurd c n4⟩, fun c => absurd c n12⟩, fun c => absurd c n10⟩, fun c => absurd c n6⟩⟩, fun c => absurd c n1⟩
theorem k_reason_no {a : Nat} {x : Int32} {S : Int32 → MI → Prop} (n1 : ¬ x = 9) (n2 : ¬ x = 10) (n3 : ¬ x = 11) (n4 : ¬ x = 13) (n5 : ¬ x = 14) (n6 : ¬ x = 16) (n7 : ¬ x = 18) (h : S 0 I) : w_X1_runnerWaitsFor m x a I S :=
  ⟨fun c => absurd c n1, fun c => absurd c n2, fun c => absurd c n3, fun c => absurd c (fun c => c.elim n4 n5), fun c => absurd c n6, fun c => absurd c n7, fun _ _ _ _ _ _ _ => h⟩
theorem ro_store {p d kd : Nat} (h : Rel m I V) (hd : d = 6 ∧ kd = 13 ∨ d = 7 ∧ kd = 14) : RO m p I V (nI d) (nI kd) (nI d) := by
  by_cases hf : V 271 < V 173
  · refine RO.same (r := 0) h (by omega) (fun o b J S hb hS => ?_) (fun S hS => ?_) (fun _ => ?_)
    · have hF := t_isFull (q := 1) (V := V) (o := o) (I := J) (Q := fun r => (r = 0 → S 0 (kb J (o + 1) b V)) ∧ (¬ r = 0 → S 2 (kb J (o + 1) b V))) hb (by omega) (by rw [if_pos hf]; exact ⟨fun _ => hS, fun c => absurd rfl c⟩)
      rcases hd with ⟨rfl, rfl⟩ | ⟨rfl, rfl⟩
      · exact ⟨fun _ => ⟨fun c => absurd c (by decide), fun _ => ⟨fun c => absurd rfl c, fun _ => hF⟩⟩, fun c => absurd c (by decide)⟩
      · exact ⟨fun _ => ⟨fun _ => hF, fun c => absurd rfl c⟩, fun c => absurd c (by decide)⟩
    · have hF := k_full (q := 1) (Q := fun r => (r = 0 → S 0 I) ∧ (¬ r = 0 → S 2 I)) h (by omega) (by rw [if_pos hf]; exact ⟨fun _ => hS, fun c => absurd rfl c⟩)
      rcases hd with ⟨rfl, rfl⟩ | ⟨rfl, rfl⟩
      · exact ⟨fun c => absurd c (by decide), fun c => absurd c (by decide), fun c => absurd c (by decide), fun _ => hF, fun c => absurd c (by decide), fun c => absurd c (by decide), fun _ _ _ c => absurd rfl c⟩
      · exact ⟨fun c => absurd c (by decide), fun c => absurd c (by decide), fun c => absurd c (by decide), fun _ => hF, fun c => absurd c (by decide), fun c => absurd c (by decide), fun _ _ _ _ c => absurd rfl c⟩
    · refine rdy_c (nsend (by omega) (by omega)) (fun c => ?_) (fun _ => hf) (fun c => ?_) (fun c => ?_)
      all_goals rcases hd with ⟨rfl, rfl⟩ | ⟨rfl, rfl⟩ <;> exact absurd c (by decide)
  · refine RO.same (r := 2) h (by omega) (fun o b J S hb hS => ?_) (fun S hS => ?_) (fun c => absurd c (by omega))
    · have hF := t_isFull (q := 1) (V := V) (o := o) (I := J) (Q := fun r => (r = 0 → S 0 (kb J (o + 1) b V)) ∧ (¬ r = 0 → S 2 (kb J (o + 1) b V))) hb (by omega) (by rw [if_neg hf]; exact ⟨fun c => absurd c (by decide), fun _ => hS⟩)
      rcases hd with ⟨rfl, rfl⟩ | ⟨rfl, rfl⟩
      · exact ⟨fun _ => ⟨fun c => absurd c (by decide), fun _ => ⟨fun c => absurd rfl c, fun _ => hF⟩⟩, fun c => absurd c (by decide)⟩
      · exact ⟨fun _ => ⟨fun _ => hF, fun c => absurd rfl c⟩, fun c => absurd c (by decide)⟩
    · have hF := k_full (q := 1) (Q := fun r => (r = 0 → S 0 I) ∧ (¬ r = 0 → S 2 I)) h (by omega) (by rw [if_neg hf]; exact ⟨fun c => absurd c (by decide), fun _ => hS⟩)
      rcases hd with ⟨rfl, rfl⟩ | ⟨rfl, rfl⟩
      · exact ⟨fun c => absurd c (by decide), fun c => absurd c (by decide), fun c => absurd c (by decide), fun _ => hF, fun c => absurd c (by decide), fun c => absurd c (by decide), fun _ _ _ c => absurd rfl c⟩
      · exact ⟨fun c => absurd c (by decide), fun c => absurd c (by decide), fun c => absurd c (by decide), fun _ => hF, fun c => absurd c (by decide), fun c => absurd c (by decide), fun _ _ _ _ c => absurd rfl c⟩
theorem ro_told {p : Nat} (h : Rel m I V) : RO m p I V 10 16 10 := by
  by_cases hf : V 328 < V 176
  · refine RO.same (r := 0) h (by omega) (fun o b J S hb hS => ?_) (fun S hS => ?_) (fun _ => ?_)
    · exact ⟨fun _ => ⟨fun c => absurd c (by decide), fun _ => ⟨fun _ => ⟨fun c => absurd rfl c, fun _ => t_isFull (q := 4) hb (by omega) (by rw [if_pos hf]; exact ⟨fun _ => hS, fun c => absurd rfl c⟩)⟩, fun c => absurd c (by decide)⟩⟩, fun c => absurd c (by decide)⟩
    · exact ⟨fun c => absurd c (by decide), fun c => absurd c (by decide), fun c => absurd c (by decide), fun c => absurd c (by decide), fun _ => k_full (q := 4) h (by omega) (by rw [if_pos hf]; exact ⟨fun _ => hS, fun c => absurd rfl c⟩), fun c => absurd c (by decide), fun _ _ _ _ _ c => absurd rfl c⟩
    · exact rdy_c (nsend (d := 10) (by omega) (by omega)) (fun c => absurd c (by decide)) (fun c => absurd c (by decide)) (fun _ => hf) (fun c => absurd c (by decide))
  · refine RO.same (r := 4) h (by omega) (fun o b J S hb hS => ?_) (fun S hS => ?_) (fun c => absurd c (by omega))
    · exact ⟨fun _ => ⟨fun c => absurd c (by decide), fun _ => ⟨fun _ => ⟨fun c => absurd rfl c, fun _ => t_isFull (q := 4) hb (by omega) (by rw [if_neg hf]; exact ⟨fun c => absurd c (by decide), fun _ => hS⟩)⟩, fun c => absurd c (by decide)⟩⟩, fun c => absurd c (by decide)⟩
    · exact ⟨fun c => absurd c (by decide), fun c => absurd c (by decide), fun c => absurd c (by decide), fun c => absurd c (by decide), fun _ => k_full (q := 4) h (by omega) (by rw [if_neg hf]; exact ⟨fun c => absurd c (by decide), fun _ => hS⟩), fun c => absurd c (by decide), fun _ _ _ _ _ c => absurd rfl c⟩
theorem ro_ask {p : Nat} (h : Rel m I V) : RO m p I V 12 18 12 := by
  obtain ⟨n, f, hn, hf, e1, e2, -⟩ := h.2.2.2.1 5 (by omega)
  have e3 : I (m + 54) 3 = V 347 := e2.trans e1.symm
  by_cases hz : V 347 = 0
  · refine RO.same (r := 5) h (by omega) (fun o b J S hb hS => ?_) (fun S hS => ?_) (fun c => absurd c (by omega))
    · exact ⟨fun _ => ⟨fun c => absurd c (by decide), fun _ => ⟨fun _ => ⟨fun _ => ⟨fun c => absurd rfl c, fun _ => t_inQueue (q := 5) hb (by omega) ⟨fun c => absurd hz c, fun _ => hS⟩⟩, fun c => absurd c (by decide)⟩, fun c => absurd c (by decide)⟩⟩, fun c => absurd c (by decide)⟩
    · exact ⟨fun c => absurd c (by decide), fun c => absurd c (by decide), fun c => absurd c (by decide), fun c => absurd c (by decide), fun c => absurd c (by decide), fun _ => ⟨fun c => absurd (e3.trans hz) c, fun _ => hS⟩, fun _ _ _ _ _ _ c => absurd rfl c⟩
  · refine RO.same (r := 0) h (by omega) (fun o b J S hb hS => ?_) (fun S hS => ?_) (fun _ => ?_)
    · exact ⟨fun _ => ⟨fun c => absurd c (by decide), fun _ => ⟨fun _ => ⟨fun _ => ⟨fun c => absurd rfl c, fun _ => t_inQueue (q := 5) hb (by omega) ⟨fun _ => hS, fun c => absurd c hz⟩⟩, fun c => absurd c (by decide)⟩, fun c => absurd c (by decide)⟩⟩, fun c => absurd c (by decide)⟩
    · exact ⟨fun c => absurd c (by decide), fun c => absurd c (by decide), fun c => absurd c (by decide), fun c => absurd c (by decide), fun c => absurd c (by decide), fun _ => ⟨fun _ => hS, fun c => absurd (e3.symm.trans c) hz⟩, fun _ _ _ _ _ _ c => absurd rfl c⟩
    · exact rdy_c (nsend (d := 12) (by omega) (by omega)) (fun c => absurd c (by decide)) (fun c => absurd c (by decide)) (fun c => absurd c (by decide)) (fun _ => hz)
theorem ro_load {p : Nat} (h : Rel m I V) (hp : p ≤ ix (V 48)) (ho : vOp V p = 4) : RO m p I V 4 11 4 := by
  obtain ⟨hl, e0, b0, b1, b2, b3, r0, r1, r4, -⟩ := row_of h.1 hp (by rw [ho]; decide)
  obtain ⟨hsz, -⟩ := size_lt h.1
  rw [ho] at e0
  obtain ⟨f1, f2, f4, b4⟩ := r4 (Or.inl e0)
  rw [show m + 1 + 9 + p = m + 10 + p by omega] at f1 f2 f4
  have Km : ∀ (o b : Nat) (J : MI) (S : Int32 → MI → Prop), b ≤ 1032 → ((if vStored V (vCell V p) = true then (1 : Int32) else 0) = 0 → (V 252 < V 172 → S 0 (kb J (o + 1) b V)) ∧ (¬ V 252 < V 172 → S 1 (kb J (o + 1) b V))) → (¬ (if vStored V (vCell V p) = true then (1 : Int32) else 0) = 0 → S 6 (kb J (o + 1) b V)) → w_X10_reason o (nI b) (nI p) 4 (kb J (o + 1) b V) S := fun o b J S hb h1 h2 =>
    ⟨fun _ => ⟨fun c => absurd c (by decide), fun _ => ⟨fun _ => ⟨fun _ => ⟨fun _ => ⟨fun c => absurd rfl c, fun _ => t_cellOf hb (by omega) b2 (t_stored h hb ⟨fun c => t_isFull (q := 0) hb (by omega) ⟨fun c2 => (h1 c).1 (by by_cases g : V 252 < V 172; exact g; rw [if_neg g] at c2; exact absurd c2 (by decide)), fun c2 => (h1 c).2 (fun g => by rw [if_pos g] at c2; exact absurd rfl c2)⟩, h2⟩)⟩, fun c => absurd c (by decide)⟩, fun c => absurd c (by decide)⟩, fun c => absurd c (by decide)⟩⟩, fun c => absurd c (by decide)⟩
  have Kc : ∀ (S : Int32 → MI → Prop), ((if vStored V (vCell V p) = true then (1 : Int32) else 0) = 0 → (V 252 < V 172 → S 0 I) ∧ (¬ V 252 < V 172 → S 1 I)) → (¬ (if vStored V (vCell V p) = true then (1 : Int32) else 0) = 0 → S 6 I) → w_X1_runnerWaitsFor m 11 (m + 10 + p) I S := fun S h1 h2 =>
    ⟨fun c => absurd c (by decide), fun c => absurd c (by decide), fun _ => k_cellBy h.2.2.1 b2 f2 f4 (k_stored h ⟨fun c => k_full (q := 0) h (by omega) ⟨fun c2 => (h1 c).1 (by by_cases g : V 252 < V 172; exact g; rw [if_neg g] at c2; exact absurd c2 (by decide)), fun c2 => (h1 c).2 (fun g => by rw [if_pos g] at c2; exact absurd rfl c2)⟩, h2⟩), fun c => absurd c (by decide), fun c => absurd c (by decide), fun c => absurd c (by decide), fun _ _ c => absurd rfl c⟩
  by_cases hs' : vStored V (vCell V p) = true
  · rw [if_pos hs'] at Km Kc
    exact RO.same (r := 6) h (by omega) (fun o b J S hb hS => Km o b J S hb (fun c => absurd c (by decide)) (fun _ => hS)) (fun S hS => Kc S (fun c => absurd c (by decide)) (fun _ => hS)) (fun c => absurd c (by omega))
  · rw [if_neg hs'] at Km Kc
    by_cases hf : V 252 < V 172
    · refine RO.same (r := 0) h (by omega) (fun o b J S hb hS => Km o b J S hb (fun _ => ⟨fun _ => hS, fun c => absurd hf c⟩) (fun c => absurd rfl c)) (fun S hS => Kc S (fun _ => ⟨fun _ => hS, fun c => absurd hf c⟩) (fun c => absurd rfl c)) (fun _ => ?_)
      exact rdy_c (nsend (d := 4) (by omega) (by omega)) (fun _ => hf) (fun c => absurd c (by decide)) (fun c => absurd c (by decide)) (fun c => absurd c (by decide))
    · exact RO.same (r := 1) h (by omega) (fun o b J S hb hS => Km o b J S hb (fun _ => ⟨fun c => absurd c hf, fun _ => hS⟩) (fun c => absurd rfl c)) (fun S hS => Kc S (fun _ => ⟨fun c => absurd c hf, fun _ => hS⟩) (fun c => absurd rfl c)) (fun c => absurd c (by omega))
theorem ro_fetch {p : Nat} (h : Rel m I V) (hp : p ≤ ix (V 48)) (ho : vOp V p = 4) : RO m p I V 3 10 3 := by
  obtain ⟨hl, e0, b0, b1, b2, b3, r0, r1, r4, -⟩ := row_of h.1 hp (by rw [ho]; decide)
  obtain ⟨hsz, -⟩ := size_lt h.1
  rw [ho] at e0
  obtain ⟨f1, f2, f4, b4⟩ := r4 (Or.inl e0)
  rw [show m + 1 + 9 + p = m + 10 + p by omega] at f1 f2 f4
  have rd : ∀ V', Rdy V' 3 := fun V' => rdy_c (nsend (d := 3) (by omega) (by omega)) (fun c => absurd c (by decide)) (fun c => absurd c (by decide)) (fun c => absurd c (by decide)) (fun c => absurd c (by decide))
  have P1 : ∀ (V : Nat → Int32) (o b : Nat) (J : MI) (S : Int32 → MI → Prop), b ≤ 1032 → (V 0 ≤ V 170 - V 250 → S 0 (kb J (o + 1) b V)) → (¬ V 0 ≤ V 170 - V 250 → S 7 (kb J (o + 1) b V)) → w_X10_reason_p213 o (nI b) (kb J (o + 1) b V) S := fun V o b J S hb h1 h2 => by
    unfold w_X10_reason_p213
    simp only [lit, nI_add]
    rw [kg hb (by omega), kg hb (by omega), kg hb (by omega)]
    exact ⟨kin hb (by omega), kin hb (by omega), kin hb (by omega), h1, h2⟩
  have A3 : ∀ (o b : Nat) (J : MI) (S : Int32 → MI → Prop), b ≤ 1032 → (¬ V 250 = -1 → w_X10_reason_p213 o (nI b) (kb J (o + 1) b V) S) → (V 250 = -1 → ((if vStored V (vCell V p) = true then (1 : Int32) else 0) = 0 → w_X10_reason_p213 o (nI b) (kb J (o + 1) b (upd (upd V 250 (V 170)) 251 (V (178 + ix (vCell V p))))) S) ∧ (¬ (if vStored V (vCell V p) = true then (1 : Int32) else 0) = 0 → S 6 (kb J (o + 1) b V))) → w_X10_reason o (nI b) (nI p) 3 (kb J (o + 1) b V) S := fun o b J S hb h1 h2 => by
    refine ⟨fun _ => ⟨fun c => absurd c (by decide), fun _ => ⟨fun _ => ⟨fun _ => ⟨fun _ => ⟨fun _ => ⟨fun _ => ?_, fun c => absurd rfl c⟩, fun c => absurd c (by decide)⟩, fun c => absurd c (by decide)⟩, fun c => absurd c (by decide)⟩, fun c => absurd c (by decide)⟩⟩, fun c => absurd c (by decide)⟩
    have e250 : (kb J (o + 1) b V) (o + 1) (ix (nI b + 250)) = V 250 := by simp only [lit, nI_add]; rw [kg hb (by omega)]
    have e170 : (kb J (o + 1) b V) (o + 1) (ix (nI b + 170)) = V 170 := by simp only [lit, nI_add]; rw [kg hb (by omega)]
    have i250 : vp_in (nI b + 250) 4905 := by simp only [lit, nI_add]; exact kin hb (by omega)
    have i251 : vp_in (nI b + 251) 4905 := by simp only [lit, nI_add]; exact kin hb (by omega)
    have i170 : vp_in (nI b + 170) 4905 := by simp only [lit, nI_add]; exact kin hb (by omega)
    rw [e250, e170]
    refine ⟨i250, h1, fun c => t_cellOf hb (by omega) b2 (t_stored h hb ⟨fun c2 => ⟨i170, i250, ?_⟩, (h2 c).2⟩)⟩
    rintro _ rfl
    obtain ⟨ec, hc⟩ := bd_ix (cell_bd h.2.2.1 b2 b4) (by omega)
    have hv : vCell (upd V 250 (V 170)) p = vCell V p := by
      obtain ⟨e, hl2⟩ := bd_ix b2 (by omega)
      unfold vCell
      rw [upd_n _ _ (show 52 + 5 * p ≠ 250 by omega), upd_n _ _ (show 54 + 5 * p ≠ 250 by omega), upd_n _ _ (show 210 + ix (V (52 + 5 * p)) ≠ 250 by omega)]
    rw [show ui (kb J (o + 1) b V) (o + 1) (ix (nI b + 250)) (V 170) = kb J (o + 1) b (upd V 250 (V 170)) by simp only [lit, nI_add]; rw [kx hb (by omega)]]
    refine t_cellOf hb (by omega) (by rw [upd_n _ _ (by omega)]; exact b2) ?_
    rw [hv]
    have e178 : nI b + 178 + vCell V p = nI (b + (178 + ix (vCell V p))) := by
      conv => lhs; rw [ec]
      simp only [lit, nI_add]; congr 1; omega
    rw [e178]
    refine ⟨kin hb (by omega), i251, ?_⟩
    rintro _ rfl
    rw [kg hb (by omega), show nI b + 251 = nI (b + 251) by simp only [lit, nI_add], kx hb (by omega), upd_n V _ (show 178 + ix (vCell V p) ≠ 250 by omega)]
    exact (h2 c).1 c2
  have C3 : ∀ (S : Int32 → MI → Prop), w_X1_fetchWaitsFor m (m + 10 + p) I S → w_X1_runnerWaitsFor m 10 (m + 10 + p) I S := fun S hS => ⟨fun c => absurd c (by decide), fun _ => hS, fun c => absurd c (by decide), fun c => absurd c (by decide), fun c => absurd c (by decide), fun c => absurd c (by decide), fun _ c => absurd rfl c⟩
  have hM := h.2.2.1
  obtain ⟨a1, a2, a3, a4, a5, a6, a7, a8, a9, a10, a11, a12, a13, a14, a15, a16, a17, a18, a19⟩ := h.2.2.1
  by_cases hbeg : V 250 = -1
  · by_cases hs' : vStored V (vCell V p) = true
    · rw [if_pos hs'] at A3
      refine RO.same (r := 6) h (by omega) (fun o b J S hb hS => A3 o b J S hb (fun c => absurd hbeg c) (fun _ => ⟨fun c => absurd c (by decide), fun _ => hS⟩)) (fun S hS => C3 S ⟨fun c => absurd (a15.trans hbeg) c, fun _ => k_cellBy hM b2 f2 f4 (k_stored h (by rw [if_pos hs']; exact ⟨fun c => absurd c (by decide), fun _ => hS⟩))⟩) (fun c => absurd c (by omega))
    · rw [if_neg hs'] at A3
      obtain ⟨ec, hc⟩ := bd_ix (cell_bd hM b2 b4) (by omega)
      have h1 := h.mm (c := m) (j := 250) (Or.inl rfl) (by omega) (hM.began (x := V 170) (Or.inr a4))
      have h2 := h1.mm (c := m) (j := 251) (Or.inl rfl) (by omega) (h1.2.2.1.brings (x := V (178 + ix (vCell V p))) (a2 _ hc).2)
      have hc2 : ∀ S : Int32 → MI → Prop, (V 0 ≤ V 170 - V 170 → S 0 (ui (ui I m 13 (V 170)) m 14 (V (178 + ix (vCell V p))))) → (¬ V 0 ≤ V 170 - V 170 → S 7 (ui (ui I m 13 (V 170)) m 14 (V (178 + ix (vCell V p))))) → w_X1_runnerWaitsFor m 10 (m + 10 + p) I S := fun S g1 g2 => by
        refine C3 S ⟨fun c => absurd (a15.trans hbeg) c, fun _ => k_cellBy hM b2 f2 f4 (k_stored h ?_)⟩
        rw [if_neg hs']
        refine ⟨fun _ => ?_, fun c => absurd rfl c⟩
        rintro _ rfl
        refine ⟨by rw [ec]; exact inn hc (by omega), ?_⟩
        rintro _ rfl
        rw [a3, ui_ne _ _ _ (show m + 36 ≠ m by omega), (a2 _ hc).1, ui_gj _ _ _ (show (7 : Nat) ≠ 14 by omega), ui_gj _ _ _ (show (7 : Nat) ≠ 13 by omega), ui_gj _ _ _ (show (5 : Nat) ≠ 14 by omega), ui_gj _ _ _ (show (5 : Nat) ≠ 13 by omega), ui_gj _ _ _ (show (13 : Nat) ≠ 14 by omega), ui_gs, a3, a8]
        exact ⟨g1, g2⟩
      have w0 : (upd (upd V 250 (V 170)) 251 (V (178 + ix (vCell V p)))) 0 = V 0 := by rw [upd_n _ _ (by omega), upd_n _ _ (by omega)]
      have w1 : (upd (upd V 250 (V 170)) 251 (V (178 + ix (vCell V p)))) 170 = V 170 := by rw [upd_n _ _ (by omega), upd_n _ _ (by omega)]
      have w2 : (upd (upd V 250 (V 170)) 251 (V (178 + ix (vCell V p)))) 250 = V 170 := by rw [upd_n _ _ (by omega), upd_s]
      by_cases hlate : V 0 ≤ V 170 - V 170
      · refine ⟨0, _, _, by omega, fun o b J S hb hS => A3 o b J S hb (fun c => absurd hbeg c) (fun _ => ⟨fun _ => P1 _ o b J S hb (fun _ => hS) (fun c => absurd (by rw [w0, w1, w2]; exact hlate) c), fun c => absurd rfl c⟩), fun S hS => hc2 S (fun _ => hS) (fun c => absurd hlate c), h2, fun c hcc => ?_, fun j h1 h2 => ?_, fun j h1 h2 => ?_, fun _ => rd _⟩
        · rw [ui_ne _ _ _ hcc, ui_ne _ _ _ hcc]
        · rw [ui_gj _ _ _ h2, ui_gj _ _ _ h1]
        · rw [upd_n _ _ h2, upd_n _ _ h1]
      · refine ⟨7, _, _, by omega, fun o b J S hb hS => A3 o b J S hb (fun c => absurd hbeg c) (fun _ => ⟨fun _ => P1 _ o b J S hb (fun c => absurd (by rw [w0, w1, w2] at c; exact c) hlate) (fun _ => hS), fun c => absurd rfl c⟩), fun S hS => hc2 S (fun c => absurd c hlate) (fun _ => hS), h2, fun c hcc => ?_, fun j h1 h2 => ?_, fun j h1 h2 => ?_, fun c => absurd c (by omega)⟩
        · rw [ui_ne _ _ _ hcc, ui_ne _ _ _ hcc]
        · rw [ui_gj _ _ _ h2, ui_gj _ _ _ h1]
        · rw [upd_n _ _ h2, upd_n _ _ h1]
  · have hc2 : ∀ S : Int32 → MI → Prop, (V 0 ≤ V 170 - V 250 → S 0 I) → (¬ V 0 ≤ V 170 - V 250 → S 7 I) → w_X1_runnerWaitsFor m 10 (m + 10 + p) I S := fun S g1 g2 => by
      refine C3 S ?_
      unfold w_X1_fetchWaitsFor
      rw [a3, a8, a15]
      exact ⟨fun _ => ⟨g1, g2⟩, fun c => absurd c hbeg⟩
    by_cases hlate : V 0 ≤ V 170 - V 250
    · exact RO.same (r := 0) h (by omega) (fun o b J S hb hS => A3 o b J S hb (fun _ => P1 V o b J S hb (fun _ => hS) (fun c => absurd hlate c)) (fun c => absurd c hbeg)) (fun S hS => hc2 S (fun _ => hS) (fun c => absurd hlate c)) (fun _ => rd _)
    · exact RO.same (r := 7) h (by omega) (fun o b J S hb hS => A3 o b J S hb (fun _ => P1 V o b J S hb (fun c => absurd c hlate) (fun _ => hS)) (fun c => absurd c hbeg)) (fun S hS => hc2 S (fun c => absurd c hlate) (fun _ => hS)) (fun c => absurd c (by omega))
theorem p_reason {p k : Nat} (h : Rel m I V) (hp : p ≤ ix (V 48)) (hk : k < vMany V 0 p) : RO m p I V (vDeed V 0 p k - vDeed V 0 p k / 16 * 16) (cKind (vOp V p) (vDeed V 0 p k)) (vDeed V 0 p k) := by
  have hk2 : k ≤ 2 := by have := vMany_le (V := V) (s := 0) (i := p); omega
  have hnz := (vMany_iff h.1 (s := 0) (by omega) hp hk2).mp hk
  have rno : ∀ (d : Nat) (kd : Int32), 2 ≤ d → d ≤ 14 → ¬ d = 3 → ¬ d = 4 → ¬ d = 6 → ¬ d = 7 → ¬ d = 10 → ¬ d = 12 → ¬ kd = 9 → ¬ kd = 10 → ¬ kd = 11 → ¬ kd = 13 → ¬ kd = 14 → ¬ kd = 16 → ¬ kd = 18 → RO m p I V (nI d) kd (nI d) := fun d kd g1 g2 n3 n4 n6 n7 n10 n12 k1 k2 k3 k4 k5 k6 k7 => by
    have ne : ∀ j : Nat, j < 20 → ¬ d = j → ¬ nI d = nI j := fun j hj hn c => hn (nI_inj (by omega) (by omega) c)
    refine RO.same (r := 0) h (by omega) (fun o b J S hb hS => w_reason_no (ne 1 (by omega) (by omega)) (ne 7 (by omega) n7) (ne 6 (by omega) n6) (ne 10 (by omega) n10) (ne 12 (by omega) n12) (ne 4 (by omega) n4) (ne 3 (by omega) n3) hS) (fun S hS => k_reason_no k1 k2 k3 k4 k5 k6 k7 hS) (fun _ => ?_)
    exact rdy_c (nsend g1 g2) (fun c => absurd c (ne 4 (by omega) n4)) (fun c => absurd c (fun c => c.elim (ne 6 (by omega) n6) (ne 7 (by omega) n7))) (fun c => absurd c (ne 10 (by omega) n10)) (fun c => absurd c (ne 12 (by omega) n12))
  rcases dc0 h.1 hp (k := k) with e | e
  · exact absurd e hnz
  rcases e with ⟨e, ho⟩ | ⟨e, ho⟩ | ⟨e, ho⟩ | ⟨e, ho⟩ | ⟨r, hr, e, ho⟩ | ⟨e, ho⟩ | ⟨e, ho⟩ | ⟨e, ho⟩ | ⟨e, ho⟩ | ⟨e, ho⟩
  · rw [e, ho]; exact rno 14 8 (by omega) (by omega) (by omega) (by omega) (by omega) (by omega) (by omega) (by omega) (by decide) (by decide) (by decide) (by decide) (by decide) (by decide) (by decide)
  · rw [e, ho]; exact rno 9 6 (by omega) (by omega) (by omega) (by omega) (by omega) (by omega) (by omega) (by omega) (by decide) (by decide) (by decide) (by decide) (by decide) (by decide) (by decide)
  · rw [e, ho]; exact ro_told h
  · rw [e, ho]; exact ro_ask h
  · rw [e, send_mod hr]; exact ro_send h hr
  · rw [e]
    have := ro_fetch h hp ho
    rw [ho]; exact this
  · rw [e, ho]; exact ro_store (d := 6) (kd := 13) h (Or.inl ⟨rfl, rfl⟩)
  · rw [e]
    rcases ho with ho | ho | ho | ho <;> rw [ho] <;> exact rno 2 _ (by omega) (by omega) (by omega) (by omega) (by omega) (by omega) (by omega) (by omega) (by decide) (by decide) (by decide) (by decide) (by decide) (by decide) (by decide)
  · rw [e]
    have := ro_load h hp ho
    rw [ho]; exact this
  · rw [e, ho]; exact ro_store (d := 7) (kd := 14) h (Or.inr ⟨rfl, rfl⟩)
end
