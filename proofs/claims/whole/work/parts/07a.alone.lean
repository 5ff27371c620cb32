/-! the program done by one alone -/
section
variable {o p s q : Nat} {I J : MI} {V : Nat → Int32} {Q : MI → Prop}
/-- in the model's own numbers only those two that a step alone writes are changed -/
def SF (o : Nat) (J J' : MI) : Prop := (∀ c, c ≠ o → J' c = J c) ∧ ∀ k, k ≠ 6 → k ≠ 7 → J' o k = J o k
theorem SF.rf : SF o J J := ⟨fun _ _ => rfl, fun _ _ _ => rfl⟩
theorem SF.tr {J' J'' : MI} (h : SF o J J') (h' : SF o J' J'') : SF o J J'' := ⟨fun c hc => (h'.1 c hc).trans (h.1 c hc), fun k h6 h7 => (h'.2 k h6 h7).trans (h.2 k h6 h7)⟩
theorem SF.ui {k : Nat} {x : Int32} (hk : k = 6 ∨ k = 7) : SF o J (ui J o k x) := ⟨fun c hc => ui_ne _ _ _ hc, fun j h6 h7 => ui_gj _ _ _ (by omega)⟩
theorem kb_o {b k : Nat} {x : Int32} : ui (kb J (o + 1) b V) o k x = kb (ui J o k x) (o + 1) b V := by
  funext c
  by_cases h : c = o + 1
  · subst h
    rw [ui_ne _ _ _ (by omega)]
    unfold kb
    rw [if_pos rfl, if_pos rfl, ui_ne _ _ _ (by omega)]
  · rw [kb_ne _ _ h]
    unfold ui
    by_cases h2 : c = o
    · rw [if_pos h2, if_pos h2, kb_ne _ _ h]
    · rw [if_neg h2, if_neg h2, kb_ne _ _ h]
theorem kb_oo {b : Nat} : kb J (o + 1) b V o = J o := kb_ne _ _ (by omega)
def p79 (o p : Nat) (op : Int32) (J : MI) (V : Nat → Int32) (Q : MI → Prop) : Prop := w_X10_step_p79 o (nI p) op (V (51 + 5 * p)) (V (52 + 5 * p)) (kb J (o + 1) 516 V) Q
theorem t_stepH {op : Int32} (hp : p ≤ 24) (e7 : J o 7 = nI p) (ho : vOp V p = op) (hQ : ∀ J', J' o 7 = nI (p + 1) → J' o 6 = (if op = 8 then 1 else 0) → SF o J J' → (¬ op = 6 → p79 o p op J' V Q) ∧ (op = 6 → ∀ J2, J2 o 7 = V (54 + 5 * p) → J2 o 6 = 0 → SF o J J2 → p79 o p op J2 V Q)) : w_X10_step o (kb J (o + 1) 516 V) Q := by
  unfold w_X10_step
  rintro _ rfl
  rw [kb_oo, e7]
  refine t_opOf (b := 516) (by omega) hp (t_of' (b := 516) (k := 1) (by omega) hp (by omega) (t_of' (b := 516) (k := 2) (by omega) hp (by omega) ?_))
  rw [ho, show 50 + 5 * p + 1 = 51 + 5 * p by omega, show 50 + 5 * p + 2 = 52 + 5 * p by omega]
  rintro _ rfl
  refine ⟨fun c8 => ?_, fun c8 => ?_⟩
  · rintro _ rfl
    rw [kb_o, kb_o, nI_1]
    refine ⟨fun c6 => (hQ _ (by rw [ui_gj _ _ _ (by omega), ui_gs]) (by rw [ui_gs, if_neg c8]) ((SF.ui (Or.inr rfl)).tr (SF.ui (Or.inl rfl)))).1 c6, fun c6 => ?_⟩
    refine t_of' (b := 516) (k := 4) (by omega) hp (by omega) ?_
    rw [show 50 + 5 * p + 4 = 54 + 5 * p by omega]
    rintro _ rfl
    rw [kb_o]
    exact (hQ (ui (ui J o 7 (nI (p + 1))) o 6 0) (by rw [ui_gj _ _ _ (by omega), ui_gs]) (by rw [ui_gs, if_neg c8]) ((SF.ui (Or.inr rfl)).tr (SF.ui (Or.inl rfl)))).2 c6 _ (ui_gs _ _ _ _) (by rw [ui_gj _ _ _ (by omega), ui_gs]) (((SF.ui (Or.inr rfl)).tr (SF.ui (Or.inl rfl))).tr (SF.ui (Or.inr rfl)))
  · rintro _ rfl
    rw [kb_o, kb_o, nI_1]
    refine ⟨fun c6 => (hQ _ (by rw [ui_gj _ _ _ (by omega), ui_gs]) (by rw [ui_gs, if_pos c8]) ((SF.ui (Or.inr rfl)).tr (SF.ui (Or.inl rfl)))).1 c6, fun c6 => absurd (c8.symm.trans c6) (by decide)⟩
theorem t_p159n {x1 x2 x3 : Int32} {M : MI} (h4 : ¬ x2 = 4) (h5 : ¬ x2 = 5) (h : Q M) : w_X10_step_p159 o x1 x2 x3 M Q := by
  unfold w_X10_step_p159 w_X10_step_p191
  exact ⟨fun _ => ⟨fun _ => h, fun c => absurd c h5⟩, fun c => absurd c h4⟩
theorem t_p130n {x1 x2 x3 : Int32} {M : MI} (h0 : ¬ x2 = 0) (h1 : ¬ x2 = 1) (h2 : ¬ x2 = 2) (h3 : ¬ x2 = 3) (h : w_X10_step_p159 o x1 x2 x3 M Q) : w_X10_step_p130 o x1 x2 x3 M Q := by
  unfold w_X10_step_p130 w_X10_isReckoning
  exact ⟨fun c => absurd c h0, fun _ => ⟨fun c => absurd c h1, fun _ => ⟨fun c => absurd c h2, fun _ => ⟨fun _ => ⟨fun _ => h, fun c => absurd rfl c⟩, fun c => absurd c h3⟩⟩⟩⟩
/-- the registers and cells of one alone -/
def RelO (s : Nat) (I : MI) (V : Nat → Int32) : Prop := (∀ r, r < 8 → I (s + 1) r = V (210 + r) ∧ bd (V (210 + r)) 1000) ∧ ∀ c, c < 32 → I (s + 2) c = V (178 + c) ∧ bd (V (178 + c)) 1000
theorem RelO.reg {r : Nat} {v : Int32} (h : RelO s I V) (hr : r < 8) (hv : bd v 1000) : RelO s (ui I (s + 1) r v) (upd V (210 + r) v) := by
  refine ⟨fun j hj => ?_, fun c hc => ?_⟩
  · by_cases e : j = r
    · subst e; rw [ui_gs, upd_s]; exact ⟨rfl, hv⟩
    · rw [ui_gj _ _ _ e, upd_n _ _ (by omega)]; exact h.1 j hj
  · rw [ui_ne _ _ _ (by omega), upd_n _ _ (by omega)]; exact h.2 c hc
theorem RelO.cell {c : Nat} {v : Int32} (h : RelO s I V) (hc : c < 32) (hv : bd v 1000) : RelO s (ui I (s + 2) c v) (upd V (178 + c) v) := by
  refine ⟨fun j hj => ?_, fun j hj => ?_⟩
  · rw [ui_ne _ _ _ (by omega), upd_n _ _ (by omega)]; exact h.1 j hj
  · by_cases e : j = c
    · subst e; rw [ui_gs, upd_s]; exact ⟨rfl, hv⟩
    · rw [ui_gj _ _ _ e, upd_n _ _ (by omega)]; exact h.2 j hj
theorem RelO.own {k : Nat} {v : Int32} (h : RelO s I V) : RelO s (ui I s k v) V := ⟨fun j hj => by rw [ui_ne _ _ _ (by omega)]; exact h.1 j hj, fun j hj => by rw [ui_ne _ _ _ (by omega)]; exact h.2 j hj⟩
theorem RelO.at {r : Int32} (h : RelO s I V) (hr : bd r 8) : vp_in r 8 ∧ I (s + 1) (ix r) = V (210 + ix r) ∧ bd (V (210 + ix r)) 1000 ∧ ix r < 8 ∧ r = nI (ix r) := by
  obtain ⟨k, hk, rfl⟩ := hr
  rw [ixn (by omega)]
  exact ⟨inn hk (by omega), (h.1 k hk).1, (h.1 k hk).2, hk, rfl⟩
theorem RelO.cbd {i : Nat} (h : RelO s I V) (h2 : bd (V (52 + 5 * i)) 8) (h4 : bd (V (54 + 5 * i)) 32) : bd (vCell V i) 32 := by
  obtain ⟨-, -, ⟨x, hx, ex⟩, -, -⟩ := h.at h2
  obtain ⟨y, hy, ey⟩ := h4
  unfold vCell irm
  rw [ex, ey, nI_add, show nI (x + y) - nI (x + y) / 32 * 32 = nI ((x + y) % 32) from rem_nI (d := 32) (by omega) (by omega) (by omega)]
  exact bd_nI (Nat.mod_lt _ (by omega))
theorem k_cellO {i : Nat} {a : Nat} {S : Int32 → Prop} (h : RelO s I V) (h2 : bd (V (52 + 5 * i)) 8) (e2 : I a 2 = V (52 + 5 * i)) (e4 : I a 4 = V (54 + 5 * i)) (hS : S (vCell V i)) : w_X0_cellBy a (s + 1) I S := by
  obtain ⟨g1, g2, -⟩ := h.at h2
  unfold w_X0_cellBy
  rw [e2, e4, g2]
  exact ⟨g1, hS⟩
theorem reck_bd {op : Int32} {x y : Nat} (ho : op = 1 ∨ op = 2 ∨ op = 3) (hx : x < 1000) (hy : y < 1000) : bd (vReck op (nI x) (nI y)) 1000 := by
  by_cases g : bd (vReck op (nI x) (nI y)) 1000
  · exact g
  · have := reck_eq (Q := fun _ => False) ho hx hy (fun q => g q)
    unfold w_X9_reckon at this
    rcases ho with q | q | q <;> rw [q] at this
    · exact (this.1 rfl).elim
    · exact (this.2.1 rfl).elim
    · exact (this.2.2 (by decide) (by decide)).elim
/-- one step of one alone: class and model -/
theorem p_step (hR : RelR q I V) (hO : RelO s I V) (hsq : q + 33 < s ∨ s + 2 < q) {st : Nat} (hp : p ≤ ix (V 48)) (e2 : I s 2 = nI p) (e3 : I s 3 = nI st) (e4 : I s 4 = 0) :
    ∃ (I' : MI) (V' : Nat → Int32) (p' : Nat) (e y : Int32), p' ≤ ix (V 48) ∧ (e = 0 ∨ e = 1) ∧ (e = 0 → y = nI p') ∧ I' s 2 = nI p' ∧ I' s 3 = nI (st + 1) ∧ I' s 4 = e ∧ RelO s I' V' ∧ VFr V V' ∧ (∀ c, (c < s ∨ s + 2 < c) → I' c = I c) ∧
    (∀ P : MI → Prop, P I' → w_X6_step s q I P) ∧ ∀ (o : Nat) (J : MI) (S : MI → Prop), J o 7 = nI p → (∀ J', SF o J J' → J' o 7 = y → J' o 6 = e → S (kb J' (o + 1) 516 V')) → w_X10_step o (kb J (o + 1) 516 V) S := by
  obtain ⟨hsz, e48⟩ := size_lt hR
  have hl := ilow hR.2.1 hp
  have hop : I (q + 9 + p) 0 = vOp V p := hR.2.2.1 p hp
  have hi : vp_in (nI p) 25 := inn (by omega) (by omega)
  have f0 : ∀ (c : Nat) (x : Int32), c ≠ s → ui I s 3 x c = I c := fun c x hc => ui_ne _ _ _ hc
  have g2 : ∀ x : Int32, ui I s 3 x s 2 = nI p := fun x => by rw [ui_gj _ _ _ (by omega)]; exact e2
  have hq : q + 9 + p ≠ s := by omega
  -- the class's way in
  have hcl : ∀ P : MI → Prop, (∀ I4, I4 = ui I s 3 (nI (st + 1)) → (∀ x3_5, x3_5 = nI (p + 1) →
      ((vOp V p = (0 : Int32) → (vp_in (I (q + 9 + p) 1) 8 ∧ (∀ I8, I8 = ui I4 (s + 1) (ix (I (q + 9 + p) 1)) (I (q + 9 + p) 4) → w_X6_step_p234 s x3_5 I8 P))) ∧
      (vOp V p = (4 : Int32) → (w_X0_cellBy (q + 9 + p) (s + 1) I4 (fun r12 => (vp_in r12 32 ∧ (vp_in (I (q + 9 + p) 1) 8 ∧ (∀ I15, I15 = ui I4 (s + 1) (ix (I (q + 9 + p) 1)) (I4 (s + 2) (ix r12)) → w_X6_step_p234 s x3_5 I15 P)))))) ∧
      (vOp V p = (5 : Int32) → (w_X0_cellBy (q + 9 + p) (s + 1) I4 (fun r18 => (vp_in (I (q + 9 + p) 1) 8 ∧ (vp_in r18 32 ∧ (∀ I21, I21 = ui I4 (s + 2) (ix r18) (I4 (s + 1) (ix (I (q + 9 + p) 1))) → w_X6_step_p234 s x3_5 I21 P)))))) ∧
      (vOp V p = (6 : Int32) → (∀ x3_22, x3_22 = I (q + 9 + p) 4 → w_X6_step_p234 s x3_22 I4 P)) ∧
      (vOp V p = (7 : Int32) → (vp_in (I (q + 9 + p) 2) 8 ∧ (vp_in (I (q + 9 + p) 3) 8 ∧ (w_X0_decide (q + 9 + p) (I4 (s + 1) (ix (I (q + 9 + p) 2))) (I4 (s + 1) (ix (I (q + 9 + p) 3))) I4 (fun r26 => ((r26 = 0 → w_X6_step_p234 s x3_5 I4 P) ∧ (¬ r26 = 0 → (∀ x3_28, x3_28 = I (q + 9 + p) 4 → w_X6_step_p234 s x3_28 I4 P)))))))) ∧
      (vOp V p = (8 : Int32) → (∀ I29, I29 = ui I4 s 4 (1 : Int32) → (∀ x3_30, x3_30 = I29 s 2 → w_X6_step_p234 s x3_30 I29 P))) ∧
      (¬ vOp V p = (0 : Int32) → ¬ vOp V p = (4 : Int32) → ¬ vOp V p = (5 : Int32) → ¬ vOp V p = (6 : Int32) → ¬ vOp V p = (7 : Int32) → ¬ vOp V p = (8 : Int32) → (vp_in (I (q + 9 + p) 2) 8 ∧ (vp_in (I (q + 9 + p) 3) 8 ∧ (w_X9_reckon (vOp V p) (I4 (s + 1) (ix (I (q + 9 + p) 2))) (I4 (s + 1) (ix (I (q + 9 + p) 3))) (fun r34 => (vp_in (I (q + 9 + p) 1) 8 ∧ (∀ I36, I36 = ui I4 (s + 1) (ix (I (q + 9 + p) 1)) r34 → w_X6_step_p234 s x3_5 I36 P))))))))))  → w_X6_step s q I P := fun P h => by
    unfold w_X6_step
    rw [e2, e3, nI_1, ixn (by omega)]
    refine ⟨hi, ?_⟩
    rintro _ rfl
    rintro _ rfl
    have := h _ rfl (nI (p + 1)) rfl
    rw [g2, nI_1, f0 _ _ hq, hop]
    exact this
  have fin : ∀ (x : Nat) (I4 : MI) (P : MI → Prop), P (ui I4 s 2 (nI x)) → w_X6_step_p234 s (nI x) I4 P := fun x I4 P h => by
    unfold w_X6_step_p234
    rintro _ rfl
    exact h
  have hO4 : RelO s (ui I s 3 (nI (st + 1))) V := hO.own
  have b34 : ∀ x : Int32, ui I s 3 x s 4 = 0 := fun x => by rw [ui_gj _ _ _ (by omega)]; exact e4
  have hb9 : bd (vOp V p) 9 := by
    rcases vOp_row hR hp with ⟨-, h8⟩ | ⟨hlt, hv⟩
    · rw [h8]; exact ⟨8, by omega, rfl⟩
    · rw [hv]; exact (hR.2.2.2.1 p hlt).1
  by_cases h8 : vOp V p = 8
  · refine ⟨ui (ui (ui I s 3 (nI (st + 1))) s 4 1) s 2 (nI p), V, p, 1, nI (p + 1), hp, Or.inr rfl, fun c => absurd c (by decide), ui_gs _ _ _ _, by rw [ui_gj _ _ _ (by omega), ui_gj _ _ _ (by omega), ui_gs], by rw [ui_gj _ _ _ (by omega), ui_gs], hO4.own.own, VFr.rf, fun c hc => by rw [ui_ne _ _ _ (by omega), ui_ne _ _ _ (by omega), ui_ne _ _ _ (by omega)], fun P hP => hcl P ?_, fun o J S e7 hS => ?_⟩
    · rintro _ rfl _ rfl
      rw [h8]
      refine ⟨fun c => absurd c (by decide), fun c => absurd c (by decide), fun c => absurd c (by decide), fun c => absurd c (by decide), fun c => absurd c (by decide), fun _ => ?_, fun _ _ _ _ _ c => absurd rfl c⟩
      rintro _ rfl _ rfl
      rw [ui_gj _ _ _ (by omega), g2]
      exact fin p _ P hP
    · refine t_stepH (by omega) e7 h8 (fun J' j7 j6 jf => ⟨fun _ => ?_, fun c => absurd c (by decide)⟩)
      unfold p79 w_X10_step_p79
      exact ⟨fun _ => t_p130n (by decide) (by decide) (by decide) (by decide) (t_p159n (by decide) (by decide) (hS J' jf j7 (by rw [j6, if_pos rfl]))), fun c => absurd c (by decide)⟩
  · obtain ⟨hlt, e0, b0, b1, b2, b3, r0, r1, r4, r6, r7⟩ := row_of hR hp h8
    have hp23 : p ≤ 24 := by omega
    -- a register gets a number, and on to the next
    have setr : ∀ v : Int32, bd v 1000 → I (q + 9 + p) 1 = V (51 + 5 * p) →
        (∀ P : MI → Prop, P (ui (ui (ui I s 3 (nI (st + 1))) (s + 1) (ix (V (51 + 5 * p))) v) s 2 (nI (p + 1))) → w_X6_step s q I P) →
        (∀ (o : Nat) (J : MI) (S : MI → Prop), J o 7 = nI p → (∀ J', SF o J J' → J' o 7 = nI (p + 1) → J' o 6 = 0 → S (kb J' (o + 1) 516 (upd V (210 + ix (V (51 + 5 * p))) v))) → w_X10_step o (kb J (o + 1) 516 V) S) →
        ∃ (I' : MI) (V' : Nat → Int32) (p' : Nat) (e y : Int32), p' ≤ ix (V 48) ∧ (e = 0 ∨ e = 1) ∧ (e = 0 → y = nI p') ∧ I' s 2 = nI p' ∧ I' s 3 = nI (st + 1) ∧ I' s 4 = e ∧ RelO s I' V' ∧ VFr V V' ∧ (∀ c, (c < s ∨ s + 2 < c) → I' c = I c) ∧
          (∀ P : MI → Prop, P I' → w_X6_step s q I P) ∧ ∀ (o : Nat) (J : MI) (S : MI → Prop), J o 7 = nI p → (∀ J', SF o J J' → J' o 7 = y → J' o 6 = e → S (kb J' (o + 1) 516 V')) → w_X10_step o (kb J (o + 1) 516 V) S := fun v hv f1 hc hm => by
      obtain ⟨-, -, -, x4, -⟩ := hO.at b1
      exact ⟨_, _, p + 1, 0, nI (p + 1), by omega, Or.inl rfl, fun _ => rfl, ui_gs _ _ _ _, by rw [ui_gj _ _ _ (by omega), ui_ne _ _ _ (by omega), ui_gs], by rw [ui_gj _ _ _ (by omega), ui_ne _ _ _ (by omega)]; exact b34 _, (hO4.reg x4 hv).own, VFr.up (by omega), fun c hc => by rw [ui_ne _ _ _ (by omega), ui_ne _ _ _ (by omega), ui_ne _ _ _ (by omega)], hc, fun o J S e7 hS => hm o J S e7 (fun J' jf j7 j6 => hS J' jf j7 j6)⟩
    have setm : ∀ (o : Nat) (J' : MI) (v : Int32), vp_in ((726 : Int32) + V (51 + 5 * p)) 4905 ∧ ui (kb J' (o + 1) 516 V) (o + 1) (ix ((726 : Int32) + V (51 + 5 * p))) v = kb J' (o + 1) 516 (upd V (210 + ix (V (51 + 5 * p))) v) := fun o J' v => t_setreg (b := 516) (by omega) b1
    obtain ⟨x1, x2, x3, x4, x5⟩ := hO4.at b1
    have rk : (vOp V p = 1 ∨ vOp V p = 2 ∨ vOp V p = 3) → ∃ (I' : MI) (V' : Nat → Int32) (p' : Nat) (e y : Int32), p' ≤ ix (V 48) ∧ (e = 0 ∨ e = 1) ∧ (e = 0 → y = nI p') ∧ I' s 2 = nI p' ∧ I' s 3 = nI (st + 1) ∧ I' s 4 = e ∧ RelO s I' V' ∧ VFr V V' ∧ (∀ c, (c < s ∨ s + 2 < c) → I' c = I c) ∧
          (∀ P : MI → Prop, P I' → w_X6_step s q I P) ∧ ∀ (o : Nat) (J : MI) (S : MI → Prop), J o 7 = nI p → (∀ J', SF o J J' → J' o 7 = y → J' o 6 = e → S (kb J' (o + 1) 516 V')) → w_X10_step o (kb J (o + 1) 516 V) S := fun ho => by
      have h7 : ¬ V (50 + 5 * p) = 7 := fun c => by
        rw [c] at e0
        rcases ho with g | g | g <;> rw [g] at e0 <;> exact absurd e0 (by decide)
      have b3 := b3 h7
      obtain ⟨f1, f2, f3⟩ := r1 (by rw [e0]; exact ho)
      obtain ⟨y1, y2, ⟨ya, yb, yc⟩, y4, y5⟩ := hO4.at b2
      obtain ⟨z1, z2, ⟨za, zb, zc⟩, z4, z5⟩ := hO4.at b3
      have hn : ∀ j : Nat, j < 20 → (j = 0 ∨ 4 ≤ j) → ¬ vOp V p = nI j := fun j h1 h2 c => by
        rcases ho with g | g | g <;> rw [g] at c
        · have := nI_inj (a := 1) (by omega) (by omega) c; omega
        · have := nI_inj (a := 2) (by omega) (by omega) c; omega
        · have := nI_inj (a := 3) (by omega) (by omega) c; omega
      refine setr (vReck (vOp V p) (nI ya) (nI za)) (reck_bd ho yb zb) f1 (fun P hP => hcl P ?_) (fun o J S e7 hS => ?_)
      · rintro _ rfl _ rfl
        rw [f1, f2, f3]
        refine ⟨fun c => absurd c (hn 0 (by omega) (by omega)), fun c => absurd c (hn 4 (by omega) (by omega)), fun c => absurd c (hn 5 (by omega) (by omega)), fun c => absurd c (hn 6 (by omega) (by omega)), fun c => absurd c (hn 7 (by omega) (by omega)), fun c => absurd c (hn 8 (by omega) (by omega)), fun _ _ _ _ _ _ => ⟨y1, z1, ?_⟩⟩
        rw [y2, z2, yc, zc]
        refine reck_eq ho yb zb (fun _ => ⟨x1, ?_⟩)
        rintro _ rfl
        exact fin _ _ P hP
      · refine t_stepH hp23 e7 rfl (fun J' j7 j6 jf => ⟨fun _ => ?_, fun c => absurd c (hn 6 (by omega) (by omega))⟩)
        have j6 : J' o 6 = 0 := by rw [j6]; exact if_neg (hn 8 (by omega) (by omega))
        unfold p79 w_X10_step_p79 w_X10_step_p130
        refine ⟨fun _ => ⟨fun c => absurd c (hn 0 (by omega) (by omega)), fun _ => t_isReck ?_⟩, fun c => absurd c (hn 7 (by omega) (by omega))⟩
        rw [if_pos ho]
        refine ⟨fun c => absurd c (by decide), fun _ => ?_⟩
        unfold w_X10_reckoned
        refine t_opOf (b := 516) (by omega) hp23 ⟨fun _ => t_opOf (b := 516) (by omega) hp23 (t_of' (b := 516) (k := 2) (by omega) hp23 (by omega) ?_), fun c => absurd c (hn 0 (by omega) (by omega))⟩
        rw [show 50 + 5 * p + 2 = 52 + 5 * p by omega]
        refine t_regB (b := 516) (by omega) b2 (t_of' (b := 516) (k := 3) (by omega) hp23 (by omega) ?_)
        rw [show 50 + 5 * p + 3 = 53 + 5 * p by omega]
        refine t_regB (b := 516) (by omega) b3 (t_reckons ⟨(setm o J' 0).1, ?_⟩)
        rintro _ rfl
        rw [yc, zc, (setm o J' _).2]
        exact t_p159n (hn 4 (by omega) (by omega)) (hn 5 (by omega) (by omega)) (hS J' jf j7 j6)
    rcases op_cases hb9 with e | e | e | e | e | e | e | e | e
    · -- set
      obtain ⟨f1, f4, b4⟩ := r0 (e0.trans e)
      refine setr _ b4 f1 (fun P hP => hcl P ?_) (fun o J S e7 hS => ?_)
      · rintro _ rfl _ rfl
        rw [e, f1, f4]
        refine ⟨fun _ => ⟨x1, ?_⟩, fun c => absurd c (by decide), fun c => absurd c (by decide), fun c => absurd c (by decide), fun c => absurd c (by decide), fun c => absurd c (by decide), fun c => absurd rfl c⟩
        rintro _ rfl
        exact fin _ _ P hP
      · refine t_stepH hp23 e7 e (fun J' j7 j6 jf => ⟨fun _ => ?_, fun c => absurd c (by decide)⟩)
        unfold p79 w_X10_step_p79 w_X10_step_p130
        refine ⟨fun _ => ⟨fun _ => ?_, fun c => absurd rfl c⟩, fun c => absurd c (by decide)⟩
        unfold w_X10_reckoned
        refine t_opOf (b := 516) (by omega) hp23 ⟨fun c => absurd e c, fun _ => t_of' (b := 516) (k := 4) (by omega) hp23 (by omega) ⟨(setm o J' 0).1, ?_⟩⟩
        rintro _ rfl
        rw [show 50 + 5 * p + 4 = 54 + 5 * p by omega, (setm o J' _).2]
        exact t_p159n (by decide) (by decide) (hS J' jf j7 (by rw [j6, if_neg (by decide)]))
    · exact rk (Or.inl e)
    · exact rk (Or.inr (Or.inl e))
    · exact rk (Or.inr (Or.inr e))
    · -- load
      obtain ⟨f1, f2, f4, b4⟩ := r4 (Or.inl (e0.trans e))
      have hcb := hO4.cbd b2 b4
      obtain ⟨hce, hcl'⟩ := bd_ix hcb (by omega)
      have hci : vp_in (vCell V p) 32 := by rw [hce]; exact inn hcl' (by omega)
      obtain ⟨ev, bv⟩ := hO4.2 _ hcl'
      refine setr _ bv f1 (fun P hP => hcl P ?_) (fun o J S e7 hS => ?_)
      · rintro _ rfl _ rfl
        rw [e, f1]
        refine ⟨fun c => absurd c (by decide), fun _ => k_cellO hO4 b2 (by rw [f0 _ _ hq]; exact f2) (by rw [f0 _ _ hq]; exact f4) ⟨hci, x1, ?_⟩, fun c => absurd c (by decide), fun c => absurd c (by decide), fun c => absurd c (by decide), fun c => absurd c (by decide), fun _ c => absurd rfl c⟩
        rintro _ rfl
        rw [ev]
        exact fin _ _ P hP
      · refine t_stepH hp23 e7 e (fun J' j7 j6 jf => ⟨fun _ => ?_, fun c => absurd c (by decide)⟩)
        unfold p79 w_X10_step_p79
        refine ⟨fun _ => t_p130n (by decide) (by decide) (by decide) (by decide) ?_, fun c => absurd c (by decide)⟩
        unfold w_X10_step_p159
        obtain ⟨u1, u2⟩ := t_cellat (o := o) (J := J') (V := V) (b := 516) (by omega) hcb
        refine ⟨fun c => absurd rfl c, fun _ => t_cellOf (b := 516) (by omega) (by omega) b2 ⟨u1, (setm o J' 0).1, ?_⟩⟩
        rintro _ rfl
        have u2' : kb J' (o + 1) 516 V (o + 1) (ix ((694 : Int32) + vCell V p)) = V (178 + ix (vCell V p)) := u2
        rw [u2', (setm o J' _).2]
        unfold w_X10_step_p191
        exact ⟨fun _ => hS J' jf j7 (by rw [j6, if_neg (by decide)]), fun c => absurd c (by decide)⟩
    · -- store
      obtain ⟨f1, f2, f4, b4⟩ := r4 (Or.inr (e0.trans e))
      have hcb := hO4.cbd b2 b4
      obtain ⟨hce, hcl'⟩ := bd_ix hcb (by omega)
      have hci : vp_in (vCell V p) 32 := by rw [hce]; exact inn hcl' (by omega)
      refine ⟨ui (ui (ui I s 3 (nI (st + 1))) (s + 2) (ix (vCell V p)) (V (210 + ix (V (51 + 5 * p))))) s 2 (nI (p + 1)), upd V (178 + ix (vCell V p)) (V (210 + ix (V (51 + 5 * p)))), p + 1, 0, nI (p + 1), by omega, Or.inl rfl, fun _ => rfl, ui_gs _ _ _ _, by rw [ui_gj _ _ _ (by omega), ui_ne _ _ _ (by omega), ui_gs], by rw [ui_gj _ _ _ (by omega), ui_ne _ _ _ (by omega)]; exact b34 _, (hO4.cell hcl' x3).own, VFr.up (by omega), fun c hc => by rw [ui_ne _ _ _ (by omega), ui_ne _ _ _ (by omega), ui_ne _ _ _ (by omega)], fun P hP => hcl P ?_, fun o J S e7 hS => ?_⟩
      · rintro _ rfl _ rfl
        rw [e, f1]
        refine ⟨fun c => absurd c (by decide), fun c => absurd c (by decide), fun _ => k_cellO hO4 b2 (by rw [f0 _ _ hq]; exact f2) (by rw [f0 _ _ hq]; exact f4) ⟨x1, hci, ?_⟩, fun c => absurd c (by decide), fun c => absurd c (by decide), fun c => absurd c (by decide), fun _ _ c => absurd rfl c⟩
        rintro _ rfl
        rw [x2]
        exact fin _ _ P hP
      · refine t_stepH hp23 e7 e (fun J' j7 j6 jf => ⟨fun _ => ?_, fun c => absurd c (by decide)⟩)
        unfold p79 w_X10_step_p79
        refine ⟨fun _ => t_p130n (by decide) (by decide) (by decide) (by decide) ?_, fun c => absurd c (by decide)⟩
        unfold w_X10_step_p159 w_X10_step_p191
        refine ⟨fun _ => ⟨fun c => absurd rfl c, fun _ => t_cellOf (b := 516) (by omega) (by omega) b2 (t_regB (b := 516) (by omega) b1 ?_)⟩, fun c => absurd c (by decide)⟩
        have e694 : (694 : Int32) + vCell V p = nI (516 + (178 + ix (vCell V p))) := by
          conv => lhs; rw [hce]
          exact (nI_add 694 _).trans (congrArg nI (by omega))
        rw [e694]
        refine ⟨kin (by omega) (by omega), ?_⟩
        rintro _ rfl
        rw [kx (by omega) (by omega)]
        exact hS J' jf j7 (by rw [j6, if_neg (by decide)])
    · -- jump
      obtain ⟨f4, t', ht', et'⟩ := r6 (e0.trans e)
      refine ⟨ui (ui I s 3 (nI (st + 1))) s 2 (nI t'), V, t', 0, nI t', by omega, Or.inl rfl, fun _ => rfl, ui_gs _ _ _ _, by rw [ui_gj _ _ _ (by omega), ui_gs], by rw [ui_gj _ _ _ (by omega)]; exact b34 _, hO4.own, VFr.rf, fun c hc => by rw [ui_ne _ _ _ (by omega), ui_ne _ _ _ (by omega)], fun P hP => hcl P ?_, fun o J S e7 hS => ?_⟩
      · rintro _ rfl _ rfl
        rw [e, f4, et']
        refine ⟨fun c => absurd c (by decide), fun c => absurd c (by decide), fun c => absurd c (by decide), fun _ => ?_, fun c => absurd c (by decide), fun c => absurd c (by decide), fun _ _ _ c => absurd rfl c⟩
        rintro _ rfl
        exact fin _ _ P hP
      · refine t_stepH hp23 e7 e (fun J' j7 j6 jf => ⟨fun c => absurd rfl c, fun _ J2 k7 k6 kf => ?_⟩)
        unfold p79 w_X10_step_p79
        exact ⟨fun _ => t_p130n (by decide) (by decide) (by decide) (by decide) (t_p159n (by decide) (by decide) (hS J2 kf (k7.trans et') k6)), fun c => absurd c (by decide)⟩
    · -- if
      obtain ⟨f2, f3, f5, f4, ⟨t', ht', et'⟩, -⟩ := r7 (e0.trans e)
      obtain ⟨y1, y2, -⟩ := hO4.at b2
      have hd : ∀ (S : Int32 → Prop), S (if vHold (V (53 + 5 * p)) (V (210 + ix (V (51 + 5 * p)))) (V (210 + ix (V (52 + 5 * p)))) = true then 1 else 0) → w_X0_decide (q + 9 + p) (ui I s 3 (nI (st + 1)) (s + 1) (ix (V (51 + 5 * p)))) (ui I s 3 (nI (st + 1)) (s + 1) (ix (V (52 + 5 * p)))) (ui I s 3 (nI (st + 1))) S := fun S hS => by
        refine k_decide ?_
        rw [f0 _ _ hq, f5, x2, y2]
        exact hS
      by_cases hh : vHold (V (53 + 5 * p)) (V (210 + ix (V (51 + 5 * p)))) (V (210 + ix (V (52 + 5 * p)))) = true
      · refine ⟨ui (ui I s 3 (nI (st + 1))) s 2 (nI t'), V, t', 0, nI t', by omega, Or.inl rfl, fun _ => rfl, ui_gs _ _ _ _, by rw [ui_gj _ _ _ (by omega), ui_gs], by rw [ui_gj _ _ _ (by omega)]; exact b34 _, hO4.own, VFr.rf, fun c hc => by rw [ui_ne _ _ _ (by omega), ui_ne _ _ _ (by omega)], fun P hP => hcl P ?_, fun o J S e7 hS => ?_⟩
        · rintro _ rfl _ rfl
          rw [e, f2, f3, f4, et']
          refine ⟨fun c => absurd c (by decide), fun c => absurd c (by decide), fun c => absurd c (by decide), fun c => absurd c (by decide), fun _ => ⟨x1, y1, hd _ ?_⟩, fun c => absurd c (by decide), fun _ _ _ _ c => absurd rfl c⟩
          rw [if_pos hh]
          refine ⟨fun c => absurd c (by decide), fun _ => ?_⟩
          rintro _ rfl
          exact fin _ _ P hP
        · refine t_stepH hp23 e7 e (fun J' j7 j6 jf => ⟨fun _ => ?_, fun c => absurd c (by decide)⟩)
          unfold p79 w_X10_step_p79
          refine ⟨fun c => absurd rfl c, fun _ => t_of' (b := 516) (k := 3) (by omega) hp23 (by omega) (t_regB (b := 516) (by omega) b1 (t_regB (b := 516) (by omega) b2 (t_holds ?_)))⟩
          rw [show 50 + 5 * p + 3 = 53 + 5 * p by omega, if_pos hh]
          refine ⟨fun c => absurd c (by decide), fun _ => t_of' (b := 516) (k := 4) (by omega) hp23 (by omega) ?_⟩
          rw [show 50 + 5 * p + 4 = 54 + 5 * p by omega]
          rintro _ rfl
          rw [kb_o]
          refine t_p130n (by decide) (by decide) (by decide) (by decide) (t_p159n (by decide) (by decide) (hS _ (jf.tr (SF.ui (Or.inr rfl))) (by rw [ui_gs]; exact et') (by rw [ui_gj _ _ _ (by omega), j6, if_neg (by decide)])))
      · refine ⟨ui (ui I s 3 (nI (st + 1))) s 2 (nI (p + 1)), V, p + 1, 0, nI (p + 1), by omega, Or.inl rfl, fun _ => rfl, ui_gs _ _ _ _, by rw [ui_gj _ _ _ (by omega), ui_gs], by rw [ui_gj _ _ _ (by omega)]; exact b34 _, hO4.own, VFr.rf, fun c hc => by rw [ui_ne _ _ _ (by omega), ui_ne _ _ _ (by omega)], fun P hP => hcl P ?_, fun o J S e7 hS => ?_⟩
        · rintro _ rfl _ rfl
          rw [e, f2, f3]
          refine ⟨fun c => absurd c (by decide), fun c => absurd c (by decide), fun c => absurd c (by decide), fun c => absurd c (by decide), fun _ => ⟨x1, y1, hd _ ?_⟩, fun c => absurd c (by decide), fun _ _ _ _ c => absurd rfl c⟩
          rw [if_neg hh]
          exact ⟨fun _ => fin _ _ P hP, fun c => absurd rfl c⟩
        · refine t_stepH hp23 e7 e (fun J' j7 j6 jf => ⟨fun _ => ?_, fun c => absurd c (by decide)⟩)
          unfold p79 w_X10_step_p79
          refine ⟨fun c => absurd rfl c, fun _ => t_of' (b := 516) (k := 3) (by omega) hp23 (by omega) (t_regB (b := 516) (by omega) b1 (t_regB (b := 516) (by omega) b2 (t_holds ?_)))⟩
          rw [show 50 + 5 * p + 3 = 53 + 5 * p by omega, if_neg hh]
          exact ⟨fun _ => t_p130n (by decide) (by decide) (by decide) (by decide) (t_p159n (by decide) (by decide) (hS J' jf j7 (by rw [j6, if_neg (by decide)]))), fun c => absurd rfl c⟩
    · exact absurd e h8
end
section
variable {a : Nat}
/-- so many steps, or fewer -/
theorem q_aloneN {n : Nat} {y : Int32} {P : Int32 → MI → Prop} (hn : n ≤ 400) : ∀ (d : Nat) (I : MI) (V : Nat → Int32) (k p : Nat), k + d = n → RelR (a + 4) I V → RelO (a + 174) I V → p ≤ ix (V 48) → I (a + 174) 2 = nI p → I (a + 174) 3 = nI k → (I (a + 174) 4 = 0 ∨ I (a + 174) 4 = 1) →
    (∀ (I' : MI) (V' : Nat → Int32) (k' p' : Nat) (e : Int32), RelO (a + 174) I' V' → (e = 0 ∨ e = 1) → I' (a + 174) 2 = nI p' → I' (a + 174) 3 = nI k' → I' (a + 174) 4 = e → (∀ c, (c < a + 174 ∨ a + 176 < c) → I' c = I c) →
      (∀ (o : Nat) (J : MI) (ke S : Int32 → MI → Prop), J o 6 = I (a + 174) 4 → (J o 6 = 0 → J o 7 = nI p) → (∀ J', SF o J J' → J' o 6 = e → (e = 0 → J' o 7 = nI p') → ke (nI k') (kb J' (o + 1) 516 V')) → lpN2 (w_X10_alone_l71 o (nI n) y ke S) (d + 1) (nI k) (kb J (o + 1) 516 V)) → w_X6_figure (a + 174) y I' (fun r => P r I')) →
    lpN2 (w_X9_alone_l35 a (nI n) y (a + 4) P) (d + 1) (nI k) I := by
  intro d
  induction d with
  | zero =>
    intro I V k p hk hR hO hp e2 e3 e4 hP
    have : k = n := by omega
    subst this
    show w_X9_alone_l35 a (nI k) y (a + 4) P _ (nI k) I
    unfold w_X9_alone_l35
    refine ⟨fun _ => hP I V k p _ hO e4 e2 e3 rfl (fun _ _ => rfl) (fun o J ke S j6 j7 h => ?_), fun c => absurd (nI_le (a := k) (b := k) (by omega) (by omega)) c⟩
    show w_X10_alone_l71 o (nI k) y ke S _ (nI k) _
    unfold w_X10_alone_l71
    exact ⟨fun _ => h J SF.rf j6 (fun c => j7 (j6.trans c)), fun c => absurd (nI_le (a := k) (b := k) (by omega) (by omega)) c⟩
  | succ d ih =>
    intro I V k p hk hR hO hp e2 e3 e4 hP
    have nle : ¬ nI n ≤ nI k := fun c => absurd ((nI_leI (by omega) (by omega)).mp c) (by omega)
    show w_X9_alone_l35 a (nI n) y (a + 4) P (lpN2 (w_X9_alone_l35 a (nI n) y (a + 4) P) (d + 1)) (nI k) I
    have ih' := fun (I : MI) (V : Nat → Int32) => ih I V (k + 1)
    clear ih
    generalize lpN2 (w_X9_alone_l35 a (nI n) y (a + 4) P) (d + 1) = rec at ih' ⊢
    unfold w_X9_alone_l35
    refine ⟨fun c => absurd c nle, fun _ => ⟨fun c => ?_, fun c => ?_⟩⟩
    · refine hP I V k p _ hO e4 e2 e3 rfl (fun _ _ => rfl) (fun o J ke S j6 j7 h => ?_)
      show w_X10_alone_l71 o (nI n) y ke S _ (nI k) _
      unfold w_X10_alone_l71
      rw [kb_oo, j6]
      exact ⟨fun q => absurd q nle, fun _ => ⟨fun _ => h J SF.rf j6 (fun c => j7 (j6.trans c)), fun q => absurd q c⟩⟩
    · obtain ⟨I', V', p', e, x, hp', he, hx, g2, g3, g4, gO, gV, gF, gc, gm⟩ := p_step (s := a + 174) (q := a + 4) hR hO (by omega) hp e2 e3 c
      refine gc _ ?_
      rw [nI_1]
      refine ih' I' V' p' (by omega) (hR.fr (fun c _ _ => gF c (by omega)) gV) gO (by rw [gV 48 (by omega)]; exact hp') g2 g3 (by rw [g4]; exact he) (fun I2 V2 k2 p2 e2' hO2 he2 q2 q3 q4 qF qm => hP I2 V2 k2 p2 e2' hO2 he2 q2 q3 q4 (fun c hc => by rw [qF c hc, gF c (by omega)]) (fun o J ke S j6 j7 h => ?_))
      have j60 : J o 6 = 0 := j6.trans c
      show w_X10_alone_l71 o (nI n) y ke S (lpN2 (w_X10_alone_l71 o (nI n) y ke S) (d + 1)) (nI k) _
      have hh := fun J' => qm o J' ke S
      revert hh
      generalize lpN2 (w_X10_alone_l71 o (nI n) y ke S) (d + 1) = rec2
      intro hh
      unfold w_X10_alone_l71
      rw [kb_oo, j60]
      refine ⟨fun q => absurd q nle, fun _ => ⟨fun q => absurd rfl q, fun _ => gm o J _ (j7 j60) (fun J' jf j7' j6' => ?_)⟩⟩
      rw [nI_1]
      exact hh J' (by rw [j6', g4]) (fun q => by rw [j7']; exact hx (j6'.symm.trans q)) (fun J2 f2 a6 a7 => h J2 (jf.tr f2) a6 a7)
theorem nI_sub {x z : Nat} (h : z ≤ x) : nI x - nI z = nI (x - z) := by
  have : x = (x - z) + z := by omega
  conv => lhs; rw [this]
  rw [← nI_add, Int32.add_sub_cancel]
theorem figc {s j : Nat} {I : MI} {Q : Int32 → Prop} (hj : j < 2147483648) (h0 : j = 0 → Q (I s 3)) (h1 : j = 1 → (I s 4 = 0 → Q 0) ∧ (¬ I s 4 = 0 → Q 1)) (h2 : j = 2 → (I s 4 = 0 → Q (I s 2)) ∧ (¬ I s 4 = 0 → Q (-1)))
    (h3 : 3 ≤ j → (j < 10 ∨ j = 18 ∨ j = 19 ∨ 52 ≤ j) → Q (-1)) (h4 : 10 ≤ j → j < 18 → Q (I (s + 1) (j - 10))) (h5 : 20 ≤ j → j < 52 → Q (I (s + 2) (j - 20))) : w_X6_figure s (nI j) I Q := by
  have ltI : ∀ {x z : Nat}, x < 2147483648 → z < 2147483648 → (nI x < nI z ↔ x < z) := fun h1 h2 => nI_ltI h1 h2
  have leI : ∀ {x z : Nat}, x < 2147483648 → z < 2147483648 → (nI x ≤ nI z ↔ x ≤ z) := fun h1 h2 => nI_leI h1 h2
  have eq : ∀ {z : Nat}, z < 2147483648 → (nI j = nI z ↔ j = z) := fun h1 => nI_eq hj h1
  have p84 : 3 ≤ j → (j < 10 ∨ 18 ≤ j) → w_X6_figure_p84 s (nI j) I Q := fun g1 g2 => by
    unfold w_X6_figure_p84
    refine ⟨fun c => ?_, fun c => ⟨fun c2 => ?_, fun c2 => ?_⟩⟩
    · have := (ltI (z := 20) hj (by omega)).mp c
      exact h3 g1 (by omega)
    · have := (leI (x := 52) (by omega) hj).mp c2
      exact h3 g1 (by omega)
    · have q1 : 20 ≤ j := by
        rcases Nat.lt_or_ge j 20 with q | q
        · exact absurd ((ltI (z := 20) hj (by omega)).mpr q) c
        · exact q
      have q2 : j < 52 := by
        rcases Nat.lt_or_ge j 52 with q | q
        · exact q
        · exact absurd ((leI (x := 52) (by omega) hj).mpr q) c2
      rw [show nI j - 20 = nI (j - 20) from nI_sub (z := 20) q1, ixn (by omega)]
      exact ⟨inn (by omega) (by omega), h5 q1 q2⟩
  unfold w_X6_figure
  refine ⟨fun c => h0 ((eq (z := 0) (by omega)).mp c), fun c => h1 ((eq (z := 1) (by omega)).mp c), fun c => h2 ((eq (z := 2) (by omega)).mp c), fun n0 n1 n2 => ?_⟩
  have g1 : 3 ≤ j := by
    have a0 : j ≠ 0 := fun c => n0 ((eq (z := 0) (by omega)).mpr c)
    have a1 : j ≠ 1 := fun c => n1 ((eq (z := 1) (by omega)).mpr c)
    have a2 : j ≠ 2 := fun c => n2 ((eq (z := 2) (by omega)).mpr c)
    omega
  refine ⟨fun c => p84 g1 (Or.inl ((ltI (z := 10) hj (by omega)).mp c)), fun c => ⟨fun c2 => p84 g1 (Or.inr ((leI (x := 18) (by omega) hj).mp c2)), fun c2 => ?_⟩⟩
  have q1 : 10 ≤ j := by
    rcases Nat.lt_or_ge j 10 with q | q
    · exact absurd ((ltI (z := 10) hj (by omega)).mpr q) c
    · exact q
  have q2 : j < 18 := by
    rcases Nat.lt_or_ge j 18 with q | q
    · exact q
    · exact absurd ((leI (x := 18) (by omega) hj).mpr q) c2
  rw [show nI j - 10 = nI (j - 10) from nI_sub (z := 10) q1, ixn (by omega)]
  exact ⟨inn (by omega) (by omega), h4 q1 q2⟩
theorem figneg {s : Nat} {I : MI} {y : Int32} {Q : Int32 → Prop} (hy : y < 0) (h : Q (-1)) : w_X6_figure s y I Q := by
  have ne : ∀ z : Nat, z < 2147483648 → ¬ y = nI z := fun z hz c => by rw [c] at hy; exact absurd hy (nI_pos (by omega))
  have l10 : y < 10 := Int32.lt_trans hy (nI_lt (a := 0) (b := 10) (by omega) (by omega))
  have l20 : y < 20 := Int32.lt_trans hy (nI_lt (a := 0) (b := 20) (by omega) (by omega))
  unfold w_X6_figure w_X6_figure_p84
  exact ⟨fun c => absurd c (ne 0 (by omega)), fun c => absurd c (ne 1 (by omega)), fun c => absurd c (ne 2 (by omega)), fun _ _ _ => ⟨fun _ => ⟨fun _ => h, fun c => absurd l20 c⟩, fun c => absurd l10 c⟩⟩
/-- the answer of one alone -/
def vFig (V : Nat → Int32) (k p : Nat) (e : Int32) (j : Nat) : Int32 := if j = 0 then nI k else if j = 1 then e else if j = 2 then (if e = 0 then nI p else -1) else if j < 18 then V (200 + j) else V (158 + j)
def jOK (j : Nat) : Prop := j ≤ 2 ∨ (10 ≤ j ∧ j ≤ 17) ∨ (20 ≤ j ∧ j ≤ 51)
theorem k_fig {s k p j : Nat} {I : MI} {V : Nat → Int32} {e : Int32} {Q : Int32 → Prop} (hj : jOK j) (hO : RelO s I V) (he : e = 0 ∨ e = 1) (e2 : I s 2 = nI p) (e3 : I s 3 = nI k) (e4 : I s 4 = e) (hQ : Q (vFig V k p e j)) : w_X6_figure s (nI j) I Q := by
  unfold jOK at hj
  unfold vFig at hQ
  refine figc (by omega) (fun c => ?_) (fun c => ⟨fun c4 => ?_, fun c4 => ?_⟩) (fun c => ⟨fun c4 => ?_, fun c4 => ?_⟩) (fun c1 c2 => by omega) (fun c1 c2 => ?_) (fun c1 c2 => ?_)
  · rw [if_pos c] at hQ; rw [e3]; exact hQ
  · rw [if_neg (by omega), if_pos c] at hQ; rw [e4] at c4; rw [c4] at hQ; exact hQ
  · rw [if_neg (by omega), if_pos c] at hQ; rw [e4] at c4; rw [he.resolve_left c4] at hQ; exact hQ
  · rw [if_neg (by omega), if_neg (by omega), if_pos c] at hQ; rw [e4] at c4; rw [if_pos c4] at hQ; rw [e2]; exact hQ
  · rw [if_neg (by omega), if_neg (by omega), if_pos c] at hQ; rw [e4] at c4; rw [if_neg c4] at hQ; exact hQ
  · rw [if_neg (by omega), if_neg (by omega), if_neg (by omega), if_pos c2] at hQ
    rw [(hO.1 (j - 10) (by omega)).1, show 210 + (j - 10) = 200 + j by omega]; exact hQ
  · rw [if_neg (by omega), if_neg (by omega), if_neg (by omega), if_neg (by omega)] at hQ
    rw [(hO.2 (j - 20) (by omega)).1, show 178 + (j - 20) = 158 + j by omega]; exact hQ
theorem t_fig {o k p j : Nat} {J : MI} {V : Nat → Int32} {e : Int32} {S : Int32 → MI → Prop} (hj : jOK j) (he : e = 0 ∨ e = 1) (j6 : J o 6 = e) (j7 : e = 0 → J o 7 = nI p) (hS : S (vFig V k p e j) (kb J (o + 1) 516 V)) : w_X10_alone_p94 o (nI j) (nI k) (kb J (o + 1) 516 V) S := by
  unfold jOK at hj
  unfold vFig at hS
  have ltI : ∀ {x z : Nat}, x < 2147483648 → z < 2147483648 → (nI x < nI z ↔ x < z) := fun h1 h2 => nI_ltI h1 h2
  have eq : ∀ {z : Nat}, z < 2147483648 → (nI j = nI z ↔ j = z) := fun h1 => nI_eq (by omega) h1
  unfold w_X10_alone_p94
  rw [kb_oo, j6]
  refine ⟨fun c20 => ⟨fun c10 => ⟨fun c0 => ⟨fun c1 => ⟨fun c => ?_, fun c => ?_⟩, fun c1 => ⟨fun c => ?_, fun c => ?_⟩⟩, fun c0 => ?_⟩, fun c10 => ?_⟩, fun c20 => ?_⟩
  · have a10 := (ltI (z := 10) (by omega) (by omega)).mp c10
    have a0 : j ≠ 0 := fun q => c0 ((eq (z := 0) (by omega)).mpr q)
    have a1 : j ≠ 1 := fun q => c1 ((eq (z := 1) (by omega)).mpr q)
    rw [if_neg a0, if_neg a1, if_pos (by omega), if_pos c] at hS; rw [j7 c]; exact hS
  · have a10 := (ltI (z := 10) (by omega) (by omega)).mp c10
    have a0 : j ≠ 0 := fun q => c0 ((eq (z := 0) (by omega)).mpr q)
    have a1 : j ≠ 1 := fun q => c1 ((eq (z := 1) (by omega)).mpr q)
    rw [if_neg a0, if_neg a1, if_pos (by omega), if_neg c] at hS; exact hS
  · have a1 := (eq (z := 1) (by omega)).mp c1
    rw [if_neg (by omega), if_pos a1, c] at hS; exact hS
  · have a1 := (eq (z := 1) (by omega)).mp c1
    rw [if_neg (by omega), if_pos a1, he.resolve_left c] at hS; exact hS
  · have a0 := (eq (z := 0) (by omega)).mp c0
    rw [if_pos a0] at hS; exact hS
  · have a20 := (ltI (z := 20) (by omega) (by omega)).mp c20
    have a10 : 10 ≤ j := by
      rcases Nat.lt_or_ge j 10 with q | q
      · exact absurd ((ltI (z := 10) (by omega) (by omega)).mpr q) c10
      · exact q
    rw [if_neg (by omega), if_neg (by omega), if_neg (by omega), if_pos (by omega)] at hS
    rw [show (726 : Int32) + nI j - 10 = nI (516 + (200 + j)) from by rw [show (726 : Int32) + nI j = nI (726 + j) from nI_add 726 j]; exact (nI_sub (x := 726 + j) (z := 10) (by omega)).trans (congrArg nI (by omega)), kg (by omega) (by omega)]
    exact ⟨kin (by omega) (by omega), hS⟩
  · have a20 : 20 ≤ j := by
      rcases Nat.lt_or_ge j 20 with q | q
      · exact absurd ((ltI (z := 20) (by omega) (by omega)).mpr q) c20
      · exact q
    rw [if_neg (by omega), if_neg (by omega), if_neg (by omega), if_neg (by omega)] at hS
    rw [show (694 : Int32) + nI j - 20 = nI (516 + (158 + j)) from by rw [show (694 : Int32) + nI j = nI (694 + j) from nI_add 694 j]; exact (nI_sub (x := 694 + j) (z := 20) (by omega)).trans (congrArg nI (by omega)), kg (by omega) (by omega)]
    exact ⟨kin (by omega) (by omega), hS⟩
theorem vStart_lay {V : Nat → Int32} {A j : Nat} (h1 : 172 ≤ j) (h2 : j < 218) : vStart V A j = V (j - 171) := by
  unfold vStart
  rw [upd_n _ _ (by omega), upd_n _ _ (by omega)]
  unfold vLay
  rw [if_pos (by omega)]
theorem vStart_fr {V : Nat → Int32} {A j : Nat} (h1 : j < 170) (h2 : j ≠ 49) : vStart V A j = V j := by
  unfold vStart
  rw [upd_n _ _ (by omega), upd_n _ _ (by omega)]
  exact vLay_o h1
/-- what a question to the model may change besides: trial and draft, one's own place, the line, the reader's rows -/
def MFr (o : Nat) (J J' : MI) : Prop := (∀ j, (j < 516 ∨ 1548 ≤ j) → J' (o + 1) j = J (o + 1) j) ∧ J' (o + 2) = J (o + 2) ∧ J' (o + 3) = J (o + 3) ∧ (∀ j, 3 ≤ j → j ≤ 5 → J' o j = J o j) ∧ ∀ c, (c < o ∨ o + 9 < c) → J' c = J c
theorem MFr.rf {o : Nat} {J : MI} : MFr o J J := ⟨fun _ _ => rfl, rfl, rfl, fun _ _ _ => rfl, fun _ _ => rfl⟩
theorem MFr.tr {o : Nat} {J J' J'' : MI} (h : MFr o J J') (h' : MFr o J' J'') : MFr o J J'' := ⟨fun j hj => (h'.1 j hj).trans (h.1 j hj), h'.2.1.trans h.2.1, h'.2.2.1.trans h.2.2.1, fun j h1 h2 => (h'.2.2.2.1 j h1 h2).trans (h.2.2.2.1 j h1 h2), fun c hc => (h'.2.2.2.2 c hc).trans (h.2.2.2.2 c hc)⟩
theorem MFr.kb {o b : Nat} {J : MI} {V : Nat → Int32} (h1 : 516 ≤ b) (h2 : b ≤ 1032) : MFr o J (kb J (o + 1) b V) := ⟨fun j hj => kb_out _ _ _ _ (by omega), kb_ne _ _ (by omega), kb_ne _ _ (by omega), fun j _ _ => by rw [kb_ne _ _ (by omega)], fun c hc => kb_ne _ _ (by omega)⟩
theorem MFr.sf {o : Nat} {J J' : MI} (h : SF o J J') : MFr o J J' := ⟨fun j _ => by rw [h.1 _ (by omega)], h.1 _ (by omega), h.1 _ (by omega), fun j h1 h2 => h.2 j (by omega) (by omega), fun c hc => h.1 c (by omega)⟩
theorem t_aloneV {o j : Nat} {x : Int32} {M : MI} {S : Int32 → MI → Prop} (h : jOK j) (hq : w_X10_alone_p36 o x (nI j) 1 M S) : w_X10_alone o x (nI j) M S := by
  unfold w_X10_alone
  rcases h with h | ⟨h1, h2⟩ | ⟨h1, h2⟩
  · exact t_isIn1 (lo := 0) (hi := 2) (by omega) h (by omega) ⟨fun _ => hq, fun c => absurd c (by decide)⟩
  · exact t_isIn0 (Or.inr (nI_lt (a := 2) (by omega) (by omega))) ⟨fun c => absurd rfl c, fun _ => t_isIn1 (lo := 10) (hi := 17) h1 h2 (by omega) ⟨fun _ => hq, fun c => absurd c (by decide)⟩⟩
  · exact t_isIn0 (Or.inr (nI_lt (a := 2) (by omega) (by omega))) ⟨fun c => absurd rfl c, fun _ => t_isIn0 (Or.inr (nI_lt (a := 17) (by omega) (by omega))) ⟨fun c => absurd rfl c, fun _ => t_isIn1 (lo := 20) (hi := 51) h1 h2 (by omega) ⟨fun c => absurd c (by decide), fun _ => hq⟩⟩⟩
theorem t_aloneN {o : Nat} {x y : Int32} {M : MI} {S : Int32 → MI → Prop} (h1 : y < nI 0 ∨ nI 2 < y) (h2 : y < nI 10 ∨ nI 17 < y) (h3 : y < nI 20 ∨ nI 51 < y) (hq : w_X10_alone_p36 o x y 0 M S) : w_X10_alone o x y M S := by
  unfold w_X10_alone
  exact t_isIn0 h1 ⟨fun c => absurd rfl c, fun _ => t_isIn0 h2 ⟨fun c => absurd rfl c, fun _ => t_isIn0 h3 ⟨fun _ => hq, fun c => absurd rfl c⟩⟩⟩
theorem q_alone {x y : Int32} {I : MI} {V : Nat → Int32} {P : Int32 → MI → Prop} (h : Inv a I V) (hP : ∀ v I', (∀ (o : Nat) (J : MI) (S : Int32 → MI → Prop), (∀ J', MFr o (kb J (o + 1) 0 V) J' → S v J') → w_X10_alone o x y (kb J (o + 1) 0 V) S) → (∀ c, (c < a + 174 ∨ a + 176 < c) → I' c = I c) → P v I') : w_X9_alone a x y I P := by
  unfold w_X9_alone
  rcases in_cases x (lo := 0) (hi := 400) (by omega) (by omega) with ⟨n, h1, h2, rfl⟩ | hx
  · obtain ⟨hR, hRT, hW, hTm, K, A, hK, e47, hL, e49⟩ := h
    obtain ⟨hsz, e48⟩ := size_lt hR.1
    refine ⟨fun c => absurd c (nI_pos (by omega)), fun _ => ⟨fun _ => ?_, fun c => absurd (nI_le (b := 400) h2 (by omega)) c⟩⟩
    unfold w_X6_startOf
    rintro _ rfl _ rfl _ rfl _ rfl _ rfl
    generalize hI1 : ui (ui (ui (uc (uc I (a + 4 + 4) (a + 174 + 1) 8) (a + 4 + 3) (a + 174 + 2) 32) (a + 174) 2 0) (a + 174) 3 0) (a + 174) 4 0 = I1
    have f1 : ∀ c, (c < a + 174 ∨ a + 176 < c) → I1 c = I c := fun c hc => by
      rw [← hI1, ui_ne _ _ _ (by omega), ui_ne _ _ _ (by omega), ui_ne _ _ _ (by omega), uc_ne _ _ (by omega), uc_ne _ _ (by omega)]
    obtain ⟨t1, t2, t3, t4, t5, t6, t7⟩ := hRT
    have hO : RelO (a + 174) I1 (vStart V A) := by
      refine ⟨fun r hr => ?_, fun c hc => ?_⟩
      · rw [← hI1, ui_ne _ _ _ (by omega), ui_ne _ _ _ (by omega), ui_ne _ _ _ (by omega), uc_ne _ _ (by omega), uc_at]
        rw [vStart_lay (by omega) (by omega), show 210 + r - 171 = 39 + r by omega]
        unfold va_cpy
        rw [if_pos (by omega), show 0 + (r - 0) = r by omega]
        exact t7 r hr
      · rw [← hI1, ui_ne _ _ _ (by omega), ui_ne _ _ _ (by omega), ui_ne _ _ _ (by omega), uc_at]
        rw [vStart_lay (by omega) (by omega), show 178 + c - 171 = 7 + c by omega]
        unfold va_cpy
        rw [if_pos (by omega), show 0 + (c - 0) = c by omega, uc_ne _ _ (by omega)]
        exact t6 c hc
    have vf : VFr V (vStart V A) := fun j hj => by
      by_cases e : j = 49
      · subst e; unfold vStart; rw [upd_s]; exact e49.symm
      · exact vStart_fr hj e
    have hR1 : RelR (a + 4) I1 (vStart V A) := hR.1.fr (fun c _ _ => f1 c (by omega)) vf
    have v48 : vStart V A 48 = V 48 := vStart_fr (by omega) (by omega)
    refine ⟨n + 1, q_aloneN (y := y) h2 n I1 (vStart V A) 0 0 (by omega) hR1 hO (Nat.zero_le _) (by rw [← hI1, ui_gj _ _ _ (by omega), ui_gj _ _ _ (by omega), ui_gs]; rfl) (by rw [← hI1, ui_gj _ _ _ (by omega), ui_gs]; rfl) (Or.inl (by rw [← hI1, ui_gs])) (fun I' V' k' p' e hO' he g2 g3 g4 gF gm => ?_)⟩
    have fr : ∀ c, (c < a + 174 ∨ a + 176 < c) → I' c = I c := fun c hc => by rw [gF c hc, f1 c hc]
    have i4 : I1 (a + 174) 4 = 0 := by rw [← hI1, ui_gs]
    have m36 : ∀ (o : Nat) (J : MI) (S : Int32 → MI → Prop), (∀ J', MFr o (kb J (o + 1) 0 V) (kb J' (o + 1) 516 V') → J' o 6 = e → (e = 0 → J' o 7 = nI p') → w_X10_alone_p94 o y (nI k') (kb J' (o + 1) 516 V') S) → w_X10_alone_p36 o (nI n) y 1 (kb J (o + 1) 0 V) S := fun o J S hS => by
      unfold w_X10_alone_p36
      refine t_isIn1 (lo := 0) (hi := 400) (by omega) h2 (by omega) ⟨fun c => absurd c (by decide), fun _ => ⟨fun _ => t_tries hR.1 hK e47 (fun A' hA' => ?_), fun c => absurd c (by decide)⟩⟩
      rw [hA'.uq hL]
      rintro _ rfl _ rfl
      rw [kb_o, kb_o]
      refine ⟨n + 1, gm o _ _ S (by rw [ui_gs, i4]) (fun _ => by rw [ui_gj _ _ _ (by omega), ui_gs]; rfl) (fun J' jf j6 j7 => hS J' ?_ j6 j7)⟩
      exact (MFr.sf (((SF.ui (k := 7) (Or.inr rfl)).tr (SF.ui (k := 6) (Or.inl rfl))).tr jf)).tr (MFr.kb (by omega) (by omega))
    have val : ∀ j, jOK j → y = nI j → w_X6_figure (a + 174) y I' (fun r => P r I') := fun j hj ey => by
      subst ey
      refine k_fig hj hO' he g2 g3 g4 (hP _ I' (fun o J S hS => t_aloneV hj (m36 o J S (fun J' jf j6 j7 => ?_))) fr)
      exact t_fig hj he j6 j7 (hS _ jf)
    rcases in_cases y (lo := 0) (hi := 2) (by omega) (by omega) with ⟨j, -, b, ey⟩ | n1
    · exact val j (Or.inl b) ey
    · rcases in_cases y (lo := 10) (hi := 17) (by omega) (by omega) with ⟨j, b1, b2, ey⟩ | n2
      · exact val j (Or.inr (Or.inl ⟨b1, b2⟩)) ey
      · rcases in_cases y (lo := 20) (hi := 51) (by omega) (by omega) with ⟨j, b1, b2, ey⟩ | n3
        · exact val j (Or.inr (Or.inr ⟨b1, b2⟩)) ey
        · have hno : P (-1) I' := hP _ I' (fun o J S hS => t_aloneN n1 n2 n3 (by
            unfold w_X10_alone_p36
            exact t_isIn1 (lo := 0) (hi := 400) (by omega) h2 (by omega) ⟨fun c => absurd c (by decide), fun _ => ⟨fun c => absurd rfl c, fun _ => hS _ MFr.rf⟩⟩)) fr
          by_cases yn : y < 0
          · exact figneg yn hno
          · obtain ⟨j, hj, rfl⟩ := nI_of yn
            have lt : ∀ {x z : Nat}, x < 2147483648 → z < 2147483648 → nI x < nI z → x < z := fun h1 h2 h => (nI_ltI h1 h2).mp h
            have q1 : 2 < j := n1.elim (fun c => absurd (lt (by omega) (by omega) c) (by omega)) (fun c => lt (by omega) (by omega) c)
            have q2 : j < 10 ∨ 17 < j := n2.elim (fun c => Or.inl (lt (by omega) (by omega) c)) (fun c => Or.inr (lt (by omega) (by omega) c))
            have q3 : j < 20 ∨ 51 < j := n3.elim (fun c => Or.inl (lt (by omega) (by omega) c)) (fun c => Or.inr (lt (by omega) (by omega) c))
            exact figc (by omega) (fun c => by omega) (fun c => by omega) (fun c => by omega) (fun _ _ => hno) (fun c1 c2 => by omega) (fun c1 c2 => by omega)
  · have hno : P (-1) I := hP (-1) I (fun o J S hS => by
      have p36 : ∀ s0 : Int32, w_X10_alone_p36 o x y s0 (kb J (o + 1) 0 V) S := fun s0 => by
        unfold w_X10_alone_p36
        exact t_isIn0 hx ⟨fun _ => hS _ MFr.rf, fun c => absurd rfl c⟩
      have any : ∀ {u v w : Int32} {Q : Int32 → Prop}, (∀ z, Q z) → w_X10_isIn u v w Q := fun hq => by
        unfold w_X10_isIn
        exact ⟨fun _ => hq _, fun _ => ⟨fun _ => hq _, fun _ => hq _⟩⟩
      unfold w_X10_alone
      exact any (fun z => ⟨fun _ => p36 1, fun _ => any (fun z => ⟨fun _ => p36 1, fun _ => any (fun z => ⟨fun _ => p36 0, fun _ => p36 1⟩)⟩)⟩)) (fun _ _ => rfl)
    exact ⟨fun _ => hno, fun c => ⟨fun c2 => absurd (hx.resolve_left c) (Int32.not_lt.mpr c2), fun _ => hno⟩⟩
end
