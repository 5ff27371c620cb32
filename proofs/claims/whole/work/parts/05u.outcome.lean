section
variable {m : Nat} {I : MI} {V : Nat → Int32}
def vOut (V : Nat → Int32) (st : Bool) : Int32 := if V 226 = 1 ∧ V 240 = 1 ∧ V 271 = 0 then 1 else if st = true then 2 else if V 170 = 999 then 3 else 0
theorem vOut_bd (V : Nat → Int32) (st : Bool) : bd (vOut V st) 4 := by
  unfold vOut
  split
  · exact ⟨1, by omega, rfl⟩
  · split
    · exact ⟨2, by omega, rfl⟩
    · split
      · exact ⟨3, by omega, rfl⟩
      · exact ⟨0, by omega, rfl⟩
theorem bit_c {x : Int32} (h : bd x 2) : x = 0 ∨ x = 1 := by
  obtain ⟨k, hk, rfl⟩ := h
  rcases (show k = 0 ∨ k = 1 by omega) with rfl | rfl
  · exact Or.inl rfl
  · exact Or.inr rfl
theorem k_outcome {t : Nat} {st : Bool} {Q : Int32 → Prop} (h : Rel m I V) (hst : st = true ↔ I m 15 = 0 ∧ vAll V = true) (et : V 170 = nI t) (ht : t < 1000) (hQ : Q (vOut V st)) : w_X1_outcomeNow m I Q := by
  obtain ⟨-, -, -, -, -, -, p4, pb, -⟩ := h.2.2.2.2 0 (by omega)
  obtain ⟨-, -, -, -, -, -, q4, qb, -⟩ := h.2.2.2.2 1 (by omega)
  have p4 : I (m + 57) 4 = V 226 := p4
  have q4 : I (m + 60) 4 = V 240 := q4
  have pb := bit_c pb
  have qb := bit_c qb
  obtain ⟨n, f, hn, hf, e1, e2, -⟩ := h.2.2.2.1 1 (by omega)
  have e3 : I (m + 42) 3 = V 271 := e2.trans e1.symm
  obtain ⟨n0, f0, hn0, hf0, e10, -⟩ := h.2.2.2.1 0 (by omega)
  have e5 : I m 5 = nI t := h.2.2.1.2.2.1.trans et
  have hp38 : ¬ (V 226 = 1 ∧ V 240 = 1 ∧ V 271 = 0) → w_X1_outcomeNow_p38 m I Q := fun hne => by
    unfold vOut at hQ
    rw [if_neg hne] at hQ
    unfold w_X1_outcomeNow_p38
    rw [e5]
    have hnow : ¬ st = true → (nI t < 999 → Q 0) ∧ (¬ nI t < 999 → Q 3) := fun hs' => by
      rw [if_neg hs', et] at hQ
      refine ⟨fun c => ?_, fun c => ?_⟩
      · have c := (nI_ltI (b := 999) (by omega) (by omega)).mp c
        rw [if_neg (fun g => by have := nI_inj (b := 999) (by omega) (by omega) g; omega)] at hQ
        exact hQ
      · have : t = 999 := by
          rcases Nat.lt_or_ge t 999 with g | g
          · exact absurd (nI_lt g (by omega)) c
          · omega
        rw [if_pos (by rw [this]; rfl)] at hQ
        exact hQ
    refine ⟨fun c => hnow (fun g => c (hst.mp g).1), fun c => k_allLoads h e10 hn0 ?_⟩
    by_cases g : vAll V = true
    · rw [if_pos g]
      rw [if_pos (hst.mpr ⟨c, g⟩)] at hQ
      exact ⟨fun c => absurd c (by decide), fun _ => hQ⟩
    · rw [if_neg g]
      exact ⟨fun _ => hnow (fun c => g (hst.mp c).2), fun c => absurd rfl c⟩
  unfold w_X1_outcomeNow
  rw [p4, q4, e3]
  refine ⟨fun c => hp38 (fun g => by rw [c] at g; exact absurd g.1 (by decide)), fun c => ⟨fun c2 => hp38 (fun g => by rw [c2] at g; exact absurd g.2.1 (by decide)), fun c2 => ⟨fun c3 => hp38 (fun g => c3 g.2.2), fun c3 => ?_⟩⟩⟩
  unfold vOut at hQ
  rw [if_pos ⟨pb.resolve_left c, qb.resolve_left c2, c3⟩] at hQ
  exact hQ
theorem t_outcome {o b : Nat} {J : MI} {st : Bool} {Q : MI → Prop} (hb : b ≤ 1032) (hQ : Q (kb J (o + 1) b (upd V 171 (vOut V st)))) : w_X10_cycle_p285 o (nI b) (if st = true then 1 else 0) (kb J (o + 1) b V) Q := by
  have z : ∀ x : Int32, vp_in (nI b + 171) 4905 ∧ ui (kb J (o + 1) b V) (o + 1) (ix (nI b + 171)) x = kb J (o + 1) b (upd V 171 x) := fun x => by
    obtain ⟨z1, -, z3⟩ := t_val (o := o) (J := J) (V := V) (k := 171) hb (by omega)
    exact ⟨z1, z3 x⟩
  have hno : ¬ (V 226 = 1 ∧ V 240 = 1 ∧ V 271 = 0) → w_X10_cycle_p319 o (nI b) (if st = true then 1 else 0) 0 (kb J (o + 1) b V) Q := fun hne => by
    unfold vOut at hQ
    rw [if_neg hne] at hQ
    unfold w_X10_cycle_p319
    refine ⟨fun _ => ⟨fun c => ?_, fun c => ?_⟩, fun c => absurd rfl c⟩
    · have hs' : ¬ st = true := fun g => by rw [if_pos g] at c; exact absurd c (by decide)
      rw [if_neg hs'] at hQ
      obtain ⟨y1, y2, -⟩ := t_val (o := o) (J := J) (V := V) (k := 170) hb (by omega)
      have y2 : kb J (o + 1) b V (o + 1) (ix (nI b + 170)) = V 170 := y2
      refine ⟨y1, ?_⟩
      rw [y2]
      refine ⟨fun c2 => ⟨(z 0).1, ?_⟩, fun c2 => ⟨(z 3).1, ?_⟩⟩
      · rintro _ rfl
        rw [if_neg c2] at hQ
        rw [(z 0).2]
        exact hQ
      · rintro _ rfl
        rw [if_pos c2] at hQ
        rw [(z 3).2]
        exact hQ
    · have hs' : st = true := by
        by_cases g : st = true
        · exact g
        · rw [if_neg g] at c; exact absurd rfl c
      rw [if_pos hs'] at hQ
      refine ⟨(z 2).1, ?_⟩
      rintro _ rfl
      rw [(z 2).2]
      exact hQ
  unfold w_X10_cycle_p285
  refine t_isEnded (s := 0) hb (by omega) ?_
  rw [show 226 + 14 * 0 = 226 by omega]
  by_cases h1 : V 226 = 1
  · rw [if_pos h1]
    refine ⟨fun c => absurd c (by decide), fun _ => t_isEnded (s := 1) hb (by omega) ?_⟩
    rw [show 226 + 14 * 1 = 240 by omega]
    by_cases h2 : V 240 = 1
    · rw [if_pos h2]
      refine ⟨fun c => absurd c (by decide), fun _ => t_inQueue (q := 1) hb (by omega) ⟨fun c => hno (fun g => c g.2.2), fun c => ?_⟩⟩
      have c : V 271 = 0 := c
      unfold vOut at hQ
      rw [if_pos ⟨h1, h2, c⟩] at hQ
      unfold w_X10_cycle_p319
      refine ⟨fun c => absurd c (by decide), fun _ => ⟨(z 1).1, ?_⟩⟩
      rintro _ rfl
      rw [(z 1).2]
      exact hQ
    · rw [if_neg h2]
      exact ⟨fun _ => hno (fun g => h2 g.2.1), fun c => absurd rfl c⟩
  · rw [if_neg h1]
    exact ⟨fun _ => hno (fun g => h1 g.1), fun c => absurd rfl c⟩
def stc (x2 x3 : Int32) (V : Nat → Int32) : Bool := decide (x2 = V 221 ∧ x3 = V 224 + V 238 ∧ ¬ V 227 = 7 ∧ vAll V = true)
def vNum (V : Nat → Int32) (sl : Int32) : Nat → Int32 := upd (upd (upd V 218 (if V 218 < sl then sl else V 218)) 219 (if sl < V 219 then sl else V 219)) 220 (V 220 + sl)
theorem t_p110 {o b n : Nat} {J : MI} {x2 x3 : Int32} {Q : MI → Prop} (hb : b ≤ 1032) (e1 : V 252 = nI n) (hn : n ≤ 6) (hQ : Q (kb J (o + 1) b (upd (vNum V (V 225 - V 239)) 171 (vOut (vNum V (V 225 - V 239)) (stc x2 x3 (vNum V (V 225 - V 239))))))) : w_X10_cycle_p110 o (nI b) x2 x3 (kb J (o + 1) b V) Q := by
  unfold w_X10_cycle_p110
  refine t_slip hb ?_
  generalize hsl : V 225 - V 239 = sl at hQ
  have h3 : ∀ (V : Nat → Int32) (n : Nat), V 252 = nI n → n ≤ 6 → Q (kb J (o + 1) b (upd V 171 (vOut V (stc x2 x3 V)))) → (vp_in (nI b + 221) 4905 ∧ ((¬ x2 = (kb J (o + 1) b V (o + 1) (ix (nI b + (221)))) → w_X10_cycle_p285 o (nI b) (0) (kb J (o + 1) b V) Q) ∧ (x2 = (kb J (o + 1) b V (o + 1) (ix (nI b + (221)))) → (w_X10_sideAt (nI b) (0) (fun r61 => (vp_in (r61 + (2)) 4905 ∧ (w_X10_sideAt (nI b) (1) (fun r63 => (vp_in (r63 + (2)) 4905 ∧ ((¬ x3 = ((kb J (o + 1) b V (o + 1) (ix (r61 + (2)))) + (kb J (o + 1) b V (o + 1) (ix (r63 + (2))))) → w_X10_cycle_p285 o (nI b) (0) (kb J (o + 1) b V) Q) ∧ (x3 = ((kb J (o + 1) b V (o + 1) (ix (r61 + (2)))) + (kb J (o + 1) b V (o + 1) (ix (r63 + (2))))) → (w_X10_sideAt (nI b) (0) (fun r66 => (vp_in (r66 + (5)) 4905 ∧ (((kb J (o + 1) b V (o + 1) (ix (r66 + (5)))) = (7) → w_X10_cycle_p285 o (nI b) (0) (kb J (o + 1) b V) Q) ∧ (¬ (kb J (o + 1) b V (o + 1) (ix (r66 + (5)))) = (7) → (w_X10_haveCome o (nI b) (kb J (o + 1) b V) (fun r69 => ((r69 = 0 → w_X10_cycle_p285 o (nI b) (0) (kb J (o + 1) b V) Q) ∧ (¬ r69 = 0 → w_X10_cycle_p285 o (nI b) (1) (kb J (o + 1) b V) Q)))))))))))))))))))) := fun V n e1 hn hQ => by
    have no : ¬ stc x2 x3 V = true → w_X10_cycle_p285 o (nI b) (0) (kb J (o + 1) b V) Q := fun g => by
      have := t_outcome (o := o) (J := J) (V := V) (st := stc x2 x3 V) (Q := Q) hb hQ
      rw [if_neg g] at this
      exact this
    have e : ∀ P : Prop, (stc x2 x3 V = true → P) → ¬ P → ¬ stc x2 x3 V = true := fun P h1 h2 g => h2 (h1 g)
    have us : stc x2 x3 V = true ↔ (x2 = V 221 ∧ x3 = V 224 + V 238 ∧ ¬ V 227 = 7 ∧ vAll V = true) := by unfold stc; exact decide_eq_true_iff
    obtain ⟨y1, y2, -⟩ := t_val (o := o) (J := J) (V := V) (k := 221) hb (by omega)
    have y2 : kb J (o + 1) b V (o + 1) (ix (nI b + 221)) = V 221 := y2
    refine ⟨y1, ?_⟩
    rw [y2]
    refine ⟨fun c => no (fun g => c (us.mp g).1), fun c1 => t_sideAt (s := 0) ?_⟩
    rw [show nI (b + 222 + 14 * 0) + 2 = nI (b + 224) from nI_add _ 2, kg hb (by omega)]
    refine ⟨kin hb (by omega), t_sideAt (s := 1) ?_⟩
    rw [show nI (b + 222 + 14 * 1) + 2 = nI (b + 238) from nI_add _ 2, kg hb (by omega)]
    refine ⟨kin hb (by omega), fun c => no (fun g => c (us.mp g).2.1), fun c2 => t_sideAt (s := 0) ?_⟩
    rw [show nI (b + 222 + 14 * 0) + 5 = nI (b + 227) from nI_add _ 5, kg hb (by omega)]
    refine ⟨kin hb (by omega), fun c => no (fun g => (us.mp g).2.2.1 c), fun c3 => t_haveCome hb e1 hn ?_⟩
    by_cases g : vAll V = true
    · rw [if_pos g]
      refine ⟨fun c => absurd c (by decide), fun _ => ?_⟩
      have := t_outcome (o := o) (J := J) (V := V) (st := stc x2 x3 V) (Q := Q) hb hQ
      rw [if_pos (us.mpr ⟨c1, c2, c3, g⟩)] at this
      exact this
    · rw [if_neg g]
      exact ⟨fun _ => no (fun q => g (us.mp q).2.2.2), fun c => absurd rfl c⟩
  have h2 : ∀ (V : Nat → Int32) (s0 : Int32) (n : Nat), V 252 = nI n → n ≤ 6 → Q (kb J (o + 1) b (upd (upd (upd V 219 s0) 220 (V 220 + sl)) 171 (vOut (upd (upd V 219 s0) 220 (V 220 + sl)) (stc x2 x3 (upd (upd V 219 s0) 220 (V 220 + sl)))))) → w_X10_cycle_p196 o (nI b) x2 x3 sl s0 (nI b + 219) (o + 1) (kb J (o + 1) b V) Q := fun V s0 n e1 hn hQ => by
    unfold w_X10_cycle_p196
    obtain ⟨y1, -, y3⟩ := t_val (o := o) (J := J) (V := V) (k := 219) hb (by omega)
    have y3 : ui (kb J (o + 1) b V) (o + 1) (ix (nI b + 219)) s0 = kb J (o + 1) b (upd V 219 s0) := y3 s0
    refine ⟨y1, ?_⟩
    rintro _ rfl
    rw [y3]
    obtain ⟨w1, w2, w3⟩ := t_val (o := o) (J := J) (V := upd V 219 s0) (k := 220) hb (by omega)
    have w2 : kb J (o + 1) b (upd V 219 s0) (o + 1) (ix (nI b + 220)) = V 220 := by rw [show (220 : Int32) = nI 220 from rfl, w2, upd_n _ _ (by omega)]
    refine ⟨w1, w1, ?_⟩
    rintro _ rfl
    have w3 : ui (kb J (o + 1) b (upd V 219 s0)) (o + 1) (ix (nI b + 220)) (V 220 + sl) = kb J (o + 1) b (upd (upd V 219 s0) 220 (V 220 + sl)) := w3 _
    rw [w2, w3]
    exact h3 _ n (by rw [upd_n _ _ (by omega), upd_n _ _ (by omega)]; exact e1) hn hQ
  have h1 : ∀ s0 : Int32, s0 = (if V 218 < sl then sl else V 218) → w_X10_cycle_p156 o (nI b) x2 x3 sl s0 (nI b + 218) (o + 1) (kb J (o + 1) b V) Q := fun s0 hs0 => by
    unfold w_X10_cycle_p156
    obtain ⟨y1, -, y3⟩ := t_val (o := o) (J := J) (V := V) (k := 218) hb (by omega)
    have y3 : ui (kb J (o + 1) b V) (o + 1) (ix (nI b + 218)) s0 = kb J (o + 1) b (upd V 218 s0) := y3 s0
    refine ⟨y1, ?_⟩
    rintro _ rfl
    rw [y3]
    obtain ⟨w1, w2, -⟩ := t_val (o := o) (J := J) (V := upd V 218 s0) (k := 219) hb (by omega)
    have w2 : kb J (o + 1) b (upd V 218 s0) (o + 1) (ix (nI b + 219)) = V 219 := by rw [show (219 : Int32) = nI 219 from rfl, w2, upd_n _ _ (by omega)]
    rw [w2]
    have e20 : upd V 218 s0 220 = V 220 := upd_n _ _ (by omega)
    have h252 : upd V 218 s0 252 = nI n := by rw [upd_n _ _ (by omega)]; exact e1
    unfold vNum at hQ
    rw [← hs0] at hQ
    refine ⟨w1, fun c => ⟨w1, h2 _ _ n h252 hn ?_⟩, fun c => h2 _ _ n h252 hn ?_⟩
    · rw [e20]; rw [if_neg (Int32.not_lt.mpr c)] at hQ; exact hQ
    · rw [e20]; rw [if_pos (Int32.not_le.mp c)] at hQ; exact hQ
  obtain ⟨y1, y2, -⟩ := t_val (o := o) (J := J) (V := V) (k := 218) hb (by omega)
  have y2 : kb J (o + 1) b V (o + 1) (ix (nI b + 218)) = V 218 := y2
  rw [y2]
  exact ⟨y1, fun c => ⟨y1, h1 _ (by rw [if_neg (Int32.not_lt.mpr c)])⟩, fun c => h1 _ (by rw [if_pos (Int32.not_le.mp c)])⟩
theorem addz {x y : Int32} (h : x = x + y) : y = 0 := ((Int32.add_right_inj x).mp (show x + 0 = x + y by rw [Int32.add_zero]; exact h)).symm
end
