section
variable {a m : Nat} {I : MI} {V : Nat → Int32}
theorem u0 {x : Int32} {k : Nat} (h : 0 < k) : upd V 0 x k = V k := upd_n _ _ (by omega)
theorem vOp_0 {x : Int32} {i : Nat} : vOp (upd V 0 x) i = vOp V i := by unfold vOp; rw [u0 (by omega), u0 (by omega)]
theorem vDeed_0 {x : Int32} {s i k : Nat} : vDeed (upd V 0 x) s i k = vDeed V s i k := by
  unfold vDeed
  rw [vOp_0]
  unfold vDeedOp vDeedIf vSend vSends
  simp only [u0 (V := V) (x := x) (k := 49) (by omega), u0 (V := V) (x := x) (k := 51 + 5 * i) (by omega), u0 (V := V) (x := x) (k := 52 + 5 * i) (by omega), u0 (V := V) (x := x) (k := 53 + 5 * i) (by omega)]
theorem vMany_0 {x : Int32} {s i : Nat} : vMany (upd V 0 x) s i = vMany V s i := by unfold vMany; rw [vDeed_0, vDeed_0]
theorem Rel.late {x : Int32} (h : Rel m I V) (hx : ∃ k, 1 ≤ k ∧ k ≤ 9 ∧ x = nI k) : Rel m (ui I m 7 x) (upd V 0 x) := by
  have i0 : ∀ c, c ≠ m → ui I m 7 x c = I c := fun c hc => ui_ne _ _ _ hc
  refine ⟨?_, ?_, ?_, fun q hq => ?_, fun s hs => ?_⟩
  · obtain ⟨h1, h2, h3, h4, h5⟩ := h.1
    refine ⟨by rw [i0 _ (by omega), u0 (by omega)]; exact h1, by rw [u0 (by omega)]; exact h2, fun i hi => ?_, fun i hi => ?_, fun i hi => ?_⟩
    · rw [u0 (by omega)] at hi
      rw [i0 _ (by omega), vOp_0]; exact h3 i hi
    · rw [u0 (by omega)] at hi
      have := h4 i hi
      unfold RowR at this ⊢
      rw [i0 _ (by omega), u0 (by omega), u0 (by omega), u0 (by omega), u0 (by omega), u0 (by omega), u0 (by omega)]
      exact this
    · rw [i0 _ (by omega)]; exact h5 i hi
  · obtain ⟨g1, g2, g3, g4⟩ := h.2.1
    refine ⟨by rw [i0 _ (by omega), u0 (by omega)]; exact g1, fun s i hs hi => ?_, fun s i k hs hi hk => ?_, fun i k hi hk hc => ?_⟩
    · rw [u0 (by omega)] at hi
      rw [i0 _ (by omega), vMany_0]; exact g2 s i hs hi
    · rw [u0 (by omega)] at hi
      rw [vMany_0] at hk
      rw [i0 _ (by omega), vOp_0, vDeed_0]; exact g3 s i k hs hi hk
    · rw [u0 (by omega)] at hi
      rw [vMany_0] at hk
      rw [vOp_0, vDeed_0] at hc
      rw [i0 _ (by omega), vDeed_0]; exact g4 i k hi hk hc
  · obtain ⟨a1, a2, a3, a4, a5, a6, a7, a8, a9, a10, a11, a12, a13, a14, a15, a16, a17, a18, a19⟩ := h.2.2.1
    have hJ : ∀ k, k ≠ 7 → ui I m 7 x m k = I m k := fun k hk => ui_gj _ _ _ hk
    unfold RelM
    rw [i0 (m + 35) (by omega), i0 (m + 36) (by omega), hJ 5 (by omega), hJ 6 (by omega), hJ 8 (by omega), hJ 9 (by omega), hJ 10 (by omega), hJ 11 (by omega), hJ 12 (by omega), hJ 13 (by omega), hJ 14 (by omega), hJ 15 (by omega), ui_gs, upd_s, u0 (k := 170) (by omega), u0 (k := 171) (by omega), u0 (k := 218) (by omega), u0 (k := 219) (by omega), u0 (k := 220) (by omega), u0 (k := 221) (by omega), u0 (k := 233) (by omega), u0 (k := 234) (by omega), u0 (k := 235) (by omega), u0 (k := 250) (by omega), u0 (k := 251) (by omega)]
    exact ⟨fun r hr => by rw [u0 (by omega)]; exact a1 r hr, fun c hc => by rw [u0 (by omega)]; exact a2 c hc, a3, a4, a5, a6, a7, rfl, hx, a10, a11, a12, a13, a14, a15, a16, a17, a18, a19⟩
  · exact (h.2.2.2.1 q hq).fr (fun d hd => i0 _ (by omega)) (u0 (by omega)) (fun d hd => u0 (by omega))
  · obtain ⟨g0, ⟨p, k, hp, ep, ek, hk⟩, g1, g2, g3, g4, g5, g6, g9, g10⟩ := h.2.2.2.2 s hs
    unfold RelS
    rw [i0 _ (by omega), i0 _ (by omega), i0 _ (by omega), u0 (k := 48) (by omega), u0 (k := 222 + 14 * s) (by omega), u0 (k := 223 + 14 * s) (by omega), u0 (k := 224 + 14 * s) (by omega), u0 (k := 225 + 14 * s) (by omega), u0 (k := 226 + 14 * s) (by omega)]
    refine ⟨g0, ⟨p, k, hp, ep, ek, ?_⟩, g1, g2, g3, g4, g5, g6, fun r h1 h2 => ?_, fun i k hi hk => ?_⟩
    · rw [vMany_0]; exact hk
    · rw [u0 (by omega)]; exact g9 r h1 h2
    · rw [u0 (by omega)]; exact g10 i k hi hk
theorem q_late {x : Int32} {P : Int32 → MI → Prop} (h : Inv a I V) (hT : TrOK a I) (hP : ∀ v I', (∀ (o : Nat) (J : MI) (S : Int32 → MI → Prop), (∀ V', S v (kb (kb J (o + 1) 0 V) (o + 1) 516 V')) → S v (kb J (o + 1) 0 V) → w_X10_late o x (kb J (o + 1) 0 V) S) → TrOK a I' → TFr a I I' → P v I') : w_X9_late a x I P := by
  unfold w_X9_late
  rcases in_cases x (lo := 1) (hi := 9) (by omega) (by omega) with ⟨k, h1, h2, rfl⟩ | hx
  · refine ⟨fun c => absurd ((nI_ltI (b := 1) (by omega) (by omega)).mp c) (by omega), fun _ => ⟨fun _ => q_tries h hT (fun I1 V1 m1 r1 r2 r3 r4 f1 => ?_), fun c => absurd (nI_le (b := 9) h2 (by omega)) c⟩⟩
    rintro _ rfl
    refine q_ending (r1.late ⟨k, h1, h2, rfl⟩) (fun s hs => by rw [ui_ne _ _ _ (by omega), u0 (by omega)]; exact r2 s hs) (fun c => by rw [u0 (by omega)] at c ⊢; exact r3 c) (fun I2 V2 m2 t2 f2 _ => hP _ I2 (fun o J S hS _ => ?_) t2 (fun c hc => by rw [f2 c hc, ui_ne _ _ _ (by omega), f1 c hc]))
    unfold w_X10_late
    refine t_isIn1 (lo := 1) (hi := 9) h1 h2 (by omega) ⟨fun _ => m1 o J _ ?_, fun c => absurd c (by decide)⟩
    rintro _ rfl
    have e : ui (kb (kb J (o + 1) 0 V) (o + 1) 516 V1) (o + 1) (ix (516)) (nI k) = kb (kb J (o + 1) 0 V) (o + 1) 516 (upd V1 0 (nI k)) := kx (b := 516) (k := 0) (by omega) (by omega)
    rw [e]
    exact m2 o _ _ (hS V2)
  · have hno : P (-1) I := hP (-1) I (fun o J S _ hS => by
      unfold w_X10_late
      exact t_isIn0 hx ⟨fun c => absurd rfl c, fun _ => hS⟩) hT (fun _ _ => rfl)
    refine ⟨fun _ => hno, fun c => ⟨fun c2 => absurd (hx.resolve_left c) (Int32.not_lt.mpr c2), fun _ => hno⟩⟩
theorem q_ahead {x y : Int32} {P : Int32 → MI → Prop} (h : Inv a I V) (hT : TrOK a I) (hP : ∀ (v : Int32 → Int32) I', (∀ (o : Nat) (J : MI) (S : Int32 → MI → Prop), (∀ V', S (v (J o 3)) (kb (kb J (o + 1) 0 V) (o + 1) 516 V')) → S (v (J o 3)) (kb J (o + 1) 0 V) → w_X10_ahead o x y (kb J (o + 1) 0 V) S) → TrOK a I' → TFr a I I' → P (v (I (a + 1) 1)) I') : w_X9_ahead a x y I P := by
  unfold w_X9_ahead
  rcases in_cases x (lo := 0) (hi := 60) (by omega) (by omega) with ⟨k, h1, h2, rfl⟩ | hx
  · obtain ⟨hR, hRT, hW, hTm, -⟩ := h
    obtain ⟨hsz, e48⟩ := size_lt hR.1
    obtain ⟨t1, t2, t3⟩ := hT
    refine ⟨fun c => absurd c (nI_pos (by omega)), fun _ => ⟨fun _ => ?_, fun c => absurd (nI_le (b := 60) h2 (by omega)) c⟩⟩
    refine k_copyMach (by omega) hsz (hR.1.1.trans e48) (fun i hi => hR.1.2.2.2.2 i hi) (fun s hs => ?_) (fun I1 c1 f1 => ?_)
    · obtain ⟨-, -, -, -, -, -, q4, qb, -⟩ := hR.2.2.2.2 s hs
      rw [q4]; exact bit_c qb
    · have r1 : Rel (a + 111) I1 V := hR.cp c1 t1 (fun s hs => by rw [show a + 111 + 57 + 3 * s = a + 168 + 3 * s by omega]; exact t2 s hs) t3
      obtain ⟨r, I', V', g1, g2, g3, g4, g5, g6, g7, g8⟩ := p_goes (m := a + 111) (nI k) r1 hTm (hW.cp c1)
      have fI : TFr a I I' := fun c hc => by rw [g6 c (by omega), f1 c (by omega)]
      refine g2 _ (k_figureOf (a := 0) g3 ?_)
      rw [fI (a + 1) (by omega)]
      by_cases hy : y < nI 0 ∨ nI 11 < y
      · have ev : ∀ l, vCnt V' l y = -1 := fun l => by
          have ne : ∀ j : Nat, j ≤ 11 → ¬ y = nI j := fun j hj c => by
            rw [c] at hy
            exact hy.elim (fun c => absurd c (nI_pos (by omega))) (fun c => by have := (nI_ltI (by omega) (by omega)).mp c; omega)
          unfold vCnt
          rw [if_neg (show ¬ y = 0 from ne 0 (by omega)), if_neg (show ¬ y = 1 from ne 1 (by omega)), if_neg (show ¬ y = 2 from ne 2 (by omega)), if_neg (show ¬ y = 3 from ne 3 (by omega)), if_neg (show ¬ y = 4 from ne 4 (by omega)), if_neg (show ¬ y = 5 from ne 5 (by omega)), if_neg (show ¬ y = 6 from ne 6 (by omega)), if_neg (show ¬ y = 7 from ne 7 (by omega)), if_neg (show ¬ y = 8 from ne 8 (by omega)), if_neg (show ¬ y = 9 from ne 9 (by omega)), if_neg (show ¬ y = 10 from ne 10 (by omega)), if_neg (show ¬ y = 11 from ne 11 (by omega))]
        rw [ev]
        refine hP (fun _ => -1) I' (fun o J S _ hS => ?_) (TrOK.of g3) fI
        unfold w_X10_ahead
        exact t_isIn1 (lo := 0) (hi := 60) h1 h2 (by omega) ⟨fun c => absurd c (by decide), fun _ => t_isIn0 hy ⟨fun c => absurd rfl c, fun _ => hS⟩⟩
      · refine hP (fun l => vCnt V' l y) I' (fun o J S hS _ => ?_) (TrOK.of g3) fI
        rcases in_cases y (lo := 0) (hi := 11) (by omega) (by omega) with ⟨j, j1, j2, rfl⟩ | hy2
        · unfold w_X10_ahead
          refine t_isIn1 (lo := 0) (hi := 60) h1 h2 (by omega) ⟨fun c => absurd c (by decide), fun _ => t_isIn1 (lo := 0) (hi := 11) j1 j2 (by omega) ⟨fun _ => ?_, fun c => absurd c (by decide)⟩⟩
          refine t_copies (x := 0) (y := 516) (V' := V) (by omega) (by omega) (by omega) (fun k hk => kb_at _ _ _ _ hk) (g1 o 516 _ _ (by omega) (t_counts (b := 516) (by omega) ?_))
          rw [kb_ne _ _ (show o ≠ o + 1 by omega)]
          exact hS V'
        · exact absurd hy2 hy
  · have hno : P (-1) I := hP (fun _ => -1) I (fun o J S _ hS => by
      unfold w_X10_ahead
      exact t_isIn0 hx ⟨fun _ => hS, fun c => absurd rfl c⟩) hT (fun _ _ => rfl)
    exact ⟨fun _ => hno, fun c => ⟨fun c2 => absurd (hx.resolve_left c) (Int32.not_lt.mpr c2), fun _ => hno⟩⟩
end
