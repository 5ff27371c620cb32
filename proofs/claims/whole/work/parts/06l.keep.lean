section
variable {a p : Nat} {I : MI} {V : Nat → Int32}
/-- numbers 48 and from 50 on alike -/
def VRo (V V' : Nat → Int32) : Prop := ∀ k, (k = 48 ∨ 50 ≤ k) → V' k = V k
theorem vOp_ro {V' : Nat → Int32} (h : VRo V V') {i : Nat} : vOp V' i = vOp V i := by unfold vOp; rw [h 48 (by omega), h _ (by omega)]
theorem RelR.ro {V' : Nat → Int32} (h : RelR p I V) (hV : VRo V V') : RelR p I V' := by
  obtain ⟨h1, h2, h3, h4, h5⟩ := h
  have e48 := hV 48 (by omega)
  refine ⟨by rw [e48]; exact h1, by rw [e48]; exact h2, fun i hi => ?_, fun i hi => ?_, h5⟩
  · rw [e48] at hi
    rw [vOp_ro hV]; exact h3 i hi
  · rw [e48] at hi
    have := h4 i hi
    unfold RowR at this ⊢
    rw [e48, hV (50 + 5 * i) (by omega), hV (51 + 5 * i) (by omega), hV (52 + 5 * i) (by omega), hV (53 + 5 * i) (by omega), hV (54 + 5 * i) (by omega)]
    exact this
theorem IsL.ro {V' : Nat → Int32} {K A : Nat} (hV : VRo V V') (h : IsL V' K A) : IsL V K A := by
  have e48 := hV 48 (by omega)
  have hg : ∀ A i, gRow V' A i = gRow V A i := fun A i => by
    unfold gRow
    rw [hV (50 + 5 * i) (by omega), hV (51 + 5 * i) (by omega), hV (52 + 5 * i) (by omega), hV (53 + 5 * i) (by omega)]
  have hc : ∀ C, Clo V' C ↔ Clo V C := fun C => by
    unfold Clo
    rw [e48]
    constructor
    · intro q i hi; rw [← hg]; exact q i hi
    · intro q i hi; rw [hg]; exact q i hi
  exact ⟨h.1, h.2.1, (hc A).mp h.2.2.1, fun C h1 h2 => h.2.2.2 C h1 ((hc C).mpr h2)⟩
theorem IsL.aim {K A k : Nat} (h : IsL V K A) (hk : A.testBit k = true) : IsL V (K ||| 2 ^ k) A := by
  refine ⟨h.1, h.2.1.or (fun j hj => ?_), h.2.2.1, fun C h1 h2 => h.2.2.2 C ((Sb.orl _ _).tr h1) h2⟩
  rw [Nat.testBit_two_pow] at hj
  have : k = j := by simpa using hj
  rw [← this]; exact hk
theorem vStart_49 {A : Nat} {x : Int32} : vStart (upd V 49 x) A = vStart V A := by
  funext j
  unfold vStart
  by_cases e : j = 49
  · subst e; rw [upd_s, upd_s]
  · rw [upd_n _ _ e, upd_n _ _ e]
    by_cases e2 : j = 250
    · subst e2; rw [upd_s, upd_s]
    · rw [upd_n _ _ e2, upd_n _ _ e2]
      unfold vLay
      split
      · rw [upd_n _ _ (by omega)]
      · split
        · rfl
        · rw [upd_n _ _ e]
theorem q_keepV {k : Nat} {P : Int32 → MI → Prop} (h : Inv a I V) (hT : TrOK a I) (hk : k < 8) (hP : ∀ v I' V2, (∀ (o : Nat) (J : MI) (S : Int32 → MI → Prop), S v (kb (kb J (o + 1) 0 V) (o + 1) 516 V2) → w_X10_keeping o (nI k) (kb J (o + 1) 0 V) S) → TrOK a I' → TFr a I I' → TimeOK v → P v I') : w_X9_timeKeeping a (nI k) I P := by
  obtain ⟨hR, hRT, hW, hTm, K, A, hK, e47, hL, e49⟩ := h
  obtain ⟨hsz, e48⟩ := size_lt hR.1
  obtain ⟨t1, t2, t3⟩ := hT
  have p2 : 2 ^ k < 2 ^ 8 := Nat.pow_lt_pow_right (by omega) hk
  have hK' : K ||| 2 ^ k < 256 := Nat.or_lt_two_pow (n := 8) hK p2
  have hL' := gsI_L hR.1 hK'
  generalize gsI V (K ||| 2 ^ k) 9 = A' at hL'
  generalize hK1 : (if A.testBit k = true then K else K ||| 2 ^ k) = K1
  have hK1b : K1 < 256 := by rw [← hK1]; split <;> assumption
  have hA1 : ∀ A0, IsL V K1 A0 → A0 = A' := fun A0 q => by
    by_cases g : A.testBit k = true
    · rw [if_pos g] at hK1
      rw [← hK1] at q
      rw [q.uq hL, (hL.aim g).uq hL']
    · rw [if_neg g] at hK1
      rw [← hK1] at q
      exact q.uq hL'
  have v3 : VRo V (upd (upd V 47 (nI K1)) 49 (nI A')) := fun j hj => by rw [upd_n _ _ (by omega), upd_n _ _ (by omega)]
  have v1 : VRo V (upd V 47 (nI K1)) := fun j hj => upd_n _ _ (by omega)
  have w3 : ∀ j, j < 47 → upd (upd V 47 (nI K1)) 49 (nI A') j = V j := fun j hj => by rw [upd_n _ _ (by omega), upd_n _ _ (by omega)]
  unfold w_X9_timeKeeping
  refine k_copyProg (by omega) hsz (hR.1.1.trans e48) (fun i hi => hR.1.2.2.2.2 i hi) (fun I1 c1 => ?_)
  have f1 : ∀ c, (c < a + 112 ∨ a + 145 < c) → I1 c = I c := fun c hc => c1.1 c (by omega)
  have hRR : RelR (a + 112) I1 V := hR.1.cp c1.2 t1
  have hU := (hRT.cp c1.2).u
  have e3 : I1 (a + 112) 3 = nI K := (hRT.cp c1.2).2.1.trans e47
  unfold w_X9_bit
  rintro _ rfl
  rw [e3, bit_nI k hk, nI_or]
  obtain ⟨I2, s1, s2, s3, s4⟩ := k_split (p := a + 112) (I := ui I1 (a + 112) 3 (nI (K ||| 2 ^ k))) (V := upd (upd V 47 (nI K1)) 49 (nI A')) (K := K ||| 2 ^ k) (by
    have q := hRR.ro v3
    exact q.fr5' (fun j hj => ui_gj _ _ _ hj) (fun i hi => ui_ne _ _ _ (by omega))) hK' (ui_gs _ _ _ _) (fun A0 q => by rw [upd_s, (q.ro v3).uq hL'])
  refine s1 _ (k_begin (fun I3 gQ gS gM gF => ?_))
  have f2 : ∀ c, c ≠ a + 112 → c ≠ a + 117 → c ≠ a + 118 → c ≠ a + 119 → I2 c = I1 c := fun c h1 h2 h3 h4 => by rw [s4.1 c h1 (by omega) (by omega) (by omega), ui_ne _ _ _ h1]
  obtain ⟨r1, r2, r3, r4⟩ := Rel.start (m := a + 111) (A := A') s2 s3 (by
    obtain ⟨u1, u2, u3, u4, u5⟩ := hU
    have e2 : I2 (a + 112) 2 = I1 (a + 112) 2 := by rw [s4.2 2 (by omega), ui_gj _ _ _ (by omega)]
    refine ⟨by rw [w3 0 (by omega)]; exact e2.trans u1, by rw [w3 0 (by omega)]; exact u2, fun q hq => ?_, fun c hc => ?_, fun r hr => ?_⟩
    · rw [f2 _ (by omega) (by omega) (by omega) (by omega), w3 _ (by omega)]; exact u3 q hq
    · rw [f2 _ (by omega) (by omega) (by omega) (by omega), w3 _ (by omega)]; exact u4 c hc
    · rw [f2 _ (by omega) (by omega) (by omega) (by omega), w3 _ (by omega)]; exact u5 r hr) (upd_s _ _ _) (fun s hs => by rw [f2 _ (by omega) (by omega) (by omega) (by omega), f1 _ (by omega), show a + 111 + 57 + 3 * s = a + 168 + 3 * s by omega]; exact t2 s hs) (by rw [f2 _ (by omega) (by omega) (by omega) (by omega), f1 _ (by omega)]; exact t3) gQ gS gM gF
  rw [vStart_49] at r1 r2 r3
  refine q_ending r1 r2 r3 (fun I4 V4 m4 t4 f4 b4 => hP _ I4 V4 (fun o J S hS => ?_) t4 (fun c hc => by rw [f4 c hc, gF c (by omega), f2 c (by omega) (by omega) (by omega) (by omega), f1 c (by omega)]) b4)
  unfold w_X10_keeping
  refine t_isIn1 (lo := 0) (hi := 7) (by omega) (by omega) (by omega) ⟨fun _ => t_copies (x := 0) (y := 516) (V' := V) (by omega) (by omega) (by omega) (fun k hk => kb_at _ _ _ _ hk) ?_, fun c => absurd c (by decide)⟩
  have e563 : ∀ x : Int32, ui (kb (kb J (o + 1) 0 V) (o + 1) 516 V) (o + 1) (ix (563)) x = kb (kb J (o + 1) 0 V) (o + 1) 516 (upd V 47 x) := fun x => kx (b := 516) (k := 47) (by omega) (by omega)
  have g563 : kb (kb J (o + 1) 0 V) (o + 1) 516 V (o + 1) (ix (563)) = nI K := (kg (b := 516) (k := 47) (by omega) (by omega)).trans e47
  have st : w_X10_starts o (516) (kb (kb J (o + 1) 0 V) (o + 1) 516 (upd V 47 (nI K1))) (fun I8 => w_X10_ending o I8 (fun r9 I10 => S r9 I10)) := by
    refine t_starts (b := 516) (hR.1.ro v1) (by omega) hK1b (upd_s _ _ _) (fun A0 q => ?_)
    rw [hA1 A0 (q.ro v1)]
    exact m4 o _ _ hS
  have hswap : kb (kb J (o + 1) 0 V) (o + 1) 516 V = kb (kb J (o + 1) 516 V) (o + 1) 0 V := by
    funext c j
    unfold kb
    split
    · simp only [if_true]
      by_cases q : 516 ≤ j ∧ j < 516 + 516
      · rw [if_pos q, if_neg (by omega), if_pos q]
      · rw [if_neg q]
        by_cases q2 : 0 ≤ j ∧ j < 0 + 516
        · rw [if_pos q2, if_pos q2]
        · rw [if_neg q2, if_neg q2, if_neg q]
    · rfl
  have hA : hs (V 49) (nI k) = A.testBit k := by rw [e49]; exact hs_bit A hL.1 k hk
  rw [hswap]
  refine t_isAim (b := 0) (by omega) ?_
  rw [← hswap, hA, g563, bit_nI k hk, nI_or]
  by_cases g : A.testBit k = true
  · rw [if_pos g] at hK1 ⊢
    refine ⟨fun c => absurd c (by decide), fun _ => ?_⟩
    rintro _ rfl
    rw [e563, show nI K ||| 0 = nI K from (nI_or K 0).trans (by rw [Nat.or_zero]), hK1]
    exact st
  · rw [if_neg g] at hK1 ⊢
    refine ⟨fun _ => ?_, fun c => absurd rfl c⟩
    rintro _ rfl
    rw [e563, hK1]
    exact st
theorem q_keepOne {k : Nat} {P : Int32 → MI → Prop} (h : Inv a I V) (hT : TrOK a I) (hk : k < 8) (hP : ∀ v I', (∀ (o : Nat) (J : MI) (S : Int32 → MI → Prop), (∀ V', S v (kb (kb J (o + 1) 0 V) (o + 1) 516 V')) → w_X10_keeping o (nI k) (kb J (o + 1) 0 V) S) → TrOK a I' → TFr a I I' → TimeOK v → P v I') : w_X9_timeKeeping a (nI k) I P := q_keepV h hT hk (fun v I' V2 m t f b => hP v I' (fun o J S hS => m o J S (hS V2)) t f b)
end
