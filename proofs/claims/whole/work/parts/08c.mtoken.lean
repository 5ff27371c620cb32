/-! the model's tokens -/
theorem wb_tb (n : Nat) : (lN n).toBitVec = BitVec.ofNat 64 n := rfl
theorem wb_inj {a b : Int64} (h : a.toBitVec = b.toBitVec) : a = b := Int64.toBitVec_inj.mp h
theorem wb_c : ∀ k, k < 64 → ((nI k).toInt64 &&& 63) = lN k := by decide +kernel
theorem wb_sm : ∀ k, k < 64 → (BitVec.ofNat 64 k).smod 64 = BitVec.ofNat 64 k := by decide +kernel
theorem wb_shl (n : Nat) {k : Nat} (hk : k < 64) : lN n <<< ((nI k).toInt64 &&& 63) = lN (n * 2 ^ k) := by
  rw [wb_c k hk]
  apply wb_inj
  rw [Int64.toBitVec_shiftLeft, wb_tb, wb_tb, wb_tb, wb_sm k hk]
  apply BitVec.eq_of_toNat_eq
  rw [BitVec.shiftLeft_eq', BitVec.toNat_shiftLeft, BitVec.toNat_ofNat, BitVec.toNat_ofNat, BitVec.toNat_ofNat, Nat.mod_eq_of_lt (show k < 2 ^ 64 by omega), Nat.shiftLeft_eq, Nat.mul_mod, Nat.mod_mod, ← Nat.mul_mod]
theorem lN_or (a b : Nat) : lN a ||| lN b = lN (a ||| b) := by
  apply wb_inj
  rw [Int64.toBitVec_or, wb_tb, wb_tb, wb_tb]
  exact (BitVec.ofNat_or ..).symm
theorem or_byte {v b : Nat} (hb : b < 256) : v * 2 ^ 8 ||| b = v * 256 + b := by
  have := Nat.two_pow_add_eq_or_of_lt (i := 8) (b := b) hb v
  rw [show v * 2 ^ 8 = 2 ^ 8 * v by rw [Nat.mul_comm], ← this]
theorem uj_gs (J : MJ) (a k : Nat) (v : Int64) : uj J a k v a k = v := by unfold uj vp_updL; simp
theorem uj_o (J : MJ) {a k b j : Nat} (v : Int64) (h : b ≠ a ∨ j ≠ k) : uj J a k v b j = J b j := by
  unfold uj vp_updL
  by_cases e : b = a
  · rw [if_pos e]
    have hj : j ≠ k := h.resolve_left (fun q => q e)
    simp [hj]
  · rw [if_neg e]
/-- the model's sort of a token, and its value -/
def tsP (T : Nat → Nat) (L p : Nat) : Nat := if L ≤ p then 0 else if isLt (T p) = true then (if 8 < tkE T L p - p then 4 else 1) else if isDg (T p) = true then (if 3 < tkE T L p - p then 4 else 2) else if isSg (T p) = true then 3 else 4
def twP (T : Nat → Nat) (L p : Nat) : Nat := if isLt (T p) = true then pkv (byts T p (tkE T L p)) else if isDg (T p) = true then dgv (byts T p (tkE T L p)) else T p
/-- the model's tape while it reads -/
def MBs (o : Nat) (I : MI) (T : Nat → Nat) (L : Nat) : Prop := I o 10 = nI L ∧ L ≤ 600 ∧ ∀ k, k < 600 → I (o + 2) k = nI (T k) ∧ T k < 256
/-- what taking a token may change -/
def TkF (o : Nat) (I I' : MI) : Prop := (∀ c, c ≠ o → I' c = I c) ∧ ∀ j, j ≠ 11 → j ≠ 12 → j ≠ 13 → I' o j = I o j
theorem TkF.rf {o : Nat} {I : MI} : TkF o I I := ⟨fun _ _ => rfl, fun _ _ _ _ => rfl⟩
theorem TkF.tr {o : Nat} {I I' I'' : MI} (h : TkF o I I') (h' : TkF o I' I'') : TkF o I I'' := ⟨fun c hc => (h'.1 c hc).trans (h.1 c hc), fun j a b c => (h'.2 j a b c).trans (h.2 j a b c)⟩
theorem TkF.ui {o k : Nat} {I : MI} {x : Int32} (h : k = 11 ∨ k = 12 ∨ k = 13) : TkF o I (ui I o k x) := ⟨fun c hc => ui_ne _ _ _ hc, fun j a b c => ui_gj _ _ _ (by omega)⟩
def JF (o : Nat) (J J' : MJ) : Prop := ∀ c j, (c ≠ o ∨ j ≠ 17) → J' c j = J c j
theorem JF.rf {o : Nat} {J : MJ} : JF o J J := fun _ _ _ => rfl
theorem JF.tr {o : Nat} {J J' J'' : MJ} (h : JF o J J') (h' : JF o J' J'') : JF o J J'' := fun c j q => (h' c j q).trans (h c j q)
theorem JF.uj {o : Nat} {J : MJ} {v : Int64} : JF o J (uj J o 17 v) := fun c j q => uj_o _ _ q
theorem MBs.fr {o L : Nat} {I I' : MI} {T : Nat → Nat} (h : MBs o I T L) (hF : TkF o I I') : MBs o I' T L := ⟨(hF.2 10 (by omega) (by omega) (by omega)).trans h.1, h.2.1, fun k hk => by rw [hF.1 _ (by omega)]; exact h.2.2 k hk⟩
section
variable {o L : Nat} {I : MI} {J : MJ} {T : Nat → Nat}
def bA (T : Nat → Nat) (L q : Nat) : Int32 := if q < L then nI (T q) else -1
theorem t_byteAt {q : Nat} {Q : Int32 → Prop} (h : MBs o I T L) (hq : q ≤ L) (hQ : Q (bA T L q)) : w_X10_byteAt o (nI q) I Q := by
  obtain ⟨h1, h2, h3⟩ := h
  unfold w_X10_byteAt
  unfold bA at hQ
  rw [h1]
  refine ⟨fun c => ?_, fun c => ?_⟩
  · have := (nI_leI (by omega) (by omega)).mp c
    rw [if_neg (by omega)] at hQ; exact hQ
  · have hlt : q < L := Nat.not_le.mp fun r => c (nI_le r (by omega))
    rw [if_pos hlt] at hQ
    rw [ixn (by omega), (h3 q (by omega)).1]
    exact ⟨inn (by omega) (by omega), hQ⟩
theorem t_isLt {b : Nat} {Q : Int32 → Prop} (hb : b < 256) (h : Q (if isLt b = true then 1 else 0)) : w_X10_isLetter (nI b) Q := by
  have e1 : nI b < 97 ↔ b < 97 := nI_ltI (b := 97) (by omega) (by omega)
  have e2 : (122 : Int32) < nI b ↔ 122 < b := nI_ltI (a := 122) (by omega) (by omega)
  unfold w_X10_isLetter
  unfold isLt at h
  refine ⟨fun c => ?_, fun c => ⟨fun c2 => ?_, fun c2 => ?_⟩⟩
  · rw [e1] at c; rw [if_neg (by rw [decide_eq_true_iff]; omega)] at h; exact h
  · rw [e2] at c2; rw [if_neg (by rw [decide_eq_true_iff]; omega)] at h; exact h
  · rw [e1] at c; rw [e2] at c2; rw [if_pos (by rw [decide_eq_true_iff]; omega)] at h; exact h
theorem t_isDg {b : Nat} {Q : Int32 → Prop} (hb : b < 256) (h : Q (if isDg b = true then 1 else 0)) : w_X10_isDigit (nI b) Q := by
  have e1 : nI b < 48 ↔ b < 48 := nI_ltI (b := 48) (by omega) (by omega)
  have e2 : (57 : Int32) < nI b ↔ 57 < b := nI_ltI (a := 57) (by omega) (by omega)
  unfold w_X10_isDigit
  unfold isDg at h
  refine ⟨fun c => ?_, fun c => ⟨fun c2 => ?_, fun c2 => ?_⟩⟩
  · rw [e1] at c; rw [if_neg (by rw [decide_eq_true_iff]; omega)] at h; exact h
  · rw [e2] at c2; rw [if_neg (by rw [decide_eq_true_iff]; omega)] at h; exact h
  · rw [e1] at c; rw [e2] at c2; rw [if_pos (by rw [decide_eq_true_iff]; omega)] at h; exact h
theorem t_noLt {Q : Int32 → Prop} (h : Q 0) : w_X10_isLetter (-1) Q := ⟨fun _ => h, fun c => absurd (show (-1 : Int32) < 97 by decide) c⟩
theorem t_noDg {Q : Int32 → Prop} (h : Q 0) : w_X10_isDigit (-1) Q := ⟨fun _ => h, fun c => absurd (show (-1 : Int32) < 48 by decide) c⟩
theorem pkv_s {p i : Nat} (h : p ≤ i) : pkv (byts T p (i + 1)) = pkv (byts T p i) * 256 + T i := by
  unfold pkv byts
  rw [show i + 1 - p = (i - p) + 1 by omega, List.range_succ, List.map_append, List.foldl_append]
  show _ * 256 + T (p + (i - p)) = _
  rw [show p + (i - p) = i by omega]
/-- letters -/
theorem t_lets {p : Nat} {ke S : MI → MJ → Prop} (h : MBs o I T L) (hp : p < L) (hl : isLt (T p) = true) (e11 : I o 11 = nI p) (e13 : I o 13 = nI p) (eJ : J o 17 = lN 0)
    (hke : ∀ I' J', TkF o I I' → I' o 13 = nI p → I' o 11 = nI (tkE T L p) → JF o J J' → (tkE T L p - p ≤ 8 → J' o 17 = lN (pkv (byts T p (tkE T L p)))) → ke I' J') : Lp2 (w_X10_takesToken_l80 o ke S) I J := by
  have ee : tkE T L p = runE isLt T L (p + 1) := by unfold tkE; rw [if_neg (by omega), if_pos hl]
  have hL : L ≤ 600 := h.2.1
  refine Lp2.of (fun I' J' => ∃ q, p ≤ q ∧ q ≤ L ∧ TkF o I I' ∧ I' o 13 = nI p ∧ I' o 11 = nI q ∧ runE isLt T L q = tkE T L p ∧ JF o J J' ∧ (q ≤ p + 8 → J' o 17 = lN (pkv (byts T p q)))) (fun I' _ => 700 - ix (I' o 11)) ?_ _ _ ⟨p, Nat.le_refl _, by omega, TkF.rf, e13, e11, by rw [runE_step hp hl]; exact ee.symm, JF.rf, fun _ => by rw [byts_0]; exact eJ⟩
  rintro rec I' J' ⟨q, h1, h2, hF, g13, g11, hr, hJ, hv⟩ hrec
  have hB := h.fr hF
  unfold w_X10_takesToken_l80
  rw [g11, g13]
  refine t_byteAt hB h2 ?_
  have stop : q = tkE T L p → ke I' J' := fun e => hke I' J' hF g13 (by rw [g11, e]) hJ (fun hle => by rw [← e] at hle ⊢; exact hv (by omega))
  unfold bA
  by_cases hq : q < L
  · rw [if_pos hq]
    refine t_isLt (h.2.2 q (by omega)).2 ?_
    by_cases g : isLt (T q) = true
    · rw [if_pos g]
      have nx : ∀ J2, JF o J' J2 → (q + 1 ≤ p + 8 → J2 o 17 = lN (pkv (byts T p (q + 1)))) → rec (ui I' o 11 (nI q + 1)) J2 := fun J2 f2 v2 => by
        refine hrec _ _ ⟨q + 1, by omega, by omega, hF.tr (TkF.ui (Or.inl rfl)), by rw [ui_gj _ _ _ (by omega)]; exact g13, by rw [ui_gs, nI_1], by rw [← runE_step hq g]; exact hr, hJ.tr f2, v2⟩ ?_
        show 700 - ix (ui I' o 11 (nI q + 1) o 11) < 700 - ix (I' o 11)
        rw [ui_gs, g11, nI_1, ixn (by omega), ixn (by omega)]; omega
      refine ⟨fun c => absurd c (by decide), fun _ => ?_⟩
      rw [nI_sub h1]
      refine ⟨fun c => ?_, fun c => ?_⟩
      · have := (nI_leI (a := 8) (by omega) (by omega)).mp c
        rintro _ rfl _ rfl
        exact nx _ JF.uj (fun r => by omega)
      · have c8 : q - p < 8 := Nat.not_le.mp fun r => c (nI_le (a := 8) r (by omega))
        refine t_byteAt hB h2 ?_
        unfold bA
        rw [if_pos hq]
        rintro _ rfl _ rfl
        refine nx _ JF.uj (fun _ => ?_)
        have hb := (h.2.2 q (by omega)).2
        rw [uj_gs, hv (by omega), nI_l (by omega)]
        rw [show (8 : Int32).toInt64 = (nI 8).toInt64 from rfl, wb_shl _ (k := 8) (by omega), lN_or, or_byte hb, pkv_s h1]
    · rw [if_neg g]
      rw [Bool.not_eq_true] at g
      rw [runE_stop (Or.inr g)] at hr
      exact ⟨fun _ => stop hr, fun c => absurd rfl c⟩
  · rw [if_neg hq]
    rw [runE_stop (Or.inl (by omega))] at hr
    exact t_noLt ⟨fun _ => stop hr, fun c => absurd rfl c⟩
theorem t_digs {p : Nat} {ke S : MI → MJ → Prop} (h : MBs o I T L) (hp : p < L) (hl : isLt (T p) = false) (hd : isDg (T p) = true) (e11 : I o 11 = nI p) (e13 : I o 13 = nI p) (eJ : J o 17 = lN 0)
    (hke : ∀ I' J', TkF o I I' → I' o 13 = nI p → I' o 11 = nI (tkE T L p) → JF o J J' → (tkE T L p - p ≤ 3 → J' o 17 = lN (dgv (byts T p (tkE T L p)))) → ke I' J') : Lp2 (w_X10_takesToken_l182 o ke S) I J := by
  have ee : tkE T L p = runE isDg T L (p + 1) := by unfold tkE; rw [if_neg (by omega), hl, if_neg (by decide), if_pos hd]
  have hL : L ≤ 600 := h.2.1
  refine Lp2.of (fun I' J' => ∃ q, p ≤ q ∧ q ≤ L ∧ TkF o I I' ∧ I' o 13 = nI p ∧ I' o 11 = nI q ∧ runE isDg T L q = tkE T L p ∧ JF o J J' ∧ (q ≤ p + 3 → J' o 17 = lN (dgv (byts T p q)))) (fun I' _ => 700 - ix (I' o 11)) ?_ _ _ ⟨p, Nat.le_refl _, by omega, TkF.rf, e13, e11, by rw [runE_step hp hd]; exact ee.symm, JF.rf, fun _ => by rw [byts_0]; exact eJ⟩
  rintro rec I' J' ⟨q, h1, h2, hF, g13, g11, hr, hJ, hv⟩ hrec
  have hB := h.fr hF
  unfold w_X10_takesToken_l182
  rw [g11, g13]
  refine t_byteAt hB h2 ?_
  have stop : q = tkE T L p → ke I' J' := fun e => hke I' J' hF g13 (by rw [g11, e]) hJ (fun hle => by rw [← e] at hle ⊢; exact hv (by omega))
  unfold bA
  by_cases hq : q < L
  · rw [if_pos hq]
    refine t_isDg (h.2.2 q (by omega)).2 ?_
    by_cases g : isDg (T q) = true
    · rw [if_pos g]
      have nx : ∀ J2, JF o J' J2 → (q + 1 ≤ p + 3 → J2 o 17 = lN (dgv (byts T p (q + 1)))) → rec (ui I' o 11 (nI q + 1)) J2 := fun J2 f2 v2 => by
        refine hrec _ _ ⟨q + 1, by omega, by omega, hF.tr (TkF.ui (Or.inl rfl)), by rw [ui_gj _ _ _ (by omega)]; exact g13, by rw [ui_gs, nI_1], by rw [← runE_step hq g]; exact hr, hJ.tr f2, v2⟩ ?_
        show 700 - ix (ui I' o 11 (nI q + 1) o 11) < 700 - ix (I' o 11)
        rw [ui_gs, g11, nI_1, ixn (by omega), ixn (by omega)]; omega
      refine ⟨fun c => absurd c (by decide), fun _ => ?_⟩
      rw [nI_sub h1]
      refine ⟨fun c => ?_, fun c => ?_⟩
      · have := (nI_leI (a := 3) (by omega) (by omega)).mp c
        rintro _ rfl _ rfl
        exact nx _ JF.uj (fun r => by omega)
      · have c8 : q - p < 3 := Nat.not_le.mp fun r => c (nI_le (a := 3) r (by omega))
        refine t_byteAt hB h2 ?_
        unfold bA
        rw [if_pos hq]
        rintro _ rfl _ rfl
        refine nx _ JF.uj (fun _ => ?_)
        have hb := (h.2.2 q (by omega)).2
        have g' : 48 ≤ T q ∧ T q ≤ 57 := by unfold isDg at g; exact of_decide_eq_true g
        rw [uj_gs, hv (by omega), nI_l (by omega)]
        rw [show (10 : Int64) * lN (dgv (byts T p q)) = lN (10 * dgv (byts T p q)) from lN_mul 10 _, lN_add, dgv_s h1]
        exact (lN_sub (b := 48) (by omega)).trans (congrArg lN (by omega))
    · rw [if_neg g]
      rw [Bool.not_eq_true] at g
      rw [runE_stop (Or.inr g)] at hr
      exact ⟨fun _ => stop hr, fun c => absurd rfl c⟩
  · rw [if_neg hq]
    rw [runE_stop (Or.inl (by omega))] at hr
    exact t_noDg ⟨fun _ => stop hr, fun c => absurd rfl c⟩
theorem t_takesToken {q : Nat} {S : MI → MJ → Prop} (h : MBs o I T L) (hq : q ≤ L) (e11 : I o 11 = nI q)
    (hS : ∀ I' J', TkF o I I' → JF o J J' → I' o 13 = nI (runE isBl T L q) → I' o 11 = nI (tkE T L (runE isBl T L q)) → I' o 12 = nI (tsP T L (runE isBl T L q)) → ((tsP T L (runE isBl T L q) = 1 ∨ tsP T L (runE isBl T L q) = 2 ∨ tsP T L (runE isBl T L q) = 3) → J' o 17 = lN (twP T L (runE isBl T L q))) → S I' J') : w_X10_takesToken o I J S := by
  have hL : L ≤ 600 := h.2.1
  generalize hp : runE isBl T L q = p at hS
  have hpL : p ≤ L := by rw [← hp]; exact runE_le hq
  unfold w_X10_takesToken
  refine Lp1.of (fun I' => ∃ r, r ≤ L ∧ TkF o I I' ∧ I' o 11 = nI r ∧ runE isBl T L r = p) (fun I' => 700 - ix (I' o 11)) ?_ _ ⟨q, hq, TkF.rf, e11, hp⟩
  rintro rec I' ⟨r, hr, hF, g11, hrun⟩ hrec
  have hB := h.fr hF
  have nx : r < L → isBl (T r) = true → rec (ui I' o 11 (nI r + 1)) := fun h1 h2 => by
    refine hrec _ ⟨r + 1, by omega, hF.tr (TkF.ui (Or.inl rfl)), by rw [ui_gs, nI_1], by rw [← runE_step h1 h2]; exact hrun⟩ ?_
    show 700 - ix (ui I' o 11 (nI r + 1) o 11) < 700 - ix (I' o 11)
    rw [ui_gs, g11, nI_1, ixn (by omega), ixn (by omega)]; omega
  have bEq : ∀ c : Nat, c < 256 → (bA T L r = nI c ↔ (r < L ∧ T r = c)) := fun c hc => by
    unfold bA
    by_cases h1 : r < L
    · rw [if_pos h1]
      have := (h.2.2 r (by omega)).2
      exact ⟨fun e => ⟨h1, nI_inj (by omega) (by omega) e⟩, fun e => by rw [e.2]⟩
    · rw [if_neg h1]
      refine ⟨fun e => ?_, fun e => absurd e.1 h1⟩
      have q : (-1 : Int32) < 0 := by decide
      rw [e] at q; exact absurd q (nI_pos (by omega))
  have b32 : bA T L r = 32 ↔ (r < L ∧ T r = 32) := bEq 32 (by omega)
  have b10 : bA T L r = 10 ↔ (r < L ∧ T r = 10) := bEq 10 (by omega)
  unfold w_X10_takesToken_l0
  rw [g11]
  refine t_byteAt hB hr ⟨fun c => ?_, fun c => t_byteAt hB hr ⟨fun c2 => ?_, fun c2 => ?_⟩⟩
  · obtain ⟨h1, h2⟩ := b32.mp c
    rintro _ rfl
    exact nx h1 (by unfold isBl; rw [h2]; rfl)
  · rintro _ rfl
    have e : r = p := by
      rw [← hrun]
      refine (runE_stop ?_).symm
      rcases Nat.lt_or_ge r L with h1 | h1
      · right
        unfold isBl
        refine decide_eq_false (fun q => ?_)
        exact q.elim (fun q => c (b32.mpr ⟨h1, q⟩)) (fun q => c2 (b10.mpr ⟨h1, q⟩))
      · exact Or.inl h1
    subst e
    have f8 : TkF o I (ui I' o 13 (nI r)) := hF.tr (TkF.ui (Or.inr (Or.inr rfl)))
    have k11 : ui I' o 13 (nI r) o 11 = nI r := by rw [ui_gj _ _ _ (by omega)]; exact g11
    have k13 : ui I' o 13 (nI r) o 13 = nI r := ui_gs _ _ _ _
    rw [g11, k11]
    refine t_byteAt (h.fr f8) hr ?_
    rintro _ rfl
    have j17 : uj J o 17 0 o 17 = lN 0 := uj_gs _ _ _ _
    unfold bA
    by_cases h1 : r < L
    · rw [if_pos h1]
      have hb := (h.2.2 r (by omega)).2
      refine ⟨fun _ => t_isLt hb ?_, fun c => absurd (nI_pos' (by omega)) c⟩
      by_cases hl : isLt (T r) = true
      · rw [if_pos hl]
        refine ⟨fun c => absurd c (by decide), fun _ => ?_⟩
        refine t_lets (h.fr f8) h1 hl k11 k13 j17 (fun I2 J2 f2 a13 a11 jf jv => ?_)
        have tg := tkE_gt (T := T) h1
        rw [a11, a13, nI_sub (by omega)]
        have tw : twP T L r = pkv (byts T r (tkE T L r)) := by unfold twP; rw [if_pos hl]
        refine ⟨fun c8 => ?_, fun c8 => ?_⟩
        · have c8 := (nI_leI (b := 8) (by omega) (by omega)).mp c8
          rintro _ rfl
          have ts : tsP T L r = 1 := by unfold tsP; rw [if_neg (by omega), if_pos hl, if_neg (by omega)]
          exact hS _ J2 ((f8.tr f2).tr (TkF.ui (Or.inr (Or.inl rfl)))) (JF.uj.tr jf) (by rw [ui_gj _ _ _ (by omega)]; exact a13) (by rw [ui_gj _ _ _ (by omega)]; exact a11) (by rw [ui_gs, ts]; rfl) (fun _ => by rw [tw]; exact jv c8)
        · have c8 : 8 < tkE T L r - r := Nat.not_le.mp fun q => c8 (nI_le (b := 8) q (by omega))
          rintro _ rfl
          have ts : tsP T L r = 4 := by unfold tsP; rw [if_neg (by omega), if_pos hl, if_pos c8]
          exact hS _ J2 ((f8.tr f2).tr (TkF.ui (Or.inr (Or.inl rfl)))) (JF.uj.tr jf) (by rw [ui_gj _ _ _ (by omega)]; exact a13) (by rw [ui_gj _ _ _ (by omega)]; exact a11) (by rw [ui_gs, ts]; rfl) (fun q => by omega)
      · rw [if_neg hl]
        rw [Bool.not_eq_true] at hl
        refine ⟨fun _ => t_isDg hb ?_, fun c => absurd rfl c⟩
        by_cases hd : isDg (T r) = true
        · rw [if_pos hd]
          refine ⟨fun c => absurd c (by decide), fun _ => ?_⟩
          refine t_digs (h.fr f8) h1 hl hd k11 k13 j17 (fun I2 J2 f2 a13 a11 jf jv => ?_)
          have tg := tkE_gt (T := T) h1
          rw [a11, a13, nI_sub (by omega)]
          have tw : twP T L r = dgv (byts T r (tkE T L r)) := by unfold twP; rw [hl, if_neg (by decide), if_pos hd]
          refine ⟨fun c8 => ?_, fun c8 => ?_⟩
          · have c8 := (nI_leI (b := 3) (by omega) (by omega)).mp c8
            rintro _ rfl
            have ts : tsP T L r = 2 := by unfold tsP; rw [if_neg (by omega), hl, if_neg (by decide), if_pos hd, if_neg (by omega)]
            exact hS _ J2 ((f8.tr f2).tr (TkF.ui (Or.inr (Or.inl rfl)))) (JF.uj.tr jf) (by rw [ui_gj _ _ _ (by omega)]; exact a13) (by rw [ui_gj _ _ _ (by omega)]; exact a11) (by rw [ui_gs, ts]; rfl) (fun _ => by rw [tw]; exact jv c8)
          · have c8 : 3 < tkE T L r - r := Nat.not_le.mp fun q => c8 (nI_le (b := 3) q (by omega))
            rintro _ rfl
            have ts : tsP T L r = 4 := by unfold tsP; rw [if_neg (by omega), hl, if_neg (by decide), if_pos hd, if_pos c8]
            exact hS _ J2 ((f8.tr f2).tr (TkF.ui (Or.inr (Or.inl rfl)))) (JF.uj.tr jf) (by rw [ui_gj _ _ _ (by omega)]; exact a13) (by rw [ui_gj _ _ _ (by omega)]; exact a11) (by rw [ui_gs, ts]; rfl) (fun q => by omega)
        · rw [if_neg hd]
          rw [Bool.not_eq_true] at hd
          refine ⟨fun _ => ?_, fun c => absurd rfl c⟩
          rintro _ rfl _ rfl
          have ee : tkE T L r = r + 1 := by unfold tkE; rw [if_neg (by omega), hl, if_neg (by decide), hd, if_neg (by decide)]
          have tw : twP T L r = T r := by unfold twP; rw [hl, if_neg (by decide), hd, if_neg (by decide)]
          have fin : ∀ s : Nat, tsP T L r = s → S (ui (ui (ui I' o 13 (nI r)) o 11 (nI r + 1)) o 12 (nI s)) (uj (uj J o 17 0) o 17 (Int32.toInt64 (nI (T r)))) := fun s hs' => by
            refine hS _ _ ((f8.tr (TkF.ui (Or.inl rfl))).tr (TkF.ui (Or.inr (Or.inl rfl)))) (JF.uj.tr JF.uj) ?_ ?_ ?_ (fun _ => ?_)
            · rw [ui_gj _ _ _ (by omega), ui_gj _ _ _ (by omega), ui_gs]
            · rw [ui_gj _ _ _ (by omega), ui_gs, ee, nI_1]
            · rw [ui_gs, hs']
            · rw [uj_gs, tw, nI_l (by omega)]
          have e : ∀ c : Nat, c < 256 → (nI (T r) = nI c ↔ T r = c) := fun c hc => nI_eq (by omega) (by omega)
          have e59 : nI (T r) = 59 ↔ T r = 59 := e 59 (by omega)
          have e58 : nI (T r) = 58 ↔ T r = 58 := e 58 (by omega)
          have e60 : nI (T r) = 60 ↔ T r = 60 := e 60 (by omega)
          have e61 : nI (T r) = 61 ↔ T r = 61 := e 61 (by omega)
          have e62 : nI (T r) = 62 ↔ T r = 62 := e 62 (by omega)
          have yes : (58 ≤ T r ∧ T r ≤ 62) → w_X10_takesToken_p327 o (ui (ui I' o 13 (nI r)) o 11 (nI r + 1)) (uj (uj J o 17 0) o 17 (Int32.toInt64 (nI (T r)))) S := fun q => by
            unfold w_X10_takesToken_p327
            rintro _ rfl
            exact fin 3 (by unfold tsP; rw [if_neg (by omega), hl, if_neg (by decide), hd, if_neg (by decide), if_pos (by unfold isSg; exact decide_eq_true q)])
          rw [e59, e58, e60, e61, e62]
          refine ⟨fun c => yes (by omega), fun c1 => ⟨fun c => yes (by omega), fun c2 => ⟨fun c => yes (by omega), fun c3 => ⟨fun c => yes (by omega), fun c4 => ⟨fun c5 => ?_, fun c => yes (by omega)⟩⟩⟩⟩⟩
          rintro _ rfl
          exact fin 4 (by unfold tsP; rw [if_neg (by omega), hl, if_neg (by decide), hd, if_neg (by decide), if_neg (by unfold isSg; rw [decide_eq_true_iff]; omega)])
    · rw [if_neg h1]
      refine ⟨fun c => absurd c (by decide), fun _ => ?_⟩
      rintro _ rfl
      have ee : tkE T L r = L := by unfold tkE; rw [if_pos (by omega)]
      have ts : tsP T L r = 0 := by unfold tsP; rw [if_pos (by omega)]
      exact hS _ _ (f8.tr (TkF.ui (Or.inr (Or.inl rfl)))) JF.uj (by rw [ui_gj _ _ _ (by omega)]; exact k13) (by rw [ui_gj _ _ _ (by omega), k11, ee]; congr 1; omega) (by rw [ui_gs, ts]; rfl) (fun q => by omega)
  · obtain ⟨h1, h2⟩ := b10.mp c2
    rintro _ rfl
    exact nx h1 (by unfold isBl; rw [h2]; rfl)
end
