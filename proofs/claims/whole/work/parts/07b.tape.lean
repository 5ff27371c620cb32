/-! the tape -/
theorem fa_byte_low (x : Int32) : (x &&& 255).toInt8 = x.toInt8 := by
  apply Int8.toBitVec_inj.1
  apply BitVec.eq_of_getLsbD_eq
  intro i hi
  have h2 : (255 : Int32).toBitVec.getLsbD i = true := by
    have : ∀ j : Fin 8, (255 : Int32).toBitVec.getLsbD j.val = true := by decide +kernel
    exact this ⟨i, hi⟩
  have h4 : (x &&& 255).toBitVec.getLsbD i = x.toBitVec.getLsbD i := by
    show (x.toBitVec &&& (255 : Int32).toBitVec).getLsbD i = _
    rw [BitVec.getLsbD_and, h2, Bool.and_true]
  have h3 : i < 32 := by omega
  first
    | (show (((x &&& 255).toBitVec).signExtend 8).getLsbD i = (x.toBitVec.signExtend 8).getLsbD i; rw [BitVec.getLsbD_signExtend, BitVec.getLsbD_signExtend, if_pos h3, if_pos h3, h4])
    | (show (((x &&& 255).toBitVec).setWidth 8).getLsbD i = (x.toBitVec.setWidth 8).getLsbD i; rw [BitVec.getLsbD_setWidth, BitVec.getLsbD_setWidth, h4])
    | (simp [hi, h3, h4]; done)
/-- a byte as the class holds it -/
def byS (n : Nat) : Int32 := (nI n).toInt8.toInt32
def lowB (y : Int32) : Nat := y.toBitVec.toNat % 256
theorem lowB_lt (y : Int32) : lowB y < 256 := Nat.mod_lt _ (by omega)
theorem lowB_m (y : Int32) : y &&& 255 = nI (lowB y) := pk_and y 8 rfl
theorem lowB_c (y : Int32) : y.toInt8.toInt32 = byS (lowB y) := by
  unfold byS
  rw [← lowB_m, fa_byte_low]
theorem byS_fit (n : Nat) : fits .byte (.int (byS n)) = true := pk_fb _
/-- the byte of x at place i of four -/
def byt (x : Int32) (i : Nat) : Nat := lowB (x >>> (nI (24 - 8 * i) &&& 31))
def apT (T : Nat → Nat) (L : Nat) (x : Int32) : Nat → Nat := fun j => if L ≤ j ∧ j < L + 4 then byt x (j - L) else T j
/-- the class's tape -/
def TpC (a : Nat) (I : MI) (T : Nat → Nat) (L : Nat) : Prop := I (a + 1) 1 = nI L ∧ L ≤ 600 ∧ ∀ k, k < 600 → I (a + 2) k = byS (T k) ∧ T k < 256
/-- the model's -/
def TpM (o : Nat) (J : MI) (T : Nat → Nat) (L : Nat) : Prop := J o 3 = nI L ∧ ∀ k, k < 600 → J (o + 2) k = nI (T k)
section
variable {a L : Nat} {I : MI} {T : Nat → Nat}
/-- so many bytes of x are laid -/
def apN (T : Nat → Nat) (L : Nat) (x : Int32) (n : Nat) : Nat → Nat := fun j => if L ≤ j ∧ j < L + n then byt x (j - L) else T j
theorem k_app1 {x x2 y : Int32} {n : Nat} {I' : MI} {rec : Int32 → MI → Prop} {P : MI → Prop} (hx2 : x2 = nI (24 - 8 * n)) (hy : x2 + (-8) = y) (hn : n < 4) (hL : L + 4 ≤ 600) (h : TpC a I' (apN T L x n) (L + n)) (hr : ∀ I2, TpC a I2 (apN T L x (n + 1)) (L + (n + 1)) → (∀ c, c ≠ a + 1 → c ≠ a + 2 → I2 c = I' c) → (∀ k, k ≠ 1 → I2 (a + 1) k = I' (a + 1) k) → rec y I2) : w_X8_append_l3 (a + 1) x P rec x2 I' := by
  obtain ⟨h1, h2, h3⟩ := h
  subst hx2 hy
  unfold w_X8_append_l3
  refine ⟨fun c => absurd c (nI_pos (by omega)), fun _ => ⟨fun c => ?_, fun _ => ?_⟩⟩
  · rw [h1] at c
    exact absurd ((nI_leI (a := 600) (by omega) (by omega)).mp c) (by omega)
  · rw [h1, ixn (by omega)]
    refine ⟨inn (by omega) (by omega), ?_⟩
    rintro _ rfl _ rfl
    refine hr _ ⟨?_, by omega, fun k hk => ?_⟩ (fun c c1 c2 => by rw [ui_ne _ _ _ c1, ui_ne _ _ _ c2]) (fun k hk => by rw [ui_gj _ _ _ hk, ui_ne _ _ _ (by omega)])
    · rw [ui_gs, ui_ne _ _ _ (by omega), h1, nI_1]; rfl
    · rw [ui_ne _ _ _ (by omega)]
      show ui I' (a + 2) (L + n) _ (a + 2) k = _ ∧ _
      by_cases e : k = L + n
      · subst e
        rw [ui_gs, pk_vb, lowB_c]
        unfold apN
        rw [if_pos ⟨by omega, by omega⟩, show L + n - L = n by omega]
        exact ⟨rfl, lowB_lt _⟩
      · rw [ui_gj _ _ _ e]
        have := h3 k hk
        unfold apN at this ⊢
        by_cases q : L ≤ k ∧ k < L + n
        · rw [if_pos q] at this; rw [if_pos (by omega)]; exact this
        · rw [if_neg q] at this; rw [if_neg (by omega)]; exact this
theorem k_append {x : Int32} {P : MI → Prop} (hL : L + 4 ≤ 600) (h : TpC a I T L) (hP : ∀ I', TpC a I' (apT T L x) (L + 4) → (∀ c, c ≠ a + 1 → c ≠ a + 2 → I' c = I c) → (∀ k, k ≠ 1 → I' (a + 1) k = I (a + 1) k) → P I') : w_X8_append (a + 1) x I P := by
  have h0 : TpC a I (apN T L x 0) (L + 0) := by
    refine ⟨h.1, h.2.1, fun k hk => ?_⟩
    unfold apN
    rw [if_neg (by omega)]
    exact h.2.2 k hk
  refine ⟨5, ?_⟩
  show w_X8_append_l3 (a + 1) x P (lpN2 (w_X8_append_l3 (a + 1) x P) 4) 24 I
  refine k_app1 (n := 0) (y := 16) rfl (by decide) (by omega) hL h0 (fun I1 t1 f1 g1 => ?_)
  show w_X8_append_l3 (a + 1) x P (lpN2 (w_X8_append_l3 (a + 1) x P) 3) 16 I1
  refine k_app1 (n := 1) (y := 8) rfl (by decide) (by omega) hL t1 (fun I2 t2 f2 g2 => ?_)
  show w_X8_append_l3 (a + 1) x P (lpN2 (w_X8_append_l3 (a + 1) x P) 2) 8 I2
  refine k_app1 (n := 2) (y := 0) rfl (by decide) (by omega) hL t2 (fun I3 t3 f3 g3 => ?_)
  show w_X8_append_l3 (a + 1) x P (lpN2 (w_X8_append_l3 (a + 1) x P) 1) 0 I3
  refine k_app1 (n := 3) (y := -8) rfl (by decide) (by omega) hL t3 (fun I4 t4 f4 g4 => ?_)
  show w_X8_append_l3 (a + 1) x P (lpN2 (w_X8_append_l3 (a + 1) x P) 0) (-8) I4
  unfold w_X8_append_l3
  refine ⟨fun _ => hP I4 t4 (fun c c1 c2 => by rw [f4 c c1 c2, f3 c c1 c2, f2 c c1 c2, f1 c c1 c2]) (fun k hk => by rw [g4 k hk, g3 k hk, g2 k hk, g1 k hk]), fun c => absurd (show (-8 : Int32) < 0 by decide) c⟩
/-- the tape behind a feed -/
def fdT (T : Nat → Nat) (L : Nat) (x1 x2 x3 x4 x5 : Int32) : Nat → Nat := apT (apT (apT (apT (apT T L x1) (L + 4) x2) (L + 8) x3) (L + 12) x4) (L + 16) x5
theorem fdT_at (T : Nat → Nat) (L : Nat) (x1 x2 x3 x4 x5 : Int32) (j : Nat) : fdT T L x1 x2 x3 x4 x5 j = if L + 16 ≤ j ∧ j < L + 20 then byt x5 (j - (L + 16)) else if L + 12 ≤ j ∧ j < L + 16 then byt x4 (j - (L + 12)) else if L + 8 ≤ j ∧ j < L + 12 then byt x3 (j - (L + 8)) else if L + 4 ≤ j ∧ j < L + 8 then byt x2 (j - (L + 4)) else if L ≤ j ∧ j < L + 4 then byt x1 (j - L) else T j := rfl
theorem fsh {k q : Nat} (h : q ≤ k) (hk : k < q + 4) (hq : q % 4 = 0) (hk2 : k < 1000) : (24 : Int32) - 8 * (nI k &&& 3) = nI (24 - 8 * (k - q)) := by
  rw [pk_andN (k := 2) (by omega) rfl]
  rw [show (k % 2 ^ 2) = k - q by omega, show (8 : Int32) * nI (k - q) = nI (8 * (k - q)) from pk_mul 8 _]
  exact nI_sub (x := 24) (by omega)
theorem t_feedN {o : Nat} {x1 x2 x3 x4 x5 : Int32} {S : Int32 → MI → Prop} {J : MI} (hL : L + 20 ≤ 600) (hS : ∀ J', TpM o J' (fdT T L x1 x2 x3 x4 x5) (L + 20) → (∀ c, c ≠ o → c ≠ o + 2 → J' c = J c) → (∀ k, k ≠ 3 → J' o k = J o k) → S (nI (L + 20)) J') :
    ∀ (d k : Nat) (J' : MI), k + d = 20 → J' o = J o → J o 3 = nI L → (∀ c, c ≠ o → c ≠ o + 2 → J' c = J c) → (∀ j, j < 600 → J' (o + 2) j = nI (if j < L + k then fdT T L x1 x2 x3 x4 x5 j else T j)) → lpN2 (w_X10_feed_l18 o x1 x2 x3 x4 x5 S) (d + 1) (nI k) J' := by
  intro d
  induction d with
  | zero =>
    intro k J' hk e0 e3 hF hT
    have : k = 20 := by omega
    subst this
    show w_X10_feed_l18 o x1 x2 x3 x4 x5 S _ (nI 20) J'
    unfold w_X10_feed_l18
    refine ⟨fun _ => ?_, fun c => absurd (nI_le (a := 20) (b := 20) (by omega) (by omega)) c⟩
    rintro _ rfl
    rw [ui_gs, e0, e3, show nI L + 20 = nI (L + 20) from nI_add L 20]
    refine hS _ ⟨ui_gs _ _ _ _, fun j hj => ?_⟩ (fun c c1 c2 => by rw [ui_ne _ _ _ c1]; exact hF c c1 c2) (fun j hj => by rw [ui_gj _ _ _ hj, e0])
    rw [ui_ne _ _ _ (by omega), hT j hj]
    by_cases q : j < L + 20
    · rw [if_pos q]
    · rw [if_neg q, fdT_at, if_neg (by omega), if_neg (by omega), if_neg (by omega), if_neg (by omega), if_neg (by omega)]
  | succ d ih =>
    intro k J' hk e0 e3 hF hT
    show w_X10_feed_l18 o x1 x2 x3 x4 x5 S (lpN2 (w_X10_feed_l18 o x1 x2 x3 x4 x5 S) (d + 1)) (nI k) J'
    have ih' := fun J' => ih (k + 1) J'
    clear ih
    generalize lpN2 (w_X10_feed_l18 o x1 x2 x3 x4 x5 S) (d + 1) = rec at ih' ⊢
    have go : ∀ (q : Nat) (x : Int32), q ≤ k → k < q + 4 → q % 4 = 0 → (fdT T L x1 x2 x3 x4 x5 (L + k) = byt x (k - q)) → w_X10_feed_p71 o x1 x2 x3 x4 x5 (nI k) x J' rec S := fun q x h1 h2 h3 h4 => by
      unfold w_X10_feed_p71
      rw [e0, e3, nI_add, ixn (by omega), nI_1]
      refine ⟨inn (by omega) (by omega), ?_⟩
      rintro _ rfl
      refine ih' _ (by omega) (by rw [ui_ne _ _ _ (by omega)]; exact e0) e3 (fun c c1 c2 => by rw [ui_ne _ _ _ c2]; exact hF c c1 c2) (fun j hj => ?_)
      by_cases e : j = L + k
      · subst e
        rw [ui_gs, if_pos (by omega), h4, fsh h1 h2 h3 (by omega), lowB_m]
        rfl
      · rw [ui_gj _ _ _ e, hT j hj]
        by_cases q : j < L + k
        · rw [if_pos q, if_pos (by omega)]
        · rw [if_neg q, if_neg (by omega)]
    unfold w_X10_feed_l18
    refine ⟨fun c => absurd ((nI_leI (a := 20) (by omega) (by omega)).mp c) (by omega), fun _ => ⟨fun c4 => ⟨fun c8 => ⟨fun c12 => ⟨fun c16 => ?_, fun c16 => ?_⟩, fun c12 => ?_⟩, fun c8 => ?_⟩, fun c4 => ?_⟩⟩
    · have := (nI_leI (a := 16) (by omega) (by omega)).mp c16
      refine go 16 x5 this (by omega) rfl ?_
      rw [fdT_at, if_pos (by omega)]; congr 1; omega
    · have := (nI_leI (a := 12) (by omega) (by omega)).mp c12
      have h16 : k < 16 := Nat.not_le.mp fun q => c16 (nI_le q (by omega))
      refine go 12 x4 this (by omega) rfl ?_
      rw [fdT_at, if_neg (by omega), if_pos (by omega)]; congr 1; omega
    · have := (nI_leI (a := 8) (by omega) (by omega)).mp c8
      have h16 : k < 12 := Nat.not_le.mp fun q => c12 (nI_le q (by omega))
      refine go 8 x3 this (by omega) rfl ?_
      rw [fdT_at, if_neg (by omega), if_neg (by omega), if_pos (by omega)]; congr 1; omega
    · have := (nI_leI (a := 4) (by omega) (by omega)).mp c4
      have h16 : k < 8 := Nat.not_le.mp fun q => c8 (nI_le q (by omega))
      refine go 4 x2 this (by omega) rfl ?_
      rw [fdT_at, if_neg (by omega), if_neg (by omega), if_neg (by omega), if_pos (by omega)]; congr 1; omega
    · have h16 : k < 4 := Nat.not_le.mp fun q => c4 (nI_le q (by omega))
      refine go 0 x1 (by omega) (by omega) rfl ?_
      rw [fdT_at, if_neg (by omega), if_neg (by omega), if_neg (by omega), if_neg (by omega), if_pos (by omega)]; congr 1; omega
/-- of the class only the tape and its length are changed -/
def TpF (a : Nat) (I I' : MI) : Prop := (∀ c, c ≠ a + 1 → c ≠ a + 2 → I' c = I c) ∧ ∀ k, k ≠ 1 → I' (a + 1) k = I (a + 1) k
def TpG (o : Nat) (J J' : MI) : Prop := (∀ c, c ≠ o → c ≠ o + 2 → J' c = J c) ∧ ∀ k, k ≠ 3 → J' o k = J o k
theorem q_feed {x1 x2 x3 x4 x5 : Int32} {P : Int32 → MI → Prop} (h : TpC a I T L) (hP : ∀ v I' T' L', (∀ (o : Nat) (J : MI) (S : Int32 → MI → Prop), TpM o J T L → (∀ J', TpM o J' T' L' → TpG o J J' → S v J') → w_X10_feed o x1 x2 x3 x4 x5 J S) → TpC a I' T' L' → TpF a I I' → P v I') : w_X9_feed a x1 x2 x3 x4 x5 I P := by
  obtain ⟨h1, h2, h3⟩ := h
  unfold w_X9_feed
  rw [h1, show nI L + 20 = nI (L + 20) from nI_add L 20]
  refine ⟨fun c => ?_, fun c => hP _ I T L (fun o J S hM hS => ?_) ⟨h1, h2, h3⟩ ⟨fun _ _ _ => rfl, fun _ _ => rfl⟩⟩
  · have hL : L + 20 ≤ 600 := (nI_leI (b := 600) (by omega) (by omega)).mp c
    refine k_append (by omega) ⟨h1, h2, h3⟩ (fun I1 t1 f1 g1 => ?_)
    refine k_append (by omega) t1 (fun I2 t2 f2 g2 => ?_)
    refine k_append (by omega) t2 (fun I3 t3 f3 g3 => ?_)
    refine k_append (by omega) t3 (fun I4 t4 f4 g4 => ?_)
    refine k_append (by omega) t4 (fun I5 t5 f5 g5 => ?_)
    rw [t5.1]
    refine hP _ I5 (fdT T L x1 x2 x3 x4 x5) (L + 20) (fun o J S hM hS => ?_) t5 ⟨fun c c1 c2 => by rw [f5 c c1 c2, f4 c c1 c2, f3 c c1 c2, f2 c c1 c2, f1 c c1 c2], fun k hk => by rw [g5 k hk, g4 k hk, g3 k hk, g2 k hk, g1 k hk]⟩
    unfold w_X10_feed
    rw [hM.1, show nI L + 20 = nI (L + 20) from nI_add L 20]
    refine ⟨fun _ => ⟨21, t_feedN (J := J) hL (fun J' m' f' g' => hS J' m' ⟨f', g'⟩) 20 0 J (by omega) rfl hM.1 (fun _ _ _ => rfl) (fun j hj => ?_)⟩, fun q => absurd c q⟩
    rw [hM.2 j hj]
    by_cases q : j < L + 0
    · rw [if_pos q, fdT_at, if_neg (by omega), if_neg (by omega), if_neg (by omega), if_neg (by omega), if_neg (by omega)]
    · rw [if_neg q]
  · unfold w_X10_feed
    rw [hM.1, show nI L + 20 = nI (L + 20) from nI_add L 20]
    exact ⟨fun q => absurd q c, fun _ => hS J hM ⟨fun _ _ _ => rfl, fun _ _ => rfl⟩⟩
theorem q_end {x : Int32} {P : Int32 → MI → Prop} (h : TpC a I T L) (hP : ∀ v I' L', (∀ (o : Nat) (J : MI) (S : Int32 → MI → Prop), TpM o J T L → (∀ J', TpM o J' T L' → TpG o J J' → S v J') → w_X10_end o x J S) → TpC a I' T L' → TpF a I I' → P v I') : w_X9_end a x I P := by
  obtain ⟨h1, h2, h3⟩ := h
  unfold w_X9_end
  have hno : (x < 0 ∨ nI L < x) → P (-1) I := fun hx => hP _ I L (fun o J S hM hS => by
    unfold w_X10_end
    rw [hM.1]
    exact t_isIn0 hx ⟨fun c => absurd rfl c, fun _ => hS J hM ⟨fun _ _ _ => rfl, fun _ _ => rfl⟩⟩) ⟨h1, h2, h3⟩ ⟨fun _ _ _ => rfl, fun _ _ => rfl⟩
  rw [h1]
  rcases in_cases x (lo := 0) (hi := L) (by omega) (by omega) with ⟨n, -, h5, rfl⟩ | hx
  · refine ⟨fun c => absurd c (nI_pos (by omega)), fun _ => ⟨fun _ => ?_, fun c => absurd (nI_le h5 (by omega)) c⟩⟩
    rintro _ rfl
    refine hP _ _ n (fun o J S hM hS => ?_) ⟨ui_gs _ _ _ _, by omega, fun k hk => by rw [ui_ne _ _ _ (by omega)]; exact h3 k hk⟩ ⟨fun c c1 _ => ui_ne _ _ _ c1, fun k hk => ui_gj _ _ _ hk⟩
    unfold w_X10_end
    rw [hM.1]
    refine t_isIn1 (lo := 0) (by omega) h5 (by omega) ⟨fun _ => ?_, fun c => absurd c (by decide)⟩
    rintro _ rfl
    exact hS _ ⟨ui_gs _ _ _ _, fun k hk => by rw [ui_ne _ _ _ (by omega)]; exact hM.2 k hk⟩ ⟨fun c c1 _ => ui_ne _ _ _ c1, fun k hk => ui_gj _ _ _ hk⟩
  · exact ⟨fun c => hno (Or.inl c), fun c => ⟨fun c2 => absurd (hx.resolve_left c) (Int32.not_lt.mpr c2), fun _ => hno hx⟩⟩
theorem q_fault {x : Int32} {P : Int32 → Prop} (hP : ∀ v, (∀ (o : Nat) (J : MI) (S : Int32 → Prop), J o 4 = I (a + 1) 2 → J o 5 = I (a + 1) 3 → S v → w_X10_fault o x J S) → P v) : w_X9_fault a x I P := by
  unfold w_X9_fault
  refine ⟨fun c => hP _ (fun o J S e4 e5 hS => ?_), fun c => hP _ (fun o J S e4 e5 hS => ?_), fun c0 c1 => hP _ (fun o J S e4 e5 hS => ?_)⟩
  · unfold w_X10_fault; rw [e4]; exact ⟨fun q => absurd c q, fun _ => hS⟩
  · unfold w_X10_fault; rw [e5]; exact ⟨fun _ => ⟨fun q => absurd c q, fun _ => hS⟩, fun q => absurd (q.symm.trans c) (by decide)⟩
  · unfold w_X10_fault; exact ⟨fun _ => ⟨fun _ => hS, fun q => absurd q c1⟩, fun q => absurd q c0⟩
end
