/-! the sides: model -/
def vWait (V : Nat → Int32) (s r : Nat) : Nat → Int32 := upd (upd V (227 + 14 * s) (nI r)) (228 + 14 * s + r) (V (228 + 14 * s + r) + 1)
def vDid3 (V : Nat → Int32) (s p k : Nat) : Nat → Int32 := upd (upd (upd V (366 + 75 * s + 3 * p + k) (V (366 + 75 * s + 3 * p + k) + 1)) (224 + 14 * s) (V (224 + 14 * s) + 1)) (223 + 14 * s) (nI (k + 1))
def vDone (V : Nat → Int32) (s p k : Nat) (to : Int32) : Nat → Int32 := if vDeed V s p (k + 1) = 0 then upd (upd (upd (vDid3 V s p k) (225 + 14 * s) (V (225 + 14 * s) + 1)) (223 + 14 * s) 0) (222 + 14 * s) to else vDid3 V s p k
section
variable {o b : Nat} {J : MI} {V : Nat → Int32} {P : MI → Prop} {Q : Int32 → Prop}
theorem t_waits {s r : Nat} (hb : b ≤ 1032) (hs' : s < 2) (hr : r ≤ 7) (h : P (kb J (o + 1) b (vWait V s r))) : w_X10_waits o (nI b) (nI s) (nI r) (kb J (o + 1) b V) P := by
  unfold w_X10_waits
  refine t_sideAt ?_
  simp only [lit, nI_add]
  refine ⟨inn (by omega) (by omega), ?_⟩
  rintro _ rfl
  refine ⟨inn (by omega) (by omega), inn (by omega) (by omega), ?_⟩
  rintro _ rfl
  rw [show b + 222 + 14 * s + 5 = b + (227 + 14 * s) by omega, kx hb (by omega), show b + 222 + 14 * s + 6 + r = b + (228 + 14 * s + r) by omega, kg hb (by omega), kx hb (by omega), upd_n _ _ (by omega)]
  exact h
theorem vDid3_fr {s p k : Nat} : VFr V (vDid3 V s p k) := fun j hj => by
  unfold vDid3
  rw [upd_n _ _ (by omega), upd_n _ _ (by omega), upd_n _ _ (by omega)]
theorem t_does {s p k : Nat} {to : Int32} (hb : b ≤ 1032) (hs' : s < 2) (hp : p ≤ 24) (hk : k ≤ 1) (ep : V (222 + 14 * s) = nI p) (ek : V (223 + 14 * s) = nI k) (hlow : p ≤ 23 ∨ nI p = V 48) (hpos : vDeed V s p (k + 1) ≤ 0 ↔ vDeed V s p (k + 1) = 0) (h : P (kb J (o + 1) b (vDone V s p k to))) : w_X10_does o (nI b) (nI s) to (kb J (o + 1) b V) P := by
  unfold w_X10_does
  refine t_sideAt ?_
  simp only [lit, nI_add, pk_mul]
  rw [show b + 222 + 14 * s + 0 = b + (222 + 14 * s) by omega, show b + 222 + 14 * s + 1 = b + (223 + 14 * s) by omega, show b + 222 + 14 * s + 2 = b + (224 + 14 * s) by omega, show b + 222 + 14 * s + 3 = b + (225 + 14 * s) by omega, kg hb (by omega), kg hb (by omega), ep, ek]
  refine ⟨kin hb (by omega), ?_⟩
  rintro _ rfl
  simp only [pk_mul, nI_add]
  rw [show b + 366 + 75 * s + 3 * p + k = b + (366 + 75 * s + 3 * p + k) by omega]
  refine ⟨kin hb (by omega), kin hb (by omega), kin hb (by omega), ?_⟩
  rintro _ rfl
  rw [kg hb (by omega), kx hb (by omega)]
  refine ⟨kin hb (by omega), kin hb (by omega), ?_⟩
  rintro _ rfl
  rw [kg hb (by omega), kx hb (by omega)]
  refine ⟨kin hb (by omega), kin hb (by omega), ?_⟩
  rintro _ rfl
  rw [kg hb (by omega), kx hb (by omega)]
  have e3 : upd (upd (upd V (366 + 75 * s + 3 * p + k) (V (366 + 75 * s + 3 * p + k) + nI 1)) (224 + 14 * s) (upd V (366 + 75 * s + 3 * p + k) (V (366 + 75 * s + 3 * p + k) + nI 1) (224 + 14 * s) + nI 1)) (223 + 14 * s) (upd (upd V (366 + 75 * s + 3 * p + k) (V (366 + 75 * s + 3 * p + k) + nI 1)) (224 + 14 * s) (upd V (366 + 75 * s + 3 * p + k) (V (366 + 75 * s + 3 * p + k) + nI 1) (224 + 14 * s) + nI 1) (223 + 14 * s) + nI 1) = vDid3 V s p k := by
    unfold vDid3
    rw [upd_n V _ (show 224 + 14 * s ≠ 366 + 75 * s + 3 * p + k by omega), upd_n _ _ (show 223 + 14 * s ≠ 224 + 14 * s by omega), upd_n _ _ (show 223 + 14 * s ≠ 366 + 75 * s + 3 * p + k by omega), ek, nI_add]
    rfl
  rw [e3, kg hb (by omega)]
  have e4 : vDid3 V s p k (223 + 14 * s) = nI (k + 1) := by unfold vDid3; rw [upd_s]
  rw [e4]
  refine ⟨kin hb (by omega), t_deed hb (by omega) hp (by omega) ?_⟩
  rw [vDeed_fr vDid3_fr hlow]
  unfold vDone at h
  refine ⟨fun c => ?_, fun c => ?_⟩
  · have c' := hpos.mp c
    rw [if_pos c'] at h
    refine ⟨kin hb (by omega), kin hb (by omega), ?_⟩
    rintro _ rfl
    rw [kg hb (by omega), kx hb (by omega)]
    refine ⟨kin hb (by omega), ?_⟩
    rintro _ rfl
    rw [kx hb (by omega)]
    refine ⟨kin hb (by omega), ?_⟩
    rintro _ rfl
    rw [kx hb (by omega)]
    have e5 : vDid3 V s p k (225 + 14 * s) = V (225 + 14 * s) := by unfold vDid3; rw [upd_n _ _ (by omega), upd_n _ _ (by omega), upd_n _ _ (by omega)]
    rw [e5]
    exact h
  · rw [if_neg (fun c' => c (hpos.mpr c'))] at h
    exact h
theorem t_ends {s p k : Nat} (hb : b ≤ 1032) (hs' : s < 2) (hp : p ≤ 24) (hk : k ≤ 1) (ep : V (222 + 14 * s) = nI p) (ek : V (223 + 14 * s) = nI k) (hlow : p ≤ 23 ∨ nI p = V 48) (hpos : vDeed V s p (k + 1) ≤ 0 ↔ vDeed V s p (k + 1) = 0) (h : P (kb J (o + 1) b (upd (vDone V s p k (nI p)) (226 + 14 * s) 1))) : w_X10_ends o (nI b) (nI s) (kb J (o + 1) b V) P := by
  unfold w_X10_ends
  refine t_sideAt ?_
  simp only [lit, nI_add]
  rw [show b + 222 + 14 * s + 0 = b + (222 + 14 * s) by omega, kg hb (by omega), ep]
  refine ⟨kin hb (by omega), t_does hb hs' hp hk ep ek hlow hpos ?_⟩
  rw [show b + 222 + 14 * s + 4 = b + (226 + 14 * s) by omega]
  refine ⟨kin hb (by omega), ?_⟩
  rintro _ rfl
  rw [kx hb (by omega)]
  exact h
theorem t_isEnded {s : Nat} (hb : b ≤ 1032) (hs' : s < 2) (h : Q (if V (226 + 14 * s) = 1 then 1 else 0)) : w_X10_isEnded o (nI b) (nI s) (kb J (o + 1) b V) Q := by
  unfold w_X10_isEnded
  refine t_sideAt ?_
  simp only [lit, nI_add]
  rw [show b + 222 + 14 * s + 4 = b + (226 + 14 * s) by omega, kg hb (by omega)]
  exact ⟨kin hb (by omega), fun c => by rw [if_neg (show ¬ V (226 + 14 * s) = 1 from c)] at h; exact h, fun c => by rw [if_pos (show V (226 + 14 * s) = 1 from c)] at h; exact h⟩
theorem t_slip (hb : b ≤ 1032) (h : Q (V 225 - V 239)) : w_X10_slip o (nI b) (kb J (o + 1) b V) Q := by
  unfold w_X10_slip
  refine t_sideAt (s := 0) ?_
  simp only [lit, nI_add]
  refine ⟨inn (by omega) (by omega), t_sideAt (s := 1) ?_⟩
  simp only [nI_add]
  rw [show b + 222 + 14 * 0 + 3 = b + 225 by omega, show b + 222 + 14 * 1 + 3 = b + 239 by omega, kg hb (by omega), kg hb (by omega)]
  exact ⟨kin hb (by omega), h⟩
end
/-! the sides: class -/
section
variable {a p : Nat} {I : MI} {P : MI → Prop} {Q : Int32 → Prop}
theorem k_isSide {s : Nat} (hs' : s < 2) (h : Q 1) : w_X9_isSide (nI s) Q := by
  unfold w_X9_isSide
  refine ⟨fun c => absurd c (nI_pos (by omega)), fun _ => ⟨fun c => ?_, fun _ => h⟩⟩
  exact absurd ((nI_leI (a := 2) (by omega) (by omega)).mp c) (by omega)
theorem k_deedsAt {s i n : Nat} (hs' : s < 2) (hn : n < 25) (hi : i ≤ n) (e : I p 1 = nI n) (h : Q (I (p + 7) (25 * s + i))) : w_X2_deedsAt p (nI s) (nI i) I Q := by
  unfold w_X2_deedsAt
  refine k_isSide hs' ⟨fun c => absurd c (by decide), fun _ => ⟨fun c => absurd c (nI_pos (by omega)), fun _ => ⟨fun c => ?_, fun _ => ?_⟩⟩⟩
  · rw [e] at c
    exact absurd c (nI_nlt hi (by omega))
  · simp only [lit, pk_mul, nI_add]
    rw [ixn (by omega), Nat.mul_comm]
    exact ⟨inn (by omega) (by omega), h⟩
theorem k_kindOf {s i k : Nat} (hs' : s < 2) (hi : i < 25) (hk : k < 2) (h : Q (I (p + 5) (2 * (25 * s + i) + k))) : w_X2_kindOf p (nI s) (nI i) (nI k) I Q := by
  unfold w_X2_kindOf w_X9_deedPlace
  simp only [lit, pk_mul, nI_add]
  rw [ixn (by omega), show (s * 25 + i) * 2 + k = 2 * (25 * s + i) + k by omega]
  exact ⟨inn (by omega) (by omega), h⟩
theorem k_sentAt {i k : Nat} (hi : i < 25) (hk : k < 2) (h : Q (I (p + 6) (2 * i + k))) : w_X2_sentAt p (nI i) (nI k) I Q := by
  unfold w_X2_sentAt
  simp only [lit, pk_mul, nI_add]
  rw [ixn (by omega), show i * 2 + k = 2 * i + k by omega]
  exact ⟨inn (by omega) (by omega), h⟩
theorem k_setReason {r : Nat} (hr : r ≤ 7) (h : P (if r = 0 then ui I a 6 0 else ui (ui I a 6 (nI r)) (a + 1) r (I (a + 1) r + 1))) : w_X5_setReason a (nI r) I P := by
  unfold w_X5_setReason
  rintro _ rfl
  by_cases h0 : r = 0
  · subst h0
    exact ⟨fun _ => h, fun c => absurd (by decide) c⟩
  · rw [if_neg h0] at h
    refine ⟨fun c => absurd c (nI_nle (by omega) (by omega)), fun _ => ⟨fun c => ?_, fun _ => ⟨inn (by omega) (by omega), inn (by omega) (by omega), ?_⟩⟩⟩
    · exact absurd ((nI_ltI (a := 7) (by omega) (by omega)).mp c) (by omega)
    · rintro _ rfl
      rw [ixn (by omega), ui_gn _ _ _ _ (by omega)]
      exact h
end
