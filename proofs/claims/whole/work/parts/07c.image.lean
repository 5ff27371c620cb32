/-! images -/
section
variable {a d s k L : Nat} {I : MI} {V : Nat → Int32} {T : Nat → Nat} {f g : Int32}
/-- a machine's own shape, whatever it holds -/
def MShp (m : Nat) (I : MI) : Prop := SgOK (m + 1) I ∧ (∀ s, s < 2 → I (m + 57 + 3 * s) 0 = nI s) ∧ bln (I m 15)
theorem MShp.tr (h : TrOK a I) : MShp (a + 111) I := ⟨h.1, fun s hs => by rw [show a + 111 + 57 + 3 * s = a + 168 + 3 * s by omega]; exact h.2.1 s hs, h.2.2⟩
theorem TrOK.shp (h : MShp (a + 111) I) : TrOK a I := ⟨h.1, fun s hs => by rw [show a + 168 + 3 * s = a + 111 + 57 + 3 * s by omega]; exact h.2.1 s hs, h.2.2⟩
theorem MShp.of {m : Nat} (h : Rel m I V) : MShp m I := ⟨fun i hi => h.1.2.2.2.2 i hi, fun s hs => (h.2.2.2.2 s hs).1, h.2.2.1.2.2.2.2.2.2.2.2.2.2.2.2.2.2.2.2.2.2⟩
theorem MShp.fr {m : Nat} {I' : MI} (h : MShp m I) (hI : ∀ c, m ≤ c → c < m + 63 → I' c = I c) : MShp m I' := ⟨fun i hi => by rw [hI _ (by omega) (by omega)]; exact h.1 i hi, fun s hs => by rw [hI _ (by omega) (by omega)]; exact h.2.1 s hs, by rw [hI _ (by omega) (by omega)]; exact h.2.2⟩
theorem Rel.fr {m : Nat} {I' : MI} (h : Rel m I V) (f : ∀ c, m ≤ c → c < m + 63 → I' c = I c) : Rel m I' V := ⟨h.1.fr (fun c _ _ => f c (by omega) (by omega)) VFr.rf, h.2.1.fr h.1.2.1 (fun c _ _ => f c (by omega) (by omega)) VFr.rf, h.2.2.1.fr (f _ (by omega) (by omega)) (f _ (by omega) (by omega)) (fun k _ _ => by rw [f _ (by omega) (by omega)]) (fun _ _ => rfl), fun q hq => (h.2.2.2.1 q hq).fr (fun d hd => f _ (by omega) (by omega)) rfl (fun _ _ => rfl), fun s hs => (h.2.2.2.2 s hs).fr h.1.2.1 hs (fun d hd => f _ (by omega) (by omega)) VFr.rf (fun _ _ _ => rfl) (fun _ _ => rfl)⟩
/-- a whole of the class at d: what it is -/
def WhI (d : Nat) (I : MI) (V : Nat → Int32) (T : Nat → Nat) (L : Nat) (f g : Int32) : Prop :=
  (Rel (d + 2) I V ∧ RelT (d + 3) I V ∧ RelW (d + 2) I V ∧ Tame V ∧ AmOK V) ∧ I d 1 = nI L ∧ L ≤ 600 ∧ (∀ j, j < 600 → I (d + 1) j = byS (T j) ∧ T j < 256) ∧ I d 2 = f ∧ I d 3 = g
theorem WhI.inv (h : WhI (a + 1) I V T L f g) : Inv a I V := h.1
theorem WhI.tp (h : WhI (a + 1) I V T L f g) : TpC a I T L := ⟨h.2.1, h.2.2.1, h.2.2.2.1⟩
theorem WhI.mk' (h : Inv a I V) (h2 : TpC a I T L) (h3 : I (a + 1) 2 = f) (h4 : I (a + 1) 3 = g) : WhI (a + 1) I V T L f g := ⟨h, h2.1, h2.2.1, h2.2.2, h3, h4⟩
theorem WhI.fr {I' : MI} (h : WhI d I V T L f g) (hI : ∀ c, d ≤ c → c < d + 65 → I' c = I c) : WhI d I' V T L f g := by
  obtain ⟨⟨h1, h2, h3, h4, h5⟩, h6, h7, h8, h9, h10⟩ := h
  refine ⟨⟨h1.fr (fun c _ _ => hI c (by omega) (by omega)), h2.fr (fun c _ _ => hI c (by omega) (by omega)) (fun _ _ => rfl), fun s hs => by rw [hI _ (by omega) (by omega)]; exact h3 s hs, h4, h5⟩, ?_, h7, fun j hj => ?_, ?_, ?_⟩
  · rw [hI _ (by omega) (by omega)]; exact h6
  · rw [hI _ (by omega) (by omega)]; exact h8 j hj
  · rw [hI _ (by omega) (by omega)]; exact h9
  · rw [hI _ (by omega) (by omega)]; exact h10
theorem k_copyWhole {P : MI → Prop} (hds : d + 64 < s ∨ s + 64 < d) (h : WhI s I V T L f g) (hd : MShp (d + 2) I) (hP : ∀ I', WhI d I' V T L f g → (∀ c, (c < d ∨ d + 64 < c) → I' c = I c) → P I') : w_X8_copyFrom d s I P := by
  obtain ⟨⟨h1, h2, h3, h4, h5⟩, h6, h7, h8, h9, h10⟩ := h
  obtain ⟨hsz, e48⟩ := size_lt h1.1
  unfold w_X8_copyFrom
  refine ⟨fun j hj => by rw [(h8 j hj).1]; exact byS_fit _, ?_⟩
  rintro _ rfl _ rfl _ rfl _ rfl
  rw [uc_ne _ _ (show s ≠ d + 1 by omega), ui_ne _ _ _ (show s ≠ d by omega), uc_ne _ _ (show s ≠ d + 1 by omega), ui_ne _ _ _ (show s ≠ d by omega), ui_ne _ _ _ (show s ≠ d by omega), uc_ne _ _ (show s ≠ d + 1 by omega), h6, h9, h10]
  generalize hI1 : ui (ui (ui (uc I (s + 1) (d + 1) 600) d 1 (nI L)) d 2 f) d 3 g = I1
  have f1 : ∀ c, (c < d ∨ d + 1 < c) → I1 c = I c := fun c hc => by rw [← hI1, ui_ne _ _ _ (by omega), ui_ne _ _ _ (by omega), ui_ne _ _ _ (by omega), uc_ne _ _ (by omega)]
  have h1' : Rel (s + 2) I1 V := h1.fr (fun c _ _ => f1 c (by omega))
  refine k_copyMach (by omega) hsz (h1'.1.1.trans e48) (fun i hi => h1'.1.2.2.2.2 i hi) (fun q hq => ?_) (fun I2 c2 f2 => ?_)
  · obtain ⟨-, -, -, -, -, -, q4, qb, -⟩ := h1'.2.2.2.2 q hq
    rw [q4]; exact bit_c qb
  · obtain ⟨d1, d2, d3⟩ := hd
    have r1 : Rel (d + 2) I2 V := h1'.cp c2 (fun i hi => by rw [f1 _ (by omega)]; exact d1 i hi) (fun q hq => by rw [f1 _ (by omega)]; exact d2 q hq) (by rw [f1 _ (by omega)]; exact d3)
    have r2 : RelT (d + 3) I2 V := (h2.fr (I' := I1) (fun c _ _ => f1 c (by omega)) (fun _ _ => rfl)).cp c2.1
    have r3 : RelW (d + 2) I2 V := RelW.cp (b := s + 2) (fun q hq => by rw [f1 _ (by omega)]; exact h3 q hq) c2
    refine hP I2 ⟨⟨r1, r2, r3, h4, h5⟩, ?_, h7, fun j hj => ?_, ?_, ?_⟩ (fun c hc => by rw [f2 c (by omega), f1 c (by omega)])
    · rw [f2 _ (by omega), ← hI1, ui_gj _ _ _ (by omega), ui_gj _ _ _ (by omega), ui_gs]
    · rw [f2 _ (by omega), ← hI1, ui_ne _ _ _ (by omega), ui_ne _ _ _ (by omega), ui_ne _ _ _ (by omega), uc_at]
      unfold va_cpy
      rw [if_pos (by omega), show 0 + (j - 0) = j by omega]
      exact h8 j hj
    · rw [f2 _ (by omega), ← hI1, ui_gj _ _ _ (by omega), ui_gs]
    · rw [f2 _ (by omega), ← hI1, ui_gs]
theorem k_image1 {P : Int32 → MI → Prop} (hk : k < 3) (h : WhI (a + 1) I V T L f g) (hd : MShp (a + 181 + 65 * k) I) (hP : ∀ I', WhI (a + 179 + 65 * k) I' V T L f g → (∀ c, (c < a + 179 + 65 * k ∨ a + 243 + 65 * k < c) → c ≠ a + 67 → I' c = I c) → I' (a + 67) k = 1 → (∀ j, j ≠ k → I' (a + 67) j = I (a + 67) j) → P 1 I') : w_X9_image a (nI k) I P := by
  unfold w_X9_image
  rw [ixn (by omega)]
  refine ⟨fun c => absurd c (nI_pos (by omega)), fun _ => ⟨fun _ => ⟨inn hk (by omega), k_copyWhole (d := a + 179 + 65 * k) (s := a + 1) (by omega) h (by rw [show a + 179 + 65 * k + 2 = a + 181 + 65 * k by omega]; exact hd) (fun I1 w1 f1 => ⟨inn hk (by omega), ?_⟩)⟩, fun c => absurd (nI_lt (b := 3) hk (by omega)) c⟩⟩
  rintro _ rfl
  refine hP _ (w1.fr (fun c h1 _ => ui_ne _ _ _ (by omega))) (fun c hc h67 => by rw [ui_ne _ _ _ h67]; exact f1 c (by omega)) (by rw [ui_gs]; rfl) (fun j hj => by rw [ui_gj _ _ _ hj, f1 _ (by omega)])
theorem k_image0 {x : Int32} {P : Int32 → MI → Prop} (hx : x < nI 0 ∨ nI 2 < x) (hP : P 0 I) : w_X9_image a x I P := by
  unfold w_X9_image
  refine ⟨fun _ => hP, fun c => ⟨fun c3 => ?_, fun _ => hP⟩⟩
  obtain ⟨j, hj, rfl⟩ := nI_of c
  have := (nI_ltI (b := 3) hj (by omega)).mp c3
  exact absurd ((nI_ltI (a := 2) (by omega) hj).mp (hx.resolve_left c)) (by omega)
theorem k_again1 {P : Int32 → MI → Prop} (hk : k < 3) (ht : ¬ I (a + 67) k = 0) (h : WhI (a + 179 + 65 * k) I V T L f g) (hd : MShp (a + 3) I) (hP : ∀ I', WhI (a + 1) I' V T L f g → (∀ c, (c < a + 1 ∨ a + 65 < c) → I' c = I c) → P 1 I') : w_X9_again a (nI k) I P := by
  unfold w_X9_again
  rw [ixn (by omega)]
  exact ⟨fun c => absurd c (nI_pos (by omega)), fun _ => ⟨fun c => absurd ((nI_leI (a := 3) (by omega) (by omega)).mp c) (by omega), fun _ => ⟨inn hk (by omega), fun _ => ⟨inn hk (by omega), k_copyWhole (d := a + 1) (s := a + 179 + 65 * k) (by omega) h hd (fun I1 w1 f1 => hP I1 w1 (fun c hc => f1 c (by omega)))⟩, fun c => absurd c ht⟩⟩⟩
theorem k_againN {P : Int32 → MI → Prop} (hk : k < 3) (ht : I (a + 67) k = 0) (hP : P 0 I) : w_X9_again a (nI k) I P := by
  unfold w_X9_again
  rw [ixn (by omega)]
  exact ⟨fun c => absurd c (nI_pos (by omega)), fun _ => ⟨fun c => absurd ((nI_leI (a := 3) (by omega) (by omega)).mp c) (by omega), fun _ => ⟨inn hk (by omega), fun c => absurd ht c, fun _ => hP⟩⟩⟩
theorem k_again0 {x : Int32} {P : Int32 → MI → Prop} (hx : x < nI 0 ∨ nI 2 < x) (hP : P 0 I) : w_X9_again a x I P := by
  unfold w_X9_again
  refine ⟨fun _ => hP, fun c => ⟨fun _ => hP, fun c3 => ?_⟩⟩
  obtain ⟨j, hj, rfl⟩ := nI_of c
  have := (nI_ltI (a := 2) (by omega) hj).mp (hx.resolve_left c)
  exact absurd (nI_le (a := 3) (by omega) hj) c3
/-- the model's image at b -/
def ImM (o b : Nat) (J : MI) (V : Nat → Int32) (T : Nat → Nat) (L : Nat) (f g : Int32) : Prop :=
  (∀ j, j < 516 → J (o + 1) (b + j) = V j) ∧ (∀ j, j < 600 → J (o + 1) (b + 516 + j) = nI (T j)) ∧ J (o + 1) (b + 1116) = nI L ∧ J (o + 1) (b + 1117) = f ∧ J (o + 1) (b + 1118) = g
/-- the model as it stands -/
def CuM (o : Nat) (J : MI) (V : Nat → Int32) (T : Nat → Nat) (L : Nat) (f g : Int32) : Prop :=
  (∀ j, j < 516 → J (o + 1) j = V j) ∧ TpM o J T L ∧ J o 4 = f ∧ J o 5 = g
theorem t_imgB (hk : k < 3) : (1548 : Int32) + 1119 * nI k = nI (1548 + 1119 * k) := by
  rw [show (1119 : Int32) * nI k = nI (1119 * k) from pk_mul 1119 k]
  exact nI_add 1548 _
theorem t_imgL {o b : Nat} {x1 : Int32} {J : MI} {S : Int32 → MI → Prop} {ke : Int32 → MI → Prop} (hb : b + 1119 ≤ 4905) (hT : ∀ j, j < 600 → J (o + 2) j = nI (T j)) (hke : ∀ J', (∀ c, c ≠ o + 1 → J' c = J c) → (∀ j, (j < b + 516 ∨ b + 1116 ≤ j) → J' (o + 1) j = J (o + 1) j) → (∀ j, j < 600 → J' (o + 1) (b + 516 + j) = nI (T j)) → ke (nI 600) J') : Lp2 (w_X10_image_l29 o x1 (nI b) ke S) 0 J := by
  refine Lp2.of (fun z J' => ∃ k, k ≤ 600 ∧ z = nI k ∧ (∀ c, c ≠ o + 1 → J' c = J c) ∧ (∀ j, (j < b + 516 ∨ b + 1116 ≤ j) → J' (o + 1) j = J (o + 1) j) ∧ ∀ j, j < k → J' (o + 1) (b + 516 + j) = nI (T j)) (fun z _ => 600 - ix z) ?_ _ _ ⟨0, by omega, rfl, fun _ _ => rfl, fun _ _ => rfl, fun j hj => by omega⟩
  rintro rec z J' ⟨k, hk, rfl, b1, b2, b3⟩ hrec
  unfold w_X10_image_l29
  refine ⟨fun c => ?_, fun c => ?_⟩
  · have := (nI_leI (a := 600) (by omega) (by omega)).mp c
    have e : k = 600 := by omega
    subst e
    exact hke J' b1 b2 b3
  · have hlt : k < 600 := Nat.not_le.mp fun q => c (nI_le (a := 600) q (by omega))
    rw [show nI b + 516 = nI (b + 516) from nI_add b 516, nI_add, ixn (n := b + 516 + k) (by omega), ixn (n := k) (by omega)]
    refine ⟨inn hlt (by omega), inn (by omega) (by omega), ?_⟩
    rintro _ rfl
    refine hrec _ _ ⟨k + 1, by omega, nI_1 k, fun c hc => ?_, fun j hj => ?_, fun j hj => ?_⟩ ?_
    · rw [ui_ne _ _ _ hc]; exact b1 c hc
    · rw [ui_gj _ _ _ (by omega)]; exact b2 j hj
    · by_cases e : j = k
      · subst e; rw [ui_gs, b1 _ (by omega)]; exact hT j hlt
      · rw [ui_gj _ _ _ (by omega)]; exact b3 j (by omega)
    · rw [nI_1, ixn (by omega), ixn (by omega)]; omega
theorem t_image1 {o : Nat} {J : MI} {S : Int32 → MI → Prop} (hk : k < 3) (h : CuM o J V T L f g) (hS : ∀ J', ImM o (1548 + 1119 * k) J' V T L f g → (∀ j, (j < 1548 + 1119 * k ∨ 1548 + 1119 * k + 1119 ≤ j) → J' (o + 1) j = J (o + 1) j) → (∀ c, c ≠ o + 1 → c ≠ o + 3 → J' c = J c) → J' (o + 3) k = 1 → (∀ j, j ≠ k → J' (o + 3) j = J (o + 3) j) → S 1 J') : w_X10_image o (nI k) J S := by
  obtain ⟨h1, ⟨h2, h3⟩, h4, h5⟩ := h
  generalize hb : 1548 + 1119 * k = b at *
  have hb2 : b + 1119 ≤ 4905 := by omega
  unfold w_X10_image
  refine t_isIn1 (lo := 0) (hi := 2) (by omega) (by omega) (by omega) ⟨fun _ => ?_, fun c => absurd c (by decide)⟩
  rintro _ rfl
  rw [t_imgB hk, hb]
  refine t_copies (x := 0) (y := b) (V' := V) (by omega) (by omega) (by omega) (fun j hj => by rw [Nat.zero_add]; exact h1 j hj) ?_
  refine t_imgL (T := T) hb2 (fun j hj => by rw [kb_ne _ _ (by omega)]; exact h3 j hj) (fun J1 f1 g1 e1 => ?_)
  have e2 : ∀ n : Nat, nI b + 516 + 600 + nI n = nI (b + 1116 + n) := fun n => by rw [show nI b + 516 = nI (b + 516) from nI_add b 516, show nI (b + 516) + 600 = nI (b + 516 + 600) from nI_add (b + 516) 600, nI_add]
  have e20 : nI b + 516 + 600 = nI (b + 1116) := by rw [show nI b + 516 = nI (b + 516) from nI_add b 516]; exact nI_add (b + 516) 600
  have e21 : nI b + 516 + 600 + 1 = nI (b + 1117) := e2 1
  have e22 : nI b + 516 + 600 + 2 = nI (b + 1118) := e2 2
  rw [e21, e22, e20, ixn (n := b + 1116) (by omega), ixn (n := b + 1117) (by omega), ixn (n := b + 1118) (by omega), ixn (n := k) (by omega)]
  have o0 : ∀ c, c ≠ o + 1 → J1 c = J c := fun c hc => by rw [f1 c hc, kb_ne _ _ hc]
  refine ⟨inn (by omega) (by omega), ?_⟩
  rintro _ rfl
  refine ⟨inn (by omega) (by omega), ?_⟩
  rintro _ rfl
  refine ⟨inn (by omega) (by omega), ?_⟩
  rintro _ rfl
  refine ⟨inn hk (by omega), ?_⟩
  rintro _ rfl
  simp only [ui_gn _ _ _ _ (show o ≠ o + 1 by omega)]
  rw [o0 o (by omega), h2, h4, h5]
  refine hS _ ⟨fun j hj => ?_, fun j hj => ?_, ?_, ?_, ?_⟩ (fun j hj => ?_) (fun c c1 c3 => ?_) ?_ (fun j hj => ?_)
  · rw [ui_ne _ _ _ (by omega), ui_gj _ _ _ (by omega), ui_gj _ _ _ (by omega), ui_gj _ _ _ (by omega), g1 _ (by omega), kb_at _ _ _ _ hj]
  · rw [ui_ne _ _ _ (by omega), ui_gj _ _ _ (by omega), ui_gj _ _ _ (by omega), ui_gj _ _ _ (by omega)]; exact e1 j hj
  · rw [ui_ne _ _ _ (by omega), ui_gj _ _ _ (by omega), ui_gj _ _ _ (by omega), ui_gs]
  · rw [ui_ne _ _ _ (by omega), ui_gj _ _ _ (by omega), ui_gs]
  · rw [ui_ne _ _ _ (by omega), ui_gs]
  · rw [ui_ne _ _ _ (by omega), ui_gj _ _ _ (by omega), ui_gj _ _ _ (by omega), ui_gj _ _ _ (by omega), g1 _ (by omega), kb_out _ _ _ _ (by omega)]
  · rw [ui_ne _ _ _ c3, ui_ne _ _ _ c1, ui_ne _ _ _ c1, ui_ne _ _ _ c1, o0 c c1]
  · rw [ui_gs]; rfl
  · rw [ui_gj _ _ _ hj, ui_ne _ _ _ (by omega), ui_ne _ _ _ (by omega), ui_ne _ _ _ (by omega), o0 _ (by omega)]
theorem t_image0 {o : Nat} {x : Int32} {J : MI} {S : Int32 → MI → Prop} (hx : x < nI 0 ∨ nI 2 < x) (hS : S 0 J) : w_X10_image o x J S := by
  unfold w_X10_image
  exact t_isIn0 hx ⟨fun c => absurd rfl c, fun _ => hS⟩
theorem t_againL {o b : Nat} {J : MI} {S : Int32 → MI → Prop} {ke : Int32 → MI → Prop} (hb : b + 1119 ≤ 4905) (hT : ∀ j, j < 600 → J (o + 1) (b + 516 + j) = nI (T j)) (hke : ∀ J', (∀ c, c ≠ o + 2 → J' c = J c) → (∀ j, j < 600 → J' (o + 2) j = nI (T j)) → ke (nI 600) J') : Lp2 (w_X10_again_l38 o (nI b) ke S) 0 J := by
  refine Lp2.of (fun z J' => ∃ k, k ≤ 600 ∧ z = nI k ∧ (∀ c, c ≠ o + 2 → J' c = J c) ∧ ∀ j, j < k → J' (o + 2) j = nI (T j)) (fun z _ => 600 - ix z) ?_ _ _ ⟨0, by omega, rfl, fun _ _ => rfl, fun j hj => by omega⟩
  rintro rec z J' ⟨k, hk, rfl, b1, b3⟩ hrec
  unfold w_X10_again_l38
  refine ⟨fun c => ?_, fun c => ?_⟩
  · have := (nI_leI (a := 600) (by omega) (by omega)).mp c
    have e : k = 600 := by omega
    subst e
    exact hke J' b1 b3
  · have hlt : k < 600 := Nat.not_le.mp fun q => c (nI_le (a := 600) q (by omega))
    rw [show nI b + 516 = nI (b + 516) from nI_add b 516, nI_add, ixn (n := b + 516 + k) (by omega), ixn (n := k) (by omega)]
    refine ⟨inn (by omega) (by omega), inn hlt (by omega), ?_⟩
    rintro _ rfl
    refine hrec _ _ ⟨k + 1, by omega, nI_1 k, fun c hc => ?_, fun j hj => ?_⟩ ?_
    · rw [ui_ne _ _ _ hc]; exact b1 c hc
    · by_cases e : j = k
      · subst e; rw [ui_gs, b1 _ (by omega)]; exact hT j hlt
      · rw [ui_gj _ _ _ (by omega)]; exact b3 j (by omega)
    · rw [nI_1, ixn (by omega), ixn (by omega)]; omega
theorem t_again1 {o : Nat} {J : MI} {S : Int32 → MI → Prop} (hk : k < 3) (ht : ¬ J (o + 3) k = 0) (h : ImM o (1548 + 1119 * k) J V T L f g) (hS : ∀ J', CuM o J' V T L f g → (∀ j, 516 ≤ j → J' (o + 1) j = J (o + 1) j) → (∀ c, c ≠ o → c ≠ o + 1 → c ≠ o + 2 → J' c = J c) → S 1 J') : w_X10_again o (nI k) J S := by
  obtain ⟨h1, h2, h3, h4, h5⟩ := h
  generalize hb : 1548 + 1119 * k = b at *
  have hb2 : b + 1119 ≤ 4905 := by omega
  unfold w_X10_again
  refine t_isIn1 (lo := 0) (hi := 2) (by omega) (by omega) (by omega) ⟨fun c => absurd c (by decide), fun _ => ?_⟩
  rw [ixn (n := k) (by omega)]
  refine ⟨inn hk (by omega), fun _ => ?_, fun c => absurd c ht⟩
  rintro _ rfl
  rw [t_imgB hk, hb]
  refine t_copies (x := b) (y := 0) (V' := V) (by omega) (by omega) (by omega) (fun j hj => h1 j hj) ?_
  refine t_againL (T := T) hb2 (fun j hj => by rw [kb_out _ _ _ _ (by omega)]; exact h2 j hj) (fun J1 f1 e1 => ?_)
  have e2 : ∀ n : Nat, nI b + 516 + 600 + nI n = nI (b + 1116 + n) := fun n => by rw [show nI b + 516 = nI (b + 516) from nI_add b 516, show nI (b + 516) + 600 = nI (b + 516 + 600) from nI_add (b + 516) 600, nI_add]
  have e20 : nI b + 516 + 600 = nI (b + 1116) := by rw [show nI b + 516 = nI (b + 516) from nI_add b 516]; exact nI_add (b + 516) 600
  have e21 : nI b + 516 + 600 + 1 = nI (b + 1117) := e2 1
  have e22 : nI b + 516 + 600 + 2 = nI (b + 1118) := e2 2
  rw [e21, e22, e20, ixn (n := b + 1116) (by omega), ixn (n := b + 1117) (by omega), ixn (n := b + 1118) (by omega)]
  have k1 : ∀ j, 516 ≤ j → J1 (o + 1) j = J (o + 1) j := fun j hj => by rw [f1 _ (by omega), kb_out _ _ _ _ (by omega)]
  refine ⟨inn (by omega) (by omega), ?_⟩
  rintro _ rfl
  refine ⟨inn (by omega) (by omega), ?_⟩
  rintro _ rfl
  refine ⟨inn (by omega) (by omega), ?_⟩
  rintro _ rfl
  simp only [ui_gn _ _ _ _ (show o + 1 ≠ o by omega)]
  rw [k1 _ (by omega), k1 _ (by omega), k1 _ (by omega), h3, h4, h5]
  refine hS _ ⟨fun j hj => ?_, ⟨?_, fun j hj => ?_⟩, ?_, ?_⟩ (fun j hj => ?_) (fun c c0 c1 c2 => ?_)
  · rw [ui_ne _ _ _ (by omega), ui_ne _ _ _ (by omega), ui_ne _ _ _ (by omega), f1 _ (by omega)]
    have := kb_at J (o + 1) 0 V hj
    rw [Nat.zero_add] at this; exact this
  · rw [ui_gj _ _ _ (by omega), ui_gj _ _ _ (by omega), ui_gs]
  · rw [ui_ne _ _ _ (by omega), ui_ne _ _ _ (by omega), ui_ne _ _ _ (by omega)]; exact e1 j hj
  · rw [ui_gj _ _ _ (by omega), ui_gs]
  · rw [ui_gs]
  · rw [ui_ne _ _ _ (by omega), ui_ne _ _ _ (by omega), ui_ne _ _ _ (by omega), k1 j hj]
  · rw [ui_ne _ _ _ c0, ui_ne _ _ _ c0, ui_ne _ _ _ c0, f1 c c2, kb_ne _ _ c1]
theorem t_againN {o : Nat} {J : MI} {S : Int32 → MI → Prop} (hk : k < 3) (ht : J (o + 3) k = 0) (hS : S 0 J) : w_X10_again o (nI k) J S := by
  unfold w_X10_again
  refine t_isIn1 (lo := 0) (hi := 2) (by omega) (by omega) (by omega) ⟨fun c => absurd c (by decide), fun _ => ?_⟩
  rw [ixn (n := k) (by omega)]
  exact ⟨inn hk (by omega), fun c => absurd ht c, fun _ => hS⟩
theorem t_again0 {o : Nat} {x : Int32} {J : MI} {S : Int32 → MI → Prop} (hx : x < nI 0 ∨ nI 2 < x) (hS : S 0 J) : w_X10_again o x J S := by
  unfold w_X10_again
  exact t_isIn0 hx ⟨fun _ => hS, fun c => absurd rfl c⟩
end
