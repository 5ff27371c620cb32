/-! where jumps go -/
abbrev WW : Type := Nat × Nat
def aN5 (w : WW) (p : Nat) : WW := if w.1 = 0 ∨ p < w.2 then (5, p) else w
/-- the first of what is wrong -/
def FinP (U : Nat → Prop) (w0 w : WW) : Prop := (w = w0 ∧ ∀ p, U p → w0.1 ≠ 0 ∧ w0.2 ≤ p) ∨ (w.1 = 5 ∧ U w.2 ∧ (∀ p, U p → w.2 ≤ p) ∧ (w0.1 ≠ 0 → w.2 < w0.2))
theorem FinP.nil {U : Nat → Prop} {w0 : WW} (h : ∀ p, ¬ U p) : FinP U w0 w0 := Or.inl ⟨rfl, fun p hp => absurd hp (h p)⟩
theorem FinP.cg {U U' : Nat → Prop} {w0 w : WW} (h : FinP U w0 w) (hU : ∀ p, U p ↔ U' p) : FinP U' w0 w := by
  rcases h with ⟨e, h⟩ | ⟨h1, h2, h3, h4⟩
  · exact Or.inl ⟨e, fun p hp => h p ((hU p).mpr hp)⟩
  · exact Or.inr ⟨h1, (hU _).mp h2, fun p hp => h3 p ((hU p).mpr hp), h4⟩
theorem FinP.add {U : Nat → Prop} {w0 w : WW} {q : Nat} (h : FinP U w0 w) : FinP (fun p => U p ∨ p = q) w0 (aN5 w q) := by
  unfold aN5
  rcases h with ⟨e, h⟩ | ⟨h1, h2, h3, h4⟩
  · subst e
    by_cases c : w.1 = 0 ∨ q < w.2
    · rw [if_pos c]
      refine Or.inr ⟨rfl, Or.inr rfl, fun p hp => ?_, fun hz => ?_⟩
      · rcases hp with hp | hp
        · have := h p hp
          rcases c with c | c
          · exact absurd c this.1
          · exact Nat.le_of_lt (Nat.lt_of_lt_of_le c this.2)
        · exact Nat.le_of_eq hp.symm
      · exact c.resolve_left hz
    · rw [if_neg c]
      refine Or.inl ⟨rfl, fun p hp => ?_⟩
      rcases hp with hp | hp
      · exact h p hp
      · subst hp; exact ⟨fun z => c (Or.inl z), Nat.not_lt.mp fun z => c (Or.inr z)⟩
  · by_cases c : w.1 = 0 ∨ q < w.2
    · rw [if_pos c]
      have c : q < w.2 := c.resolve_left (by omega)
      refine Or.inr ⟨rfl, Or.inr rfl, fun p hp => ?_, fun hz => ?_⟩
      · rcases hp with hp | hp
        · have := h3 p hp; show q ≤ p; omega
        · exact Nat.le_of_eq hp.symm
      · have := h4 hz; show q < w0.2; omega
    · rw [if_neg c]
      refine Or.inr ⟨h1, Or.inl h2, fun p hp => ?_, h4⟩
      rcases hp with hp | hp
      · exact h3 p hp
      · subst hp; exact Nat.not_lt.mp fun z => c (Or.inr z)
theorem FinP.uq {U : Nat → Prop} {w0 w w' : WW} (h : FinP U w0 w) (h' : FinP U w0 w') : w = w' := by
  rcases h with ⟨e, h⟩ | ⟨h1, h2, h3, h4⟩
  · rcases h' with ⟨e', _⟩ | ⟨a1, a2, a3, a4⟩
    · rw [e, e']
    · have b := h _ a2
      have := a4 b.1
      omega
  · rcases h' with ⟨e', h'⟩ | ⟨a1, a2, a3, a4⟩
    · have b := h' _ h2
      have := h4 b.1
      omega
    · have b1 := h3 _ a2
      have b2 := a3 _ h2
      exact Prod.ext (by rw [h1, a1]) (by omega)
theorem FinP.more {U U' : Nat → Prop} {w0 w : WW} (h : FinP U w0 w) (h1 : ∀ p, U p → U' p) (h2 : ∀ p, U' p → U p ∨ (w0.1 ≠ 0 ∧ w0.2 ≤ p)) : FinP U' w0 w := by
  rcases h with ⟨e, h⟩ | ⟨a1, a2, a3, a4⟩
  · exact Or.inl ⟨e, fun p hp => (h2 p hp).elim (h p) id⟩
  · refine Or.inr ⟨a1, h1 _ a2, fun p hp => ?_, a4⟩
    rcases h2 p hp with q | q
    · exact a3 p q
    · have := a4 q.1; omega
theorem FinP.five {U : Nat → Prop} {w0 w : WW} (h : FinP U w0 w) (h5 : w0.1 ≤ 5 ∧ w0.1 ≠ 1) : w.1 ≤ 5 ∧ w.1 ≠ 1 := by
  rcases h with ⟨e, _⟩ | ⟨a1, _⟩
  · rw [e]; exact h5
  · rw [a1]; omega
section
variable {r n L R tp : Nat} {T : Nat → Nat} {I : MI} {B : MR} {nm am : Nat → Nat}
/-- the class's fault -/
def CF (r : Nat) (I : MI) (w : WW) : Prop := I r 1 = nI w.1 ∧ (w.1 ≠ 0 → I r 2 = nI w.2) ∧ (w.1 = 0 → I r 2 = -1) ∧ w.1 ≤ 5 ∧ w.1 ≠ 1 ∧ w.2 ≤ 600
/-- names that no row has, among the rows below i -/
def UC (T : Nat → Nat) (L R : Nat) (nm am : Nat → Nat) (i p : Nat) : Prop := ∃ j, j < i ∧ am j ≠ 0 ∧ NoRow T L R nm (twk T L (am j - 1)) ∧ p = pos T L (am j - 1)
theorem k_note5 {w : WW} {j : Nat} {P : MI → Prop} (h : CF r I w) (hT : Toks (r + 35) I T L n) (hL : L ≤ 600) (hj : j ≤ n) (hP : ∀ I', CF r I' (aN5 w (pos T L j)) → (∀ c, c ≠ r → I' c = I c) → (∀ k, k ≠ 1 → k ≠ 2 → I' r k = I r k) → P I') : w_X4_note r 5 (nI j) I P := by
  obtain ⟨h1, h2, h3, h4, h5, h6⟩ := h
  have hn := hT.2.1
  have ek : I (r + 38) j = nI (pos T L j) := (hT.1 j (by omega)).2.1
  have pl := pos_le (T := T) (L := L) j
  have set : (w.1 = 0 ∨ pos T L j < w.2) → ∀ I2, I2 = ui I r 1 5 → (vp_in (nI j) 601 ∧ (∀ I6, I6 = ui I2 r 2 (I2 (r + 38) (ix (nI j))) → P I6)) := fun c I2 e => by
    subst e
    refine ⟨inn (by omega) (by omega), ?_⟩
    rintro _ rfl
    rw [ui_ne _ _ _ (show r + 38 ≠ r by omega), ixn (by omega), ek]
    have ea : aN5 w (pos T L j) = (5, pos T L j) := by unfold aN5; exact if_pos c
    refine hP _ ?_ (fun c hc => by rw [ui_ne _ _ _ hc, ui_ne _ _ _ hc]) (fun k a b => by rw [ui_gj _ _ _ b, ui_gj _ _ _ a])
    rw [ea]
    exact ⟨by rw [ui_gj _ _ _ (by omega), ui_gs]; rfl, fun _ => ui_gs _ _ _ _, fun q => absurd q (by show (5 : Nat) ≠ 0; omega), by show (5 : Nat) ≤ 5; omega, by show (5 : Nat) ≠ 1; omega, by show pos T L j ≤ 600; omega⟩
  unfold w_X4_note
  rw [h1]
  refine ⟨fun c => set (Or.inl ((nI_z (by omega)).mp c)), fun c => ?_⟩
  have nz : w.1 ≠ 0 := fun q => c (by rw [q]; rfl)
  rw [h2 nz, ixn (by omega), ek]
  refine ⟨inn (by omega) (by omega), fun c2 => ?_, fun c2 => ?_⟩
  · have := (nI_leI (by omega) (by omega)).mp c2
    have ea : aN5 w (pos T L j) = w := by unfold aN5; exact if_neg (by omega)
    exact hP I (by rw [ea]; exact ⟨h1, h2, h3, h4, h5, h6⟩) (fun _ _ => rfl) (fun _ _ _ => rfl)
  · have lt : pos T L j < w.2 := Nat.not_le.mp fun q => c2 (nI_le q (by omega))
    intro I11 e11
    have := set (Or.inr lt) I11 e11
    rw [ixn (by omega)] at this
    rw [e11] at this ⊢
    exact this
theorem k_findAims {w0 : WW} {P : MI → Prop} (hT : Toks (r + 35) I T L n) (hB : TpB (r + 35) tp T I B) (hL : L ≤ 600) (e5 : I r 5 = nI R) (hR : R ≤ 150) (hN : NmC (r + 41) I T L n nm) (hA : NmC (r + 42) I T L n am) (hF : CF r I w0)
    (hP : ∀ I' w, CF r I' w → FinP (UC T L R nm am R) w0 w → (∀ c, c ≠ r → (c < r + 10 ∨ r + 34 < c) → I' c = I c) → (∀ k, k ≠ 1 → k ≠ 2 → I' r k = I r k) → (∀ i j, i < 25 → j ≠ 4 → I' (r + 10 + i) j = I (r + 10 + i) j) → (∀ i, i < 24 → (am i = 0 ∨ R ≤ i) → I' (r + 10 + i) 4 = I (r + 10 + i) 4) → (∀ i i', i < R → i < 24 → am i ≠ 0 → FRow T L R nm (twk T L (am i - 1)) i' → I' (r + 10 + i) 4 = nI i') → P I') : w_X4_findAims r I B P := by
  have hn := hT.2.1
  unfold w_X4_findAims
  refine Lp2.of (fun x I' => ∃ i w, i ≤ R ∧ x = nI i ∧ CF r I' w ∧ FinP (UC T L R nm am i) w0 w ∧ (∀ c, c ≠ r → (c < r + 10 ∨ r + 34 < c) → I' c = I c) ∧ (∀ k, k ≠ 1 → k ≠ 2 → I' r k = I r k) ∧ (∀ i j, i < 25 → j ≠ 4 → I' (r + 10 + i) j = I (r + 10 + i) j) ∧ (∀ j, j < 24 → (am j = 0 ∨ R ≤ j) → I' (r + 10 + j) 4 = I (r + 10 + j) 4) ∧ (∀ j i', j < i → j < 24 → am j ≠ 0 → FRow T L R nm (twk T L (am j - 1)) i' → I' (r + 10 + j) 4 = nI i')) (fun x _ => 200 - ix x) ?_ _ _ ⟨0, w0, by omega, rfl, hF, FinP.nil (fun p ⟨j, hj, _⟩ => by omega), fun _ _ _ => rfl, fun _ _ _ => rfl, fun _ _ _ _ => rfl, fun _ _ _ => rfl, fun j i' hj => by omega⟩
  rintro rec x I' ⟨i, w, hi, rfl, hC, hFin, f1, f2, f3, f4, f5⟩ hrec
  unfold w_X4_findAims_l2
  rw [f2 5 (by omega) (by omega), e5]
  refine ⟨fun c => ?_, fun c => ?_⟩
  · have := (nI_leI (by omega) (by omega)).mp c
    have e : i = R := by omega
    subst e
    exact hP I' w hC hFin f1 f2 f3 f4 f5
  · have lt : i < R := Nat.not_le.mp fun q => c (nI_le q (by omega))
    have dec : 200 - ix (nI i + 1) < 200 - ix (nI i) := by rw [nI_1, ixn (by omega), ixn (by omega)]; omega
    have T' : Toks (r + 35) I' T L n := hT.fr (fun c h1 h2 => f1 c (by omega) (by omega))
    have B' : TpB (r + 35) tp T I' B := hB.fr (f1 tp (by have := hB.2.1; omega) (by have := hB.2.1; omega))
    have N' : NmC (r + 41) I' T L n nm := fun k => by rw [f1 _ (by omega) (by omega)]; exact hN k
    obtain ⟨a1, a2⟩ := hA i
    have a1 := a1 (by omega)
    rw [ixn (n := i) (by omega), f1 (r + 42) (by omega) (by omega), a1]
    refine ⟨fun c => absurd ((nI_leI (a := 150) (by omega) (by omega)).mp c) (by omega), fun _ => ⟨inn (by omega) (by omega), fun e => ?_, fun e => ?_⟩⟩
    · have z : am i = 0 := by
        by_cases z : am i = 0
        · exact z
        · rw [if_neg z] at e
          have y : (-1 : Int32) < 0 := by decide
          rw [← e] at y
          have := (a2 z).1
          exact absurd y (nI_pos (by omega))
      refine hrec _ _ ⟨i + 1, w, by omega, nI_1 i, hC, hFin.cg (fun p => ⟨fun ⟨j, h1, h2⟩ => ⟨j, by omega, h2⟩, fun ⟨j, h1, h2, h3⟩ => ⟨j, ?_, h2, h3⟩⟩), f1, f2, f3, f4, fun j i' h1 h2 h3 => ?_⟩ dec
      · by_cases ej : j = i
        · subst ej; exact absurd z h2
        · omega
      · by_cases ej : j = i
        · subst ej; exact absurd z h3
        · exact f5 j i' (by omega) h2 h3
    · have nz : am i ≠ 0 := fun z => e (by rw [if_pos z])
      obtain ⟨b1, b2⟩ := a2 nz
      rw [if_neg nz]
      refine ⟨inn (by omega) (by omega), k_rowNamed T' B' hL (by rw [f2 5 (by omega) (by omega)]; exact e5) hR N' b1 b2 (fun i' fr => ⟨fun _ => ?_, fun c => ?_⟩) (fun nr => ⟨fun c => absurd rfl c, fun _ => ?_⟩)⟩
      · have mn : (if (24 : Int32) < nI i then (24 : Int32) else nI i) = nI (cap i) := by
          unfold cap
          by_cases q : i < 24
          · rw [if_pos q, if_neg (show ¬ (24 : Int32) < nI i from fun c => absurd ((nI_ltI (a := 24) (b := i) (by omega) (by omega)).mp c) (by omega))]
          · rw [if_neg q]
            by_cases q2 : i = 24
            · subst q2; rfl
            · rw [if_pos (show (24 : Int32) < nI i from nI_lt (a := 24) (b := i) (by omega) (by omega))]; rfl
        have cl := cap_le i
        rw [mn, ixn (by omega)]
        refine ⟨inn (by omega) (by omega), ?_⟩
        rintro _ rfl
        refine hrec _ _ ⟨i + 1, w, by omega, nI_1 i, ?_, hFin.cg (fun p => ⟨fun ⟨j, h1, h2⟩ => ⟨j, by omega, h2⟩, fun ⟨j, h1, h2, h3, h4⟩ => ⟨j, ?_, h2, h3, h4⟩⟩), fun c h1 h2 => ?_, fun k h1 h2 => ?_, fun k j h1 h2 => ?_, fun j h1 h2 => ?_, fun j i2 h1 h2 h3 h4 => ?_⟩ dec
        · unfold CF at hC ⊢
          rw [ui_ne _ _ _ (show r ≠ r + 10 + cap i by omega)]; exact hC
        · by_cases ej : j = i
          · subst ej; exact absurd fr.2.2.1 (h3 i' fr.1 fr.2.1)
          · omega
        · rw [ui_ne _ _ _ (by omega)]; exact f1 c h1 h2
        · rw [ui_ne _ _ _ (by omega)]; exact f2 k h1 h2
        · by_cases ek : k = cap i
          · subst ek; rw [ui_gj _ _ _ h2]; exact f3 _ j h1 h2
          · rw [ui_ne _ _ _ (by omega)]; exact f3 k j h1 h2
        · have : j ≠ cap i := fun q => by
            have : i = j := by unfold cap at q; split at q <;> omega
            subst this
            exact h2.elim nz (fun q => by omega)
          rw [ui_ne _ _ _ (by omega)]; exact f4 j h1 h2
        · by_cases ej : j = i
          · subst ej
            have : cap j = j := by unfold cap; exact if_pos h2
            rw [this, ui_gs, h4.uq fr]
          · have : j ≠ cap i := fun q => by unfold cap at q; split at q <;> omega
            rw [ui_ne _ _ _ (by omega)]; exact f5 j i2 (by omega) h2 h3 h4
      · have y : (-1 : Int32) < 0 := by decide
        rw [← c] at y
        have := fr.1
        exact absurd y (nI_pos (by omega))
      · refine ⟨inn (by omega) (by omega), k_note5 hC T' hL b1 (fun I2 c2 g1 g2 => ?_)⟩
        refine hrec _ _ ⟨i + 1, _, by omega, nI_1 i, c2, hFin.add.cg (fun p => ⟨fun h => ?_, fun ⟨j, h1, h2, h3, h4⟩ => ?_⟩), fun c h1 h2 => by rw [g1 c h1]; exact f1 c h1 h2, fun k h1 h2 => by rw [g2 k h1 h2]; exact f2 k h1 h2, fun k j h1 h2 => by rw [g1 _ (by omega)]; exact f3 k j h1 h2, fun j h1 h2 => by rw [g1 _ (by omega)]; exact f4 j h1 h2, fun j i2 h1 h2 h3 h4 => ?_⟩ dec
        · rcases h with ⟨j, h1, h2⟩ | h
          · exact ⟨j, by omega, h2⟩
          · exact ⟨i, by omega, nz, nr, h⟩
        · by_cases ej : j = i
          · subst ej; exact Or.inr h4
          · exact Or.inl ⟨j, by omega, h2, h3, h4⟩
        · by_cases ej : j = i
          · subst ej; exact absurd h4.2.2.1 (nr i2 h4.1 h4.2.1)
          · rw [g1 _ (by omega)]; exact f5 j i2 (by omega) h2 h3 h4
end
section
variable {o n L R M W : Nat} {T : Nat → Nat} {I : MI} {J : MJ} {nm am : Nat → Nat} {V : Nat → Int32}
def MF (o : Nat) (I : MI) (w : WW) : Prop := I o 15 = nI w.1 ∧ (w.1 ≠ 0 → I o 14 = nI w.2) ∧ w.1 ≤ 5 ∧ w.2 ≤ 600
theorem t_wrong5 {w : WW} {p : Nat} {S : MI → Prop} (h : MF o I w) (hp : p ≤ 600) (hS : ∀ I', MF o I' (aN5 w p) → (∀ c, c ≠ o → I' c = I c) → (∀ k, k ≠ 14 → k ≠ 15 → I' o k = I o k) → S I') : w_X10_alsoWrong o 5 (nI p) I S := by
  obtain ⟨h1, h2, h3, h4⟩ := h
  have set : (w.1 = 0 ∨ p < w.2) → ∀ I2, I2 = ui I o 15 5 → ∀ I3, I3 = ui I2 o 14 (nI p) → S I3 := fun c I2 e I3 e3 => by
    subst e e3
    have ea : aN5 w p = (5, p) := by unfold aN5; exact if_pos c
    refine hS _ ?_ (fun c hc => by rw [ui_ne _ _ _ hc, ui_ne _ _ _ hc]) (fun k a b => by rw [ui_gj _ _ _ a, ui_gj _ _ _ b])
    rw [ea]
    exact ⟨by rw [ui_gj _ _ _ (by omega), ui_gs]; rfl, fun _ => ui_gs _ _ _ _, by show (5 : Nat) ≤ 5; omega, hp⟩
  unfold w_X10_alsoWrong
  rw [h1]
  refine ⟨fun c => set (Or.inl ?_), fun c => ?_⟩
  · have := (nI_leI (b := 0) (by omega) (by omega)).mp c; omega
  · have nz : w.1 ≠ 0 := fun q => c (by rw [q]; decide)
    rw [h2 nz]
    have keep : ¬ p < w.2 → S I := fun hk => by
      have ea : aN5 w p = w := by unfold aN5; exact if_neg (by omega)
      exact hS I (by rw [ea]; exact ⟨h1, h2, h3, h4⟩) (fun _ _ => rfl) (fun _ _ _ => rfl)
    refine ⟨fun c2 => keep ?_, fun c2 => ⟨fun c3 => set (Or.inr ?_), fun c3 => ⟨fun c4 => ?_, fun _ => keep ?_⟩⟩⟩
    · have := (nI_ltI (by omega) (by omega)).mp c2; omega
    · have a1 : ¬ w.2 < p := fun q => c2 (nI_lt q (by omega))
      have a2 : p ≠ w.2 := fun q => c3 (by rw [q])
      omega
    · have := (nI_ltI (a := 5) (by omega) (by omega)).mp c4; omega
    · have := nI_inj (by omega) (by omega) c3; omega
/-- names that no row has, among the model's jumps below x -/
def UM (o : Nat) (I : MI) (J : MJ) (T : Nat → Nat) (L R : Nat) (nm am : Nat → Nat) (x p : Nat) : Prop := ∃ y, y < x ∧ ∃ i, i < R ∧ am i ≠ 0 ∧ J (o + 6) y = lN (twk T L (am i - 1)) ∧ I (o + 9) y = nI (pos T L (am i - 1)) ∧ NoRow T L R nm (twk T L (am i - 1)) ∧ p = pos T L (am i - 1)
theorem t_finds {w0 : WW} {S : MI → Prop} (hL : L ≤ 600) (hn1 : NmM o I J T L M R nm) (hM : M ≤ 90) (ha : AmM o I J T L W R am) (hb : BkR o I V) (hF : MF o I w0) (tn : ∀ i, i < R → nm i ≠ 0 → twk T L (nm i - 1) < 2 ^ 63) (ta : ∀ i, am i ≠ 0 → twk T L (am i - 1) < 2 ^ 63)
    (hS : ∀ I' w V', I' o 4 = nI w.1 → (w.1 ≠ 0 → I' o 5 = nI w.2) → (w.1 = 0 → I' o 5 = -1) → FinP (UM o I J T L R nm am W) w0 w → BkR o I' V' → (∀ k, (∀ i, i < 24 → k ≠ 54 + 5 * i) → V' k = V k) → (∀ i, i < 24 → (am i = 0 ∨ R ≤ i) → V' (54 + 5 * i) = V (54 + 5 * i)) → (∀ i i', i < R → i < 24 → am i ≠ 0 → FRow T L R nm (twk T L (am i - 1)) i' → V' (54 + 5 * i) = nI (cap i')) → MdF o I I' → S I') : w_X10_finds o I J S := by
  obtain ⟨e24, hW, hWR, a1, a2⟩ := ha
  unfold w_X10_finds
  refine Lp2.of (fun x I' => ∃ y w V', y ≤ W ∧ x = nI y ∧ MF o I' w ∧ FinP (UM o I J T L R nm am y) w0 w ∧ BkR o I' V' ∧ (∀ k, (∀ i, i < 24 → k ≠ 54 + 5 * i) → V' k = V k) ∧ (∀ i, i < 24 → (am i = 0 ∨ R ≤ i) → V' (54 + 5 * i) = V (54 + 5 * i)) ∧
      (∀ z i i', z < y → i < R → i < 24 → am i ≠ 0 → J (o + 6) z = lN (twk T L (am i - 1)) → I (o + 8) z = nI i → FRow T L R nm (twk T L (am i - 1)) i' → V' (54 + 5 * i) = nI (cap i')) ∧ (∀ c, c ≠ o → c ≠ o + 1 → I' c = I c) ∧ (∀ j, (j < 1032 ∨ 1548 ≤ j) → I' (o + 1) j = I (o + 1) j) ∧ (∀ k, k ≠ 14 → k ≠ 15 → I' o k = I o k)) (fun x _ => 30 - ix x) ?_ _ _ ⟨0, w0, V, by omega, rfl, hF, FinP.nil (fun p ⟨y, hy, _⟩ => by omega), hb, fun _ _ => rfl, fun _ _ _ => rfl, fun z i i' hz => by omega, fun _ _ _ => rfl, fun _ _ => rfl, fun _ _ _ => rfl⟩
  rintro rec x I' ⟨y, w, V', hy, rfl, hC, hFin, hB, v1, v2, v3, f1, f2, f3⟩ hrec
  unfold w_X10_finds_l2
  rw [f3 24 (by omega) (by omega), e24]
  refine ⟨fun c => ?_, fun c => ?_⟩
  · have := (nI_leI (by omega) (by omega)).mp c
    have e : y = W := by omega
    subst e
    obtain ⟨m1, m2, m3, m4⟩ := hC
    have fin : ∀ I2 : MI, (∀ c, c ≠ o → I2 c = I' c) → (∀ k, k ≠ 4 → k ≠ 5 → I2 o k = I' o k) → I2 o 4 = nI w.1 → (w.1 ≠ 0 → I2 o 5 = nI w.2) → (w.1 = 0 → I2 o 5 = -1) → S I2 := fun I2 g1 g2 g3 g4 g5 => by
      refine hS I2 w V' g3 g4 g5 hFin (fun j hj => by rw [g1 _ (by omega)]; exact hB j hj) v1 v2 (fun i i' h1 h2 h3 h4 => ?_) ⟨fun c a b _ _ _ => by rw [g1 c a]; exact f1 c a b, fun j hj => by rw [g1 _ (by omega)]; exact f2 j hj, by rw [g2 3 (by omega) (by omega)]; exact f3 3 (by omega) (by omega)⟩
      obtain ⟨z, b1, b2, b3, -⟩ := a2 i h1 h2 h3
      exact v3 z i i' b1 h1 h2 h3 b2 b3 h4
    rintro _ rfl
    rw [ui_gj _ _ _ (show (15 : Nat) ≠ 4 by omega), m1]
    refine ⟨fun c => ?_, fun c => ?_⟩
    · have z : w.1 = 0 := by have := (nI_leI (b := 0) (by omega) (by omega)).mp c; omega
      rintro _ rfl
      exact fin _ (fun c hc => by rw [ui_ne _ _ _ hc, ui_ne _ _ _ hc]) (fun k a b => by rw [ui_gj _ _ _ b, ui_gj _ _ _ a]) (by rw [ui_gj _ _ _ (by omega), ui_gs]) (fun q => absurd z q) (fun _ => ui_gs _ _ _ _)
    · have z : w.1 ≠ 0 := fun q => c (by rw [q]; decide)
      rintro _ rfl
      rw [ui_gj _ _ _ (show (14 : Nat) ≠ 4 by omega), m2 z]
      exact fin _ (fun c hc => by rw [ui_ne _ _ _ hc, ui_ne _ _ _ hc]) (fun k a b => by rw [ui_gj _ _ _ b, ui_gj _ _ _ a]) (by rw [ui_gj _ _ _ (by omega), ui_gs]) (fun _ => ui_gs _ _ _ _) (fun q => absurd q z)
  · have lt : y < W := Nat.not_le.mp fun q => c (nI_le q (by omega))
    have dec : 30 - ix (nI y + 1) < 30 - ix (nI y) := by rw [nI_1, ixn (by omega), ixn (by omega)]; omega
    obtain ⟨i0, r1, r2, r3, r4, r5⟩ := a1 y lt
    have cl := cap_le i0
    have N' : NmM o I' J T L M R nm := hn1.fr (f3 23 (by omega) (by omega)) (f1 _ (by omega) (by omega)) (fun _ => rfl)
    have pl := pos_le (T := T) (L := L) (am i0 - 1)
    -- which row it is
    have same : ∀ i, am i ≠ 0 → J (o + 6) y = lN (twk T L (am i - 1)) → twk T L (am i - 1) = twk T L (am i0 - 1) := fun i h1 h2 => (pk_lEQ (ta i h1) (ta i0 r2)).mp (h2.symm.trans r3)
    rw [ixn (n := y) (by omega), r3, f1 (o + 8) (by omega) (by omega), f1 (o + 7) (by omega) (by omega), f1 (o + 9) (by omega) (by omega), r4, r5]
    refine ⟨inn (by omega) (by omega), t_nameBy N' hM (ta i0 r2) tn (fun m i' hm fr e7 => ⟨fun _ => ?_, fun q => absurd (nI_pos' (by omega)) q⟩) (fun nr => ⟨fun q => absurd q (by decide), fun _ => ?_⟩)⟩
    · have e7' : I (o + 7) m = nI (cap i') := by rw [← f1 (o + 7) (by omega) (by omega)]; exact e7
      have hU : ∀ p, UM o I J T L R nm am y p ↔ UM o I J T L R nm am (y + 1) p := fun p => by
        refine ⟨fun ⟨z, h1, h2⟩ => ⟨z, by omega, h2⟩, fun ⟨z, h1, i, h2, h3, h4, h5, h6, h7⟩ => ⟨z, ?_, i, h2, h3, h4, h5, h6, h7⟩⟩
        by_cases ez : z = y
        · subst ez
          rw [same i h3 h4] at h6
          exact absurd fr.2.2.1 (h6 i' fr.1 fr.2.1)
        · omega
      refine ⟨inn (by omega) (by omega), fun c24 => ?_, fun c24 => ?_⟩
      · have := (nI_leI (a := 24) (by omega) (by omega)).mp c24
        refine hrec _ _ ⟨y + 1, w, V', by omega, nI_1 y, hC, hFin.cg hU, hB, v1, v2, fun z i i2 h1 h2 h3 h4 h5 h6 h7 => ?_, f1, f2, f3⟩ dec
        by_cases ez : z = y
        · subst ez
          rw [r4] at h6
          have := nI_inj (by omega) (by omega) h6
          omega
        · exact v3 z i i2 (by omega) h2 h3 h4 h5 h6 h7
      · have lt24 : cap i0 < 24 := Nat.not_le.mp fun q => c24 (nI_le (a := 24) q (by omega))
        have ci : cap i0 = i0 := by unfold cap at lt24 ⊢; split at lt24; rw [if_pos (by assumption)]; omega
        rw [ci] at lt24 r4 ⊢
        have ex : (1082 : Int32) + 5 * nI i0 + 4 = nI (1032 + (54 + 5 * i0)) := by
          rw [show (5 : Int32) * nI i0 = nI (5 * i0) from pk_mul 5 _, show (1082 : Int32) + nI (5 * i0) = nI (1082 + 5 * i0) from nI_add 1082 _]
          exact (nI_add (1082 + 5 * i0) 4).trans (congrArg nI (by omega))
        rw [ex, ixn (n := m) (by omega), e7']
        refine ⟨inn (by omega) (by omega), inn (by omega) (by omega), in_k (by omega), ?_⟩
        rintro _ rfl
        have f : MsF o I' (ui I' (o + 1) (ix (nI (1032 + (54 + 5 * i0)))) (nI (cap i'))) := MsF.wr (by omega)
        refine hrec _ _ ⟨y + 1, w, upd V' (54 + 5 * i0) (nI (cap i')), by omega, nI_1 y, ?_, hFin.cg hU, hB.wr (by omega), fun k hk => ?_, fun i h1 h2 => ?_, fun z i i2 h1 h2 h3 h4 h5 h6 h7 => ?_, fun c a b => by rw [f.1 c a b]; exact f1 c a b, fun j hj => by rw [f.2.1 j hj]; exact f2 j hj, fun k a b => ?_⟩ dec
        · unfold MF at hC ⊢
          rw [ui_ne _ _ _ (show o ≠ o + 1 by omega)]; exact hC
        · rw [upd_n _ _ (hk i0 lt24)]; exact v1 k hk
        · have : i ≠ i0 := fun q => by subst q; exact h2.elim r2 (fun q => by omega)
          rw [upd_n _ _ (by omega)]; exact v2 i h1 h2
        · by_cases ei : i = i0
          · subst ei
            rw [upd_s, h7.uq fr]
          · rw [upd_n _ _ (by omega)]
            by_cases ez : z = y
            · subst ez
              rw [r4] at h6
              have := nI_inj (by omega) (by omega) h6
              omega
            · exact v3 z i i2 (by omega) h2 h3 h4 h5 h6 h7
        · rw [ui_ne _ _ _ (by omega)]; exact f3 k a b
    · refine ⟨inn (by omega) (by omega), t_wrong5 hC (by omega) (fun I2 c2 g1 g2 => ?_)⟩
      refine hrec _ _ ⟨y + 1, _, V', by omega, nI_1 y, c2, hFin.add.cg (fun p => ⟨fun h => ?_, fun ⟨z, h1, i, h2, h3, h4, h5, h6, h7⟩ => ?_⟩), fun j hj => by rw [g1 _ (by omega)]; exact hB j hj, v1, v2, fun z i i2 h1 h2 h3 h4 h5 h6 h7 => ?_, fun c a b => by rw [g1 c a]; exact f1 c a b, fun j hj => by rw [g1 _ (by omega)]; exact f2 j hj, fun k a b => by rw [g2 k a b]; exact f3 k a b⟩ dec
      · rcases h with ⟨z, h1, h2⟩ | h
        · exact ⟨z, by omega, h2⟩
        · exact ⟨y, by omega, i0, r1, r2, r3, r5, nr, h⟩
      · by_cases ez : z = y
        · subst ez
          right
          rw [r5] at h5
          have p2 := pos_le (T := T) (L := L) (am i - 1)
          rw [h7]
          exact (nI_inj (by omega) (by omega) h5).symm
        · exact Or.inl ⟨z, by omega, i, h2, h3, h4, h5, h6, h7⟩
      · by_cases ez : z = y
        · subst ez
          rw [same i h4 h5] at h7
          exact absurd h7.2.2.1 (nr i2 h7.1 h7.2.1)
        · exact v3 z i i2 (by omega) h2 h3 h4 h5 h6 h7
end
