/-! the law's own invariant: class at a, model at o, in one memory -/
abbrev Img : Type := (Nat → Int32) × (Nat → Nat) × Nat × Int32 × Int32
def WhX (d : Nat) (I : MI) (x : Img) : Prop := WhI d I x.1 x.2.1 x.2.2.1 x.2.2.2.1 x.2.2.2.2
def CuX (o : Nat) (I : MI) (x : Img) : Prop := CuM o I x.1 x.2.1 x.2.2.1 x.2.2.2.1 x.2.2.2.2
def ImX (o b : Nat) (I : MI) (x : Img) : Prop := ImM o b I x.1 x.2.1 x.2.2.1 x.2.2.2.1 x.2.2.2.2
def CImg (a : Nat) (I : MI) (im : Nat → Option Img) : Prop := ∀ k, k < 3 → MShp (a + 181 + 65 * k) I ∧ ((im k = none ∧ I (a + 67) k = 0) ∨ ∃ x, im k = some x ∧ I (a + 67) k = 1 ∧ WhX (a + 179 + 65 * k) I x)
def MImg (o : Nat) (I : MI) (im : Nat → Option Img) : Prop := ∀ k, k < 3 → (im k = none ∧ I (o + 3) k = 0) ∨ ∃ x, im k = some x ∧ I (o + 3) k = 1 ∧ ImX o (1548 + 1119 * k) I x
def ClI (a : Nat) (I : MI) (x : Img) (im : Nat → Option Img) : Prop := WhX (a + 1) I x ∧ TrOK a I ∧ SgOK (a + 69) I ∧ (∃ t, SbT (a + 177) I t) ∧ CImg a I im
def MdI (o : Nat) (I : MI) (x : Img) (im : Nat → Option Img) : Prop := CuX o I x ∧ MImg o I im
def LI (a o : Nat) (I : MI) : Prop := a + 374 ≤ o ∧ ∃ x im, ClI a I x im ∧ MdI o I x im
section
variable {a o : Nat} {I I' : MI} {x : Img} {im : Nat → Option Img}
theorem WhX.fr {d : Nat} (h : WhX d I x) (hI : ∀ c, d ≤ c → c < d + 65 → I' c = I c) : WhX d I' x := WhI.fr h hI
theorem TrOK.fr (h : TrOK a I) (hI : ∀ c, a + 111 ≤ c → c < a + 174 → I' c = I c) : TrOK a I' := TrOK.shp ((MShp.tr h).fr (fun c c1 c2 => hI c c1 (by omega)))
theorem SgOK.fr {p : Nat} (h : SgOK p I) (hI : ∀ c, p ≤ c → c < p + 34 → I' c = I c) : SgOK p I' := fun i hi => by rw [hI _ (by omega) (by omega)]; exact h i hi
theorem SbT.fr {b : Nat} {t : List Nat} (h : SbT b I t) (h1 : I' b = I b) (h2 : I' (b + 1) = I (b + 1)) : SbT b I' t := by
  obtain ⟨g1, g2, g3, g4⟩ := h
  exact ⟨by rw [h1]; exact g1, by rw [h1]; exact g2, g3, fun j c hj => by rw [h2]; exact g4 j c hj⟩
theorem CImg.fr (h : CImg a I im) (hI : ∀ c, (c = a + 67 ∨ (a + 179 ≤ c ∧ c < a + 374)) → I' c = I c) : CImg a I' im := fun k hk => by
  obtain ⟨g1, g2⟩ := h k hk
  refine ⟨g1.fr (fun c c1 c2 => hI c (by omega)), ?_⟩
  rcases g2 with ⟨e1, e2⟩ | ⟨y, e1, e2, e3⟩
  · exact Or.inl ⟨e1, by rw [hI _ (Or.inl rfl)]; exact e2⟩
  · exact Or.inr ⟨y, e1, by rw [hI _ (Or.inl rfl)]; exact e2, e3.fr (fun c c1 c2 => hI c (by omega))⟩
theorem ClI.fr (h : ClI a I x im) (hI : ∀ c, a ≤ c → c < a + 374 → I' c = I c) : ClI a I' x im := by
  obtain ⟨h1, h2, h3, ⟨t, h4⟩, h5⟩ := h
  exact ⟨h1.fr (fun c _ _ => hI c (by omega) (by omega)), h2.fr (fun c _ _ => hI c (by omega) (by omega)), h3.fr (fun c _ _ => hI c (by omega) (by omega)), ⟨t, h4.fr (hI _ (by omega) (by omega)) (hI _ (by omega) (by omega))⟩, h5.fr (fun c hc => hI c (by omega) (by omega))⟩
theorem ImX.fr {b : Nat} (h : ImX o b I x) (hI : ∀ j, b ≤ j → j < b + 1119 → I' (o + 1) j = I (o + 1) j) : ImX o b I' x := by
  obtain ⟨h1, h2, h3, h4, h5⟩ := h
  exact ⟨fun j hj => by rw [hI _ (by omega) (by omega)]; exact h1 j hj, fun j hj => by rw [hI _ (by omega) (by omega)]; exact h2 j hj, by rw [hI _ (by omega) (by omega)]; exact h3, by rw [hI _ (by omega) (by omega)]; exact h4, by rw [hI _ (by omega) (by omega)]; exact h5⟩
theorem MImg.fr (h : MImg o I im) (h1 : ∀ j, 1548 ≤ j → I' (o + 1) j = I (o + 1) j) (h3 : I' (o + 3) = I (o + 3)) : MImg o I' im := fun k hk => by
  rcases h k hk with ⟨e1, e2⟩ | ⟨y, e1, e2, e3⟩
  · exact Or.inl ⟨e1, by rw [h3]; exact e2⟩
  · exact Or.inr ⟨y, e1, by rw [h3]; exact e2, e3.fr (fun j _ _ => h1 j (by omega))⟩
theorem CuX.fr (h : CuX o I x) (h1 : ∀ j, j < 516 → I' (o + 1) j = I (o + 1) j) (h2 : I' (o + 2) = I (o + 2)) (h4 : ∀ j, 3 ≤ j → j ≤ 5 → I' o j = I o j) : CuX o I' x := by
  obtain ⟨g1, ⟨g2, g3⟩, g4, g5⟩ := h
  exact ⟨fun j hj => by rw [h1 j hj]; exact g1 j hj, ⟨by rw [h4 _ (by omega) (by omega)]; exact g2, fun k hk => by rw [h2]; exact g3 k hk⟩, by rw [h4 _ (by omega) (by omega)]; exact g4, by rw [h4 _ (by omega) (by omega)]; exact g5⟩
theorem MdI.fr (h : MdI o I x im) (h1 : ∀ j, (j < 516 ∨ 1548 ≤ j) → I' (o + 1) j = I (o + 1) j) (h2 : I' (o + 2) = I (o + 2)) (h3 : I' (o + 3) = I (o + 3)) (h4 : ∀ j, 3 ≤ j → j ≤ 5 → I' o j = I o j) : MdI o I' x im :=
  ⟨h.1.fr (fun j hj => h1 j (Or.inl hj)) h2 h4, h.2.fr (fun j hj => h1 j (Or.inr hj)) h3⟩
theorem MdI.frc (h : MdI o I x im) (hI : ∀ c, o ≤ c → c ≤ o + 9 → I' c = I c) : MdI o I' x im :=
  h.fr (fun j _ => by rw [hI _ (by omega) (by omega)]) (hI _ (by omega) (by omega)) (hI _ (by omega) (by omega)) (fun j _ _ => by rw [hI _ (by omega) (by omega)])
theorem kb_id {V : Nat → Int32} (h : ∀ j, j < 516 → I (o + 1) j = V j) : kb I (o + 1) 0 V = I := by
  funext c
  by_cases hc : c = o + 1
  · subst hc
    funext j
    by_cases hj : j < 516
    · have := kb_at I (o + 1) 0 V hj
      rw [Nat.zero_add] at this
      rw [this, h j hj]
    · exact kb_out _ _ _ _ (by omega)
  · exact kb_ne _ _ hc
theorem MdI.kb (h : MdI o I x im) : kb I (o + 1) 0 x.1 = I := kb_id h.1.1
theorem LI.of (hs : a + 374 ≤ o) (hC : ClI a I x im) (hM : MdI o I x im) : LI a o I := ⟨hs, x, im, hC, hM⟩
/-- the model's trial block is another's business -/
theorem LI.k516 {V' : Nat → Int32} (hs : a + 374 ≤ o) (hC : ClI a I x im) (hM : MdI o I x im) : LI a o (_root_.Jvm.Pilot.CTwoProcessorsLaw_law_r9363_108251.kb I (o + 1) 516 V') :=
  LI.of hs (hC.fr (fun c _ _ => kb_ne _ _ (by omega))) (hM.fr (fun j hj => kb_out _ _ _ _ (by omega)) (kb_ne _ _ (by omega)) (kb_ne _ _ (by omega)) (fun j _ _ => by rw [kb_ne _ _ (by omega)]))
/-- the trial of the class has changed -/
theorem ClI.tfr (h : ClI a I x im) (hT : TrOK a I') (hF : TFr a I I') : ClI a I' x im := by
  obtain ⟨h1, h2, h3, ⟨t, h4⟩, h5⟩ := h
  exact ⟨h1.fr (fun c _ _ => hF c (by omega)), hT, h3.fr (fun c _ _ => hF c (by omega)), ⟨t, h4.fr (hF _ (by omega)) (hF _ (by omega))⟩, h5.fr (fun c hc => hF c (by omega))⟩
theorem MdI.tfr (hs : a + 374 ≤ o) (h : MdI o I x im) (hF : TFr a I I') : MdI o I' x im := h.frc (fun c _ _ => hF c (by omega))
end
