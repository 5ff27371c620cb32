/-! copies -/
section
variable {a b n : Nat} {I : MI} {V : Nat → Int32}
theorem chr_sign {x : Int32} (h : x = 60 ∨ x = 61 ∨ x = 62) : chr x := by rcases h with rfl | rfl | rfl <;> exact ⟨rfl, rfl⟩
theorem uc_g {s d n c j : Nat} : uc I s d n c j = if c = d ∧ j < n then I s j else I c j := by
  by_cases e : c = d
  · subst e
    rw [uc_at]
    by_cases q : j < n
    · rw [if_pos ⟨rfl, q⟩, pk_cpy_in (by omega) (by omega)]; exact congrArg _ (by omega)
    · rw [if_neg (fun c => q c.2), pk_cpy_out (by omega)]
  · rw [uc_ne _ _ e, if_neg (fun c => e c.1)]
/-- a row is copied -/
theorem k_copyRow {P : MI → Prop} (hab : a ≠ b) (hc : chr (I b 5)) (hP : ∀ I', (∀ c, c ≠ a → I' c = I c) → (∀ j, j < 6 → I' a j = I b j) → P I') : w_X0_copyFrom a b I P := by
  unfold w_X0_copyFrom
  rintro _ rfl
  rintro _ rfl
  rintro _ rfl
  rintro _ rfl
  rintro _ rfl
  have hb : ∀ (I : MI) (k : Nat) (v : Int32), ui I a k v b = I b := fun I k v => ui_ne _ _ _ (fun c => hab c.symm)
  simp only [hb]
  refine ⟨hc, ?_⟩
  rintro _ rfl
  refine hP _ (fun c h => ?_) (fun j hj => ?_)
  · rw [ui_ne _ _ _ h, ui_ne _ _ _ h, ui_ne _ _ _ h, ui_ne _ _ _ h, ui_ne _ _ _ h, ui_ne _ _ _ h]
  · rcases (show j = 0 ∨ j = 1 ∨ j = 2 ∨ j = 3 ∨ j = 4 ∨ j = 5 by omega) with rfl | rfl | rfl | rfl | rfl | rfl <;> simp [ui_g]
def CpC (a b n : Nat) (I I' : MI) : Prop := (∀ j, 1 ≤ j → j ≤ 4 → I' a j = I b j) ∧ (∀ j, j < 6 → I' (a + 2) j = I (b + 2) j) ∧ (∀ j, j < 32 → I' (a + 3) j = I (b + 3) j) ∧ (∀ j, j < 8 → I' (a + 4) j = I (b + 4) j) ∧ (∀ j, j < 100 → I' (a + 5) j = I (b + 5) j) ∧ (∀ j, j < 50 → I' (a + 6) j = I (b + 6) j) ∧ (∀ j, j < 50 → I' (a + 7) j = I (b + 7) j) ∧ (∀ i j, i ≤ n → j < 6 → I' (a + 9 + i) j = I (b + 9 + i) j) ∧ ∀ i, n < i → i < 25 → I' (a + 9 + i) = I (a + 9 + i)
def CpP (a b n : Nat) (I I' : MI) : Prop := (∀ c, (c < a ∨ a + 33 < c) → I' c = I c) ∧ CpC a b n I I'
theorem k_copyProg {P : MI → Prop} (hab : a + 33 < b ∨ b + 33 < a) (hn : n < 25) (e1 : I b 1 = nI n) (hs' : ∀ i, i < 25 → chr (I (b + 9 + i) 5)) (hP : ∀ I', CpP a b n I I' → P I') : w_X2_copyFrom a b I P := by
  unfold w_X2_copyFrom
  refine Lp2.of (fun x I' => ∃ k, k ≤ n + 1 ∧ x = nI k ∧ (∀ c, (c < a + 9 ∨ a + 9 + k ≤ c) → I' c = I c) ∧ ∀ i j, i < k → j < 6 → I' (a + 9 + i) j = I (b + 9 + i) j) (fun x _ => 100 - ix x) ?_ _ _ ⟨0, by omega, rfl, fun _ _ => rfl, fun i _ hi => by omega⟩
  rintro rec x I1 ⟨k, hk, rfl, b1, b2⟩ hrec
  have eb : ∀ c, b ≤ c → c ≤ b + 33 → I1 c = I c := fun c h1 h2 => b1 c (by omega)
  unfold w_X2_copyFrom_l2
  rw [eb b (by omega) (by omega), e1]
  refine ⟨fun c => ?_, fun c => ?_⟩
  · have := (nI_ltI (by omega) (by omega)).mp c
    have e : k = n + 1 := by omega
    subst e
    have hb : ∀ (I : MI) (k : Nat) (v : Int32), ui I a k v b = I b := fun I k v => ui_ne _ _ _ (by omega)
    rintro _ rfl
    rintro _ rfl
    rintro _ rfl
    rintro _ rfl
    simp only [hb]
    rw [eb b (by omega) (by omega)]
    generalize hI2 : ui (ui (ui (ui I1 a 1 (I b 1)) a 2 (I b 2)) a 3 (I b 3)) a 4 (I b 4) = I2
    have d1 : ∀ c, c ≠ a → I2 c = I1 c := fun c hc => by rw [← hI2, ui_ne _ _ _ hc, ui_ne _ _ _ hc, ui_ne _ _ _ hc, ui_ne _ _ _ hc]
    have d2 : ∀ j, 1 ≤ j → j ≤ 4 → I2 a j = I b j := fun j h1 h2 => by
      rw [← hI2]
      rcases (show j = 1 ∨ j = 2 ∨ j = 3 ∨ j = 4 by omega) with rfl | rfl | rfl | rfl <;> simp [ui_g]
    have d3 : ∀ c, b ≤ c → c ≤ b + 33 → I2 c = I c := fun c h1 h2 => by rw [d1 c (by omega), eb c h1 h2]
    rintro _ rfl
    rintro _ rfl
    rintro _ rfl
    rintro _ rfl
    rintro _ rfl
    rintro _ rfl
    refine hP _ ⟨fun c hc => ?_, fun j h1 h2 => ?_, fun j hj => ?_, fun j hj => ?_, fun j hj => ?_, fun j hj => ?_, fun j hj => ?_, fun j hj => ?_, fun i j hi hj => ?_, fun i h1 h2 => ?_⟩
    · rw [uc_ne _ _ (by omega), uc_ne _ _ (by omega), uc_ne _ _ (by omega), uc_ne _ _ (by omega), uc_ne _ _ (by omega), uc_ne _ _ (by omega), d1 c (by omega), b1 c (by omega)]
    · rw [uc_ne _ _ (by omega), uc_ne _ _ (by omega), uc_ne _ _ (by omega), uc_ne _ _ (by omega), uc_ne _ _ (by omega), uc_ne _ _ (by omega)]; exact d2 j h1 h2
    · rw [uc_ne _ _ (by omega), uc_ne _ _ (by omega), uc_ne _ _ (by omega), uc_ne _ _ (by omega), uc_ne _ _ (by omega), uc_g, if_pos ⟨rfl, hj⟩, d3 _ (by omega) (by omega)]
    · rw [uc_ne _ _ (by omega), uc_ne _ _ (by omega), uc_ne _ _ (by omega), uc_ne _ _ (by omega), uc_g, if_pos ⟨rfl, hj⟩, uc_ne _ _ (by omega), d3 _ (by omega) (by omega)]
    · rw [uc_ne _ _ (by omega), uc_ne _ _ (by omega), uc_ne _ _ (by omega), uc_g, if_pos ⟨rfl, hj⟩, uc_ne _ _ (by omega), uc_ne _ _ (by omega), d3 _ (by omega) (by omega)]
    · rw [uc_ne _ _ (by omega), uc_ne _ _ (by omega), uc_g, if_pos ⟨rfl, hj⟩, uc_ne _ _ (by omega), uc_ne _ _ (by omega), uc_ne _ _ (by omega), d3 _ (by omega) (by omega)]
    · rw [uc_ne _ _ (by omega), uc_g, if_pos ⟨rfl, hj⟩, uc_ne _ _ (by omega), uc_ne _ _ (by omega), uc_ne _ _ (by omega), uc_ne _ _ (by omega), d3 _ (by omega) (by omega)]
    · rw [uc_g, if_pos ⟨rfl, hj⟩, uc_ne _ _ (by omega), uc_ne _ _ (by omega), uc_ne _ _ (by omega), uc_ne _ _ (by omega), uc_ne _ _ (by omega), d3 _ (by omega) (by omega)]
    · rw [uc_ne _ _ (by omega), uc_ne _ _ (by omega), uc_ne _ _ (by omega), uc_ne _ _ (by omega), uc_ne _ _ (by omega), uc_ne _ _ (by omega), d1 _ (by omega)]; exact b2 i j (by omega) hj
    · rw [uc_ne _ _ (by omega), uc_ne _ _ (by omega), uc_ne _ _ (by omega), uc_ne _ _ (by omega), uc_ne _ _ (by omega), uc_ne _ _ (by omega), d1 _ (by omega)]; exact b1 _ (by omega)
  · have hlt : k ≤ n := by
      rcases Nat.lt_or_ge n k with q | q
      · exact absurd (nI_lt q (by omega)) c
      · exact q
    rw [ixn (n := k) (by omega)]
    refine ⟨inn (by omega) (by omega), inn (by omega) (by omega), ?_⟩
    refine k_copyRow (by omega) ?_ (fun I2 c1 c2 => ?_)
    · rw [eb _ (by omega) (by omega)]; exact hs' k (by omega)
    · refine hrec _ _ ⟨k + 1, by omega, nI_1 k, fun c hc => ?_, fun i j hi hj => ?_⟩ ?_
      · rw [c1 c (by omega)]; exact b1 c (by omega)
      · by_cases e : i = k
        · subst e; rw [c2 j hj, eb _ (by omega) (by omega)]
        · rw [c1 _ (by omega)]; exact b2 i j (by omega) hj
      · rw [nI_1, ixn (by omega), ixn (by omega)]; omega
def SgOK (p : Nat) (I : MI) : Prop := ∀ i, i < 25 → chr (I (p + 9 + i) 5)
theorem RelR.cp {I' : MI} (h : RelR b I V) (hC : CpC a b (ix (V 48)) I I') (hs' : SgOK a I) : RelR a I' V := by
  obtain ⟨hsz, e48⟩ := size_lt h
  obtain ⟨c1, -, -, -, -, -, -, c9, c10⟩ := hC
  obtain ⟨h1, h2, h3, h4, h5⟩ := h
  refine ⟨by rw [c1 1 (by omega) (by omega)]; exact h1, h2, fun i hi => by rw [c9 i 0 hi (by omega)]; exact h3 i hi, fun i hi => ?_, fun i hi => ?_⟩
  · have := h4 i hi
    unfold RowR at this ⊢
    rw [c9 i 1 (by omega) (by omega), c9 i 2 (by omega) (by omega), c9 i 3 (by omega) (by omega), c9 i 4 (by omega) (by omega), c9 i 5 (by omega) (by omega)]
    exact this
  · rcases Nat.lt_or_ge (ix (V 48)) i with q | q
    · rw [c10 i q hi]; exact hs' i hi
    · rw [c9 i 5 q (by omega)]; exact h5 i hi
theorem RelD.cp {I' : MI} (h : RelD b I V) (hR : RelR b I V) (hC : CpC a b (ix (V 48)) I I') : RelD a I' V := by
  obtain ⟨hsz, e48⟩ := size_lt hR
  obtain ⟨c1, -, -, -, c5, c6, c7, -, -⟩ := hC
  obtain ⟨h1, h2, h3, h4⟩ := h
  refine ⟨by rw [c1 4 (by omega) (by omega)]; exact h1, fun s i hs hi => by rw [c7 _ (by omega)]; exact h2 s i hs hi, fun s i k hs hi hk => ?_, fun i k hi hk hc => ?_⟩
  · have := vMany_le (V := V) (s := s) (i := i)
    rw [c5 _ (by omega)]; exact h3 s i k hs hi hk
  · have := vMany_le (V := V) (s := 0) (i := i)
    rw [c6 _ (by omega)]; exact h4 i k hi hk hc
theorem RelT.cp {I' : MI} (h : RelT b I V) (hC : CpC a b n I I') : RelT a I' V := by
  obtain ⟨c1, c2, c3, c4, -⟩ := hC
  obtain ⟨h1, h2, h3, h4, h5, h6, h7⟩ := h
  exact ⟨by rw [c1 2 (by omega) (by omega)]; exact h1, by rw [c1 3 (by omega) (by omega)]; exact h2, h3, h4, fun q hq => by rw [c2 q hq]; exact h5 q hq, fun c hc => by rw [c3 c hc]; exact h6 c hc, fun r hr => by rw [c4 r hr]; exact h7 r hr⟩
theorem SgOK.cp {I' : MI} (h : SgOK b I) (hC : CpC a b n I I') (hs' : SgOK a I) : SgOK a I' := fun i hi => by
  obtain ⟨-, -, -, -, -, -, -, c9, c10⟩ := hC
  rcases Nat.lt_or_ge n i with q | q
  · rw [c10 i q hi]; exact hs' i hi
  · rw [c9 i 5 q (by omega)]; exact h i hi
end
