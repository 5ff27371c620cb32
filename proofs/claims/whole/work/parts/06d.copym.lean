section
variable {a b n : Nat} {I : MI} {V : Nat → Int32}
def CpQ (a b q : Nat) (I I' : MI) : Prop := (∀ j, j < 6 → I' (a + 40 + 3 * q) j = I (b + 40 + 3 * q) j) ∧ (∀ j, j < 6 → I' (a + 41 + 3 * q) j = I (b + 41 + 3 * q) j) ∧ ∀ j, 2 ≤ j → j ≤ 4 → I' (a + 39 + 3 * q) j = I (b + 39 + 3 * q) j
def CpS (a b s : Nat) (I I' : MI) : Prop := (∀ j, j < 8 → I' (a + 58 + 3 * s) j = I (b + 58 + 3 * s) j) ∧ (∀ j, j < 50 → I' (a + 59 + 3 * s) j = I (b + 59 + 3 * s) j) ∧ (∀ j, 1 ≤ j → j ≤ 6 → I' (a + 57 + 3 * s) j = I (b + 57 + 3 * s) j) ∧ I' (a + 57 + 3 * s) 0 = I (a + 57 + 3 * s) 0
def CpM (a b n : Nat) (I I' : MI) : Prop := CpC (a + 1) (b + 1) n I I' ∧ (∀ j, j < 8 → I' (a + 35) j = I (b + 35) j) ∧ (∀ j, j < 32 → I' (a + 36) j = I (b + 36) j) ∧ (∀ q, q < 6 → CpQ a b q I I') ∧ (∀ s, s < 2 → CpS a b s I I') ∧ (∀ j, 5 ≤ j → j ≤ 14 → I' a j = I b j) ∧ I' a 15 = I a 15
def CpF (a : Nat) (I I' : MI) : Prop := ∀ c, (c < a ∨ a + 63 ≤ c) → I' c = I c
theorem k_copyQ {q : Nat} {P : MI → Prop} (hab : a + 62 < b ∨ b + 62 < a) (hq : q < 6) (hP : ∀ I', (∀ c, (c < a + 39 + 3 * q ∨ a + 41 + 3 * q < c) → I' c = I c) → CpQ a b q I I' → P I') : w_X3_copyFrom (a + 39 + 3 * q) (b + 39 + 3 * q) I P := by
  unfold w_X3_copyFrom
  rintro _ rfl
  rintro _ rfl
  rw [show a + 39 + 3 * q + 1 = a + 40 + 3 * q by omega, show b + 39 + 3 * q + 1 = b + 40 + 3 * q by omega, show a + 39 + 3 * q + 2 = a + 41 + 3 * q by omega, show b + 39 + 3 * q + 2 = b + 41 + 3 * q by omega]
  generalize hI1 : uc (uc I (b + 40 + 3 * q) (a + 40 + 3 * q) 6) (b + 41 + 3 * q) (a + 41 + 3 * q) 6 = I1
  have d1 : ∀ c, c ≠ a + 40 + 3 * q → c ≠ a + 41 + 3 * q → I1 c = I c := fun c h1 h2 => by rw [← hI1, uc_ne _ _ h2, uc_ne _ _ h1]
  have d2 : ∀ j, j < 6 → I1 (a + 40 + 3 * q) j = I (b + 40 + 3 * q) j := fun j hj => by rw [← hI1, uc_ne _ _ (by omega), uc_g, if_pos ⟨rfl, hj⟩]
  have d3 : ∀ j, j < 6 → I1 (a + 41 + 3 * q) j = I (b + 41 + 3 * q) j := fun j hj => by rw [← hI1, uc_g, if_pos ⟨rfl, hj⟩, uc_ne _ _ (by omega)]
  have hb : ∀ (I : MI) (k : Nat) (v : Int32), ui I (a + 39 + 3 * q) k v (b + 39 + 3 * q) = I (b + 39 + 3 * q) := fun I k v => ui_ne _ _ _ (by omega)
  rintro _ rfl
  rintro _ rfl
  rintro _ rfl
  simp only [hb]
  rw [d1 (b + 39 + 3 * q) (by omega) (by omega)]
  refine hP _ (fun c hc => ?_) ⟨fun j hj => ?_, fun j hj => ?_, fun j h1 h2 => ?_⟩
  · rw [ui_ne _ _ _ (by omega), ui_ne _ _ _ (by omega), ui_ne _ _ _ (by omega), d1 c (by omega) (by omega)]
  · rw [ui_ne _ _ _ (by omega), ui_ne _ _ _ (by omega), ui_ne _ _ _ (by omega)]; exact d2 j hj
  · rw [ui_ne _ _ _ (by omega), ui_ne _ _ _ (by omega), ui_ne _ _ _ (by omega)]; exact d3 j hj
  · rcases (show j = 2 ∨ j = 3 ∨ j = 4 by omega) with rfl | rfl | rfl <;> simp [ui_g]
theorem k_copyS {s : Nat} {P : MI → Prop} (hab : a + 62 < b ∨ b + 62 < a) (hs' : s < 2) (h4 : bln (I (b + 57 + 3 * s) 4)) (hP : ∀ I', (∀ c, (c < a + 57 + 3 * s ∨ a + 59 + 3 * s < c) → I' c = I c) → CpS a b s I I' → P I') : w_X5_copyFrom (a + 57 + 3 * s) (b + 57 + 3 * s) I P := by
  unfold w_X5_copyFrom
  have hb : ∀ (I : MI) (k : Nat) (v : Int32), ui I (a + 57 + 3 * s) k v (b + 57 + 3 * s) = I (b + 57 + 3 * s) := fun I k v => ui_ne _ _ _ (by omega)
  rintro _ rfl
  rintro _ rfl
  rintro _ rfl
  simp only [hb]
  refine ⟨h4, ?_⟩
  rintro _ rfl
  rintro _ rfl
  rintro _ rfl
  simp only [hb]
  rw [show a + 57 + 3 * s + 1 = a + 58 + 3 * s by omega, show b + 57 + 3 * s + 1 = b + 58 + 3 * s by omega, show a + 57 + 3 * s + 2 = a + 59 + 3 * s by omega, show b + 57 + 3 * s + 2 = b + 59 + 3 * s by omega]
  generalize hI1 : ui (ui (ui (ui (ui (ui I (a + 57 + 3 * s) 1 (I (b + 57 + 3 * s) 1)) (a + 57 + 3 * s) 2 (I (b + 57 + 3 * s) 2)) (a + 57 + 3 * s) 3 (I (b + 57 + 3 * s) 3)) (a + 57 + 3 * s) 4 (I (b + 57 + 3 * s) 4)) (a + 57 + 3 * s) 5 (I (b + 57 + 3 * s) 5)) (a + 57 + 3 * s) 6 (I (b + 57 + 3 * s) 6) = I1
  have d1 : ∀ c, c ≠ a + 57 + 3 * s → I1 c = I c := fun c hc => by rw [← hI1, ui_ne _ _ _ hc, ui_ne _ _ _ hc, ui_ne _ _ _ hc, ui_ne _ _ _ hc, ui_ne _ _ _ hc, ui_ne _ _ _ hc]
  have d2 : ∀ j, 1 ≤ j → j ≤ 6 → I1 (a + 57 + 3 * s) j = I (b + 57 + 3 * s) j := fun j h1 h2 => by
    rw [← hI1]
    rcases (show j = 1 ∨ j = 2 ∨ j = 3 ∨ j = 4 ∨ j = 5 ∨ j = 6 by omega) with rfl | rfl | rfl | rfl | rfl | rfl <;> simp [ui_g]
  have d3 : I1 (a + 57 + 3 * s) 0 = I (a + 57 + 3 * s) 0 := by rw [← hI1]; simp [ui_g]
  rintro _ rfl
  rintro _ rfl
  refine hP _ (fun c hc => ?_) ⟨fun j hj => ?_, fun j hj => ?_, fun j h1 h2 => ?_, ?_⟩
  · rw [uc_ne _ _ (by omega), uc_ne _ _ (by omega), d1 c (by omega)]
  · rw [uc_ne _ _ (by omega), uc_g, if_pos ⟨rfl, hj⟩, d1 _ (by omega)]
  · rw [uc_g, if_pos ⟨rfl, hj⟩, uc_ne _ _ (by omega), d1 _ (by omega)]
  · rw [uc_ne _ _ (by omega), uc_ne _ _ (by omega)]; exact d2 j h1 h2
  · rw [uc_ne _ _ (by omega), uc_ne _ _ (by omega)]; exact d3
theorem k_copyMach {P : MI → Prop} (hab : a + 62 < b ∨ b + 62 < a) (hn : n < 25) (e1 : I (b + 1) 1 = nI n) (hs' : SgOK (b + 1) I) (h4 : ∀ s, s < 2 → bln (I (b + 57 + 3 * s) 4)) (hP : ∀ I', CpM a b n I I' → CpF a I I' → P I') : w_X1_copyFrom a b I P := by
  unfold w_X1_copyFrom
  refine k_copyProg (by omega) hn e1 hs' (fun I1 c1 => ?_)
  have f1 : ∀ c, (c < a + 1 ∨ a + 34 < c) → I1 c = I c := fun c hc => c1.1 c (by omega)
  rintro _ rfl
  rintro _ rfl
  generalize hI2 : uc (uc I1 (b + 35) (a + 35) 8) (b + 36) (a + 36) 32 = I2
  have d1 : ∀ c, c ≠ a + 35 → c ≠ a + 36 → I2 c = I1 c := fun c h1 h2 => by rw [← hI2, uc_ne _ _ h2, uc_ne _ _ h1]
  have d2 : ∀ j, j < 8 → I2 (a + 35) j = I (b + 35) j := fun j hj => by rw [← hI2, uc_ne _ _ (by omega), uc_g, if_pos ⟨rfl, hj⟩, f1 _ (by omega)]
  have d3 : ∀ j, j < 32 → I2 (a + 36) j = I (b + 36) j := fun j hj => by rw [← hI2, uc_g, if_pos ⟨rfl, hj⟩, uc_ne _ _ (by omega), f1 _ (by omega)]
  refine Lp2.of (fun x I' => ∃ k, k ≤ 6 ∧ x = nI k ∧ (∀ c, (c < a + 39 ∨ a + 39 + 3 * k ≤ c) → I' c = I2 c) ∧ ∀ q, q < k → CpQ a b q I I') (fun x _ => 20 - ix x) ?_ _ _ ⟨0, by omega, rfl, fun _ _ => rfl, fun q hq => by omega⟩
  rintro rec x I3 ⟨k, hk, rfl, b1, b2⟩ hrec
  unfold w_X1_copyFrom_l43
  refine ⟨fun c => ?_, fun c => ?_⟩
  · have := (nI_leI (a := 6) (by omega) (by omega)).mp c
    have e : k = 6 := by omega
    subst e
    refine Lp2.of (fun x I' => ∃ k, k ≤ 2 ∧ x = nI k ∧ (∀ c, (c < a + 57 ∨ a + 57 + 3 * k ≤ c) → I' c = I3 c) ∧ ∀ s, s < k → CpS a b s I I') (fun x _ => 20 - ix x) ?_ _ _ ⟨0, by omega, rfl, fun _ _ => rfl, fun s hs => by omega⟩
    rintro rec x I4 ⟨k, hk, rfl, g1, g2⟩ hrec
    have fb : ∀ c, b ≤ c → c ≤ b + 62 → I4 c = I c := fun c h1 h2 => by rw [g1 c (by omega), b1 c (by omega), d1 c (by omega) (by omega), f1 c (by omega)]
    unfold w_X1_copyFrom_l72
    refine ⟨fun c => ?_, fun c => ?_⟩
    · have := (nI_leI (a := 2) (by omega) (by omega)).mp c
      have e : k = 2 := by omega
      subst e
      have hb : ∀ (I : MI) (k : Nat) (v : Int32), ui I a k v b = I b := fun I k v => ui_ne _ _ _ (by omega)
      rintro _ rfl
      rintro _ rfl
      rintro _ rfl
      rintro _ rfl
      rintro _ rfl
      rintro _ rfl
      rintro _ rfl
      rintro _ rfl
      rintro _ rfl
      rintro _ rfl
      simp only [hb]
      rw [fb b (by omega) (by omega)]
      generalize hI5 : ui (ui (ui (ui (ui (ui (ui (ui (ui (ui I4 a 5 (I b 5)) a 6 (I b 6)) a 7 (I b 7)) a 8 (I b 8)) a 9 (I b 9)) a 10 (I b 10)) a 11 (I b 11)) a 12 (I b 12)) a 13 (I b 13)) a 14 (I b 14) = I5
      have e1 : ∀ c, c ≠ a → I5 c = I4 c := fun c hc => by rw [← hI5, ui_ne _ _ _ hc, ui_ne _ _ _ hc, ui_ne _ _ _ hc, ui_ne _ _ _ hc, ui_ne _ _ _ hc, ui_ne _ _ _ hc, ui_ne _ _ _ hc, ui_ne _ _ _ hc, ui_ne _ _ _ hc, ui_ne _ _ _ hc]
      have e5 : ∀ c, c ≠ a → (c < a + 35) → I5 c = I1 c := fun c h1 h2 => by rw [e1 c h1, g1 c (by omega), b1 c (by omega), d1 c (by omega) (by omega)]
      refine hP I5 ⟨?_, fun j hj => ?_, fun j hj => ?_, fun q hq => ?_, fun s hs => ?_, fun j h1 h2 => ?_, ?_⟩ (fun c hc => ?_)
      · obtain ⟨p1, p2, p3, p4, p5, p6, p7, p8, p9, p10⟩ := c1
        refine ⟨fun j h1 h2 => ?_, fun j hj => ?_, fun j hj => ?_, fun j hj => ?_, fun j hj => ?_, fun j hj => ?_, fun j hj => ?_, fun i j hi hj => ?_, fun i h1 h2 => ?_⟩
        · rw [e5 _ (by omega) (by omega)]; exact p2 j h1 h2
        · rw [e5 _ (by omega) (by omega)]; exact p3 j hj
        · rw [e5 _ (by omega) (by omega)]; exact p4 j hj
        · rw [e5 _ (by omega) (by omega)]; exact p5 j hj
        · rw [e5 _ (by omega) (by omega)]; exact p6 j hj
        · rw [e5 _ (by omega) (by omega)]; exact p7 j hj
        · rw [e5 _ (by omega) (by omega)]; exact p8 j hj
        · rw [e5 _ (by omega) (by omega)]; exact p9 i j hi hj
        · rw [e5 _ (by omega) (by omega)]; exact p10 i h1 h2
      · rw [e1 _ (by omega), g1 _ (by omega), b1 _ (by omega)]; exact d2 j hj
      · rw [e1 _ (by omega), g1 _ (by omega), b1 _ (by omega)]; exact d3 j hj
      · obtain ⟨q1, q2, q3⟩ := b2 q hq
        unfold CpQ
        rw [e1 _ (by omega), e1 _ (by omega), e1 _ (by omega), g1 _ (by omega), g1 _ (by omega), g1 _ (by omega)]
        exact ⟨q1, q2, q3⟩
      · obtain ⟨q1, q2, q3, q4⟩ := g2 s hs
        unfold CpS
        rw [e1 _ (by omega), e1 _ (by omega), e1 _ (by omega)]
        exact ⟨q1, q2, q3, q4⟩
      · rw [← hI5]
        rcases (show j = 5 ∨ j = 6 ∨ j = 7 ∨ j = 8 ∨ j = 9 ∨ j = 10 ∨ j = 11 ∨ j = 12 ∨ j = 13 ∨ j = 14 by omega) with rfl | rfl | rfl | rfl | rfl | rfl | rfl | rfl | rfl | rfl <;> simp [ui_g]
      · have : I5 a 15 = I4 a 15 := by rw [← hI5]; simp [ui_g]
        rw [this, g1 _ (by omega), b1 _ (by omega), d1 _ (by omega) (by omega), f1 _ (by omega)]
      · rw [e1 c (by omega), g1 c (by omega), b1 c (by omega), d1 c (by omega) (by omega), f1 c (by omega)]
    · have hlt : k < 2 := by
        rcases Nat.lt_or_ge k 2 with q | q
        · exact q
        · exact absurd (nI_le (a := 2) q (by omega)) c
      rw [ixn (n := k) (by omega)]
      refine ⟨inn (by omega) (by omega), inn (by omega) (by omega), k_copyS hab hlt (by rw [fb _ (by omega) (by omega)]; exact h4 k hlt) (fun I5 w1 w2 => hrec _ _ ⟨k + 1, by omega, nI_1 k, fun c hc => ?_, fun s hs => ?_⟩ ?_)⟩
      · rw [w1 c (by omega)]; exact g1 c (by omega)
      · by_cases e : s = k
        · subst e
          obtain ⟨q1, q2, q3, q4⟩ := w2
          unfold CpS
          rw [← fb (b + 58 + 3 * s) (by omega) (by omega), ← fb (b + 59 + 3 * s) (by omega) (by omega), ← fb (b + 57 + 3 * s) (by omega) (by omega)]
          refine ⟨q1, q2, q3, ?_⟩
          rw [q4, g1 _ (by omega), b1 _ (by omega), d1 _ (by omega) (by omega), f1 _ (by omega)]
        · obtain ⟨q1, q2, q3, q4⟩ := g2 s (by omega)
          unfold CpS
          rw [w1 _ (by omega), w1 _ (by omega), w1 _ (by omega)]
          exact ⟨q1, q2, q3, q4⟩
      · rw [nI_1, ixn (by omega), ixn (by omega)]; omega
  · have hlt : k < 6 := by
      rcases Nat.lt_or_ge k 6 with q | q
      · exact q
      · exact absurd (nI_le (a := 6) q (by omega)) c
    have fb : ∀ c, b ≤ c → c ≤ b + 62 → I3 c = I c := fun c h1 h2 => by rw [b1 c (by omega), d1 c (by omega) (by omega), f1 c (by omega)]
    rw [ixn (n := k) (by omega)]
    refine ⟨inn (by omega) (by omega), inn (by omega) (by omega), k_copyQ hab hlt (fun I4 w1 w2 => hrec _ _ ⟨k + 1, by omega, nI_1 k, fun c hc => ?_, fun q hq => ?_⟩ ?_)⟩
    · rw [w1 c (by omega)]; exact b1 c (by omega)
    · by_cases e : q = k
      · subst e
        obtain ⟨q1, q2, q3⟩ := w2
        unfold CpQ
        rw [← fb (b + 40 + 3 * q) (by omega) (by omega), ← fb (b + 41 + 3 * q) (by omega) (by omega), ← fb (b + 39 + 3 * q) (by omega) (by omega)]
        exact ⟨q1, q2, q3⟩
      · obtain ⟨q1, q2, q3⟩ := b2 q (by omega)
        unfold CpQ
        rw [w1 _ (by omega), w1 _ (by omega), w1 _ (by omega)]
        exact ⟨q1, q2, q3⟩
    · rw [nI_1, ixn (by omega), ixn (by omega)]; omega
theorem Rel.cp {I' : MI} (h : Rel b I V) (hC : CpM a b (ix (V 48)) I I') (hs' : SgOK (a + 1) I) (hid : ∀ s, s < 2 → I (a + 57 + 3 * s) 0 = nI s) (h15 : bln (I a 15)) : Rel a I' V := by
  obtain ⟨c1, c2, c3, c4, c5, c6, c7⟩ := hC
  refine ⟨h.1.cp c1 hs', h.2.1.cp h.1 c1, ?_, fun q hq => ?_, fun s hs => ?_⟩
  · obtain ⟨a1, a2, a3, a4, a5, a6, a7, a8, a9, a10, a11, a12, a13, a14, a15, a16, a17, a18, a19⟩ := h.2.2.1
    unfold RelM
    rw [c6 5 (by omega) (by omega), c6 6 (by omega) (by omega), c6 7 (by omega) (by omega), c6 8 (by omega) (by omega), c6 9 (by omega) (by omega), c6 10 (by omega) (by omega), c6 11 (by omega) (by omega), c6 12 (by omega) (by omega), c6 13 (by omega) (by omega), c6 14 (by omega) (by omega), c7]
    exact ⟨fun r hr => by rw [c2 r hr]; exact a1 r hr, fun c hc => by rw [c3 c hc]; exact a2 c hc, a3, a4, a5, a6, a7, a8, a9, a10, a11, a12, a13, a14, a15, a16, a17, a18, h15⟩
  · obtain ⟨n, f, hn, hf, e1, e2, e3, e4, e5, hj⟩ := h.2.2.2.1 q hq
    obtain ⟨q1, q2, q3⟩ := c4 q hq
    refine ⟨n, f, hn, hf, e1, by rw [q3 3 (by omega) (by omega)]; exact e2, by rw [q3 2 (by omega) (by omega)]; exact e3, by rw [q3 4 (by omega) (by omega)]; exact e4, e5, fun j hj2 => ?_⟩
    rw [q1 _ (Nat.mod_lt _ (by omega)), q2 _ (Nat.mod_lt _ (by omega))]
    exact hj j hj2
  · obtain ⟨g0, gp, g1, g2, g3, g4, g5, g6, g9, g10⟩ := h.2.2.2.2 s hs
    obtain ⟨q1, q2, q3, q4⟩ := c5 s hs
    unfold RelS
    rw [q4, q3 1 (by omega) (by omega), q3 2 (by omega) (by omega), q3 3 (by omega) (by omega), q3 4 (by omega) (by omega), q3 5 (by omega) (by omega)]
    exact ⟨hid s hs, gp, g1, g2, g3, g4, g5, g6, fun r h1 h2 => by rw [q1 r (by omega)]; exact g9 r h1 h2, fun i k hi hk => by rw [q2 _ (by omega)]; exact g10 i k hi hk⟩
theorem RelW.cp {I' : MI} (h : RelW b I V) (hC : CpM a b n I I') : RelW a I' V := fun s hs => by
  obtain ⟨-, -, -, -, c5, -⟩ := hC
  obtain ⟨q1, q2, q3, q4⟩ := c5 s hs
  rw [q3 6 (by omega) (by omega)]; exact h s hs
/-- a block is copied -/
theorem t_copies {o x y : Nat} {J : MI} {V' : Nat → Int32} {P : MI → Prop} (hx : x ≤ 4389) (hy : y ≤ 4389) (hxy : x + 516 ≤ y ∨ y + 516 ≤ x) (hV : ∀ k, k < 516 → J (o + 1) (x + k) = V' k) (hP : P (kb J (o + 1) y V')) : w_X10_copies o (nI x) (nI y) J P := by
  unfold w_X10_copies
  refine Lp2.of (fun z I' => ∃ k, k ≤ 516 ∧ z = nI k ∧ (∀ c, c ≠ o + 1 → I' c = J c) ∧ (∀ j, (j < y ∨ y + k ≤ j) → I' (o + 1) j = J (o + 1) j) ∧ ∀ j, j < k → I' (o + 1) (y + j) = V' j) (fun z _ => 600 - ix z) ?_ _ _ ⟨0, by omega, rfl, fun _ _ => rfl, fun _ _ => rfl, fun j hj => by omega⟩
  rintro rec z I' ⟨k, hk, rfl, b1, b2, b3⟩ hrec
  unfold w_X10_copies_l2
  refine ⟨fun c => ?_, fun c => ?_⟩
  · have := (nI_leI (a := 516) (by omega) (by omega)).mp c
    have e : k = 516 := by omega
    subst e
    have : I' = kb J (o + 1) y V' := by
      funext c j
      by_cases e : c = o + 1
      · subst e
        by_cases q : y ≤ j ∧ j < y + 516
        · have q1 := b3 (j - y) (by omega)
          rw [show y + (j - y) = j by omega] at q1
          have q2 := kb_at J (o + 1) y V' (k := j - y) (by omega)
          rw [show y + (j - y) = j by omega] at q2
          rw [q1, q2]
        · rw [b2 j (by omega), kb_out _ _ _ _ (by omega)]
      · rw [b1 c e, kb_ne _ _ e]
    rw [this]; exact hP
  · have hlt : k < 516 := by
      rcases Nat.lt_or_ge k 516 with q | q
      · exact q
      · exact absurd (nI_le (a := 516) q (by omega)) c
    simp only [nI_add]
    rw [ixn (n := x + k) (by omega), ixn (n := y + k) (by omega)]
    refine ⟨inn (by omega) (by omega), inn (by omega) (by omega), ?_⟩
    rintro _ rfl
    refine hrec _ _ ⟨k + 1, by omega, nI_1 k, fun c hc => ?_, fun j hj => ?_, fun j hj => ?_⟩ ?_
    · rw [ui_ne _ _ _ hc]; exact b1 c hc
    · rw [ui_gj _ _ _ (by omega)]; exact b2 j (by omega)
    · by_cases e : j = k
      · subst e; rw [ui_gs, b2 _ (by omega)]; exact hV j hlt
      · rw [ui_gj _ _ _ (by omega)]; exact b3 j (by omega)
    · rw [nI_1, ixn (by omega), ixn (by omega)]; omega
end
