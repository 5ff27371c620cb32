/-! to the beginning: the class -/
section
variable {m : Nat} {I : MI} {V : Nat → Int32}
def BgQ (m q : Nat) (I I' : MI) : Prop := I' (m + 39 + 3 * q) 2 = 0 ∧ I' (m + 39 + 3 * q) 3 = 0 ∧ I' (m + 39 + 3 * q) 4 = I (m + 3) q
def BgS (m s : Nat) (I I' : MI) : Prop := I' (m + 57 + 3 * s) 0 = I (m + 57 + 3 * s) 0 ∧ (∀ j, 1 ≤ j → j ≤ 6 → I' (m + 57 + 3 * s) j = 0) ∧ (∀ j, j < 8 → I' (m + 58 + 3 * s) j = 0) ∧ ∀ j, j < 50 → I' (m + 59 + 3 * s) j = 0
def BgM (m : Nat) (I I' : MI) : Prop := (∀ r, r < 8 → I' (m + 35) r = I (m + 5) r) ∧ (∀ c, c < 32 → I' (m + 36) c = I (m + 4) c) ∧ I' m 5 = 0 ∧ I' m 6 = 0 ∧ I' m 7 = I (m + 1) 2 ∧ I' m 8 = 0 ∧ I' m 9 = 0 ∧ I' m 10 = 0 ∧ I' m 11 = 0 ∧ I' m 12 = 0 ∧ I' m 13 = -1 ∧ I' m 14 = 0 ∧ I' m 15 = I m 15
theorem k_begin {P : MI → Prop} (hP : ∀ I', (∀ q, q < 6 → BgQ m q I I') → (∀ s, s < 2 → BgS m s I I') → BgM m I I' → Frm m I I' → P I') : w_X1_toBeginning m I P := by
  unfold w_X1_toBeginning
  rintro _ rfl
  rintro _ rfl
  generalize hI1 : uc (uc I (m + 5) (m + 35) 8) (m + 4) (m + 36) 32 = I1
  have a1 : ∀ c, c ≠ m + 35 → c ≠ m + 36 → I1 c = I c := fun c h1 h2 => by rw [← hI1, uc_ne _ _ h2, uc_ne _ _ h1]
  have a2 : ∀ r, r < 8 → I1 (m + 35) r = I (m + 5) r := fun r hr => by
    rw [← hI1, uc_ne _ _ (by omega), uc_at, pk_cpy_in (by omega) (by omega)]
    exact congrArg _ (by omega)
  have a3 : ∀ c, c < 32 → I1 (m + 36) c = I (m + 4) c := fun c hc => by
    rw [← hI1, uc_at, pk_cpy_in (by omega) (by omega), uc_ne _ _ (by omega)]
    exact congrArg _ (by omega)
  refine Lp2.of (fun x I' => ∃ k, k ≤ 6 ∧ x = nI k ∧ (∀ c, (c < m + 39 ∨ m + 57 ≤ c) → I' c = I1 c) ∧ ∀ q, q < k → BgQ m q I I') (fun x _ => 20 - ix x) ?_ _ _ ⟨0, by omega, rfl, fun _ _ => rfl, fun q hq => by omega⟩
  rintro rec x I2 ⟨k, hk, rfl, b1, b2⟩ hrec
  unfold w_X1_toBeginning_l38
  refine ⟨fun c => ?_, fun c => ?_⟩
  · have := (nI_leI (a := 6) (by omega) (by omega)).mp c
    have e : k = 6 := by omega
    subst e
    refine Lp2.of (fun x I' => ∃ k, k ≤ 2 ∧ x = nI k ∧ (∀ c, (c < m + 57 ∨ m + 63 ≤ c) → I' c = I2 c) ∧ (∀ s, k ≤ s → s < 2 → ∀ d, d < 3 → I' (m + 57 + 3 * s + d) = I2 (m + 57 + 3 * s + d)) ∧ ∀ s, s < k → BgS m s I I') (fun x _ => 20 - ix x) ?_ _ _ ⟨0, by omega, rfl, fun _ _ => rfl, fun _ _ _ _ _ => rfl, fun s hs => by omega⟩
    rintro rec x I3 ⟨k, hk, rfl, c1, c2, c3⟩ hrec
    unfold w_X1_toBeginning_l70
    refine ⟨fun c => ?_, fun c => ?_⟩
    · have := (nI_leI (a := 2) (by omega) (by omega)).mp c
      have e : k = 2 := by omega
      subst e
      rintro _ rfl
      rintro _ rfl
      rintro _ rfl
      rintro _ rfl
      rintro _ rfl
      rintro _ rfl
      rintro _ rfl
      rintro _ rfl
      rintro _ rfl
      rintro _ rfl
      have e17 : I3 (m + 1) 2 = I (m + 1) 2 := by rw [c1 _ (by omega), b1 _ (by omega), a1 _ (by omega) (by omega)]
      have e15 : I3 m 15 = I m 15 := by rw [c1 _ (by omega), b1 _ (by omega), a1 _ (by omega) (by omega)]
      rw [ui_ne _ _ _ (show m + 1 ≠ m by omega), ui_ne _ _ _ (show m + 1 ≠ m by omega), e17]
      generalize hI4 : ui (ui (ui (ui (ui (ui (ui (ui (ui (ui I3 m 5 0) m 6 0) m 7 (I (m + 1) 2)) m 8 0) m 9 0) m 10 0) m 11 0) m 12 0) m 13 (-1)) m 14 0 = I4
      have d1 : ∀ c, c ≠ m → I4 c = I3 c := fun c hc => by rw [← hI4, ui_ne _ _ _ hc, ui_ne _ _ _ hc, ui_ne _ _ _ hc, ui_ne _ _ _ hc, ui_ne _ _ _ hc, ui_ne _ _ _ hc, ui_ne _ _ _ hc, ui_ne _ _ _ hc, ui_ne _ _ _ hc, ui_ne _ _ _ hc]
      refine hP I4 (fun q hq => ?_) (fun s hs => ?_) ?_ (fun c hc => ?_)
      · obtain ⟨q1, q2, q3⟩ := b2 q hq
        unfold BgQ
        rw [d1 _ (by omega), c1 _ (by omega)]
        exact ⟨q1, q2, q3⟩
      · obtain ⟨q1, q2, q3, q4⟩ := c3 s hs
        unfold BgS
        rw [d1 _ (by omega), d1 _ (by omega), d1 _ (by omega)]
        exact ⟨q1, q2, q3, q4⟩
      · unfold BgM
        rw [d1 (m + 35) (by omega), d1 (m + 36) (by omega), c1 (m + 35) (by omega), c1 (m + 36) (by omega), b1 (m + 35) (by omega), b1 (m + 36) (by omega), ← hI4]
        refine ⟨a2, a3, ?_, ?_, ?_, ?_, ?_, ?_, ?_, ?_, ?_, ?_, ?_⟩
        · simp [ui_g]
        · simp [ui_g]
        · simp [ui_g]
        · simp [ui_g]
        · simp [ui_g]
        · simp [ui_g]
        · simp [ui_g]
        · simp [ui_g]
        · simp [ui_g]
        · simp [ui_g]
        · simp [ui_g, e15]
      · rw [d1 c (by omega), c1 c (by omega), b1 c (by omega), a1 c (by omega) (by omega)]
    · have hlt : k < 2 := by
        rcases Nat.lt_or_ge k 2 with q | q
        · exact q
        · exact absurd (nI_le (a := 2) q (by omega)) c
      rw [ixn (n := k) (by omega)]
      refine ⟨inn (by omega) (by omega), ?_⟩
      unfold w_X5_toBeginning
      rintro _ rfl
      rintro _ rfl
      rintro _ rfl
      rintro _ rfl
      rintro _ rfl
      rintro _ rfl
      rintro _ rfl
      rintro _ rfl
      rw [show m + 57 + 3 * k + 1 = m + 58 + 3 * k by omega, show m + 57 + 3 * k + 2 = m + 59 + 3 * k by omega]
      generalize hI4 : ui (ui (ui (ui (ui (ui I3 (m + 57 + 3 * k) 1 0) (m + 57 + 3 * k) 2 0) (m + 57 + 3 * k) 3 0) (m + 57 + 3 * k) 4 0) (m + 57 + 3 * k) 5 0) (m + 57 + 3 * k) 6 0 = I4
      have d1 : ∀ c, c ≠ m + 57 + 3 * k → I4 c = I3 c := fun c hc => by rw [← hI4, ui_ne _ _ _ hc, ui_ne _ _ _ hc, ui_ne _ _ _ hc, ui_ne _ _ _ hc, ui_ne _ _ _ hc, ui_ne _ _ _ hc]
      have d2 : ∀ c, c ≠ m + 57 + 3 * k → c ≠ m + 58 + 3 * k → c ≠ m + 59 + 3 * k → uf (uf I4 (m + 58 + 3 * k) 8 0) (m + 59 + 3 * k) 50 0 c = I3 c := fun c h1 h2 h3 => by rw [uf_ne _ _ _ h3, uf_ne _ _ _ h2, d1 c h1]
      refine hrec _ _ ⟨k + 1, by omega, nI_1 k, fun c hc => ?_, fun s hs1 hs2 d hd => ?_, fun s hs => ?_⟩ ?_
      · rw [d2 c (by omega) (by omega) (by omega)]; exact c1 c hc
      · rw [d2 _ (by omega) (by omega) (by omega)]; exact c2 s (by omega) hs2 d hd
      · by_cases e : s = k
        · subst e
          have z0 := c2 s (by omega) hlt 0 (by omega)
          rw [Nat.add_zero] at z0
          refine ⟨?_, fun j h1 h2 => ?_, fun j hj => ?_, fun j hj => ?_⟩
          · rw [uf_ne _ _ _ (by omega), uf_ne _ _ _ (by omega), ← hI4]
            simp only [ui_g]
            simp
            rw [z0, b1 _ (by omega), a1 _ (by omega) (by omega)]
          · rw [uf_ne _ _ _ (by omega), uf_ne _ _ _ (by omega), ← hI4]
            rcases (show j = 1 ∨ j = 2 ∨ j = 3 ∨ j = 4 ∨ j = 5 ∨ j = 6 by omega) with rfl | rfl | rfl | rfl | rfl | rfl <;> simp [ui_g]
          · rw [uf_ne _ _ _ (by omega), uf_at]
            simp [hj]
          · rw [uf_at]
            simp [hj]
        · obtain ⟨q1, q2, q3, q4⟩ := c3 s (by omega)
          unfold BgS
          rw [d2 _ (by omega) (by omega) (by omega), d2 _ (by omega) (by omega) (by omega), d2 _ (by omega) (by omega) (by omega)]
          exact ⟨q1, q2, q3, q4⟩
      · rw [nI_1, ixn (by omega), ixn (by omega)]; omega
  · have hlt : k < 6 := by
      rcases Nat.lt_or_ge k 6 with q | q
      · exact q
      · exact absurd (nI_le (a := 6) q (by omega)) c
    rw [ixn (n := k) (by omega)]
    refine ⟨inn (by omega) (by omega), inn (by omega) (by omega), ?_⟩
    unfold w_X3_clear
    rintro _ rfl
    rintro _ rfl
    rintro _ rfl
    have e3 : I2 (m + 3) k = I (m + 3) k := by rw [b1 _ (by omega), a1 _ (by omega) (by omega)]
    refine hrec _ _ ⟨k + 1, by omega, nI_1 k, fun c hc => ?_, fun q hq => ?_⟩ ?_
    · rw [ui_ne _ _ _ (by omega), ui_ne _ _ _ (by omega), ui_ne _ _ _ (by omega)]; exact b1 c hc
    · by_cases e : q = k
      · subst e
        unfold BgQ
        refine ⟨by simp [ui_g], by simp [ui_g], by rw [ui_gs]; exact e3⟩
      · obtain ⟨q1, q2, q3⟩ := b2 q (by omega)
        unfold BgQ
        rw [ui_ne _ _ _ (by omega), ui_ne _ _ _ (by omega), ui_ne _ _ _ (by omega)]
        exact ⟨q1, q2, q3⟩
    · rw [nI_1, ixn (by omega), ixn (by omega)]; omega
theorem RelT.fr {p : Nat} {I' : MI} {V' : Nat → Int32} (h : RelT p I V) (hI : ∀ c, p ≤ c → c ≤ p + 4 → I' c = I c) (hV : ∀ k, k < 48 → V' k = V k) : RelT p I' V' := by
  obtain ⟨h1, h2, h3, h4, h5, h6, h7⟩ := h
  unfold RelT
  rw [hI p (by omega) (by omega), hI (p + 2) (by omega) (by omega), hI (p + 3) (by omega) (by omega), hI (p + 4) (by omega) (by omega), hV 0 (by omega), hV 47 (by omega)]
  refine ⟨h1, h2, h3, h4, fun q hq => ?_, fun c hc => ?_, fun r hr => ?_⟩
  · rw [hV _ (by omega)]; exact h5 q hq
  · rw [hV _ (by omega)]; exact h6 c hc
  · rw [hV _ (by omega)]; exact h7 r hr
/-- what was told, but for what is kept -/
def RelU (p : Nat) (I : MI) (V : Nat → Int32) : Prop := I p 2 = V 0 ∧ (∃ k, 1 ≤ k ∧ k ≤ 9 ∧ V 0 = nI k) ∧ (∀ q, q < 6 → I (p + 2) q = V (1 + q) ∧ ∃ k, 1 ≤ k ∧ k ≤ 6 ∧ V (1 + q) = nI k) ∧ (∀ c, c < 32 → I (p + 3) c = V (7 + c) ∧ bd (V (7 + c)) 1000) ∧ ∀ r, r < 8 → I (p + 4) r = V (39 + r) ∧ bd (V (39 + r)) 1000
theorem RelT.u {p : Nat} (h : RelT p I V) : RelU p I V := ⟨h.1, h.2.2.2.1, h.2.2.2.2.1, h.2.2.2.2.2.1, h.2.2.2.2.2.2⟩
theorem Rel.start {I' : MI} {A : Nat} (hR : RelR (m + 1) I V) (hD : RelD (m + 1) I V) (hT : RelU (m + 1) I V) (e49 : V 49 = nI A) (hid : ∀ s, s < 2 → I (m + 57 + 3 * s) 0 = nI s) (h15 : bln (I m 15)) (gQ : ∀ q, q < 6 → BgQ m q I I') (gS : ∀ s, s < 2 → BgS m s I I') (gM : BgM m I I') (gF : Frm m I I') : Rel m I' (vStart V A) ∧ RelW m I' (vStart V A) ∧ Tame (vStart V A) ∧ VFr V (vStart V A) := by
  have v0 : ∀ j, 218 ≤ j → j < 516 → j ≠ 250 → vStart V A j = 0 := fun j h1 h2 h3 => by
    unfold vStart; rw [upd_n _ _ (by omega), upd_n _ _ h3]; unfold vLay; rw [if_neg (by omega), if_pos (by omega)]
  have v1 : ∀ j, 172 ≤ j → j < 218 → vStart V A j = V (j - 171) := fun j h1 h2 => by
    unfold vStart; rw [upd_n _ _ (by omega), upd_n _ _ (by omega)]; unfold vLay; rw [if_pos ⟨h1, h2⟩]
  have v2 : vStart V A 170 = 0 ∧ vStart V A 171 = 0 := by
    unfold vStart; rw [upd_n _ _ (by omega), upd_n _ _ (by omega), upd_n _ _ (by omega), upd_n _ _ (by omega)]; unfold vLay; rw [if_neg (by omega), if_pos (by omega), if_neg (by omega), if_pos (by omega)]; exact ⟨rfl, rfl⟩
  have v3 : vStart V A 250 = -1 := by unfold vStart; rw [upd_n _ _ (by omega), upd_s]
  have vf : VFr V (vStart V A) := fun j hj => by
    by_cases e : j = 49
    · subst e; unfold vStart; rw [upd_s, e49]
    · unfold vStart; rw [upd_n _ _ e, upd_n _ _ (by omega), vLay_o hj]
  obtain ⟨t1, t4, t5, t6, t7⟩ := hT
  obtain ⟨n1, n2, n5, n6, n7, n8, n9, n10, n11, n12, n13, n14, n15⟩ := gM
  refine ⟨⟨hR.fr (fun c h1 h2 => gF c (by omega)) vf, hD.fr hR.2.1 (fun c h1 h2 => gF c (by omega)) vf, ?_, fun q hq => ?_, fun s hs => ?_⟩, fun s hs => ?_, fun _ => ?_, vf⟩
  · unfold RelM
    rw [n5, n6, n7, n8, n9, n10, n11, n12, n13, n14, n15, v2.1, v2.2, v3, v0 218 (by omega) (by omega) (by omega), v0 219 (by omega) (by omega) (by omega), v0 220 (by omega) (by omega) (by omega), v0 221 (by omega) (by omega) (by omega), v0 233 (by omega) (by omega) (by omega), v0 234 (by omega) (by omega) (by omega), v0 235 (by omega) (by omega) (by omega), v0 251 (by omega) (by omega) (by omega), vf 0 (by omega)]
    refine ⟨fun r hr => ?_, fun c hc => ?_, rfl, ⟨0, by omega, rfl⟩, rfl, ⟨0, by omega, rfl⟩, trivial, t1, t4, rfl, rfl, rfl, rfl, rfl, rfl, Or.inl rfl, rfl, ⟨0, by omega, rfl⟩, h15⟩
    · rw [n1 r hr, v1 _ (by omega) (by omega), show 210 + r - 171 = 39 + r by omega]; exact t7 r hr
    · rw [n2 c hc, v1 _ (by omega) (by omega), show 178 + c - 171 = 7 + c by omega]; exact t6 c hc
  · obtain ⟨q1, q2, q3⟩ := gQ q hq
    refine ⟨0, 0, by omega, by omega, by rw [v0 _ (by omega) (by omega) (by omega)]; rfl, q2, q1, ?_, ?_, fun j hj => by omega⟩
    · rw [q3, v1 _ (by omega) (by omega), show 172 + q - 171 = 1 + q by omega]; exact (t5 q hq).1
    · rw [v1 _ (by omega) (by omega), show 172 + q - 171 = 1 + q by omega]; exact (t5 q hq).2
  · obtain ⟨q1, q2, q3, q4⟩ := gS s hs
    unfold RelS
    rw [q1, q2 1 (by omega) (by omega), q2 2 (by omega) (by omega), q2 3 (by omega) (by omega), q2 4 (by omega) (by omega), q2 5 (by omega) (by omega), v0 (222 + 14 * s) (by omega) (by omega) (by omega), v0 (223 + 14 * s) (by omega) (by omega) (by omega), v0 (224 + 14 * s) (by omega) (by omega) (by omega), v0 (225 + 14 * s) (by omega) (by omega) (by omega), v0 (226 + 14 * s) (by omega) (by omega) (by omega)]
    refine ⟨hid s hs, ⟨0, 0, by omega, rfl, rfl, Or.inl rfl⟩, rfl, rfl, rfl, rfl, rfl, ⟨0, by omega, rfl⟩, fun r h1 h2 => ?_, fun i k hi hk => ?_⟩
    · rw [q3 r (by omega), v0 _ (by omega) (by omega) (by omega)]
    · rw [q4 _ (by omega), v0 _ (by omega) (by omega) (by omega)]
  · obtain ⟨q1, q2, q3, q4⟩ := gS s hs
    rw [q2 6 (by omega) (by omega), v0 _ (by omega) (by omega) (by omega)]
  · rw [v2.1]; exact ⟨0, by omega, rfl⟩
end
