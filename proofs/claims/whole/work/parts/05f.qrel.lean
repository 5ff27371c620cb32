section
variable {m q n f : Nat} {I : MI} {V : Nat → Int32} {x y z mk : Int32}
theorem vPush_o (e : V (252 + 19 * q) = nI n) (hn : n < 7) {k : Nat} (h1 : k ≠ 252 + 19 * q) (h2 : k < 253 + 19 * q + 3 * n ∨ 255 + 19 * q + 3 * n < k) : vPush V q x y z k = V k := by
  unfold vPush
  rw [e, ixn (by omega), upd_n _ _ h1, upd_n _ _ (by omega), upd_n _ _ (by omega), upd_n _ _ (by omega)]
theorem vPush_c (e : V (252 + 19 * q) = nI n) : vPush V q x y z (252 + 19 * q) = nI (n + 1) := by
  unfold vPush
  rw [upd_s, e, nI_1]
theorem vPush_x (e : V (252 + 19 * q) = nI n) (hn : n < 7) : vPush V q x y z (253 + 19 * q + 3 * n) = x ∧ vPush V q x y z (254 + 19 * q + 3 * n) = y ∧ vPush V q x y z (255 + 19 * q + 3 * n) = z := by
  unfold vPush
  rw [e, ixn (by omega)]
  refine ⟨?_, ?_, ?_⟩
  · rw [upd_n _ _ (by omega), upd_n _ _ (by omega), upd_n _ _ (by omega), upd_s]
  · rw [upd_n _ _ (by omega), upd_n _ _ (by omega), upd_s]
  · rw [upd_n _ _ (by omega), upd_s]
theorem vTake_o {k : Nat} (h : k < 252 + 19 * q ∨ 268 + 19 * q ≤ k) : vTake V q k = V k := by
  unfold vTake
  rw [if_neg (by omega), if_neg (by omega)]
theorem vTake_c (e : V (252 + 19 * q) = nI n) (hn : 0 < n) : vTake V q (252 + 19 * q) = nI (n - 1) := by
  unfold vTake
  rw [if_neg (by omega), if_pos rfl, e, sub1 hn]
theorem vTake_x {k : Nat} (h : 253 + 19 * q ≤ k) (h2 : k < 268 + 19 * q) : vTake V q k = V (k + 3) := by
  unfold vTake
  rw [if_pos ⟨h, h2⟩]
theorem qAdd_o {a c : Nat} (h : c < a ∨ a + 2 < c) : qAdd I a f n x mk c = I c := by
  unfold qAdd
  rw [ui_ne _ _ _ (by omega), ui_ne _ _ _ (by omega), ui_ne _ _ _ (by omega)]
theorem qTake_o {a c : Nat} (h : c ≠ a) : qTake I a f n c = I c := by
  unfold qTake
  rw [ui_ne _ _ _ h, ui_ne _ _ _ h]
theorem RelQ.push (hn : n < 6) (hf : f < 6) (e1 : V (252 + 19 * q) = nI n) (e2 : I (m + 39 + 3 * q) 3 = nI n) (e3 : I (m + 39 + 3 * q) 2 = nI f) (e4 : I (m + 39 + 3 * q) 4 = V (172 + q)) (e5 : ∃ k, 1 ≤ k ∧ k ≤ 6 ∧ V (172 + q) = nI k) (hq : q < 6)
    (hj : ∀ j, j < n → I (m + 40 + 3 * q) ((f + j) % 6) = V (253 + 19 * q + 3 * j) ∧ EntR q (V (253 + 19 * q + 3 * j)) (V (254 + 19 * q + 3 * j)) (V (255 + 19 * q + 3 * j)) (I (m + 41 + 3 * q) ((f + j) % 6))) (hE : EntR q x y z mk) : RelQ m q (qAdd I (m + 39 + 3 * q) f n x mk) (vPush V q x y z) := by
  have a1 : m + 39 + 3 * q + 1 = m + 40 + 3 * q := by omega
  have a2 : m + 39 + 3 * q + 2 = m + 41 + 3 * q := by omega
  refine ⟨n + 1, f, by omega, hf, vPush_c e1, ?_, ?_, ?_, ?_, fun j hj2 => ?_⟩
  · unfold qAdd; rw [ui_gs]
  · unfold qAdd; rw [ui_gj _ _ _ (by omega), ui_gn _ _ _ _ (by omega), ui_gn _ _ _ _ (by omega)]; exact e3
  · unfold qAdd; rw [ui_gj _ _ _ (by omega), ui_gn _ _ _ _ (by omega), ui_gn _ _ _ _ (by omega), vPush_o e1 (by omega) (by omega) (by omega)]; exact e4
  · rw [vPush_o e1 (by omega) (by omega) (by omega)]; exact e5
  · by_cases e : j = n
    · subst e
      obtain ⟨p1, p2, p3⟩ := vPush_x (x := x) (y := y) (z := z) e1 (by omega)
      rw [p1, p2, p3]
      unfold qAdd
      rw [a1, a2]
      refine ⟨?_, ?_⟩
      · rw [ui_gn _ _ _ _ (by omega), ui_gn _ _ _ _ (by omega), ui_gs]
      · rw [ui_gn _ _ _ _ (by omega), ui_gs]; exact hE
    · rw [vPush_o e1 (by omega) (by omega) (by omega), vPush_o e1 (by omega) (by omega) (by omega), vPush_o e1 (by omega) (by omega) (by omega)]
      have hne : (f + j) % 6 ≠ (f + n) % 6 := by omega
      unfold qAdd
      rw [a1, a2, ui_gn _ _ _ _ (by omega), ui_gn _ _ _ _ (by omega), ui_gj _ _ _ hne, ui_gn _ _ _ _ (by omega), ui_gj _ _ _ hne, ui_gn _ _ _ _ (by omega)]
      exact hj j (by omega)
theorem RelQ.take (hn : 0 < n) (hn6 : n ≤ 6) (hf : f < 6) (e1 : V (252 + 19 * q) = nI n) (e2 : I (m + 39 + 3 * q) 3 = nI n) (e4 : I (m + 39 + 3 * q) 4 = V (172 + q)) (e5 : ∃ k, 1 ≤ k ∧ k ≤ 6 ∧ V (172 + q) = nI k) (hq : q < 6)
    (hj : ∀ j, j < n → I (m + 40 + 3 * q) ((f + j) % 6) = V (253 + 19 * q + 3 * j) ∧ EntR q (V (253 + 19 * q + 3 * j)) (V (254 + 19 * q + 3 * j)) (V (255 + 19 * q + 3 * j)) (I (m + 41 + 3 * q) ((f + j) % 6))) : RelQ m q (qTake I (m + 39 + 3 * q) f n) (vTake V q) := by
  have h6 : (f + 1) % 6 < 6 := Nat.mod_lt _ (by omega)
  refine ⟨n - 1, (f + 1) % 6, by omega, h6, vTake_c e1 hn, ?_, ?_, ?_, ?_, fun j hj2 => ?_⟩
  · unfold qTake; rw [ui_gs]
  · unfold qTake; rw [ui_gj _ _ _ (by omega), ui_gs]
  · unfold qTake; rw [ui_gj _ _ _ (by omega), ui_gj _ _ _ (by omega), vTake_o (by omega)]; exact e4
  · rw [vTake_o (by omega)]; exact e5
  · have h := hj (j + 1) (by omega)
    have ei : ((f + 1) % 6 + j) % 6 = (f + (j + 1)) % 6 := by omega
    rw [vTake_x (by omega) (by omega), vTake_x (by omega) (by omega), vTake_x (by omega) (by omega), show 253 + 19 * q + 3 * j + 3 = 253 + 19 * q + 3 * (j + 1) by omega, show 254 + 19 * q + 3 * j + 3 = 254 + 19 * q + 3 * (j + 1) by omega, show 255 + 19 * q + 3 * j + 3 = 255 + 19 * q + 3 * (j + 1) by omega, ei, qTake_o (by omega), qTake_o (by omega)]
    exact h
/-- the rest of the machine, when a queue changes -/
theorem Rel.set {m : Nat} {I I' : MI} {V V' : Nat → Int32} (h : Rel m I V) (hF : Frm m I I') (hV : VFr V V') (h3 : RelM m I' V') (h4 : ∀ q, q < 6 → RelQ m q I' V') (h5 : ∀ s, s < 2 → RelS m s I' V') : Rel m I' V' := by
  obtain ⟨g1, g2, g3, g4, g5⟩ := h
  have hI : ∀ c, m + 1 ≤ c → c ≤ m + 1 + 33 → I' c = I c := fun c h1 h2 => hF c (Or.inr (Or.inr ⟨h1, by omega⟩))
  exact ⟨g1.fr hI hV, g2.fr g1.2.1 hI hV, h3, h4, h5⟩
end
