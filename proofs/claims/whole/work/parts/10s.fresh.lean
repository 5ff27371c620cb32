/-! a new class and a new model, as the law wants them -/
section
variable {b : Nat} {u u0 u1 : MI} {us : Nat → MI}
theorem clM_0 {c : Nat} (h1 : b + 3 ≤ c) (h2 : c < b + 66) : clM b u0 u1 us c = u0 c := by unfold clM; rw [if_neg (by omega), if_pos (by omega)]
theorem clM_d {c : Nat} (h1 : b + 69 ≤ c) (h2 : c < b + 103) : clM b u0 u1 us c = clrM (b + 69) c := by unfold clM; rw [if_neg (by omega), if_neg (by omega), if_neg (by omega), if_pos (by omega)]
theorem clM_1 {c : Nat} (h1 : b + 111 ≤ c) (h2 : c < b + 174) : clM b u0 u1 us c = u1 c := by unfold clM; rw [if_neg (by omega), if_neg (by omega), if_neg (by omega), if_neg (by omega), if_neg (by omega), if_pos (by omega)]
theorem clM_s {j c : Nat} (hj : j < 3) (h1 : b + 181 + 65 * j ≤ c) (h2 : c < b + 181 + 65 * j + 63) : clM b u0 u1 us c = us j c := by
  have e1 : (c - (b + 179)) % 65 = c - (b + 179 + 65 * j) := by omega
  have e2 : (c - (b + 179)) / 65 = j := by omega
  unfold clM; rw [if_neg (by omega), if_neg (by omega), if_neg (by omega), if_neg (by omega), if_neg (by omega), if_neg (by omega), if_neg (by omega), if_neg (by omega), e2]
theorem clM_t : clM b u0 u1 us (b + 2) = fun _ => 0 := by
  unfold clM; rw [if_pos (by omega)]; funext k; rw [if_neg (by omega)]
theorem clM_f : clM b u0 u1 us (b + 67) = fun _ => 0 := by unfold clM; rw [if_neg (by omega), if_neg (by omega), if_pos (by omega)]
theorem clM_l : clM b u0 u1 us (b + 177) = fun _ => 0 := by unfold clM; rw [if_neg (by omega), if_neg (by omega), if_neg (by omega), if_neg (by omega), if_neg (by omega), if_neg (by omega), if_pos (by omega)]
theorem clM_w (k : Nat) : clM b u0 u1 us (b + 1) k = if k = 3 then -1 else 0 := by
  unfold clM; rw [if_pos (by omega)]
  by_cases h : k = 3
  · rw [if_pos ⟨rfl, h⟩, if_pos h]
  · rw [if_neg (fun c => h c.2), if_neg h]
theorem maM_sd (d : Nat) {s : Nat} (hs : s < 2) : maM d (d + 57 + 3 * s) 0 = nI s := by
  unfold maM
  rw [if_neg (by omega)]
  rcases (show s = 0 ∨ s = 1 by omega) with rfl | rfl
  · rw [if_neg (by omega)]; rfl
  · rw [if_pos ⟨by omega, rfl⟩]; rfl
theorem maM_15 (d : Nat) : maM d d 15 = 0 := by
  unfold maM clrM
  rw [if_pos (by omega), ui_gn _ _ _ _ (by omega), uf_ne _ _ _ (by omega), uf_ne _ _ _ (by omega), uf_ne _ _ _ (by omega), ui_gn _ _ _ _ (by omega), ui_gn _ _ _ _ (by omega), ui_gn _ _ _ _ (by omega)]
  unfold prI; rw [if_neg (by omega)]
theorem MShp.ma {d : Nat} {v : MI} (h : MaOK d v) : MShp d v := by
  obtain ⟨-, -, -, -, -, -, -, -, -, -, -, -, h15⟩ := h.2.2.1
  exact ⟨(clr_R (p := d + 1) (fun c c1 c2 => maOK_pr h (by omega) (by omega))).2.2.2.2, fun s hs => by rw [(h.2.1 s hs).1]; exact maM_sd d hs, by rw [h15]; exact Or.inl (maM_15 d)⟩
theorem cl_ClI (h : ClOK b u) : ClI b u (vStart vClr 0, fun _ => 0, 0, 0, -1) (fun _ => none) := by
  obtain ⟨u0, u1, us, h0, h1, hs, hR, hD, hF, hF4⟩ := h
  have eo : ∀ c, c ≠ b + 4 → c ≠ b + 9 → c ≠ b + 10 → c ≠ b + 11 → u c = clM b u0 u1 us c := fun c c1 c2 c3 c4 => hF c c1 (by omega) (by omega) (by omega)
  have eM : ∀ c, b + 3 ≤ c → c < b + 66 → (c < b + 4 ∨ b + 38 ≤ c) → u c = u0 c := fun c c1 c2 c3 => (eo c (by omega) (by omega) (by omega) (by omega)).trans (clM_0 c1 c2)
  have eT : ∀ c, b + 6 ≤ c → c ≤ b + 8 → u c = clrM (b + 4) c := fun c c1 c2 => (eo c (by omega) (by omega) (by omega) (by omega)).trans ((clM_0 (by omega) (by omega)).trans (maOK_pr h0 (by omega) (by omega)))
  have e4 : ∀ j, j ≠ 4 → u (b + 4) j = clrM (b + 4) (b + 4) j := fun j hj => by
    rw [hF4 j hj, clM_0 (by omega) (by omega)]
    exact congrFun (maOK_pr h0 (c := b + 4) (by omega) (by omega)) j
  have t2 : ∀ q, q < 6 → u (b + 6) q = 4 := fun q hq => by
    rw [eT _ (by omega) (by omega)]
    unfold clrM
    rw [ui_gn _ _ _ _ (by omega), uf_ne _ _ _ (by omega), uf_ne _ _ _ (by omega), show b + 6 = b + 4 + 2 by omega, uf_at]
    exact if_pos hq
  have t3 : ∀ q, q < 32 → u (b + 7) q = 0 := fun q hq => by
    rw [eT _ (by omega) (by omega)]
    unfold clrM
    rw [ui_gn _ _ _ _ (by omega), uf_ne _ _ _ (by omega), show b + 7 = b + 4 + 3 by omega, uf_at]
    exact if_pos hq
  have t4 : ∀ q, q < 8 → u (b + 8) q = 0 := fun q hq => by
    rw [eT _ (by omega) (by omega)]
    unfold clrM
    rw [ui_gn _ _ _ _ (by omega), show b + 8 = b + 4 + 4 by omega, uf_at]
    exact if_pos hq
  have v2 : ∀ q, q < 6 → vClr (1 + q) = 4 := fun q hq => by unfold vClr; rw [if_neg (by omega), if_pos (by omega)]
  have v3 : ∀ q, 7 ≤ q → vClr q = 0 := fun q hq => by unfold vClr; rw [if_neg (by omega), if_neg (by omega)]
  have hT : RelT (b + 4) u vClr := by
    refine ⟨?_, ?_, ⟨0, by omega, by decide⟩, ⟨3, by omega, by omega, by decide⟩, fun q hq => ⟨(t2 q hq).trans (v2 q hq).symm, ⟨4, by omega, by omega, (v2 q hq).trans (by decide)⟩⟩, fun c hc => ⟨(t3 c hc).trans (v3 _ (by omega)).symm, ⟨0, by omega, (v3 _ (by omega)).trans (by decide)⟩⟩, fun r hr => ⟨(t4 r hr).trans (v3 _ (by omega)).symm, ⟨0, by omega, (v3 _ (by omega)).trans (by decide)⟩⟩⟩
    · rw [e4 2 (by omega), clr_p, ui_gj _ _ _ (by omega), ui_gs]; decide
    · rw [e4 3 (by omega), clr_p, ui_gs]; decide
  obtain ⟨J0, jA, jB⟩ : ∃ J0 : MI, (∀ c, b + 3 ≤ c → c < b + 66 → (c < b + 4 ∨ b + 38 ≤ c) → J0 c = maM (b + 3) c) ∧ ∀ c, (c < b + 3 ∨ b + 66 ≤ c ∨ (b + 4 ≤ c ∧ c ≤ b + 37)) → J0 c = u c :=
    ⟨fun c => if b + 3 ≤ c ∧ c < b + 66 ∧ (c < b + 4 ∨ b + 38 ≤ c) then maM (b + 3) c else u c, fun c c1 c2 c3 => if_pos ⟨c1, c2, c3⟩, fun c hc => if_neg (by omega)⟩
  have mP : ∀ c, b + 4 ≤ c → c ≤ b + 37 → maM (b + 3) c = clrM (b + 4) c := fun c c1 c2 => by funext k; unfold maM; rw [if_pos (by omega)]
  have jT : ∀ c, b + 6 ≤ c → c ≤ b + 8 → J0 c = maM (b + 3) c := fun c c1 c2 => by rw [jB c (by omega), eT c c1 c2, mP c (by omega) (by omega)]
  have j4 : J0 (b + 4) 2 = maM (b + 3) (b + 4) 2 := by rw [jB _ (by omega), e4 2 (by omega), mP _ (by omega) (by omega)]
  have gQ : ∀ q, q < 6 → BgQ (b + 3) q J0 u := fun q hq => by
    obtain ⟨x1, x2, x3⟩ := h0.1 q hq
    have e := eM (b + 3 + 39 + 3 * q) (by omega) (by omega) (by omega)
    exact ⟨by rw [e]; exact x1, by rw [e]; exact x2, by rw [e, jT _ (by omega) (by omega)]; exact x3⟩
  have gS : ∀ s, s < 2 → BgS (b + 3) s J0 u := fun s hs' => by
    obtain ⟨x1, x2, x3, x4⟩ := h0.2.1 s hs'
    refine ⟨?_, fun j j1 j2 => ?_, fun j hj => ?_, fun j hj => ?_⟩
    · rw [eM _ (by omega) (by omega) (by omega), jA _ (by omega) (by omega) (by omega)]; exact x1
    · rw [eM _ (by omega) (by omega) (by omega)]; exact x2 j j1 j2
    · rw [eM _ (by omega) (by omega) (by omega)]; exact x3 j hj
    · rw [eM _ (by omega) (by omega) (by omega)]; exact x4 j hj
  have gM : BgM (b + 3) J0 u := by
    obtain ⟨x1, x2, y5, y6, y7, y8, y9, y10, y11, y12, y13, y14, y15⟩ := h0.2.2.1
    have e := eM (b + 3) (by omega) (by omega) (by omega)
    refine ⟨fun r hr => ?_, fun c hc => ?_, by rw [e]; exact y5, by rw [e]; exact y6, ?_, by rw [e]; exact y8, by rw [e]; exact y9, by rw [e]; exact y10, by rw [e]; exact y11, by rw [e]; exact y12, by rw [e]; exact y13, by rw [e]; exact y14, by rw [e, jA _ (by omega) (by omega) (by omega)]; exact y15⟩
    · rw [eM _ (by omega) (by omega) (by omega), jT _ (by omega) (by omega)]; exact x1 r hr
    · rw [eM _ (by omega) (by omega) (by omega), jT _ (by omega) (by omega)]; exact x2 c hc
    · rw [e]; exact y7.trans j4.symm
  obtain ⟨r1, r2, r3, r4⟩ := Rel.start (m := b + 3) (I := J0) (I' := u) (V := vClr) (A := 0) (RelR.fr hR (fun c c1 c2 => jB c (by omega)) VFr.rf) (RelD.fr hD hR.2.1 (fun c c1 c2 => jB c (by omega)) VFr.rf) (RelT.fr hT (fun c c1 c2 => jB c (by omega)) (fun _ _ => rfl)).u (by decide) (fun s hs' => by rw [jA _ (by omega) (by omega) (by omega)]; exact maM_sd (b + 3) hs') (by rw [jA _ (by omega) (by omega) (by omega)]; exact Or.inl (maM_15 _)) gQ gS gM (fun c hc => (jB c (by omega)).symm)
  have ew : ∀ k, u (b + 1) k = if k = 3 then -1 else 0 := fun k => by rw [eo _ (by omega) (by omega) (by omega) (by omega)]; exact clM_w k
  refine ⟨⟨⟨r1, RelT.fr hT (fun _ _ _ => rfl) (fun k hk => r4 k (by omega)), r2, r3, AmOK.fr ⟨0, 0, by omega, by decide, isL_clr, by decide⟩ (by decide) r4⟩, (ew 1).trans (by decide), Nat.zero_le 600, fun j hj => ⟨?_, show 0 < 256 by omega⟩, (ew 2).trans (by decide), (ew 3).trans (by decide)⟩, TrOK.shp ((MShp.ma h1).fr (fun c c1 c2 => (eo c (by omega) (by omega) (by omega) (by omega)).trans (clM_1 (by omega) (by omega)))), (clr_R (p := b + 69) (fun c c1 c2 => (eo c (by omega) (by omega) (by omega) (by omega)).trans (clM_d (by omega) (by omega)))).2.2.2.2, ⟨[], ?_⟩, fun k hk => ⟨(MShp.ma (hs k hk)).fr (fun c c1 c2 => (eo c (by omega) (by omega) (by omega) (by omega)).trans (clM_s hk (by omega) (by omega))), Or.inl ⟨rfl, ?_⟩⟩⟩
  · show u (b + 2) j = byS 0
    rw [eo _ (by omega) (by omega) (by omega) (by omega), clM_t]; rfl
  · have e := eo (b + 177) (by omega) (by omega) (by omega) (by omega)
    refine ⟨by rw [e, clM_l], by rw [e, clM_l]; rfl, Nat.zero_le _, fun j c hj => by simp at hj⟩
  · rw [eo _ (by omega) (by omega) (by omega) (by omega), clM_f]
theorem mo_MdI {o : Nat} {v : MI} (h : MoOK o v) : MdI o v (vStart vClr 0, fun _ => 0, 0, 0, -1) (fun _ => none) := by
  obtain ⟨A, hA, rfl⟩ := h
  have : A = 0 := hA.uq isL_clr
  subst this
  refine ⟨⟨fun j hj => ?_, ⟨?_, fun k hk => ?_⟩, ?_, ?_⟩, fun k hk => Or.inl ⟨rfl, ?_⟩⟩
  · have := kb_at (moM o) (o + 1) 0 (vStart vClr 0) hj
    rw [Nat.zero_add] at this
    exact this
  · rw [kb_ne _ _ (by omega)]; unfold moM; rw [if_neg (by omega)]; rfl
  · rw [kb_ne _ _ (by omega)]; unfold moM; rw [if_neg (by omega)]; rfl
  · rw [kb_ne _ _ (by omega)]; unfold moM; rw [if_neg (by omega)]
  · rw [kb_ne _ _ (by omega)]; unfold moM; rw [if_pos ⟨rfl, rfl⟩]
  · rw [kb_ne _ _ (by omega)]; unfold moM; rw [if_neg (by omega)]
end
