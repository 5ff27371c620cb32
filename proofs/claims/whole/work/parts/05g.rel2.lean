/-! single changes keep the relation -/
section
variable {m : Nat} {I : MI} {V : Nat → Int32}
theorem RelM.fr {I' : MI} {V' : Nat → Int32} (h : RelM m I V) (h35 : I' (m + 35) = I (m + 35)) (h36 : I' (m + 36) = I (m + 36)) (hI : ∀ k, 5 ≤ k → k ≤ 15 → I' m k = I m k) (hV : ∀ k, (k = 0 ∨ (170 ≤ k ∧ k < 172) ∨ (178 ≤ k ∧ k ≤ 221) ∨ (233 ≤ k ∧ k ≤ 235) ∨ k = 250 ∨ k = 251) → V' k = V k) : RelM m I' V' := by
  obtain ⟨a1, a2, a3, a4, a5, a6, a7, a8, a9, a10, a11, a12, a13, a14, a15, a16, a17, a18, a19⟩ := h
  unfold RelM
  rw [h35, h36, hI 5 (by omega) (by omega), hI 6 (by omega) (by omega), hI 7 (by omega) (by omega), hI 8 (by omega) (by omega), hI 9 (by omega) (by omega), hI 10 (by omega) (by omega), hI 11 (by omega) (by omega), hI 12 (by omega) (by omega), hI 13 (by omega) (by omega), hI 14 (by omega) (by omega), hI 15 (by omega) (by omega)]
  rw [hV 0 (by omega), hV 170 (by omega), hV 171 (by omega), hV 218 (by omega), hV 219 (by omega), hV 220 (by omega), hV 221 (by omega), hV 233 (by omega), hV 234 (by omega), hV 235 (by omega), hV 250 (by omega), hV 251 (by omega)]
  exact ⟨fun r hr => by rw [hV (210 + r) (by omega)]; exact a1 r hr, fun c hc => by rw [hV (178 + c) (by omega)]; exact a2 c hc, a3, a4, a5, a6, a7, a8, a9, a10, a11, a12, a13, a14, a15, a16, a17, a18, a19⟩
theorem RelM.cell {c : Nat} {v : Int32} (h : RelM m I V) (hc : c < 32) (hv : bd v 1000) : RelM m (ui I (m + 36) c v) (upd V (178 + c) v) := by
  have h0 : RelM m I (upd V (178 + c) v) → RelM m (ui I (m + 36) c v) (upd V (178 + c) v) → True := fun _ _ => trivial
  obtain ⟨a1, a2, a3, a4, a5, a6, a7, a8, a9, a10, a11, a12, a13, a14, a15, a16, a17, a18, a19⟩ := h
  have hV : ∀ k, (k < 178 ∨ 210 ≤ k) → upd V (178 + c) v k = V k := fun k hk => upd_n _ _ (by omega)
  have hI : ∀ b, b ≠ m + 36 → ui I (m + 36) c v b = I b := fun b hb => ui_ne _ _ _ hb
  unfold RelM
  rw [hI m (by omega), hI (m + 35) (by omega), hV 0 (by omega), hV 170 (by omega), hV 171 (by omega), hV 218 (by omega), hV 219 (by omega), hV 220 (by omega), hV 221 (by omega), hV 233 (by omega), hV 234 (by omega), hV 235 (by omega), hV 250 (by omega), hV 251 (by omega)]
  refine ⟨fun r hr => by rw [hV (210 + r) (by omega)]; exact a1 r hr, fun d hd => ?_, a3, a4, a5, a6, a7, a8, a9, a10, a11, a12, a13, a14, a15, a16, a17, a18, a19⟩
  by_cases e : d = c
  · subst e; rw [ui_gs, upd_s]; exact ⟨rfl, hv⟩
  · rw [ui_gj _ _ _ e, upd_n _ _ (by omega)]; exact a2 d hd
theorem RelM.reg {r : Nat} {v : Int32} (h : RelM m I V) (hr : r < 8) (hv : bd v 1000) : RelM m (ui I (m + 35) r v) (upd V (210 + r) v) := by
  obtain ⟨a1, a2, a3, a4, a5, a6, a7, a8, a9, a10, a11, a12, a13, a14, a15, a16, a17, a18, a19⟩ := h
  have hV : ∀ k, (k < 210 ∨ 218 ≤ k) → upd V (210 + r) v k = V k := fun k hk => upd_n _ _ (by omega)
  have hI : ∀ b, b ≠ m + 35 → ui I (m + 35) r v b = I b := fun b hb => ui_ne _ _ _ hb
  unfold RelM
  rw [hI m (by omega), hI (m + 36) (by omega), hV 0 (by omega), hV 170 (by omega), hV 171 (by omega), hV 218 (by omega), hV 219 (by omega), hV 220 (by omega), hV 221 (by omega), hV 233 (by omega), hV 234 (by omega), hV 235 (by omega), hV 250 (by omega), hV 251 (by omega)]
  refine ⟨fun d hd => ?_, fun c hc => by rw [hV (178 + c) (by omega)]; exact a2 c hc, a3, a4, a5, a6, a7, a8, a9, a10, a11, a12, a13, a14, a15, a16, a17, a18, a19⟩
  by_cases e : d = r
  · subst e; rw [ui_gs, upd_s]; exact ⟨rfl, hv⟩
  · rw [ui_gj _ _ _ e, upd_n _ _ (by omega)]; exact a1 d hd
theorem RelM.wrote (h : RelM m I V) : RelM m (ui I m 12 (I m 12 + 1)) (upd V 221 (V 221 + 1)) := by
  obtain ⟨a1, a2, a3, a4, a5, a6, a7, a8, a9, a10, a11, a12, a13, a14, a15, a16, a17, a18, a19⟩ := h
  have hV : ∀ k, k ≠ 221 → upd V 221 (V 221 + 1) k = V k := fun k hk => upd_n _ _ hk
  have hJ : ∀ k, k ≠ 12 → ui I m 12 (I m 12 + 1) m k = I m k := fun k hk => ui_gj _ _ _ hk
  unfold RelM
  rw [ui_ne _ _ _ (show m + 35 ≠ m by omega), ui_ne _ _ _ (show m + 36 ≠ m by omega), hJ 5 (by omega), hJ 6 (by omega), hJ 7 (by omega), hJ 8 (by omega), hJ 9 (by omega), hJ 10 (by omega), hJ 11 (by omega), hJ 13 (by omega), hJ 14 (by omega), hJ 15 (by omega), ui_gs, upd_s, hV 0 (by omega), hV 170 (by omega), hV 171 (by omega), hV 218 (by omega), hV 219 (by omega), hV 220 (by omega), hV 233 (by omega), hV 234 (by omega), hV 235 (by omega), hV 250 (by omega), hV 251 (by omega)]
  exact ⟨fun r hr => by rw [hV (210 + r) (by omega)]; exact a1 r hr, fun c hc => by rw [hV (178 + c) (by omega)]; exact a2 c hc, a3, a4, a5, a6, a7, a8, a9, a10, a11, a12, a13, by rw [a14], a15, a16, a17, a18, a19⟩
theorem RelM.stir {x : Int32} (h : RelM m I V) (hx : bln x) : RelM m (ui I m 15 x) V := by
  obtain ⟨a1, a2, a3, a4, a5, a6, a7, a8, a9, a10, a11, a12, a13, a14, a15, a16, a17, a18, a19⟩ := h
  have hJ : ∀ k, k ≠ 15 → ui I m 15 x m k = I m k := fun k hk => ui_gj _ _ _ hk
  unfold RelM
  rw [ui_ne _ _ _ (show m + 35 ≠ m by omega), ui_ne _ _ _ (show m + 36 ≠ m by omega), hJ 5 (by omega), hJ 6 (by omega), hJ 7 (by omega), hJ 8 (by omega), hJ 9 (by omega), hJ 10 (by omega), hJ 11 (by omega), hJ 12 (by omega), hJ 13 (by omega), hJ 14 (by omega), ui_gs]
  exact ⟨a1, a2, a3, a4, a5, a6, a7, a8, a9, a10, a11, a12, a13, a14, a15, a16, a17, a18, hx⟩
theorem RelM.began {x : Int32} (h : RelM m I V) (hx : x = -1 ∨ bd x 1000) : RelM m (ui I m 13 x) (upd V 250 x) := by
  obtain ⟨a1, a2, a3, a4, a5, a6, a7, a8, a9, a10, a11, a12, a13, a14, a15, a16, a17, a18, a19⟩ := h
  have hV : ∀ k, k ≠ 250 → upd V 250 x k = V k := fun k hk => upd_n _ _ hk
  have hJ : ∀ k, k ≠ 13 → ui I m 13 x m k = I m k := fun k hk => ui_gj _ _ _ hk
  unfold RelM
  rw [ui_ne _ _ _ (show m + 35 ≠ m by omega), ui_ne _ _ _ (show m + 36 ≠ m by omega), hJ 5 (by omega), hJ 6 (by omega), hJ 7 (by omega), hJ 8 (by omega), hJ 9 (by omega), hJ 10 (by omega), hJ 11 (by omega), hJ 12 (by omega), hJ 14 (by omega), hJ 15 (by omega), ui_gs, upd_s, hV 0 (by omega), hV 170 (by omega), hV 171 (by omega), hV 218 (by omega), hV 219 (by omega), hV 220 (by omega), hV 221 (by omega), hV 233 (by omega), hV 234 (by omega), hV 235 (by omega), hV 251 (by omega)]
  exact ⟨fun r hr => by rw [hV (210 + r) (by omega)]; exact a1 r hr, fun c hc => by rw [hV (178 + c) (by omega)]; exact a2 c hc, a3, a4, a5, a6, a7, a8, a9, a10, a11, a12, a13, a14, rfl, hx, a17, a18, a19⟩
theorem RelM.brings {x : Int32} (h : RelM m I V) (hx : bd x 1000) : RelM m (ui I m 14 x) (upd V 251 x) := by
  obtain ⟨a1, a2, a3, a4, a5, a6, a7, a8, a9, a10, a11, a12, a13, a14, a15, a16, a17, a18, a19⟩ := h
  have hV : ∀ k, k ≠ 251 → upd V 251 x k = V k := fun k hk => upd_n _ _ hk
  have hJ : ∀ k, k ≠ 14 → ui I m 14 x m k = I m k := fun k hk => ui_gj _ _ _ hk
  unfold RelM
  rw [ui_ne _ _ _ (show m + 35 ≠ m by omega), ui_ne _ _ _ (show m + 36 ≠ m by omega), hJ 5 (by omega), hJ 6 (by omega), hJ 7 (by omega), hJ 8 (by omega), hJ 9 (by omega), hJ 10 (by omega), hJ 11 (by omega), hJ 12 (by omega), hJ 13 (by omega), hJ 15 (by omega), ui_gs, upd_s, hV 0 (by omega), hV 170 (by omega), hV 171 (by omega), hV 218 (by omega), hV 219 (by omega), hV 220 (by omega), hV 221 (by omega), hV 233 (by omega), hV 234 (by omega), hV 235 (by omega), hV 250 (by omega)]
  exact ⟨fun r hr => by rw [hV (210 + r) (by omega)]; exact a1 r hr, fun c hc => by rw [hV (178 + c) (by omega)]; exact a2 c hc, a3, a4, a5, a6, a7, a8, a9, a10, a11, a12, a13, a14, a15, a16, rfl, hx, a19⟩
/-- a change of the machine's own numbers -/
theorem Rel.mm {c k j : Nat} {v x : Int32} (h : Rel m I V) (hc : c = m ∨ c = m + 35 ∨ c = m + 36) (hj : (170 ≤ j ∧ j < 172) ∨ (178 ≤ j ∧ j < 222) ∨ (250 ≤ j ∧ j < 252)) (hM : RelM m (ui I c k v) (upd V j x)) : Rel m (ui I c k v) (upd V j x) := by
  have hb := h.1.2.1
  have hV : VFr V (upd V j x) := VFr.up (by omega)
  exact h.set (Frm.ui (by omega) (by omega) (by omega)) hV hM (fun q hq => (h.2.2.2.1 q hq).fr (fun d hd => ui_ne _ _ _ (by omega)) (upd_n _ _ (by omega)) (fun d hd => upd_n _ _ (by omega))) (fun s hs => (h.2.2.2.2 s hs).fr hb hs (fun d hd => ui_ne _ _ _ (by omega)) hV (fun d hd _ => upd_n _ _ (by omega)) (fun d hd => upd_n _ _ (by omega)))
theorem Rel.mz {c k : Nat} {v : Int32} (h : Rel m I V) (hc : c = m ∨ c = m + 35 ∨ c = m + 36) (hM : RelM m (ui I c k v) V) : Rel m (ui I c k v) V :=
  h.set (Frm.ui (by omega) (by omega) (by omega)) VFr.rf hM (fun q hq => (h.2.2.2.1 q hq).fr (fun d hd => ui_ne _ _ _ (by omega)) rfl (fun d hd => rfl)) (fun s hs => (h.2.2.2.2 s hs).fr h.1.2.1 hs (fun d hd => ui_ne _ _ _ (by omega)) VFr.rf (fun d hd _ => rfl) (fun d hd => rfl))
theorem vPush_vfr {q n : Nat} {x y z : Int32} (e : V (252 + 19 * q) = nI n) (hn : n < 7) : VFr V (vPush V q x y z) := fun k hk => vPush_o e hn (by omega) (by omega)
theorem vTake_vfr {q : Nat} : VFr V (vTake V q) := fun k hk => vTake_o (by omega)
theorem qAdd_frm {q f n : Nat} {x mk : Int32} (hq : q < 6) : Frm m I (qAdd I (m + 39 + 3 * q) f n x mk) := fun c hc => qAdd_o (by omega)
theorem qTake_frm {q f n : Nat} (hq : q < 6) : Frm m I (qTake I (m + 39 + 3 * q) f n) := fun c hc => qTake_o (by omega)
theorem Rel.push {q n f : Nat} {x y z mk : Int32} (h : Rel m I V) (hq : q < 6) (hn : n < 6) (hf : f < 6) (e1 : V (252 + 19 * q) = nI n) (e2 : I (m + 39 + 3 * q) 3 = nI n) (e3 : I (m + 39 + 3 * q) 2 = nI f) (e4 : I (m + 39 + 3 * q) 4 = V (172 + q)) (e5 : ∃ k, 1 ≤ k ∧ k ≤ 6 ∧ V (172 + q) = nI k)
    (hj : ∀ j, j < n → I (m + 40 + 3 * q) ((f + j) % 6) = V (253 + 19 * q + 3 * j) ∧ EntR q (V (253 + 19 * q + 3 * j)) (V (254 + 19 * q + 3 * j)) (V (255 + 19 * q + 3 * j)) (I (m + 41 + 3 * q) ((f + j) % 6))) (hE : EntR q x y z mk) : Rel m (qAdd I (m + 39 + 3 * q) f n x mk) (vPush V q x y z) := by
  have hv := vPush_vfr (x := x) (y := y) (z := z) e1 (by omega)
  refine h.set (qAdd_frm hq) hv (h.2.2.1.fr (qAdd_o (by omega)) (qAdd_o (by omega)) (fun k _ _ => by rw [qAdd_o (by omega)]) (fun k hk => vPush_o e1 (by omega) (by omega) (by omega))) (fun q' hq' => ?_) (fun s hs => (h.2.2.2.2 s hs).fr h.1.2.1 hs (fun d hd => qAdd_o (by omega)) hv (fun d hd _ => vPush_o e1 (by omega) (by omega) (by omega)) (fun d hd => vPush_o e1 (by omega) (by omega) (by omega)))
  by_cases e : q' = q
  · subst e; exact RelQ.push hn hf e1 e2 e3 e4 e5 hq hj hE
  · exact (h.2.2.2.1 q' hq').fr (fun d hd => qAdd_o (by omega)) (vPush_o e1 (by omega) (by omega) (by omega)) (fun d hd => vPush_o e1 (by omega) (by omega) (by omega))
theorem Rel.take {q n f : Nat} (h : Rel m I V) (hq : q < 6) (hn : 0 < n) (hn6 : n ≤ 6) (hf : f < 6) (e1 : V (252 + 19 * q) = nI n) (e2 : I (m + 39 + 3 * q) 3 = nI n) (e4 : I (m + 39 + 3 * q) 4 = V (172 + q)) (e5 : ∃ k, 1 ≤ k ∧ k ≤ 6 ∧ V (172 + q) = nI k)
    (hj : ∀ j, j < n → I (m + 40 + 3 * q) ((f + j) % 6) = V (253 + 19 * q + 3 * j) ∧ EntR q (V (253 + 19 * q + 3 * j)) (V (254 + 19 * q + 3 * j)) (V (255 + 19 * q + 3 * j)) (I (m + 41 + 3 * q) ((f + j) % 6))) : Rel m (qTake I (m + 39 + 3 * q) f n) (vTake V q) := by
  have hv : VFr V (vTake V q) := vTake_vfr
  refine h.set (qTake_frm hq) hv (h.2.2.1.fr (qTake_o (by omega)) (qTake_o (by omega)) (fun k _ _ => by rw [qTake_o (by omega)]) (fun k hk => vTake_o (by omega))) (fun q' hq' => ?_) (fun s hs => (h.2.2.2.2 s hs).fr h.1.2.1 hs (fun d hd => qTake_o (by omega)) hv (fun d hd _ => vTake_o (by omega)) (fun d hd => vTake_o (by omega)))
  by_cases e : q' = q
  · subst e; exact RelQ.take hn hn6 hf e1 e2 e4 e5 hq hj
  · exact (h.2.2.2.1 q' hq').fr (fun d hd => qTake_o (by omega)) (vTake_o (by omega)) (fun d hd => vTake_o (by omega))
end
