section
variable {m : Nat} {I : MI} {V : Nat → Int32}
theorem p_toils (h : Rel m I V) (hend : V 240 = 0) (h0 : V 241 = 0) :
    ∃ I' V', MOut (fun o b J Q => w_X10_toils o b J Q) V V' ∧ (∀ P : MI → Prop, P I' → w_X1_workerTries m I P) ∧ Rel m I' V' ∧ Frm m I I' ∧ VFr V V' ∧ (∀ c, m + 57 ≤ c → c < m + 60 → I' c = I c) ∧ I' (m + 60) 6 = V' 241 ∧ (∀ j, 170 ≤ j → j < 178 → V' j = V j) ∧ (∀ j, 218 ≤ j → j < 236 → V' j = V j) ∧ ((V' 238 = V 238 + 1 ∧ I' m 15 = 1) ∨ (V' 238 = V 238 ∧ I' m 15 = I m 15)) := by
  have hA := h.slot6 (s := 1) (x := 0) (by omega)
  rw [show m + 57 + 3 * 1 = m + 60 by omega] at hA
  obtain ⟨I1, V1, c1, c2, hB, c4, p, k, hp, ep, ek, hk⟩ := p_passes (s := 1) hA (by omega) hend
  rw [show m + 57 + 3 * 1 = m + 60 by omega] at c2
  have ep : V1 236 = nI p := ep
  have ek : V1 237 = nI k := ek
  have c41 : ∀ c, c ≠ m + 60 → I1 c = ui I (m + 60) 6 0 c := fun c hc => c4.1 c (by omega)
  have c42 : ∀ j, j ≠ 1 → j ≠ 3 → I1 (m + 60) j = ui I (m + 60) 6 0 (m + 60) j := fun j h1 h2 => c4.2.1 j h1 h2
  have c43 : ∀ j, j ≠ 236 → j ≠ 239 → V1 j = V j := fun j h1 h2 => c4.2.2 j (by omega) (by omega)
  obtain ⟨hsz, e48⟩ := size_lt hB.1
  have hk2 : k < 2 := by have := vMany_le (V := V1) (s := 1) (i := p); omega
  obtain ⟨r, hr, d1, d2, d7⟩ := p_excuse hB hp hk
  have hl := ilow hB.1.2.1 hp
  obtain ⟨u0, -, u1, u2, -, -, u4, -⟩ := hB.2.2.2.2 1 (by omega)
  have u0 : I1 (m + 60) 0 = nI 1 := u0
  have u1 : I1 (m + 60) 1 = nI p := u1.trans ep
  have u2 : I1 (m + 60) 2 = nI k := u2.trans ek
  have Cpre : ∀ P : MI → Prop, (w_X5_setReason (m + 60) (nI r) I1 (fun I12 => ((¬ nI r = 0 → P I12) ∧ (nI r = 0 → (w_X1_workerDoes m (cKind (vOp V1 p) (vDeed V1 1 p k)) (m + 10 + p) I12 (fun r14 I15 => (w_X5_finishDeed (m + 60) (m + 1) r14 I15 (fun I16 => (∀ I17, I17 = ui I16 m 15 (1) → P I17))))))))) → w_X1_workerTries m I P := fun P hP => by
    unfold w_X1_workerTries
    refine k_setReason (r := 0) (by omega) ?_
    rw [if_pos rfl]
    refine ⟨fun _ => c2 _ ?_, fun c => absurd ?_ c⟩
    · rw [u1]
      refine ⟨inn (by omega) (by omega), ?_⟩
      unfold w_X5_kindOfNext
      rw [u0, u1, u2, ixn (by omega)]
      refine k_kindOf (by omega) (by omega) hk2 ?_
      rw [hB.2.1.2.2.1 1 p k (by omega) hp hk]
      exact d2 _ hP
    · obtain ⟨-, -, -, -, -, -, q, -⟩ := hA.2.2.2.2 1 (by omega)
      exact q.trans hend
  have Mpre : ∀ (o b : Nat) (J : MI) (Q : MI → Prop), b ≤ 1032 → (nI r ≤ 0 → swT o (nI b) (nI p) (vDeed V1 1 p k) (kb J (o + 1) b V1) Q) → (¬ nI r ≤ 0 → w_X10_waits o (nI b) (nI 1) (nI r) (kb J (o + 1) b V1) Q) → w_X10_toils o (nI b) (kb J (o + 1) b V) Q := fun o b J Q hb q1 q2 => by
    unfold w_X10_toils
    refine t_sideAt (s := 1) (c1 o b J _ hb ?_)
    simp only [show nI (b + 222 + 14 * 1) + 0 = nI (b + 236) from nI_add _ 0, show nI (b + 222 + 14 * 1) + 1 = nI (b + 237) from nI_1 _]
    rw [kg hb (by omega), kg hb (by omega), ep, ek]
    refine ⟨kin hb (by omega), ?_⟩
    rintro _ rfl
    exact ⟨kin hb (by omega), t_deed (side := 1) hb (by omega) (by omega) (by omega) (d1 o b J _ hb ⟨q1, q2⟩)⟩
  have f1 : Frm m I I1 := fun c hc => by rw [c41 c (by omega), ui_ne _ _ _ (by omega)]
  have fv1 : VFr V V1 := fun j hj => c43 j (by omega) (by omega)
  by_cases hz : r = 0
  · subst hz
    have hD := hB.slot6 (s := 1) (x := 0) (by omega)
    rw [show m + 57 + 3 * 1 = m + 60 by omega] at hD
    obtain ⟨I3, V3, g1, g2, g3, g4, g5, g6, g7, g9, g10, g11, g12⟩ := wa_all hD hp ep ek hk (d7 rfl)
    have hE := g3.mz (c := m) (k := 15) (v := 1) (Or.inl rfl) (g3.2.2.1.stir (Or.inr rfl))
    refine ⟨ui I3 m 15 1, V3, fun o b J Q hb hQ => Mpre o b J Q hb (fun _ => g1 o b J Q hb hQ) (fun c => absurd (by decide) c), fun P hP => Cpre P ?_, hE, ?_, ?_, ?_, ?_, ?_, ?_, ?_⟩
    · refine k_setReason (r := 0) (by omega) ?_
      rw [if_pos rfl]
      refine ⟨fun c => absurd rfl c, fun _ => g2 _ ?_⟩
      rintro _ rfl
      exact hP
    · exact f1.tr (fun c hc => by rw [ui_ne _ _ _ (by omega), g4 c hc, ui_ne _ _ _ (by omega)])
    · exact fv1.tr g5
    · intro c hc1 hc2; rw [ui_ne _ _ _ (by omega), g6 c hc1 hc2, ui_ne _ _ _ (by omega), c41 c (by omega), ui_ne _ _ _ (by omega)]
    · rw [ui_gn _ _ _ _ (by omega), g7, ui_gs, g11, c43 _ (by omega) (by omega), h0]
    · intro j h1 h2; rw [g9 j h1 h2, c43 j (by omega) (by omega)]
    · intro j h1 h2; rw [g10 j h1 h2, c43 j (by omega) (by omega)]
    · left; exact ⟨by rw [g12, c43 _ (by omega) (by omega)], ui_gs _ _ _ _⟩
  · have hrz : ¬ nI r = 0 := fun c => hz ((nI_z (by omega)).mp c)
    have w0 : ∀ j, j ≠ 241 → j ≠ 242 + r → vWait V1 1 r j = V1 j := fun j q1 q2 => vWait_o (by omega) (by omega)
    have w7 : vWait V1 1 r 241 = nI r := by unfold vWait; rw [upd_n _ _ (by omega), upd_s]
    have hD := hB.wait0 (s := 1) (r := r) (by omega) (by omega) hr (Or.inl rfl)
    rw [show m + 57 + 3 * 1 = m + 60 by omega, show m + 58 + 3 * 1 = m + 61 by omega] at hD
    refine ⟨_, _, fun o b J Q hb hQ => Mpre o b J Q hb (fun c => absurd c (nI_nle (by omega) (by omega))) (fun _ => t_waits (s := 1) hb (by omega) hr hQ), fun P hP => Cpre P (k_setReason hr ?_), hD, ?_, ?_, ?_, ?_, ?_, ?_, ?_⟩
    · rw [if_neg hz]
      exact ⟨fun _ => hP, fun c => absurd c hrz⟩
    · exact f1.tr (fun c hc => by rw [ui_ne _ _ _ (by omega), ui_ne _ _ _ (by omega)])
    · exact fv1.tr (fun j hj => w0 j (by omega) (by omega))
    · intro c hc1 hc2; rw [ui_ne _ _ _ (by omega), ui_ne _ _ _ (by omega), c41 c (by omega), ui_ne _ _ _ (by omega)]
    · rw [ui_gn _ _ _ _ (by omega), ui_gs, w7]
    · intro j h1 h2; rw [w0 j (by omega) (by omega), c43 j (by omega) (by omega)]
    · intro j h1 h2; rw [w0 j (by omega) (by omega), c43 j (by omega) (by omega)]
    · right
      exact ⟨by rw [w0 _ (by omega) (by omega), c43 _ (by omega) (by omega)], by rw [ui_gn _ _ _ _ (by omega), ui_gn _ _ _ _ (by omega), c41 m (by omega), ui_ne _ _ _ (by omega)]⟩
theorem RelM.now {x : Int32} (h : RelM m I V) (hx : bd x 1000) : RelM m (ui I m 5 x) (upd V 170 x) := by
  obtain ⟨a1, a2, a3, a4, a5, a6, a7, a8, a9, a10, a11, a12, a13, a14, a15, a16, a17, a18, a19⟩ := h
  have hV : ∀ k, k ≠ 170 → upd V 170 x k = V k := fun k hk => upd_n _ _ hk
  have hJ : ∀ k, k ≠ 5 → ui I m 5 x m k = I m k := fun k hk => ui_gj _ _ _ hk
  unfold RelM
  rw [ui_ne _ _ _ (show m + 35 ≠ m by omega), ui_ne _ _ _ (show m + 36 ≠ m by omega), hJ 6 (by omega), hJ 7 (by omega), hJ 8 (by omega), hJ 9 (by omega), hJ 10 (by omega), hJ 11 (by omega), hJ 12 (by omega), hJ 13 (by omega), hJ 14 (by omega), hJ 15 (by omega), ui_gs, upd_s, hV 0 (by omega), hV 171 (by omega), hV 218 (by omega), hV 219 (by omega), hV 220 (by omega), hV 221 (by omega), hV 233 (by omega), hV 234 (by omega), hV 235 (by omega), hV 250 (by omega), hV 251 (by omega)]
  exact ⟨fun r hr => by rw [hV (210 + r) (by omega)]; exact a1 r hr, fun c hc => by rw [hV (178 + c) (by omega)]; exact a2 c hc, rfl, hx, a5, a6, a7, a8, a9, a10, a11, a12, a13, a14, a15, a16, a17, a18, a19⟩
theorem RelM.state {x : Int32} (h : RelM m I V) (hx : bd x 4) : RelM m (ui I m 6 x) (upd V 171 x) := by
  obtain ⟨a1, a2, a3, a4, a5, a6, a7, a8, a9, a10, a11, a12, a13, a14, a15, a16, a17, a18, a19⟩ := h
  have hV : ∀ k, k ≠ 171 → upd V 171 x k = V k := fun k hk => upd_n _ _ hk
  have hJ : ∀ k, k ≠ 6 → ui I m 6 x m k = I m k := fun k hk => ui_gj _ _ _ hk
  unfold RelM
  rw [ui_ne _ _ _ (show m + 35 ≠ m by omega), ui_ne _ _ _ (show m + 36 ≠ m by omega), hJ 5 (by omega), hJ 7 (by omega), hJ 8 (by omega), hJ 9 (by omega), hJ 10 (by omega), hJ 11 (by omega), hJ 12 (by omega), hJ 13 (by omega), hJ 14 (by omega), hJ 15 (by omega), ui_gs, upd_s, hV 0 (by omega), hV 170 (by omega), hV 218 (by omega), hV 219 (by omega), hV 220 (by omega), hV 221 (by omega), hV 233 (by omega), hV 234 (by omega), hV 235 (by omega), hV 250 (by omega), hV 251 (by omega)]
  exact ⟨fun r hr => by rw [hV (210 + r) (by omega)]; exact a1 r hr, fun c hc => by rw [hV (178 + c) (by omega)]; exact a2 c hc, a3, a4, rfl, hx, a7, a8, a9, a10, a11, a12, a13, a14, a15, a16, a17, a18, a19⟩
theorem RelM.most {x : Int32} (h : RelM m I V)  : RelM m (ui I m 8 x) (upd V 218 x) := by
  obtain ⟨a1, a2, a3, a4, a5, a6, a7, a8, a9, a10, a11, a12, a13, a14, a15, a16, a17, a18, a19⟩ := h
  have hV : ∀ k, k ≠ 218 → upd V 218 x k = V k := fun k hk => upd_n _ _ hk
  have hJ : ∀ k, k ≠ 8 → ui I m 8 x m k = I m k := fun k hk => ui_gj _ _ _ hk
  unfold RelM
  rw [ui_ne _ _ _ (show m + 35 ≠ m by omega), ui_ne _ _ _ (show m + 36 ≠ m by omega), hJ 5 (by omega), hJ 6 (by omega), hJ 7 (by omega), hJ 9 (by omega), hJ 10 (by omega), hJ 11 (by omega), hJ 12 (by omega), hJ 13 (by omega), hJ 14 (by omega), hJ 15 (by omega), ui_gs, upd_s, hV 0 (by omega), hV 170 (by omega), hV 171 (by omega), hV 219 (by omega), hV 220 (by omega), hV 221 (by omega), hV 233 (by omega), hV 234 (by omega), hV 235 (by omega), hV 250 (by omega), hV 251 (by omega)]
  exact ⟨fun r hr => by rw [hV (210 + r) (by omega)]; exact a1 r hr, fun c hc => by rw [hV (178 + c) (by omega)]; exact a2 c hc, a3, a4, a5, a6, a7, a8, a9, rfl, a11, a12, a13, a14, a15, a16, a17, a18, a19⟩
theorem RelM.least {x : Int32} (h : RelM m I V)  : RelM m (ui I m 9 x) (upd V 219 x) := by
  obtain ⟨a1, a2, a3, a4, a5, a6, a7, a8, a9, a10, a11, a12, a13, a14, a15, a16, a17, a18, a19⟩ := h
  have hV : ∀ k, k ≠ 219 → upd V 219 x k = V k := fun k hk => upd_n _ _ hk
  have hJ : ∀ k, k ≠ 9 → ui I m 9 x m k = I m k := fun k hk => ui_gj _ _ _ hk
  unfold RelM
  rw [ui_ne _ _ _ (show m + 35 ≠ m by omega), ui_ne _ _ _ (show m + 36 ≠ m by omega), hJ 5 (by omega), hJ 6 (by omega), hJ 7 (by omega), hJ 8 (by omega), hJ 10 (by omega), hJ 11 (by omega), hJ 12 (by omega), hJ 13 (by omega), hJ 14 (by omega), hJ 15 (by omega), ui_gs, upd_s, hV 0 (by omega), hV 170 (by omega), hV 171 (by omega), hV 218 (by omega), hV 220 (by omega), hV 221 (by omega), hV 233 (by omega), hV 234 (by omega), hV 235 (by omega), hV 250 (by omega), hV 251 (by omega)]
  exact ⟨fun r hr => by rw [hV (210 + r) (by omega)]; exact a1 r hr, fun c hc => by rw [hV (178 + c) (by omega)]; exact a2 c hc, a3, a4, a5, a6, a7, a8, a9, a10, rfl, a12, a13, a14, a15, a16, a17, a18, a19⟩
theorem RelM.sum {x : Int32} (h : RelM m I V)  : RelM m (ui I m 10 x) (upd V 220 x) := by
  obtain ⟨a1, a2, a3, a4, a5, a6, a7, a8, a9, a10, a11, a12, a13, a14, a15, a16, a17, a18, a19⟩ := h
  have hV : ∀ k, k ≠ 220 → upd V 220 x k = V k := fun k hk => upd_n _ _ hk
  have hJ : ∀ k, k ≠ 10 → ui I m 10 x m k = I m k := fun k hk => ui_gj _ _ _ hk
  unfold RelM
  rw [ui_ne _ _ _ (show m + 35 ≠ m by omega), ui_ne _ _ _ (show m + 36 ≠ m by omega), hJ 5 (by omega), hJ 6 (by omega), hJ 7 (by omega), hJ 8 (by omega), hJ 9 (by omega), hJ 11 (by omega), hJ 12 (by omega), hJ 13 (by omega), hJ 14 (by omega), hJ 15 (by omega), ui_gs, upd_s, hV 0 (by omega), hV 170 (by omega), hV 171 (by omega), hV 218 (by omega), hV 219 (by omega), hV 221 (by omega), hV 233 (by omega), hV 234 (by omega), hV 235 (by omega), hV 250 (by omega), hV 251 (by omega)]
  exact ⟨fun r hr => by rw [hV (210 + r) (by omega)]; exact a1 r hr, fun c hc => by rw [hV (178 + c) (by omega)]; exact a2 c hc, a3, a4, a5, a6, a7, a8, a9, a10, a11, rfl, a13, a14, a15, a16, a17, a18, a19⟩
theorem Rel.rsn {s : Nat} {x : Int32} (h : Rel m I V) (hs' : s < 2) : Rel m I (upd V (227 + 14 * s) x) :=
  h.set Frm.rf (VFr.up (by omega)) (h.2.2.1.fr rfl rfl (fun _ _ _ => rfl) (fun k hk => upd_n _ _ (by omega))) (fun q hq => (h.2.2.2.1 q hq).fr (fun _ _ => rfl) (upd_n _ _ (by omega)) (fun d hd => upd_n _ _ (by omega))) (fun s' hs2 => (h.2.2.2.2 s' hs2).fr h.1.2.1 hs2 (fun _ _ => rfl) (VFr.up (by omega)) (fun d hd hd5 => upd_n _ _ (by omega)) (fun d hd => upd_n _ _ (by omega)))
def vAll (V : Nat → Int32) : Bool := decide (∀ k, k < ix (V 252) → vCome V k = true)
theorem t_haveCome {o b n : Nat} {J : MI} {Q : Int32 → Prop} (hb : b ≤ 1032) (e1 : V 252 = nI n) (hn : n ≤ 6) (h : Q (if vAll V = true then 1 else 0)) : w_X10_haveCome o (nI b) (kb J (o + 1) b V) Q := by
  unfold w_X10_haveCome
  refine Lp1.of (fun y => ∃ k, k ≤ n ∧ y = nI k ∧ ∀ j, j < k → vCome V j = true) (fun y => 10 - ix y) ?_ _ ⟨0, by omega, rfl, fun j hj => by omega⟩
  rintro rec y ⟨k, hk, rfl, hne⟩ hrec
  unfold w_X10_haveCome_l2
  refine t_inQueue (q := 0) hb (by omega) ?_
  rw [show 252 + 19 * 0 = 252 by omega, e1]
  refine ⟨fun c => ?_, fun c => ?_⟩
  · have c := (nI_leI (by omega) (by omega)).mp c
    have : vAll V = true := by
      unfold vAll
      simp only [decide_eq_true_eq]
      rw [e1, ixn (by omega)]
      exact fun j hj => hne j (by omega)
    rw [if_pos this] at h
    exact h
  · have c : ¬ n ≤ k := fun e => c ((nI_leI (by omega) (by omega)).mpr e)
    refine t_hasCome hb (by omega) ?_
    by_cases g : vCome V k = true
    · rw [if_pos g]
      refine ⟨fun _ => hrec _ ⟨k + 1, by omega, nI_1 k, fun j hj => ?_⟩ ?_, fun c => absurd c (by decide)⟩
      · by_cases e : j = k
        · subst e; exact g
        · exact hne j (by omega)
      · rw [nI_1, ixn (by omega), ixn (by omega)]; omega
    · rw [if_neg g]
      refine ⟨fun c => absurd rfl c, fun _ => ?_⟩
      have : ¬ vAll V = true := by
        unfold vAll
        simp only [decide_eq_true_eq]
        rw [e1, ixn (by omega)]
        exact fun q => g (q k (by omega))
      rw [if_neg this] at h
      exact h
theorem k_allLoads {n : Nat} {Q : Int32 → Prop} (hR : Rel m I V) (e1 : V 252 = nI n) (hn : n ≤ 6) (h : Q (if vAll V = true then 1 else 0)) : w_X1_allLoadsHaveCome m I Q := by
  obtain ⟨n', f, hn', hf, e1', e2, -⟩ := hR.2.2.2.1 0 (by omega)
  have e2 : I (m + 39) 3 = nI n := (e2.trans e1'.symm).trans e1
  unfold w_X1_allLoadsHaveCome
  refine Lp1.of (fun y => ∃ k, k ≤ n ∧ y = nI k ∧ ∀ j, j < k → vCome V j = true) (fun y => 10 - ix y) ?_ _ ⟨0, by omega, rfl, fun j hj => by omega⟩
  rintro rec y ⟨k, hk, rfl, hne⟩ hrec
  unfold w_X1_allLoadsHaveCome_l2
  rw [e2]
  refine ⟨fun c => ?_, fun c => ?_⟩
  · have c := (nI_leI (by omega) (by omega)).mp c
    have : vAll V = true := by
      unfold vAll
      simp only [decide_eq_true_eq]
      rw [e1, ixn (by omega)]
      exact fun j hj => hne j (by omega)
    rw [if_pos this] at h
    exact h
  · have c : ¬ n ≤ k := fun e => c ((nI_leI (by omega) (by omega)).mpr e)
    refine k_hasCome hR e1 hn (by omega) ?_
    by_cases g : vCome V k = true
    · rw [if_pos g]
      refine ⟨fun _ => hrec _ ⟨k + 1, by omega, nI_1 k, fun j hj => ?_⟩ ?_, fun c => absurd c (by decide)⟩
      · by_cases e : j = k
        · subst e; exact g
        · exact hne j (by omega)
      · rw [nI_1, ixn (by omega), ixn (by omega)]; omega
    · rw [if_neg g]
      refine ⟨fun c => absurd rfl c, fun _ => ?_⟩
      have : ¬ vAll V = true := by
        unfold vAll
        simp only [decide_eq_true_eq]
        rw [e1, ixn (by omega)]
        exact fun q => g (q k (by omega))
      rw [if_neg this] at h
      exact h
/-- the runner's try, ended or not -/
theorem p_runE (h : Rel m I V) (h0 : V 227 = 0) :
    ∃ I' V', (V 226 = 0 → MOut (fun o b J Q => w_X10_runs o b J Q) V V') ∧ (¬ V 226 = 0 → V' = V) ∧ (∀ P : MI → Prop, P I' → w_X1_runnerTries m I P) ∧ Rel m I' V' ∧ Frm m I I' ∧ VFr V V' ∧ I' (m + 57) 6 = V' 227 ∧ (∀ j, 170 ≤ j → j < 178 → V' j = V j) ∧ (∀ j, 218 ≤ j → j < 222 → V' j = V j) ∧ (∀ j, 236 ≤ j → j < 250 → V' j = V j) ∧ ∃ a : Nat, a ≤ 1 ∧ V' 224 = V 224 + nI a ∧ I' m 15 = if a = 1 ∨ V' 227 = 7 then 1 else I m 15 := by
  by_cases hend : V 226 = 0
  · obtain ⟨I', V', g1, g2, g3, g4, g5, g6, g7, g8, g9, g10, g11⟩ := p_runs h hend h0
    refine ⟨I', V', fun _ => g1, fun c => absurd hend c, g2, g3, g4, g5, g7, g8, g9, g10, ?_⟩
    rcases g11 with ⟨x, y⟩ | ⟨x, y, z⟩ | ⟨x, y, z⟩
    · exact ⟨1, by omega, x, by rw [if_pos (Or.inl rfl)]; exact y⟩
    · exact ⟨0, by omega, by rw [x]; exact (Int32.add_zero _).symm, by rw [if_pos (Or.inr y)]; exact z⟩
    · exact ⟨0, by omega, by rw [x]; exact (Int32.add_zero _).symm, by rw [if_neg (fun c => c.elim (by omega) y)]; exact z⟩
  · have hA := h.slot6 (s := 0) (x := 0) (by omega)
    rw [show m + 57 + 3 * 0 = m + 57 by omega] at hA
    refine ⟨_, V, fun c => absurd c hend, fun _ => rfl, fun P hP => ?_, hA, fun c hc => ui_ne _ _ _ (by omega), VFr.rf, by rw [ui_gs, h0], fun _ _ _ => rfl, fun _ _ _ => rfl, fun _ _ _ => rfl, 0, by omega, (Int32.add_zero _).symm, ?_⟩
    · unfold w_X1_runnerTries
      refine k_setReason (r := 0) (by omega) ?_
      rw [if_pos rfl]
      obtain ⟨-, -, -, -, -, -, q, -⟩ := hA.2.2.2.2 0 (by omega)
      have q : ui I (m + 57) 6 0 (m + 57) 4 = V 226 := q
      rw [q]
      exact ⟨fun c => absurd c hend, fun _ => hP⟩
    · rw [if_neg (fun c => c.elim (by omega) (fun c => by rw [h0] at c; exact absurd c (by decide))), ui_ne _ _ _ (by omega)]
theorem p_workE (h : Rel m I V) (h0 : V 241 = 0) :
    ∃ I' V', (V 240 = 0 → MOut (fun o b J Q => w_X10_toils o b J Q) V V') ∧ (¬ V 240 = 0 → V' = V) ∧ (∀ P : MI → Prop, P I' → w_X1_workerTries m I P) ∧ Rel m I' V' ∧ Frm m I I' ∧ VFr V V' ∧ (∀ c, m + 57 ≤ c → c < m + 60 → I' c = I c) ∧ I' (m + 60) 6 = V' 241 ∧ (∀ j, 170 ≤ j → j < 178 → V' j = V j) ∧ (∀ j, 218 ≤ j → j < 236 → V' j = V j) ∧ ∃ a : Nat, a ≤ 1 ∧ V' 238 = V 238 + nI a ∧ I' m 15 = if a = 1 then 1 else I m 15 := by
  by_cases hend : V 240 = 0
  · obtain ⟨I', V', g1, g2, g3, g4, g5, g6, g7, g8, g9, g11⟩ := p_toils h hend h0
    refine ⟨I', V', fun _ => g1, fun c => absurd hend c, g2, g3, g4, g5, g6, g7, g8, g9, ?_⟩
    rcases g11 with ⟨x, y⟩ | ⟨x, z⟩
    · exact ⟨1, by omega, x, by rw [if_pos rfl]; exact y⟩
    · exact ⟨0, by omega, by rw [x]; exact (Int32.add_zero _).symm, by rw [if_neg (by omega)]; exact z⟩
  · have hA := h.slot6 (s := 1) (x := 0) (by omega)
    rw [show m + 57 + 3 * 1 = m + 60 by omega] at hA
    refine ⟨_, V, fun c => absurd c hend, fun _ => rfl, fun P hP => ?_, hA, fun c hc => ui_ne _ _ _ (by omega), VFr.rf, fun c h1 h2 => ui_ne _ _ _ (by omega), by rw [ui_gs, h0], fun _ _ _ => rfl, fun _ _ _ => rfl, 0, by omega, (Int32.add_zero _).symm, ?_⟩
    · unfold w_X1_workerTries
      refine k_setReason (r := 0) (by omega) ?_
      rw [if_pos rfl]
      obtain ⟨-, -, -, -, -, -, q, -⟩ := hA.2.2.2.2 1 (by omega)
      have q : ui I (m + 60) 6 0 (m + 60) 4 = V 240 := q
      rw [q]
      exact ⟨fun c => absurd c hend, fun _ => hP⟩
    · rw [if_neg (by omega), ui_ne _ _ _ (by omega)]
end
