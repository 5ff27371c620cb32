section
variable {m : Nat} {I : MI} {V : Nat → Int32}
theorem Rel.side {m : Nat} {I I' : MI} {V V' : Nat → Int32} {s : Nat} (h : Rel m I V) (hs' : s < 2) (hI : ∀ c, (c < m + 57 + 3 * s ∨ m + 57 + 3 * s + 2 < c) → I' c = I c) (hV : ∀ k, (k < 222 + 14 * s ∨ 236 + 14 * s ≤ k) → (k < 366 + 75 * s ∨ 441 + 75 * s ≤ k) → V' k = V k) (hW : V' 233 = V 233 ∧ V' 234 = V 234 ∧ V' 235 = V 235) (hS : RelS m s I' V') : Rel m I' V' := by
  have hv : VFr V V' := fun k hk => hV k (by omega) (by omega)
  refine h.set (fun c hc => hI c (by omega)) hv (h.2.2.1.fr (hI _ (by omega)) (hI _ (by omega)) (fun k _ _ => by rw [hI m (by omega)]) (fun k hk => ?_)) (fun q hq => (h.2.2.2.1 q hq).fr (fun d hd => hI _ (by omega)) (hV _ (by omega) (by omega)) (fun d hd => hV _ (by omega) (by omega))) (fun s' hs2 => ?_)
  · by_cases h3 : 233 ≤ k ∧ k ≤ 235
    · rcases (show k = 233 ∨ k = 234 ∨ k = 235 by omega) with rfl | rfl | rfl
      · exact hW.1
      · exact hW.2.1
      · exact hW.2.2
    · exact hV k (by omega) (by omega)
  · by_cases e : s' = s
    · subst e; exact hS
    · exact (h.2.2.2.2 s' hs2).fr h.1.2.1 hs2 (fun d hd => hI _ (by omega)) hv (fun d hd _ => hV _ (by omega) (by omega)) (fun d hd => hV _ (by omega) (by omega))
def cDid3 (I : MI) (a p k : Nat) : MI := ui (ui (ui I (a + 2) (2 * p + k) (I (a + 2) (2 * p + k) + 1)) a 5 (I a 5 + 1)) a 2 (nI (k + 1))
def cDone (I : MI) (a p k : Nat) (to : Int32) (last : Bool) : MI := if last = true then ui (ui (ui (cDid3 I a p k) a 2 0) a 3 (I a 3 + 1)) a 1 to else cDid3 I a p k
theorem k_finishDeed {a pr s p k n c : Nat} {to : Int32} {P : MI → Prop} (hs' : s < 2) (hn : n < 25) (hp : p ≤ n) (hk : k < 2) (hc : c ≤ 2) (ha : pr + 33 < a) (e0 : I a 0 = nI s) (e1 : I a 1 = nI p) (e2 : I a 2 = nI k) (e3 : I pr 1 = nI n) (e4 : I (pr + 7) (25 * s + p) = nI c) (h : P (cDone I a p k to (decide (c ≤ k + 1)))) : w_X5_finishDeed a pr to I P := by
  unfold w_X5_finishDeed
  rw [e1, e2]
  simp only [lit, pk_mul, nI_add]
  rw [show p * 2 + k = 2 * p + k by omega]
  refine ⟨inn (by omega) (by omega), inn (by omega) (by omega), ?_⟩
  rintro _ rfl
  rintro _ rfl
  rintro _ rfl
  rw [ixn (by omega), ui_gj _ _ _ (show (2 : Nat) ≠ 5 by omega), ui_gn _ _ _ _ (show a ≠ a + 2 by omega), ui_gn _ _ _ _ (show a ≠ a + 2 by omega), e2, nI_add]
  show w_X2_deedsAt pr (cDid3 I a p k a 0) (cDid3 I a p k a 1) (cDid3 I a p k) _
  have g0 : cDid3 I a p k a 0 = nI s := by unfold cDid3; rw [ui_gj _ _ _ (by omega), ui_gj _ _ _ (by omega), ui_gn _ _ _ _ (by omega)]; exact e0
  have g1 : cDid3 I a p k a 1 = nI p := by unfold cDid3; rw [ui_gj _ _ _ (by omega), ui_gj _ _ _ (by omega), ui_gn _ _ _ _ (by omega)]; exact e1
  have g2 : cDid3 I a p k a 2 = nI (k + 1) := by unfold cDid3; rw [ui_gs]
  have g3 : cDid3 I a p k a 3 = I a 3 := by unfold cDid3; rw [ui_gj _ _ _ (by omega), ui_gj _ _ _ (by omega), ui_gn _ _ _ _ (by omega)]
  have gp : ∀ c, c ≤ pr + 33 → cDid3 I a p k c = I c := fun c hc => by unfold cDid3; rw [ui_ne _ _ _ (by omega), ui_ne _ _ _ (by omega), ui_ne _ _ _ (by omega)]
  rw [g0, g1]
  refine k_deedsAt hs' hn hp (by rw [gp _ (by omega)]; exact e3) ?_
  rw [gp _ (by omega), e4]
  show (cDid3 I a p k a 2 < nI c → P (cDid3 I a p k)) ∧ (¬ cDid3 I a p k a 2 < nI c → _)
  rw [g2]
  unfold cDone at h
  refine ⟨fun c1 => ?_, fun c1 => ?_⟩
  · have := (nI_ltI (by omega) (by omega)).mp c1
    rw [if_neg (by simp; omega)] at h
    exact h
  · have : ¬ k + 1 < c := fun q => c1 (nI_lt q (by omega))
    rw [if_pos (by simp; omega)] at h
    rintro _ rfl
    rintro _ rfl
    rintro _ rfl
    show P (ui (ui (ui (cDid3 I a p k) a 2 (nI 0)) a 3 (ui (cDid3 I a p k) a 2 (nI 0) a 3 + nI 1)) a 1 to)
    rw [ui_gj _ _ _ (show (3 : Nat) ≠ 2 by omega), g3]
    exact h
theorem RelS.did3 {s p k : Nat} (h : RelS m s I V) (hb : bd (V 48) 25) (hs' : s < 2) (ep : V (222 + 14 * s) = nI p) (hp : p ≤ ix (V 48)) (ek : V (223 + 14 * s) = nI k) (hk : k < 2) (hk2 : k + 1 < vMany V s p) : RelS m s (cDid3 I (m + 57 + 3 * s) p k) (vDid3 V s p k) := by
  obtain ⟨g0, -, g1, g2, g3, g4, g5, g6, g9, g10⟩ := h
  obtain ⟨-, hl⟩ := bd_ix hb (by omega)
  have v : ∀ j, j ≠ 366 + 75 * s + 3 * p + k → j ≠ 224 + 14 * s → j ≠ 223 + 14 * s → vDid3 V s p k j = V j := fun j h1 h2 h3 => by unfold vDid3; rw [upd_n _ _ h3, upd_n _ _ h2, upd_n _ _ h1]
  have va : vDid3 V s p k (223 + 14 * s) = nI (k + 1) := by unfold vDid3; rw [upd_s]
  have vb : vDid3 V s p k (224 + 14 * s) = V (224 + 14 * s) + 1 := by unfold vDid3; rw [upd_n _ _ (by omega), upd_s]
  have i1 : ∀ j, j ≠ 5 → j ≠ 2 → cDid3 I (m + 57 + 3 * s) p k (m + 57 + 3 * s) j = I (m + 57 + 3 * s) j := fun j h1 h2 => by unfold cDid3; rw [ui_gj _ _ _ h2, ui_gj _ _ _ h1, ui_gn _ _ _ _ (by omega)]
  have i2 : cDid3 I (m + 57 + 3 * s) p k (m + 57 + 3 * s) 2 = nI (k + 1) := by unfold cDid3; rw [ui_gs]
  have i5 : cDid3 I (m + 57 + 3 * s) p k (m + 57 + 3 * s) 5 = I (m + 57 + 3 * s) 5 + 1 := by unfold cDid3; rw [ui_gj _ _ _ (by omega), ui_gs]
  have i8 : cDid3 I (m + 57 + 3 * s) p k (m + 58 + 3 * s) = I (m + 58 + 3 * s) := by unfold cDid3; rw [ui_ne _ _ _ (by omega), ui_ne _ _ _ (by omega), ui_ne _ _ _ (by omega)]
  have i9 : ∀ j, cDid3 I (m + 57 + 3 * s) p k (m + 59 + 3 * s) j = if j = 2 * p + k then I (m + 59 + 3 * s) j + 1 else I (m + 59 + 3 * s) j := fun j => by
    unfold cDid3
    rw [ui_gn _ _ _ _ (by omega), ui_gn _ _ _ _ (by omega), show m + 57 + 3 * s + 2 = m + 59 + 3 * s by omega, ui_g, if_pos rfl]
    split
    · rename_i e; rw [e]
    · rfl
  unfold RelS
  rw [i1 0 (by omega) (by omega), i1 1 (by omega) (by omega), i1 3 (by omega) (by omega), i1 4 (by omega) (by omega), i2, i5, i8, va, vb, v (222 + 14 * s) (by omega) (by omega) (by omega), v (225 + 14 * s) (by omega) (by omega) (by omega), v (226 + 14 * s) (by omega) (by omega) (by omega), v 48 (by omega) (by omega) (by omega)]
  refine ⟨g0, ⟨p, k + 1, hp, ep, rfl, Or.inr ?_⟩, g1, rfl, by rw [g3], g4, g5, g6, fun r h1 h2 => ?_, fun i k' hi hk' => ?_⟩
  · rw [vMany_fr vDid3_fr (ilow hb hp)]; exact hk2
  · rw [v _ (by omega) (by omega) (by omega)]; exact g9 r h1 h2
  · rw [i9]
    by_cases e : 2 * i + k' = 2 * p + k
    · have e1 : i = p := by omega
      have e2 : k' = k := by omega
      subst e1; subst e2
      rw [if_pos rfl, g10 i k' hi hk']
      unfold vDid3
      rw [upd_n _ _ (by omega), upd_n _ _ (by omega), upd_s]
    · rw [if_neg e, v _ (by omega) (by omega) (by omega)]
      exact g10 i k' hi hk'
theorem RelS.done {s p k t : Nat} (h : RelS m s I V) (hb : bd (V 48) 25) (hs' : s < 2) (hp : p ≤ ix (V 48)) (hk : k < 2) (ht : t ≤ ix (V 48)) : RelS m s (ui (ui (ui (cDid3 I (m + 57 + 3 * s) p k) (m + 57 + 3 * s) 2 0) (m + 57 + 3 * s) 3 (I (m + 57 + 3 * s) 3 + 1)) (m + 57 + 3 * s) 1 (nI t)) (upd (upd (upd (vDid3 V s p k) (225 + 14 * s) (V (225 + 14 * s) + 1)) (223 + 14 * s) 0) (222 + 14 * s) (nI t)) := by
  obtain ⟨g0, -, g1, g2, g3, g4, g5, g6, g9, g10⟩ := h
  obtain ⟨-, hl⟩ := bd_ix hb (by omega)
  generalize hV' : (upd (upd (upd (vDid3 V s p k) (225 + 14 * s) (V (225 + 14 * s) + 1)) (223 + 14 * s) 0) (222 + 14 * s) (nI t)) = V'
  generalize hI' : (ui (ui (ui (cDid3 I (m + 57 + 3 * s) p k) (m + 57 + 3 * s) 2 0) (m + 57 + 3 * s) 3 (I (m + 57 + 3 * s) 3 + 1)) (m + 57 + 3 * s) 1 (nI t)) = I'
  have v : ∀ j, j ≠ 366 + 75 * s + 3 * p + k → (j < 222 + 14 * s ∨ 225 + 14 * s < j) → V' j = V j := fun j h1 h2 => by
    rw [← hV', upd_n _ _ (by omega), upd_n _ _ (by omega), upd_n _ _ (by omega)]; unfold vDid3; rw [upd_n _ _ (by omega), upd_n _ _ (by omega), upd_n _ _ h1]
  have v2 : V' (222 + 14 * s) = nI t := by rw [← hV', upd_s]
  have v3 : V' (223 + 14 * s) = 0 := by rw [← hV', upd_n _ _ (by omega), upd_s]
  have v4 : V' (224 + 14 * s) = V (224 + 14 * s) + 1 := by rw [← hV', upd_n _ _ (by omega), upd_n _ _ (by omega), upd_n _ _ (by omega)]; unfold vDid3; rw [upd_n _ _ (by omega), upd_s]
  have v5 : V' (225 + 14 * s) = V (225 + 14 * s) + 1 := by rw [← hV', upd_n _ _ (by omega), upd_n _ _ (by omega), upd_s]
  have i0 : I' (m + 57 + 3 * s) 0 = I (m + 57 + 3 * s) 0 := by rw [← hI', ui_gj _ _ _ (by omega), ui_gj _ _ _ (by omega), ui_gj _ _ _ (by omega)]; unfold cDid3; rw [ui_gj _ _ _ (by omega), ui_gj _ _ _ (by omega), ui_gn _ _ _ _ (by omega)]
  have i4 : I' (m + 57 + 3 * s) 4 = I (m + 57 + 3 * s) 4 := by rw [← hI', ui_gj _ _ _ (by omega), ui_gj _ _ _ (by omega), ui_gj _ _ _ (by omega)]; unfold cDid3; rw [ui_gj _ _ _ (by omega), ui_gj _ _ _ (by omega), ui_gn _ _ _ _ (by omega)]
  have i1 : I' (m + 57 + 3 * s) 1 = nI t := by rw [← hI', ui_gs]
  have i2 : I' (m + 57 + 3 * s) 2 = 0 := by rw [← hI', ui_gj _ _ _ (by omega), ui_gj _ _ _ (by omega), ui_gs]
  have i3 : I' (m + 57 + 3 * s) 3 = I (m + 57 + 3 * s) 3 + 1 := by rw [← hI', ui_gj _ _ _ (by omega), ui_gs]
  have i5 : I' (m + 57 + 3 * s) 5 = I (m + 57 + 3 * s) 5 + 1 := by rw [← hI', ui_gj _ _ _ (by omega), ui_gj _ _ _ (by omega), ui_gj _ _ _ (by omega)]; unfold cDid3; rw [ui_gj _ _ _ (by omega), ui_gs]
  have i8 : I' (m + 58 + 3 * s) = I (m + 58 + 3 * s) := by rw [← hI', ui_ne _ _ _ (by omega), ui_ne _ _ _ (by omega), ui_ne _ _ _ (by omega)]; unfold cDid3; rw [ui_ne _ _ _ (by omega), ui_ne _ _ _ (by omega), ui_ne _ _ _ (by omega)]
  have i9 : ∀ j, I' (m + 59 + 3 * s) j = if j = 2 * p + k then I (m + 59 + 3 * s) j + 1 else I (m + 59 + 3 * s) j := fun j => by
    rw [← hI', ui_gn _ _ _ _ (by omega), ui_gn _ _ _ _ (by omega), ui_gn _ _ _ _ (by omega)]
    unfold cDid3
    rw [ui_gn _ _ _ _ (by omega), ui_gn _ _ _ _ (by omega), show m + 57 + 3 * s + 2 = m + 59 + 3 * s by omega, ui_g, if_pos rfl]
    split
    · rename_i e; rw [e]
    · rfl
  unfold RelS
  rw [i0, i1, i2, i3, i4, i5, i8, v2, v3, v4, v5, v (226 + 14 * s) (by omega) (by omega), v 48 (by omega) (by omega)]
  refine ⟨g0, ⟨t, 0, ht, rfl, rfl, Or.inl rfl⟩, rfl, rfl, by rw [g3], by rw [g4], g5, g6, fun r h1 h2 => ?_, fun i k' hi hk' => ?_⟩
  · rw [v _ (by omega) (by omega)]; exact g9 r h1 h2
  · rw [i9]
    by_cases e : 2 * i + k' = 2 * p + k
    · have e1 : i = p := by omega
      have e2 : k' = k := by omega
      subst e1; subst e2
      rw [if_pos rfl, g10 i k' hi hk', ← hV', upd_n _ _ (by omega), upd_n _ _ (by omega), upd_n _ _ (by omega)]
      unfold vDid3
      rw [upd_n _ _ (by omega), upd_n _ _ (by omega), upd_s]
    · rw [if_neg e, v _ (by omega) (by omega)]
      exact g10 i k' hi hk'
/-- a deed is done, in both -/
theorem p_doesE {s p k t : Nat} (h : Rel m I V) (hs' : s < 2) (ep : V (222 + 14 * s) = nI p) (hp : p ≤ ix (V 48)) (ek : V (223 + 14 * s) = nI k) (hk : k < vMany V s p) (ht : t ≤ ix (V 48)) :
    ∃ I' V', V' = vDone V s p k (nI t) ∧ MOut (fun o b J Q => w_X10_does o b (nI s) (nI t) J Q) V V' ∧ (∀ P : MI → Prop, P I' → w_X5_finishDeed (m + 57 + 3 * s) (m + 1) (nI t) I P) ∧ Rel m I' V' ∧ (∀ c, (c < m + 57 + 3 * s ∨ m + 57 + 3 * s + 2 < c) → I' c = I c) ∧ I' (m + 57 + 3 * s) 6 = I (m + 57 + 3 * s) 6 ∧ I' (m + 57 + 3 * s) 4 = I (m + 57 + 3 * s) 4 ∧ (∀ j, (j < 222 + 14 * s ∨ 226 + 14 * s ≤ j) → (j < 366 + 75 * s ∨ 441 + 75 * s ≤ j) → V' j = V j) ∧ V' (224 + 14 * s) = V (224 + 14 * s) + 1 := by
  obtain ⟨hsz, e48⟩ := size_lt h.1
  obtain ⟨g0, -, g1, g2, g3, g4, g5, g6, g9, g10⟩ := h.2.2.2.2 s hs'
  have hle := vMany_le (V := V) (s := s) (i := p)
  have hk2 : k < 2 := by omega
  have hlow := ilow h.1.2.1 hp
  have hpos := vDeed_pos h.1 (k := k + 1) hs' hp
  have hm := vMany_iff h.1 (k := k + 1) hs' hp (by omega)
  have hcl : ∀ P : MI → Prop, P (cDone I (m + 57 + 3 * s) p k (nI t) (decide (vMany V s p ≤ k + 1))) → w_X5_finishDeed (m + 57 + 3 * s) (m + 1) (nI t) I P := fun P hP => k_finishDeed hs' hsz hp hk2 hle (by omega) g0 (by rw [g1, ep]) (by rw [g2, ek]) (h.1.1.trans e48) (h.2.1.2.1 s p hs' hp) hP
  by_cases hd : vDeed V s p (k + 1) = 0
  · have hlast : vMany V s p ≤ k + 1 := by
      rcases Nat.lt_or_ge (k + 1) (vMany V s p) with q | q
      · exact absurd hd (hm.mp q)
      · exact q
    refine ⟨_, vDone V s p k (nI t), rfl, fun o b J Q hb hQ => t_does hb hs' (by omega) (by omega) ep ek hlow hpos hQ, hcl, ?_, ?_, ?_, ?_, ?_, ?_⟩
    · unfold vDone cDone
      rw [if_pos hd, if_pos (by simp; exact hlast)]
      refine h.side hs' (fun c hc => ?_) (fun j h1 h2 => ?_) ⟨?_, ?_, ?_⟩ ((h.2.2.2.2 s hs').done h.1.2.1 hs' hp hk2 ht)
      · rw [ui_ne _ _ _ (by omega), ui_ne _ _ _ (by omega), ui_ne _ _ _ (by omega)]; unfold cDid3; rw [ui_ne _ _ _ (by omega), ui_ne _ _ _ (by omega), ui_ne _ _ _ (by omega)]
      · rw [upd_n _ _ (by omega), upd_n _ _ (by omega), upd_n _ _ (by omega)]; unfold vDid3; rw [upd_n _ _ (by omega), upd_n _ _ (by omega), upd_n _ _ (by omega)]
      all_goals (rw [upd_n _ _ (by omega), upd_n _ _ (by omega), upd_n _ _ (by omega)]; unfold vDid3; rw [upd_n _ _ (by omega), upd_n _ _ (by omega), upd_n _ _ (by omega)])
    · intro c hc
      unfold cDone
      rw [if_pos (by simp; exact hlast), ui_ne _ _ _ (by omega), ui_ne _ _ _ (by omega), ui_ne _ _ _ (by omega)]; unfold cDid3; rw [ui_ne _ _ _ (by omega), ui_ne _ _ _ (by omega), ui_ne _ _ _ (by omega)]
    · unfold cDone
      rw [if_pos (by simp; exact hlast), ui_gj _ _ _ (by omega), ui_gj _ _ _ (by omega), ui_gj _ _ _ (by omega)]; unfold cDid3; rw [ui_gj _ _ _ (by omega), ui_gj _ _ _ (by omega), ui_gn _ _ _ _ (by omega)]
    · unfold cDone
      rw [if_pos (by simp; exact hlast), ui_gj _ _ _ (by omega), ui_gj _ _ _ (by omega), ui_gj _ _ _ (by omega)]; unfold cDid3; rw [ui_gj _ _ _ (by omega), ui_gj _ _ _ (by omega), ui_gn _ _ _ _ (by omega)]
    · intro j h1 h2
      unfold vDone
      rw [if_pos hd, upd_n _ _ (by omega), upd_n _ _ (by omega), upd_n _ _ (by omega)]; unfold vDid3; rw [upd_n _ _ (by omega), upd_n _ _ (by omega), upd_n _ _ (by omega)]
    · unfold vDone
      rw [if_pos hd, upd_n _ _ (by omega), upd_n _ _ (by omega), upd_n _ _ (by omega)]; unfold vDid3; rw [upd_n _ _ (by omega), upd_s]
  · have hmore := hm.mpr hd
    refine ⟨_, vDone V s p k (nI t), rfl, fun o b J Q hb hQ => t_does hb hs' (by omega) (by omega) ep ek hlow hpos hQ, hcl, ?_, ?_, ?_, ?_, ?_, ?_⟩
    · unfold vDone cDone
      rw [if_neg hd, if_neg (by simp; omega)]
      refine h.side hs' (fun c hc => ?_) (fun j h1 h2 => ?_) ⟨?_, ?_, ?_⟩ ((h.2.2.2.2 s hs').did3 h.1.2.1 hs' ep hp ek hk2 hmore)
      · unfold cDid3; rw [ui_ne _ _ _ (by omega), ui_ne _ _ _ (by omega), ui_ne _ _ _ (by omega)]
      · unfold vDid3; rw [upd_n _ _ (by omega), upd_n _ _ (by omega), upd_n _ _ (by omega)]
      all_goals (unfold vDid3; rw [upd_n _ _ (by omega), upd_n _ _ (by omega), upd_n _ _ (by omega)])
    · intro c hc
      unfold cDone
      rw [if_neg (by simp; omega)]; unfold cDid3; rw [ui_ne _ _ _ (by omega), ui_ne _ _ _ (by omega), ui_ne _ _ _ (by omega)]
    · unfold cDone
      rw [if_neg (by simp; omega)]; unfold cDid3; rw [ui_gj _ _ _ (by omega), ui_gj _ _ _ (by omega), ui_gn _ _ _ _ (by omega)]
    · unfold cDone
      rw [if_neg (by simp; omega)]; unfold cDid3; rw [ui_gj _ _ _ (by omega), ui_gj _ _ _ (by omega), ui_gn _ _ _ _ (by omega)]
    · intro j h1 h2
      unfold vDone
      rw [if_neg hd]; unfold vDid3; rw [upd_n _ _ (by omega), upd_n _ _ (by omega), upd_n _ _ (by omega)]
    · unfold vDone
      rw [if_neg hd]; unfold vDid3; rw [upd_n _ _ (by omega), upd_s]
theorem p_does {s p k t : Nat} (h : Rel m I V) (hs' : s < 2) (ep : V (222 + 14 * s) = nI p) (hp : p ≤ ix (V 48)) (ek : V (223 + 14 * s) = nI k) (hk : k < vMany V s p) (ht : t ≤ ix (V 48)) :
    ∃ I' V', MOut (fun o b J Q => w_X10_does o b (nI s) (nI t) J Q) V V' ∧ (∀ P : MI → Prop, P I' → w_X5_finishDeed (m + 57 + 3 * s) (m + 1) (nI t) I P) ∧ Rel m I' V' ∧ (∀ c, (c < m + 57 + 3 * s ∨ m + 57 + 3 * s + 2 < c) → I' c = I c) ∧ I' (m + 57 + 3 * s) 6 = I (m + 57 + 3 * s) 6 ∧ I' (m + 57 + 3 * s) 4 = I (m + 57 + 3 * s) 4 ∧ (∀ j, (j < 222 + 14 * s ∨ 226 + 14 * s ≤ j) → (j < 366 + 75 * s ∨ 441 + 75 * s ≤ j) → V' j = V j) ∧ V' (224 + 14 * s) = V (224 + 14 * s) + 1 := by
  obtain ⟨I', V', -, r⟩ := p_doesE h hs' ep hp ek hk ht
  exact ⟨I', V', r⟩
end
