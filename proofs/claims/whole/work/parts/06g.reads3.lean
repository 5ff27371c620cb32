section
variable {a o b : Nat} {I J : MI} {V : Nat → Int32}
theorem t_many {p s i : Nat} {Q : Int32 → Prop} (h : RelR p I V) (hb : b ≤ 1032) (hs' : s < 2) (hi : i ≤ ix (V 48)) (hQ : Q (nI (vMany V s i))) : w_X10_many o (nI b) (nI s) (nI i) (kb J (o + 1) b V) Q := by
  obtain ⟨hsz, -⟩ := size_lt h
  have hle := vMany_le (V := V) (s := s) (i := i)
  unfold w_X10_many
  refine Lp1.of (fun y => ∃ k, k ≤ vMany V s i ∧ y = nI k) (fun y => 10 - ix y) ?_ _ ⟨0, by omega, rfl⟩
  rintro rec y ⟨k, hk, rfl⟩ hrec
  unfold w_X10_many_l3
  refine t_deed hb (by omega) (by omega) (by omega) ⟨fun c => ?_, fun c => ?_⟩
  · have c := (vDeed_pos h hs' hi).mp c
    have : ¬ k < vMany V s i := fun q => (vMany_iff h hs' hi (by omega)).mp q c
    have e : k = vMany V s i := by omega
    rw [e]; exact hQ
  · have c : ¬ vDeed V s i k = 0 := fun q => c ((vDeed_pos h hs' hi).mpr q)
    have : k < vMany V s i := (vMany_iff h hs' hi (by omega)).mpr c
    refine hrec _ ⟨k + 1, by omega, nI_1 k⟩ ?_
    rw [nI_1, ixn (by omega), ixn (by omega)]; omega
theorem q_room (h : Rel (a + 3) I V) (x y : Int32) : ∃ (v : Int32) (I' : MI) (V' : Nat → Int32), (∀ (o : Nat) (J : MI) (S : Int32 → MI → Prop), S v (kb J (o + 1) 0 V') → w_X10_room o x y (kb J (o + 1) 0 V) S) ∧ (∀ S : Int32 → MI → Prop, S v I' → w_X9_room a x y I S) ∧ Rel (a + 3) I' V' ∧ Frm (a + 3) I I' ∧ VFr V V' ∧ (RelW (a + 3) I V → RelW (a + 3) I' V') ∧ (Tame V → Tame V') ∧ bln v := by
  have stay : (∀ (o : Nat) (J : MI) (S : Int32 → MI → Prop), S 0 (kb J (o + 1) 0 V) → w_X10_room o x y (kb J (o + 1) 0 V) S) → (∀ S : Int32 → MI → Prop, S 0 I → w_X9_room a x y I S) → ∃ (v : Int32) (I' : MI) (V' : Nat → Int32), (∀ (o : Nat) (J : MI) (S : Int32 → MI → Prop), S v (kb J (o + 1) 0 V') → w_X10_room o x y (kb J (o + 1) 0 V) S) ∧ (∀ S : Int32 → MI → Prop, S v I' → w_X9_room a x y I S) ∧ Rel (a + 3) I' V' ∧ Frm (a + 3) I I' ∧ VFr V V' ∧ (RelW (a + 3) I V → RelW (a + 3) I' V') ∧ (Tame V → Tame V') ∧ bln v := fun g1 g2 => ⟨0, I, V, g1, g2, h, Frm.rf, VFr.rf, fun q => q, fun q => q, Or.inl rfl⟩
  rcases in_cases x (lo := 0) (hi := 5) (by omega) (by omega) with ⟨k, h1, h2, rfl⟩ | hx
  · rcases in_cases y (lo := 1) (hi := 6) (by omega) (by omega) with ⟨j, j1, j2, rfl⟩ | hy
    · obtain ⟨n, f, hn, hf, e1, e2, e3, e4, e5, hj⟩ := h.2.2.2.1 k (by omega)
      have hv : VFr V (upd V (172 + k) (nI j)) := VFr.up (by omega)
      have hR : Rel (a + 3) (ui I (a + 42 + 3 * k) 4 (nI j)) (upd V (172 + k) (nI j)) := by
        refine h.set (Frm.ui (by omega) (by omega) (by omega)) hv (h.2.2.1.fr (ui_ne _ _ _ (by omega)) (ui_ne _ _ _ (by omega)) (fun k' _ _ => by rw [ui_ne _ _ _ (by omega)]) (fun k' hk => upd_n _ _ (by omega))) (fun q hq => ?_) (fun s hs => (h.2.2.2.2 s hs).fr h.1.2.1 hs (fun d hd => ui_ne _ _ _ (by omega)) hv (fun d hd _ => upd_n _ _ (by omega)) (fun d hd => upd_n _ _ (by omega)))
        by_cases e : q = k
        · subst e
          rw [show a + 42 + 3 * q = a + 3 + 39 + 3 * q by omega]
          refine ⟨n, f, hn, hf, by rw [upd_n _ _ (by omega)]; exact e1, by rw [ui_gj _ _ _ (by omega)]; exact e2, by rw [ui_gj _ _ _ (by omega)]; exact e3, by rw [ui_gs, upd_s], by rw [upd_s]; exact ⟨j, by omega, by omega, rfl⟩, fun i hi => ?_⟩
          rw [ui_ne _ _ _ (by omega), ui_ne _ _ _ (by omega), upd_n _ _ (by omega), upd_n _ _ (by omega), upd_n _ _ (by omega)]
          exact hj i hi
        · exact (h.2.2.2.1 q hq).fr (fun d hd => ui_ne _ _ _ (by omega)) (upd_n _ _ (by omega)) (fun d hd => upd_n _ _ (by omega))
      refine ⟨1, _, _, fun o J S hS => ?_, fun S hS => ?_, hR, Frm.ui (by omega) (by omega) (by omega), hv, fun q s hs => ?_, fun q => ?_, Or.inr rfl⟩
      · unfold w_X10_room
        refine t_isIn1 (lo := 0) (hi := 5) (by omega) h2 (by omega) ⟨fun c => absurd c (by decide), fun _ => t_isIn1 (lo := 1) (hi := 6) j1 j2 (by omega) ⟨fun _ => ?_, fun c => absurd c (by decide)⟩⟩
        simp only [lit, nI_add]
        refine ⟨inn (by omega) (by omega), ?_⟩
        rintro _ rfl
        have := kx (V := V) (J := J) (o := o) (b := 0) (k := 172 + k) (x := nI j) (by omega) (by omega)
        rw [Nat.zero_add] at this
        rw [this]
        exact hS
      · unfold w_X9_room
        refine k_Queue1 (by omega) ⟨fun c => absurd c (by decide), fun _ => ⟨fun c => absurd ((nI_ltI (b := 1) (by omega) (by omega)).mp c) (by omega), fun _ => ⟨fun _ => ⟨inn (by omega) (by omega), ?_⟩, fun c => absurd (nI_le (b := 6) j2 (by omega)) c⟩⟩⟩
        rintro _ rfl
        rw [ixn (by omega)]
        exact hS
      · rw [ui_ne _ _ _ (by omega), upd_n _ _ (by omega)]; exact q s hs
      · intro c
        rw [upd_n _ _ (by omega)] at c
        rw [upd_n _ _ (by omega)]; exact q c
    · refine stay (fun o J S hS => ?_) (fun S hS => ?_)
      · unfold w_X10_room
        exact t_isIn1 (lo := 0) (hi := 5) (by omega) h2 (by omega) ⟨fun c => absurd c (by decide), fun _ => t_isIn0 hy ⟨fun c => absurd rfl c, fun _ => hS⟩⟩
      · unfold w_X9_room
        refine k_Queue1 (by omega) ⟨fun c => absurd c (by decide), fun _ => ⟨fun _ => hS, fun c => ⟨fun c2 => ?_, fun _ => hS⟩⟩⟩
        exact absurd (hy.resolve_left c) (Int32.not_lt.mpr c2)
  · refine stay (fun o J S hS => ?_) (fun S hS => ?_)
    · unfold w_X10_room
      exact t_isIn0 hx ⟨fun _ => hS, fun c => absurd rfl c⟩
    · unfold w_X9_room
      exact k_Queue0 hx ⟨fun _ => hS, fun c => absurd rfl c⟩
/-- how many, or none such -/
theorem k_deedsNo {p : Nat} {x y : Int32} {Q : Int32 → Prop} {n : Nat} (hn : n < 25) (e : I p 1 = nI n) (hxy : (x < nI 0 ∨ nI 1 < x) ∨ (y < nI 0 ∨ nI n < y)) (hQ : Q (-1)) : w_X2_deedsAt p x y I Q := by
  unfold w_X2_deedsAt
  rw [e]
  rcases in_cases x (lo := 0) (hi := 1) (by omega) (by omega) with ⟨s, h1, h2, rfl⟩ | hx
  · have hy : y < nI 0 ∨ nI n < y := hxy.resolve_left (fun c => c.elim (fun c => absurd c (nI_pos (by omega))) (fun c => absurd ((nI_ltI (by omega) (by omega)).mp c) (by omega)))
    exact k_Side1 (by omega) ⟨fun c => absurd c (by decide), fun _ => ⟨fun _ => hQ, fun c => ⟨fun _ => hQ, fun c2 => absurd (hy.resolve_left c) c2⟩⟩⟩
  · exact k_Side0 hx ⟨fun _ => hQ, fun c => absurd rfl c⟩
theorem q_deeds (h : Rel (a + 3) I V) (x y : Int32) : ∃ v, (∀ (o : Nat) (J : MI) (Q : Int32 → Prop), Q v → w_X10_deeds o x y (kb J (o + 1) 0 V) Q) ∧ ∀ Q : Int32 → Prop, Q v → w_X9_deeds a x y I Q := by
  obtain ⟨hsz, e48⟩ := size_lt h.1
  have e1 : I (a + 4) 1 = nI (ix (V 48)) := h.1.1.trans e48
  have m48 : ∀ (o : Nat) (J : MI), kb J (o + 1) 0 V (o + 1) (ix (48)) = nI (ix (V 48)) := fun o J => (g0 (k := 48) (by omega)).trans e48
  rcases in_cases x (lo := 0) (hi := 1) (by omega) (by omega) with ⟨s, s1, s2, rfl⟩ | hx
  · rcases in_cases y (lo := 0) (hi := ix (V 48)) (by omega) (by omega) with ⟨i, i1, i2, rfl⟩ | hy
    · refine ⟨nI (vMany V s i), fun o J Q hQ => ?_, fun Q hQ => ?_⟩
      · unfold w_X10_deeds
        refine t_isIn1 (lo := 0) (hi := 1) (by omega) s2 (by omega) ⟨fun c => absurd c (by decide), fun _ => ?_⟩
        rw [m48]
        exact t_isIn1 (lo := 0) (by omega) i2 (by omega) ⟨fun c => absurd c (by decide), fun _ => t_many (b := 0) h.1 (by omega) (by omega) i2 hQ⟩
      · unfold w_X9_deeds
        refine k_deedsAt (by omega) hsz i2 e1 ?_
        have := h.2.1.2.1 s i (by omega) i2
        rw [show a + 3 + 1 + 7 = a + 4 + 7 by omega] at this
        rw [this]; exact hQ
    · refine ⟨-1, fun o J Q hQ => ?_, fun Q hQ => ?_⟩
      · unfold w_X10_deeds
        refine t_isIn1 (lo := 0) (hi := 1) (by omega) s2 (by omega) ⟨fun c => absurd c (by decide), fun _ => ?_⟩
        rw [m48]
        exact t_isIn0 hy ⟨fun _ => hQ, fun c => absurd rfl c⟩
      · unfold w_X9_deeds
        exact k_deedsNo hsz e1 (Or.inr hy) hQ
  · refine ⟨-1, fun o J Q hQ => ?_, fun Q hQ => ?_⟩
    · unfold w_X10_deeds
      exact t_isIn0 hx ⟨fun _ => hQ, fun c => absurd rfl c⟩
    · unfold w_X9_deeds
      exact k_deedsNo hsz e1 (Or.inl hx) hQ
end
