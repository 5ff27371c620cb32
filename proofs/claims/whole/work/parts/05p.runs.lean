section
variable {m : Nat} {I : MI} {V : Nat → Int32}
theorem upd_c (f : Nat → Int32) {k j : Nat} (x y : Int32) (h : k ≠ j) : upd (upd f k x) j y = upd (upd f j y) k x := by
  funext i
  by_cases h1 : i = j
  · subst h1; rw [upd_s, upd_n _ _ (by omega), upd_s]
  · by_cases h2 : i = k
    · subst h2; rw [upd_n _ _ h1, upd_s, upd_s]
    · rw [upd_n _ _ h1, upd_n _ _ h2, upd_n _ _ h2, upd_n _ _ h1]
theorem vDone_e {s p k : Nat} {t : Int32} (hp : p ≤ 24) (hs' : s < 2) (hk : k < 2) (hl : p ≤ 23 ∨ nI p = V 48) : vDone (upd V (226 + 14 * s) 1) s p k t = upd (vDone V s p k t) (226 + 14 * s) 1 := by
  unfold vDone vDid3
  rw [vDeed_fr (VFr.up (by omega)) hl, upd_n V _ (show 366 + 75 * s + 3 * p + k ≠ 226 + 14 * s by omega), upd_n V _ (show 224 + 14 * s ≠ 226 + 14 * s by omega), upd_n V _ (show 225 + 14 * s ≠ 226 + 14 * s by omega)]
  split
  · rw [upd_c V _ _ (show 226 + 14 * s ≠ 366 + 75 * s + 3 * p + k by omega), upd_c _ _ _ (show 226 + 14 * s ≠ 224 + 14 * s by omega), upd_c _ _ _ (show 226 + 14 * s ≠ 223 + 14 * s by omega), upd_c _ _ _ (show 226 + 14 * s ≠ 225 + 14 * s by omega), upd_c _ _ _ (show 226 + 14 * s ≠ 223 + 14 * s by omega), upd_c _ _ _ (show 226 + 14 * s ≠ 222 + 14 * s by omega)]
  · rw [upd_c V _ _ (show 226 + 14 * s ≠ 366 + 75 * s + 3 * p + k by omega), upd_c _ _ _ (show 226 + 14 * s ≠ 224 + 14 * s by omega), upd_c _ _ _ (show 226 + 14 * s ≠ 223 + 14 * s by omega)]
theorem Rel.ended {s : Nat} (h : Rel m I V) (hs' : s < 2) : Rel m (ui I (m + 57 + 3 * s) 4 1) (upd V (226 + 14 * s) 1) := by
  have v : ∀ j, j ≠ 226 + 14 * s → upd V (226 + 14 * s) 1 j = V j := fun j hj => upd_n _ _ hj
  refine h.side hs' (fun c hc => ui_ne _ _ _ (by omega)) (fun k h1 h2 => v k (by omega)) ⟨v _ (by omega), v _ (by omega), v _ (by omega)⟩ ?_
  obtain ⟨g0, ⟨p, k, hp, ep, ek, hk⟩, g1, g2, g3, g4, g5, g6, g9, g10⟩ := h.2.2.2.2 s hs'
  have i : ∀ j, j ≠ 4 → ui I (m + 57 + 3 * s) 4 1 (m + 57 + 3 * s) j = I (m + 57 + 3 * s) j := fun j hj => ui_gj _ _ _ hj
  unfold RelS
  rw [i 0 (by omega), i 1 (by omega), i 2 (by omega), i 3 (by omega), i 5 (by omega), ui_gs, ui_ne _ _ _ (show m + 58 + 3 * s ≠ m + 57 + 3 * s by omega), ui_ne _ _ _ (show m + 59 + 3 * s ≠ m + 57 + 3 * s by omega), v 48 (by omega), v (222 + 14 * s) (by omega), v (223 + 14 * s) (by omega), v (224 + 14 * s) (by omega), v (225 + 14 * s) (by omega), upd_s]
  refine ⟨g0, ⟨p, k, hp, ep, ek, ?_⟩, g1, g2, g3, g4, rfl, ⟨1, by omega, rfl⟩, fun r h1 h2 => ?_, fun i k hi hk => ?_⟩
  · rw [vMany_fr (VFr.up (by omega)) (ilow h.1.2.1 hp)]; exact hk
  · rw [v _ (by omega)]; exact g9 r h1 h2
  · rw [v _ (by omega)]; exact g10 i k hi hk
theorem Rel.slot6 {s : Nat} {x : Int32} (h : Rel m I V) (hs' : s < 2) : Rel m (ui I (m + 57 + 3 * s) 6 x) V := by
  refine h.side hs' (fun c hc => ui_ne _ _ _ (by omega)) (fun k h1 h2 => rfl) ⟨rfl, rfl, rfl⟩ ?_
  obtain ⟨g0, g, g1, g2, g3, g4, g5, g6, g9, g10⟩ := h.2.2.2.2 s hs'
  have i : ∀ j, j ≠ 6 → ui I (m + 57 + 3 * s) 6 x (m + 57 + 3 * s) j = I (m + 57 + 3 * s) j := fun j hj => ui_gj _ _ _ hj
  unfold RelS
  rw [i 0 (by omega), i 1 (by omega), i 2 (by omega), i 3 (by omega), i 4 (by omega), i 5 (by omega), ui_ne _ _ _ (show m + 58 + 3 * s ≠ m + 57 + 3 * s by omega), ui_ne _ _ _ (show m + 59 + 3 * s ≠ m + 57 + 3 * s by omega)]
  exact ⟨g0, g, g1, g2, g3, g4, g5, g6, g9, g10⟩
theorem RelS.wait {s r : Nat} (h : RelS m s I V) (hb : bd (V 48) 25) (hs' : s < 2) (h1 : 1 ≤ r) (h7 : r ≤ 7) : RelS m s (ui (ui I (m + 57 + 3 * s) 6 (nI r)) (m + 58 + 3 * s) r (I (m + 58 + 3 * s) r + 1)) (vWait V s r) := by
  obtain ⟨g0, ⟨p, k, hp, ep, ek, hk⟩, g1, g2, g3, g4, g5, g6, g9, g10⟩ := h
  have v : ∀ j, j ≠ 227 + 14 * s → j ≠ 228 + 14 * s + r → vWait V s r j = V j := fun j q1 q2 => by unfold vWait; rw [upd_n _ _ q2, upd_n _ _ q1]
  have vf : VFr V (vWait V s r) := fun j hj => v j (by omega) (by omega)
  have i : ∀ j, j ≠ 6 → ui (ui I (m + 57 + 3 * s) 6 (nI r)) (m + 58 + 3 * s) r (I (m + 58 + 3 * s) r + 1) (m + 57 + 3 * s) j = I (m + 57 + 3 * s) j := fun j hj => by rw [ui_gn _ _ _ _ (by omega), ui_gj _ _ _ hj]
  unfold RelS
  rw [i 0 (by omega), i 1 (by omega), i 2 (by omega), i 3 (by omega), i 4 (by omega), i 5 (by omega), ui_ne _ _ _ (show m + 59 + 3 * s ≠ m + 58 + 3 * s by omega), ui_ne _ _ _ (show m + 59 + 3 * s ≠ m + 57 + 3 * s by omega), v 48 (by omega) (by omega), v (222 + 14 * s) (by omega) (by omega), v (223 + 14 * s) (by omega) (by omega), v (224 + 14 * s) (by omega) (by omega), v (225 + 14 * s) (by omega) (by omega), v (226 + 14 * s) (by omega) (by omega)]
  refine ⟨g0, ⟨p, k, hp, ep, ek, ?_⟩, g1, g2, g3, g4, g5, g6, fun q h1 h2 => ?_, fun i k hi hk => ?_⟩
  · rw [vMany_fr vf (ilow hb hp)]; exact hk
  · by_cases e : q = r
    · subst e; rw [ui_gs]; unfold vWait; rw [upd_s, g9 q h1 h2]
    · rw [ui_gj _ _ _ e, ui_gn _ _ _ _ (by omega), v _ (by omega) (by omega)]; exact g9 q h1 h2
  · rw [v _ (by omega) (by omega)]; exact g10 i k hi hk
theorem vWait_o {s r j : Nat} (h1 : j ≠ 227 + 14 * s) (h2 : j ≠ 228 + 14 * s + r) : vWait V s r j = V j := by unfold vWait; rw [upd_n _ _ h2, upd_n _ _ h1]
theorem Rel.wait0 {s r : Nat} (h : Rel m I V) (hs' : s < 2) (h1 : 1 ≤ r) (h7 : r ≤ 7) (hno : s = 1 ∨ r < 5) : Rel m (ui (ui I (m + 57 + 3 * s) 6 (nI r)) (m + 58 + 3 * s) r (I (m + 58 + 3 * s) r + 1)) (vWait V s r) :=
  h.side hs' (fun c hc => by rw [ui_ne _ _ _ (by omega), ui_ne _ _ _ (by omega)]) (fun k _ _ => vWait_o (by omega) (by omega)) ⟨vWait_o (by omega) (by omega), vWait_o (by omega) (by omega), vWait_o (by omega) (by omega)⟩ ((h.2.2.2.2 s hs').wait h.1.2.1 hs' h1 h7)
theorem Rel.wait1 {r : Nat} (h : Rel m I V) (h1 : 5 ≤ r) (h7 : r ≤ 7) : Rel m (ui (ui (ui I (m + 57) 6 (nI r)) (m + 58) r (I (m + 58) r + 1)) m 11 (I m 11 + 1)) (vWait V 0 r) := by
  have vf : VFr V (vWait V 0 r) := fun j hj => vWait_o (by omega) (by omega)
  have hi : ∀ c, c ≠ m → c ≠ m + 57 → c ≠ m + 58 → ui (ui (ui I (m + 57) 6 (nI r)) (m + 58) r (I (m + 58) r + 1)) m 11 (I m 11 + 1) c = I c := fun c q1 q2 q3 => by rw [ui_ne _ _ _ q1, ui_ne _ _ _ q3, ui_ne _ _ _ q2]
  have hS := (h.2.2.2.2 0 (by omega)).wait h.1.2.1 (by omega) (show 1 ≤ r by omega) h7
  refine h.set (fun c hc => hi c (by omega) (by omega) (by omega)) vf ?_ (fun q hq => (h.2.2.2.1 q hq).fr (fun d hd => hi _ (by omega) (by omega) (by omega)) (vWait_o (by omega) (by omega)) (fun d hd => vWait_o (by omega) (by omega))) (fun s' hs2 => ?_)
  · obtain ⟨a1, a2, a3, a4, a5, a6, a7, a8, a9, a10, a11, a12, a13, a14, a15, a16, a17, a18, a19⟩ := h.2.2.1
    have hJ : ∀ k, k ≠ 11 → ui (ui (ui I (m + 57) 6 (nI r)) (m + 58) r (I (m + 58) r + 1)) m 11 (I m 11 + 1) m k = I m k := fun k hk => by rw [ui_gj _ _ _ hk, ui_gn _ _ _ _ (by omega), ui_gn _ _ _ _ (by omega)]
    have hV : ∀ j, (j < 227 ∨ 236 ≤ j) → vWait V 0 r j = V j := fun j hj => vWait_o (by omega) (by omega)
    unfold RelM
    rw [hi (m + 35) (by omega) (by omega) (by omega), hi (m + 36) (by omega) (by omega) (by omega), hJ 5 (by omega), hJ 6 (by omega), hJ 7 (by omega), hJ 8 (by omega), hJ 9 (by omega), hJ 10 (by omega), hJ 12 (by omega), hJ 13 (by omega), hJ 14 (by omega), hJ 15 (by omega), ui_gs, hV 0 (by omega), hV 170 (by omega), hV 171 (by omega), hV 218 (by omega), hV 219 (by omega), hV 220 (by omega), hV 221 (by omega), hV 250 (by omega), hV 251 (by omega)]
    refine ⟨fun r hr => by rw [hV (210 + r) (by omega)]; exact a1 r hr, fun c hc => by rw [hV (178 + c) (by omega)]; exact a2 c hc, a3, a4, a5, a6, a7, a8, a9, a10, a11, a12, ?_, a14, a15, a16, a17, a18, a19⟩
    rw [a13]
    rcases (show r = 5 ∨ r = 6 ∨ r = 7 by omega) with rfl | rfl | rfl
    · rw [vWait_o (s := 0) (r := 5) (j := 234) (by omega) (by omega), vWait_o (s := 0) (r := 5) (j := 235) (by omega) (by omega), show vWait V 0 5 233 = V 233 + 1 from upd_s _ _ _]
      ac_rfl
    · rw [vWait_o (s := 0) (r := 6) (j := 233) (by omega) (by omega), vWait_o (s := 0) (r := 6) (j := 235) (by omega) (by omega), show vWait V 0 6 234 = V 234 + 1 from upd_s _ _ _]
      ac_rfl
    · rw [vWait_o (s := 0) (r := 7) (j := 233) (by omega) (by omega), vWait_o (s := 0) (r := 7) (j := 234) (by omega) (by omega), show vWait V 0 7 235 = V 235 + 1 from upd_s _ _ _]
      ac_rfl
  · by_cases e : s' = 0
    · subst e
      refine hS.fr (V := vWait V 0 r) (by rw [vf 48 (by omega)]; exact h.1.2.1) (by omega) (fun d hd => ui_ne _ _ _ (by omega)) VFr.rf (fun _ _ _ => rfl) (fun _ _ => rfl)
    · exact (h.2.2.2.2 s' hs2).fr h.1.2.1 hs2 (fun d hd => hi _ (by omega) (by omega) (by omega)) vf (fun d hd _ => vWait_o (by omega) (by omega)) (fun d hd => vWait_o (by omega) (by omega))
theorem ra_end {p k : Nat} (h : Rel m I V) (hp : p ≤ ix (V 48)) (ep : V 222 = nI p) (ek : V 223 = nI k) (hk : k < vMany V 0 p) : RA m p I V 14 14 8 := by
  have hl := ilow h.1.2.1 hp
  obtain ⟨hsz, e48⟩ := size_lt h.1
  obtain ⟨s0, -, s1, s2, -⟩ := h.2.2.2.2 0 (by omega)
  have s1 : I (m + 57) 1 = nI p := s1.trans ep
  have hk2 : k < 2 := by have := vMany_le (V := V) (s := 0) (i := p); omega
  have h1 := h.ended (s := 0) (by omega)
  have vf : VFr V (upd V (226 + 14 * 0) 1) := VFr.up (by omega)
  obtain ⟨I', V', g0, g1, g2, g3, g4, g5, g6, g7, g8⟩ := p_doesE (s := 0) h1 (by omega) (by rw [upd_n _ _ (by omega)]; exact ep) (by rw [vf 48 (by omega)]; exact hp) (by rw [upd_n _ _ (by omega)]; exact ek) (by rw [vMany_fr vf hl]; exact hk) (t := p) (by rw [vf 48 (by omega)]; exact hp)
  rw [vDone_e (by omega) (by omega) hk2 hl] at g0
  refine ⟨I', V', fun o b J Q hb hQ => ?_, fun P hP => ?_, g3, ?_, ?_, ?_, ?_, ?_, ?_, ?_, ?_, ?_⟩
  · unfold swR
    refine t_of' (k := 1) hb (by omega) (by omega) ?_
    rintro _ rfl
    refine ⟨fun c => absurd c (by decide), fun c => absurd c (by decide), fun c => absurd c (by decide), fun c => absurd c (by decide), fun c => absurd c (by decide), fun c => absurd c (by decide), fun c => absurd c (by decide), fun c => absurd c (by decide), fun c => absurd c (by decide), fun _ _ _ _ _ _ _ _ _ => ?_⟩
    refine t_ends (s := 0) hb (by omega) (by omega) (by omega) ep ek hl (vDeed_pos h.1 (by omega) hp) ?_
    rw [← g0]
    exact hQ
  · unfold w_X1_runnerDoes
    refine ⟨fun c => absurd c (by decide), fun c => absurd c (by decide), fun _ => ?_, fun c => absurd c (by decide), fun c => absurd c (by decide), fun c => absurd c (by decide), fun c => absurd c (by decide), fun c => absurd c (by decide), fun c => absurd c (by decide), fun c => absurd c (by decide), fun _ _ c => absurd rfl c⟩
    rintro _ rfl
    show w_X5_finishDeed (m + 57) (m + 1) (ui I (m + 57) 4 1 (m + 57) 1) (ui I (m + 57) 4 1) P
    rw [ui_gj _ _ _ (show (1 : Nat) ≠ 4 by omega), s1]
    exact g2 P hP
  · intro c hc
    rw [g4 c (by omega), ui_ne _ _ _ (by omega)]
  · exact vf.tr (fun j hj => g7 j (by omega) (by omega))
  · intro c hc
    rw [g4 c (by omega), ui_ne _ _ _ (by omega)]
  · have := g5
    rw [show m + 57 + 3 * 0 = m + 57 by omega, ui_gj _ _ _ (by omega)] at this
    exact this
  · rw [g4 m (by omega), ui_ne _ _ _ (by omega)]
  · intro j h1 h2
    rw [g7 j (by omega) (by omega), upd_n _ _ (by omega)]
  · intro j h1 h2
    rw [g7 j (by omega) (by omega), upd_n _ _ (by omega)]
  · intro j h1 h2
    rw [g7 j (by omega) (by omega), upd_n _ _ (by omega)]
  · have := g8
    rw [show 224 + 14 * 0 = 224 by omega, upd_n _ _ (by omega)] at this
    exact this
theorem ra_all {p k : Nat} (h : Rel m I V) (hp : p ≤ ix (V 48)) (ep : V 222 = nI p) (ek : V 223 = nI k) (hk : k < vMany V 0 p) (hd : Rdy V (vDeed V 0 p k)) : RA m p I V (vDeed V 0 p k - vDeed V 0 p k / 16 * 16) (vDeed V 0 p k) (cKind (vOp V p) (vDeed V 0 p k)) := by
  have hk2 : k ≤ 2 := by have := vMany_le (V := V) (s := 0) (i := p); omega
  have hnz := (vMany_iff h.1 (s := 0) (by omega) hp hk2).mp hk
  rcases dc0 h.1 hp (k := k) with e | e
  · exact absurd e hnz
  rcases e with ⟨e, ho⟩ | ⟨e, ho⟩ | ⟨e, ho⟩ | ⟨e, ho⟩ | ⟨r, hr, e, ho⟩ | ⟨e, ho⟩ | ⟨e, ho⟩ | ⟨e, ho⟩ | ⟨e, ho⟩ | ⟨e, ho⟩
  · rw [e, ho]; exact ra_end h hp ep ek hk
  · rw [e, ho]; exact ra_go h hp ep ek hk ho
  · rw [e] at hd ⊢; rw [ho]; exact ra_tell h hp ep ek hk ho hd
  · rw [e] at hd ⊢; rw [ho]; exact ra_ask h hp ep ek hk ho hd
  · have := ra_send h hp ep ek hk hr e (by rcases ho with q | q | q | q <;> rw [q] <;> decide) (by rw [← e]; exact hd)
    rw [e, send_mod hr, cKind_send hr]; exact this
  · rw [e, ho]; exact ra_fetch h hp ep ek hk ho
  · rw [e] at hd ⊢; rw [ho]; exact ra_store h hp ep ek hk ho hd
  · rw [e]
    rcases ho with ho | ho
    · rw [ho]; exact ra_set h hp ep ek hk ho
    · exact ra_op h hp ep ek hk ho
  · rw [e] at hd ⊢; rw [ho]; exact ra_load h hp ep ek hk ho hd
  · rw [e] at hd ⊢; rw [ho]; exact ra_place h hp ep ek hk ho hd
end
