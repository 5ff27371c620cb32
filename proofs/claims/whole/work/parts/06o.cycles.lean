section
variable {a : Nat} {I : MI} {V : Nat → Int32}
theorem AmOK.fr {V' : Nat → Int32} (h : AmOK V) (hs' : ix (V 48) < 25) (hV : VFr V V') : AmOK V' := by
  obtain ⟨K, A, hK, e47, hL, e49⟩ := h
  have hV' : VFr V' V := fun k hk => (hV k hk).symm
  exact ⟨K, A, hK, by rw [hV 47 (by omega)]; exact e47, hL.fr hV' (by rw [hV 48 (by omega)]; exact hs'), by rw [hV 49 (by omega)]; exact e49⟩
/-- nothing but whole's machine is changed -/
def WFr (a : Nat) (I I' : MI) : Prop := ∀ c, (c < a + 3 ∨ a + 66 ≤ c) → I' c = I c
theorem Inv.of {I' : MI} {V' : Nat → Int32} (h : Inv a I V) (hR : Rel (a + 3) I' V') (hW : RelW (a + 3) I' V') (hT : Tame V') (hF : Frm (a + 3) I I') (hV : VFr V V') : Inv a I' V' := by
  obtain ⟨h1, h2, h3, h4, h5⟩ := h
  obtain ⟨hsz, -⟩ := size_lt h1.1
  exact ⟨hR, h2.fr (fun c h1 h2 => hF c (by omega)) (fun k hk => hV k (by omega)), hW, hT, h5.fr hsz hV⟩
theorem q_cycles {x : Int32} {P : Int32 → MI → Prop} (h : Inv a I V) (hP : ∀ v I' V', (∀ (o : Nat) (J : MI) (S : Int32 → MI → Prop), S v (kb J (o + 1) 0 V') → w_X10_cycles o x (kb J (o + 1) 0 V) S) → Inv a I' V' → WFr a I I' → P v I') : w_X9_cycles a x I P := by
  unfold w_X9_cycles
  rcases in_cases x (lo := 1) (hi := 50) (by omega) (by omega) with ⟨k, h1, h2, rfl⟩ | hx
  · refine ⟨fun c => absurd ((nI_ltI (b := 1) (by omega) (by omega)).mp c) (by omega), fun _ => ⟨fun _ => ?_, fun c => absurd (nI_le (b := 50) h2 (by omega)) c⟩⟩
    obtain ⟨r, I', V', g1, g2, g3, g4, g5, g6, g7, g8⟩ := p_goes (m := a + 3) (nI k) h.1 h.2.2.2.1 h.2.2.1
    refine g2 _ (hP _ I' V' (fun o J S hS => ?_) (h.of g3 g5 g4 g6 g7) (fun c hc => g6 c (by omega)))
    unfold w_X10_cycles
    exact t_isIn1 (lo := 1) (hi := 50) h1 h2 (by omega) ⟨fun c => absurd c (by decide), fun _ => g1 o 0 J _ (by omega) hS⟩
  · have hno : P (-1) I := hP (-1) I V (fun o J S hS => by
      unfold w_X10_cycles
      exact t_isIn0 hx ⟨fun _ => hS, fun c => absurd rfl c⟩) h (fun _ _ => rfl)
    exact ⟨fun _ => hno, fun c => ⟨fun c2 => absurd (hx.resolve_left c) (Int32.not_lt.mpr c2), fun _ => hno⟩⟩
theorem q_begin {P : MI → Prop} (h : Inv a I V) (hP : ∀ I' V', (∀ (o : Nat) (J : MI) (S : MI → Prop), S (kb J (o + 1) 0 V') → w_X10_begin o (kb J (o + 1) 0 V) S) → Inv a I' V' → WFr a I I' → P I') : w_X9_begin a I P := by
  have hI := h
  obtain ⟨hR, hRT, hW, hTm, K, A, hK, e47, hL, e49⟩ := h
  unfold w_X9_begin
  refine k_begin (fun I2 gQ gS gM gF => ?_)
  obtain ⟨r1, r2, r3, r4⟩ := Rel.start (m := a + 3) (A := A) hR.1 hR.2.1 hRT.u e49 (fun s hs => (hR.2.2.2.2 s hs).1) hR.2.2.1.2.2.2.2.2.2.2.2.2.2.2.2.2.2.2.2.2.2 gQ gS gM gF
  refine hP I2 (vStart V A) (fun o J S hS => ?_) (hI.of r1 r2 r3 gF r4) (fun c hc => gF c (by omega))
  unfold w_X10_begin
  refine t_starts (b := 0) hR.1 (by omega) hK e47 (fun A' hA' => ?_)
  rw [hA'.uq hL]
  exact hS
end
