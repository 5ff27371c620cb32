/-! all lines -/
section
variable {r n L tp : Nat} {T : Nat → Nat} {B : MR}
theorem q_lines {ke : Int32 → MI → Prop} {Q : MI → MR → Prop} (hL : L ≤ 600) : ∀ (f : Nat) (I : MI) (s : PS) (i R : Nat) (V : Nat → Int32) (nm am : Nat → Nat), (s.2.1 = false → n < f + s.1) → TpB (r + 35) tp T I B → LCm r I T L n s R V nm am → (s.2.1 = false → LIn T L s R V nm am ∧ i ≤ s.1) → i ≤ 601 →
    (∀ I' s' R' V' nm' am', LCm r I' T L n s' R' V' nm' am' → (s'.2.1 = false → LIn T L s' R' V' nm' am' ∧ tkd T L s'.1 = 6) → TpB (r + 35) tp T I' B → RrF r I I' →
      (∀ (o : Nat) (I : MI) (J : MJ) (km : MI → MJ → Prop) (S : Int32 → MI → MJ → Prop), LMm o I J T L n s R V nm R am (pos T L s.1) → (∀ I' J', LMm o I' J' T L n s' R' V' nm' R' am' (pos T L s'.1) → MdF o I I' → km I' J') → lpN2 (w_X10_program_l54 o km S) (f + 1) I J) → ∀ x, ke x I') →
    lpN2 (w_X4_read_l54 r B ke Q) (f + 1) (nI i) I := by
  intro f
  induction f with
  | zero =>
    intro I s i R V nm am hf hB hm hI hi hP
    have w1 := hm.1.1.1.1
    have hn := hm.2.1.2.1
    have b : s.2.1 = true := by
      cases q : s.2.1 with
      | true => rfl
      | false => have := hf q; omega
    have nog : ¬ s.2.1 = false := fun z => by rw [b] at z; exact Bool.noConfusion z
    have stop : ∀ x, ke x I := hP I s R V nm am hm (fun z => absurd z nog) hB (fun _ _ => rfl) (fun o I J km S hl hk => by
      show w_X10_program_l54 o km S _ I J
      unfold w_X10_program_l54
      exact t_isGood hl.1.1 (fun g => absurd g nog) (fun b => ⟨fun _ => hk I J hl MdF.rf, fun c => absurd rfl c⟩))
    show w_X4_read_l54 r B ke Q _ (nI i) I
    unfold w_X4_read_l54
    exact ⟨fun _ => stop _, fun _ => k_isNext (kd := 6) hm.1 hm.2.1 (by omega) (fun q => absurd q.1 nog) (fun q => ⟨fun c => absurd rfl c, fun _ => k_isBroken hm.1 (fun b => ⟨fun _ => stop _, fun c => absurd c (by decide)⟩) (fun g => absurd g nog)⟩)⟩
  | succ f ih =>
    intro I s i R V nm am hf hB hm hI hi hP
    have hn := hm.2.1.2.1
    have w1 := hm.1.1.1.1
    have stop : (s.2.1 = false → tkd T L s.1 = 6) → ∀ x, ke x I := fun h6 => hP I s R V nm am hm (fun z => ⟨(hI z).1, h6 z⟩) hB (fun _ _ => rfl) (fun o I J km S hl hk => by
      show w_X10_program_l54 o km S _ I J
      unfold w_X10_program_l54
      refine t_isGood hl.1.1 (fun g => ⟨fun c => absurd c (by decide), fun _ => ?_⟩) (fun b => ⟨fun _ => hk I J hl MdF.rf, fun c => absurd rfl c⟩)
      obtain ⟨-, -, -, -, -, g12, -⟩ := hl.1.1.2.2.2 g
      have al := alk T L s.1
      have ts : tsk T L s.1 = 0 := by have := h6 g; unfold Alk at al; omega
      rw [g12, ts]
      exact ⟨fun _ => hk I J hl MdF.rf, fun c => absurd rfl c⟩)
    show w_X4_read_l54 r B ke Q (lpN2 (w_X4_read_l54 r B ke Q) (f + 1)) (nI i) I
    have ih' := fun (I : MI) (s : PS) => ih I s (i + 1)
    clear ih
    generalize lpN2 (w_X4_read_l54 r B ke Q) (f + 1) = rec at ih' ⊢
    unfold w_X4_read_l54
    refine ⟨fun c => stop (fun z => ?_) _, fun _ => k_isNext (kd := 6) hm.1 hm.2.1 (by omega) (fun q => ⟨fun _ => stop (fun _ => q.2) _, fun c => absurd c (by decide)⟩) (fun q => ⟨fun c => absurd rfl c, fun _ => k_isBroken hm.1 (fun b => ⟨fun _ => stop (fun z => by rw [b] at z; exact Bool.noConfusion z) _, fun c => absurd c (by decide)⟩) (fun g => ⟨fun c => absurd rfl c, fun _ => ?_⟩)⟩)⟩
    · have := (nI_ltI (a := 600) (by omega) (by omega)).mp c
      have := (hI z).2
      omega
    · have h6 : tkd T L s.1 ≠ 6 := fun z => q ⟨g, z⟩
      obtain ⟨hin, his⟩ := hI g
      have slt : s.1 < n := tk_lt hm.2.1.2.2.1 w1 rfl h6
      rw [nI_1]
      refine q_line hL hB hm g h6 hin (fun I1 s1 R1 V1 nm1 am1 m1 i1 u1 f1 g1 => ?_)
      have hB1 : TpB (r + 35) tp T I1 B := hB.fr (f1 tp (by have := hB.2.1; omega))
      refine ih' I1 s1 R1 V1 nm1 am1 (fun z => by have := u1 z; have := hf g; omega) hB1 m1 (fun z => ⟨i1 z, by have := u1 z; omega⟩) (by omega) (fun I2 s2 R2 V2 nm2 am2 m2 i2 hB2 f2 g2 => hP I2 s2 R2 V2 nm2 am2 m2 i2 hB2 (fun c hc => by rw [f2 c hc, f1 c hc]) (fun o I J km S hl hk => ?_))
      have hh := fun I J hl => g2 o I J km S hl
      show w_X10_program_l54 o km S (lpN2 (w_X10_program_l54 o km S) (f + 1)) I J
      revert hh
      generalize lpN2 (w_X10_program_l54 o km S) (f + 1) = rec2
      intro hh
      unfold w_X10_program_l54
      refine t_isGood hl.1.1 (fun g => ⟨fun c => absurd c (by decide), fun _ => ⟨fun c => ?_, fun _ => g1 o I J _ hl (fun I1 J1 l1 d1 => hh I1 J1 l1 (fun I3 J3 l3 d3 => hk I3 J3 l3 (d1.tr d3)))⟩⟩) (fun b => by rw [g] at b; exact Bool.noConfusion b)
      obtain ⟨-, -, -, -, -, g12, -⟩ := hl.1.1.2.2.2 g
      have al := alk T L s.1
      rw [g12] at c
      have : tsk T L s.1 = 0 := (nI_z (by unfold Alk at al; omega)).mp c
      unfold Alk at al
      exact absurd (show tkd T L s.1 = 6 by omega) h6
end
