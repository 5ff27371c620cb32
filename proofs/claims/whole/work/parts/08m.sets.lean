/-! names ahead, and what is set -/
section
variable {r n L R tp : Nat} {T : Nat → Nat} {I : MI} {B : MR} {s : PS} {V : Nat → Int32} {nm am : Nat → Nat}
def upN (nm : Nat → Nat) (R k : Nat) : Nat → Nat := fun i => if i = R then k + 1 else nm i
theorem FRow.more {v i k : Nat} (h : FRow T L R nm v i) : FRow T L (R + 1) (upN nm R k) v i := by
  obtain ⟨h1, h2, h3, h4⟩ := h
  have e : ∀ j, j < R → upN nm R k j = nm j := fun j hj => if_neg (by omega)
  exact ⟨by omega, by rw [e i h1]; exact h2, by rw [e i h1]; exact h3, fun j hj => by rw [e j (by omega)]; exact h4 j hj⟩
theorem NmM.ext {o M : Nat} {J : MJ} (h : NmM o I J T L M R nm) (hz : nm R = 0) : NmM o I J T L M (R + 1) nm := by
  obtain ⟨h1, h2, h3⟩ := h
  refine ⟨h1, fun m hm => ?_, fun i hi hn => ?_⟩
  · obtain ⟨v, i, a1, a2, a3, a4⟩ := h2 m hm
    exact ⟨v, i, a1, a2, ⟨by have := a3.1; omega, a3.2⟩, a4⟩
  · by_cases e : i = R
    · subst e; exact absurd hz hn
    · exact h3 i (by omega) hn
theorem name_len {k : Nat} (h : tkd T L k = 3) : pos T L k + 2 ≤ pos T L (k + 1) := by
  have al := alk T L k
  have hl : 2 ≤ te T L k - pos T L k := by unfold Alk at al; omega
  have : te T L k ≤ pos T L (k + 1) := pos_te
  omega
/-- a name ahead: class and model -/
theorem q_name {P : MI → Prop} (hL : L ≤ 600) (hB : TpB (r + 35) tp T I B) (hm : LCm r I T L n s R V nm am) (hq : aIs T L 3 s) (hR : R < 150) (h48 : V 48 = nI (cap R))
    (hP : ∀ I' s', LCm r I' T L n s' R V (upN nm R s.1) am → (s'.2.1 = false → pos T L s.1 + 3 ≤ pos T L s'.1) → s.1 ≤ s'.1 → Kp s s' → RrF r I I' →
      (∀ (o : Nat) (I : MI) (J : MJ) (S : MI → MJ → Prop), LMm o I J T L n s R V nm R am (pos T L s.1) → (∀ I' J', LMm o I' J' T L n s' R V (upN nm R s.1) (R + 1) am (pos T L s'.1 + 4) → MdF o I I' → S I' J') → w_X10_reads o I J S) → P I') : w_X4_readNameAhead r I B P := by
  obtain ⟨d, hT, hSg, hgd⟩ := hm
  obtain ⟨e5, hRT, hrows, hN, hA⟩ := hgd hq.1
  have w1 := d.1.1.1
  have ws := d.1.1.2.2.2 hq.1
  have hn := hT.2.1
  have pm := pos_mono (pos_s (T := T) (L := L) (k := s.1) (by rw [hq.2]; omega))
  have nl := name_len (T := T) (L := L) hq.2
  -- behind the look for the same name
  have tail : ∀ (h : Nat) (s1 : PS) (I1 : MI), CT r I1 T L n h s1 → RdF r I I1 → s1.1 = s.1 → s1.2.1 = false → Kp s s1 →
      (∀ (o : Nat) (I : MI) (J : MJ) (S : MI → MJ → Prop), LMm o I J T L n s R V nm R am (pos T L s.1) → (∀ I' J', MT o I' J' T L n 0 (aAdv s1) → BkR o I' V → (∃ M W, NmM o I' J' T L M (R + 1) (upN nm R s.1) ∧ 7 * M ≤ pos T L s.1 + 7 ∧ AmM o I' J' T L W R am) → MdF o I I' → w_X10_sign o 58 I' J' S) → w_X10_reads o I J S) →
      w_X4_readNameAhead_p21 r I1 B P := fun h s1 I1 d1 f1 a1 a2 kp hmod => by
    unfold w_X4_readNameAhead_p21
    have e51 : I1 r 5 = nI R := by rw [f1.2 5 (by omega) (by omega) (by omega)]; exact e5
    rw [e51, d1.2.1, a1, ixn (n := R) (by omega)]
    refine ⟨fun c => absurd ((nI_leI (a := 150) (by omega) (by omega)).mp c) (by omega), fun _ => ⟨inn (by omega) (by omega), ?_⟩⟩
    rintro _ rfl
    have d2 : CT r (ui I1 (r + 41) R (nI s.1)) T L n h s1 := d1.fr (ui_ne _ _ _ (by omega))
    have T2 : Toks (r + 35) (ui I1 (r + 41) R (nI s.1)) T L n := (hT.rd f1).fr (fun c h1 h2 => ui_ne _ _ _ (by omega))
    have en : aNam T L s1 = aAdv s1 := by unfold aNam; exact if_pos ⟨a2, by rw [a1]; exact hq.2⟩
    refine k_takeName d2 T2 (fun v I3 d3 f3 => k_takeSign (sg := 58) d3 (T2.rd f3) (by omega) (fun I4 d4 f4 => ?_))
    rw [en] at d4
    have F : RdF r (ui I1 (r + 41) R (nI s.1)) I4 := f3.tr f4
    have o4 : ∀ x, x ≠ r → x ≠ r + 41 → I4 x = I x := fun x h1 h2 => by rw [F.1 x h1, ui_ne _ _ _ h2, f1.1 x h1]
    refine hP I4 (aSgn T L 58 (aAdv s1)) ⟨d4, hT.fr (fun x h1 h2 => o4 x (by omega) (by omega)), fun i hi => by rw [o4 _ (by omega) (by omega)]; exact hSg i hi, fun z => ⟨?_, hRT.fr (fun x h1 h2 => o4 x (by omega) (by omega)) (fun _ _ => rfl), fun i hi => (hrows i hi).fr (o4 _ (by have := cap_le R; omega) (by have := cap_le R; omega)) (fun _ _ _ => rfl) rfl, fun i => ⟨fun hi => ?_, fun hne => ?_⟩, fun i => by rw [o4 _ (by omega) (by omega)]; exact hA i⟩⟩ (fun z => ?_) ?_ ?_ (fun x hx => o4 x (by omega) (by omega)) (fun o I J S hl hS => hmod o I J S hl (fun I' J' c' b' ⟨M, W, n1, n2, n3⟩ f' => ?_))
    · rw [F.2 5 (by omega) (by omega) (by omega), ui_ne _ _ _ (by omega)]; exact e51
    · rw [F.1 _ (by omega)]
      show ui I1 (r + 41) R (nI s.1) (r + 41) i = if (if i = R then s.1 + 1 else nm i) = 0 then -1 else nI ((if i = R then s.1 + 1 else nm i) - 1)
      by_cases e : i = R
      · rw [if_pos e, if_neg (by omega), e, ui_gs]; rfl
      · rw [if_neg e, ui_gj _ _ _ e, f1.1 _ (by omega)]; exact (hN i).1 hi
    · have hne : (if i = R then s.1 + 1 else nm i) ≠ 0 := hne
      show (if i = R then s.1 + 1 else nm i) - 1 ≤ n ∧ tkd T L ((if i = R then s.1 + 1 else nm i) - 1) = 3
      by_cases e : i = R
      · rw [if_pos e, Nat.add_sub_cancel]; exact ⟨w1, hq.2⟩
      · rw [if_neg e] at hne ⊢; exact (hN i).2 hne
    · obtain ⟨q1, q2⟩ := aSgn_on (T := T) (L := L) (s := aAdv s1) z
      have q2 : pos T L (s1.1 + 1) < pos T L (s1.1 + 1 + 1) := q2
      rw [q1]
      show pos T L s.1 + 3 ≤ pos T L (s1.1 + 1 + 1)
      rw [a1] at q2 ⊢
      omega
    · have : s1.1 + 1 ≤ (aSgn T L 58 (aAdv s1)).1 := aSgn_up (s := aAdv s1)
      omega
    · exact kp.tr (Kp.tr (s' := aAdv s1) (fun _ => rfl) aSgn_kp)
    · refine t_sign (sg := 58) c' (by omega) (fun I2 J2 c2 f2 j2 => hS I2 J2 ⟨⟨c2, fun z => b'.mt f2⟩, fun z => ⟨h48, M, W, ?_, ?_, ?_⟩⟩ (f'.tr (MdF.ms (MsF.mt f2))))
      · exact n1.fr (f2.2 23 (by omega) (by omega) (by omega)) (f2.1 _ (by omega)) (fun j => j2 _ _ (Or.inl (by omega)))
      · obtain ⟨q1, q2⟩ := aSgn_on (T := T) (L := L) (s := aAdv s1) z
        have q2 : pos T L (s1.1 + 1) < pos T L (s1.1 + 1 + 1) := q2
        rw [q1]
        show 7 * M ≤ pos T L (s1.1 + 1 + 1) + 4
        rw [a1] at q2 ⊢
        omega
      · exact n3.fr (Nat.le_refl _) (fun _ _ => rfl) (fun i h1 h2 => by omega) (f2.2 24 (by omega) (by omega) (by omega)) (f2.1 _ (by omega)) (f2.1 _ (by omega)) (fun j => j2 _ _ (Or.inl (by omega)))
  have twb : ∀ i, i < R → nm i ≠ 0 → twk T L (nm i - 1) < 2 ^ 63 := fun i hi hne => by
    have := ((hN i).2 hne).2
    have al := alk T L (nm i - 1)
    exact twk_lt T L _ (Or.inl (by unfold Alk at al; omega))
  have tw : twk T L s.1 < 2 ^ 63 := by
    have al := alk T L s.1
    have := hq.2
    exact twk_lt T L _ (Or.inl (by unfold Alk at al; omega))
  have ts1 : tsk T L s.1 = 1 := by
    have al := alk T L s.1
    have := hq.2
    unfold Alk at al; omega
  unfold w_X4_readNameAhead
  rw [d.2.1]
  refine k_rowNamed hT hB hL e5 (by omega) hN w1 hq.2 (fun i fr => ⟨fun c => ?_, fun _ => ?_⟩) (fun nr => ⟨fun _ => ?_, fun c => absurd rfl c⟩)
  · have z : (-1 : Int32) < 0 := by decide
    rw [← c] at z
    have := fr.1
    exact absurd z (nI_pos (by omega))
  · -- the name again
    refine k_note (kind := 3) (h' := 1) d hT hL hq.1 w1 ⟨by omega, by omega, by omega⟩ (by omega) pm (fun z => Nat.le_of_lt (ws z)) (fun I1 d1 f1 => ?_)
    have e1 : (aNote 3 (pos T L s.1) s).1 = s.1 ∧ (aNote 3 (pos T L s.1) s).2.1 = s.2.1 := by unfold aNote; split <;> exact ⟨rfl, rfl⟩
    refine tail 1 _ I1 d1 f1 e1.1 (by rw [e1.2]; exact hq.1) aNote_kp (fun o I J S hl hS => ?_)
    obtain ⟨mb, hl⟩ := hl
    obtain ⟨-, M, W, nmm, hX, amm⟩ := hl hq.1
    obtain ⟨g4, g15, g14, g13, g11, g12, g17⟩ := mb.1.2.2.2 hq.1
    have pl := pos_le (T := T) (L := L) s.1
    unfold w_X10_reads
    rw [g17 (Or.inl ts1), g13]
    refine t_nameBy nmm (by omega) tw twb (fun m i' hm2 fr2 e7 => ⟨fun c => absurd c (nI_pos (by omega)), fun _ => ?_⟩) (fun nr => absurd fr.2.2.1 (nr i fr.1 fr.2.1))
    refine t_note (kind := 3) mb.1 hq.1 ⟨by omega, by omega, by omega⟩ (by rw [hq.2]; omega) (fun I1 c1 f1 => ?_)
    refine t_adv c1 (kd := 3) (by rw [e1.2]; exact hq.1) (by rw [e1.1]; exact hq.2) (by omega) (fun I2 J2 c2 f2 j2 => hS I2 J2 c2 ((mb.2 hq.1).mt (f1.tr f2)) ⟨M, W, ?_, by omega, ?_⟩ (MdF.ms (MsF.mt (f1.tr f2))))
    · have n0 := nmm.fr (J' := J2) ((f1.tr f2).2 23 (by omega) (by omega) (by omega)) ((f1.tr f2).1 _ (by omega)) (fun j => j2 _ _ (Or.inl (by omega)))
      obtain ⟨x1, x2, x3⟩ := n0
      refine ⟨x1, fun m hm => ?_, fun j hj hne => ?_⟩
      · obtain ⟨v, i, a1, a2, a3, a4⟩ := x2 m hm
        exact ⟨v, i, a1, a2, a3.more, a4⟩
      · by_cases e : j = R
        · subst e
          obtain ⟨m, a1, a2⟩ := x3 i fr.1 fr.2.1
          refine ⟨m, a1, ?_⟩
          rw [a2, fr.2.2.1]
          show _ = lN (twk T L ((if j = j then s.1 + 1 else nm j) - 1))
          rw [if_pos rfl, Nat.add_sub_cancel]
        · have ej : upN nm R s.1 j = nm j := if_neg e
          rw [ej] at hne ⊢
          exact x3 j (by omega) hne
    · exact amm.fr (Nat.le_refl _) (fun _ _ => rfl) (fun i h1 h2 => by omega) ((f1.tr f2).2 24 (by omega) (by omega) (by omega)) ((f1.tr f2).1 _ (by omega)) ((f1.tr f2).1 _ (by omega)) (fun j => j2 _ _ (Or.inl (by omega)))
  · -- a new one
    refine tail 0 s I d RdF.rf rfl hq.1 Kp.rf (fun o I J S hl hS => ?_)
    obtain ⟨mb, hl⟩ := hl
    obtain ⟨-, M, W, nmm, hX, amm⟩ := hl hq.1
    obtain ⟨g4, g15, g14, g13, g11, g12, g17⟩ := mb.1.2.2.2 hq.1
    have pl := pos_le (T := T) (L := L) s.1
    unfold w_X10_reads
    rw [g17 (Or.inl ts1)]
    refine t_nameBy nmm (by omega) tw twb (fun m i' hm2 fr2 e7 => absurd fr2.2.2.1 (nr i' fr2.1 fr2.2.1)) (fun _ => ⟨fun _ => ?_, fun c => absurd (show (-1 : Int32) < 0 by decide) c⟩)
    have vm : I (o + 1) (ix (1080)) = nI (cap R) := by
      rw [show (1080 : Int32) = nI (1032 + 48) from rfl, ix_k (by omega), mb.2 hq.1 48 (by omega)]; exact h48
    rw [nmm.1, ixn (n := M) (by omega), vm]
    refine ⟨fun c => absurd ((nI_leI (a := 90) (by omega) (by omega)).mp c) (by omega), fun _ => ⟨inn (by omega) (by omega), ?_⟩⟩
    rintro _ rfl
    refine ⟨inn (by omega) (by omega), ?_⟩
    rintro _ rfl
    rw [ui_ne _ _ _ (show o ≠ o + 7 by omega), nmm.1, nI_1]
    rintro _ rfl
    have c1 : MT o (ui (ui I (o + 7) M (nI (cap R))) o 23 (nI (M + 1))) (uj J (o + 5) M (lN (twk T L s.1))) T L n 0 s := (mb.1.fr (by rw [ui_ne _ _ _ (by omega)]) (by rw [ui_ne _ _ _ (by omega)]) (uj_o _ _ (Or.inl (by omega)))).own (by omega)
    refine t_adv c1 hq.1 hq.2 (by omega) (fun I2 J2 c2 f2 j2 => hS I2 J2 c2 (fun j hj => ?_) ⟨M + 1, W, ⟨?_, fun m hm => ?_, fun j hj hne => ?_⟩, by omega, ?_⟩ ⟨fun c a b e f g => ?_, fun j hj => ?_, ?_⟩)
    · rw [f2.1 _ (by omega), ui_ne _ _ _ (by omega), ui_ne _ _ _ (by omega)]; exact mb.2 hq.1 j hj
    · rw [f2.2 23 (by omega) (by omega) (by omega), ui_gs]
    · have r5 : ∀ m', J2 (o + 5) m' = uj J (o + 5) M (lN (twk T L s.1)) (o + 5) m' := fun m' => j2 _ _ (Or.inl (by omega))
      have r7 : I2 (o + 7) = ui I (o + 7) M (nI (cap R)) (o + 7) := by rw [f2.1 _ (by omega), ui_ne _ _ _ (by omega)]
      by_cases e : m = M
      · subst e
        refine ⟨twk T L s.1, R, by rw [r5, uj_gs], tw, ⟨by omega, by show (if R = R then s.1 + 1 else nm R) ≠ 0; rw [if_pos rfl]; omega, by show twk T L ((if R = R then s.1 + 1 else nm R) - 1) = _; rw [if_pos rfl, Nat.add_sub_cancel], fun j hj => ?_⟩, by rw [r7, ui_gs]⟩
        have ej : upN nm R s.1 j = nm j := if_neg (by omega)
        rw [ej]
        exact fun q => nr j hj q.1 q.2
      · obtain ⟨v, i, a1, a2, a3, a4⟩ := nmm.2.1 m (by omega)
        exact ⟨v, i, by rw [r5, uj_o _ _ (Or.inr e)]; exact a1, a2, a3.more, by rw [r7, ui_gj _ _ _ e]; exact a4⟩
    · have r5 : ∀ m', J2 (o + 5) m' = uj J (o + 5) M (lN (twk T L s.1)) (o + 5) m' := fun m' => j2 _ _ (Or.inl (by omega))
      by_cases e : j = R
      · subst e
        refine ⟨M, by omega, ?_⟩
        rw [r5, uj_gs]
        show _ = lN (twk T L ((if j = j then s.1 + 1 else nm j) - 1))
        rw [if_pos rfl, Nat.add_sub_cancel]
      · have ej : upN nm R s.1 j = nm j := if_neg e
        rw [ej] at hne ⊢
        obtain ⟨m, a1, a2⟩ := nmm.2.2 j (by omega) hne
        exact ⟨m, by omega, by rw [r5, uj_o _ _ (Or.inr (by omega))]; exact a2⟩
    · exact amm.fr (Nat.le_refl _) (fun _ _ => rfl) (fun i h1 h2 => by omega) (by rw [f2.2 24 (by omega) (by omega) (by omega), ui_gj _ _ _ (by omega), ui_ne _ _ _ (by omega)]) (by rw [f2.1 _ (by omega), ui_ne _ _ _ (by omega), ui_ne _ _ _ (by omega)]) (by rw [f2.1 _ (by omega), ui_ne _ _ _ (by omega), ui_ne _ _ _ (by omega)]) (fun j => by rw [j2 _ _ (Or.inl (by omega)), uj_o _ _ (Or.inl (by omega))])
    · rw [f2.1 c a, ui_ne _ _ _ a, ui_ne _ _ _ e]
    · rw [f2.1 _ (by omega), ui_ne _ _ _ (by omega), ui_ne _ _ _ (by omega)]
    · rw [f2.2 3 (by omega) (by omega) (by omega), ui_gj _ _ _ (by omega), ui_ne _ _ _ (by omega)]
end
section
variable {p : Nat} {I : MI} {V : Nat → Int32}
theorem RelT.sLate {v : Nat} (h : RelT p I V) (h1 : 1 ≤ v) (h2 : v ≤ 9) : RelT p (ui I p 2 (nI v)) (upd V 0 (nI v)) := by
  obtain ⟨a1, a2, a3, a4, a5, a6, a7⟩ := h
  refine ⟨by rw [ui_gs, upd_s], by rw [ui_gj _ _ _ (by omega), upd_n _ _ (by omega)]; exact a2, by rw [upd_n _ _ (by omega)]; exact a3, ⟨v, h1, h2, upd_s _ _ _⟩, fun q hq => ?_, fun c hc => ?_, fun r hr => ?_⟩
  · rw [ui_ne _ _ _ (by omega), upd_n _ _ (by omega)]; exact a5 q hq
  · rw [ui_ne _ _ _ (by omega), upd_n _ _ (by omega)]; exact a6 c hc
  · rw [ui_ne _ _ _ (by omega), upd_n _ _ (by omega)]; exact a7 r hr
theorem RelT.sRoom {v q : Nat} (h : RelT p I V) (hq : q < 6) (h1 : 1 ≤ v) (h2 : v ≤ 6) : RelT p (ui I (p + 2) q (nI v)) (upd V (1 + q) (nI v)) := by
  obtain ⟨a1, a2, a3, a4, a5, a6, a7⟩ := h
  refine ⟨by rw [ui_ne _ _ _ (by omega), upd_n _ _ (by omega)]; exact a1, by rw [ui_ne _ _ _ (by omega), upd_n _ _ (by omega)]; exact a2, by rw [upd_n _ _ (by omega)]; exact a3, by rw [upd_n _ _ (by omega)]; exact a4, fun q' hq' => ?_, fun c hc => ?_, fun r hr => ?_⟩
  · by_cases e : q' = q
    · subst e; rw [ui_gs, upd_s]; exact ⟨rfl, v, h1, h2, rfl⟩
    · rw [ui_gj _ _ _ e, upd_n _ _ (by omega)]; exact a5 q' hq'
  · rw [ui_ne _ _ _ (by omega), upd_n _ _ (by omega)]; exact a6 c hc
  · rw [ui_ne _ _ _ (by omega), upd_n _ _ (by omega)]; exact a7 r hr
theorem RelT.sCell {v c : Nat} (h : RelT p I V) (hc : c < 32) (h2 : v < 1000) : RelT p (ui I (p + 3) c (nI v)) (upd V (7 + c) (nI v)) := by
  obtain ⟨a1, a2, a3, a4, a5, a6, a7⟩ := h
  refine ⟨by rw [ui_ne _ _ _ (by omega), upd_n _ _ (by omega)]; exact a1, by rw [ui_ne _ _ _ (by omega), upd_n _ _ (by omega)]; exact a2, by rw [upd_n _ _ (by omega)]; exact a3, by rw [upd_n _ _ (by omega)]; exact a4, fun q hq => ?_, fun c' hc' => ?_, fun r hr => ?_⟩
  · rw [ui_ne _ _ _ (by omega), upd_n _ _ (by omega)]; exact a5 q hq
  · by_cases e : c' = c
    · subst e; rw [ui_gs, upd_s]; exact ⟨rfl, bd_nI h2⟩
    · rw [ui_gj _ _ _ e, upd_n _ _ (by omega)]; exact a6 c' hc'
  · rw [ui_ne _ _ _ (by omega), upd_n _ _ (by omega)]; exact a7 r hr
theorem RelT.sReg {v c : Nat} (h : RelT p I V) (hc : c < 8) (h2 : v < 1000) : RelT p (ui I (p + 4) c (nI v)) (upd V (39 + c) (nI v)) := by
  obtain ⟨a1, a2, a3, a4, a5, a6, a7⟩ := h
  refine ⟨by rw [ui_ne _ _ _ (by omega), upd_n _ _ (by omega)]; exact a1, by rw [ui_ne _ _ _ (by omega), upd_n _ _ (by omega)]; exact a2, by rw [upd_n _ _ (by omega)]; exact a3, by rw [upd_n _ _ (by omega)]; exact a4, fun q hq => ?_, fun c' hc' => ?_, fun r hr => ?_⟩
  · rw [ui_ne _ _ _ (by omega), upd_n _ _ (by omega)]; exact a5 q hq
  · rw [ui_ne _ _ _ (by omega), upd_n _ _ (by omega)]; exact a6 c' hc'
  · by_cases e : r = c
    · subst e; rw [ui_gs, upd_s]; exact ⟨rfl, bd_nI h2⟩
    · rw [ui_gj _ _ _ e, upd_n _ _ (by omega)]; exact a7 r hr
theorem RelT.sKeep {c : Nat} (h : RelT p I V) (hc : c < 8) : RelT p (ui I p 3 (V 47 ||| nI (2 ^ c))) (upd V 47 (V 47 ||| nI (2 ^ c))) := by
  obtain ⟨a1, a2, ⟨k, hk, ek⟩, a4, a5, a6, a7⟩ := h
  refine ⟨by rw [ui_gj _ _ _ (by omega), upd_n _ _ (by omega)]; exact a1, by rw [ui_gs, upd_s], ?_, by rw [upd_n _ _ (by omega)]; exact a4, fun q hq => ?_, fun c' hc' => ?_, fun r hr => ?_⟩
  · rw [upd_s, ek, nI_or]
    exact bd_nI (Nat.or_lt_two_pow (n := 8) hk (Nat.pow_lt_pow_right (by omega) hc))
  · rw [ui_ne _ _ _ (by omega), upd_n _ _ (by omega)]; exact a5 q hq
  · rw [ui_ne _ _ _ (by omega), upd_n _ _ (by omega)]; exact a6 c' hc'
  · rw [ui_ne _ _ _ (by omega), upd_n _ _ (by omega)]; exact a7 r hr
end
