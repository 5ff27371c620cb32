/-! each call of the law: class and model answer alike, and the invariant stands -/
section
variable {a o : Nat} {I : MI}
theorem st_side (x y : Int32) (h : LI a o I) : w_X9_side a x y I (fun v => w_X10_side o x y I (fun v' => v = v')) := by
  obtain ⟨hs, c, im, hC, hM⟩ := h
  obtain ⟨v, h1, h2⟩ := q_side hC.1.inv.1 hC.1.inv.2.2.1 x y
  refine h2 _ ?_
  have := h1 o I (fun v' => v = v') rfl
  rw [hM.kb] at this
  exact this
theorem st_deeds (x y : Int32) (h : LI a o I) : w_X9_deeds a x y I (fun v => w_X10_deeds o x y I (fun v' => v = v')) := by
  obtain ⟨hs, c, im, hC, hM⟩ := h
  obtain ⟨v, h1, h2⟩ := q_deeds hC.1.inv.1 x y
  refine h2 _ ?_
  have := h1 o I (fun v' => v = v') rfl
  rw [hM.kb] at this
  exact this
theorem st_did (x y z : Int32) (h : LI a o I) : w_X9_did a x y z I (fun v => w_X10_did o x y z I (fun v' => v = v')) := by
  obtain ⟨hs, c, im, hC, hM⟩ := h
  obtain ⟨v, h1, h2⟩ := q_did hC.1.inv.1 x y z
  refine h2 _ ?_
  have := h1 o I (fun v' => v = v') rfl
  rw [hM.kb] at this
  exact this
theorem st_queue (x y : Int32) (h : LI a o I) : w_X9_queue a x y I (fun v => w_X10_queue o x y I (fun v' => v = v')) := by
  obtain ⟨hs, c, im, hC, hM⟩ := h
  obtain ⟨v, h1, h2⟩ := q_queue hC.1.inv.1 x y
  refine h2 _ ?_
  have := h1 o I (fun v' => v = v') rfl
  rw [hM.kb] at this
  exact this
theorem st_roomOf (x : Int32) (h : LI a o I) : w_X9_roomOf a x I (fun v => w_X10_roomOf o x I (fun v' => v = v')) := by
  obtain ⟨hs, c, im, hC, hM⟩ := h
  obtain ⟨v, h1, h2⟩ := q_roomOf hC.1.inv.1 x
  refine h2 _ ?_
  have := h1 o I (fun v' => v = v') rfl
  rw [hM.kb] at this
  exact this
theorem st_cell (x : Int32) (h : LI a o I) : w_X9_cell a x I (fun v => w_X10_cell o x I (fun v' => v = v')) := by
  obtain ⟨hs, c, im, hC, hM⟩ := h
  obtain ⟨v, h1, h2⟩ := q_cell hC.1.inv.1 x
  refine h2 _ ?_
  have := h1 o I (fun v' => v = v') rfl
  rw [hM.kb] at this
  exact this
theorem st_register (x : Int32) (h : LI a o I) : w_X9_register a x I (fun v => w_X10_register o x I (fun v' => v = v')) := by
  obtain ⟨hs, c, im, hC, hM⟩ := h
  obtain ⟨v, h1, h2⟩ := q_register hC.1.inv.1 x
  refine h2 _ ?_
  have := h1 o I (fun v' => v = v') rfl
  rw [hM.kb] at this
  exact this
theorem st_count (x : Int32) (h : LI a o I) : w_X9_count a x I (fun v => w_X10_count o x I (fun v' => v = v')) := by
  obtain ⟨hs, c, im, hC, hM⟩ := h
  obtain ⟨v, h1, h2⟩ := q_count hC.1.inv.1 x
  refine h2 _ ?_
  have := h1 o I (fun v' => v (I (a + 1) 1) = v') (congrArg v (hC.1.2.1.trans hM.1.2.1.1.symm))
  rw [hM.kb] at this
  exact this
theorem st_fault (x : Int32) (h : LI a o I) : w_X9_fault a x I (fun v => w_X10_fault o x I (fun v' => v = v')) := by
  obtain ⟨hs, c, im, hC, hM⟩ := h
  refine q_fault (fun v hm => hm o I _ (hM.1.2.2.1.trans hC.1.2.2.2.2.1.symm) (hM.1.2.2.2.trans hC.1.2.2.2.2.2.symm) rfl)
theorem st_time (h : LI a o I) : w_X9_time a I (fun v I1 => w_X10_time o I1 (fun v' I2 => v = v' ∧ LI a o I2)) := by
  obtain ⟨hs, c, im, hC, hM⟩ := h
  refine q_time hC.1.inv hC.2.1 (fun v I' hm hT hF _ => ?_)
  have hC1 := hC.tfr hT hF
  have hM1 := hM.tfr hs hF
  have := hm o I' (fun v' I2 => v = v' ∧ LI a o I2)
  rw [hM1.kb] at this
  exact this (fun V' => ⟨rfl, LI.k516 hs hC1 hM1⟩)
theorem st_late (x : Int32) (h : LI a o I) : w_X9_late a x I (fun v I1 => w_X10_late o x I1 (fun v' I2 => v = v' ∧ LI a o I2)) := by
  obtain ⟨hs, c, im, hC, hM⟩ := h
  refine q_late hC.1.inv hC.2.1 (fun v I' hm hT hF => ?_)
  have hC1 := hC.tfr hT hF
  have hM1 := hM.tfr hs hF
  have := hm o I' (fun v' I2 => v = v' ∧ LI a o I2)
  rw [hM1.kb] at this
  exact this (fun V' => ⟨rfl, LI.k516 hs hC1 hM1⟩) ⟨rfl, LI.of hs hC1 hM1⟩
theorem st_keeping (x : Int32) (h : LI a o I) : w_X9_keeping a x I (fun v I1 => w_X10_keeping o x I1 (fun v' I2 => v = v' ∧ LI a o I2)) := by
  obtain ⟨hs, c, im, hC, hM⟩ := h
  refine q_keeping hC.1.inv hC.2.1 (fun v I' hm hT hF => ?_)
  have hC1 := hC.tfr hT hF
  have hM1 := hM.tfr hs hF
  have := hm o I' (fun v' I2 => v = v' ∧ LI a o I2)
  rw [hM1.kb] at this
  exact this (fun V' => ⟨rfl, LI.k516 hs hC1 hM1⟩) ⟨rfl, LI.of hs hC1 hM1⟩
theorem st_best (h : LI a o I) : w_X9_best a I (fun v I1 => w_X10_best o I1 (fun v' I2 => v = v' ∧ LI a o I2)) := by
  obtain ⟨hs, c, im, hC, hM⟩ := h
  refine q_best hC.1.inv hC.2.1 (fun v I' hm hT hF => ?_)
  have hC1 := hC.tfr hT hF
  have hM1 := hM.tfr hs hF
  have := hm o I' (fun v' I2 => v = v' ∧ LI a o I2)
  rw [hM1.kb] at this
  exact this (fun V' => ⟨rfl, LI.k516 hs hC1 hM1⟩)
theorem st_least (x y : Int32) (h : LI a o I) : w_X9_least a x y I (fun v I1 => w_X10_least o x y I1 (fun v' I2 => v = v' ∧ LI a o I2)) := by
  obtain ⟨hs, c, im, hC, hM⟩ := h
  refine q_least hC.1.inv hC.2.1 (fun v I' hm hT hF => ?_)
  have hC1 := hC.tfr hT hF
  have hM1 := hM.tfr hs hF
  have := hm o I' (fun v' I2 => v = v' ∧ LI a o I2)
  rw [hM1.kb] at this
  exact this (fun V' => ⟨rfl, LI.k516 hs hC1 hM1⟩) ⟨rfl, LI.of hs hC1 hM1⟩
theorem st_safe (h : LI a o I) : w_X9_safe a I (fun v I1 => w_X10_safe o I1 (fun v' I2 => v = v' ∧ LI a o I2)) := by
  obtain ⟨hs, c, im, hC, hM⟩ := h
  refine q_safe hC.1.inv hC.2.1 (fun v I' hm hT hF => ?_)
  have hC1 := hC.tfr hT hF
  have hM1 := hM.tfr hs hF
  have := hm o I' (fun v' I2 => v = v' ∧ LI a o I2)
  rw [hM1.kb] at this
  exact this (fun V' => ⟨rfl, LI.k516 hs hC1 hM1⟩)
theorem st_changed (x : Int32) (h : LI a o I) : w_X9_changed a x I (fun v I1 => w_X10_changed o x I1 (fun v' I2 => v = v' ∧ LI a o I2)) := by
  obtain ⟨hs, c, im, hC, hM⟩ := h
  refine q_changed hC.1.inv hC.2.1 (fun v I' hm hT hF => ?_)
  have hC1 := hC.tfr hT hF
  have hM1 := hM.tfr hs hF
  have := hm o I' (fun v' I2 => v = v' ∧ LI a o I2)
  rw [hM1.kb] at this
  exact this (fun V' => ⟨rfl, LI.k516 hs hC1 hM1⟩) ⟨rfl, LI.of hs hC1 hM1⟩
theorem st_slipped (x : Int32) (h : LI a o I) : w_X9_slipped a x I (fun v I1 => w_X10_slipped o x I1 (fun v' I2 => v = v' ∧ LI a o I2)) := by
  obtain ⟨hs, c, im, hC, hM⟩ := h
  refine q_slipped hC.1.inv hC.2.1 (fun v I' hm hT hF => ?_)
  have hC1 := hC.tfr hT hF
  have hM1 := hM.tfr hs hF
  have := hm o I' (fun v' I2 => v = v' ∧ LI a o I2)
  rw [hM1.kb] at this
  exact this (fun V' => ⟨rfl, LI.k516 hs hC1 hM1⟩)
theorem st_ahead (x y : Int32) (h : LI a o I) : w_X9_ahead a x y I (fun v I1 => w_X10_ahead o x y I1 (fun v' I2 => v = v' ∧ LI a o I2)) := by
  obtain ⟨hs, c, im, hC, hM⟩ := h
  refine q_ahead hC.1.inv hC.2.1 (fun v I' hm hT hF => ?_)
  have hC1 := hC.tfr hT hF
  have hM1 := hM.tfr hs hF
  have e : v (I' o 3) = v (I (a + 1) 1) := congrArg v (hM1.1.2.1.1.trans hC.1.2.1.symm)
  have := hm o I' (fun v' I2 => v (I (a + 1) 1) = v' ∧ LI a o I2)
  rw [hM1.kb, e] at this
  exact this (fun V' => ⟨rfl, LI.k516 hs hC1 hM1⟩) ⟨rfl, LI.of hs hC1 hM1⟩
theorem st_rounds (x : Int32) (h : LI a o I) : w_X9_rounds a x I (fun v I1 => w_X10_rounds o x I1 (fun v' => v = v' ∧ LI a o I1)) := by
  obtain ⟨hs, c, im, hC, hM⟩ := h
  obtain ⟨h1, h2, h3, ⟨t, h4⟩, h5⟩ := hC
  refine q_rounds h1.inv (fun v I' hm hF => ?_)
  have hC1 : ClI a I' c im := ⟨⟨Inv.fr8 h1.inv hF, by rw [hF _ (by omega)]; exact h1.2.1, h1.2.2.1, fun j hj => by rw [hF _ (by omega)]; exact h1.2.2.2.1 j hj, by rw [hF _ (by omega)]; exact h1.2.2.2.2.1, by rw [hF _ (by omega)]; exact h1.2.2.2.2.2⟩, h2.fr (fun c _ _ => hF c (by omega)), h3.fr (fun c _ _ => hF c (by omega)), ⟨t, h4.fr (hF _ (by omega)) (hF _ (by omega))⟩, h5.fr (fun c hc => hF c (by omega))⟩
  have hM1 : MdI o I' c im := hM.frc (fun c _ _ => hF c (by omega))
  have := hm o I' (fun v' => v = v' ∧ LI a o I')
  rw [hM1.kb] at this
  exact this ⟨rfl, LI.of hs hC1 hM1⟩
theorem st_alone (x y : Int32) (h : LI a o I) : w_X9_alone a x y I (fun v I1 => w_X10_alone o x y I1 (fun v' I2 => v = v' ∧ LI a o I2)) := by
  obtain ⟨hs, c, im, hC, hM⟩ := h
  obtain ⟨h1, h2, h3, ⟨t, h4⟩, h5⟩ := hC
  refine q_alone h1.inv (fun v I' hm hF => ?_)
  have hC1 : ClI a I' c im := ⟨h1.fr (fun c _ _ => hF c (by omega)), h2.fr (fun c _ _ => hF c (by omega)), h3.fr (fun c _ _ => hF c (by omega)), ⟨t, h4.fr (hF _ (by omega)) (hF _ (by omega))⟩, h5.fr (fun c hc => hF c (by omega))⟩
  have hM1 : MdI o I' c im := hM.frc (fun c _ _ => hF c (by omega))
  have := hm o I' (fun v' I2 => v = v' ∧ LI a o I2)
  rw [hM1.kb] at this
  refine this (fun J' hJ => ⟨rfl, LI.of hs (hC1.fr (fun c _ _ => hJ.2.2.2.2 c (by omega))) (hM1.fr hJ.1 hJ.2.1 hJ.2.2.1 hJ.2.2.2.1)⟩)
theorem st_text (x y z u : Int32) (h : LI a o I) : w_X9_text a x y z u I (fun v I1 => w_X10_text o x y z u I1 (fun v' I2 => v = v' ∧ LI a o I2)) := by
  obtain ⟨hs, c, im, hC, hM⟩ := h
  obtain ⟨h1, h2, h3, h4, h5⟩ := hC
  refine q_text h1.inv.1 h4 (fun v I' hm hB hF => ?_)
  have hC1 : ClI a I' c im := ⟨h1.fr (fun c _ _ => hF c (by omega) (by omega)), h2.fr (fun c _ _ => hF c (by omega) (by omega)), h3.fr (fun c _ _ => hF c (by omega) (by omega)), hB, h5.fr (fun c hc => hF c (by omega) (by omega))⟩
  have hM1 : MdI o I' c im := hM.frc (fun c _ _ => hF c (by omega) (by omega))
  have := hm o I' (fun v' I2 => v = v' ∧ LI a o I2)
  rw [hM1.kb] at this
  refine this (fun J' hJ => ⟨rfl, LI.of hs (hC1.fr (fun c _ _ => hJ.1 c (by omega) (by omega))) (hM1.fr (fun j _ => by rw [hJ.1 _ (by omega) (by omega)]) (hJ.1 _ (by omega) (by omega)) (hJ.1 _ (by omega) (by omega)) (fun j _ _ => hJ.2 j (by omega)))⟩)
theorem LI.kb0 {V' : Nat → Int32} {I' : MI} {c : Img} {im : Nat → Option Img} (hs : a + 374 ≤ o) (hC : ClI a I c im) (hM : MdI o I c im) (hI : Inv a I' V') (hF : WFr a I I') : LI a o (kb I' (o + 1) 0 V') := by
  obtain ⟨h1, h2, h3, ⟨t, h4⟩, h5⟩ := hC
  have hC1 : ClI a I' (V', c.2) im := ⟨⟨hI, by rw [hF _ (by omega)]; exact h1.2.1, h1.2.2.1, fun j hj => by rw [hF _ (by omega)]; exact h1.2.2.2.1 j hj, by rw [hF _ (by omega)]; exact h1.2.2.2.2.1, by rw [hF _ (by omega)]; exact h1.2.2.2.2.2⟩, h2.fr (fun c _ _ => hF c (by omega)), h3.fr (fun c _ _ => hF c (by omega)), ⟨t, h4.fr (hF _ (by omega)) (hF _ (by omega))⟩, h5.fr (fun c hc => hF c (by omega))⟩
  have hM1 : MdI o I' c im := hM.frc (fun c _ _ => hF c (by omega))
  refine LI.of (x := (V', c.2)) (im := im) hs (hC1.fr (fun c _ _ => kb_ne _ _ (by omega))) ⟨⟨fun j hj => ?_, ⟨?_, fun k hk => ?_⟩, ?_, ?_⟩, ?_⟩
  · have := kb_at I' (o + 1) 0 V' hj
    rw [Nat.zero_add] at this
    exact this
  · rw [kb_ne _ _ (by omega)]; exact hM1.1.2.1.1
  · rw [kb_ne _ _ (by omega)]; exact hM1.1.2.1.2 k hk
  · rw [kb_ne _ _ (by omega)]; exact hM1.1.2.2.1
  · rw [kb_ne _ _ (by omega)]; exact hM1.1.2.2.2
  · exact hM1.2.fr (fun j hj => kb_out _ _ _ _ (by omega)) (kb_ne _ _ (by omega))
theorem st_cycles (x : Int32) (h : LI a o I) : w_X9_cycles a x I (fun v I1 => w_X10_cycles o x I1 (fun v' I2 => v = v' ∧ LI a o I2)) := by
  obtain ⟨hs, c, im, hC, hM⟩ := h
  refine q_cycles hC.1.inv (fun v I' V' hm hI hF => ?_)
  have hM1 : MdI o I' c im := hM.frc (fun c _ _ => hF c (by omega))
  have := hm o I' (fun v' I2 => v = v' ∧ LI a o I2)
  rw [hM1.kb] at this
  exact this ⟨rfl, LI.kb0 hs hC hM hI hF⟩
theorem st_begin (h : LI a o I) : w_X9_begin a I (fun I1 => w_X10_begin o I1 (fun I2 => LI a o I2)) := by
  obtain ⟨hs, c, im, hC, hM⟩ := h
  refine q_begin hC.1.inv (fun I' V' hm hI hF => ?_)
  have hM1 : MdI o I' c im := hM.frc (fun c _ _ => hF c (by omega))
  have := hm o I' (fun I2 => LI a o I2)
  rw [hM1.kb] at this
  exact this (LI.kb0 hs hC hM hI hF)
theorem st_room (x y : Int32) (h : LI a o I) : w_X9_room a x y I (fun v I1 => w_X10_room o x y I1 (fun v' I2 => v = v' ∧ LI a o I2)) := by
  obtain ⟨hs, c, im, hC, hM⟩ := h
  obtain ⟨v, I', V', h1, h2, h3, h4, h5, h6, h7, -⟩ := q_room hC.1.inv.1 x y
  refine h2 _ ?_
  have hF : WFr a I I' := fun c hc => h4 c (by omega)
  have hM1 : MdI o I' c im := hM.frc (fun c _ _ => hF c (by omega))
  have hI : Inv a I' V' := Inv.of hC.1.inv h3 (h6 hC.1.inv.2.2.1) (h7 hC.1.inv.2.2.2.1) h4 h5
  have := h1 o I' (fun v' I2 => v = v' ∧ LI a o I2)
  rw [hM1.kb] at this
  exact this ⟨rfl, LI.kb0 hs hC hM hI hF⟩
theorem LI.tape {I' J' : MI} {c : Img} {im : Nat → Option Img} {T' : Nat → Nat} {L' : Nat} (hs : a + 374 ≤ o) (hC : ClI a I c im) (hM : MdI o I c im) (hT : TpC a I' T' L') (hF : TpF a I I') (hT2 : TpM o J' T' L') (hG : TpG o I' J') : LI a o J' := by
  obtain ⟨h1, h2, h3, ⟨t, h4⟩, h5⟩ := hC
  have hR : ∀ d, a + 3 ≤ d → I' d = I d := fun d hd => hF.1 d (by omega) (by omega)
  have hI : Inv a I' c.1 := by
    obtain ⟨g1, g2, g3, g4, g5⟩ := h1.inv
    exact ⟨g1.fr (fun c _ _ => hR c (by omega)), g2.fr (fun c _ _ => hR c (by omega)) (fun _ _ => rfl), fun s hs => by rw [hR _ (by omega)]; exact g3 s hs, g4, g5⟩
  have hC1 : ClI a I' (c.1, T', L', c.2.2.2) im := ⟨WhI.mk' hI hT (by rw [hF.2 _ (by omega)]; exact h1.2.2.2.2.1) (by rw [hF.2 _ (by omega)]; exact h1.2.2.2.2.2), h2.fr (fun c _ _ => hR c (by omega)), h3.fr (fun c _ _ => hR c (by omega)), ⟨t, h4.fr (hR _ (by omega)) (hR _ (by omega))⟩, h5.fr (fun c hc => hR c (by omega))⟩
  have hM1 : MdI o I' c im := hM.frc (fun c _ _ => hR c (by omega))
  refine LI.of (x := (c.1, T', L', c.2.2.2)) (im := im) hs (hC1.fr (fun c _ _ => hG.1 c (by omega) (by omega))) ⟨⟨fun j hj => ?_, hT2, ?_, ?_⟩, ?_⟩
  · rw [hG.1 _ (by omega) (by omega)]; exact hM1.1.1 j hj
  · rw [hG.2 _ (by omega)]; exact hM1.1.2.2.1
  · rw [hG.2 _ (by omega)]; exact hM1.1.2.2.2
  · exact hM1.2.fr (fun j hj => by rw [hG.1 _ (by omega) (by omega)]) (hG.1 _ (by omega) (by omega))
theorem TpM.fr {I' : MI} {T : Nat → Nat} {L : Nat} (h : TpM o I T L) (h1 : I' o = I o) (h2 : I' (o + 2) = I (o + 2)) : TpM o I' T L := ⟨by rw [h1]; exact h.1, fun k hk => by rw [h2]; exact h.2 k hk⟩
theorem st_feed (x y z u w : Int32) (h : LI a o I) : w_X9_feed a x y z u w I (fun v I1 => w_X10_feed o x y z u w I1 (fun v' I2 => v = v' ∧ LI a o I2)) := by
  obtain ⟨hs, c, im, hC, hM⟩ := h
  refine q_feed hC.1.tp (fun v I' T' L' hm hT hF => ?_)
  exact hm o I' _ (hM.1.2.1.fr (hF.1 _ (by omega) (by omega)) (hF.1 _ (by omega) (by omega))) (fun J' h1 h2 => ⟨rfl, LI.tape hs hC hM hT hF h1 h2⟩)
theorem st_end (x : Int32) (h : LI a o I) : w_X9_end a x I (fun v I1 => w_X10_end o x I1 (fun v' I2 => v = v' ∧ LI a o I2)) := by
  obtain ⟨hs, c, im, hC, hM⟩ := h
  refine q_end hC.1.tp (fun v I' L' hm hT hF => ?_)
  exact hm o I' _ (hM.1.2.1.fr (hF.1 _ (by omega) (by omega)) (hF.1 _ (by omega) (by omega))) (fun J' h1 h2 => ⟨rfl, LI.tape hs hC hM hT hF h1 h2⟩)
end
