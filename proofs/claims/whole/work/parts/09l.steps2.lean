/-! image, again, program: the law's steps -/
section
variable {a o : Nat} {I : MI}
theorem st_image (x : Int32) (h : LI a o I) : w_X9_image a x I (fun v I1 => w_X10_image o x I1 (fun v' I2 => v = v' ∧ LI a o I2)) := by
  rcases in_cases x (lo := 0) (hi := 2) (by omega) (by omega) with ⟨k, k1, k2, rfl⟩ | hx
  · obtain ⟨hs, c, im, ⟨h1, h2, h3, ⟨t, h4⟩, h5⟩, hM⟩ := h
    have hk : k < 3 := by omega
    refine k_image1 hk h1 (h5 k hk).1 (fun I' w1 f1 e1 e2 => ?_)
    have hM1 : MdI o I' c im := hM.frc (fun c _ _ => f1 c (by omega) (by omega))
    refine t_image1 hk hM1.1 (fun J' w2 f2 f3 e3 e4 => ⟨rfl, ?_⟩)
    have hR : ∀ d, a ≤ d → d < a + 374 → J' d = I' d := fun d _ _ => f3 d (by omega) (by omega)
    have hm : MShp (a + 181 + 65 * k) I' := by
      have := MShp.of w1.1.1
      rw [show a + 179 + 65 * k + 2 = a + 181 + 65 * k by omega] at this
      exact this
    refine LI.of (x := c) (im := fun j => if j = k then some c else im j) hs (ClI.fr (I := I') ⟨h1.fr (fun d _ _ => f1 d (by omega) (by omega)), h2.fr (fun d _ _ => f1 d (by omega) (by omega)), h3.fr (fun d _ _ => f1 d (by omega) (by omega)), ⟨t, h4.fr (f1 _ (by omega) (by omega)) (f1 _ (by omega) (by omega))⟩, fun j hj => ?_⟩ hR) ⟨hM1.1.fr (fun j hj => f2 j (by omega)) (f3 _ (by omega) (by omega)) (fun j _ _ => by rw [f3 _ (by omega) (by omega)]), fun j hj => ?_⟩
    · by_cases e : j = k
      · subst e
        exact ⟨hm, Or.inr ⟨c, if_pos rfl, e1, w1⟩⟩
      · obtain ⟨g1, g2⟩ := h5 j hj
        refine ⟨g1.fr (fun d _ _ => f1 d (by omega) (by omega)), ?_⟩
        rcases g2 with ⟨q1, q2⟩ | ⟨y, q1, q2, q3⟩
        · exact Or.inl ⟨(if_neg e).trans q1, by rw [e2 j e]; exact q2⟩
        · exact Or.inr ⟨y, (if_neg e).trans q1, by rw [e2 j e]; exact q2, q3.fr (fun d _ _ => f1 d (by omega) (by omega))⟩
    · by_cases e : j = k
      · subst e
        exact Or.inr ⟨c, if_pos rfl, e3, w2⟩
      · rcases hM1.2 j hj with ⟨q1, q2⟩ | ⟨y, q1, q2, q3⟩
        · exact Or.inl ⟨(if_neg e).trans q1, by rw [e4 j e]; exact q2⟩
        · exact Or.inr ⟨y, (if_neg e).trans q1, by rw [e4 j e]; exact q2, q3.fr (fun d _ _ => f2 d (by omega))⟩
  · exact k_image0 hx (t_image0 hx ⟨rfl, h⟩)
theorem st_again (x : Int32) (h : LI a o I) : w_X9_again a x I (fun v I1 => w_X10_again o x I1 (fun v' I2 => v = v' ∧ LI a o I2)) := by
  rcases in_cases x (lo := 0) (hi := 2) (by omega) (by omega) with ⟨k, k1, k2, rfl⟩ | hx
  · have h0 := h
    obtain ⟨hs, c, im, ⟨h1, h2, h3, ⟨t, h4⟩, h5⟩, hM⟩ := h
    have hk : k < 3 := by omega
    rcases (h5 k hk).2 with ⟨q1, q2⟩ | ⟨y, q1, q2, q3⟩
    · rcases hM.2 k hk with ⟨r1, r2⟩ | ⟨z, r1, r2, r3⟩
      · exact k_againN hk q2 (t_againN hk r2 ⟨rfl, h0⟩)
      · rw [q1] at r1; cases r1
    · rcases hM.2 k hk with ⟨r1, r2⟩ | ⟨z, r1, r2, r3⟩
      · rw [q1] at r1; cases r1
      · rw [q1] at r1; cases r1
        refine k_again1 hk (by rw [q2]; decide) q3 (MShp.of h1.1.1) (fun I' w1 f1 => ?_)
        have hM1 : MdI o I' c im := hM.frc (fun c _ _ => f1 c (by omega))
        have r3' : ImX o (1548 + 1119 * k) I' y := r3.fr (fun j _ _ => by rw [f1 _ (by omega)])
        refine t_again1 hk (by rw [f1 _ (by omega), r2]; decide) r3' (fun J' w2 f2 f3 => ⟨rfl, ?_⟩)
        refine LI.of (x := y) (im := im) hs (ClI.fr (I := I') ⟨w1, h2.fr (fun d _ _ => f1 d (by omega)), h3.fr (fun d _ _ => f1 d (by omega)), ⟨t, h4.fr (f1 _ (by omega)) (f1 _ (by omega))⟩, h5.fr (fun d hd => f1 d (by omega))⟩ (fun d _ _ => f3 d (by omega) (by omega) (by omega))) ⟨w2, hM1.2.fr (fun j hj => f2 j (by omega)) (f3 _ (by omega) (by omega) (by omega))⟩
  · exact k_again0 hx (t_again0 hx ⟨rfl, h⟩)
theorem st_program {J : MJ} {B : MR} (h : LI a o I) : w_X9_program a I B (fun v I1 _ => w_X10_program o I1 J (fun v' I2 _ => v = v' ∧ LI a o I2)) := by
  obtain ⟨hs, c, im, ⟨h1, h2, h3, ⟨t, h4⟩, h5⟩, hM⟩ := h
  refine q_program h1 h3 (fun v I' B' V' f' g' w1 w2 hF hm => ?_)
  have hM1 : MdI o I' c im := hM.frc (fun c _ _ => hF c (by omega))
  refine hm o I' J _ hM1.1 (fun I2 J2 w3 f1 f2 => ⟨rfl, ?_⟩)
  refine LI.of (x := (V', c.2.1, 0, f', g')) (im := im) hs (ClI.fr (I := I') ⟨w1, h2.fr (fun d _ _ => hF d (by omega)), w2, ⟨t, h4.fr (hF _ (by omega)) (hF _ (by omega))⟩, h5.fr (fun d hd => hF d (by omega))⟩ (fun d _ _ => f1 d (by omega) (by omega) (by omega) (by omega) (by omega))) ⟨w3, hM1.2.fr f2 (f1 _ (by omega) (by omega) (by omega) (by omega) (by omega))⟩
end
