/-! the model reads the rest of an instruction -/
section
variable {o n L R c op : Nat} {T : Nat → Nat} {I : MI} {J : MJ} {s : PS} {V : Nat → Int32}
/-- the draft's numbers -/
def BkR (o : Nat) (I : MI) (V : Nat → Int32) : Prop := ∀ j, j < 516 → I (o + 1) (1032 + j) = V j
def MB (o : Nat) (I : MI) (J : MJ) (T : Nat → Nat) (L n : Nat) (s : PS) (V : Nat → Int32) : Prop := MT o I J T L n 0 s ∧ (s.2.1 = false → BkR o I V)
/-- but for the draft and the reading's own numbers nothing is changed -/
def MsF (o : Nat) (I I' : MI) : Prop := (∀ c, c ≠ o → c ≠ o + 1 → I' c = I c) ∧ (∀ j, (j < 1032 ∨ 1548 ≤ j) → I' (o + 1) j = I (o + 1) j) ∧ ∀ j, j ≠ 4 → j ≠ 5 → (j < 11 ∨ 15 < j) → I' o j = I o j
theorem MsF.rf : MsF o I I := ⟨fun _ _ _ => rfl, fun _ _ => rfl, fun _ _ _ _ => rfl⟩
theorem MsF.tr {I' I'' : MI} (h : MsF o I I') (h' : MsF o I' I'') : MsF o I I'' := ⟨fun c a b => (h'.1 c a b).trans (h.1 c a b), fun j a => (h'.2.1 j a).trans (h.2.1 j a), fun j a b d => (h'.2.2 j a b d).trans (h.2.2 j a b d)⟩
theorem MsF.mt {I' : MI} (h : MtF o I I') : MsF o I I' := ⟨fun c a _ => h.1 c a, fun j _ => by rw [h.1 _ (by omega)], fun j a b d => h.2 j a b d⟩
theorem ix_k {k : Nat} (hk : k < 516) : ix (nI (1032 + k)) = 1032 + k := ixn (by omega)
theorem in_k {k : Nat} (hk : k < 516) : vp_in (nI (1032 + k)) 4905 := inn (by omega) (by omega)
theorem MsF.wr {k : Nat} {x : Int32} (hk : k < 516) : MsF o I (ui I (o + 1) (ix (nI (1032 + k))) x) := by
  rw [ix_k hk]
  exact ⟨fun c _ b => ui_ne _ _ _ b, fun j a => ui_gj _ _ _ (by omega), fun j _ _ _ => by rw [ui_ne _ _ _ (by omega)]⟩
theorem BkR.mt {I' : MI} (h : BkR o I V) (hF : MtF o I I') : BkR o I' V := fun j hj => by rw [hF.1 _ (by omega)]; exact h j hj
theorem BkR.wr {k : Nat} {x : Int32} (h : BkR o I V) (hk : k < 516) : BkR o (ui I (o + 1) (ix (nI (1032 + k))) x) (upd V k x) := fun j hj => by
  rw [ix_k hk]
  by_cases e : j = k
  · subst e; rw [ui_gs, upd_s]
  · rw [ui_gj _ _ _ (by omega), upd_n _ _ e]; exact h j hj
theorem MB.wr {k : Nat} {x : Int32} (h : MB o I J T L n s V) (hk : k < 516) : MB o (ui I (o + 1) (ix (nI (1032 + k))) x) J T L n s (upd V k x) := ⟨h.1.fr (ui_ne _ _ _ (by omega)) (ui_ne _ _ _ (by omega)) rfl, fun z => (h.2 z).wr hk⟩
theorem t_letW {k : Nat} {S : MI → MJ → Prop} (h : MB o I J T L n s V) (hk : k < 516) (hS : ∀ I' J', MB o I' J' T L n (aTake T L 2 s).2 (upd V k (nI (aTake T L 2 s).1)) → MsF o I I' → JF o J J' → S I' J') : w_X10_letterTaken o I J (fun r I1 J1 => vp_in (nI (1032 + k)) 4905 ∧ ∀ I2, I2 = ui I1 (o + 1) (ix (nI (1032 + k))) r → S I2 J1) := by
  refine t_letter h.1 (fun I1 J1 c1 f1 j1 => ⟨in_k hk, ?_⟩)
  rintro _ rfl
  exact hS _ _ (MB.wr ⟨c1, fun z => (h.2 (aTake_br z)).mt f1⟩ hk) ((MsF.mt f1).tr (MsF.wr hk)) j1
theorem t_numW {k lo hi : Nat} {S : MI → MJ → Prop} (h : MB o I J T L n s V) (hk : k < 516) (h1 : lo ≤ hi) (h2 : hi < 1000) (hS : ∀ I' J', MB o I' J' T L n (aNum T L lo hi s).2 (upd V k (nI (aNum T L lo hi s).1)) → MsF o I I' → JF o J J' → S I' J') : w_X10_numeral o (nI lo) (nI hi) I J (fun r I1 J1 => vp_in (nI (1032 + k)) 4905 ∧ ∀ I2, I2 = ui I1 (o + 1) (ix (nI (1032 + k))) r → S I2 J1) := by
  refine t_numeral h.1 h1 h2 (fun I1 J1 c1 f1 j1 => ⟨in_k hk, ?_⟩)
  rintro _ rfl
  exact hS _ _ (MB.wr ⟨c1, fun z => (h.2 (aNum_br z)).mt f1⟩ hk) ((MsF.mt f1).tr (MsF.wr hk)) j1
theorem cap_S (R : Nat) : cap (R + 1) = if cap R < 24 then cap R + 1 else cap R := by
  unfold cap
  by_cases h : R < 24
  · rw [if_pos h, if_pos h]
    by_cases h2 : R + 1 < 24
    · rw [if_pos h2]
    · rw [if_neg h2]; omega
  · rw [if_neg h, if_neg (by omega), if_neg (by omega)]
/-- one instruction more -/
theorem t_more {S : MI → MJ → Prop} (h : MB o I J T L n s V) (h48 : s.2.1 = false → V 48 = nI (cap R)) (hS : ∀ I', MB o I' J T L n s (upd V 48 (nI (cap (R + 1)))) → MsF o I I' → S I' J) : w_X10_readsInstruction_p329 o (nI (cap R)) I J S := by
  have cl := cap_le R
  have e1080 : (1080 : Int32) = nI (1032 + 48) := rfl
  unfold w_X10_readsInstruction_p329
  rw [e1080]
  refine t_isGood h.1 (fun g => ⟨fun c => absurd c (by decide), fun _ => ⟨fun c => ?_, fun c => ?_⟩⟩) (fun b => ⟨fun _ => ?_, fun c => absurd rfl c⟩)
  · have := (nI_leI (a := 24) (by omega) (by omega)).mp c
    have hv : I (o + 1) (ix (nI (1032 + 48))) = nI (cap R) := by rw [ix_k (by omega), h.2 g 48 (by omega)]; exact h48 g
    rintro _ rfl
    rw [hv, show nI (cap R) + 0 = nI (cap (R + 1)) from (nI_add _ 0).trans (congrArg nI (by rw [cap_S, if_neg (by omega)]; omega))]
    exact hS _ (h.wr (by omega)) (MsF.wr (by omega))
  · have lt : cap R < 24 := Nat.not_le.mp fun q => c (nI_le (a := 24) q (by omega))
    have hv : I (o + 1) (ix (nI (1032 + 48))) = nI (cap R) := by rw [ix_k (by omega), h.2 g 48 (by omega)]; exact h48 g
    rintro _ rfl
    rw [hv, nI_1, show nI (cap R + 1) = nI (cap (R + 1)) from congrArg nI (by rw [cap_S, if_pos lt])]
    exact hS _ (h.wr (by omega)) (MsF.wr (by omega))
  · rintro _ rfl
    refine hS _ ⟨h.1.fr (ui_ne _ _ _ (by omega)) (ui_ne _ _ _ (by omega)) rfl, fun z => ?_⟩ (MsF.wr (by omega))
    rw [b] at z; exact Bool.noConfusion z
/-- the instruction behind its op -/
def aoP (o : Nat) (x1 x2 x3 : Int32) (I : MI) (J : MJ) (Q : MI → MJ → Prop) : Prop :=
  ((x1 = (6 : Int32) → w_X10_readsInstruction_p106 o x1 x2 x3 I J Q) ∧
  (¬ x1 = (6 : Int32) → ((x1 = (8 : Int32) → w_X10_readsInstruction_p106 o x1 x2 x3 I J Q) ∧
  (¬ x1 = (8 : Int32) → (w_X10_letterTaken o I J (fun r108 I109 J110 => (vp_in (x3 + (1 : Int32)) 4905 ∧ (∀ I112, I112 = ui I109 (o + 1) (ix (x3 + (1 : Int32))) r108 → w_X10_readsInstruction_p106 o x1 x2 x3 I112 J110 Q))))))))
theorem xk {c k : Nat} : nI (1082 + 5 * c) + nI k = nI (1032 + (50 + 5 * c + k)) := (nI_add _ k).trans (congrArg nI (by omega))
theorem noReck {S : Int32 → Prop} (h : op = 0 ∨ 4 ≤ op) (ho : op < 9) (hS : S 0) : w_X10_isReckoning (nI op) S := t_isReck (by
  have ne : ∀ z : Nat, z < 9 → z ≠ op → ¬ nI op = nI z := fun z hz hne q => hne (nI_inj (by omega) (by omega) q).symm
  rw [if_neg (fun q => by rcases q with q | q | q; exact ne 1 (by omega) (by omega) q; exact ne 2 (by omega) (by omega) q; exact ne 3 (by omega) (by omega) q)]; exact hS)
theorem p199n {x2 x3 : Int32} {S : MI → MJ → Prop} (h6 : op < 6 ∨ op = 8) (h : w_X10_readsInstruction_p329 o x2 I J S) : w_X10_readsInstruction_p199 o (nI op) x2 x3 I J S := by
  have ne : ∀ z : Nat, z < 9 → z ≠ op → ¬ nI op = nI z := fun z hz hne q => hne (nI_inj (by omega) (by omega) q).symm
  unfold w_X10_readsInstruction_p199 w_X10_readsInstruction_p312
  exact ⟨fun _ => ⟨fun q => absurd q (ne 6 (by omega) (by omega)), fun _ => ⟨fun _ => h, fun q => absurd q (ne 7 (by omega) (by omega))⟩⟩, fun q => absurd q (ne 7 (by omega) (by omega))⟩
theorem p174n {x2 x3 : Int32} {S : MI → MJ → Prop} (h4 : op ≠ 4 ∧ op ≠ 5) (ho : op < 9) (h : w_X10_readsInstruction_p199 o (nI op) x2 x3 I J S) : w_X10_readsInstruction_p174 o (nI op) x2 x3 I J S := by
  have ne : ∀ z : Nat, z < 9 → z ≠ op → ¬ nI op = nI z := fun z hz hne q => hne (nI_inj (by omega) (by omega) q).symm
  unfold w_X10_readsInstruction_p174
  exact ⟨fun q => absurd q (ne 4 (by omega) (by omega)), fun _ => ⟨fun _ => h, fun q => absurd q (ne 5 (by omega) (by omega))⟩⟩
theorem p126n {x2 x3 : Int32} {S : MI → MJ → Prop} (h4 : op = 0 ∨ 6 ≤ op) (ho : op < 9) (h : w_X10_readsInstruction_p199 o (nI op) x2 x3 I J S) : w_X10_readsInstruction_p126 o (nI op) x2 x3 I J S := by
  have ne : ∀ z : Nat, z < 9 → z ≠ op → ¬ nI op = nI z := fun z hz hne q => hne (nI_inj (by omega) (by omega) q).symm
  unfold w_X10_readsInstruction_p126
  exact noReck (by omega) ho ⟨fun c => absurd rfl c, fun _ => ⟨fun q => absurd q (ne 4 (by omega) (by omega)), fun _ => ⟨fun _ => noReck (by omega) ho ⟨fun _ => p174n (by omega) ho h, fun c => absurd rfl c⟩, fun q => absurd q (ne 5 (by omega) (by omega))⟩⟩⟩
theorem p106n {x2 x3 : Int32} {S : MI → MJ → Prop} (h0 : op ≠ 0) (ho : op < 9) (h : w_X10_readsInstruction_p126 o (nI op) x2 x3 I J S) : w_X10_readsInstruction_p106 o (nI op) x2 x3 I J S := by
  unfold w_X10_readsInstruction_p106
  exact ⟨fun _ => h, fun q => absurd (nI_inj (b := 0) (by omega) (by omega) q) h0⟩
theorem ao_l {x2 : Int32} {S : MI → MJ → Prop} (h6 : op ≠ 6) (h8 : op ≠ 8) (ho : op < 9) (hc : c ≤ 24) (h : MB o I J T L n s V) (hS : ∀ I' J', MB o I' J' T L n (aTake T L 2 s).2 (upd V (51 + 5 * c) (nI (aTake T L 2 s).1)) → MsF o I I' → JF o J J' → w_X10_readsInstruction_p106 o (nI op) x2 (nI (1082 + 5 * c)) I' J' S) : aoP o (nI op) x2 (nI (1082 + 5 * c)) I J S := by
  have ne : ∀ z : Nat, z < 9 → z ≠ op → ¬ nI op = nI z := fun z hz hne q => hne (nI_inj (by omega) (by omega) q).symm
  unfold aoP
  refine ⟨fun q => absurd q (ne 6 (by omega) (by omega)), fun _ => ⟨fun q => absurd q (ne 8 (by omega) (by omega)), fun _ => ?_⟩⟩
  rw [show nI (1082 + 5 * c) + 1 = nI (1032 + (50 + 5 * c + 1)) from xk (k := 1)]
  exact t_letW h (by omega) (fun I' J' m f j => hS I' J' (by rw [show 51 + 5 * c = 50 + 5 * c + 1 by omega]; exact m) f j)
theorem t_ao0 {S : MI → MJ → Prop} (h : MB o I J T L n s V) (h48 : s.2.1 = false → V 48 = nI (cap R))
    (hS : ∀ I' J', MB o I' J' T L n (aNum T L 0 999 (aTake T L 2 s).2).2 (upd (upd (upd V (51 + 5 * cap R) (nI (aTake T L 2 s).1)) (54 + 5 * cap R) (nI (aNum T L 0 999 (aTake T L 2 s).2).1)) 48 (nI (cap (R + 1)))) → MsF o I I' → JF o J J' → S I' J') : aoP o (nI 0) (nI (cap R)) (nI (1082 + 5 * cap R)) I J S := by
  have cl := cap_le R
  refine ao_l (by omega) (by omega) (by omega) cl h (fun I1 J1 m1 f1 j1 => ?_)
  unfold w_X10_readsInstruction_p106
  refine ⟨fun q => absurd rfl q, fun _ => ?_⟩
  rw [show nI (1082 + 5 * cap R) + 4 = nI (1032 + (50 + 5 * cap R + 4)) from xk (k := 4)]
  refine t_numW (lo := 0) (hi := 999) m1 (by omega) (by omega) (by omega) (fun I2 J2 m2 f2 j2 => p126n (by omega) (by omega) (p199n (by omega) (t_more m2 (fun z => ?_) (fun I3 m3 f3 => hS I3 J2 (by rw [show 54 + 5 * cap R = 50 + 5 * cap R + 4 by omega]; exact m3) ((f1.tr f2).tr f3) (j1.tr j2)))))
  rw [upd_n _ _ (by omega), upd_n _ _ (by omega)]
  exact h48 (aTake_br (aNum_br z))
theorem t_ao1 {S : MI → MJ → Prop} (ho : op = 1 ∨ op = 2 ∨ op = 3) (h : MB o I J T L n s V) (h48 : s.2.1 = false → V 48 = nI (cap R))
    (hS : ∀ I' J', MB o I' J' T L n (aTake T L 2 (aTake T L 2 (aTake T L 2 s).2).2).2 (upd (upd (upd (upd V (51 + 5 * cap R) (nI (aTake T L 2 s).1)) (52 + 5 * cap R) (nI (aTake T L 2 (aTake T L 2 s).2).1)) (53 + 5 * cap R) (nI (aTake T L 2 (aTake T L 2 (aTake T L 2 s).2).2).1)) 48 (nI (cap (R + 1)))) → MsF o I I' → JF o J J' → S I' J') : aoP o (nI op) (nI (cap R)) (nI (1082 + 5 * cap R)) I J S := by
  have cl := cap_le R
  have e : nI op = 1 ∨ nI op = 2 ∨ nI op = 3 := by rcases ho with rfl | rfl | rfl; exact Or.inl rfl; exact Or.inr (Or.inl rfl); exact Or.inr (Or.inr rfl)
  refine ao_l (by omega) (by omega) (by omega) cl h (fun I1 J1 m1 f1 j1 => p106n (by omega) (by omega) ?_)
  unfold w_X10_readsInstruction_p126
  refine t_isReck ?_
  rw [if_pos e]
  refine ⟨fun _ => ?_, fun q => absurd q (by decide)⟩
  unfold w_X10_readsInstruction_p143
  rw [show nI (1082 + 5 * cap R) + 2 = nI (1032 + (50 + 5 * cap R + 2)) from xk (k := 2), show nI (1082 + 5 * cap R) + 3 = nI (1032 + (50 + 5 * cap R + 3)) from xk (k := 3)]
  refine t_letW m1 (by omega) (fun I2 J2 m2 f2 j2 => t_isReck ?_)
  rw [if_pos e]
  refine ⟨fun q => absurd q (by decide), fun _ => ?_⟩
  refine t_letW m2 (by omega) (fun I3 J3 m3 f3 j3 => p174n (by omega) (by omega) (p199n (by omega) (t_more m3 (fun z => ?_) (fun I4 m4 f4 => hS I4 J3 (by rw [show 52 + 5 * cap R = 50 + 5 * cap R + 2 by omega, show 53 + 5 * cap R = 50 + 5 * cap R + 3 by omega]; exact m4) (((f1.tr f2).tr f3).tr f4) ((j1.tr j2).tr j3)))))
  rw [upd_n _ _ (by omega), upd_n _ _ (by omega), upd_n _ _ (by omega)]
  exact h48 (aTake_br (aTake_br (aTake_br z)))
theorem t_ao4 {S : MI → MJ → Prop} (ho : op = 4 ∨ op = 5) (h : MB o I J T L n s V) (h48 : s.2.1 = false → V 48 = nI (cap R))
    (hS : ∀ I' J', MB o I' J' T L n (aNum T L 0 31 (aTake T L 2 (aTake T L 2 s).2).2).2 (upd (upd (upd (upd V (51 + 5 * cap R) (nI (aTake T L 2 s).1)) (52 + 5 * cap R) (nI (aTake T L 2 (aTake T L 2 s).2).1)) (54 + 5 * cap R) (nI (aNum T L 0 31 (aTake T L 2 (aTake T L 2 s).2).2).1)) 48 (nI (cap (R + 1)))) → MsF o I I' → JF o J J' → S I' J') : aoP o (nI op) (nI (cap R)) (nI (1082 + 5 * cap R)) I J S := by
  have cl := cap_le R
  have ne : ∀ z : Nat, z < 9 → z ≠ op → ¬ nI op = nI z := fun z hz hne q => hne (nI_inj (by omega) (by omega) q).symm
  refine ao_l (by omega) (by omega) (by omega) cl h (fun I1 J1 m1 f1 j1 => p106n (by omega) (by omega) ?_)
  have p143 : w_X10_readsInstruction_p143 o (nI op) (nI (cap R)) (nI (1082 + 5 * cap R)) I1 J1 S := by
    unfold w_X10_readsInstruction_p143
    rw [show nI (1082 + 5 * cap R) + 2 = nI (1032 + (50 + 5 * cap R + 2)) from xk (k := 2), show nI (1082 + 5 * cap R) + 3 = nI (1032 + (50 + 5 * cap R + 3)) from xk (k := 3)]
    refine t_letW m1 (by omega) (fun I2 J2 m2 f2 j2 => noReck (by omega) (by omega) ⟨fun _ => ?_, fun q => absurd rfl q⟩)
    have num : w_X10_numeral o (nI 0) (nI 31) I2 J2 (fun r31 I32 J33 => (vp_in (nI (1032 + (50 + 5 * cap R + 4))) 4905 ∧ (∀ I35, I35 = ui I32 (o + 1) (ix (nI (1032 + (50 + 5 * cap R + 4)))) r31 → w_X10_readsInstruction_p199 o (nI op) (nI (cap R)) (nI (1082 + 5 * cap R)) I35 J33 S))) := by
      refine t_numW m2 (by omega) (by omega) (by omega) (fun I3 J3 m3 f3 j3 => p199n (by omega) (t_more m3 (fun z => ?_) (fun I4 m4 f4 => hS I4 J3 (by rw [show 52 + 5 * cap R = 50 + 5 * cap R + 2 by omega, show 54 + 5 * cap R = 50 + 5 * cap R + 4 by omega]; exact m4) (((f1.tr f2).tr f3).tr f4) ((j1.tr j2).tr j3))))
      rw [upd_n _ _ (by omega), upd_n _ _ (by omega), upd_n _ _ (by omega)]
      exact h48 (aTake_br (aTake_br (aNum_br z)))
    unfold w_X10_readsInstruction_p174
    rw [show nI (1082 + 5 * cap R) + 4 = nI (1032 + (50 + 5 * cap R + 4)) from xk (k := 4)]
    exact ⟨fun _ => num, fun n4 => ⟨fun n5 => by rcases ho with rfl | rfl; exact absurd rfl n4; exact absurd rfl n5, fun _ => num⟩⟩
  unfold w_X10_readsInstruction_p126
  exact noReck (by omega) (by omega) ⟨fun c => absurd rfl c, fun _ => ⟨fun _ => p143, fun n4 => ⟨fun n5 => by rcases ho with rfl | rfl; exact absurd rfl n4; exact absurd rfl n5, fun _ => p143⟩⟩⟩
theorem t_ao8 {S : MI → MJ → Prop} (h : MB o I J T L n s V) (h48 : s.2.1 = false → V 48 = nI (cap R))
    (hS : ∀ I', MB o I' J T L n s (upd V 48 (nI (cap (R + 1)))) → MsF o I I' → S I' J) : aoP o (nI 8) (nI (cap R)) (nI (1082 + 5 * cap R)) I J S := by
  unfold aoP
  refine ⟨fun q => absurd q (by decide), fun _ => ⟨fun _ => ?_, fun q => absurd rfl q⟩⟩
  exact p106n (by omega) (by omega) (p126n (by omega) (by omega) (p199n (by omega) (t_more h h48 hS)))
/-- where it goes to -/
def JmF (o : Nat) (T : Nat → Nat) (L : Nat) (I I' : MI) (J J' : MJ) (W c k : Nat) : Prop :=
  I' o 24 = nI (if W < 24 then W + 1 else W) ∧ J' (o + 6) W = lN (twk T L k) ∧ I' (o + 8) W = nI c ∧ I' (o + 9) W = nI (pos T L k) ∧ ∀ w, w ≠ W → J' (o + 6) w = J (o + 6) w ∧ I' (o + 8) w = I (o + 8) w ∧ I' (o + 9) w = I (o + 9) w
/-- but for draft, jumps and the reading's own numbers nothing is changed -/
def MjF (o : Nat) (I I' : MI) (J J' : MJ) : Prop := (∀ c, c ≠ o → c ≠ o + 1 → c ≠ o + 8 → c ≠ o + 9 → I' c = I c) ∧ (∀ j, (j < 1032 ∨ 1548 ≤ j) → I' (o + 1) j = I (o + 1) j) ∧ (∀ j, j ≠ 4 → j ≠ 5 → (j < 11 ∨ 15 < j) → j ≠ 24 → I' o j = I o j) ∧ ∀ d j, (d ≠ o ∨ j ≠ 17) → d ≠ o + 6 → J' d j = J d j
theorem t_wants {W : Nat} {S : MI → MJ → Prop} (h : MB o I J T L n s V) (hc : c ≤ 24) (hW : s.2.1 = false → I o 24 = nI W ∧ W ≤ 24)
    (hS : ∀ I' J', MB o I' J' T L n (aNam T L s) V → MjF o I I' J J' → ((aNam T L s).2.1 = false → JmF o T L I I' J J' W c s.1 ∧ I' (o + 1) = I (o + 1)) → S I' J') : w_X10_wants o (nI c) I J S := by
  unfold w_X10_wants
  refine t_isName h.1 (fun q => ⟨fun _ => ?_, fun c => absurd c (by decide)⟩) (fun q => ⟨fun c => absurd rfl c, fun _ => ?_⟩)
  · obtain ⟨e24, hW⟩ := hW q.1
    obtain ⟨g4, g15, g14, g13, g11, g12, g17⟩ := h.1.2.2.2 q.1
    have al := alk T L s.1
    have ts : tsk T L s.1 = 1 := by have := q.2; unfold Alk at al; omega
    have ea : aNam T L s = aAdv s := by unfold aNam; exact if_pos q
    rw [ea] at hS
    rw [e24, ixn (by omega), g17 (Or.inl ts)]
    refine ⟨inn (by omega) (by omega), ?_⟩
    rintro _ rfl
    refine ⟨inn (by omega) (by omega), ?_⟩
    rintro _ rfl
    rw [ui_ne _ _ _ (show o ≠ o + 8 by omega), e24, g13, ixn (by omega)]
    refine ⟨inn (by omega) (by omega), ?_⟩
    rintro _ rfl
    rw [ui_ne _ _ _ (show o ≠ o + 9 by omega), ui_ne _ _ _ (show o ≠ o + 8 by omega), e24]
    have fin : ∀ W' : Nat, W' = (if W < 24 then W + 1 else W) → w_X10_takesToken o (ui (ui (ui I (o + 8) W (nI c)) (o + 9) W (nI (pos T L s.1))) o 24 (nI W')) (uj J (o + 6) W (lN (twk T L s.1))) S := fun W' eW => by
      have c0 : MT o (ui (ui (ui I (o + 8) W (nI c)) (o + 9) W (nI (pos T L s.1))) o 24 (nI W')) (uj J (o + 6) W (lN (twk T L s.1))) T L n 0 s := (h.1.fr (by rw [ui_ne _ _ _ (by omega), ui_ne _ _ _ (by omega)]) (by rw [ui_ne _ _ _ (by omega), ui_ne _ _ _ (by omega)]) (uj_o _ _ (Or.inl (by omega)))).own (by omega)
      refine t_adv c0 q.1 q.2 (by omega) (fun I1 J1 c1 f1 j1 => hS I1 J1 ⟨c1, fun _ j hj => ?_⟩ ⟨fun d a b e g => ?_, fun j _ => ?_, fun j a b e g => ?_, fun d j a b => ?_⟩ (fun _ => ⟨⟨?_, ?_, ?_, ?_, fun w hw => ⟨?_, ?_, ?_⟩⟩, ?_⟩))
      · rw [f1.1 _ (by omega), ui_ne _ _ _ (by omega), ui_ne _ _ _ (by omega), ui_ne _ _ _ (by omega)]; exact h.2 q.1 j hj
      · rw [f1.1 _ a, ui_ne _ _ _ a, ui_ne _ _ _ g, ui_ne _ _ _ e]
      · rw [f1.1 _ (by omega), ui_ne _ _ _ (by omega), ui_ne _ _ _ (by omega), ui_ne _ _ _ (by omega)]
      · rw [f1.2 j a b e, ui_gj _ _ _ g, ui_ne _ _ _ (by omega), ui_ne _ _ _ (by omega)]
      · rw [j1 d j a, uj_o _ _ (Or.inl b)]
      · rw [f1.2 24 (by omega) (by omega) (by omega), ui_gs, eW]
      · rw [j1 _ _ (Or.inl (by omega)), uj_gs]
      · rw [f1.1 _ (by omega), ui_ne _ _ _ (by omega), ui_ne _ _ _ (by omega), ui_gs]
      · rw [f1.1 _ (by omega), ui_ne _ _ _ (by omega), ui_gs]
      · rw [j1 _ _ (Or.inl (by omega)), uj_o _ _ (Or.inr hw)]
      · rw [f1.1 _ (by omega), ui_ne _ _ _ (by omega), ui_ne _ _ _ (by omega), ui_gj _ _ _ hw]
      · rw [f1.1 _ (by omega), ui_ne _ _ _ (by omega), ui_gj _ _ _ hw, ui_ne _ _ _ (by omega)]
      · rw [f1.1 _ (by omega), ui_ne _ _ _ (by omega), ui_ne _ _ _ (by omega), ui_ne _ _ _ (by omega)]
    refine ⟨fun c24 => ?_, fun c24 => ?_⟩
    · have := (nI_leI (a := 24) (by omega) (by omega)).mp c24
      rintro _ rfl
      rw [show nI W + 0 = nI W from nI_add W 0]
      exact fin W (by rw [if_neg (by omega)])
    · have lt : W < 24 := Nat.not_le.mp fun q => c24 (nI_le (a := 24) q (by omega))
      rintro _ rfl
      rw [nI_1]
      exact fin (W + 1) (by rw [if_pos lt])
  · have ea : aNam T L s = aBrk s := by unfold aNam; exact if_neg q
    rw [ea] at hS
    exact t_fails h.1 (fun I1 c1 f1 => hS _ _ ⟨c1, fun z => Bool.noConfusion z⟩ ⟨fun d a _ _ _ => f1.1 d a, fun j _ => by rw [f1.1 _ (by omega)], fun j a b e _ => f1.2 j a b e, fun _ _ _ _ => rfl⟩ (fun z => Bool.noConfusion z))
theorem MjF.ms {I1 I' : MI} {J1 J' : MJ} (f1 : MsF o I I1) (j1 : JF o J J1) (h : MjF o I1 I' J1 J') : MjF o I I' J J' := ⟨fun d a b e g => (h.1 d a b e g).trans (f1.1 d a b), fun j a => (h.2.1 j a).trans (f1.2.1 j a), fun j a b e g => (h.2.2.1 j a b e g).trans (f1.2.2 j a b e), fun d j a b => (h.2.2.2 d j a b).trans (j1 d j a)⟩
theorem MjF.sm {I1 I' : MI} {J1 : MJ} (h : MjF o I I1 J J1) (f1 : MsF o I1 I') : MjF o I I' J J1 := ⟨fun d a b e g => (f1.1 d a b).trans (h.1 d a b e g), fun j a => (f1.2.1 j a).trans (h.2.1 j a), fun j a b e g => (f1.2.2 j a b e).trans (h.2.2.1 j a b e g), h.2.2.2⟩
theorem JmF.sm {I1 I2 I3 : MI} {J1 J2 : MJ} {W c k : Nat} (f1 : MsF o I I1) (j1 : JF o J J1) (h : JmF o T L I1 I2 J1 J2 W c k) (f2 : MsF o I2 I3) : JmF o T L I I3 J J2 W c k := by
  obtain ⟨h1, h2, h3, h4, h5⟩ := h
  refine ⟨by rw [f2.2.2 24 (by omega) (by omega) (by omega)]; exact h1, h2, by rw [f2.1 _ (by omega) (by omega)]; exact h3, by rw [f2.1 _ (by omega) (by omega)]; exact h4, fun w hw => ?_⟩
  obtain ⟨a1, a2, a3⟩ := h5 w hw
  exact ⟨a1.trans (j1 _ _ (Or.inl (by omega))), by rw [f2.1 _ (by omega) (by omega), a2, f1.1 _ (by omega) (by omega)], by rw [f2.1 _ (by omega) (by omega), a3, f1.1 _ (by omega) (by omega)]⟩
/-- the jump's or the if's end -/
theorem t_p312 {W : Nat} {x1 : Int32} {S : MI → MJ → Prop} (ho : x1 = 6 ∨ x1 = 7) (h : MB o I J T L n s V) (h48 : s.2.1 = false → V 48 = nI (cap R)) (hW : s.2.1 = false → I o 24 = nI W ∧ W ≤ 24)
    (hS : ∀ I' J', MB o I' J' T L n (aNam T L s) (upd V 48 (nI (cap (R + 1)))) → MjF o I I' J J' → ((aNam T L s).2.1 = false → JmF o T L I I' J J' W (cap R) s.1) → S I' J') : w_X10_readsInstruction_p312 o x1 (nI (cap R)) I J S := by
  have cl := cap_le R
  have main : w_X10_wants o (nI (cap R)) I J (fun I38 J39 => w_X10_readsInstruction_p329 o (nI (cap R)) I38 J39 S) := by
    refine t_wants h cl hW (fun I1 J1 m1 f1 k1 => t_more m1 (fun z => h48 (aNam_br z)) (fun I2 m2 f2 => hS I2 J1 m2 (f1.sm f2) (fun z => ?_)))
    exact JmF.sm MsF.rf JF.rf (k1 z).1 f2
  unfold w_X10_readsInstruction_p312
  exact ⟨fun _ => main, fun n6 => ⟨fun n7 => absurd (ho.resolve_left n6) n7, fun _ => main⟩⟩
theorem t_ao6 {W : Nat} {S : MI → MJ → Prop} (h : MB o I J T L n s V) (h48 : s.2.1 = false → V 48 = nI (cap R)) (hW : s.2.1 = false → I o 24 = nI W ∧ W ≤ 24)
    (hS : ∀ I' J', MB o I' J' T L n (aNam T L s) (upd V 48 (nI (cap (R + 1)))) → MjF o I I' J J' → ((aNam T L s).2.1 = false → JmF o T L I I' J J' W (cap R) s.1) → S I' J') : aoP o (nI 6) (nI (cap R)) (nI (1082 + 5 * cap R)) I J S := by
  unfold aoP
  refine ⟨fun _ => p106n (by omega) (by omega) (p126n (by omega) (by omega) ?_), fun q => absurd rfl q⟩
  unfold w_X10_readsInstruction_p199
  exact ⟨fun _ => t_p312 (Or.inl rfl) h h48 hW hS, fun q => absurd q (by decide)⟩
theorem t_ao7 {W : Nat} {S : MI → MJ → Prop} (h : MB o I J T L n s V) (h48 : s.2.1 = false → V 48 = nI (cap R)) (hW : s.2.1 = false → I o 24 = nI W ∧ W ≤ 24)
    (hS : ∀ I' J', MB o I' J' T L n (aNam T L (aIf3 T L s)) (upd (upd (upd (upd V (51 + 5 * cap R) (nI (aTake T L 2 s).1)) (53 + 5 * cap R) (nI (tvN T L (aTake T L 2 s).2.1))) (52 + 5 * cap R) (nI (aTake T L 2 (aRel T L (aTake T L 2 s).2)).1)) 48 (nI (cap (R + 1)))) → MjF o I I' J J' → ((aNam T L (aIf3 T L s)).2.1 = false → JmF o T L I I' J J' W (cap R) (aIf3 T L s).1) → S I' J') : aoP o (nI 7) (nI (cap R)) (nI (1082 + 5 * cap R)) I J S := by
  have cl := cap_le R
  refine ao_l (by omega) (by omega) (by omega) cl h (fun I1 J1 m1 f1 j1 => p106n (by omega) (by omega) (p126n (by omega) (by omega) ?_))
  have k3 : nI (1082 + 5 * cap R) + 3 = nI (1032 + (50 + 5 * cap R + 3)) := xk (k := 3)
  have k2 : nI (1082 + 5 * cap R) + 2 = nI (1032 + (50 + 5 * cap R + 2)) := xk (k := 2)
  -- behind the sign
  have tail : ∀ I2 J2 V2, MB o I2 J2 T L n (aRel T L (aTake T L 2 s).2) V2 → ((aRel T L (aTake T L 2 s).2).2.1 = false → V2 = upd (upd V (51 + 5 * cap R) (nI (aTake T L 2 s).1)) (53 + 5 * cap R) (nI (tvN T L (aTake T L 2 s).2.1))) → MsF o I1 I2 → JF o J1 J2 →
      w_X10_letterTaken o I2 J2 (fun r59 I60 J61 => (vp_in (nI (1032 + (50 + 5 * cap R + 2))) 4905 ∧ (∀ I63, I63 = ui I60 (o + 1) (ix (nI (1032 + (50 + 5 * cap R + 2)))) r59 → w_X10_readsInstruction_p312 o (nI 7) (nI (cap R)) I63 J61 S))) := fun I2 J2 V2 m2 hV2 f2 j2 => by
    refine t_letW m2 (by omega) (fun I3 J3 m3 f3 j3 => ?_)
    have F : MsF o I I3 := (f1.tr f2).tr f3
    have JJ : JF o J J3 := (j1.tr j2).tr j3
    refine t_p312 (W := W) (R := R) (Or.inr rfl) m3 (fun z => ?_) (fun z => ?_) (fun I4 J4 m4 f4 k4 => hS I4 J4 ⟨m4.1, fun z => ?_⟩ (MjF.ms F JJ f4) (fun z => JmF.sm F JJ (k4 z) MsF.rf))
    · have zb := aTake_br z
      rw [hV2 zb, upd_n _ _ (by omega), upd_n _ _ (by omega), upd_n _ _ (by omega)]
      exact h48 (aTake_br (aRel_br zb))
    · obtain ⟨a1, a2⟩ := hW (aTake_br (aRel_br (aTake_br z)))
      exact ⟨by rw [F.2.2 24 (by omega) (by omega) (by omega)]; exact a1, a2⟩
    · have zb : (aRel T L (aTake T L 2 s).2).2.1 = false := aTake_br (aNam_br z)
      have := m4.2 z
      rw [hV2 zb] at this
      rw [show 52 + 5 * cap R = 50 + 5 * cap R + 2 by omega]
      exact this
  have p258 : ∀ b : Int32, (b = 1 → (aTake T L 2 s).2.2.1 = false ∧ tkd T L (aTake T L 2 s).2.1 = 5 ∧ 60 ≤ tvN T L (aTake T L 2 s).2.1) → (b = 0 → ¬ ((aTake T L 2 s).2.2.1 = false ∧ tkd T L (aTake T L 2 s).2.1 = 5 ∧ 60 ≤ tvN T L (aTake T L 2 s).2.1)) → (b = 0 ∨ b = 1) → w_X10_readsInstruction_p258 o (nI 7) (nI (cap R)) (nI (1082 + 5 * cap R)) b I1 J1 S := fun b hb1 hb0 hb => by
    unfold w_X10_readsInstruction_p258
    rw [k3]
    refine ⟨fun nb => ⟨fun q => absurd q nb, fun _ => ?_⟩, fun eb => ?_⟩
    · have q := hb1 (hb.resolve_left nb)
      have al := alk T L (aTake T L 2 s).2.1
      have ts : tsk T L (aTake T L 2 s).2.1 = 3 ∧ tvN T L (aTake T L 2 s).2.1 = twk T L (aTake T L 2 s).2.1 := by have := q.2.1; unfold Alk at al; omega
      obtain ⟨-, -, -, -, -, -, g17⟩ := m1.1.2.2.2 q.1
      have er : aRel T L (aTake T L 2 s).2 = aAdv (aTake T L 2 s).2 := by unfold aRel; exact if_pos q
      unfold w_X10_readsInstruction_p290
      rw [g17 (Or.inr (Or.inr ts.1)), lN_i, ← ts.2, k2]
      refine ⟨in_k (by omega), ?_⟩
      rintro _ rfl
      refine ⟨fun q => absurd q nb, fun _ => ?_⟩
      have mw := m1.wr (k := 50 + 5 * cap R + 3) (x := nI (tvN T L (aTake T L 2 s).2.1)) (by omega)
      refine t_adv mw.1 q.1 q.2.1 (by omega) (fun I2 J2 c2 f2 j2 => tail I2 J2 _ ⟨by rw [er]; exact c2, fun z => (mw.2 q.1).mt f2⟩ (fun _ => by rw [show 53 + 5 * cap R = 50 + 5 * cap R + 3 by omega]) ((MsF.wr (by omega)).tr (MsF.mt f2)) j2)
    · have q := hb0 eb
      have er : aRel T L (aTake T L 2 s).2 = aBrk (aTake T L 2 s).2 := by unfold aRel; exact if_neg q
      refine t_fails m1.1 (fun I2 c2 f2 => ⟨fun _ => ?_, fun nb => absurd eb nb⟩)
      unfold w_X10_readsInstruction_p290
      rw [k2]
      refine ⟨in_k (by omega), ?_⟩
      rintro _ rfl
      refine ⟨fun _ => ?_, fun nb => absurd eb nb⟩
      exact tail _ J1 V ⟨by rw [er]; exact c2.fr (ui_ne _ _ _ (by omega)) (ui_ne _ _ _ (by omega)) rfl, fun z => by rw [er] at z; exact Bool.noConfusion z⟩ (fun z => by rw [er] at z; exact Bool.noConfusion z) ((MsF.mt f2).tr (MsF.wr (by omega))) JF.rf
  unfold w_X10_readsInstruction_p199
  refine ⟨fun q => absurd rfl q, fun _ => t_isGood m1.1 (fun g => ⟨fun q => absurd q (by decide), fun _ => ?_⟩) (fun b => ⟨fun _ => p258 0 (fun q => absurd q (by decide)) (fun _ z => by rw [b] at z; exact Bool.noConfusion z.1) (Or.inl rfl), fun q => absurd rfl q⟩)⟩
  obtain ⟨-, -, -, -, -, g12, g17⟩ := m1.1.2.2.2 g
  have al := alk T L (aTake T L 2 s).2.1
  rw [g12]
  refine ⟨fun n3 => p258 0 (fun q => absurd q (by decide)) (fun _ z => ?_) (Or.inl rfl), fun e3 => ?_⟩
  · have : tsk T L (aTake T L 2 s).2.1 = 3 := by have := z.2.1; unfold Alk at al; omega
    exact n3 (by rw [this]; rfl)
  · have e3 : tsk T L (aTake T L 2 s).2.1 = 3 := nI_inj (b := 3) (by unfold Alk at al; omega) (by omega) e3
    have q : tkd T L (aTake T L 2 s).2.1 = 5 ∧ tvN T L (aTake T L 2 s).2.1 = twk T L (aTake T L 2 s).2.1 ∧ 58 ≤ tvN T L (aTake T L 2 s).2.1 ∧ tvN T L (aTake T L 2 s).2.1 ≤ 62 := by unfold Alk at al; omega
    have tw := twk_lt T L (aTake T L 2 s).2.1 (Or.inr (Or.inr e3))
    have d60 : lg_cmp (lN (twk T L (aTake T L 2 s).2.1)) 60 = 0 ↔ twk T L (aTake T L 2 s).2.1 = 60 := cmpE tw (b := 60) (by decide)
    have d61 : lg_cmp (lN (twk T L (aTake T L 2 s).2.1)) 61 = 0 ↔ twk T L (aTake T L 2 s).2.1 = 61 := cmpE tw (b := 61) (by decide)
    have d62 : lg_cmp (lN (twk T L (aTake T L 2 s).2.1)) 62 = 0 ↔ twk T L (aTake T L 2 s).2.1 = 62 := cmpE tw (b := 62) (by decide)
    rw [g17 (Or.inr (Or.inr e3)), d60, d61, d62, ← q.2.1]
    have yes : 60 ≤ tvN T L (aTake T L 2 s).2.1 → w_X10_readsInstruction_p258 o (nI 7) (nI (cap R)) (nI (1082 + 5 * cap R)) 1 I1 J1 S := fun z => p258 1 (fun _ => ⟨g, q.1, z⟩) (fun q => absurd q (by decide)) (Or.inr rfl)
    refine ⟨fun e => yes (by omega), fun n60 => ⟨fun e => yes (by omega), fun n61 => ⟨fun n62 => p258 0 (fun q => absurd q (by decide)) (fun _ z => by have := z.2.2; have := q.2.2.2; omega) (Or.inl rfl), fun e => yes (by omega)⟩⟩⟩
end
