/-! the class reads the rest of an instruction -/
section
variable {r c n L R op : Nat} {T : Nat → Nat} {I : MI} {s : PS}
/-- but for the reader's own numbers, one row of the draft and the aims nothing is changed -/
def RcF (r c : Nat) (I I' : MI) : Prop := (∀ d, d ≠ r → d ≠ c → d ≠ r + 42 → I' d = I d) ∧ (∀ j, j ≠ 1 → j ≠ 2 → j ≠ 4 → I' r j = I r j) ∧ I' c 0 = I c 0
theorem RcF.rd {I' : MI} (h : RdF r I I') (hc : c ≠ r) : RcF r c I I' := ⟨fun d h1 _ _ => h.1 d h1, h.2, by rw [h.1 c hc]⟩
theorem RcF.row {k : Nat} {x : Int32} (hc : c ≠ r) (hk : k ≠ 0) : RcF r c I (ui I c k x) := ⟨fun d _ h2 _ => ui_ne _ _ _ h2, fun j _ _ _ => by rw [ui_ne _ _ _ hc.symm], ui_gj _ _ _ (by omega)⟩
theorem RcF.tr {I' I'' : MI} (h : RcF r c I I') (h' : RcF r c I' I'') : RcF r c I I'' := ⟨fun d a b e => (h'.1 d a b e).trans (h.1 d a b e), fun j a b e => (h'.2.1 j a b e).trans (h.2.1 j a b e), h'.2.2.trans h.2.2⟩
theorem Toks.rc {I' : MI} (h : Toks (r + 35) I T L n) (hF : RcF r c I I') (hc : c < r + 35) : Toks (r + 35) I' T L n := h.fr (fun d h1 h2 => hF.1 d (by omega) (by omega) (by omega))
theorem CT.row {h k : Nat} {x : Int32} (d : CT r I T L n h s) (hc : c ≠ r) : CT r (ui I c k x) T L n h s := d.fr (ui_ne _ _ _ hc.symm)
theorem Toks.row {k : Nat} {x : Int32} (h : Toks (r + 35) I T L n) (hc : c < r + 35) : Toks (r + 35) (ui I c k x) T L n := h.fr (fun d h1 h2 => ui_ne _ _ _ (by omega))
theorem k_rest0 {P : MI → Prop} (d : CT r I T L n 0 s) (hT : Toks (r + 35) I T L n) (hL : L ≤ 600) (hc : r < c ∧ c < r + 35) (e0 : I c 0 = 0)
    (hP : ∀ I', CT r I' T L n 0 (aNum T L 0 999 (aTake T L 2 s).2).2 → RcF r c I I' → I' (r + 42) = I (r + 42) → I' c 5 = I c 5 → I' c 1 = nI (aTake T L 2 s).1 → I' c 4 = nI (aNum T L 0 999 (aTake T L 2 s).2).1 → P I') : w_X4_readRest r c I P := by
  have cr : c ≠ r := by omega
  unfold w_X4_readRest
  rw [e0]
  refine ⟨fun _ => ?_, fun q => absurd q (by decide), fun q => absurd q (by decide), fun q => absurd q (by decide), fun q => absurd q (by decide), fun q => absurd rfl q⟩
  refine k_takes (kd := 2) d hT (by omega) (fun I1 d1 f1 => ?_)
  rintro _ rfl
  refine k_takeNumber (lo := 0) (hi := 999) (d1.row cr) rfl ((hT.rd f1).row hc.2) hL (by omega) (by omega) (fun I2 d2 f2 => ?_)
  rintro _ rfl
  refine hP _ (d2.row cr) ((((RcF.rd f1 cr).tr (RcF.row cr (by omega))).tr (RcF.rd f2 cr)).tr (RcF.row cr (by omega))) ?_ ?_ ?_ (ui_gs _ _ _ _)
  · rw [ui_ne _ _ _ (by omega), f2.1 _ (by omega), ui_ne _ _ _ (by omega), f1.1 _ (by omega)]
  · rw [ui_gj _ _ _ (by omega), f2.1 _ cr, ui_gj _ _ _ (by omega), f1.1 _ cr]
  · rw [ui_gj _ _ _ (by omega), f2.1 _ cr, ui_gs]
theorem k_rest1 {P : MI → Prop} (d : CT r I T L n 0 s) (hT : Toks (r + 35) I T L n) (hc : r < c ∧ c < r + 35) (e0 : I c 0 = nI op) (ho : op = 1 ∨ op = 2 ∨ op = 3)
    (hP : ∀ I', CT r I' T L n 0 (aTake T L 2 (aTake T L 2 (aTake T L 2 s).2).2).2 → RcF r c I I' → I' (r + 42) = I (r + 42) → I' c 5 = I c 5 → I' c 1 = nI (aTake T L 2 s).1 → I' c 2 = nI (aTake T L 2 (aTake T L 2 s).2).1 → I' c 3 = nI (aTake T L 2 (aTake T L 2 (aTake T L 2 s).2).2).1 → P I') : w_X4_readRest r c I P := by
  have cr : c ≠ r := by omega
  have ne : ∀ z : Nat, z < 9 → z ≠ op → ¬ nI op = nI z := fun z hz hne q => hne (nI_inj (by omega) (by omega) q).symm
  have main : w_X4_take r 2 I (fun r7 I8 => (∀ I9, I9 = ui I8 c 1 r7 → (w_X4_take r 2 I9 (fun r10 I11 => (∀ I12, I12 = ui I11 c 2 r10 → (w_X4_take r 2 I12 (fun r13 I14 => (∀ I15, I15 = ui I14 c 3 r13 → P I15)))))))) := by
    refine k_takes (kd := 2) d hT (by omega) (fun I1 d1 f1 => ?_)
    rintro _ rfl
    refine k_takes (kd := 2) (d1.row cr) ((hT.rd f1).row hc.2) (by omega) (fun I2 d2 f2 => ?_)
    rintro _ rfl
    have t2 := (((hT.rd f1).row (k := 1) (x := nI (aTake T L 2 s).1) hc.2).rd f2)
    refine k_takes (kd := 2) (d2.row cr) (t2.row hc.2) (by omega) (fun I3 d3 f3 => ?_)
    rintro _ rfl
    refine hP _ (d3.row cr) ((((((RcF.rd f1 cr).tr (RcF.row cr (by omega))).tr (RcF.rd f2 cr)).tr (RcF.row cr (by omega))).tr (RcF.rd f3 cr)).tr (RcF.row cr (by omega))) ?_ ?_ ?_ ?_ (ui_gs _ _ _ _)
    · rw [ui_ne _ _ _ (by omega), f3.1 _ (by omega), ui_ne _ _ _ (by omega), f2.1 _ (by omega), ui_ne _ _ _ (by omega), f1.1 _ (by omega)]
    · rw [ui_gj _ _ _ (by omega), f3.1 _ cr, ui_gj _ _ _ (by omega), f2.1 _ cr, ui_gj _ _ _ (by omega), f1.1 _ cr]
    · rw [ui_gj _ _ _ (by omega), f3.1 _ cr, ui_gj _ _ _ (by omega), f2.1 _ cr, ui_gs]
    · rw [ui_gj _ _ _ (by omega), f3.1 _ cr, ui_gs]
  unfold w_X4_readRest
  rw [e0]
  refine ⟨fun q => absurd q (ne 0 (by omega) (by omega)), fun _ => main, fun q => ?_, fun q => absurd q (ne 6 (by omega) (by omega)), fun q => absurd q (ne 7 (by omega) (by omega)), fun _ n1 n2 n3 => ?_⟩
  · exact q.elim (fun q => absurd q (ne 4 (by omega) (by omega))) (fun q => absurd q (ne 5 (by omega) (by omega)))
  · rcases ho with rfl | rfl | rfl
    · exact absurd rfl n1
    · exact absurd rfl n2
    · exact absurd rfl n3
theorem k_rest4 {P : MI → Prop} (d : CT r I T L n 0 s) (hT : Toks (r + 35) I T L n) (hL : L ≤ 600) (hc : r < c ∧ c < r + 35) (e0 : I c 0 = nI op) (ho : op = 4 ∨ op = 5)
    (hP : ∀ I', CT r I' T L n 0 (aNum T L 0 31 (aTake T L 2 (aTake T L 2 s).2).2).2 → RcF r c I I' → I' (r + 42) = I (r + 42) → I' c 5 = I c 5 → I' c 1 = nI (aTake T L 2 s).1 → I' c 2 = nI (aTake T L 2 (aTake T L 2 s).2).1 → I' c 4 = nI (aNum T L 0 31 (aTake T L 2 (aTake T L 2 s).2).2).1 → P I') : w_X4_readRest r c I P := by
  have cr : c ≠ r := by omega
  have ne : ∀ z : Nat, z < 9 → z ≠ op → ¬ nI op = nI z := fun z hz hne q => hne (nI_inj (by omega) (by omega) q).symm
  have main : w_X4_take r 2 I (fun r7 I8 => (∀ I9, I9 = ui I8 c 1 r7 → (w_X4_take r 2 I9 (fun r10 I11 => (∀ I12, I12 = ui I11 c 2 r10 → (w_X4_takeNumber r 0 31 I12 (fun r13 I14 => (∀ I15, I15 = ui I14 c 4 r13 → P I15)))))))) := by
    refine k_takes (kd := 2) d hT (by omega) (fun I1 d1 f1 => ?_)
    rintro _ rfl
    refine k_takes (kd := 2) (d1.row cr) ((hT.rd f1).row hc.2) (by omega) (fun I2 d2 f2 => ?_)
    rintro _ rfl
    have t2 := (((hT.rd f1).row (k := 1) (x := nI (aTake T L 2 s).1) hc.2).rd f2)
    refine k_takeNumber (lo := 0) (hi := 31) (d2.row cr) rfl (t2.row hc.2) hL (by omega) (by omega) (fun I3 d3 f3 => ?_)
    rintro _ rfl
    refine hP _ (d3.row cr) ((((((RcF.rd f1 cr).tr (RcF.row cr (by omega))).tr (RcF.rd f2 cr)).tr (RcF.row cr (by omega))).tr (RcF.rd f3 cr)).tr (RcF.row cr (by omega))) ?_ ?_ ?_ ?_ (ui_gs _ _ _ _)
    · rw [ui_ne _ _ _ (by omega), f3.1 _ (by omega), ui_ne _ _ _ (by omega), f2.1 _ (by omega), ui_ne _ _ _ (by omega), f1.1 _ (by omega)]
    · rw [ui_gj _ _ _ (by omega), f3.1 _ cr, ui_gj _ _ _ (by omega), f2.1 _ cr, ui_gj _ _ _ (by omega), f1.1 _ cr]
    · rw [ui_gj _ _ _ (by omega), f3.1 _ cr, ui_gj _ _ _ (by omega), f2.1 _ cr, ui_gs]
    · rw [ui_gj _ _ _ (by omega), f3.1 _ cr, ui_gs]
  unfold w_X4_readRest
  rw [e0]
  refine ⟨fun q => absurd q (ne 0 (by omega) (by omega)), fun q => ?_, fun _ => main, fun q => absurd q (ne 6 (by omega) (by omega)), fun q => absurd q (ne 7 (by omega) (by omega)), fun _ _ _ _ n4 n5 => ?_⟩
  · exact q.elim (fun q => absurd q (ne 1 (by omega) (by omega))) (fun q => q.elim (fun q => absurd q (ne 2 (by omega) (by omega))) (fun q => absurd q (ne 3 (by omega) (by omega))))
  · rcases ho with rfl | rfl
    · exact absurd rfl n4
    · exact absurd rfl n5
theorem k_rest8 {P : MI → Prop} (e0 : I c 0 = 8) (hP : P I) : w_X4_readRest r c I P := by
  unfold w_X4_readRest
  rw [e0]
  exact ⟨fun q => absurd q (by decide), fun q => absurd q (by decide), fun q => absurd q (by decide), fun q => absurd q (by decide), fun q => absurd q (by decide), fun _ _ _ _ _ _ _ _ => hP⟩
/-- where it goes to is a name: the token -/
theorem k_takeAim {P : MI → Prop} (d : CT r I T L n 0 s) (hT : Toks (r + 35) I T L n) (e5 : s.2.1 = false → I r 5 = nI R ∧ R < 150)
    (hP : ∀ I', CT r I' T L n 0 (aNam T L s) → (∀ c, c ≠ r → c ≠ r + 42 → I' c = I c) → (∀ j, j ≠ 1 → j ≠ 2 → j ≠ 4 → I' r j = I r j) → ((aNam T L s).2.1 = false → I' (r + 42) R = nI s.1 ∧ ∀ j, j ≠ R → I' (r + 42) j = I (r + 42) j) → P I') : w_X4_takeAim r I P := by
  unfold w_X4_takeAim
  refine k_isNext (kd := 3) d hT (by omega) (fun q => ⟨fun c => absurd c (by decide), fun _ => ?_⟩) (fun q => ⟨fun _ => k_takeName d hT (fun v I1 d1 f1 => hP I1 d1 (fun c h1 _ => f1.1 c h1) f1.2 (fun z => ?_)), fun c => absurd rfl c⟩)
  · obtain ⟨e5, hR⟩ := e5 q.1
    rw [e5, d.2.1, ixn (by omega)]
    refine ⟨fun c => absurd ((nI_leI (a := 150) (by omega) (by omega)).mp c) (by omega), fun _ => ⟨inn (by omega) (by omega), ?_⟩⟩
    rintro _ rfl
    refine k_takeName (d.fr (ui_ne _ _ _ (by omega))) (hT.fr (fun c h1 h2 => ui_ne _ _ _ (by omega))) (fun v I1 d1 f1 => hP I1 d1 (fun c h1 h2 => by rw [f1.1 c h1, ui_ne _ _ _ h2]) (fun j a b e => by rw [f1.2 j a b e, ui_ne _ _ _ (by omega)]) (fun _ => ⟨by rw [f1.1 _ (by omega), ui_gs], fun j hj => by rw [f1.1 _ (by omega), ui_gj _ _ _ hj]⟩))
  · have e : aNam T L s = aBrk s := by unfold aNam; exact if_neg q
    rw [e] at z; exact Bool.noConfusion z
theorem k_rest6 {P : MI → Prop} (d : CT r I T L n 0 s) (hT : Toks (r + 35) I T L n) (hc : r < c ∧ c < r + 35) (e0 : I c 0 = 6) (e5 : s.2.1 = false → I r 5 = nI R ∧ R < 150)
    (hP : ∀ I', CT r I' T L n 0 (aNam T L s) → RcF r c I I' → I' c 5 = I c 5 → ((aNam T L s).2.1 = false → I' (r + 42) R = nI s.1 ∧ ∀ j, j ≠ R → I' (r + 42) j = I (r + 42) j) → P I') : w_X4_readRest r c I P := by
  unfold w_X4_readRest
  rw [e0]
  refine ⟨fun q => absurd q (by decide), fun q => absurd q (by decide), fun q => absurd q (by decide), fun _ => ?_, fun q => absurd q (by decide), fun _ _ _ _ _ _ q => absurd rfl q⟩
  exact k_takeAim d hT e5 (fun I1 d1 f1 g1 a1 => hP I1 d1 ⟨fun x h1 _ h3 => f1 x h1 h3, g1, by rw [f1 c (by omega) (by omega)]⟩ (by rw [f1 c (by omega) (by omega)]) a1)
/-- letter, sign, letter, name -/
def aIf3 (T : Nat → Nat) (L : Nat) (s : PS) : PS := (aTake T L 2 (aRel T L (aTake T L 2 s).2)).2
theorem aRel_br (h : (aRel T L s).2.1 = false) : s.2.1 = false := by
  unfold aRel at h
  split at h
  · rename_i q; exact q.1
  · exact Bool.noConfusion h
theorem aNam_br (h : (aNam T L s).2.1 = false) : s.2.1 = false := by
  unfold aNam at h
  split at h
  · rename_i q; exact q.1
  · exact Bool.noConfusion h
theorem k_rest7 {P : MI → Prop} (d : CT r I T L n 0 s) (hT : Toks (r + 35) I T L n) (hc : r < c ∧ c < r + 35) (e0 : I c 0 = 7) (e5 : s.2.1 = false → I r 5 = nI R ∧ R < 150)
    (hP : ∀ I', CT r I' T L n 0 (aNam T L (aIf3 T L s)) → RcF r c I I' → chr (I' c 5) → ((aNam T L (aIf3 T L s)).2.1 = false → I' (r + 42) R = nI (aIf3 T L s).1 ∧ ∀ j, j ≠ R → I' (r + 42) j = I (r + 42) j) →
      I' c 2 = nI (aTake T L 2 s).1 → I' c 3 = nI (aTake T L 2 (aRel T L (aTake T L 2 s).2)).1 → ((aRel T L (aTake T L 2 s).2).2.1 = false → I' c 5 = nI (tvN T L (aTake T L 2 s).2.1) ∧ 60 ≤ tvN T L (aTake T L 2 s).2.1 ∧ tvN T L (aTake T L 2 s).2.1 ≤ 62) → P I') : w_X4_readRest r c I P := by
  have cr : c ≠ r := by omega
  unfold w_X4_readRest
  rw [e0]
  refine ⟨fun q => absurd q (by decide), fun q => absurd q (by decide), fun q => absurd q (by decide), fun q => absurd q (by decide), fun _ => ?_, fun _ _ _ _ _ _ _ q => absurd rfl q⟩
  refine k_takes (kd := 2) d hT (by omega) (fun I1 d1 f1 => ?_)
  rintro _ rfl
  have t1 := (hT.rd f1).row (k := 2) (x := nI (aTake T L 2 s).1) hc.2
  refine k_takeRelation (d1.row cr) t1 (fun v I2 d2 f2 hv hr => ⟨hv, ?_⟩)
  rintro _ rfl
  have t2 := (t1.rd f2).row (k := 5) (x := v) hc.2
  refine k_takes (kd := 2) (d2.row cr) t2 (by omega) (fun I3 d3 f3 => ?_)
  rintro _ rfl
  have t3 := (t2.rd f3).row (k := 3) (x := nI (aTake T L 2 (aRel T L (aTake T L 2 s).2)).1) hc.2
  have F : RcF r c I (ui I3 c 3 (nI (aTake T L 2 (aRel T L (aTake T L 2 s).2)).1)) := (((((RcF.rd f1 cr).tr (RcF.row cr (by omega))).tr (RcF.rd f2 cr)).tr (RcF.row cr (by omega))).tr (RcF.rd f3 cr)).tr (RcF.row cr (by omega))
  have e42 : ui I3 c 3 (nI (aTake T L 2 (aRel T L (aTake T L 2 s).2)).1) (r + 42) = I (r + 42) := by rw [ui_ne _ _ _ (by omega), f3.1 _ (by omega), ui_ne _ _ _ (by omega), f2.1 _ (by omega), ui_ne _ _ _ (by omega), f1.1 _ (by omega)]
  refine k_takeAim (R := R) (d3.row cr) t3 (fun z => ?_) (fun I4 d4 f4 g4 a4 => ?_)
  · have zb : s.2.1 = false := aTake_br (aRel_br (aTake_br z))
    obtain ⟨z1, z2⟩ := e5 zb
    exact ⟨by rw [F.2.1 5 (by omega) (by omega) (by omega)]; exact z1, z2⟩
  · have e4 : I4 c = ui I3 c 3 (nI (aTake T L 2 (aRel T L (aTake T L 2 s).2)).1) c := f4 c cr (by omega)
    have c5 : I4 c 5 = v := by rw [e4, ui_gj _ _ _ (by omega), f3.1 _ cr, ui_gs]
    refine hP I4 d4 (F.tr ⟨fun x h1 _ h3 => f4 x h1 h3, g4, by rw [e4]⟩) (by rw [c5]; exact hv) (fun z => ⟨(a4 z).1, fun j hj => by rw [(a4 z).2 j hj, e42]⟩) ?_ ?_ (fun z => ?_)
    · rw [e4, ui_gj _ _ _ (by omega), f3.1 _ cr, ui_gj _ _ _ (by omega), f2.1 _ cr, ui_gs]
    · rw [e4, ui_gs]
    · rw [c5]; exact hr z
end
