section
variable {p i : Nat} {I : MI} {V : Nat → Int32} {am : Nat → Nat} {op a1 a2 a3 a4 : Nat}
theorem bz : bd (0 : Int32) 8 := ⟨0, by omega, rfl⟩
theorem rowD_of (ho : op < 9) (e0 : I (p + 9 + i) 0 = nI op) (v0 : V (50 + 5 * i) = nI op) (b1 : bd (V (51 + 5 * i)) 8) (b2 : bd (V (52 + 5 * i)) 8) (b3 : op ≠ 7 → bd (V (53 + 5 * i)) 8)
    (h0 : op = 0 → I (p + 9 + i) 1 = V (51 + 5 * i) ∧ I (p + 9 + i) 4 = V (54 + 5 * i) ∧ bd (V (54 + 5 * i)) 1000)
    (h1 : (op = 1 ∨ op = 2 ∨ op = 3) → I (p + 9 + i) 1 = V (51 + 5 * i) ∧ I (p + 9 + i) 2 = V (52 + 5 * i) ∧ I (p + 9 + i) 3 = V (53 + 5 * i))
    (h4 : (op = 4 ∨ op = 5) → I (p + 9 + i) 1 = V (51 + 5 * i) ∧ I (p + 9 + i) 2 = V (52 + 5 * i) ∧ I (p + 9 + i) 4 = V (54 + 5 * i) ∧ bd (V (54 + 5 * i)) 32)
    (h7 : op = 7 → I (p + 9 + i) 2 = V (51 + 5 * i) ∧ I (p + 9 + i) 3 = V (52 + 5 * i) ∧ I (p + 9 + i) 5 = V (53 + 5 * i) ∧ (V (53 + 5 * i) = 60 ∨ V (53 + 5 * i) = 61 ∨ V (53 + 5 * i) = 62))
    (ha : am i ≠ 0 ↔ (op = 6 ∨ op = 7)) : RowD p i I V am := by
  have eq : ∀ z : Nat, z < 9 → (V (50 + 5 * i) = nI z ↔ op = z) := fun z hz => by rw [v0]; exact nI_eq (by omega) (by omega)
  have e0' : V (50 + 5 * i) = 0 ↔ op = 0 := eq 0 (by omega)
  have e1 : V (50 + 5 * i) = 1 ↔ op = 1 := eq 1 (by omega)
  have e2 : V (50 + 5 * i) = 2 ↔ op = 2 := eq 2 (by omega)
  have e3 : V (50 + 5 * i) = 3 ↔ op = 3 := eq 3 (by omega)
  have e4 : V (50 + 5 * i) = 4 ↔ op = 4 := eq 4 (by omega)
  have e5 : V (50 + 5 * i) = 5 ↔ op = 5 := eq 5 (by omega)
  have e6 : V (50 + 5 * i) = 6 ↔ op = 6 := eq 6 (by omega)
  have e7 : V (50 + 5 * i) = 7 ↔ op = 7 := eq 7 (by omega)
  unfold RowD
  rw [e0', e1, e2, e3, e4, e5, e6, e7]
  exact ⟨e0.trans v0.symm, by rw [v0]; exact bd_nI ho, b1, b2, b3, h0, h1, h4, h7, ha⟩
end
section
variable {r n L R : Nat} {T : Nat → Nat} {I : MI} {s : PS} {V : Nat → Int32} {nm am : Nat → Nat}
/-- an instruction: class and model -/
theorem q_instr {P : MI → Prop} (hL : L ≤ 600) (hm : LCm r I T L n s R V nm am) (hp : s.2.1 = false → PIm T L s R V am ∧ R < 150)
    (hP : ∀ I' s' V' am', LCm r I' T L n s' (R + 1) V' nm am' → (s'.2.1 = false → PIm T L s' (R + 1) V' am' ∧ pos T L s.1 + 3 ≤ pos T L s'.1 ∧ s.2.1 = false ∧ s.1 < s'.1) → Kp s s' → RrF r I I' → (s.2.1 = true → s' = aBrk s) →
      (s.2.1 = false → ∀ (o : Nat) (I : MI) (J : MJ) (X Rn : Nat) (S : MI → MJ → Prop), LMm o I J T L n s R V nm Rn am X → (∀ I' J', LMm o I' J' T L n s' (R + 1) V' nm Rn am' X → MdF o I I' → S I' J') → w_X10_readsInstruction o I J S) → P I') : w_X4_readInstruction r I P := by
  obtain ⟨d, hT, hSg, hgd⟩ := hm
  by_cases hq : s.2.1 = false ∧ tkd T L s.1 = 1 ∧ 5 ≤ tvN T L s.1 ∧ tvN T L s.1 ≤ 13
  · obtain ⟨op, eop⟩ : ∃ op, tvN T L s.1 = 5 + op := ⟨tvN T L s.1 - 5, by omega⟩
    have ho : op < 9 := by omega
    have hq' : s.2.1 = false ∧ tkd T L s.1 = 1 ∧ tvN T L s.1 = 5 + op := ⟨hq.1, hq.2.1, eop⟩
    obtain ⟨e5, hRT, hrows, hN, hA⟩ := hgd hq.1
    obtain ⟨⟨p48, p24, pz⟩, hR⟩ := hp hq.1
    have cl := cap_le R
    have ws := d.1.1.2.2.2 hq.1
    obtain ⟨o1, o2⟩ := aOp_1 (T := T) (L := L) (s := s) (R := R)
    have wl := word_len (T := T) (L := L) (s := s) hq.2.1
    rw [eop] at wl
    obtain ⟨ol3, ol2⟩ := op_len op ho
    refine k_instH (op := op) d hT hL ho hR e5 hq' (fun I1 d1 f1 => ?_)
    generalize hc : r + 10 + cap R = c
    have cr : c ≠ r := by omega
    have d17 : CT r (ui I1 c 0 (nI op)) T L n 0 (aOp T L R s) := d1.row cr
    have T17 : Toks (r + 35) (ui I1 c 0 (nI op)) T L n := (hT.rd f1).row (by omega)
    have e17 : ui I1 c 0 (nI op) c 0 = nI op := ui_gs _ _ _ _
    have k17 : ∀ j, j ≠ 0 → ui I1 c 0 (nI op) c j = I c j := fun j hj => by rw [ui_gj _ _ _ hj, f1.1 c cr]
    have o17 : ∀ x, x ≠ r → x ≠ c → ui I1 c 0 (nI op) x = I x := fun x h1 h2 => by rw [ui_ne _ _ _ h2, f1.1 x h1]
    have r17 : ui I1 c 0 (nI op) r 5 = nI R := by rw [ui_ne _ _ _ cr.symm, f1.2 5 (by omega) (by omega) (by omega)]; exact e5
    have sg17 : chr (I c 5) := by have := hSg (cap R) (by omega); rw [show r + 1 + 9 + cap R = c by omega] at this; exact this
    -- the end, whatever the instruction was
    have fin : ∀ (I18 : MI) (s' : PS) (V' : Nat → Int32) (am' : Nat → Nat), CT r I18 T L n 0 s' → RcF r c (ui I1 c 0 (nI op)) I18 → chr (I18 c 5) → Kp (aOp T L R s) s' →
        (s'.2.1 = false → (∀ j, j < 48 → V' j = V j) ∧ V' 48 = nI (cap (R + 1)) ∧ (∀ i, i ≠ cap R → i < 24 → ∀ j, 50 + 5 * i ≤ j → j ≤ 54 + 5 * i → V' j = V j) ∧ (R < 24 → RowD (r + 1) R I18 V' am') ∧ (∀ i, i ≠ R → am' i = am i) ∧ NmC (r + 42) I18 T L n am' ∧ (am' R ≠ 0 → pos T L s.1 < pos T L (am' R - 1)) ∧ pos T L s.1 + 3 ≤ pos T L s'.1 ∧ s.1 < s'.1) →
        (∀ (o : Nat) (I : MI) (J : MJ) (X Rn : Nat) (S : MI → MJ → Prop), LMm o I J T L n s R V nm Rn am X → (∀ I' J', LMm o I' J' T L n s' (R + 1) V' nm Rn am' X → MdF o I I' → S I' J') → w_X10_readsInstruction o I J S) →
        ∀ I19, I19 = ui I18 r 5 (I18 r 5 + 1) → P I19 := fun I18 s' V' am' c18 f18 ch kp hf hmod I19 e19 => by
      subst e19
      have o18 : ∀ x, x ≠ r → x ≠ c → x ≠ r + 42 → ui I18 r 5 (I18 r 5 + 1) x = I x := fun x h1 h2 h3 => by rw [ui_ne _ _ _ h1, f18.1 x h1 h2 h3, o17 x h1 h2]
      refine hP _ s' V' am' ⟨?_, ?_, fun i hi => ?_, fun z => ?_⟩ (fun z => ?_) (aOp_kp.tr kp) (fun x hx => o18 x (by omega) (by omega) (by omega)) (fun b => by rw [hq.1] at b; exact Bool.noConfusion b) (fun _ => hmod)
      · obtain ⟨a1, a2, a3, a4⟩ := c18
        refine ⟨a1, by rw [ui_gj _ _ _ (by omega)]; exact a2, fun z => ?_, fun z => ?_⟩
        · rw [ui_gj _ _ _ (by omega), ui_gj _ _ _ (by omega)]; exact a3 z
        · rw [ui_gj _ _ _ (by omega), ui_gj _ _ _ (by omega)]; exact a4 z
      · exact hT.fr (fun x h1 h2 => o18 x (by omega) (by omega) (by omega))
      · by_cases e : r + 1 + 9 + i = c
        · rw [e, ui_ne _ _ _ cr]; exact ch
        · rw [o18 _ (by omega) e (by omega)]; exact hSg i hi
      · obtain ⟨g1, g2, g3, g4, g5, g6, g7, g8⟩ := hf z
        refine ⟨by rw [ui_gs, f18.2.1 5 (by omega) (by omega) (by omega), r17, nI_1], hRT.fr (fun x h1 h2 => o18 x (by omega) (by omega) (by omega)) (fun k hk => g1 k hk), fun i hi => ?_, ?_, ?_⟩
        · by_cases e : i = cap R
          · have hR24 : R < 24 := by
              rcases Nat.lt_or_ge R 24 with q | q
              · exact q
              · have c1 : cap R = 24 := by unfold cap; rw [if_neg (by omega)]
                have c2 : cap (R + 1) = 24 := by unfold cap; rw [if_neg (by omega)]
                omega
            have cR : cap R = R := by unfold cap; rw [if_pos hR24]
            rw [e, cR]
            exact (g4 hR24).fr (ui_ne _ _ _ (by omega)) (fun _ _ _ => rfl) rfl
          · have hi2 : i < cap R := by
              have := cap_S R
              rw [this] at hi
              split at hi <;> omega
            have hiR : i ≠ R := by
              intro q
              unfold cap at hi2 e
              split at hi2 <;> omega
            exact (hrows i hi2).fr (o18 _ (by omega) (by omega) (by omega)) (fun j h1 h2 => g3 i e (by omega) j h1 h2) (g5 i hiR)
        · intro i
          rw [o18 _ (by omega) (by omega) (by omega)]
          exact hN i
        · intro i
          rw [ui_ne _ _ _ (by omega)]
          exact g6 i
      · obtain ⟨g1, g2, g3, g4, g5, g6, g7, g8, g9⟩ := hf z
        refine ⟨⟨g2, fun i h1 h2 => ?_, fun i hi => ?_⟩, g8, hq.1, g9⟩
        · by_cases e : i = R
          · subst e
            have an : (aOp T L i s).2.2.1 ≠ 0 ∧ (aOp T L i s).2.2.2 ≤ pos T L s.1 := by
              unfold aOp
              rw [if_neg (by omega)]
              unfold aNote aAdv
              by_cases w0 : s.2.2.1 = 0
              · rw [if_pos w0]; exact ⟨by show (4 : Nat) ≠ 0; omega, Nat.le_refl _⟩
              · rw [if_neg w0]; exact ⟨w0, Nat.le_of_lt (ws w0)⟩
            have ek := kp an.1
            rw [ek]
            exact ⟨an.1, fun hn => Nat.lt_of_le_of_lt an.2 (g7 hn)⟩
          · obtain ⟨w0, w1⟩ := p24 i h1 (by omega)
            have ek : s'.2.2 = s.2.2 := (aOp_kp.tr kp) w0
            rw [ek, g5 i e]
            exact ⟨w0, w1⟩
        · rw [g5 i (by omega)]; exact pz i (by omega)
    -- the model behind the op
    have mod : ∀ (s' : PS) (V' : Nat → Int32) (am' : Nat → Nat), (∀ i, i < R → am' i = am i) →
        (∀ (o : Nat) (I : MI) (J : MJ) (W : Nat) (S : MI → MJ → Prop), MB o I J T L n (aOp T L R s) (vOp0 V (cap R) op) → AmM o I J T L W R am → (∀ I' J', MB o I' J' T L n s' V' → (s'.2.1 = false → V' 48 = nI (cap (R + 1)) ∧ ∃ W', AmM o I' J' T L W' (R + 1) am') → MdF o I I' → I' o 23 = I o 23 → I' (o + 7) = I (o + 7) → (∀ j, J' (o + 5) j = J (o + 5) j) → S I' J') → aoP o (nI op) (nI (cap R)) (nI (1082 + 5 * cap R)) I J S) →
        ∀ (o : Nat) (I : MI) (J : MJ) (X Rn : Nat) (S : MI → MJ → Prop), LMm o I J T L n s R V nm Rn am X → (∀ I' J', LMm o I' J' T L n s' (R + 1) V' nm Rn am' X → MdF o I I' → S I' J') → w_X10_readsInstruction o I J S := fun s' V' am' _ hao o I J X Rn S hl hS => by
      obtain ⟨mb, hl⟩ := hl
      obtain ⟨v48, M, W, nmm, hX, amm⟩ := hl hq.1
      refine t_instH (op := op) mb v48 ho hq' (fun I1 J1 m1 f1 j1 => ?_)
      have amm1 : AmM o I1 J1 T L W R am := amm.fr (Nat.le_refl _) (fun _ _ => rfl) (fun i h1 h2 => by omega) (f1.2.2 24 (by omega) (by omega) (by omega)) (f1.1 _ (by omega) (by omega)) (f1.1 _ (by omega) (by omega)) (fun j => j1 _ _ (Or.inl (by omega)))
      refine hao o I1 J1 W S m1 amm1 (fun I2 J2 m2 g2 f2 e23 e7 eJ => hS I2 J2 ⟨m2, fun z => ?_⟩ ((MdF.ms f1).tr f2))
      obtain ⟨z1, W', z2⟩ := g2 z
      exact ⟨z1, M, W', nmm.fr (e23.trans (f1.2.2 23 (by omega) (by omega) (by omega))) (e7.trans (f1.1 _ (by omega) (by omega))) (fun j => (eJ j).trans (j1 _ _ (Or.inl (by omega)))), hX, z2⟩
    -- an instruction that goes nowhere
    have stay : ∀ (o : Nat) (I I' : MI) (J J' : MJ) (W : Nat), AmM o I J T L W R am → MsF o I I' → JF o J J' → ∃ W', AmM o I' J' T L W' (R + 1) am := fun o I I' J J' W h f j => ⟨W, h.fr (by omega) (fun _ _ => rfl) (fun i h1 h2 => pz i h1) (f.2.2 24 (by omega) (by omega) (by omega)) (f.1 _ (by omega) (by omega)) (f.1 _ (by omega) (by omega)) (fun k => j _ _ (Or.inl (by omega)))⟩
    have cR : R < 24 → cap R = R := fun h1 => by unfold cap; rw [if_pos h1]
    have rc : ∀ i : Nat, R < 24 → i = R → r + 1 + 9 + i = c := fun i h1 h2 => by
      have := cR h1
      omega
    have v48' : ∀ op', vOp0 V (cap R) op' 48 = nI (cap R) := fun op' => by
      unfold vOp0
      rw [upd_n _ _ (by omega), upd_n _ _ (by omega), upd_n _ _ (by omega), upd_n _ _ (by omega), upd_n _ _ (by omega)]
      exact p48
    have pn : ∀ {k : Nat}, s.1 + 1 ≤ k → pos T L (s.1 + 1) ≤ pos T L k := fun h => pos_up h
    have hcs : op = 0 ∨ (op = 1 ∨ op = 2 ∨ op = 3) ∨ (op = 4 ∨ op = 5) ∨ op = 6 ∨ op = 7 ∨ op = 8 := by omega
    rcases hcs with e | e | e | e | e | e
    · subst e
      refine k_rest0 d17 T17 hL (by omega) e17 (fun I18 c18 f18 a42 a5 v1 v4 => ?_)
      have l1 := aTake_let (T := T) (L := L) (s := aOp T L R s)
      have l4 := aNum_bd (T := T) (L := L) (s := (aTake T L 2 (aOp T L R s)).2) (lo := 0) (hi := 999) (by omega)
      have up : s.1 + 1 ≤ (aNum T L 0 999 (aTake T L 2 (aOp T L R s)).2).2.1 := by rw [← o1]; exact Nat.le_trans aTake_up aNum_up
      refine fin I18 _ (upd (upd (upd (vOp0 V (cap R) 0) (51 + 5 * cap R) (nI (aTake T L 2 (aOp T L R s)).1)) (54 + 5 * cap R) (nI (aNum T L 0 999 (aTake T L 2 (aOp T L R s)).2).1)) 48 (nI (cap (R + 1)))) am c18 f18 (by rw [a5, k17 5 (by omega)]; exact sg17) (aTake_kp.tr aNum_kp) (fun z => ⟨fun j hj => ?_, upd_s _ _ _, fun i h1 h2 j h3 h4 => ?_, fun h24 => ?_, fun _ _ => rfl, fun i => ?_, fun hn => absurd (pz R (Nat.le_refl _)) hn, ?_, by omega⟩) (mod _ _ am (fun _ _ => rfl) (fun o I J W S m a hS => ?_))
      · unfold vOp0; repeat rw [upd_n _ _ (by omega)]
      · unfold vOp0; repeat rw [upd_n _ _ (by omega)]
      · rw [cR h24]
        refine rowD_of (op := 0) (by omega) (by rw [rc R h24 rfl, f18.2.2]; exact e17) ?_ ?_ ?_ (fun _ => ?_) (fun _ => ?_) (fun q => by omega) (fun q => by omega) (fun q => by omega) (by rw [pz R (Nat.le_refl _)]; exact ⟨fun q => absurd rfl q, fun q => by omega⟩)
        · unfold vOp0; repeat rw [upd_n _ _ (by omega)]
          rw [upd_s]
        · rw [upd_n _ _ (by omega), upd_n _ _ (by omega), upd_s]; exact bd_nI l1
        · unfold vOp0; rw [upd_n _ _ (by omega), upd_n _ _ (by omega), upd_n _ _ (by omega), upd_n _ _ (by omega), upd_n _ _ (by omega), upd_n _ _ (by omega), upd_s]; exact bz
        · unfold vOp0; rw [upd_n _ _ (by omega), upd_n _ _ (by omega), upd_n _ _ (by omega), upd_n _ _ (by omega), upd_n _ _ (by omega), upd_s]; exact bz
        · rw [rc R h24 rfl, v1, v4, upd_n _ _ (by omega), upd_n _ _ (by omega), upd_s, upd_n _ _ (by omega), upd_s]
          exact ⟨rfl, rfl, bd_nI (by omega)⟩
      · rw [a42, o17 _ (by omega) (by omega)]; exact hA i
      · have := pn up; have := ol3 (by omega); omega
      · exact t_ao0 m (fun _ => v48' _) (fun I2 J2 m2 f2 j2 => hS I2 J2 m2 (fun _ => ⟨upd_s _ _ _, stay o I I2 J J2 W a f2 j2⟩) (MdF.ms f2) (f2.2.2 23 (by omega) (by omega) (by omega)) (f2.1 _ (by omega) (by omega)) (fun j => j2 _ _ (Or.inl (by omega))))
    · refine k_rest1 d17 T17 (by omega) e17 e (fun I18 c18 f18 a42 a5 v1 v2 v3 => ?_)
      have l1 := aTake_let (T := T) (L := L) (s := aOp T L R s)
      have l2 := aTake_let (T := T) (L := L) (s := (aTake T L 2 (aOp T L R s)).2)
      have l3 := aTake_let (T := T) (L := L) (s := (aTake T L 2 (aTake T L 2 (aOp T L R s)).2).2)
      have up : s.1 + 1 ≤ (aTake T L 2 (aTake T L 2 (aTake T L 2 (aOp T L R s)).2).2).2.1 := by rw [← o1]; exact Nat.le_trans aTake_up (Nat.le_trans aTake_up aTake_up)
      refine fin I18 _ (upd (upd (upd (upd (vOp0 V (cap R) op) (51 + 5 * cap R) (nI (aTake T L 2 (aOp T L R s)).1)) (52 + 5 * cap R) (nI (aTake T L 2 (aTake T L 2 (aOp T L R s)).2).1)) (53 + 5 * cap R) (nI (aTake T L 2 (aTake T L 2 (aTake T L 2 (aOp T L R s)).2).2).1)) 48 (nI (cap (R + 1)))) am c18 f18 (by rw [a5, k17 5 (by omega)]; exact sg17) (aTake_kp.tr (aTake_kp.tr aTake_kp)) (fun z => ⟨fun j hj => ?_, upd_s _ _ _, fun i h1 h2 j h3 h4 => ?_, fun h24 => ?_, fun _ _ => rfl, fun i => ?_, fun hn => absurd (pz R (Nat.le_refl _)) hn, ?_, by omega⟩) (mod _ _ am (fun _ _ => rfl) (fun o I J W S m a hS => ?_))
      · unfold vOp0; repeat rw [upd_n _ _ (by omega)]
      · unfold vOp0; repeat rw [upd_n _ _ (by omega)]
      · rw [cR h24]
        refine rowD_of (op := op) ho (by rw [rc R h24 rfl, f18.2.2]; exact e17) ?_ ?_ ?_ (fun _ => ?_) (fun q => by omega) (fun _ => ?_) (fun q => by omega) (fun q => by omega) (by rw [pz R (Nat.le_refl _)]; exact ⟨fun q => absurd rfl q, fun q => by omega⟩)
        · unfold vOp0; repeat rw [upd_n _ _ (by omega)]
          rw [upd_s]
        · rw [upd_n _ _ (by omega), upd_n _ _ (by omega), upd_n _ _ (by omega), upd_s]; exact bd_nI l1
        · rw [upd_n _ _ (by omega), upd_n _ _ (by omega), upd_s]; exact bd_nI l2
        · rw [upd_n _ _ (by omega), upd_s]; exact bd_nI l3
        · rw [rc R h24 rfl, v1, v2, v3, upd_n _ _ (by omega), upd_n _ _ (by omega), upd_n _ _ (by omega), upd_s, upd_n _ _ (by omega), upd_n _ _ (by omega), upd_s, upd_n _ _ (by omega), upd_s]
          exact ⟨rfl, rfl, rfl⟩
      · rw [a42, o17 _ (by omega) (by omega)]; exact hA i
      · have := pn up; have := ol3 (by omega); omega
      · exact t_ao1 e m (fun _ => v48' _) (fun I2 J2 m2 f2 j2 => hS I2 J2 m2 (fun _ => ⟨upd_s _ _ _, stay o I I2 J J2 W a f2 j2⟩) (MdF.ms f2) (f2.2.2 23 (by omega) (by omega) (by omega)) (f2.1 _ (by omega) (by omega)) (fun j => j2 _ _ (Or.inl (by omega))))
    · refine k_rest4 d17 T17 hL (by omega) e17 e (fun I18 c18 f18 a42 a5 v1 v2 v4 => ?_)
      have l1 := aTake_let (T := T) (L := L) (s := aOp T L R s)
      have l2 := aTake_let (T := T) (L := L) (s := (aTake T L 2 (aOp T L R s)).2)
      have l4 := aNum_bd (T := T) (L := L) (s := (aTake T L 2 (aTake T L 2 (aOp T L R s)).2).2) (lo := 0) (hi := 31) (by omega)
      have up : s.1 + 1 ≤ (aNum T L 0 31 (aTake T L 2 (aTake T L 2 (aOp T L R s)).2).2).2.1 := by rw [← o1]; exact Nat.le_trans aTake_up (Nat.le_trans aTake_up aNum_up)
      refine fin I18 _ (upd (upd (upd (upd (vOp0 V (cap R) op) (51 + 5 * cap R) (nI (aTake T L 2 (aOp T L R s)).1)) (52 + 5 * cap R) (nI (aTake T L 2 (aTake T L 2 (aOp T L R s)).2).1)) (54 + 5 * cap R) (nI (aNum T L 0 31 (aTake T L 2 (aTake T L 2 (aOp T L R s)).2).2).1)) 48 (nI (cap (R + 1)))) am c18 f18 (by rw [a5, k17 5 (by omega)]; exact sg17) (aTake_kp.tr (aTake_kp.tr aNum_kp)) (fun z => ⟨fun j hj => ?_, upd_s _ _ _, fun i h1 h2 j h3 h4 => ?_, fun h24 => ?_, fun _ _ => rfl, fun i => ?_, fun hn => absurd (pz R (Nat.le_refl _)) hn, ?_, by omega⟩) (mod _ _ am (fun _ _ => rfl) (fun o I J W S m a hS => ?_))
      · unfold vOp0; repeat rw [upd_n _ _ (by omega)]
      · unfold vOp0; repeat rw [upd_n _ _ (by omega)]
      · rw [cR h24]
        refine rowD_of (op := op) ho (by rw [rc R h24 rfl, f18.2.2]; exact e17) ?_ ?_ ?_ (fun _ => ?_) (fun q => by omega) (fun q => by omega) (fun _ => ?_) (fun q => by omega) (by rw [pz R (Nat.le_refl _)]; exact ⟨fun q => absurd rfl q, fun q => by omega⟩)
        · unfold vOp0; repeat rw [upd_n _ _ (by omega)]
          rw [upd_s]
        · rw [upd_n _ _ (by omega), upd_n _ _ (by omega), upd_n _ _ (by omega), upd_s]; exact bd_nI l1
        · rw [upd_n _ _ (by omega), upd_n _ _ (by omega), upd_s]; exact bd_nI l2
        · unfold vOp0; rw [upd_n _ _ (by omega), upd_n _ _ (by omega), upd_n _ _ (by omega), upd_n _ _ (by omega), upd_n _ _ (by omega), upd_n _ _ (by omega), upd_s]; exact bz
        · rw [rc R h24 rfl, v1, v2, v4, upd_n _ _ (by omega), upd_n _ _ (by omega), upd_n _ _ (by omega), upd_s, upd_n _ _ (by omega), upd_n _ _ (by omega), upd_s, upd_n _ _ (by omega), upd_s]
          exact ⟨rfl, rfl, rfl, bd_nI (by omega)⟩
      · rw [a42, o17 _ (by omega) (by omega)]; exact hA i
      · have := pn up; have := ol3 (by omega); omega
      · exact t_ao4 e m (fun _ => v48' _) (fun I2 J2 m2 f2 j2 => hS I2 J2 m2 (fun _ => ⟨upd_s _ _ _, stay o I I2 J J2 W a f2 j2⟩) (MdF.ms f2) (f2.2.2 23 (by omega) (by omega) (by omega)) (f2.1 _ (by omega) (by omega)) (fun j => j2 _ _ (Or.inl (by omega))))
    · subst e
      have gop : (aOp T L R s).2.1 = false := by rw [o2]; exact hq.1
      refine k_rest6 (R := R) d17 T17 (by omega) e17 (fun _ => ⟨r17, hR⟩) (fun I18 c18 f18 a5 a42 => ?_)
      have up : s.1 + 1 ≤ (aNam T L (aOp T L R s)).1 := by rw [← o1]; exact aNam_up
      have tk3 : (aNam T L (aOp T L R s)).2.1 = false → tkd T L (aOp T L R s).1 = 3 := fun z => by
        unfold aNam at z
        split at z
        · rename_i q; exact q.2
        · exact Bool.noConfusion z
      refine fin I18 _ (upd (vOp0 V (cap R) 6) 48 (nI (cap (R + 1)))) (fun i => if i = R then (aOp T L R s).1 + 1 else am i) c18 f18 (by rw [a5, k17 5 (by omega)]; exact sg17) aNam_kp (fun z => ⟨fun j hj => ?_, upd_s _ _ _, fun i h1 h2 j h3 h4 => ?_, fun h24 => ?_, fun i hi => if_neg hi, fun i => ⟨fun hi => ?_, fun hn => ?_⟩, fun hn => ?_, ?_, by omega⟩) (mod _ _ _ (fun i hi => if_neg (by omega)) (fun o I J W S m a hS => ?_))
      · unfold vOp0; repeat rw [upd_n _ _ (by omega)]
      · unfold vOp0; repeat rw [upd_n _ _ (by omega)]
      · rw [cR h24]
        refine rowD_of (op := 6) (by omega) (by rw [rc R h24 rfl, f18.2.2]; exact e17) ?_ ?_ ?_ (fun _ => ?_) (fun q => by omega) (fun q => by omega) (fun q => by omega) (fun q => by omega) ⟨fun _ => Or.inl rfl, fun _ => by show (if R = R then (aOp T L R s).1 + 1 else am R) ≠ 0; rw [if_pos rfl]; omega⟩
        · unfold vOp0; repeat rw [upd_n _ _ (by omega)]
          rw [upd_s]
        · unfold vOp0; rw [upd_n _ _ (by omega), upd_n _ _ (by omega), upd_n _ _ (by omega), upd_n _ _ (by omega), upd_n _ _ (by omega), upd_s]; exact bz
        · unfold vOp0; rw [upd_n _ _ (by omega), upd_n _ _ (by omega), upd_n _ _ (by omega), upd_n _ _ (by omega), upd_s]; exact bz
        · unfold vOp0; rw [upd_n _ _ (by omega), upd_n _ _ (by omega), upd_n _ _ (by omega), upd_s]; exact bz
      · obtain ⟨b1, b2⟩ := a42 z
        show I18 (r + 42) i = if (if i = R then (aOp T L R s).1 + 1 else am i) = 0 then -1 else nI ((if i = R then (aOp T L R s).1 + 1 else am i) - 1)
        by_cases ei : i = R
        · rw [if_pos ei, if_neg (by omega), ei, b1]; rfl
        · rw [if_neg ei, b2 i ei, o17 _ (by omega) (by omega)]; exact (hA i).1 hi
      · have hn : (if i = R then (aOp T L R s).1 + 1 else am i) ≠ 0 := hn
        show (if i = R then (aOp T L R s).1 + 1 else am i) - 1 ≤ n ∧ tkd T L ((if i = R then (aOp T L R s).1 + 1 else am i) - 1) = 3
        by_cases ei : i = R
        · rw [if_pos ei, Nat.add_sub_cancel]
          exact ⟨d17.1.1.1, tk3 z⟩
        · rw [if_neg ei] at hn ⊢; exact (hA i).2 hn
      · show pos T L s.1 < pos T L ((if R = R then (aOp T L R s).1 + 1 else am R) - 1)
        rw [if_pos rfl, Nat.add_sub_cancel, o1]
        omega
      · have := pn up; have := ol3 (by omega); omega
      · refine t_ao6 m (fun _ => v48' _) (fun _ => ⟨a.1, a.2.1⟩) (fun I2 J2 m2 f2 k2 => hS I2 J2 m2 (fun z => ⟨upd_s _ _ _, a.add (k := (aOp T L R s).1) (fun i hi => if_neg hi) (if_pos rfl) (k2 z)⟩) (MdF.mj f2) (f2.2.2.1 23 (by omega) (by omega) (by omega) (by omega)) (f2.1 _ (by omega) (by omega) (by omega) (by omega)) (fun j => f2.2.2.2 _ _ (Or.inl (by omega)) (by omega)))
    · subst e
      refine k_rest7 (R := R) d17 T17 (by omega) e17 (fun _ => ⟨r17, hR⟩) (fun I18 c18 f18 ch a42 v2 v3 v5 => ?_)
      have l1 := aTake_let (T := T) (L := L) (s := aOp T L R s)
      have l2 := aTake_let (T := T) (L := L) (s := aRel T L (aTake T L 2 (aOp T L R s)).2)
      have u3 : (aTake T L 2 (aOp T L R s)).2.1 ≤ (aIf3 T L (aOp T L R s)).1 := Nat.le_trans aRel_up aTake_up
      have up3 : s.1 + 1 ≤ (aIf3 T L (aOp T L R s)).1 := by rw [← o1]; exact Nat.le_trans aTake_up u3
      have up : (aIf3 T L (aOp T L R s)).1 ≤ (aNam T L (aIf3 T L (aOp T L R s))).1 := aNam_up
      have b4 : (aNam T L (aIf3 T L (aOp T L R s))).2.1 = false → (aIf3 T L (aOp T L R s)).2.1 = false := aNam_br
      have b3 : (aIf3 T L (aOp T L R s)).2.1 = false → (aRel T L (aTake T L 2 (aOp T L R s)).2).2.1 = false := aTake_br
      have tk3 : (aNam T L (aIf3 T L (aOp T L R s))).2.1 = false → tkd T L (aIf3 T L (aOp T L R s)).1 = 3 := fun z => by
        unfold aNam at z
        split at z
        · rename_i q; exact q.2
        · exact Bool.noConfusion z
      refine fin I18 _ (upd (upd (upd (upd (vOp0 V (cap R) 7) (51 + 5 * cap R) (nI (aTake T L 2 (aOp T L R s)).1)) (53 + 5 * cap R) (nI (tvN T L (aTake T L 2 (aOp T L R s)).2.1))) (52 + 5 * cap R) (nI (aTake T L 2 (aRel T L (aTake T L 2 (aOp T L R s)).2)).1)) 48 (nI (cap (R + 1)))) (fun i => if i = R then (aIf3 T L (aOp T L R s)).1 + 1 else am i) c18 f18 ch (aTake_kp.tr (aRel_kp.tr (Kp.tr aTake_kp aNam_kp))) (fun z => ⟨fun j hj => ?_, upd_s _ _ _, fun i h1 h2 j h3 h4 => ?_, fun h24 => ?_, fun i hi => if_neg hi, fun i => ⟨fun hi => ?_, fun hn => ?_⟩, fun hn => ?_, ?_, by omega⟩) (mod _ _ _ (fun i hi => if_neg (by omega)) (fun o I J W S m a hS => ?_))
      · unfold vOp0; repeat rw [upd_n _ _ (by omega)]
      · unfold vOp0; repeat rw [upd_n _ _ (by omega)]
      · rw [cR h24]
        obtain ⟨w5, w6, w7⟩ := v5 (b3 (b4 z))
        refine rowD_of (op := 7) (by omega) (by rw [rc R h24 rfl, f18.2.2]; exact e17) ?_ ?_ ?_ (fun q => absurd rfl q) (fun q => by omega) (fun q => by omega) (fun q => by omega) (fun _ => ?_) ⟨fun _ => Or.inr rfl, fun _ => by show (if R = R then (aIf3 T L (aOp T L R s)).1 + 1 else am R) ≠ 0; rw [if_pos rfl]; omega⟩
        · unfold vOp0; repeat rw [upd_n _ _ (by omega)]
          rw [upd_s]
        · rw [upd_n _ _ (by omega), upd_n _ _ (by omega), upd_n _ _ (by omega), upd_s]; exact bd_nI l1
        · rw [upd_n _ _ (by omega), upd_s]; exact bd_nI l2
        · rw [rc R h24 rfl, v2, v3, w5]
          have x1 : upd (upd (upd (upd (vOp0 V R 7) (51 + 5 * R) (nI (aTake T L 2 (aOp T L R s)).1)) (53 + 5 * R) (nI (tvN T L (aTake T L 2 (aOp T L R s)).2.1))) (52 + 5 * R) (nI (aTake T L 2 (aRel T L (aTake T L 2 (aOp T L R s)).2)).1)) 48 (nI (cap (R + 1))) (53 + 5 * R) = nI (tvN T L (aTake T L 2 (aOp T L R s)).2.1) := by rw [upd_n _ _ (by omega), upd_n _ _ (by omega), upd_s]
          refine ⟨by rw [upd_n _ _ (by omega), upd_n _ _ (by omega), upd_n _ _ (by omega), upd_s], by rw [upd_n _ _ (by omega), upd_s], x1.symm, ?_⟩
          rw [x1]
          have hv : tvN T L (aTake T L 2 (aOp T L R s)).2.1 = 60 ∨ tvN T L (aTake T L 2 (aOp T L R s)).2.1 = 61 ∨ tvN T L (aTake T L 2 (aOp T L R s)).2.1 = 62 := by omega
          rcases hv with q | q | q <;> rw [q]
          · exact Or.inl rfl
          · exact Or.inr (Or.inl rfl)
          · exact Or.inr (Or.inr rfl)
      · obtain ⟨q1, q2⟩ := a42 z
        show I18 (r + 42) i = if (if i = R then (aIf3 T L (aOp T L R s)).1 + 1 else am i) = 0 then -1 else nI ((if i = R then (aIf3 T L (aOp T L R s)).1 + 1 else am i) - 1)
        by_cases ei : i = R
        · rw [if_pos ei, if_neg (by omega), ei, q1]; rfl
        · rw [if_neg ei, q2 i ei, o17 _ (by omega) (by omega)]; exact (hA i).1 hi
      · have hn : (if i = R then (aIf3 T L (aOp T L R s)).1 + 1 else am i) ≠ 0 := hn
        show (if i = R then (aIf3 T L (aOp T L R s)).1 + 1 else am i) - 1 ≤ n ∧ tkd T L ((if i = R then (aIf3 T L (aOp T L R s)).1 + 1 else am i) - 1) = 3
        by_cases ei : i = R
        · rw [if_pos ei, Nat.add_sub_cancel]
          have := tk_lt hT.2.2.1 (k := (aNam T L (aIf3 T L (aOp T L R s))).1) (kd := 9)
          refine ⟨?_, tk3 z⟩
          have := c18.1.1.1
          omega
        · rw [if_neg ei] at hn ⊢; exact (hA i).2 hn
      · show pos T L s.1 < pos T L ((if R = R then (aIf3 T L (aOp T L R s)).1 + 1 else am R) - 1)
        rw [if_pos rfl, Nat.add_sub_cancel]
        have := pn up3
        omega
      · have t1 := aTake_on (T := T) (L := L) (s := aOp T L R s) (kd := 2) (by omega) (aRel_br (b3 (b4 z)))
        rw [o1] at t1
        have t2 := pos_up (T := T) (L := L) (Nat.le_trans u3 up)
        rw [t1.1] at t2
        omega
      · refine t_ao7 m (fun _ => v48' _) (fun _ => ⟨a.1, a.2.1⟩) (fun I2 J2 m2 f2 k2 => hS I2 J2 m2 (fun z => ⟨upd_s _ _ _, a.add (k := (aIf3 T L (aOp T L R s)).1) (fun i hi => if_neg hi) (if_pos rfl) (k2 z)⟩) (MdF.mj f2) (f2.2.2.1 23 (by omega) (by omega) (by omega) (by omega)) (f2.1 _ (by omega) (by omega) (by omega) (by omega)) (fun j => f2.2.2.2 _ _ (Or.inl (by omega)) (by omega)))
    · subst e
      refine k_rest8 e17 ?_
      refine fin _ _ (upd (vOp0 V (cap R) 8) 48 (nI (cap (R + 1)))) am d17 ⟨fun _ _ _ _ => rfl, fun _ _ _ _ => rfl, rfl⟩ (by rw [k17 5 (by omega)]; exact sg17) Kp.rf (fun z => ⟨fun j hj => ?_, upd_s _ _ _, fun i h1 h2 j h3 h4 => ?_, fun h24 => ?_, fun _ _ => rfl, fun i => ?_, fun hn => absurd (pz R (Nat.le_refl _)) hn, ?_, by omega⟩) (mod _ _ am (fun _ _ => rfl) (fun o I J W S m a hS => ?_))
      · unfold vOp0; repeat rw [upd_n _ _ (by omega)]
      · unfold vOp0; repeat rw [upd_n _ _ (by omega)]
      · rw [cR h24]
        refine rowD_of (op := 8) (by omega) (by rw [rc R h24 rfl]; exact e17) ?_ ?_ ?_ (fun _ => ?_) (fun q => by omega) (fun q => by omega) (fun q => by omega) (fun q => by omega) (by rw [pz R (Nat.le_refl _)]; exact ⟨fun q => absurd rfl q, fun q => by omega⟩)
        · unfold vOp0; repeat rw [upd_n _ _ (by omega)]
          rw [upd_s]
        · unfold vOp0; rw [upd_n _ _ (by omega), upd_n _ _ (by omega), upd_n _ _ (by omega), upd_n _ _ (by omega), upd_n _ _ (by omega), upd_s]; exact bz
        · unfold vOp0; rw [upd_n _ _ (by omega), upd_n _ _ (by omega), upd_n _ _ (by omega), upd_n _ _ (by omega), upd_s]; exact bz
        · unfold vOp0; rw [upd_n _ _ (by omega), upd_n _ _ (by omega), upd_n _ _ (by omega), upd_s]; exact bz
      · rw [o17 _ (by omega) (by omega)]; exact hA i
      · rw [o1]; have := ol3 (by omega); omega
      · exact t_ao8 m (fun _ => v48' _) (fun I2 m2 f2 => hS I2 J m2 (fun _ => ⟨upd_s _ _ _, stay o I I2 J J W a f2 JF.rf⟩) (MdF.ms f2) (f2.2.2 23 (by omega) (by omega) (by omega)) (f2.1 _ (by omega) (by omega)) (fun _ => rfl))
  · refine k_instN d hT hq (fun I' d' f' => hP I' (aBrk s) V am ⟨d', hT.rd f', fun i hi => by rw [f'.1 _ (by omega)]; exact hSg i hi, fun z => Bool.noConfusion z⟩ (fun z => Bool.noConfusion z) (fun _ => rfl) (fun c hc => f'.1 c (by omega)) (fun _ => rfl) (fun g o I J X Rn S hl hS => ?_))
    unfold w_X10_readsInstruction
    refine t_opHere hl.1.1 (fun op ho q => absurd ⟨q.1, q.2.1, by omega, by omega⟩ hq) (fun _ => ⟨fun c => absurd c (by decide), fun _ => ?_⟩)
    exact t_fails hl.1.1 (fun I1 c1 f1 => hS I1 J ⟨⟨c1, fun z => Bool.noConfusion z⟩, fun z => Bool.noConfusion z⟩ (MdF.ms (MsF.mt f1)))
end
