/-! the whole text is read -/
def vClr : Nat → Int32 := fun j => if j = 0 then 3 else if 1 ≤ j ∧ j ≤ 6 then 4 else 0
section
variable {o b : Nat} {J : MI}
theorem t_clears {P : MI → Prop} (hb : b ≤ 1032) (hP : P (kb J (o + 1) b vClr)) : w_X10_clears o (nI b) J P := by
  unfold w_X10_clears
  refine Lp2.of (fun z I' => ∃ k, k ≤ 516 ∧ z = nI k ∧ (∀ c, c ≠ o + 1 → I' c = J c) ∧ (∀ j, (j < b ∨ b + k ≤ j) → I' (o + 1) j = J (o + 1) j) ∧ ∀ j, j < k → I' (o + 1) (b + j) = 0) (fun z _ => 600 - ix z) ?_ _ _ ⟨0, by omega, rfl, fun _ _ => rfl, fun _ _ => rfl, fun j hj => by omega⟩
  rintro rec z I' ⟨k, hk, rfl, b1, b2, b3⟩ hrec
  unfold w_X10_clears_l2
  refine ⟨fun c => ?_, fun c => ?_⟩
  · have := (nI_leI (a := 516) (by omega) (by omega)).mp c
    have e : k = 516 := by omega
    subst e
    rw [show nI b + 0 = nI b from nI_add b 0, ixn (n := b) (by omega)]
    refine ⟨inn (by omega) (by omega), ?_⟩
    rintro _ rfl
    refine Lp2.of (fun z I2 => ∃ k, k ≤ 6 ∧ z = nI k ∧ (∀ c, c ≠ o + 1 → I2 c = J c) ∧ (∀ j, (j < b ∨ b + 516 ≤ j) → I2 (o + 1) j = J (o + 1) j) ∧ I2 (o + 1) b = 3 ∧ (∀ j, 1 ≤ j → j ≤ k → I2 (o + 1) (b + j) = 4) ∧ (∀ j, k < j → j < 516 → I2 (o + 1) (b + j) = 0)) (fun z _ => 10 - ix z) ?_ _ _ ⟨0, by omega, rfl, fun c hc => by rw [ui_ne _ _ _ hc]; exact b1 c hc, fun j hj => by rw [ui_gj _ _ _ (by omega)]; exact b2 j (by omega), ui_gs _ _ _ _, fun j h1 h2 => by omega, fun j h1 h2 => by rw [ui_gj _ _ _ (by omega)]; exact b3 j h2⟩
    rintro rec2 z I2 ⟨k, hk, rfl, c1, c2, c3, c4, c5⟩ hrec2
    unfold w_X10_clears_l35
    refine ⟨fun c => ?_, fun c => ?_⟩
    · have := (nI_leI (a := 6) (by omega) (by omega)).mp c
      have e : k = 6 := by omega
      subst e
      have : I2 = kb J (o + 1) b vClr := by
        funext c j
        by_cases ec : c = o + 1
        · subst ec
          by_cases q : b ≤ j ∧ j < b + 516
          · have q2 := kb_at J (o + 1) b vClr (k := j - b) (by omega)
            rw [show b + (j - b) = j by omega] at q2
            rw [q2]
            unfold vClr
            by_cases q0 : j - b = 0
            · rw [if_pos q0, show j = b by omega]; exact c3
            · rw [if_neg q0]
              by_cases q6 : 1 ≤ j - b ∧ j - b ≤ 6
              · rw [if_pos q6]
                have := c4 (j - b) q6.1 q6.2
                rw [show b + (j - b) = j by omega] at this; exact this
              · rw [if_neg q6]
                have := c5 (j - b) (by omega) (by omega)
                rw [show b + (j - b) = j by omega] at this; exact this
          · rw [c2 j (by omega), kb_out _ _ _ _ (by omega)]
        · rw [c1 c ec, kb_ne _ _ ec]
      rw [this]; exact hP
    · have lt : k < 6 := Nat.not_le.mp fun q => c (nI_le (a := 6) q (by omega))
      rw [show nI b + 1 = nI (b + 1) from nI_1 b, nI_add, ixn (n := b + 1 + k) (by omega)]
      refine ⟨inn (by omega) (by omega), ?_⟩
      rintro _ rfl
      refine hrec2 _ _ ⟨k + 1, by omega, nI_1 k, fun c hc => by rw [ui_ne _ _ _ hc]; exact c1 c hc, fun j hj => by rw [ui_gj _ _ _ (by omega)]; exact c2 j hj, by rw [ui_gj _ _ _ (by omega)]; exact c3, fun j h1 h2 => ?_, fun j h1 h2 => by rw [ui_gj _ _ _ (by omega)]; exact c5 j (by omega) h2⟩ (by rw [nI_1, ixn (by omega), ixn (by omega)]; omega)
      by_cases e : j = k + 1
      · subst e; rw [show b + (k + 1) = b + 1 + k by omega, ui_gs]
      · rw [ui_gj _ _ _ (by omega)]; exact c4 j h1 (by omega)
  · have lt : k < 516 := Nat.not_le.mp fun q => c (nI_le (a := 516) q (by omega))
    rw [nI_add, ixn (n := b + k) (by omega)]
    refine ⟨inn (by omega) (by omega), ?_⟩
    rintro _ rfl
    refine hrec _ _ ⟨k + 1, by omega, nI_1 k, fun c hc => by rw [ui_ne _ _ _ hc]; exact b1 c hc, fun j hj => by rw [ui_gj _ _ _ (by omega)]; exact b2 j (by omega), fun j hj => ?_⟩ (by rw [nI_1, ixn (by omega), ixn (by omega)]; omega)
    by_cases e : j = k
    · subst e; rw [ui_gs]
    · rw [ui_gj _ _ _ (by omega)]; exact b3 j (by omega)
end
section
variable {r n L R tp : Nat} {T : Nat → Nat} {I : MI} {B : MR} {nm am : Nat → Nat} {V : Nat → Int32} {s : PS}
theorem frow_of {v : Nat} : ∀ R, (¬ NoRow T L R nm v) → ∃ i, FRow T L R nm v i := by
  intro R
  induction R with
  | zero => intro h; exact absurd (fun i hi => by omega) h
  | succ R ih =>
    intro h
    by_cases c : NoRow T L R nm v
    · by_cases d : nm R ≠ 0 ∧ twk T L (nm R - 1) = v
      · exact ⟨R, by omega, d.1, d.2, fun j hj q => c j hj q.1 q.2⟩
      · refine absurd (fun i hi hn e => ?_) h
        by_cases ei : i = R
        · subst ei; exact d ⟨hn, e⟩
        · exact c i (by omega) hn e
    · obtain ⟨i, a1, a2⟩ := ih c
      exact ⟨i, by omega, a2⟩
/-- the draft's jumps, once they are known -/
def vAim (V : Nat → Int32) (I : MI) (r R : Nat) (am : Nat → Nat) : Nat → Int32 := fun k => if 54 ≤ k ∧ (k - 54) % 5 = 0 ∧ (k - 54) / 5 < 24 ∧ (k - 54) / 5 < R ∧ am ((k - 54) / 5) ≠ 0 then I (r + 10 + (k - 54) / 5) 4 else V k
theorem vAim_o {I' : MI} {k : Nat} (h : ∀ i, i < 24 → k ≠ 54 + 5 * i) : vAim V I' r R am k = V k := by
  unfold vAim
  rw [if_neg (fun q => h ((k - 54) / 5) q.2.2.1 (by omega))]
theorem vAim_n {I' : MI} {i : Nat} (h : am i = 0 ∨ R ≤ i) : vAim V I' r R am (54 + 5 * i) = V (54 + 5 * i) := by
  unfold vAim
  have e : (54 + 5 * i - 54) / 5 = i := by omega
  rw [e, if_neg (fun q => h.elim (fun z => q.2.2.2.2 z) (fun z => by omega))]
theorem vAim_a {I' : MI} {i : Nat} (h1 : i < 24) (h2 : i < R) (h3 : am i ≠ 0) : vAim V I' r R am (54 + 5 * i) = I' (r + 10 + i) 4 := by
  unfold vAim
  have e : (54 + 5 * i - 54) / 5 = i := by omega
  rw [e, if_pos ⟨by omega, by omega, h1, h2, h3⟩]
/-- what is wrong, a pair -/
def w0S (s : PS) : WW := if s.2.2.1 = 0 then (0, 0) else s.2.2
/-- the end of the class's reading, nothing broken off -/
theorem q_last {Q : MI → MR → Prop} (hL : L ≤ 600) (hB : TpB (r + 35) tp T I B) (hm : LCm r I T L n s R V nm am) (hg : s.2.1 = false) (hI : LIn T L s R V nm am)
    (hQ : ∀ I' w V', CF r I' w → SgOK (r + 1) I' → RrF r I I' → (w.1 = 0 → RelR (r + 1) I' V' ∧ RelT (r + 1) I' V') →
      (∀ (o : Nat) (I : MI) (J : MJ) (S : MI → Prop), LMm o I J T L n s R V nm R am (pos T L s.1) → (∀ I', MdF o I I' → I' o 4 = nI w.1 → (w.1 ≠ 0 → I' o 5 = nI w.2) → (w.1 = 0 → I' o 5 = -1) → (w.1 = 0 → BkR o I' V') → S I') → w_X10_finds o I J S) → Q I' B) : w_X4_findAims r I B (fun I31 => w_X4_read_p98 r I31 B Q) := by
  obtain ⟨d, hT, hSg, hgd⟩ := hm
  obtain ⟨e5, hRT, hrows, hN, hA⟩ := hgd hg
  obtain ⟨⟨p48, p24, pz⟩, p4, pn⟩ := hI
  obtain ⟨⟨wf, -⟩, d4, -, dg⟩ := d
  obtain ⟨g1, g2, g3⟩ := dg hg
  have pl := pos_le (T := T) (L := L) s.1
  have hR : R ≤ 150 := by omega
  have ws := wf.2.2.2 hg
  have hn := hT.2.1
  have cf : CF r I (w0S s) := by
    unfold w0S
    by_cases z : s.2.2.1 = 0
    · rw [if_pos z]
      exact ⟨by rw [g1, z], fun q => absurd rfl q, fun _ => g3 z, by show (0 : Nat) ≤ 5; omega, by show (0 : Nat) ≠ 1; omega, by show (0 : Nat) ≤ 600; omega⟩
    · rw [if_neg z]
      exact ⟨g1, fun q => g2 q, fun q => absurd q z, wf.2.2.1, wf.2.1, by have := ws z; show s.2.2.2 ≤ 600; have e : s.1 + 0 = s.1 := rfl; rw [e] at this; omega⟩
  have twn : ∀ j, tkd T L j = 3 → twk T L j < 2 ^ 63 := fun j hj => by
    have al := alk T L j
    exact twk_lt T L j (Or.inl (by unfold Alk at al; omega))
  refine k_findAims hT hB hL e5 hR hN hA cf (fun I1 w c1 fin f1 f2 f3 f4 f5 => ?_)
  have w5 : w.1 = 0 → s.2.2.1 = 0 ∧ (∀ i, i < R → am i ≠ 0 → ∃ i', FRow T L R nm (twk T L (am i - 1)) i') ∧ R ≤ 24 := fun z => by
    rcases fin with ⟨ew, h⟩ | ⟨q, _⟩
    · have z0 : s.2.2.1 = 0 := by
        by_cases y : s.2.2.1 = 0
        · exact y
        · rw [ew] at z
          unfold w0S at z
          rw [if_neg y] at z
          exact z
      refine ⟨z0, fun i hi hne => ?_, ?_⟩
      · refine frow_of R (fun nr => ?_)
        have := h _ ⟨i, hi, hne, nr, rfl⟩
        rw [← ew] at this
        exact this.1 z
      · rcases Nat.lt_or_ge 24 R with q | q
        · exact absurd z0 (p24 24 (by omega) q).1
        · exact q
    · omega
  -- the class's last step
  have p98 : w_X4_read_p98 r I1 B Q := by
    have hmod : ∀ (V' : Nat → Int32), (w.1 = 0 → V' = vAim V I1 r R am) → ∀ (o : Nat) (I : MI) (J : MJ) (S : MI → Prop), LMm o I J T L n s R V nm R am (pos T L s.1) → (∀ I', MdF o I I' → I' o 4 = nI w.1 → (w.1 ≠ 0 → I' o 5 = nI w.2) → (w.1 = 0 → I' o 5 = -1) → (w.1 = 0 → BkR o I' V') → S I') → w_X10_finds o I J S := fun V' hV' o I J S hl hS => by
      obtain ⟨v48, M, W, n1, n2, n3⟩ := hl.2 hg
      obtain ⟨m4, m15, m14, -⟩ := hl.1.1.2.2.2 hg
      have mf : MF o I (w0S s) := by
        unfold w0S
        by_cases z : s.2.2.1 = 0
        · rw [if_pos z]
          exact ⟨by rw [m15, z], fun q => absurd rfl q, by show (0 : Nat) ≤ 5; omega, by show (0 : Nat) ≤ 600; omega⟩
        · rw [if_neg z]
          exact ⟨m15, fun q => m14 q, wf.2.2.1, by have := ws z; show s.2.2.2 ≤ 600; have e : s.1 + 0 = s.1 := rfl; rw [e] at this; omega⟩
      refine t_finds hL n1 (by omega) n3 (hl.1.2 hg) mf (fun i hi hne => twn _ ((hN i).2 hne).2) (fun i hne => twn _ ((hA i).2 hne).2) (fun I2 w' V2 h4 h5 h5' fin2 b2 v1 v2 v3 md => ?_)
      have ew : w' = w := by
        refine (fin2.more (U' := UC T L R nm am R) (fun p ⟨y, hy, i, hi, hne, q1, q2, q3, q4⟩ => ⟨i, hi, hne, q3, q4⟩) (fun p ⟨i, hi, hne, q3, q4⟩ => ?_)).uq fin
        by_cases i24 : i < 24
        · obtain ⟨y, y1, y2, y3, y4⟩ := n3.2.2.2.2 i hi i24 hne
          exact Or.inl ⟨y, y1, i, hi, hne, y2, y4, q3, q4⟩
        · obtain ⟨x1, x2⟩ := p24 i (by omega) hi
          right
          unfold w0S
          rw [if_neg x1, q4]
          exact ⟨x1, Nat.le_of_lt (x2 hne)⟩
      rw [ew] at h4 h5 h5'
      refine hS I2 md h4 h5 h5' (fun z j hj => ?_)
      obtain ⟨z0, zr, z24⟩ := w5 z
      rw [b2 j hj, hV' z]
      by_cases q : ∃ i, i < 24 ∧ j = 54 + 5 * i
      · obtain ⟨i, i24, rfl⟩ := q
        by_cases q2 : am i = 0 ∨ R ≤ i
        · rw [v2 i i24 q2, vAim_n q2]
        · have hne : am i ≠ 0 := fun y => q2 (Or.inl y)
          have hiR : i < R := Nat.not_le.mp fun y => q2 (Or.inr y)
          obtain ⟨i', fr⟩ := zr i hiR hne
          rw [v3 i i' hiR i24 hne fr, vAim_a i24 hiR hne, f5 i i' hiR i24 hne fr]
          have := fr.1
          unfold cap
          by_cases y : i' < 24
          · rw [if_pos y]
          · omega
      · rw [v1 j (fun i hi e => q ⟨i, hi, e⟩), vAim_o (fun i hi e => q ⟨i, hi, e⟩)]
    unfold w_X4_read_p98
    have sg1 : SgOK (r + 1) I1 := fun i hi => by
      rw [show r + 1 + 9 + i = r + 10 + i by omega, f3 i 5 hi (by omega)]
      have := hSg i hi
      rw [show r + 1 + 9 + i = r + 10 + i by omega] at this; exact this
    have rr : RrF r I I1 := fun c hc => f1 c (by omega) (by omega)
    refine ⟨fun nz => ?_, fun z => ?_⟩
    · have wz : w.1 ≠ 0 := fun q => nz (by rw [c1.1, q]; rfl)
      exact hQ I1 w V c1 sg1 rr (fun q => absurd q wz) (hmod V (fun q => absurd q wz))
    · have wz : w.1 = 0 := by rw [c1.1] at z; exact (nI_z (by have := c1.2.2.2.1; omega)).mp z
      obtain ⟨z0, zr, z24⟩ := w5 wz
      have mn : (if (24 : Int32) < I1 r 5 then (24 : Int32) else I1 r 5) = nI R := by
        rw [f2 5 (by omega) (by omega), e5, if_neg (show ¬ (24 : Int32) < nI R from fun c => absurd ((nI_ltI (a := 24) (b := R) (by omega) (by omega)).mp c) (by omega))]
      rw [mn]
      rintro _ rfl
      rw [ui_gs, ixn (by omega)]
      refine ⟨inn (by omega) (by omega), ?_⟩
      rintro _ rfl
      have cR : cap R = R := by
        unfold cap
        by_cases y : R < 24
        · rw [if_pos y]
        · rw [if_neg y]; omega
      have o2 : ∀ x, x ≠ r + 1 → x ≠ r + 10 + R → ui (ui I1 (r + 1) 1 (nI R)) (r + 10 + R) 0 8 x = I1 x := fun x h1 h2 => by rw [ui_ne _ _ _ h2, ui_ne _ _ _ h1]
      have row : ∀ i, i < 25 → ∀ j, (i ≠ R ∨ j ≠ 0) → ui (ui I1 (r + 1) 1 (nI R)) (r + 10 + R) 0 8 (r + 10 + i) j = I1 (r + 10 + i) j := fun i hi j h => by
        by_cases e : i = R
        · subst e; rw [ui_gj _ _ _ (h.resolve_left (fun q => q rfl)), ui_ne _ _ _ (by omega)]
        · rw [o2 _ (by omega) (by omega)]
      refine hQ _ w (vAim V I1 r R am) ?_ (fun i hi => ?_) (fun c hc => by rw [o2 c (by omega) (by omega)]; exact rr c hc) (fun _ => ⟨⟨?_, ?_, fun i hi => ?_, fun i hi => ?_, fun i hi => ?_⟩, ?_⟩) (hmod _ (fun _ => rfl))
      · unfold CF at c1 ⊢
        rw [o2 r (by omega) (by omega)]; exact c1
      · rw [show r + 1 + 9 + i = r + 10 + i by omega, row i hi 5 (Or.inr (by omega))]
        have := sg1 i hi
        rw [show r + 1 + 9 + i = r + 10 + i by omega] at this; exact this
      · rw [ui_ne _ _ _ (by omega), ui_gs, vAim_o (fun i hi => by omega), p48, cR]
      · rw [vAim_o (fun i hi => by omega), p48, cR]; exact bd_nI (by omega)
      · rw [vAim_o (fun i hi => by omega), p48, cR, ixn (by omega)] at hi
        rw [show r + 1 + 9 + i = r + 10 + i by omega]
        unfold vOp
        rw [vAim_o (k := 48) (fun i hi => by omega), p48, cR]
        by_cases e : i = R
        · subst e; rw [if_pos rfl, ui_gs]
        · rw [if_neg (fun q => e (nI_inj (by omega) (by omega) q)), row i (by omega) 0 (Or.inl e), f3 i 0 (by omega) (by omega), vAim_o (fun k hk => by omega)]
          have := (hrows i (by rw [cR]; omega)).1
          rw [show r + 1 + 9 + i = r + 10 + i by omega] at this; exact this
      · rw [vAim_o (fun i hi => by omega), p48, cR, ixn (by omega)] at hi
        have h := hrows i (by rw [cR]; exact hi)
        unfold RowD at h
        rw [show r + 1 + 9 + i = r + 10 + i by omega] at h
        obtain ⟨-, b0, b1, b2, b3, r0, r1, r4, r7, ra⟩ := h
        have k0 : vAim V I1 r R am (50 + 5 * i) = V (50 + 5 * i) := vAim_o (fun k hk => by omega)
        have k1 : vAim V I1 r R am (51 + 5 * i) = V (51 + 5 * i) := vAim_o (fun k hk => by omega)
        have k2 : vAim V I1 r R am (52 + 5 * i) = V (52 + 5 * i) := vAim_o (fun k hk => by omega)
        have k3 : vAim V I1 r R am (53 + 5 * i) = V (53 + 5 * i) := vAim_o (fun k hk => by omega)
        have k48 : vAim V I1 r R am 48 = nI R := by rw [vAim_o (fun k hk => by omega), p48, cR]
        have q1 : ∀ j, j ≠ 0 → j ≠ 4 → ui (ui I1 (r + 1) 1 (nI R)) (r + 10 + R) 0 8 (r + 10 + i) j = I (r + 10 + i) j := fun j h1 h2 => by rw [row i (by omega) j (Or.inr h1), f3 i j (by omega) h2]
        have n4 : am i = 0 → ui (ui I1 (r + 1) 1 (nI R)) (r + 10 + R) 0 8 (r + 10 + i) 4 = I (r + 10 + i) 4 ∧ vAim V I1 r R am (54 + 5 * i) = V (54 + 5 * i) := fun z => ⟨by rw [row i (by omega) 4 (Or.inr (by omega)), f4 i (by omega) (Or.inl z)], vAim_n (Or.inl z)⟩
        have y4 : am i ≠ 0 → ui (ui I1 (r + 1) 1 (nI R)) (r + 10 + R) 0 8 (r + 10 + i) 4 = vAim V I1 r R am (54 + 5 * i) ∧ bd (vAim V I1 r R am (54 + 5 * i)) R := fun z => by
          obtain ⟨i', fr⟩ := zr i hi z
          rw [row i (by omega) 4 (Or.inr (by omega)), vAim_a (by omega) hi z, f5 i i' hi (by omega) z fr]
          exact ⟨rfl, bd_nI fr.1⟩
        have no6 : ∀ z : Nat, z < 6 → V (50 + 5 * i) = nI z → am i = 0 := fun z hz e => by
          by_cases y : am i = 0
          · exact y
          · rcases ra.mp y with q | q
            · have := nI_inj (b := 6) (by omega) (by omega) (e.symm.trans q); omega
            · have := nI_inj (b := 7) (by omega) (by omega) (e.symm.trans q); omega
        unfold RowR
        rw [show r + 1 + 9 + i = r + 10 + i by omega, k0, k1, k2, k3, k48, q1 1 (by omega) (by omega), q1 2 (by omega) (by omega), q1 3 (by omega) (by omega), q1 5 (by omega) (by omega), ixn (by omega)]
        refine ⟨b0, b1, b2, b3, fun e => ?_, r1, fun e => ?_, fun e => y4 (ra.mpr (Or.inl e)), fun e => ?_⟩
        · obtain ⟨x1, x2⟩ := n4 (no6 0 (by omega) e)
          rw [x1, x2]; exact r0 e
        · obtain ⟨x1, x2⟩ := n4 (e.elim (fun e => no6 4 (by omega) e) (fun e => no6 5 (by omega) e))
          rw [x1, x2]; exact r4 e
        · obtain ⟨x1, x2⟩ := y4 (ra.mpr (Or.inr e))
          obtain ⟨z1, z2, z3, z4⟩ := r7 e
          exact ⟨z1, z2, z3, x1, x2, z4⟩
      · rw [show r + 1 + 9 + i = r + 10 + i by omega, row i hi 5 (Or.inr (by omega))]
        have := sg1 i hi
        rw [show r + 1 + 9 + i = r + 10 + i by omega] at this; exact this
      · obtain ⟨t1, t2, t3, t4, t5, t6, t7⟩ := hRT
        have vv : ∀ k, k < 48 → vAim V I1 r R am k = V k := fun k hk => vAim_o (fun i hi => by omega)
        have ii : ∀ x, r + 1 < x → x ≤ r + 5 → ui (ui I1 (r + 1) 1 (nI R)) (r + 10 + R) 0 8 x = I x := fun x h1 h2 => by rw [o2 x (by omega) (by omega), f1 x (by omega) (by omega)]
        have i1 : ∀ j, j ≠ 1 → ui (ui I1 (r + 1) 1 (nI R)) (r + 10 + R) 0 8 (r + 1) j = I (r + 1) j := fun j hj => by rw [ui_ne _ _ _ (by omega), ui_gj _ _ _ hj, f1 _ (by omega) (by omega)]
        unfold RelT
        rw [i1 2 (by omega), i1 3 (by omega), vv 0 (by omega), vv 47 (by omega)]
        refine ⟨t1, t2, t3, t4, fun q hq => ?_, fun c hc => ?_, fun q hq => ?_⟩
        · rw [ii _ (by omega) (by omega), vv _ (by omega)]; exact t5 q hq
        · rw [ii _ (by omega) (by omega), vv _ (by omega)]; exact t6 c hc
        · rw [ii _ (by omega) (by omega), vv _ (by omega)]; exact t7 q hq
  exact p98
end
