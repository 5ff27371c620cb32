/-! names -/
theorem wk_tab : (1818326117 : Int64) = lN (pkv (WL 0)) ∧ (1919905645 : Int64) = lN (pkv (WL 1)) ∧ (1667591276 : Int64) = lN (pkv (WL 2)) ∧ (7497063 : Int64) = lN (pkv (WL 3)) ∧ (1801807216 : Int64) = lN (pkv (WL 4)) ∧ (7562612 : Int64) = lN (pkv (WL 5)) ∧ (6382692 : Int64) = lN (pkv (WL 6)) ∧ (7566690 : Int64) = lN (pkv (WL 7)) ∧ (7173484 : Int64) = lN (pkv (WL 8)) ∧ (1819238756 : Int64) = lN (pkv (WL 9)) ∧ (495874699877 : Int64) = lN (pkv (WL 10)) ∧ (1786080624 : Int64) = lN (pkv (WL 11)) ∧ (26982 : Int64) = lN (pkv (WL 12)) ∧ (6647396 : Int64) = lN (pkv (WL 13)) ∧ (465725121651 : Int64) = lN (pkv (WL 14)) ∧ (126943923168627 : Int64) = lN (pkv (WL 15)) ∧ (1684108385 : Int64) = lN (pkv (WL 16)) ∧ (109330278475123 : Int64) = lN (pkv (WL 17)) ∧ (1953459300 : Int64) = lN (pkv (WL 18)) ∧ (418548245860 : Int64) = lN (pkv (WL 19)) := by decide +kernel
theorem kp166 {x : Int32} {Q : Int32 → Prop} (h : Q 1) : w_X10_isKept_p166 x Q := by
  unfold w_X10_isKept_p166
  exact ⟨fun _ => h, fun _ => ⟨fun c => absurd c (by decide), fun _ => h⟩⟩
theorem kp85 {y : Int64} {Q : Int32 → Prop} (h : Q 1) : w_X10_isKept_p85 y 1 Q := by
  unfold w_X10_isKept_p85
  exact ⟨fun _ => kp166 h, fun _ => ⟨fun _ => kp166 h, fun _ => ⟨fun _ => kp166 h, fun _ => ⟨fun _ => kp166 h, fun _ => ⟨fun _ => kp166 h, fun _ => ⟨fun _ => kp166 h, fun _ => ⟨fun _ => kp166 h, fun _ => ⟨fun _ => kp166 h, fun _ => ⟨fun _ => kp166 h, fun _ => ⟨fun _ => ⟨fun _ => h, fun c => absurd c (by decide)⟩, fun _ => kp166 h⟩⟩⟩⟩⟩⟩⟩⟩⟩⟩
theorem kp80 {y : Int64} {Q : Int32 → Prop} (h : Q 1) : w_X10_isKept_p80 y Q := kp85 h
theorem t_isKept {v : Nat} {Q : Int32 → Prop} (hv : v < 2 ^ 63) (h1 : (∃ j, j < 20 ∧ v = pkv (WL j)) → Q 1) (h0 : (¬ ∃ j, j < 20 ∧ v = pkv (WL j)) → Q 0) : w_X10_isKept (lN v) Q := by
  obtain ⟨w0, w1, w2, w3, w4, w5, w6, w7, w8, w9, w10, w11, w12, w13, w14, w15, w16, w17, w18, w19⟩ := wk_tab
  have c0 : lg_cmp (lN v) 1818326117 = 0 ↔ v = pkv (WL 0) := by rw [w0]; exact cmpE hv (wl_pk 0 (by omega)).2
  have c1 : lg_cmp (lN v) 1919905645 = 0 ↔ v = pkv (WL 1) := by rw [w1]; exact cmpE hv (wl_pk 1 (by omega)).2
  have c2 : lg_cmp (lN v) 1667591276 = 0 ↔ v = pkv (WL 2) := by rw [w2]; exact cmpE hv (wl_pk 2 (by omega)).2
  have c3 : lg_cmp (lN v) 7497063 = 0 ↔ v = pkv (WL 3) := by rw [w3]; exact cmpE hv (wl_pk 3 (by omega)).2
  have c4 : lg_cmp (lN v) 1801807216 = 0 ↔ v = pkv (WL 4) := by rw [w4]; exact cmpE hv (wl_pk 4 (by omega)).2
  have c5 : lg_cmp (lN v) 7562612 = 0 ↔ v = pkv (WL 5) := by rw [w5]; exact cmpE hv (wl_pk 5 (by omega)).2
  have c6 : lg_cmp (lN v) 6382692 = 0 ↔ v = pkv (WL 6) := by rw [w6]; exact cmpE hv (wl_pk 6 (by omega)).2
  have c7 : lg_cmp (lN v) 7566690 = 0 ↔ v = pkv (WL 7) := by rw [w7]; exact cmpE hv (wl_pk 7 (by omega)).2
  have c8 : lg_cmp (lN v) 7173484 = 0 ↔ v = pkv (WL 8) := by rw [w8]; exact cmpE hv (wl_pk 8 (by omega)).2
  have c9 : lg_cmp (lN v) 1819238756 = 0 ↔ v = pkv (WL 9) := by rw [w9]; exact cmpE hv (wl_pk 9 (by omega)).2
  have c10 : lg_cmp (lN v) 495874699877 = 0 ↔ v = pkv (WL 10) := by rw [w10]; exact cmpE hv (wl_pk 10 (by omega)).2
  have c11 : lg_cmp (lN v) 1786080624 = 0 ↔ v = pkv (WL 11) := by rw [w11]; exact cmpE hv (wl_pk 11 (by omega)).2
  have c12 : lg_cmp (lN v) 26982 = 0 ↔ v = pkv (WL 12) := by rw [w12]; exact cmpE hv (wl_pk 12 (by omega)).2
  have c13 : lg_cmp (lN v) 6647396 = 0 ↔ v = pkv (WL 13) := by rw [w13]; exact cmpE hv (wl_pk 13 (by omega)).2
  have c14 : lg_cmp (lN v) 465725121651 = 0 ↔ v = pkv (WL 14) := by rw [w14]; exact cmpE hv (wl_pk 14 (by omega)).2
  have c15 : lg_cmp (lN v) 126943923168627 = 0 ↔ v = pkv (WL 15) := by rw [w15]; exact cmpE hv (wl_pk 15 (by omega)).2
  have c16 : lg_cmp (lN v) 1684108385 = 0 ↔ v = pkv (WL 16) := by rw [w16]; exact cmpE hv (wl_pk 16 (by omega)).2
  have c17 : lg_cmp (lN v) 109330278475123 = 0 ↔ v = pkv (WL 17) := by rw [w17]; exact cmpE hv (wl_pk 17 (by omega)).2
  have c18 : lg_cmp (lN v) 1953459300 = 0 ↔ v = pkv (WL 18) := by rw [w18]; exact cmpE hv (wl_pk 18 (by omega)).2
  have c19 : lg_cmp (lN v) 418548245860 = 0 ↔ v = pkv (WL 19) := by rw [w19]; exact cmpE hv (wl_pk 19 (by omega)).2
  have y : ∀ j, j < 20 → v = pkv (WL j) → Q 1 := fun j hj e => h1 ⟨j, hj, e⟩
  have p85 : (¬ v = pkv (WL 0)) → (¬ v = pkv (WL 1)) → (¬ v = pkv (WL 2)) → (¬ v = pkv (WL 3)) → (¬ v = pkv (WL 4)) → (¬ v = pkv (WL 5)) → (¬ v = pkv (WL 6)) → (¬ v = pkv (WL 7)) → (¬ v = pkv (WL 8)) → (¬ v = pkv (WL 9)) → w_X10_isKept_p85 (lN v) 0 Q := fun n0 n1 n2 n3 n4 n5 n6 n7 n8 n9 => by
    unfold w_X10_isKept_p85
    rw [c10, c11, c12, c13, c14, c15, c16, c17, c18, c19]
    refine ⟨fun e => kp166 (y 10 (by omega) e), fun n10 => ⟨fun e => kp166 (y 11 (by omega) e), fun n11 => ⟨fun e => kp166 (y 12 (by omega) e), fun n12 => ⟨fun e => kp166 (y 13 (by omega) e), fun n13 => ⟨fun e => kp166 (y 14 (by omega) e), fun n14 => ⟨fun e => kp166 (y 15 (by omega) e), fun n15 => ⟨fun e => kp166 (y 16 (by omega) e), fun n16 => ⟨fun e => kp166 (y 17 (by omega) e), fun n17 => ⟨fun e => kp166 (y 18 (by omega) e), fun n18 => ⟨fun n19 => ⟨fun c => absurd rfl c, fun _ => ⟨fun _ => h0 (fun ⟨j, hj, e⟩ => ?_), fun c => absurd rfl c⟩⟩, fun e => kp166 (y 19 (by omega) e)⟩⟩⟩⟩⟩⟩⟩⟩⟩⟩
    have hc : j = 0 ∨ j = 1 ∨ j = 2 ∨ j = 3 ∨ j = 4 ∨ j = 5 ∨ j = 6 ∨ j = 7 ∨ j = 8 ∨ j = 9 ∨ j = 10 ∨ j = 11 ∨ j = 12 ∨ j = 13 ∨ j = 14 ∨ j = 15 ∨ j = 16 ∨ j = 17 ∨ j = 18 ∨ j = 19 := by omega
    rcases hc with rfl | rfl | rfl | rfl | rfl | rfl | rfl | rfl | rfl | rfl | rfl | rfl | rfl | rfl | rfl | rfl | rfl | rfl | rfl | rfl
    · exact n0 e
    · exact n1 e
    · exact n2 e
    · exact n3 e
    · exact n4 e
    · exact n5 e
    · exact n6 e
    · exact n7 e
    · exact n8 e
    · exact n9 e
    · exact n10 e
    · exact n11 e
    · exact n12 e
    · exact n13 e
    · exact n14 e
    · exact n15 e
    · exact n16 e
    · exact n17 e
    · exact n18 e
    · exact n19 e
  unfold w_X10_isKept
  rw [c0, c1, c2, c3, c4, c5, c6, c7, c8, c9]
  exact ⟨fun e => kp80 (y 0 (by omega) e), fun n0 => ⟨fun e => kp80 (y 1 (by omega) e), fun n1 => ⟨fun e => kp80 (y 2 (by omega) e), fun n2 => ⟨fun e => kp80 (y 3 (by omega) e), fun n3 => ⟨fun e => kp80 (y 4 (by omega) e), fun n4 => ⟨fun e => kp80 (y 5 (by omega) e), fun n5 => ⟨fun e => kp80 (y 6 (by omega) e), fun n6 => ⟨fun e => kp80 (y 7 (by omega) e), fun n7 => ⟨fun e => kp80 (y 8 (by omega) e), fun n8 => ⟨fun n9 => p85 n0 n1 n2 n3 n4 n5 n6 n7 n8 n9, fun e => kp80 (y 9 (by omega) e)⟩⟩⟩⟩⟩⟩⟩⟩⟩⟩
section
variable {o n L : Nat} {T : Nat → Nat} {I : MI} {J : MJ} {s : PS}
theorem t_isName {h : Nat} {Q : Int32 → Prop} (c : MT o I J T L n h s) (h1 : aIs T L 3 s → Q 1) (h0 : ¬ aIs T L 3 s → Q 0) : w_X10_isName o I J Q := by
  unfold w_X10_isName
  refine t_isGood c (fun g => ⟨fun c => absurd c (by decide), fun _ => ?_⟩) (fun b => ⟨fun _ => h0 (fun z => by have z1 := z.1; rw [b] at z1; exact Bool.noConfusion z1), fun c => absurd rfl c⟩)
  obtain ⟨-, -, -, -, -, g12, g17⟩ := c.2.2.2 g
  have al := alk T L s.1
  rw [g12]
  refine ⟨fun n1 => h0 (fun q => ?_), fun e1 => ?_⟩
  · have : tsk T L s.1 = 1 := by have := q.2; unfold Alk at al; omega
    exact n1 (by rw [this]; rfl)
  · have e1 : tsk T L s.1 = 1 := nI_inj (b := 1) (by unfold Alk at al; omega) (by omega) e1
    have tw := twk_lt T L s.1 (Or.inl e1)
    have l255 : lg_cmp (lN (twk T L s.1)) 255 ≤ 0 ↔ twk T L s.1 ≤ 255 := cmpLe tw (b := 255) (by decide)
    rw [g17 (Or.inl e1), l255]
    have key : tkd T L s.1 = 3 ↔ (255 < twk T L s.1 ∧ ¬ ∃ j, j < 20 ∧ twk T L s.1 = pkv (WL j)) := by
      unfold Alk at al
      clear tw l255
      rcases al with a | a | a | a | a | a | a | a
      · omega
      · omega
      · exact ⟨fun e => by omega, fun e => by omega⟩
      · omega
      · omega
      · exact ⟨fun e => by omega, fun e => by omega⟩
      · exact ⟨fun e => by omega, fun e => absurd ⟨_, a.2.2.1, a.2.2.2.1⟩ e.2⟩
      · exact ⟨fun _ => ⟨a.2.2.1, fun ⟨j, hj, e⟩ => a.2.2.2.2.1 j hj e⟩, fun _ => a.1⟩
    refine ⟨fun c => h0 (fun q => ?_), fun c => t_isKept tw (fun q => ⟨fun _ => h0 (fun z => (key.mp z.2).2 q), fun c => absurd c (by decide)⟩) (fun q => ⟨fun c => absurd rfl c, fun _ => h1 ⟨g, key.mpr ⟨by omega, q⟩⟩⟩)⟩
    have := (key.mp q.2).1
    omega
/-- the first row of that name -/
def FRow (T : Nat → Nat) (L R : Nat) (nm : Nat → Nat) (v i : Nat) : Prop := i < R ∧ nm i ≠ 0 ∧ twk T L (nm i - 1) = v ∧ ∀ j, j < i → ¬ (nm j ≠ 0 ∧ twk T L (nm j - 1) = v)
def NoRow (T : Nat → Nat) (L R : Nat) (nm : Nat → Nat) (v : Nat) : Prop := ∀ i, i < R → nm i ≠ 0 → ¬ twk T L (nm i - 1) = v
def cap (i : Nat) : Nat := if i < 24 then i else 24
theorem cap_le (i : Nat) : cap i ≤ 24 := by unfold cap; split <;> omega
theorem FRow.uq {R v i i' : Nat} {nm : Nat → Nat} (h : FRow T L R nm v i) (h' : FRow T L R nm v i') : i = i' := by
  rcases Nat.lt_trichotomy i i' with q | q | q
  · exact absurd ⟨h.2.1, h.2.2.1⟩ (h'.2.2.2 i q)
  · exact q
  · exact absurd ⟨h'.2.1, h'.2.2.1⟩ (h.2.2.2 i' q)
/-- the model's names -/
def NmM (o : Nat) (I : MI) (J : MJ) (T : Nat → Nat) (L M R : Nat) (nm : Nat → Nat) : Prop :=
  I o 23 = nI M ∧ (∀ m, m < M → ∃ v i, J (o + 5) m = lN v ∧ v < 2 ^ 63 ∧ FRow T L R nm v i ∧ I (o + 7) m = nI (cap i)) ∧ ∀ i, i < R → nm i ≠ 0 → ∃ m, m < M ∧ J (o + 5) m = lN (twk T L (nm i - 1))
theorem t_nameBy {M R v : Nat} {nm : Nat → Nat} {Q : Int32 → Prop} (h : NmM o I J T L M R nm) (hM : M ≤ 90) (hv : v < 2 ^ 63) (hb : ∀ i, i < R → nm i ≠ 0 → twk T L (nm i - 1) < 2 ^ 63) (h1 : ∀ m i, m < M → FRow T L R nm v i → I (o + 7) m = nI (cap i) → Q (nI m)) (h0 : NoRow T L R nm v → Q (-1)) : w_X10_nameBy o (lN v) I J Q := by
  obtain ⟨e23, n1, n2⟩ := h
  unfold w_X10_nameBy
  refine Lp1.of (fun x => ∃ m, m ≤ M ∧ x = nI m ∧ ∀ j, j < m → ¬ J (o + 5) j = lN v) (fun x => 100 - ix x) ?_ _ ⟨0, by omega, rfl, fun j hj => by omega⟩
  rintro rec x ⟨m, hm, rfl, hj⟩ hrec
  unfold w_X10_nameBy_l2
  rw [e23]
  refine ⟨fun c => h0 (fun i hi hn e => ?_), fun c => ?_⟩
  · have := (nI_leI (by omega) (by omega)).mp c
    obtain ⟨m', hm', e'⟩ := n2 i hi hn
    rw [e] at e'
    exact hj m' (by omega) e'
  · have hlt : m < M := Nat.not_le.mp fun q => c (nI_le q (by omega))
    rw [ixn (by omega), lg_cmp_eq]
    refine ⟨inn (by omega) (by omega), fun ne => ?_, fun e => ?_⟩
    · refine hrec _ ⟨m + 1, by omega, nI_1 m, fun j hj2 => ?_⟩ (by rw [nI_1, ixn (by omega), ixn (by omega)]; omega)
      by_cases q : j = m
      · subst q; exact ne
      · exact hj j (by omega)
    · obtain ⟨v', i, e1, b1, f1, e7⟩ := n1 m hlt
      rw [e1, pk_lEQ b1 hv] at e
      subst e
      exact h1 m i hlt f1 e7
end
/-! the class's names -/
section
variable {r t tp n L : Nat} {T : Nat → Nat} {I : MI} {B : MR} {s : PS}
theorem k_isSame {j1 j2 : Nat} {Q : Int32 → Prop} (hT : Toks t I T L n) (hB : TpB t tp T I B) (hL : L ≤ 600) (hj1 : j1 ≤ n) (hj2 : j2 ≤ n) (p1 : pos T L j1 < L) (p2 : pos T L j2 < L) (h1 : byts T (pos T L j1) (te T L j1) = byts T (pos T L j2) (te T L j2) → Q 1) (h0 : ¬ byts T (pos T L j1) (te T L j1) = byts T (pos T L j2) (te T L j2) → Q 0) : w_X7_isSame t (nI j1) (nI j2) I B Q := by
  obtain ⟨a1, a2, a3, -⟩ := hT.1 j1 (by omega)
  obtain ⟨b1, b2, b3, -⟩ := hT.1 j2 (by omega)
  have hn := hT.2.1
  have g1 := te_gt p1
  have g2 := te_gt p2
  unfold w_X7_isSame
  rw [ixn (n := j1) (by omega), ixn (n := j2) (by omega), a2, a3, b2, b3, nI_sub (by omega), nI_sub (by omega)]
  refine ⟨inn (by omega) (by omega), inn (by omega) (by omega), ?_⟩
  rintro _ rfl
  refine ⟨inn (by omega) (by omega), inn (by omega) (by omega), fun e => ?_, fun e => h0 (fun q => e ?_)⟩
  · have e : te T L j1 - pos T L j1 = te T L j2 - pos T L j2 := nI_inj (by omega) (by omega) e
    refine Lp1.of (fun x => ∃ i, i ≤ te T L j1 - pos T L j1 ∧ x = nI i ∧ ∀ j, j < i → T (pos T L j1 + j) = T (pos T L j2 + j)) (fun x => 700 - ix x) ?_ _ ⟨0, by omega, rfl, fun j hj => by omega⟩
    rintro rec x ⟨i, hi, rfl, hj⟩ hrec
    unfold w_X7_isSame_l36
    refine ⟨fun c => ?_, fun c => ?_⟩
    · have := (nI_leI (by omega) (by omega)).mp c
      have ei : i = te T L j1 - pos T L j1 := by omega
      subst ei
      refine h1 (byts_eq.mpr ⟨by rw [byts_len]; exact e, fun j hj2 => ?_⟩)
      rw [byts_len] at hj2
      rw [byts_get hj2]
      exact hj j (by omega)
    · have hlt : i < te T L j1 - pos T L j1 := Nat.not_le.mp fun q => c (nI_le q (by omega))
      rw [ixn (n := j1) (by omega), ixn (n := j2) (by omega), a2, b2, nI_add, nI_add, hB.at (by omega), hB.at (by omega)]
      refine ⟨hB.bb, inn (by omega) (by omega), inn (by omega) (by omega), inn (by omega) (by omega), inn (by omega) (by omega), fun c2 => ?_, fun c2 => h0 (fun q => c2 ?_)⟩
      · rw [byS_inj (hB.2.2 _ (by omega)).2 (hB.2.2 _ (by omega)).2] at c2
        refine hrec _ ⟨i + 1, by omega, nI_1 i, fun j hj2 => ?_⟩ (by rw [nI_1, ixn (by omega), ixn (by omega)]; omega)
        by_cases ej : j = i
        · subst ej; exact c2
        · exact hj j (by omega)
      · have z := (byts_eq.mp q).2 i (by rw [byts_len]; omega)
        rw [byts_get (by omega)] at z
        rw [z]
  · have := congrArg List.length q
    rw [byts_len, byts_len] at this
    rw [this]
/-- names by their bytes, names by their numbers -/
theorem nm_same {j1 j2 : Nat} (h1 : tkd T L j1 = 3) (h2 : tkd T L j2 = 3) : byts T (pos T L j1) (te T L j1) = byts T (pos T L j2) (te T L j2) ↔ twk T L j1 = twk T L j2 := by
  have g : ∀ j, tkd T L j = 3 → pos T L j < L ∧ isLt (T (pos T L j)) = true ∧ te T L j - pos T L j ≤ 8 := fun j hj => by
    have p := pos_s (T := T) (L := L) (k := j) (by omega)
    have al := alk T L j
    unfold Alk at al
    refine ⟨p, ?_, by omega⟩
    cases q : isLt (T (pos T L j)) with
    | true => rfl
    | false =>
      unfold tkd at hj
      rw [if_neg (by omega), q, if_neg (by decide)] at hj
      exfalso
      split at hj
      · split at hj <;> omega
      · split at hj <;> omega
  obtain ⟨p1, l1, e1⟩ := g j1 h1
  obtain ⟨p2, l2, e2⟩ := g j2 h2
  rw [(let_pk p1 l1 e1).1, (let_pk p2 l2 e2).1]
  refine ⟨fun h => by rw [h], fun h => pkv_inj (fun b hb => ?_) (fun b hb => ?_) h⟩
  · have := let_byts p1 l1 b hb; omega
  · have := let_byts p2 l2 b hb; omega
/-- the class's rows of names, or of aims: which token -/
def NmC (c : Nat) (I : MI) (T : Nat → Nat) (L n : Nat) (nm : Nat → Nat) : Prop := ∀ i, (i < 150 → I c i = if nm i = 0 then -1 else nI (nm i - 1)) ∧ (nm i ≠ 0 → nm i - 1 ≤ n ∧ tkd T L (nm i - 1) = 3)
theorem k_rowNamed {R j : Nat} {nm : Nat → Nat} {Q : Int32 → Prop} (hT : Toks (r + 35) I T L n) (hB : TpB (r + 35) tp T I B) (hL : L ≤ 600) (e5 : I r 5 = nI R) (hR : R ≤ 150) (hN : NmC (r + 41) I T L n nm) (hj : j ≤ n) (hk : tkd T L j = 3) (h1 : ∀ i, FRow T L R nm (twk T L j) i → Q (nI i)) (h0 : NoRow T L R nm (twk T L j) → Q (-1)) : w_X4_rowNamed r (nI j) I B Q := by
  unfold w_X4_rowNamed
  refine Lp1.of (fun x => ∃ i, i ≤ R ∧ x = nI i ∧ ∀ m, m < i → ¬ (nm m ≠ 0 ∧ twk T L (nm m - 1) = twk T L j)) (fun x => 200 - ix x) ?_ _ ⟨0, by omega, rfl, fun m hm => by omega⟩
  rintro rec x ⟨i, hi, rfl, hm⟩ hrec
  unfold w_X4_rowNamed_l2
  rw [e5]
  refine ⟨fun c => h0 (fun m hm2 hn e => ?_), fun c => ?_⟩
  · have := (nI_leI (by omega) (by omega)).mp c
    exact hm m (by omega) ⟨hn, e⟩
  · have hlt : i < R := Nat.not_le.mp fun q => c (nI_le q (by omega))
    obtain ⟨a1, a2⟩ := hN i
    have a1 := a1 (by omega)
    rw [ixn (n := i) (by omega), a1]
    have nx : ¬ (nm i ≠ 0 ∧ twk T L (nm i - 1) = twk T L j) → rec (nI i + 1) := fun hn => hrec _ ⟨i + 1, by omega, nI_1 i, fun m hm2 => by
      by_cases q : m = i
      · subst q; exact hn
      · exact hm m (by omega)⟩ (by rw [nI_1, ixn (by omega), ixn (by omega)]; omega)
    refine ⟨fun c => absurd ((nI_leI (a := 150) (by omega) (by omega)).mp c) (by omega), fun _ => ⟨inn (by omega) (by omega), fun e => ?_, fun e => ?_⟩⟩
    · refine nx (fun q => ?_)
      rw [if_neg q.1] at e
      have z : (-1 : Int32) < 0 := by decide
      rw [← e] at z
      have := (a2 q.1).1
      have := hT.2.1
      exact absurd z (nI_pos (by omega))
    · have hne : nm i ≠ 0 := fun q => e (by rw [if_pos q])
      obtain ⟨b1, b2⟩ := a2 hne
      rw [if_neg hne]
      refine ⟨inn (by omega) (by omega), k_isSame hT hB hL b1 hj (pos_s (by omega)) (pos_s (by omega)) (fun q => ⟨fun c => absurd c (by decide), fun _ => h1 i ⟨hlt, hne, (nm_same b2 hk).mp q, hm⟩⟩) (fun q => ⟨fun _ => nx (fun z => q ((nm_same b2 hk).mpr z.2)), fun c => absurd rfl c⟩)⟩
end
