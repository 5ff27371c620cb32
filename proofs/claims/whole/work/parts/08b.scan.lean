/-! the class's tokens -/
section
variable {t tp L : Nat} {T : Nat → Nat} {I : MI} {B : MR}
/-- the tape that the tokens are taken from -/
def TpB (t tp : Nat) (T : Nat → Nat) (I : MI) (B : MR) : Prop := B t 5 = tp ∧ tp + 101 = t ∧ ∀ k, k < 600 → I tp k = byS (T k) ∧ T k < 256
theorem TpB.fr {I' : MI} (h : TpB t tp T I B) (hI : I' tp = I tp) : TpB t tp T I' B := ⟨h.1, h.2.1, fun k hk => by rw [hI]; exact h.2.2 k hk⟩
theorem TpB.bb (h : TpB t tp T I B) : B t 5 + 101 = t := by rw [h.1]; exact h.2.1
theorem TpB.at (h : TpB t tp T I B) {k : Nat} (hk : k < 600) : I (B t 5) (ix (nI k)) = byS (T k) := by rw [h.1, ixn (by omega)]; exact (h.2.2 k hk).1
theorem k_isWordAt {st p e : Nat} {Q : Int32 → Prop} (h : TpB t tp T I B) (hpe : p ≤ e) (he : e ≤ 600) (hst : st + (e - p) ≤ 99) (h1 : (∀ i, i < e - p → sC 0 (st + i) = byS (T (p + i))) → Q 1) (h0 : (¬ ∀ i, i < e - p → sC 0 (st + i) = byS (T (p + i))) → Q 0) : w_X7_isWordAt t (nI st) (nI p) (nI e) I B Q := by
  unfold w_X7_isWordAt
  refine Lp1.of (fun x => ∃ i, p ≤ i ∧ i ≤ e ∧ x = nI i ∧ ∀ j, j < i - p → sC 0 (st + j) = byS (T (p + j))) (fun x => 700 - ix x) ?_ _ ⟨p, Nat.le_refl _, hpe, rfl, fun j hj => by omega⟩
  rintro rec x ⟨i, hi1, hi2, rfl, hj⟩ hrec
  unfold w_X7_isWordAt_l3
  refine ⟨fun c => ?_, fun c => ?_⟩
  · have := (nI_leI (by omega) (by omega)).mp c
    have e' : i = e := by omega
    subst e'
    exact h1 hj
  · have hlt : i < e := Nat.not_le.mp fun q => c (nI_le q (by omega))
    rw [nI_add, nI_sub (by omega), h.at (by omega), ixn (by omega)]
    refine ⟨inn (by omega) (by omega), h.bb, inn (by omega) (by omega), fun c2 => ?_, fun c2 => h0 (fun q => c2 ?_)⟩
    · refine hrec _ ⟨i + 1, by omega, by omega, nI_1 i, fun j hj2 => ?_⟩ (by rw [nI_1, ixn (by omega), ixn (by omega)]; omega)
      by_cases ej : j = i - p
      · subst ej
        rw [show st + (i - p) = st + i - p by omega, show p + (i - p) = i by omega]; exact c2
      · exact hj j (by omega)
    · have := q (i - p) (by omega)
      rw [show st + (i - p) = st + i - p by omega, show p + (i - p) = i by omega] at this
      exact this
theorem k_wordNumber {p e : Nat} {Q : Int32 → Prop} (h : TpB t tp T I B) (hpe : p ≤ e) (he : e ≤ 600) (hQ : Q (if wno (byts T p e) = 20 then -1 else nI (wno (byts T p e)))) : w_X7_wordNumber t (nI p) (nI e) I B Q := by
  unfold w_X7_wordNumber
  refine Lp3.of (fun x3 x4 x5 => ∃ j i, j ≤ 20 ∧ x3 = nI j ∧ x4 = nI (stW j) ∧ x5 = nI i ∧ stW j ≤ i ∧ (j < 20 → i ≤ stW j + (WL j).length) ∧ (j = 20 → i = 99) ∧ wno (byts T p e) = wnoR (byts T p e) (20 - j) j) (fun _ _ x5 => 100 - ix x5) ?_ _ _ _ ⟨0, 0, by omega, rfl, rfl, rfl, Nat.le_refl _, fun _ => Nat.zero_le _, fun c => by omega, rfl⟩
  rintro rec x3 x4 x5 ⟨j, i, hj, rfl, rfl, rfl, h1, h2, h3, h4⟩ hrec
  unfold w_X7_wordNumber_l8
  have s20 : stW 20 = 99 := by decide
  have hi99 : i ≤ 99 := by
    by_cases q : j < 20
    · have := (wl_tab j q).2.2.2.1; have := h2 q; omega
    · rw [h3 (by omega)]; exact Nat.le_refl _
  refine ⟨fun c => ?_, fun c => ?_⟩
  · have := (nI_leI (a := 99) (by omega) (by omega)).mp c
    have j20 : j = 20 := by
      by_cases q : j < 20
      · have := (wl_tab j q).2.2.2.1; have := h2 q; omega
      · omega
    subst j20
    have w20 : wno (byts T p e) = 20 := h4
    rw [if_pos w20] at hQ; exact hQ
  · have hlt : i < 99 := Nat.not_le.mp fun q => c (nI_le (a := 99) q (by omega))
    have jlt : j < 20 := by
      rcases Nat.lt_or_ge j 20 with q | q
      · exact q
      · have := h3 (by omega); omega
    obtain ⟨w1, w2, w3, w4, w5⟩ := wl_tab j jlt
    have h2 := h2 jlt
    have dec : 100 - ix (nI i + 1) < 100 - ix (nI i) := by rw [nI_1, ixn (by omega), ixn (by omega)]; omega
    rw [ixn (n := i) (by omega)]
    refine ⟨inn (by omega) (by omega), fun c2 => ?_, fun c2 => ?_⟩
    · have : i ≠ stW j + (WL j).length := fun q => c2 (by rw [q]; exact w2)
      exact hrec _ _ _ ⟨j, i + 1, hj, rfl, rfl, nI_1 i, by omega, fun _ => by omega, fun q => by omega, h4⟩ dec
    · have hie : i = stW j + (WL j).length := by
        rcases Nat.lt_or_ge i (stW j + (WL j).length) with q | q
        · have := (w1 (i - stW j) (by omega)).2.1
          rw [show stW j + (i - stW j) = i by omega] at this
          exact absurd c2 this
        · omega
      have nx : ¬ WL j = byts T p e → ∀ x4', x4' = nI i + 1 → rec (nI j + 1) x4' (nI i + 1) := fun hne x4' ex => by
        subst ex
        refine hrec _ _ _ ⟨j + 1, i + 1, by omega, nI_1 j, by rw [nI_1, w3, hie], nI_1 i, by omega, fun q => ?_, fun q => ?_, ?_⟩ dec
        · omega
        · rw [q, s20] at w3; omega
        · rw [h4, show 20 - j = (20 - (j + 1)) + 1 by omega]
          show (if WL j = byts T p e then j else wnoR (byts T p e) (20 - (j + 1)) (j + 1)) = _
          rw [if_neg hne]
      rw [nI_sub h1, nI_sub hpe]
      refine ⟨fun c3 => nx (fun q => c3 ?_), fun c3 => ?_⟩
      · rw [q] at hie; rw [byts_len] at hie; congr 1; omega
      · have hlen : (WL j).length = e - p := by have := nI_inj (by omega) (by omega) c3; omega
        refine k_isWordAt h hpe he (by omega) (fun q => ⟨fun c => absurd c (by decide), fun _ => ?_⟩) (fun q => ⟨fun _ => nx (fun q2 => q (fun i hi => ?_)), fun c => absurd rfl c⟩)
        · have hb : byts T p e = WL j := byts_eq.mpr ⟨hlen.symm, fun i hi => by
            have a1 := q i (by omega)
            rw [(w1 i hi).1] at a1
            exact (byS_eq (h.2.2 _ (by omega)).2 (w1 i hi).2.2).mp a1.symm⟩
          have hw : wno (byts T p e) = j := by
            rw [h4, show 20 - j = (20 - (j + 1)) + 1 by omega]
            show (if WL j = byts T p e then j else _) = j
            rw [if_pos hb.symm]
          rw [hw, if_neg (by omega)] at hQ
          exact hQ
        · have a1 := (byts_eq.mp q2.symm).2 i (by omega)
          rw [(w1 i (by omega)).1]
          exact ((byS_eq (h.2.2 _ (by omega)).2 (w1 i (by omega)).2.2).mpr a1).symm
/-- so many tokens lie right -/
def TkC (t : Nat) (I : MI) (T : Nat → Nat) (L m : Nat) : Prop := ∀ j, j < m → I (t + 1) j = nI (tkd T L j) ∧ I (t + 3) j = nI (pos T L j) ∧ I (t + 4) j = nI (te T L j) ∧ ((tkd T L j = 1 ∨ tkd T L j = 2 ∨ tkd T L j = 4 ∨ tkd T L j = 5) → I (t + 2) j = nI (tvN T L j))
theorem k_addT {kd v p e : Int32} {k : Nat} {P : MI → Prop} (hk : k ≤ 600) (e4 : I t 4 = nI k) (h : TkC t I T L k) (h1 : kd = nI (tkd T L k)) (h2 : (tkd T L k = 1 ∨ tkd T L k = 2 ∨ tkd T L k = 4 ∨ tkd T L k = 5) → v = nI (tvN T L k)) (h3 : p = nI (pos T L k)) (h4 : e = nI (te T L k))
    (hP : ∀ I', I' t 4 = nI (k + 1) → I' t 6 = I t 6 → TkC t I' T L (k + 1) → (∀ c, (c < t ∨ t + 4 < c) → I' c = I c) → P I') : w_X7_add t kd v p e I P := by
  unfold w_X7_add
  rw [e4]
  refine ⟨fun c => absurd ((nI_ltI (a := 600) (by omega) (by omega)).mp c) (by omega), fun _ => ⟨inn (by omega) (by omega), ?_⟩⟩
  rintro _ rfl
  rw [ui_ne _ _ _ (show t ≠ t + 1 by omega), e4, ixn (by omega)]
  refine ⟨inn (by omega) (by omega), ?_⟩
  rintro _ rfl
  rw [ui_ne _ _ _ (show t ≠ t + 2 by omega), ui_ne _ _ _ (show t ≠ t + 1 by omega), e4, ixn (by omega)]
  refine ⟨inn (by omega) (by omega), ?_⟩
  rintro _ rfl
  rw [ui_ne _ _ _ (show t ≠ t + 3 by omega), ui_ne _ _ _ (show t ≠ t + 2 by omega), ui_ne _ _ _ (show t ≠ t + 1 by omega), e4, ixn (by omega)]
  refine ⟨inn (by omega) (by omega), ?_⟩
  rintro _ rfl _ rfl
  rw [ui_ne _ _ _ (show t ≠ t + 4 by omega), ui_ne _ _ _ (show t ≠ t + 3 by omega), ui_ne _ _ _ (show t ≠ t + 2 by omega), ui_ne _ _ _ (show t ≠ t + 1 by omega), e4, nI_1]
  refine hP _ (ui_gs _ _ _ _) ?_ (fun j hj => ?_) (fun c hc => ?_)
  · rw [ui_gj _ _ _ (by omega), ui_ne _ _ _ (by omega), ui_ne _ _ _ (by omega), ui_ne _ _ _ (by omega), ui_ne _ _ _ (by omega)]
  · rw [ui_ne _ _ _ (show t + 1 ≠ t by omega), ui_ne _ _ _ (show t + 1 ≠ t + 4 by omega), ui_ne _ _ _ (show t + 1 ≠ t + 3 by omega), ui_ne _ _ _ (show t + 1 ≠ t + 2 by omega),
      ui_ne _ _ _ (show t + 3 ≠ t by omega), ui_ne _ _ _ (show t + 3 ≠ t + 4 by omega),
      ui_ne _ _ _ (show t + 4 ≠ t by omega), ui_ne _ _ _ (show t + 2 ≠ t by omega), ui_ne _ _ _ (show t + 2 ≠ t + 4 by omega), ui_ne _ _ _ (show t + 2 ≠ t + 3 by omega)]
    by_cases e : j = k
    · subst e
      rw [ui_gs, ui_gs, ui_gs, ui_gs]
      exact ⟨h1, h3, h4, h2⟩
    · rw [ui_gj _ _ _ e, ui_gj _ _ _ e, ui_gj _ _ _ e, ui_gj _ _ _ e, ui_ne _ _ _ (show t + 3 ≠ t + 2 by omega), ui_ne _ _ _ (show t + 3 ≠ t + 1 by omega), ui_ne _ _ _ (show t + 4 ≠ t + 3 by omega), ui_ne _ _ _ (show t + 4 ≠ t + 2 by omega), ui_ne _ _ _ (show t + 4 ≠ t + 1 by omega), ui_ne _ _ _ (show t + 2 ≠ t + 1 by omega)]
      exact h j (by omega)
  · rw [ui_ne _ _ _ (by omega), ui_ne _ _ _ (by omega), ui_ne _ _ _ (by omega), ui_ne _ _ _ (by omega), ui_ne _ _ _ (by omega)]
theorem dgv_s {p i : Nat} (h : p ≤ i) : dgv (byts T p (i + 1)) = dgv (byts T p i) * 10 + (T i - 48) := by
  unfold dgv byts
  rw [show i + 1 - p = (i - p) + 1 by omega, List.range_succ, List.map_append, List.foldl_append]
  show _ * 10 + (T (p + (i - p)) - 48) = _
  rw [show p + (i - p) = i by omega]
theorem byts_0 {p : Nat} : byts T p p = [] := by unfold byts; rw [Nat.sub_self]; rfl
/-- the last that is told of a token -/
def AdP (t : Nat) (I : MI) (T : Nat → Nat) (L k : Nat) (P : MI → Prop) : Prop := ∀ I', I' t 4 = nI (k + 1) → I' t 6 = I t 6 → TkC t I' T L (k + 1) → (∀ c, (c < t ∨ t + 4 < c) → I' c = I c) → P I'
theorem k_addLetters {k : Nat} {P : MI → Prop} (h : TpB t tp T I B) (hL : L ≤ 600) (hk : k ≤ 600) (e4 : I t 4 = nI k) (hT : TkC t I T L k) (hp : pos T L k < L) (hl : isLt (T (pos T L k)) = true) (hP : AdP t I T L k P) : w_X7_addLetters t (nI (pos T L k)) (nI (te T L k)) I B P := by
  obtain ⟨g1, g2⟩ := te_gt hp
  have h8 : ∀ n : Nat, n < 1000 → (nI (te T L k - pos T L k) ≤ nI n ↔ te T L k - pos T L k ≤ n) := fun n hn => nI_leI (by omega) (by omega)
  have ek : ∀ kd : Nat, (tkd T L k = kd) → nI kd = nI (tkd T L k) := fun kd q => by rw [q]
  have kd : tkd T L k = (if 8 < te T L k - pos T L k then 0 else if te T L k - pos T L k = 1 then (if T (pos T L k) ≤ 104 then 2 else 0) else if wno (byts T (pos T L k) (te T L k)) = 20 then 3 else 1) := by
    unfold tkd; rw [if_neg (by omega), if_pos hl]
  have tv : tvN T L k = (if te T L k - pos T L k = 1 then T (pos T L k) - 97 else wno (byts T (pos T L k) (te T L k))) := by
    unfold tvN; rw [if_pos hl]
  have hb := (h.2.2 (pos T L k) (by omega)).2
  have hr : 97 ≤ T (pos T L k) ∧ T (pos T L k) ≤ 122 := by unfold isLt at hl; exact of_decide_eq_true hl
  unfold w_X7_addLetters
  rw [nI_sub (by omega)]
  refine ⟨fun c8 => ⟨fun n1 => ?_, fun c1 => ?_⟩, fun c8 => ?_⟩
  · have c8 := (h8 8 (by omega)).mp c8
    have n1 : te T L k - pos T L k ≠ 1 := fun q => n1 (by rw [q]; rfl)
    rw [if_neg (by omega), if_neg n1] at kd
    rw [if_neg n1] at tv
    refine k_wordNumber h (by omega) (by omega) ?_
    by_cases w : wno (byts T (pos T L k) (te T L k)) = 20
    · rw [if_pos w] at kd ⊢
      exact ⟨fun c => absurd rfl c, fun _ => k_addT hk e4 hT (ek 3 kd) (fun q => by omega) rfl rfl hP⟩
    · rw [if_neg w] at kd ⊢
      have wl : ∀ (d j : Nat) (l : List Nat), wnoR l d j ≤ j + d := fun d => by
        induction d with
        | zero => intro j l; exact Nat.le_refl _
        | succ d ih =>
          intro j l
          show (if WL j = l then j else wnoR l d (j + 1)) ≤ _
          split
          · omega
          · have := ih (j + 1) l; omega
      have wb : wno (byts T (pos T L k) (te T L k)) ≤ 20 := by have := wl 20 0 (byts T (pos T L k) (te T L k)); exact this
      refine ⟨fun _ => k_addT hk e4 hT (ek 1 kd) (fun _ => by rw [tv]) rfl rfl hP, fun c => ?_⟩
      have q : (-1 : Int32) < 0 := by decide
      rw [← c] at q
      exact absurd q (nI_pos (by omega))
  · have c1 : te T L k - pos T L k = 1 := nI_inj (b := 1) (by omega) (by omega) c1
    rw [if_neg (by omega), if_pos c1] at kd
    rw [if_pos c1] at tv
    refine ⟨h.bb, inn (by omega) (by omega), ?_⟩
    rintro _ rfl
    rw [h.at (by omega), byS_low _ (by omega), show nI (T (pos T L k)) - 97 = nI (T (pos T L k) - 97) from nI_sub (z := 97) (by omega)]
    by_cases q : T (pos T L k) ≤ 104
    · rw [if_pos q] at kd
      exact k_Register1 (by omega) ⟨fun c => absurd c (by decide), fun _ => k_addT hk e4 hT (ek 2 kd) (fun _ => by rw [tv]) rfl rfl hP⟩
    · rw [if_neg q] at kd
      exact k_Register0 (Or.inr (nI_lt (a := 7) (by omega) (by omega))) ⟨fun _ => k_addT hk e4 hT (ek 0 kd) (fun q => by omega) rfl rfl hP, fun c => absurd rfl c⟩
  · have c8 : 8 < te T L k - pos T L k := Nat.not_le.mp fun q => c8 ((h8 8 (by omega)).mpr q)
    rw [if_pos c8] at kd
    exact k_addT hk e4 hT (ek 0 kd) (fun q => by omega) rfl rfl hP
theorem k_addDigits {k : Nat} {P : MI → Prop} (h : TpB t tp T I B) (hL : L ≤ 600) (hk : k ≤ 600) (e4 : I t 4 = nI k) (hT : TkC t I T L k) (hp : pos T L k < L) (hl : isLt (T (pos T L k)) = false) (hd : isDg (T (pos T L k)) = true) (hP : AdP t I T L k P) : w_X7_addDigits t (nI (pos T L k)) (nI (te T L k)) I B P := by
  obtain ⟨g1, g2⟩ := te_gt hp
  have ee : te T L k = runE isDg T L (pos T L k + 1) := by unfold te tkE; rw [if_neg (by omega), hl, if_neg (by decide), if_pos hd]
  have ek : ∀ kd : Nat, (tkd T L k = kd) → nI kd = nI (tkd T L k) := fun kd q => by rw [q]
  have kd : tkd T L k = (if 3 < te T L k - pos T L k then 0 else 4) := by
    unfold tkd; rw [if_neg (by omega), hl, if_neg (by decide), if_pos hd]
  have tv : tvN T L k = dgv (byts T (pos T L k) (te T L k)) := by
    unfold tvN; rw [hl, if_neg (by decide), if_pos hd]
  have hdg : ∀ j, pos T L k ≤ j → j < te T L k → 48 ≤ T j ∧ T j ≤ 57 := fun j h1 h2 => by
    have : isDg (T j) = true := by
      by_cases e : j = pos T L k
      · rw [e]; exact hd
      · exact runE_in (p := pos T L k + 1) (by omega) (by rw [← ee]; exact h2)
    unfold isDg at this
    exact of_decide_eq_true this
  unfold w_X7_addDigits
  rw [nI_sub (by omega)]
  refine ⟨fun c => ?_, fun c => ?_⟩
  · have c3 : te T L k - pos T L k ≤ 3 := (nI_leI (b := 3) (by omega) (by omega)).mp c
    rw [if_neg (by omega)] at kd
    refine Lp2.of (fun x y => ∃ i, pos T L k ≤ i ∧ i ≤ te T L k ∧ x = nI (dgv (byts T (pos T L k) i)) ∧ y = nI i) (fun _ y => 700 - ix y) ?_ _ _ ⟨pos T L k, Nat.le_refl _, by omega, by rw [byts_0]; rfl, rfl⟩
    rintro rec x y ⟨i, h1, h2, rfl, rfl⟩ hrec
    unfold w_X7_addDigits_l21
    refine ⟨fun c => ?_, fun c => ?_⟩
    · have := (nI_leI (by omega) (by omega)).mp c
      have e : i = te T L k := by omega
      subst e
      exact k_addT hk e4 hT (ek 4 kd) (fun _ => by rw [tv]) rfl rfl hP
    · have hlt : i < te T L k := Nat.not_le.mp fun q => c (nI_le q (by omega))
      obtain ⟨d1, d2⟩ := hdg i h1 hlt
      refine ⟨h.bb, inn (by omega) (by omega), ?_⟩
      rintro _ rfl
      rw [h.at (by omega), byS_low _ (by omega)]
      refine hrec _ _ ⟨i + 1, by omega, by omega, ?_, nI_1 i⟩ (by rw [nI_1, ixn (by omega), ixn (by omega)]; omega)
      rw [show nI (dgv (byts T (pos T L k) i)) * 10 = nI (dgv (byts T (pos T L k) i) * 10) from pk_mul _ 10, nI_add, dgv_s h1]
      exact (nI_sub (z := 48) (by omega)).trans (congrArg nI (by omega))
  · have c3 : 3 < te T L k - pos T L k := Nat.not_le.mp fun q => c (nI_le (b := 3) q (by omega))
    rw [if_pos c3] at kd
    exact k_addT hk e4 hT (ek 0 kd) (fun q => by omega) rfl rfl hP
theorem k_scanOne {k : Nat} {P : Int32 → MI → Prop} (h : TpB t tp T I B) (hL : L ≤ 600) (e6 : I t 6 = nI L) (hk : k ≤ 600) (e4 : I t 4 = nI k) (hT : TkC t I T L k) (hp : pos T L k < L) (hP : AdP t I T L k (P (nI (te T L k)))) : w_X7_scanOne t (nI (pos T L k)) I B P := by
  obtain ⟨g1, g2⟩ := te_gt hp
  have hb := (h.2.2 (pos T L k) (by omega)).2
  have ek : ∀ kd : Nat, (tkd T L k = kd) → nI kd = nI (tkd T L k) := fun kd q => by rw [q]
  unfold w_X7_scanOne
  refine ⟨h.bb, inn (by omega) (by omega), ?_⟩
  rintro _ rfl _ rfl
  rw [h.at (by omega), nI_1]
  refine k_isLt hb ?_
  by_cases hl : isLt (T (pos T L k)) = true
  · rw [if_pos hl]
    refine ⟨fun c => absurd c (by decide), fun _ => ?_⟩
    have ee : te T L k = runE isLt T L (pos T L k + 1) := by unfold te tkE; rw [if_neg (by omega), if_pos hl]
    refine Lp1.of (fun x => ∃ q, pos T L k < q ∧ q ≤ L ∧ x = nI q ∧ runE isLt T L q = te T L k) (fun x => 700 - ix x) ?_ _ ⟨pos T L k + 1, by omega, by omega, rfl, ee.symm⟩
    rintro rec x ⟨q, h1, h2, rfl, h3⟩ hrec
    have stop : te T L k = q → w_X7_addLetters t (nI (pos T L k)) (nI q) I B (fun I29 => P (nI q) I29) := fun eq => by
      rw [← eq]
      exact k_addLetters h hL hk e4 hT hp hl hP
    unfold w_X7_scanOne_l18
    rw [e6]
    refine ⟨fun c => ?_, fun c => ?_⟩
    · have := (nI_leI (by omega) (by omega)).mp c
      rw [runE_stop (Or.inl this)] at h3
      exact stop h3.symm
    · have hlt : q < L := Nat.not_le.mp fun r => c (nI_le r (by omega))
      refine ⟨h.bb, inn (by omega) (by omega), ?_⟩
      rw [h.at (by omega)]
      refine k_isLt (h.2.2 q (by omega)).2 ?_
      by_cases g : isLt (T q) = true
      · rw [if_pos g]
        exact ⟨fun c => absurd c (by decide), fun _ => hrec _ ⟨q + 1, by omega, by omega, nI_1 q, by rw [← runE_step hlt g]; exact h3⟩ (by rw [nI_1, ixn (by omega), ixn (by omega)]; omega)⟩
      · rw [if_neg g]
        rw [Bool.not_eq_true] at g
        rw [runE_stop (Or.inr g)] at h3
        exact ⟨fun _ => stop h3.symm, fun c => absurd rfl c⟩
  · rw [if_neg hl]
    rw [Bool.not_eq_true] at hl
    refine ⟨fun _ => k_isDg hb ?_, fun c => absurd rfl c⟩
    by_cases hd : isDg (T (pos T L k)) = true
    · rw [if_pos hd]
      refine ⟨fun c => absurd c (by decide), fun _ => ?_⟩
      have ee : te T L k = runE isDg T L (pos T L k + 1) := by unfold te tkE; rw [if_neg (by omega), hl, if_neg (by decide), if_pos hd]
      refine Lp1.of (fun x => ∃ q, pos T L k < q ∧ q ≤ L ∧ x = nI q ∧ runE isDg T L q = te T L k) (fun x => 700 - ix x) ?_ _ ⟨pos T L k + 1, by omega, by omega, rfl, ee.symm⟩
      rintro rec x ⟨q, h1, h2, rfl, h3⟩ hrec
      have stop : te T L k = q → w_X7_addDigits t (nI (pos T L k)) (nI q) I B (fun I29 => P (nI q) I29) := fun eq => by
        rw [← eq]
        exact k_addDigits h hL hk e4 hT hp hl hd hP
      unfold w_X7_scanOne_l60
      rw [e6]
      refine ⟨fun c => ?_, fun c => ?_⟩
      · have := (nI_leI (by omega) (by omega)).mp c
        rw [runE_stop (Or.inl this)] at h3
        exact stop h3.symm
      · have hlt : q < L := Nat.not_le.mp fun r => c (nI_le r (by omega))
        refine ⟨h.bb, inn (by omega) (by omega), ?_⟩
        rw [h.at (by omega)]
        refine k_isDg (h.2.2 q (by omega)).2 ?_
        by_cases g : isDg (T q) = true
        · rw [if_pos g]
          exact ⟨fun c => absurd c (by decide), fun _ => hrec _ ⟨q + 1, by omega, by omega, nI_1 q, by rw [← runE_step hlt g]; exact h3⟩ (by rw [nI_1, ixn (by omega), ixn (by omega)]; omega)⟩
        · rw [if_neg g]
          rw [Bool.not_eq_true] at g
          rw [runE_stop (Or.inr g)] at h3
          exact ⟨fun _ => stop h3.symm, fun c => absurd rfl c⟩
    · rw [if_neg hd]
      rw [Bool.not_eq_true] at hd
      have ee : te T L k = pos T L k + 1 := by unfold te tkE; rw [if_neg (by omega), hl, if_neg (by decide), hd, if_neg (by decide)]
      refine ⟨fun _ => k_isSg hb ?_, fun c => absurd rfl c⟩
      rw [ee] at hP
      by_cases hs' : isSg (T (pos T L k)) = true
      · rw [if_pos hs']
        have kd : tkd T L k = 5 := by unfold tkd; rw [if_neg (by omega), hl, if_neg (by decide), hd, if_neg (by decide), if_pos hs']
        have tv : tvN T L k = T (pos T L k) := by unfold tvN; rw [hl, if_neg (by decide), hd, if_neg (by decide)]
        have hr : 58 ≤ T (pos T L k) ∧ T (pos T L k) ≤ 62 := by unfold isSg at hs'; exact of_decide_eq_true hs'
        exact ⟨fun c => absurd c (by decide), fun _ => k_addT hk e4 hT (ek 5 kd) (fun _ => by rw [tv]; exact byS_low _ (by omega)) rfl (by rw [ee]) hP⟩
      · rw [if_neg hs']
        have kd : tkd T L k = 0 := by unfold tkd; rw [Bool.not_eq_true] at hs'; rw [if_neg (by omega), hl, if_neg (by decide), hd, if_neg (by decide), hs', if_neg (by decide)]
        exact ⟨fun _ => k_addT hk e4 hT (ek 0 kd) (fun q => by omega) rfl (by rw [ee]) hP, fun c => absurd rfl c⟩
/-- all tokens: n of them, and the end -/
def Toks (t : Nat) (I : MI) (T : Nat → Nat) (L n : Nat) : Prop := TkC t I T L (n + 1) ∧ n ≤ 600 ∧ pos T L n = L ∧ ∀ j, j < n → pos T L j < L
theorem k_scan {P : MI → MR → Prop} (ht : tp + 101 = t) (hL : L ≤ 600) (hT : ∀ k, k < 600 → I tp k = byS (T k) ∧ T k < 256) (hP : ∀ I' B' n, Toks t I' T L n → TpB t tp T I' B' → (∀ c, (c < t ∨ t + 4 < c) → I' c = I c) → (∀ c j, (c ≠ t ∨ j ≠ 5) → B' c j = B c j) → P I' B') : w_X7_scan t tp (nI L) I B P := by
  unfold w_X7_scan
  rintro _ rfl
  have eL : (if (0 : Int32) < (if (if (600 : Int32) < (600) then (600) else (600)) < nI L then (if (600 : Int32) < (600) then (600) else (600)) else nI L) then (if (if (600 : Int32) < (600) then (600) else (600)) < nI L then (if (600 : Int32) < (600) then (600) else (600)) else nI L) else (0)) = nI L := by
    rw [if_neg (show ¬ (600 : Int32) < 600 by decide), if_neg (show ¬ (600 : Int32) < nI L from fun c => absurd ((nI_ltI (a := 600) (by omega) (by omega)).mp c) (by omega))]
    by_cases q : L = 0
    · subst q; rfl
    · rw [if_pos (show (0 : Int32) < nI L from nI_lt (a := 0) (by omega) (by omega))]
  rw [eL]
  rintro _ rfl _ rfl
  generalize hI1 : ui (ui I t 6 (nI L)) t 4 0 = I1
  have f1 : ∀ c, c ≠ t → I1 c = I c := fun c hc => by rw [← hI1, ui_ne _ _ _ hc, ui_ne _ _ _ hc]
  have hB : ur B t 5 tp t 5 = tp := by unfold ur; rw [if_pos rfl]; exact if_pos rfl
  have hB2 : ∀ c j, (c ≠ t ∨ j ≠ 5) → ur B t 5 tp c j = B c j := fun c j hc => by
    unfold ur
    by_cases e : c = t
    · rw [if_pos e]; exact if_neg (hc.resolve_left (fun q => q e))
    · rw [if_neg e]
  have pk : ∀ j, j ≤ pos T L j ∨ ∃ i, i < j ∧ pos T L i = L := fun j => by
    induction j with
    | zero => exact Or.inl (Nat.zero_le _)
    | succ j ih =>
      rcases ih with q | ⟨i, hi, e⟩
      · rcases Nat.lt_or_ge (pos T L j) L with r | r
        · left; have := pos_mono (k := j) r; omega
        · exact Or.inr ⟨j, by omega, by have := pos_le (T := T) (L := L) j; omega⟩
      · exact Or.inr ⟨i, by omega, e⟩
  refine Lp3.of (fun x z I' => ∃ q k s, s ≤ q ∧ q ≤ L ∧ x = nI q ∧ z = nI s ∧ I' t 4 = nI k ∧ I' t 6 = nI L ∧ TkC t I' T L k ∧ (∀ j, j < k → pos T L j < L) ∧ runE isBl T L q = pos T L k ∧ (∀ c, (c < t ∨ t + 4 < c) → I' c = I c)) (fun x _ _ => 700 - ix x) ?_ _ _ _ ⟨0, 0, 0, by omega, by omega, rfl, rfl, by rw [← hI1, ui_gs]; rfl, by rw [← hI1, ui_gj _ _ _ (by omega), ui_gs], fun j hj => by omega, fun j hj => by omega, rfl, fun c hc => f1 c (by omega)⟩
  rintro rec x z I' ⟨q, k, s, hs, hq, rfl, rfl, e4, e6, hC, hlt, hrun, hF⟩ hrec
  have hk : k ≤ 600 := by
    rcases pk k with r | ⟨i, hi, e⟩
    · have := pos_le (T := T) (L := L) k; omega
    · have := hlt i hi; omega
  have hTB : TpB t tp T I' (ur B t 5 tp) := ⟨hB, ht, fun k hk => by rw [hF tp (by omega)]; exact hT k hk⟩
  have stop : L ≤ q → w_X7_add t (6 : Int32) (-1 : Int32) (nI L) (nI L) I' (fun I5 => P I5 (ur B t 5 tp)) := fun this => by
    rw [runE_stop (Or.inl this)] at hrun
    have eL : pos T L k = L := by omega
    have kd : tkd T L k = 6 := by unfold tkd; rw [if_pos (by omega)]
    have ee : te T L k = L := by unfold te tkE; rw [if_pos (by omega)]
    refine k_addT hk e4 hC (by rw [kd]; rfl) (fun r => by omega) (by rw [eL]) (by rw [ee]) (fun I2 _ _ h2 f2 => hP I2 _ k ⟨h2, hk, eL, hlt⟩ (hTB.fr (f2 tp (by omega))) (fun c hc => by rw [f2 c hc, hF c hc]) hB2)
  unfold w_X7_scan_l35
  rw [e6]
  refine ⟨fun c => ?_, fun _ => ⟨fun c => stop ((nI_leI (by omega) (by omega)).mp c), fun c => ?_⟩⟩
  · have := (nI_leI (by omega) (by omega)).mp c
    exact stop (by omega)
  · have hql : q < L := Nat.not_le.mp fun r => c (nI_le r (by omega))
    refine ⟨hTB.bb, inn (by omega) (by omega), ?_⟩
    rw [hTB.at (by omega)]
    refine k_isBl (hT q (by omega)).2 ?_
    by_cases g : isBl (T q) = true
    · rw [if_pos g]
      exact ⟨fun c => absurd c (by decide), fun _ x3 ex3 => hrec _ _ _ ⟨q + 1, k, s + 1, by omega, by omega, by rw [ex3]; exact nI_1 q, nI_1 s, e4, e6, hC, hlt, by rw [← runE_step hql g]; exact hrun, hF⟩ (by rw [ex3, nI_1, ixn (by omega), ixn (by omega)]; omega)⟩
    · rw [if_neg g]
      rw [Bool.not_eq_true] at g
      rw [runE_stop (Or.inr g)] at hrun
      subst hrun
      refine ⟨fun _ => k_scanOne hTB hL e6 hk e4 hC hql (fun I2 a4 a6 a2 f2 => ?_), fun c => absurd rfl c⟩
      have tg := te_gt hql
      refine hrec _ _ _ ⟨te T L k, k + 1, s + 1, by omega, tg.2, rfl, nI_1 s, a4, by rw [a6]; exact e6, a2, fun j hj => ?_, rfl, fun c hc => by rw [f2 c hc, hF c hc]⟩ (by rw [ixn (by omega), ixn (by omega)]; omega)
      by_cases e : j = k
      · subst e; exact hql
      · exact hlt j (by omega)
end
