section
variable {r n L R tp : Nat} {T : Nat → Nat} {I : MI} {B : MR} {s : PS} {V : Nat → Int32} {nm am : Nat → Nat}
/-- something of the draft is set -/
theorem LCm.set {c k q : Nat} {x : Int32} {I1 : MI} {s1 : PS} (hm : LCm r I T L n s R V nm am) (f : RdF r I I1) (d : CT r I1 T L n 0 s1) (hb : s1.2.1 = false → s.2.1 = false) (hc : r + 1 ≤ c ∧ c ≤ r + 5) (hq : q < 48) (hRT : s1.2.1 = false → RelT (r + 1) (ui I1 c k x) (upd V q x)) : LCm r (ui I1 c k x) T L n s1 R (upd V q x) nm am := by
  obtain ⟨-, hT, hSg, hg⟩ := hm
  have o1 : ∀ y, y ≠ r → y ≠ c → ui I1 c k x y = I y := fun y h1 h2 => by rw [ui_ne _ _ _ h2, f.1 y h1]
  refine ⟨d.fr (ui_ne _ _ _ (by omega)), hT.fr (fun y h1 h2 => o1 y (by omega) (by omega)), fun i hi => by rw [o1 _ (by omega) (by omega)]; exact hSg i hi, fun z => ?_⟩
  obtain ⟨e5, -, hrows, hN, hA⟩ := hg (hb z)
  have cl := cap_le R
  exact ⟨by rw [ui_ne _ _ _ (by omega), f.2 5 (by omega) (by omega) (by omega)]; exact e5, hRT z, fun i hi => (hrows i hi).fr (o1 _ (by omega) (by omega)) (fun j h1 h2 => upd_n _ _ (by omega)) rfl, fun i => by rw [o1 _ (by omega) (by omega)]; exact hN i, fun i => by rw [o1 _ (by omega) (by omega)]; exact hA i⟩
theorem LMm.set {o k : Nat} {I1 : MI} {J J1 : MJ} {x : Int32} {s1 : PS} {Rn X : Nat} (hm : LMm o I J T L n s R V nm Rn am X) (f : MtF o I I1) (j : JF o J J1) (c : MT o I1 J1 T L n 0 s1) (hb : s1.2.1 = false → s.2.1 = false) (hk : k < 48) : LMm o (ui I1 (o + 1) (ix (nI (1032 + k))) x) J1 T L n s1 R (upd V k x) nm Rn am X ∧ MdF o I (ui I1 (o + 1) (ix (nI (1032 + k))) x) := by
  have F : MsF o I (ui I1 (o + 1) (ix (nI (1032 + k))) x) := (MsF.mt f).tr (MsF.wr (by omega))
  refine ⟨⟨MB.wr ⟨c, fun z => (hm.1.2 (hb z)).mt f⟩ (by omega), fun z => ?_⟩, MdF.ms F⟩
  obtain ⟨v48, M, W, n1, n2, n3⟩ := hm.2 (hb z)
  exact ⟨by rw [upd_n _ _ (by omega)]; exact v48, M, W, n1.fr (F.2.2 23 (by omega) (by omega) (by omega)) (F.1 _ (by omega) (by omega)) (fun i => j _ _ (Or.inl (by omega))), n2, n3.fr (Nat.le_refl _) (fun _ _ => rfl) (fun i h1 h2 => by omega) (F.2.2 24 (by omega) (by omega) (by omega)) (F.1 _ (by omega) (by omega)) (F.1 _ (by omega) (by omega)) (fun i => j _ _ (Or.inl (by omega)))⟩
theorem ws_tab : (1818326117 : Int64) = lN (pkv (WL 0)) ∧ (1919905645 : Int64) = lN (pkv (WL 1)) ∧ (1667591276 : Int64) = lN (pkv (WL 2)) ∧ (7497063 : Int64) = lN (pkv (WL 3)) ∧ (1801807216 : Int64) = lN (pkv (WL 4)) := by decide +kernel
/-- one setting, up to its end -/
theorem q_set {P : MI → Prop} (hL : L ≤ 600) (hm : LCm r I T L n s R V nm am) (hq : s.2.1 = false ∧ tkd T L s.1 = 1 ∧ tvN T L s.1 < 5)
    (hP : ∀ I' s' V', LCm r I' T L n s' R V' nm am → s.1 < s'.1 → Kp s s' → V' 48 = V 48 → RrF r I I' →
      (∀ (o : Nat) (I : MI) (J : MJ) (X : Nat) (S : MI → MJ → Prop), LMm o I J T L n s R V nm R am X → (∀ I' J', LMm o I' J' T L n s' R V' nm R am X → MdF o I I' → w_X10_readsLine_p190 o I' J' S) → w_X10_readsLine o I J S) → P I') : w_X4_readSetting r I P := by
  obtain ⟨w0, w1, w2, w3, w4⟩ := ws_tab
  have hm' := hm
  obtain ⟨d, hT, hSg, hg⟩ := hm
  obtain ⟨e5, hRT, -⟩ := hg hq.1
  have ea : aTake T L 1 s = (tvN T L s.1, aAdv s) := by unfold aTake; exact if_pos ⟨hq.1, hq.2.1⟩
  have no : ∀ {o : Nat} {I : MI} {J : MJ} {j : Nat} {w : Int64} {S : Int32 → MI → MJ → Prop}, MT o I J T L n 0 s → j < 20 → w = lN (pkv (WL j)) → tvN T L s.1 ≠ j → S 0 I J → w_X10_hasWord o w I J S := fun c hj hw hne h => t_hasWord c hj hw (fun z => absurd z.2.2 hne) (fun _ => h)
  have yes : ∀ {o : Nat} {I : MI} {J : MJ} {j : Nat} {w : Int64} {S : Int32 → MI → MJ → Prop}, MT o I J T L n 0 s → j < 20 → w = lN (pkv (WL j)) → tvN T L s.1 = j → (∀ I' J', MT o I' J' T L n 0 (aAdv s) → MtF o I I' → JF o J J' → S 1 I' J') → w_X10_hasWord o w I J S := fun c hj hw he h => t_hasWord c hj hw (fun _ => h) (fun z => absurd ⟨hq.1, hq.2.1, he⟩ z)
  have ka : Kp s (aAdv s) := fun _ => rfl
  unfold w_X4_readSetting
  refine k_takes (kd := 1) d hT (by omega) (fun I1 d1 f1 => ?_)
  have e1 : (aTake T L 1 s).1 = tvN T L s.1 := by rw [ea]
  have d1 : CT r I1 T L n 0 (aAdv s) := by rw [ea] at d1; exact d1
  rw [e1]
  have T1 := hT.rd f1
  have ne : ∀ z : Nat, z < 9 → z ≠ tvN T L s.1 → ¬ nI (tvN T L s.1) = nI z := fun z hz hne q => hne (nI_inj (by omega) (by omega) q).symm
  have hcs : tvN T L s.1 = 0 ∨ tvN T L s.1 = 1 ∨ tvN T L s.1 = 2 ∨ tvN T L s.1 = 3 ∨ tvN T L s.1 = 4 := by omega
  rcases hcs with e | e | e | e | e
  · rw [e]
    refine ⟨fun _ => ?_, fun q => absurd q (by decide), fun q => absurd q (by decide), fun q => absurd q (by decide), fun q => absurd rfl q⟩
    refine k_takeNumber (lo := 1) (hi := 9) d1 rfl T1 hL (by omega) (by omega) (fun I2 d2 f2 => ?_)
    rintro _ rfl
    have b := aNum_bd (T := T) (L := L) (s := aAdv s) (lo := 1) (hi := 9) (by omega)
    have up : s.1 + 1 ≤ (aNum T L 1 9 (aAdv s)).2.1 := aNum_up (s := aAdv s)
    refine hP _ _ (upd V 0 (nI (aNum T L 1 9 (aAdv s)).1)) (hm'.set (f1.tr f2) d2 (fun _ => hq.1) (by omega) (by omega) (fun _ => (hRT.fr (fun c h1 h2 => (f1.tr f2).1 c (by omega)) (fun _ _ => rfl)).sLate b.1 b.2)) (by omega) (ka.tr aNum_kp) (upd_n _ _ (by omega)) (fun c hc => by rw [ui_ne _ _ _ (by omega), (f1.tr f2).1 c (by omega)]) (fun o I J X S hl hS => ?_)
    unfold w_X10_readsLine
    refine yes hl.1.1 (by omega) w0 e (fun I1 J1 c1 g1 j1 => ⟨fun q => absurd q (by decide), fun _ => t_numeral (lo := 1) (hi := 9) c1 (by omega) (by omega) (fun I2 J2 c2 g2 j2 => ?_)⟩)
    rintro _ rfl
    obtain ⟨l1, l2⟩ := hl.set (k := 0) (x := nI (aNum T L 1 9 (aAdv s)).1) (g1.tr g2) (j1.tr j2) c2 (fun _ => hq.1) (by omega)
    exact hS _ _ l1 l2
  · rw [e]
    refine ⟨fun q => absurd q (by decide), fun _ => ?_, fun q => absurd q (by decide), fun q => absurd q (by decide), fun _ q => absurd rfl q⟩
    refine k_takeQueue d1 T1 (fun I2 d2 f2 => k_takeNumber (lo := 1) (hi := 6) d2 rfl (T1.rd f2) hL (by omega) (by omega) (fun I3 d3 f3 => ?_))
    have bq := aQue_bd (T := T) (L := L) (s := aAdv s)
    have b := aNum_bd (T := T) (L := L) (s := (aQue T L (aAdv s)).2) (lo := 1) (hi := 6) (by omega)
    have up : s.1 + 1 ≤ (aNum T L 1 6 (aQue T L (aAdv s)).2).2.1 := Nat.le_trans (aQue_up (s := aAdv s)) aNum_up
    rw [ixn (by omega)]
    refine ⟨inn bq (by omega), ?_⟩
    rintro _ rfl
    have F := (f1.tr f2).tr f3
    refine hP _ _ (upd V (1 + (aQue T L (aAdv s)).1) (nI (aNum T L 1 6 (aQue T L (aAdv s)).2).1)) (hm'.set F d3 (fun _ => hq.1) (by omega) (by omega) (fun _ => (hRT.fr (fun c h1 h2 => F.1 c (by omega)) (fun _ _ => rfl)).sRoom bq b.1 b.2)) (by omega) (ka.tr (aQue_kp.tr aNum_kp)) (upd_n _ _ (by omega)) (fun c hc => by rw [ui_ne _ _ _ (by omega), F.1 c (by omega)]) (fun o I J X S hl hS => ?_)
    unfold w_X10_readsLine
    refine no hl.1.1 (by omega) w0 (by omega) ⟨fun _ => ?_, fun q => absurd rfl q⟩
    refine yes hl.1.1 (by omega) w1 e (fun I1 J1 c1 g1 j1 => ⟨fun q => absurd q (by decide), fun _ => t_queueTaken c1 (fun I2 J2 c2 g2 j2 => t_numeral (lo := 1) (hi := 6) c2 (by omega) (by omega) (fun I3 J3 c3 g3 j3 => ?_))⟩)
    rw [show (1033 : Int32) + nI (aQue T L (aAdv s)).1 = nI (1032 + (1 + (aQue T L (aAdv s)).1)) from (nI_add 1033 _).trans (congrArg nI (by omega))]
    refine ⟨in_k (by omega), ?_⟩
    rintro _ rfl
    obtain ⟨l1, l2⟩ := hl.set (k := 1 + (aQue T L (aAdv s)).1) (x := nI (aNum T L 1 6 (aQue T L (aAdv s)).2).1) ((g1.tr g2).tr g3) ((j1.tr j2).tr j3) c3 (fun _ => hq.1) (by omega)
    exact hS _ _ l1 l2
  · rw [e]
    refine ⟨fun q => absurd q (by decide), fun q => absurd q (by decide), fun _ => ?_, fun q => absurd q (by decide), fun _ _ q => absurd rfl q⟩
    refine k_takeNumber (lo := 0) (hi := 31) d1 rfl T1 hL (by omega) (by omega) (fun I2 d2 f2 => k_takeNumber (lo := 0) (hi := 999) d2 rfl (T1.rd f2) hL (by omega) (by omega) (fun I3 d3 f3 => ?_))
    have bq := aNum_bd (T := T) (L := L) (s := aAdv s) (lo := 0) (hi := 31) (by omega)
    have b := aNum_bd (T := T) (L := L) (s := (aNum T L 0 31 (aAdv s)).2) (lo := 0) (hi := 999) (by omega)
    have up : s.1 + 1 ≤ (aNum T L 0 999 (aNum T L 0 31 (aAdv s)).2).2.1 := Nat.le_trans (aNum_up (s := aAdv s)) aNum_up
    rw [ixn (by omega)]
    refine ⟨inn (by omega) (by omega), ?_⟩
    rintro _ rfl
    have F := (f1.tr f2).tr f3
    refine hP _ _ (upd V (7 + (aNum T L 0 31 (aAdv s)).1) (nI (aNum T L 0 999 (aNum T L 0 31 (aAdv s)).2).1)) (hm'.set F d3 (fun _ => hq.1) (by omega) (by omega) (fun _ => (hRT.fr (fun c h1 h2 => F.1 c (by omega)) (fun _ _ => rfl)).sCell (by omega) (by omega))) (by omega) (ka.tr (aNum_kp.tr aNum_kp)) (upd_n _ _ (by omega)) (fun c hc => by rw [ui_ne _ _ _ (by omega), F.1 c (by omega)]) (fun o I J X S hl hS => ?_)
    unfold w_X10_readsLine
    refine no hl.1.1 (by omega) w0 (by omega) ⟨fun _ => ?_, fun q => absurd rfl q⟩
    refine no hl.1.1 (by omega) w1 (by omega) ⟨fun _ => ?_, fun q => absurd rfl q⟩
    refine yes hl.1.1 (by omega) w2 e (fun I1 J1 c1 g1 j1 => ⟨fun q => absurd q (by decide), fun _ => t_numeral (lo := 0) (hi := 31) c1 (by omega) (by omega) (fun I2 J2 c2 g2 j2 => t_numeral (lo := 0) (hi := 999) c2 (by omega) (by omega) (fun I3 J3 c3 g3 j3 => ?_))⟩)
    rw [show (1039 : Int32) + nI (aNum T L 0 31 (aAdv s)).1 = nI (1032 + (7 + (aNum T L 0 31 (aAdv s)).1)) from (nI_add 1039 _).trans (congrArg nI (by omega))]
    refine ⟨in_k (by omega), ?_⟩
    rintro _ rfl
    obtain ⟨l1, l2⟩ := hl.set (k := 7 + (aNum T L 0 31 (aAdv s)).1) (x := nI (aNum T L 0 999 (aNum T L 0 31 (aAdv s)).2).1) ((g1.tr g2).tr g3) ((j1.tr j2).tr j3) c3 (fun _ => hq.1) (by omega)
    exact hS _ _ l1 l2
  · rw [e]
    refine ⟨fun q => absurd q (by decide), fun q => absurd q (by decide), fun q => absurd q (by decide), fun _ => ?_, fun _ _ _ q => absurd rfl q⟩
    refine k_takes (kd := 2) d1 T1 (by omega) (fun I2 d2 f2 => k_takeNumber (lo := 0) (hi := 999) d2 rfl (T1.rd f2) hL (by omega) (by omega) (fun I3 d3 f3 => ?_))
    have bq := aTake_let (T := T) (L := L) (s := aAdv s)
    have b := aNum_bd (T := T) (L := L) (s := (aTake T L 2 (aAdv s)).2) (lo := 0) (hi := 999) (by omega)
    have up : s.1 + 1 ≤ (aNum T L 0 999 (aTake T L 2 (aAdv s)).2).2.1 := Nat.le_trans (aTake_up (s := aAdv s)) aNum_up
    rw [ixn (by omega)]
    refine ⟨inn (by omega) (by omega), ?_⟩
    rintro _ rfl
    have F := (f1.tr f2).tr f3
    refine hP _ _ (upd V (39 + (aTake T L 2 (aAdv s)).1) (nI (aNum T L 0 999 (aTake T L 2 (aAdv s)).2).1)) (hm'.set F d3 (fun _ => hq.1) (by omega) (by omega) (fun _ => (hRT.fr (fun c h1 h2 => F.1 c (by omega)) (fun _ _ => rfl)).sReg (by omega) (by omega))) (by omega) (ka.tr (aTake_kp.tr aNum_kp)) (upd_n _ _ (by omega)) (fun c hc => by rw [ui_ne _ _ _ (by omega), F.1 c (by omega)]) (fun o I J X S hl hS => ?_)
    unfold w_X10_readsLine
    refine no hl.1.1 (by omega) w0 (by omega) ⟨fun _ => ?_, fun q => absurd rfl q⟩
    refine no hl.1.1 (by omega) w1 (by omega) ⟨fun _ => ?_, fun q => absurd rfl q⟩
    refine no hl.1.1 (by omega) w2 (by omega) ⟨fun _ => ?_, fun q => absurd rfl q⟩
    refine yes hl.1.1 (by omega) w3 e (fun I1 J1 c1 g1 j1 => ⟨fun q => absurd q (by decide), fun _ => t_letter c1 (fun I2 J2 c2 g2 j2 => t_numeral (lo := 0) (hi := 999) c2 (by omega) (by omega) (fun I3 J3 c3 g3 j3 => ?_))⟩)
    rw [show (1071 : Int32) + nI (aTake T L 2 (aAdv s)).1 = nI (1032 + (39 + (aTake T L 2 (aAdv s)).1)) from (nI_add 1071 _).trans (congrArg nI (by omega))]
    refine ⟨in_k (by omega), ?_⟩
    rintro _ rfl
    obtain ⟨l1, l2⟩ := hl.set (k := 39 + (aTake T L 2 (aAdv s)).1) (x := nI (aNum T L 0 999 (aTake T L 2 (aAdv s)).2).1) ((g1.tr g2).tr g3) ((j1.tr j2).tr j3) c3 (fun _ => hq.1) (by omega)
    exact hS _ _ l1 l2
  · rw [e]
    refine ⟨fun q => absurd q (by decide), fun q => absurd q (by decide), fun q => absurd q (by decide), fun q => absurd q (by decide), fun _ _ _ _ => ?_⟩
    refine k_takes (kd := 2) d1 T1 (by omega) (fun I2 d2 f2 => ?_)
    have bq := aTake_let (T := T) (L := L) (s := aAdv s)
    have up : s.1 + 1 ≤ (aTake T L 2 (aAdv s)).2.1 := aTake_up (s := aAdv s)
    unfold w_X9_bit
    rintro _ rfl
    have F := f1.tr f2
    have e3 : I1 (r + 1) 3 = V 47 := by rw [f1.1 _ (by omega)]; exact hRT.2.1
    rw [e3, bitN _ (by omega)]
    refine hP _ _ (upd V 47 (V 47 ||| nI (2 ^ (aTake T L 2 (aAdv s)).1))) (hm'.set F d2 (fun _ => hq.1) (by omega) (by omega) (fun _ => (hRT.fr (fun c h1 h2 => F.1 c (by omega)) (fun _ _ => rfl)).sKeep bq)) (by omega) (ka.tr aTake_kp) (upd_n _ _ (by omega)) (fun c hc => by rw [ui_ne _ _ _ (by omega), F.1 c (by omega)]) (fun o I J X S hl hS => ?_)
    unfold w_X10_readsLine
    refine no hl.1.1 (by omega) w0 (by omega) ⟨fun _ => ?_, fun q => absurd rfl q⟩
    refine no hl.1.1 (by omega) w1 (by omega) ⟨fun _ => ?_, fun q => absurd rfl q⟩
    refine no hl.1.1 (by omega) w2 (by omega) ⟨fun _ => ?_, fun q => absurd rfl q⟩
    refine no hl.1.1 (by omega) w3 (by omega) ⟨fun _ => ?_, fun q => absurd rfl q⟩
    refine yes hl.1.1 (by omega) w4 e (fun I1 J1 c1 g1 j1 => ⟨fun q => absurd q (by decide), fun _ => t_letter c1 (fun I2 J2 c2 g2 j2 => ?_)⟩)
    have e1079 : (1079 : Int32) = nI (1032 + 47) := rfl
    rw [e1079, bitN _ (by omega), ix_k (by omega), g1.1 _ (by omega), hl.1.2 hq.1 47 (by omega), ← ix_k (show 47 < 516 by omega)]
    rintro _ rfl
    obtain ⟨l1, l2⟩ := hl.set (k := 47) (x := V 47 ||| nI (2 ^ (aTake T L 2 (aAdv s)).1)) (g1.tr g2) (j1.tr j2) c2 (fun _ => hq.1) (by omega)
    exact hS _ _ l1 l2
/-- at the beginning of a line -/
def LIn (T : Nat → Nat) (L : Nat) (s : PS) (R : Nat) (V : Nat → Int32) (nm am : Nat → Nat) : Prop := PIm T L s R V am ∧ 4 * R ≤ pos T L s.1 ∧ ∀ i, R ≤ i → nm i = 0
/-- a line -/
theorem q_line {P : MI → Prop} (hL : L ≤ 600) (hB : TpB (r + 35) tp T I B) (hm : LCm r I T L n s R V nm am) (hg : s.2.1 = false) (h6 : tkd T L s.1 ≠ 6) (hI : LIn T L s R V nm am)
    (hP : ∀ I' s' R' V' nm' am', LCm r I' T L n s' R' V' nm' am' → (s'.2.1 = false → LIn T L s' R' V' nm' am') → (s'.2.1 = false → s.1 < s'.1) → RrF r I I' →
      (∀ (o : Nat) (I : MI) (J : MJ) (S : MI → MJ → Prop), LMm o I J T L n s R V nm R am (pos T L s.1) → (∀ I' J', LMm o I' J' T L n s' R' V' nm' R' am' (pos T L s'.1) → MdF o I I' → S I' J') → w_X10_readsLine o I J S) → P I') : w_X4_readLine r I B P := by
  obtain ⟨w0, w1, w2, w3, w4⟩ := ws_tab
  obtain ⟨⟨p48, p24, pz⟩, p4, pn⟩ := hI
  have psL := pos_s (T := T) (L := L) (k := s.1) h6
  have hR : R < 150 := by omega
  have d := hm.1
  have hT := hm.2.1
  have hn := hT.2.1
  have wk := d.1.1.1
  -- a setting
  by_cases hs : s.2.1 = false ∧ tkd T L s.1 = 1 ∧ tvN T L s.1 < 5
  · have ev : I (r + 37) s.1 = nI (tvN T L s.1) := (hT.1 s.1 (by omega)).2.2.2 (Or.inl hs.2.1)
    unfold w_X4_readLine
    refine k_isNext (kd := 1) d hT (by omega) (fun q => ⟨fun c => absurd c (by decide), fun _ => ?_⟩) (fun q => absurd ⟨hs.1, hs.2.1⟩ q)
    rw [d.2.1, ixn (by omega), ev]
    refine ⟨inn (by omega) (by omega), fun c => absurd ((nI_leI (a := 5) (by omega) (by omega)).mp c) (by omega), fun _ => ?_⟩
    refine q_set hL hm hs (fun I1 s1 V1 m1 u1 k1 e48 f1 g1 => k_takeSign (sg := 59) m1.1 m1.2.1 (by omega) (fun I2 d2 f2 => ?_))
    have cl := cap_le R
    refine hP I2 (aSgn T L 59 s1) R V1 nm am ⟨d2, m1.2.1.rd f2, fun i hi => by rw [f2.1 _ (by omega)]; exact m1.2.2.1 i hi, fun z => ?_⟩ (fun z => ⟨⟨e48.trans p48, fun i h1 h2 => ?_, pz⟩, ?_, pn⟩) (fun z => Nat.lt_of_lt_of_le u1 aSgn_up) (fun c hc => by rw [f2.1 c (by omega), f1 c hc]) (fun o I J S hl hS => g1 o I J _ S hl (fun I' J' hl' f' => ?_))
    · obtain ⟨a1, a2, a3, a4, a5⟩ := m1.2.2.2 (aSgn_br z)
      exact ⟨by rw [f2.2 5 (by omega) (by omega) (by omega)]; exact a1, a2.fr (fun c h1 h2 => f2.1 c (by omega)) (fun _ _ => rfl), fun i hi => (a3 i hi).fr (f2.1 _ (by omega)) (fun _ _ _ => rfl) rfl, fun i => by rw [f2.1 _ (by omega)]; exact a4 i, fun i => by rw [f2.1 _ (by omega)]; exact a5 i⟩
    · obtain ⟨b1, b2⟩ := p24 i h1 h2
      have := (k1.tr (aSgn_kp (T := T) (L := L) (c := 59))) b1
      rw [this]; exact ⟨b1, b2⟩
    · have := pos_up (T := T) (L := L) (k := s.1) (k' := (aSgn T L 59 s1).1) (Nat.le_trans (Nat.le_of_lt u1) aSgn_up)
      omega
    · unfold w_X10_readsLine_p190
      refine t_sign (sg := 59) hl'.1.1 (by omega) (fun I3 J3 c3 g3 j3 => hS I3 J3 ⟨⟨c3, fun z => (hl'.1.2 (aSgn_br z)).mt g3⟩, fun z => ?_⟩ (f'.tr (MdF.ms (MsF.mt g3))))
      obtain ⟨v48, M, W, n1, n2, n3⟩ := hl'.2 (aSgn_br z)
      have := pos_up (T := T) (L := L) (k := s.1) (k' := (aSgn T L 59 s1).1) (Nat.le_trans (Nat.le_of_lt u1) aSgn_up)
      exact ⟨v48, M, W, n1.fr (g3.2 23 (by omega) (by omega) (by omega)) (g3.1 _ (by omega)) (fun i => j3 _ _ (Or.inl (by omega))), by omega, n3.fr (Nat.le_refl _) (fun _ _ => rfl) (fun i h1 h2 => by omega) (g3.2 24 (by omega) (by omega) (by omega)) (g3.1 _ (by omega)) (g3.1 _ (by omega)) (fun i => j3 _ _ (Or.inl (by omega)))⟩
  · -- an instruction, perhaps with a name ahead
    have ins : ∀ (I0 : MI) (s0 : PS) (nm0 : Nat → Nat), LCm r I0 T L n s0 R V nm0 am → (s0.2.1 = false → PIm T L s0 R V am) → pos T L s.1 ≤ pos T L s0.1 → s.1 ≤ s0.1 → RrF r I I0 → (∀ i, R + 1 ≤ i → nm0 i = 0) →
        (∀ (o : Nat) (I : MI) (J : MJ) (S : MI → MJ → Prop), LMm o I J T L n s R V nm R am (pos T L s.1) → (∀ I' J', LMm o I' J' T L n s0 R V nm0 (R + 1) am (pos T L s0.1 + 4) → MdF o I I' → w_X10_isGood o I' (fun r23 => ((r23 = 0 → w_X10_readsLine_p190 o I' J' S) ∧ (¬ r23 = 0 → (w_X10_readsInstruction o I' J' (fun I27 J28 => w_X10_readsLine_p190 o I27 J28 S)))))) → w_X10_readsLine o I J S) →
        w_X4_readInstruction r I0 (fun I5 => w_X4_takeSign r 59 I5 (fun I6 => P I6)) := fun I0 s0 nm0 m0 i0 u0 u0' f0 z0 g0 => by
      refine q_instr hL m0 (fun z => ⟨i0 z, hR⟩) (fun I1 s1 V1 am1 m1 i1 k1 f1 hbr g1 => k_takeSign (sg := 59) m1.1 m1.2.1 (by omega) (fun I2 d2 f2 => ?_))
      have cl := cap_le (R + 1)
      have on : (aSgn T L 59 s1).2.1 = false → pos T L s0.1 + 4 ≤ pos T L (aSgn T L 59 s1).1 := fun z => by
        obtain ⟨q1, q2⟩ := aSgn_on (T := T) (L := L) z
        have := (i1 (aSgn_br z)).2.1
        rw [q1]; omega
      refine hP I2 (aSgn T L 59 s1) (R + 1) V1 nm0 am1 ⟨d2, m1.2.1.rd f2, fun i hi => by rw [f2.1 _ (by omega)]; exact m1.2.2.1 i hi, fun z => ?_⟩ (fun z => ?_) (fun z => ?_) (fun c hc => by rw [f2.1 c (by omega), f1 c hc, f0 c hc]) (fun o I J S hl hS => g0 o I J S hl (fun I' J' hl' f' => ?_))
      · obtain ⟨a1, a2, a3, a4, a5⟩ := m1.2.2.2 (aSgn_br z)
        exact ⟨by rw [f2.2 5 (by omega) (by omega) (by omega)]; exact a1, a2.fr (fun c h1 h2 => f2.1 c (by omega)) (fun _ _ => rfl), fun i hi => (a3 i hi).fr (f2.1 _ (by omega)) (fun _ _ _ => rfl) rfl, fun i => by rw [f2.1 _ (by omega)]; exact a4 i, fun i => by rw [f2.1 _ (by omega)]; exact a5 i⟩
      · obtain ⟨⟨b1, b2, b3⟩, -⟩ := i1 (aSgn_br z)
        have := on z
        refine ⟨⟨b1, fun i h1 h2 => ?_, b3⟩, by omega, z0⟩
        obtain ⟨c1, c2⟩ := b2 i h1 h2
        have e := aSgn_kp (T := T) (L := L) (c := 59) (s := s1) c1
        rw [e]; exact ⟨c1, c2⟩
      · have := (i1 (aSgn_br z)).2.2.2
        exact Nat.lt_of_lt_of_le (Nat.lt_of_le_of_lt u0' this) aSgn_up
      · have fin : ∀ I' J', LMm o I' J' T L n s1 (R + 1) V1 nm0 (R + 1) am1 (pos T L s0.1 + 4) → MdF o I I' → w_X10_readsLine_p190 o I' J' S := fun I' J' hl' f' => by
          unfold w_X10_readsLine_p190
          refine t_sign (sg := 59) hl'.1.1 (by omega) (fun I3 J3 c3 g3 j3 => hS I3 J3 ⟨⟨c3, fun z => (hl'.1.2 (aSgn_br z)).mt g3⟩, fun z => ?_⟩ (f'.tr (MdF.ms (MsF.mt g3))))
          obtain ⟨v48, M, W, n1, n2, n3⟩ := hl'.2 (aSgn_br z)
          have := on z
          exact ⟨v48, M, W, n1.fr (g3.2 23 (by omega) (by omega) (by omega)) (g3.1 _ (by omega)) (fun i => j3 _ _ (Or.inl (by omega))), by omega, n3.fr (Nat.le_refl _) (fun _ _ => rfl) (fun i h1 h2 => by omega) (g3.2 24 (by omega) (by omega) (by omega)) (g3.1 _ (by omega)) (g3.1 _ (by omega)) (fun i => j3 _ _ (Or.inl (by omega)))⟩
        refine t_isGood hl'.1.1 (fun z => ⟨fun c => absurd c (by decide), fun _ => g1 z o I' J' _ (R + 1) _ hl' (fun I2 J2 l2 f2 => fin I2 J2 l2 (f'.tr f2))⟩) (fun z => ⟨fun _ => ?_, fun c => absurd rfl c⟩)
        have e := hbr z
        refine fin I' J' ⟨⟨by rw [e]; exact hl'.1.1.brk z, fun y => by rw [e] at y; exact Bool.noConfusion y⟩, fun y => by rw [e] at y; exact Bool.noConfusion y⟩ f'
    have nw : ∀ {o : Nat} {I : MI} {J : MJ} {j : Nat} {w : Int64} {S : Int32 → MI → MJ → Prop}, MT o I J T L n 0 s → j < 5 → w = lN (pkv (WL j)) → S 0 I J → w_X10_hasWord o w I J S := fun c hj hw h => t_hasWord c (by omega) hw (fun z => absurd ⟨z.1, z.2.1, by omega⟩ hs) (fun _ => h)
    have head : ∀ (o : Nat) (I : MI) (J : MJ) (S : MI → MJ → Prop), MT o I J T L n 0 s → (w_X10_isName o I J (fun r21 => ((r21 = 0 → (w_X10_isGood o I (fun r23 => ((r23 = 0 → w_X10_readsLine_p190 o I J S) ∧ (¬ r23 = 0 → (w_X10_readsInstruction o I J (fun I27 J28 => w_X10_readsLine_p190 o I27 J28 S))))))) ∧ (¬ r21 = 0 → (w_X10_reads o I J (fun I29 J30 => (w_X10_isGood o I29 (fun r31 => ((r31 = 0 → w_X10_readsLine_p190 o I29 J30 S) ∧ (¬ r31 = 0 → (w_X10_readsInstruction o I29 J30 (fun I33 J34 => w_X10_readsLine_p190 o I33 J34 S)))))))))))) → w_X10_readsLine o I J S := fun o I J S c h => by
      unfold w_X10_readsLine
      refine nw c (by omega) w0 ⟨fun _ => nw c (by omega) w1 ⟨fun _ => nw c (by omega) w2 ⟨fun _ => nw c (by omega) w3 ⟨fun _ => nw c (by omega) w4 ⟨fun _ => h, fun q => absurd rfl q⟩, fun q => absurd rfl q⟩, fun q => absurd rfl q⟩, fun q => absurd rfl q⟩, fun q => absurd rfl q⟩
    have p31 : w_X4_readLine_p31 r I B P := by
      unfold w_X4_readLine_p31
      refine k_isNext (kd := 3) d hT (by omega) (fun q => ⟨fun c => absurd c (by decide), fun _ => ?_⟩) (fun q => ⟨fun _ => ?_, fun c => absurd rfl c⟩)
      · refine q_name hL hB hm q hR p48 (fun I1 s1 m1 i1 u1 k1 f1 g1 => ins I1 s1 _ m1 (fun z => ⟨p48, fun i h1 h2 => ?_, pz⟩) (pos_up u1) u1 f1 (fun i hi => by show (if i = R then s.1 + 1 else nm i) = 0; rw [if_neg (by omega)]; exact pn i (by omega)) (fun o I J S hl hS => head o I J S hl.1.1 (t_isName hl.1.1 (fun _ => ⟨fun c => absurd c (by decide), fun _ => g1 o I J _ hl hS⟩) (fun z => absurd q z))))
        obtain ⟨b1, b2⟩ := p24 i h1 h2
        have e := k1 b1
        rw [e]; exact ⟨b1, b2⟩
      · refine ins I s nm hm (fun _ => ⟨p48, p24, pz⟩) (Nat.le_refl _) (Nat.le_refl _) (fun _ _ => rfl) (fun i hi => pn i (by omega)) (fun o I J S hl hS => head o I J S hl.1.1 (t_isName hl.1.1 (fun z => absurd z q) (fun _ => ⟨fun _ => hS I J ⟨hl.1, fun z => ?_⟩ MdF.rf, fun c => absurd rfl c⟩)))
        obtain ⟨v48, M, W, n1, n2, n3⟩ := hl.2 z
        exact ⟨v48, M, W, n1.ext (pn R (Nat.le_refl _)), by omega, n3⟩
    unfold w_X4_readLine
    refine k_isNext (kd := 1) d hT (by omega) (fun q => ⟨fun c => absurd c (by decide), fun _ => ?_⟩) (fun q => ⟨fun _ => p31, fun c => absurd rfl c⟩)
    have ev : I (r + 37) s.1 = nI (tvN T L s.1) := (hT.1 s.1 (by omega)).2.2.2 (Or.inl q.2)
    have t5 : 5 ≤ tvN T L s.1 := Nat.not_lt.mp fun z => hs ⟨q.1, q.2, z⟩
    have tv : tvN T L s.1 < 20 := by have := q.2; rcases alk T L s.1 with q | q | q | q | q | q | q | q <;> omega
    rw [d.2.1, ixn (by omega), ev]
    exact ⟨inn (by omega) (by omega), fun _ => p31, fun c => absurd (nI_le (a := 5) t5 (by omega)) c⟩
end
