/-! program: class and model -/
section
variable {o n L : Nat} {T : Nat → Nat} {I : MI} {J : MJ} {V : Nat → Int32} {f g : Int32}
def s00 : PS := (0, false, 0, 0)
/-- what program may change in the model -/
def MpF (o : Nat) (I I' : MI) : Prop := (∀ c, c ≠ o → c ≠ o + 1 → c ≠ o + 7 → c ≠ o + 8 → c ≠ o + 9 → I' c = I c) ∧ ∀ j, (j < 1032 ∨ 1548 ≤ j) → I' (o + 1) j = I (o + 1) j
theorem t_progH {Q : Int32 → MI → MJ → Prop} (hc : CuM o I V T L f g) (hL : L ≤ 600) (hT : ∀ k, k < 600 → T k < 256) (hn : pos T L n = L)
    (hk : ∀ I' J', LMm o I' J' T L n s00 0 vClr (fun _ => 0) 0 (fun _ => 0) (pos T L 0) → MpF o I I' → I' o 3 = 0 → Lp2 (w_X10_program_l54 o (fun I17 J18 => (w_X10_isGood o I17 (fun r19 => ((r19 = 0 → w_X10_program_p86 o I17 J18 Q) ∧ (¬ r19 = 0 → (w_X10_finds o I17 J18 (fun I26 => w_X10_program_p86 o I26 J18 Q))))))) Q) I' J') : w_X10_program o I J Q := by
  obtain ⟨c1, ⟨c2, c3⟩, c4, c5⟩ := hc
  unfold w_X10_program
  rintro _ rfl _ rfl _ rfl _ rfl _ rfl _ rfl _ rfl _ rfl
  rw [c2]
  generalize hI8 : ui (ui (ui (ui (ui (ui (ui (ui I o 10 (nI L)) o 3 0) o 4 0) o 5 (-1)) o 15 0) o 23 0) o 24 0) o 11 0 = I8
  have o8 : ∀ c, c ≠ o → I8 c = I c := fun c hc => by rw [← hI8]; repeat rw [ui_ne _ _ _ hc]
  have e10 : I8 o 10 = nI L := by rw [← hI8, ui_gj _ _ _ (by omega), ui_gj _ _ _ (by omega), ui_gj _ _ _ (by omega), ui_gj _ _ _ (by omega), ui_gj _ _ _ (by omega), ui_gj _ _ _ (by omega), ui_gj _ _ _ (by omega), ui_gs]
  have e3 : I8 o 3 = 0 := by rw [← hI8, ui_gj _ _ _ (by omega), ui_gj _ _ _ (by omega), ui_gj _ _ _ (by omega), ui_gj _ _ _ (by omega), ui_gj _ _ _ (by omega), ui_gj _ _ _ (by omega), ui_gs]
  have e4 : I8 o 4 = 0 := by rw [← hI8, ui_gj _ _ _ (by omega), ui_gj _ _ _ (by omega), ui_gj _ _ _ (by omega), ui_gj _ _ _ (by omega), ui_gj _ _ _ (by omega), ui_gs]
  have e15 : I8 o 15 = 0 := by rw [← hI8, ui_gj _ _ _ (by omega), ui_gj _ _ _ (by omega), ui_gj _ _ _ (by omega), ui_gs]
  have e23 : I8 o 23 = 0 := by rw [← hI8, ui_gj _ _ _ (by omega), ui_gj _ _ _ (by omega), ui_gs]
  have e24 : I8 o 24 = 0 := by rw [← hI8, ui_gj _ _ _ (by omega), ui_gs]
  have e11 : I8 o 11 = nI 0 := by rw [← hI8, ui_gs]; rfl
  refine t_clears (b := 1032) (by omega) ?_
  have kO : kb I8 (o + 1) 1032 vClr o = I8 o := kb_ne _ _ (by omega)
  have mb : MBs o (kb I8 (o + 1) 1032 vClr) T L := ⟨by rw [kO]; exact e10, hL, fun k hk => by rw [kb_ne _ _ (by omega), o8 _ (by omega)]; exact ⟨c3 k hk, hT k hk⟩⟩
  refine t_takesToken mb (Nat.zero_le _) (by rw [kO]; exact e11) (fun I' J' fT jf a13 a11 a12 a17 => ?_)
  have k : ∀ j, j ≠ 11 → j ≠ 12 → j ≠ 13 → I' o j = I8 o j := fun j x y z => by rw [fT.2 j x y z, kO]
  refine hk I' J' ⟨⟨⟨⟨⟨Nat.zero_le _, by show (0 : Nat) ≠ 1; omega, by show (0 : Nat) ≤ 5; omega, fun _ q => absurd rfl q⟩, by omega, hn⟩, mb.fr fT, fun z => Bool.noConfusion z, fun _ => ⟨by rw [k 4 (by omega) (by omega) (by omega)]; exact e4, by rw [k 15 (by omega) (by omega) (by omega)]; exact e15, fun q => absurd rfl q, a13, a11, a12, a17⟩⟩, fun _ j hj => ?_⟩, fun _ => ⟨rfl, 0, 0, ⟨by rw [k 23 (by omega) (by omega) (by omega)]; exact e23, fun m hm => by omega, fun i hi => by omega⟩, Nat.zero_le _, ⟨by rw [k 24 (by omega) (by omega) (by omega)]; exact e24, by omega, by omega, fun w hw => by omega, fun i hi => by omega⟩⟩⟩ ⟨fun c a b _ _ _ => by rw [fT.1 c a, kb_ne _ _ b, o8 c a], fun j hj => by rw [fT.1 _ (by omega), kb_out _ _ _ _ (by omega), o8 _ (by omega)]⟩ (by rw [k 3 (by omega) (by omega) (by omega)]; exact e3)
  rw [fT.1 _ (by omega), kb_at _ _ _ _ hj]
end
section
variable {a L : Nat} {T : Nat → Nat} {I : MI} {B : MR} {V : Nat → Int32} {f g : Int32}
/-- what program may change in the class -/
def CpgF (a : Nat) (I I' : MI) : Prop := ∀ c, (c < a + 1 ∨ c = a + 2 ∨ (a + 65 < c ∧ c < a + 68) ∨ a + 110 < c) → I' c = I c
theorem q_program {P : Int32 → MI → MR → Prop} (h : WhI (a + 1) I V T L f g) (hD : SgOK (a + 69) I)
    (hP : ∀ v I' B' V' f' g', WhI (a + 1) I' V' T 0 f' g' → SgOK (a + 69) I' → CpgF a I I' →
      (∀ (o : Nat) (I : MI) (J : MJ) (S : Int32 → MI → MJ → Prop), CuM o I V T L f g → (∀ I' J', CuM o I' V' T 0 f' g' → (∀ c, c ≠ o → c ≠ o + 1 → c ≠ o + 7 → c ≠ o + 8 → c ≠ o + 9 → I' c = I c) → (∀ j, 1548 ≤ j → I' (o + 1) j = I (o + 1) j) → S v I' J') → w_X10_program o I J S) → P v I' B') : w_X9_program a I B P := by
  obtain ⟨hinv, h6, hL, h8, h9, h10⟩ := h
  unfold w_X9_program w_X4_read
  rw [h6]
  refine k_scan (t := a + 68 + 35) (tp := a + 2) (by omega) hL h8 (fun I2 B2 n tk tb f2 fB => ?_)
  rintro _ rfl _ rfl _ rfl _ rfl _ rfl _ rfl
  unfold w_X2_clear
  rintro _ rfl _ rfl _ rfl _ rfl _ rfl _ rfl _ rfl
  generalize hI13 : ui (uf (uf (uf (ui (ui (ui (uf (uf (ui (ui (ui (ui I2 (a + 68) 4 0) (a + 68) 5 0) (a + 68) 1 0) (a + 68) 2 (-1)) (a + 68 + 41) 150 (-1)) (a + 68 + 42) 150 (-1)) (a + 68 + 1) 1 0) (a + 68 + 1) 2 3) (a + 68 + 1) 3 0) (a + 68 + 1 + 2) 6 4) (a + 68 + 1 + 3) 32 0) (a + 68 + 1 + 4) 8 0) (a + 68 + 1 + 9) 0 8 = I13
  have o13 : ∀ c, c ≠ a + 68 → c ≠ a + 69 → c ≠ a + 71 → c ≠ a + 72 → c ≠ a + 73 → c ≠ a + 78 → c ≠ a + 109 → c ≠ a + 110 → I13 c = I2 c := fun c x1 x2 x3 x4 x5 x6 x7 x8 => by
    rw [← hI13, ui_ne _ _ _ (by omega), uf_ne _ _ _ (by omega), uf_ne _ _ _ (by omega), uf_ne _ _ _ (by omega), ui_ne _ _ _ (by omega), ui_ne _ _ _ (by omega), ui_ne _ _ _ (by omega), uf_ne _ _ _ (by omega), uf_ne _ _ _ (by omega), ui_ne _ _ _ (by omega), ui_ne _ _ _ (by omega), ui_ne _ _ _ (by omega), ui_ne _ _ _ (by omega)]
  have e68 : I13 (a + 68) = ui (ui (ui (ui I2 (a + 68) 4 0) (a + 68) 5 0) (a + 68) 1 0) (a + 68) 2 (-1) (a + 68) := by
    rw [← hI13, ui_ne _ _ _ (by omega), uf_ne _ _ _ (by omega), uf_ne _ _ _ (by omega), uf_ne _ _ _ (by omega), ui_ne _ _ _ (by omega), ui_ne _ _ _ (by omega), ui_ne _ _ _ (by omega), uf_ne _ _ _ (by omega), uf_ne _ _ _ (by omega)]
  have k4 : I13 (a + 68) 4 = 0 := by rw [e68, ui_gj _ _ _ (by omega), ui_gj _ _ _ (by omega), ui_gj _ _ _ (by omega), ui_gs]
  have k5 : I13 (a + 68) 5 = 0 := by rw [e68, ui_gj _ _ _ (by omega), ui_gj _ _ _ (by omega), ui_gs]
  have k1 : I13 (a + 68) 1 = 0 := by rw [e68, ui_gj _ _ _ (by omega), ui_gs]
  have k2 : I13 (a + 68) 2 = -1 := by rw [e68, ui_gs]
  have e69 : ∀ j, I13 (a + 69) j = if j = 3 then 0 else if j = 2 then 3 else if j = 1 then 0 else I2 (a + 69) j := fun j => by
    rw [← hI13, ui_ne _ _ _ (show a + 69 ≠ a + 68 + 1 + 9 by omega), uf_ne _ _ _ (show a + 69 ≠ a + 68 + 1 + 4 by omega), uf_ne _ _ _ (show a + 69 ≠ a + 68 + 1 + 3 by omega), uf_ne _ _ _ (show a + 69 ≠ a + 68 + 1 + 2 by omega)]
    show ui (ui (ui (uf (uf (ui (ui (ui (ui I2 (a + 68) 4 0) (a + 68) 5 0) (a + 68) 1 0) (a + 68) 2 (-1)) (a + 68 + 41) 150 (-1)) (a + 68 + 42) 150 (-1)) (a + 69) 1 0) (a + 69) 2 3) (a + 69) 3 0 (a + 69) j = _
    by_cases q3 : j = 3
    · subst q3; rw [if_pos rfl, ui_gs]
    · rw [if_neg q3, ui_gj _ _ _ q3]
      by_cases q2 : j = 2
      · subst q2; rw [if_pos rfl, ui_gs]
      · rw [if_neg q2, ui_gj _ _ _ q2]
        by_cases q1 : j = 1
        · subst q1; rw [if_pos rfl, ui_gs]
        · rw [if_neg q1, ui_gj _ _ _ q1, uf_ne _ _ _ (by omega), uf_ne _ _ _ (by omega), ui_ne _ _ _ (by omega), ui_ne _ _ _ (by omega), ui_ne _ _ _ (by omega), ui_ne _ _ _ (by omega)]
  have e71 : ∀ j, j < 6 → I13 (a + 71) j = 4 := fun j hj => by
    rw [← hI13, ui_ne _ _ _ (by omega), uf_ne _ _ _ (by omega), uf_ne _ _ _ (by omega)]
    show uf _ (a + 71) 6 4 (a + 71) j = 4
    rw [uf_at]; exact if_pos hj
  have e72 : ∀ j, j < 32 → I13 (a + 72) j = 0 := fun j hj => by
    rw [← hI13, ui_ne _ _ _ (by omega), uf_ne _ _ _ (by omega)]
    show uf _ (a + 72) 32 0 (a + 72) j = 0
    rw [uf_at]; exact if_pos hj
  have e73 : ∀ j, j < 8 → I13 (a + 73) j = 0 := fun j hj => by
    rw [← hI13, ui_ne _ _ _ (by omega)]
    show uf _ (a + 73) 8 0 (a + 73) j = 0
    rw [uf_at]; exact if_pos hj
  have e109 : ∀ j, j < 150 → I13 (a + 109) j = -1 := fun j hj => by
    rw [← hI13, ui_ne _ _ _ (by omega), uf_ne _ _ _ (by omega), uf_ne _ _ _ (by omega), uf_ne _ _ _ (by omega), ui_ne _ _ _ (by omega), ui_ne _ _ _ (by omega), ui_ne _ _ _ (by omega), uf_ne _ _ _ (by omega)]
    show uf _ (a + 109) 150 (-1) (a + 109) j = -1
    rw [uf_at]; exact if_pos hj
  have e110 : ∀ j, j < 150 → I13 (a + 110) j = -1 := fun j hj => by
    rw [← hI13, ui_ne _ _ _ (by omega), uf_ne _ _ _ (by omega), uf_ne _ _ _ (by omega), uf_ne _ _ _ (by omega), ui_ne _ _ _ (by omega), ui_ne _ _ _ (by omega), ui_ne _ _ _ (by omega)]
    show uf _ (a + 110) 150 (-1) (a + 110) j = -1
    rw [uf_at]; exact if_pos hj
  have e78 : ∀ j, j ≠ 0 → I13 (a + 78) j = I2 (a + 78) j := fun j hj => by
    rw [← hI13]
    show ui _ (a + 78) 0 8 (a + 78) j = _
    rw [ui_gj _ _ _ hj, uf_ne _ _ _ (by omega), uf_ne _ _ _ (by omega), uf_ne _ _ _ (by omega), ui_ne _ _ _ (by omega), ui_ne _ _ _ (by omega), ui_ne _ _ _ (by omega), uf_ne _ _ _ (by omega), uf_ne _ _ _ (by omega), ui_ne _ _ _ (by omega), ui_ne _ _ _ (by omega), ui_ne _ _ _ (by omega), ui_ne _ _ _ (by omega)]
  have fo : ∀ c, (c < a + 68 ∨ a + 110 < c) → I13 c = I c := fun c hc => by rw [o13 c (by omega) (by omega) (by omega) (by omega) (by omega) (by omega) (by omega) (by omega), f2 c (by omega)]
  have hn := tk.2.1
  have lc : LCm (a + 68) I13 T L n s00 0 vClr (fun _ => 0) (fun _ => 0) := by
    refine ⟨⟨⟨⟨Nat.zero_le _, by show (0 : Nat) ≠ 1; omega, by show (0 : Nat) ≤ 5; omega, fun _ q => absurd rfl q⟩, by omega⟩, k4, fun z => Bool.noConfusion z, fun _ => ⟨k1, fun q => absurd rfl q, fun _ => k2⟩⟩, tk.fr (fun c h1 h2 => o13 c (by omega) (by omega) (by omega) (by omega) (by omega) (by omega) (by omega) (by omega)), fun i hi => ?_, fun _ => ⟨k5, ⟨?_, ?_, ⟨0, by omega, rfl⟩, ⟨3, by omega, by omega, rfl⟩, fun q hq => ⟨?_, ?_⟩, fun c hc => ⟨?_, ?_⟩, fun c hc => ⟨?_, ?_⟩⟩, fun i hi => ?_, fun i => ⟨fun hi => e109 i hi, fun q => absurd rfl q⟩, fun i => ⟨fun hi => e110 i hi, fun q => absurd rfl q⟩⟩⟩
    · have hh := hD i hi
      rw [← f2 _ (by omega)] at hh
      by_cases e : i = 0
      · subst e
        show chr (I13 (a + 78) 5)
        rw [e78 5 (by omega)]; exact hh
      · rw [o13 _ (by omega) (by omega) (by omega) (by omega) (by omega) (by omega) (by omega) (by omega)]
        exact hh
    · show I13 (a + 69) 2 = 3
      rw [e69]; rfl
    · show I13 (a + 69) 3 = 0
      rw [e69]; rfl
    · show I13 (a + 71) q = vClr (1 + q)
      rw [e71 q hq]; unfold vClr; rw [if_neg (by omega), if_pos (by omega)]
    · refine ⟨4, by omega, by omega, ?_⟩
      unfold vClr; rw [if_neg (by omega), if_pos (by omega)]; rfl
    · show I13 (a + 72) c = vClr (7 + c)
      rw [e72 c hc]; unfold vClr; rw [if_neg (by omega), if_neg (by omega)]
    · refine ⟨0, by omega, ?_⟩
      unfold vClr; rw [if_neg (by omega), if_neg (by omega)]; rfl
    · show I13 (a + 73) c = vClr (39 + c)
      rw [e73 c hc]; unfold vClr; rw [if_neg (by omega), if_neg (by omega)]
    · refine ⟨0, by omega, ?_⟩
      unfold vClr; rw [if_neg (by omega), if_neg (by omega)]; rfl
    · exact absurd (show i < 0 from hi) (by omega)
  have li : LIn T L s00 0 vClr (fun _ => 0) (fun _ => 0) := ⟨⟨rfl, fun i h1 h2 => by omega, fun _ _ => rfl⟩, by omega, fun _ _ => rfl⟩
  have tbI : TpB (a + 68 + 35) (a + 2) T I13 B2 := tb.fr (o13 _ (by omega) (by omega) (by omega) (by omega) (by omega) (by omega) (by omega) (by omega))
  -- what comes behind the reading
  have last : ∀ (I4 : MI) (fk fp : Int32) (V4 : Nat → Int32), I4 (a + 68) 1 = fk → I4 (a + 68) 2 = fp → SgOK (a + 69) I4 → RrF (a + 68) I13 I4 → (fk = 0 → RelR (a + 69) I4 V4 ∧ RelT (a + 69) I4 V4) →
      (∀ (o : Nat) (I : MI) (J : MJ) (Q : Int32 → MI → MJ → Prop), CuM o I V T L f g → (∀ I' J', MpF o I I' → I' o 3 = 0 → I' o 4 = fk → I' o 5 = fp → (fk = 0 → BkR o I' V4) → w_X10_program_p86 o I' J' Q) → w_X10_program o I J Q) →
      (∀ I6, I6 = ui I4 (a + 1) 1 0 → (∀ I7, I7 = ui I6 (a + 1) 2 (I6 (a + 68) 1) → (∀ I8, I8 = ui I7 (a + 1) 3 (I7 (a + 68) 2) → (((I8 (a + 68) 1) = 0 → (w_X2_copyFrom (a + 4) (a + 69) I8 (fun I13 => (w_X2_split (a + 4) I13 (fun I14 => (w_X1_toBeginning (a + 3) I14 (fun I15 => P (I15 (a + 4) 1) I15 B2))))))) ∧ (¬ (I8 (a + 68) 1) = 0 → P (-1) I8 B2))))) := fun I4 fk fp V4 x1 x2 x3 x4 x5 x6 => by
    rintro _ rfl _ rfl _ rfl
    rw [ui_ne _ _ _ (show a + 68 ≠ a + 1 by omega), ui_ne _ _ _ (show a + 68 ≠ a + 1 by omega), ui_ne _ _ _ (show a + 68 ≠ a + 1 by omega), x1, x2]
    generalize hI8 : ui (ui (ui I4 (a + 1) 1 0) (a + 1) 2 fk) (a + 1) 3 fp = I8
    have o8 : ∀ c, c ≠ a + 1 → I8 c = I4 c := fun c hc => by rw [← hI8, ui_ne _ _ _ hc, ui_ne _ _ _ hc, ui_ne _ _ _ hc]
    have a1 : I8 (a + 1) 1 = 0 := by rw [← hI8, ui_gj _ _ _ (by omega), ui_gj _ _ _ (by omega), ui_gs]
    have a2 : I8 (a + 1) 2 = fk := by rw [← hI8, ui_gj _ _ _ (by omega), ui_gs]
    have a3 : I8 (a + 1) 3 = fp := by rw [← hI8, ui_gs]
    have o8' : ∀ c, (c < a + 68 ∨ a + 110 < c) → c ≠ a + 1 → I8 c = I c := fun c hc h1 => by rw [o8 c h1, x4 c (by omega), fo c hc]
    have tp8 : ∀ j, j < 600 → I8 (a + 1 + 1) j = byS (T j) ∧ T j < 256 := fun j hj => by rw [o8' _ (by omega) (by omega)]; exact h8 j hj
    have inv8 : Inv a I8 V := by
      obtain ⟨b1, b2, b3, b4, b5⟩ := hinv
      exact ⟨b1.fr (fun c h1 h2 => o8' c (by omega) (by omega)), b2.fr (fun c h1 h2 => o8' c (by omega) (by omega)) (fun _ _ => rfl), fun s hs => by rw [o8' _ (by omega) (by omega)]; exact b3 s hs, b4, b5⟩
    refine ⟨fun z => ?_, fun z => ?_⟩
    · obtain ⟨hRR, hRT⟩ := x5 z
      have hRR8 : RelR (a + 69) I8 V4 := hRR.fr (fun c h1 h2 => o8 c (by omega)) VFr.rf
      have hRT8 : RelT (a + 69) I8 V4 := hRT.fr (fun c h1 h2 => o8 c (by omega)) (fun _ _ => rfl)
      have sg8 : SgOK (a + 69) I8 := fun i hi => by rw [o8 _ (by omega)]; exact x3 i hi
      obtain ⟨hsz, e48⟩ := size_lt hRR8
      obtain ⟨K, hK, e47⟩ := hRT8.2.2.1
      have hL' := gsI_L hRR8 hK
      generalize gsI V4 K 9 = A' at hL'
      have v3 : VRo V4 (upd V4 49 (nI A')) := fun j hj => upd_n _ _ (by omega)
      have v3' : VRo (upd V4 49 (nI A')) V4 := fun j hj => (upd_n _ _ (by omega)).symm
      refine k_copyProg (by omega) hsz (hRR8.1.trans e48) (fun i hi => sg8 i hi) (fun I9 c9 => ?_)
      have f9 : ∀ c, (c < a + 4 ∨ a + 37 < c) → I9 c = I8 c := fun c hc => c9.1 c (by omega)
      have hRR9 : RelR (a + 4) I9 V4 := hRR8.cp c9.2 (fun i hi => inv8.1.1.2.2.2.2 i hi)
      have hRT9 : RelT (a + 4) I9 V4 := hRT8.cp c9.2
      obtain ⟨I10, s1, s2, s3, s4⟩ := k_split (p := a + 4) (I := I9) (V := upd V4 49 (nI A')) (K := K) (hRR9.ro v3) hK (hRT9.2.1.trans e47) (fun A0 q => by rw [upd_s, (q.ro v3).uq hL'])
      refine s1 _ (k_begin (fun I11 gQ gS gM gF => ?_))
      have f10 : ∀ c, c ≠ a + 4 → c ≠ a + 9 → c ≠ a + 10 → c ≠ a + 11 → I10 c = I9 c := fun c y1 y2 y3 y4 => s4.1 c y1 (by omega) (by omega) (by omega)
      have hRT10 : RelT (a + 4) I10 (upd V4 49 (nI A')) := by
        obtain ⟨t1, t2, t3, t4, t5, t6, t7⟩ := hRT9
        have w3 : ∀ j, j < 48 → upd V4 49 (nI A') j = V4 j := fun j hj => upd_n _ _ (by omega)
        have p2 : I10 (a + 4) 2 = I9 (a + 4) 2 := s4.2 2 (by omega)
        have p3 : I10 (a + 4) 3 = I9 (a + 4) 3 := s4.2 3 (by omega)
        unfold RelT
        rw [p2, p3, w3 0 (by omega), w3 47 (by omega)]
        refine ⟨t1, t2, t3, t4, fun q hq => ?_, fun c hc => ?_, fun r hr => ?_⟩
        · rw [f10 _ (by omega) (by omega) (by omega) (by omega), w3 _ (by omega)]; exact t5 q hq
        · rw [f10 _ (by omega) (by omega) (by omega) (by omega), w3 _ (by omega)]; exact t6 c hc
        · rw [f10 _ (by omega) (by omega) (by omega) (by omega), w3 _ (by omega)]; exact t7 r hr
      have mid : ∀ c, a + 37 < c → c < a + 66 → I10 c = I8 c := fun c h1 h2 => by rw [f10 c (by omega) (by omega) (by omega) (by omega), f9 c (by omega)]
      have m3 : I10 (a + 3) = I8 (a + 3) := by rw [f10 _ (by omega) (by omega) (by omega) (by omega), f9 _ (by omega)]
      obtain ⟨r1, r2, r3, r4⟩ := Rel.start (m := a + 3) (A := A') s2 s3 hRT10.u (upd_s _ _ _) (fun s hs => by rw [mid _ (by omega) (by omega)]; exact (inv8.1.2.2.2.2 s hs).1) (by rw [m3]; exact (MShp.of inv8.1).2.2) gQ gS gM gF
      have hRT11 : RelT (a + 4) I11 (vStart (upd V4 49 (nI A')) A') := hRT10.fr (fun c h1 h2 => gF c (by omega)) (fun k hk => r4 k (by omega))
      have am11 : AmOK (vStart (upd V4 49 (nI A')) A') := by
        refine ⟨K, A', hK, by rw [r4 47 (by omega), upd_n _ _ (by omega)]; exact e47, ?_, by rw [r4 49 (by omega), upd_s]⟩
        have i1 : IsL (upd V4 49 (nI A')) K A' := hL'.ro v3'
        exact i1.fr (fun k hk => (r4 k hk).symm) (by rw [r4 48 (by omega), upd_n _ _ (by omega)]; exact hsz)
      rw [vStart_49] at r1 r2 r3 hRT11 am11
      have g11 : ∀ c, (c < a + 3 ∨ a + 65 < c) → I11 c = I8 c := fun c hc => by rw [gF c (by omega), f10 c (by omega) (by omega) (by omega) (by omega), f9 c (by omega)]
      have sz : I11 (a + 4) 1 = V4 48 := by
        have := r1.1.1
        rw [vStart_fr (by omega) (by omega)] at this
        exact this
      rw [sz]
      refine hP _ I11 B2 (vStart V4 A') fk fp ⟨⟨r1, hRT11, r2, r3, am11⟩, by rw [g11 _ (by omega)]; exact a1, by omega, fun j hj => by rw [g11 _ (by omega)]; exact tp8 j hj, by rw [g11 _ (by omega)]; exact a2, by rw [g11 _ (by omega)]; exact a3⟩ (fun i hi => by rw [g11 _ (by omega)]; exact sg8 i hi) (fun c hc => by rw [g11 c (by omega), o8' c (by omega) (by omega)]) (fun o I J S hc hS => x6 o I J S hc (fun I' J' md e3 e4 e5 bk => ?_))
      unfold w_X10_program_p86 w_X10_isGood
      rw [e4]
      refine ⟨fun q => absurd z q, fun _ => ⟨fun _ => ?_, fun q => absurd q (by decide)⟩⟩
      refine t_copies (x := 1032) (y := 0) (V' := V4) (by omega) (by omega) (by omega) (fun k hk => bk z k hk) ?_
      refine t_starts (b := 0) hRR8 (by omega) hK e47 (fun A0 hA0 => ?_)
      rw [hA0.uq hL']
      have e48m : kb I' (o + 1) 0 (vStart V4 A') (o + 1) (ix (48)) = V4 48 := (kg (b := 0) (k := 48) (by omega) (by omega)).trans (vStart_fr (by omega) (by omega))
      rw [e48m]
      obtain ⟨-, ⟨-, ct⟩, -⟩ := hc
      refine hS _ _ ⟨fun j hj => ?_, ⟨by rw [kb_ne _ _ (by omega)]; exact e3, fun j hj => by rw [kb_ne _ _ (by omega), md.1 _ (by omega) (by omega) (by omega) (by omega) (by omega)]; exact ct j hj⟩, by rw [kb_ne _ _ (by omega)]; exact e4, by rw [kb_ne _ _ (by omega)]; exact e5⟩ (fun c q1 q2 q3 q4 q5 => by rw [kb_ne _ _ q2]; exact md.1 c q1 q2 q3 q4 q5) (fun j hj => by rw [kb_out _ _ _ _ (by omega)]; exact md.2 j (by omega))
      have := kb_at I' (o + 1) 0 (vStart V4 A') hj
      rw [Nat.zero_add] at this; exact this
    · refine hP _ I8 B2 V fk fp ⟨inv8, a1, by omega, tp8, a2, a3⟩ (fun i hi => by rw [o8 _ (by omega)]; exact x3 i hi) (fun c hc => o8' c (by omega) (by omega)) (fun o I J S hc hS => x6 o I J S hc (fun I' J' md e3 e4 e5 bk => ?_))
      unfold w_X10_program_p86 w_X10_isGood
      rw [e4]
      refine ⟨fun _ => ⟨fun q => absurd rfl q, fun _ => ?_⟩, fun q => absurd q z⟩
      obtain ⟨cV, ⟨-, ct⟩, -⟩ := hc
      exact hS _ _ ⟨fun j hj => by rw [md.2 j (by omega)]; exact cV j hj, ⟨e3, fun j hj => by rw [md.1 _ (by omega) (by omega) (by omega) (by omega) (by omega)]; exact ct j hj⟩, e4, e5⟩ md.1 (fun j hj => md.2 j (by omega))
  refine ⟨n + 2, q_lines hL (n + 1) I13 s00 0 0 vClr (fun _ => 0) (fun _ => 0) (fun _ => by show n < n + 1 + 0; omega) tbI lc (fun _ => ⟨li, by omega⟩) (by omega) (fun I3 s3 R3 V3 nm3 am3 m3 i3 hB3 f3 g3 x => ?_)⟩
  have prog : ∀ (o : Nat) (I : MI) (J : MJ) (Q : Int32 → MI → MJ → Prop), CuM o I V T L f g → (∀ I' J', LMm o I' J' T L n s3 R3 V3 nm3 R3 am3 (pos T L s3.1) → MpF o I I' → I' o 3 = 0 → (w_X10_isGood o I' (fun r19 => ((r19 = 0 → w_X10_program_p86 o I' J' Q) ∧ (¬ r19 = 0 → (w_X10_finds o I' J' (fun I26 => w_X10_program_p86 o I26 J' Q))))))) → w_X10_program o I J Q := fun o I J Q hc hk => by
    refine t_progH (n := n) hc hL (fun k hk => (h8 k hk).2) tk.2.2.1 (fun I' J' hl mp e3 => ⟨n + 2, g3 o I' J' _ Q hl (fun I2 J2 hl2 md => hk I2 J2 hl2 ⟨fun c q1 q2 q3 q4 q5 => by rw [md.1 c q1 q2 q3 q4 q5, mp.1 c q1 q2 q3 q4 q5], fun j hj => by rw [md.2.1 j hj, mp.2 j hj]⟩ (by rw [md.2.2]; exact e3))⟩)
  refine k_isBroken m3.1 (fun b => ⟨fun _ => ?_, fun c => absurd c (by decide)⟩) (fun gd => ⟨fun c => absurd rfl c, fun _ => ?_⟩)
  · obtain ⟨b1, b2⟩ := m3.1.2.2.1 b
    unfold w_X4_read_p98
    rw [b1]
    refine ⟨fun _ => last I3 1 (nI (pos T L s3.1)) V b1 b2 m3.2.2.1 f3 (fun q => absurd q (by decide)) (fun o I J Q hc hk => prog o I J Q hc (fun I' J' hl mp e3 => ?_)), fun c => absurd c (by decide)⟩
    obtain ⟨c1, c2⟩ := hl.1.1.2.2.1 b
    exact t_isGood hl.1.1 (fun z => by rw [b] at z; exact Bool.noConfusion z) (fun _ => ⟨fun _ => hk I' J' mp e3 c1 c2 (fun q => absurd q (by decide)), fun c => absurd rfl c⟩)
  · refine q_last hL hB3 m3 gd (i3 gd).1 (fun I4 w V4 cf sg rr rl gm => last I4 (nI w.1) (if w.1 = 0 then -1 else nI w.2) V4 cf.1 ?_ sg (fun c hc => by rw [rr c hc, f3 c hc]) (fun q => rl ((nI_z (by have := cf.2.2.2.1; omega)).mp q)) (fun o I J Q hc hk => prog o I J Q hc (fun I' J' hl mp e3 => ?_)))
    · by_cases q : w.1 = 0
      · rw [if_pos q]; exact cf.2.2.1 q
      · rw [if_neg q]; exact cf.2.1 q
    · refine t_isGood hl.1.1 (fun _ => ⟨fun c => absurd c (by decide), fun _ => gm o I' J' _ hl (fun I2 md e4 e5 e5' bk => hk I2 J' ⟨fun c q1 q2 q3 q4 q5 => by rw [md.1 c q1 q2 q3 q4 q5, mp.1 c q1 q2 q3 q4 q5], fun j hj => by rw [md.2.1 j hj, mp.2 j hj]⟩ (by rw [md.2.2]; exact e3) e4 ?_ (fun q => bk ((nI_z (by have := cf.2.2.2.1; omega)).mp q)))⟩) (fun z => by rw [gd] at z; exact Bool.noConfusion z)
      by_cases q : w.1 = 0
      · rw [if_pos q]; exact e5' q
      · rw [if_neg q]; exact e5 q
end
