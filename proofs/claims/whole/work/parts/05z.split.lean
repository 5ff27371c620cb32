/-! the deeds are laid -/
section
variable {p i : Nat} {I : MI} {V : Nat → Int32}
def Tb (p s i : Nat) (I : MI) (c : Nat) (f g : Nat → Int32) : Prop := I (p + 7) (25 * s + i) = nI c ∧ ∀ k, k < c → I (p + 5) (2 * (25 * s + i) + k) = f k ∧ (s = 0 → f k = 9 → I (p + 6) (2 * i + k) = g k)
/-- what the laying of one row leaves -/
def Fr2 (p i : Nat) (I I' : MI) : Prop := (∀ c, c ≠ p + 5 → c ≠ p + 6 → c ≠ p + 7 → I' c = I c) ∧ (∀ j, j ≠ i → j ≠ 25 + i → I' (p + 7) j = I (p + 7) j) ∧ (∀ j, (j < 2 * i ∨ 2 * i + 1 < j) → (j < 50 + 2 * i ∨ 51 + 2 * i < j) → I' (p + 5) j = I (p + 5) j) ∧ (∀ j, (j < 2 * i ∨ 2 * i + 1 < j) → I' (p + 6) j = I (p + 6) j)
theorem Fr2.rf : Fr2 p i I I := ⟨fun _ _ _ _ => rfl, fun _ _ _ => rfl, fun _ _ _ => rfl, fun _ _ => rfl⟩
theorem Fr2.tr {I' I'' : MI} (h : Fr2 p i I I') (h' : Fr2 p i I' I'') : Fr2 p i I I'' := ⟨fun c h1 h2 h3 => (h'.1 c h1 h2 h3).trans (h.1 c h1 h2 h3), fun j h1 h2 => (h'.2.1 j h1 h2).trans (h.2.1 j h1 h2), fun j h1 h2 => (h'.2.2.1 j h1 h2).trans (h.2.2.1 j h1 h2), fun j h1 => (h'.2.2.2 j h1).trans (h.2.2.2 j h1)⟩
theorem k_addDeed {s c : Nat} {kd : Int32} {P : MI → Prop} (hs' : s < 2) (hi : i < 25) (hc : c < 2) (e : I (p + 7) (25 * s + i) = nI c) (h : P (ui (ui I (p + 5) (2 * (25 * s + i) + c) kd) (p + 7) (25 * s + i) (nI (c + 1)))) : w_X2_addDeed p (nI s) (nI i) kd I P := by
  unfold w_X2_addDeed w_X9_deedPlace
  simp only [lit, pk_mul, nI_add]
  rw [show s * 25 + i = 25 * s + i by omega, ixn (n := 25 * s + i) (by omega), e]
  refine ⟨inn (by omega) (by omega), ?_⟩
  rintro _ rfl
  refine ⟨fun c2 => absurd ((nI_leI (by omega) (by omega)).mp c2) (by omega), fun _ => ?_⟩
  simp only [nI_add]
  rw [show (25 * s + i) * 2 + c = 2 * (25 * s + i) + c by omega, ixn (by omega)]
  refine ⟨inn (by omega) (by omega), ?_⟩
  rintro _ rfl
  refine ⟨inn (by omega) (by omega), ?_⟩
  rintro _ rfl
  exact h
/-- one more deed -/
theorem a_deed {s c d : Nat} {kd : Int32} {f g f' g' : Nat → Int32} (hs' : s < 2) (hi : i < 25) (hc : c < 2) (hd : d ≤ 2) (h9 : ¬ kd = 9) (hT : Tb p s i I c f g) (hO : Tb p (1 - s) i I d f' g') :
    ∃ I', (∀ P : MI → Prop, P I' → w_X2_addDeed p (nI s) (nI i) kd I P) ∧ Tb p s i I' (c + 1) (upd f c kd) g ∧ Tb p (1 - s) i I' d f' g' ∧ Fr2 p i I I' := by
  refine ⟨_, fun P hP => k_addDeed hs' hi hc hT.1 hP, ⟨ui_gs _ _ _ _, fun k hk => ?_⟩, ⟨?_, fun k hk => ?_⟩, ?_⟩
  · rw [ui_gn _ _ _ _ (by omega), ui_gn _ _ _ _ (show p + 6 ≠ p + 7 by omega), ui_gn _ _ _ _ (show p + 6 ≠ p + 5 by omega)]
    by_cases e : k = c
    · subst e; rw [ui_gs, upd_s]; exact ⟨rfl, fun _ q => absurd q h9⟩
    · rw [ui_gj _ _ _ (by omega), upd_n _ _ e]; exact hT.2 k (by omega)
  · rw [ui_gj _ _ _ (by omega), ui_gn _ _ _ _ (by omega)]; exact hO.1
  · rw [ui_gn _ _ _ _ (by omega), ui_gn _ _ _ _ (show p + 6 ≠ p + 7 by omega), ui_gn _ _ _ _ (show p + 6 ≠ p + 5 by omega)]
    rw [ui_gj _ _ _ (by rcases (show s = 0 ∨ s = 1 by omega) with e | e <;> rw [e] <;> omega)]; exact hO.2 k hk
  · refine ⟨fun c h1 h2 h3 => by rw [ui_ne _ _ _ h3, ui_ne _ _ _ h1], fun j h1 h2 => ?_, fun j h1 h2 => ?_, fun j h1 => ?_⟩
    · rw [ui_gj _ _ _ (by rcases (show s = 0 ∨ s = 1 by omega) with e | e <;> rw [e] <;> omega), ui_gn _ _ _ _ (by omega)]
    · rw [ui_gn _ _ _ _ (by omega), ui_gj _ _ _ (by rcases (show s = 0 ∨ s = 1 by omega) with e | e <;> rw [e] <;> omega)]
    · rw [ui_gn _ _ _ _ (by omega), ui_gn _ _ _ _ (by omega)]
theorem a_send {c d : Nat} {x : Int32} {f g f' g' : Nat → Int32} (hi : i < 25) (hc : c < 2) (hd : d ≤ 2) (e4 : I p 4 = V 49) (hh : hs (V 49) x = true) (hT : Tb p 0 i I c f g) (hO : Tb p 1 i I d f' g') :
    ∃ I', (∀ P : MI → Prop, P I' → w_X2_addSend p (nI i) x I P) ∧ Tb p 0 i I' (c + 1) (upd f c 9) (upd g c x) ∧ Tb p 1 i I' d f' g' ∧ Fr2 p i I I' := by
  have e1 : I (p + 7) i = nI c := by have := hT.1; rw [show 25 * 0 + i = i by omega] at this; exact this
  refine ⟨ui (ui (ui I (p + 6) (2 * i + c) x) (p + 5) (2 * (25 * 0 + i) + c) 9) (p + 7) (25 * 0 + i) (nI (c + 1)), fun P hP => ?_, ⟨ui_gs _ _ _ _, fun k hk => ?_⟩, ⟨?_, fun k hk => ?_⟩, ?_⟩
  · unfold w_X2_addSend
    have ei : (0 : Int32) + nI i = nI i := by rw [Int32.zero_add]
    rw [ei, ixn (by omega), e1]
    refine ⟨inn (by omega) (by omega), ?_⟩
    rintro _ rfl
    rw [e4]
    refine k_isIn ?_
    rw [if_pos hh]
    refine ⟨fun c2 => absurd c2 (by decide), fun _ => ⟨fun c2 => absurd ((nI_leI (a := 2) (by omega) (by omega)).mp c2) (by omega), fun _ => ?_⟩⟩
    simp only [lit, pk_mul, nI_add]
    rw [show i * 2 + c = 2 * i + c by omega, ixn (by omega)]
    refine ⟨inn (by omega) (by omega), ?_⟩
    rintro _ rfl
    exact k_addDeed (s := 0) (by omega) hi hc (by rw [ui_gn _ _ _ _ (by omega)]; exact hT.1) hP
  · rw [ui_gn _ _ _ _ (by omega), ui_gn _ _ _ _ (show p + 6 ≠ p + 7 by omega), ui_gn _ _ _ _ (show p + 6 ≠ p + 5 by omega)]
    by_cases e : k = c
    · subst e; rw [ui_gs, upd_s, ui_gs, upd_s]; exact ⟨rfl, fun _ _ => rfl⟩
    · rw [ui_gj _ _ _ (by omega), upd_n _ _ e, ui_gn _ _ _ _ (by omega), ui_gj _ _ _ (by omega), upd_n _ _ e]; exact hT.2 k (by omega)
  · rw [ui_gj _ _ _ (by omega), ui_gn _ _ _ _ (by omega), ui_gn _ _ _ _ (by omega)]; exact hO.1
  · rw [ui_gn _ _ _ _ (by omega), ui_gj _ _ _ (by omega), ui_gn _ _ _ _ (by omega)]
    exact ⟨(hO.2 k hk).1, fun q => absurd q (by omega)⟩
  · refine ⟨fun c h1 h2 h3 => by rw [ui_ne _ _ _ h3, ui_ne _ _ _ h1, ui_ne _ _ _ h2], fun j h1 h2 => ?_, fun j h1 h2 => ?_, fun j h1 => ?_⟩
    · rw [ui_gj _ _ _ (by omega), ui_gn _ _ _ _ (by omega), ui_gn _ _ _ _ (by omega)]
    · rw [ui_gn _ _ _ _ (by omega), ui_gj _ _ _ (by omega), ui_gn _ _ _ _ (by omega)]
    · rw [ui_gn _ _ _ _ (by omega), ui_gn _ _ _ _ (by omega), ui_gj _ _ _ (by omega)]
theorem a_nosend {c : Nat} {x : Int32} {f g : Nat → Int32} {P : MI → Prop} (hi : i < 25) (e4 : I p 4 = V 49) (hh : ¬ hs (V 49) x = true) (hT : Tb p 0 i I c f g) (hP : P I) : w_X2_addSend p (nI i) x I P := by
  have e1 : I (p + 7) i = nI c := by have := hT.1; rw [show 25 * 0 + i = i by omega] at this; exact this
  unfold w_X2_addSend
  have ei : (0 : Int32) + nI i = nI i := by rw [Int32.zero_add]
  rw [ei, ixn (by omega), e1]
  refine ⟨inn (by omega) (by omega), ?_⟩
  rintro _ rfl
  rw [e4]
  refine k_isIn ?_
  rw [if_neg hh]
  exact ⟨fun _ => hP, fun c2 => absurd rfl c2⟩
def Mt (V : Nat → Int32) (s i c : Nat) (f g : Nat → Int32) : Prop := vMany V s i = c ∧ ∀ k, k < c → f k = cKind (vOp V i) (vDeed V s i k) ∧ (s = 0 → f k = 9 → vDeed V s i k = 1 + 16 * g k ∧ bd (g k) 8)
theorem mt0 {s : Nat} {f g : Nat → Int32} (h : vDeed V s i 0 = 0) : Mt V s i 0 f g := ⟨by unfold vMany; rw [if_pos h], fun k hk => by omega⟩
theorem mt1 {s : Nat} {f g : Nat → Int32} (h0 : ¬ vDeed V s i 0 = 0) (h1 : vDeed V s i 1 = 0) (hf : f 0 = cKind (vOp V i) (vDeed V s i 0)) (hg : s = 0 → f 0 = 9 → vDeed V s i 0 = 1 + 16 * g 0 ∧ bd (g 0) 8) : Mt V s i 1 f g := ⟨by unfold vMany; rw [if_neg h0, if_pos h1], fun k hk => by
  have : k = 0 := by omega
  subst this; exact ⟨hf, hg⟩⟩
theorem mt2 {s : Nat} {f g : Nat → Int32} (h0 : ¬ vDeed V s i 0 = 0) (h1 : ¬ vDeed V s i 1 = 0) (hf : f 0 = cKind (vOp V i) (vDeed V s i 0)) (hg : s = 0 → f 0 = 9 → vDeed V s i 0 = 1 + 16 * g 0 ∧ bd (g 0) 8) (hf1 : f 1 = cKind (vOp V i) (vDeed V s i 1)) (hg1 : s = 0 → f 1 = 9 → vDeed V s i 1 = 1 + 16 * g 1 ∧ bd (g 1) 8) : Mt V s i 2 f g := ⟨by unfold vMany; rw [if_neg h0, if_neg h1], fun k hk => by
  rcases (show k = 0 ∨ k = 1 by omega) with rfl | rfl
  · exact ⟨hf, hg⟩
  · exact ⟨hf1, hg1⟩⟩
/-- a row is laid -/
def D1 (p i : Nat) (I : MI) (V : Nat → Int32) : Prop := (∀ s, s < 2 → I (p + 7) (25 * s + i) = nI (vMany V s i)) ∧ (∀ s k, s < 2 → k < vMany V s i → I (p + 5) (2 * (25 * s + i) + k) = cKind (vOp V i) (vDeed V s i k)) ∧ ∀ k, k < vMany V 0 i → cKind (vOp V i) (vDeed V 0 i k) = 9 → vDeed V 0 i k = 1 + 16 * I (p + 6) (2 * i + k) ∧ bd (I (p + 6) (2 * i + k)) 8
theorem d1_of {c d : Nat} {f g f' g' : Nat → Int32} (h0 : Tb p 0 i I c f g) (m0 : Mt V 0 i c f g) (h1 : Tb p 1 i I d f' g') (m1 : Mt V 1 i d f' g') : D1 p i I V := by
  refine ⟨fun s hs' => ?_, fun s k hs' hk => ?_, fun k hk hc => ?_⟩
  · rcases (show s = 0 ∨ s = 1 by omega) with rfl | rfl
    · rw [m0.1]; exact h0.1
    · rw [m1.1]; exact h1.1
  · rcases (show s = 0 ∨ s = 1 by omega) with rfl | rfl
    · rw [m0.1] at hk; rw [(h0.2 k hk).1, (m0.2 k hk).1]
    · rw [m1.1] at hk; rw [(h1.2 k hk).1, (m1.2 k hk).1]
  · rw [m0.1] at hk
    have hf := (m0.2 k hk).1
    rw [← hf] at hc
    rw [(h0.2 k hk).2 rfl hc]
    exact (m0.2 k hk).2 rfl hc
theorem send_ne {r : Int32} (h : bd r 8) : ¬ (1 : Int32) + 16 * r = 0 := by
  obtain ⟨k, hk, e, e2⟩ := send_nI h
  rw [e2, nI_z (by omega)]; omega
theorem send_kind {r op : Int32} (h : bd r 8) : cKind op (1 + 16 * r) = 9 := by
  obtain ⟨k, hk, e, e2⟩ := send_nI h
  rw [e2]; exact cKind_send hk
/-- what laying a row ends with -/
def SO (p i : Nat) (I : MI) (V : Nat → Int32) : Prop := ∃ I', (∀ P : MI → Prop, P I' → w_X2_splitOne p (nI i) (p + 9 + i) I P) ∧ D1 p i I' V ∧ Fr2 p i I I'
theorem so_set (h : RelR p I V) (e4 : I p 4 = V 49) (hi : i ≤ ix (V 48)) (z0 : Tb p 0 i I 0 (fun _ => 0) (fun _ => 0)) (z1 : Tb p 1 i I 0 (fun _ => 0) (fun _ => 0)) (ho : vOp V i = 0) : SO p i I V := by
  obtain ⟨hsz, e48⟩ := size_lt h
  have eo : I (p + 9 + i) 0 = vOp V i := h.2.2.1 i hi
  obtain ⟨hl, e0, b0, b1, b2, b3, r0, -⟩ := row_of h hi (by rw [ho]; decide)
  obtain ⟨f1, -⟩ := r0 (by rw [e0, ho])
  by_cases g : hs (V 49) (V (51 + 5 * i)) = true
  · have dv : ∀ s k, vDeed V s i k = (if s = 1 then 0 else if k = 0 then 2 else 0) := fun s k => by unfold vDeed; rw [ho, vd_0, if_pos g]
    obtain ⟨I', a1, a2, a3, a4⟩ := a_deed (s := 0) (kd := 0) (by omega) (by omega) (by omega) (by omega) (by decide) z0 z1
    refine ⟨I', fun P hP => ?_, d1_of a2 (mt1 (by rw [dv]; decide) (by rw [dv]; rfl) (by rw [dv, ho]; rfl) (fun _ q => absurd q (by decide))) a3 (mt0 (by rw [dv]; rfl)), a4⟩
    unfold w_X2_splitOne
    rw [eo, ho, e4, f1]
    exact ⟨fun _ => k_isIn (by rw [if_pos g]; exact ⟨fun c => absurd c (by decide), fun _ => a1 _ hP⟩), fun c => absurd c (by decide), fun c => absurd c (by decide), fun c => absurd c (by decide), fun c => absurd c (by decide), fun n0 n1 n2 n3 n4 n5 n7 => absurd rfl n0⟩
  · have dv : ∀ s k, vDeed V s i k = (if s = 1 then (if k = 0 then 2 else 0) else 0) := fun s k => by unfold vDeed; rw [ho, vd_0, if_neg g]
    obtain ⟨I', a1, a2, a3, a4⟩ := a_deed (s := 1) (kd := 0) (by omega) (by omega) (by omega) (by omega) (by decide) z1 z0
    refine ⟨I', fun P hP => ?_, d1_of a3 (mt0 (by rw [dv]; rfl)) a2 (mt1 (by rw [dv]; decide) (by rw [dv]; rfl) (by rw [dv, ho]; rfl) (fun q => absurd q (by omega))), a4⟩
    unfold w_X2_splitOne
    rw [eo, ho, e4, f1]
    exact ⟨fun _ => k_isIn (by rw [if_neg g]; exact ⟨fun _ => a1 _ hP, fun c => absurd rfl c⟩), fun c => absurd c (by decide), fun c => absurd c (by decide), fun c => absurd c (by decide), fun c => absurd c (by decide), fun n0 n1 n2 n3 n4 n5 n7 => absurd rfl n0⟩
theorem so_mem {k1 k2 k3 : Int32} (h : RelR p I V) (e4 : I p 4 = V 49) (hi : i ≤ ix (V 48)) (z0 : Tb p 0 i I 0 (fun _ => 0) (fun _ => 0)) (z1 : Tb p 1 i I 0 (fun _ => 0) (fun _ => 0)) (ho : vOp V i = 4 ∧ k1 = 10 ∧ k2 = 11 ∧ k3 = 12 ∨ vOp V i = 5 ∧ k1 = 13 ∧ k2 = 14 ∧ k3 = 15) : SO p i I V := by
  obtain ⟨hsz, e48⟩ := size_lt h
  have eo : I (p + 9 + i) 0 = vOp V i := h.2.2.1 i hi
  have h8 : ¬ vOp V i = 8 := by rcases ho with ⟨q, -⟩ | ⟨q, -⟩ <;> rw [q] <;> decide
  obtain ⟨hl, e0, b0, b1, b2, b3, r0, r1, r4, -⟩ := row_of h hi h8
  obtain ⟨f1, -⟩ := r4 (by rw [e0]; rcases ho with ⟨q, -⟩ | ⟨q, -⟩ <;> rw [q]; exact Or.inl rfl; exact Or.inr rfl)
  have hsp : ∀ P : MI → Prop, w_X2_splitMemory p (nI i) (p + 9 + i) k1 k2 k3 I P → w_X2_splitOne p (nI i) (p + 9 + i) I P := fun P hP => by
    unfold w_X2_splitOne
    rw [eo]
    rcases ho with ⟨q, rfl, rfl, rfl⟩ | ⟨q, rfl, rfl, rfl⟩ <;> rw [q]
    · exact ⟨fun c => absurd c (by decide), fun c => absurd c (by decide), fun _ => hP, fun c => absurd c (by decide), fun c => absurd c (by decide), fun n0 n1 n2 n3 n4 n5 n7 => absurd rfl n4⟩
    · exact ⟨fun c => absurd c (by decide), fun c => absurd c (by decide), fun c => absurd c (by decide), fun _ => hP, fun c => absurd c (by decide), fun n0 n1 n2 n3 n4 n5 n7 => absurd rfl n5⟩
  by_cases g : hs (V 49) (V (51 + 5 * i)) = true
  · have d0 : vDeed V 0 i 0 = if vOp V i = 4 then 3 else 6 := by unfold vDeed; rcases ho with ⟨q, -⟩ | ⟨q, -⟩ <;> rw [q]; rw [vd_4, if_pos g]; rfl; rw [vd_5, if_pos g]; rfl
    have d1 : vDeed V 0 i 1 = 0 := by unfold vDeed; rcases ho with ⟨q, -⟩ | ⟨q, -⟩ <;> rw [q]; rw [vd_4, if_pos g]; rfl; rw [vd_5, if_pos g]; rfl
    have d2 : vDeed V 1 i 0 = 0 := by unfold vDeed; rcases ho with ⟨q, -⟩ | ⟨q, -⟩ <;> rw [q]; rw [vd_4, if_pos g]; rfl; rw [vd_5, if_pos g]; rfl
    obtain ⟨I', a1, a2, a3, a4⟩ := a_deed (s := 0) (kd := k1) (by omega) (by omega) (by omega) (by omega) (by rcases ho with ⟨-, q, -⟩ | ⟨-, q, -⟩ <;> rw [q] <;> decide) z0 z1
    refine ⟨I', fun P hP => hsp P ?_, d1_of a2 (mt1 (by rw [d0]; rcases ho with ⟨q, -⟩ | ⟨q, -⟩ <;> rw [q] <;> decide) d1 (by rw [d0]; rcases ho with ⟨q, rfl, -⟩ | ⟨q, rfl, -⟩ <;> rw [q] <;> rfl) (fun _ q => by rcases ho with ⟨-, rfl, -⟩ | ⟨-, rfl, -⟩ <;> exact absurd q (by decide))) a3 (mt0 d2), a4⟩
    unfold w_X2_splitMemory
    rw [e4, f1]
    exact k_isIn (by rw [if_pos g]; exact ⟨fun c => absurd c (by decide), fun _ => a1 _ hP⟩)
  · have d0 : vDeed V 0 i 0 = if vOp V i = 4 then 4 else 7 := by unfold vDeed; rcases ho with ⟨q, -⟩ | ⟨q, -⟩ <;> rw [q]; rw [vd_4, if_neg g]; rfl; rw [vd_5, if_neg g]; rfl
    have d1 : vDeed V 0 i 1 = 0 := by unfold vDeed; rcases ho with ⟨q, -⟩ | ⟨q, -⟩ <;> rw [q]; rw [vd_4, if_neg g]; rfl; rw [vd_5, if_neg g]; rfl
    have d2 : vDeed V 1 i 0 = if vOp V i = 4 then 5 else 8 := by unfold vDeed; rcases ho with ⟨q, -⟩ | ⟨q, -⟩ <;> rw [q]; rw [vd_4, if_neg g]; rfl; rw [vd_5, if_neg g]; rfl
    have d3 : vDeed V 1 i 1 = 0 := by unfold vDeed; rcases ho with ⟨q, -⟩ | ⟨q, -⟩ <;> rw [q]; rw [vd_4, if_neg g]; rfl; rw [vd_5, if_neg g]; rfl
    obtain ⟨I1, a1, a2, a3, a4⟩ := a_deed (s := 0) (kd := k2) (by omega) (by omega) (by omega) (by omega) (by rcases ho with ⟨-, -, q, -⟩ | ⟨-, -, q, -⟩ <;> rw [q] <;> decide) z0 z1
    obtain ⟨I', c1, c2, c3, c4⟩ := a_deed (s := 1) (kd := k3) (by omega) (by omega) (by omega) (by omega) (by rcases ho with ⟨-, -, -, q⟩ | ⟨-, -, -, q⟩ <;> rw [q] <;> decide) a3 a2
    refine ⟨I', fun P hP => hsp P ?_, d1_of c3 (mt1 (by rw [d0]; rcases ho with ⟨q, -⟩ | ⟨q, -⟩ <;> rw [q] <;> decide) d1 (by rw [d0]; rcases ho with ⟨q, -, rfl, -⟩ | ⟨q, -, rfl, -⟩ <;> rw [q] <;> rfl) (fun _ q => by rcases ho with ⟨-, -, rfl, -⟩ | ⟨-, -, rfl, -⟩ <;> exact absurd q (by decide))) c2 (mt1 (by rw [d2]; rcases ho with ⟨q, -⟩ | ⟨q, -⟩ <;> rw [q] <;> decide) d3 (by rw [d2]; rcases ho with ⟨q, -, -, rfl⟩ | ⟨q, -, -, rfl⟩ <;> rw [q] <;> rfl) (fun q => absurd q (by omega))), a4.tr c4⟩
    unfold w_X2_splitMemory
    rw [e4, f1]
    exact k_isIn (by rw [if_neg g]; exact ⟨fun _ => a1 _ (c1 _ hP), fun c => absurd rfl c⟩)
theorem so_go (h : RelR p I V) (e4 : I p 4 = V 49) (hi : i ≤ ix (V 48)) (z0 : Tb p 0 i I 0 (fun _ => 0) (fun _ => 0)) (z1 : Tb p 1 i I 0 (fun _ => 0) (fun _ => 0)) (ho : vOp V i = 6 ∨ vOp V i = 8) : SO p i I V := by
  obtain ⟨hsz, e48⟩ := size_lt h
  have eo : I (p + 9 + i) 0 = vOp V i := h.2.2.1 i hi
  have d0 : ∀ s, vDeed V s i 0 = if vOp V i = 6 then 9 else 14 := fun s => by unfold vDeed; rcases ho with q | q <;> rw [q]; rw [vd_6]; rfl; rw [vd_8]; rfl
  have d1 : ∀ s, vDeed V s i 1 = 0 := fun s => by unfold vDeed; rcases ho with q | q <;> rw [q]; rw [vd_6]; rfl; rw [vd_8]; rfl
  have n9 : ¬ vOp V i = 9 := by rcases ho with q | q <;> rw [q] <;> decide
  obtain ⟨I1, a1, a2, a3, a4⟩ := a_deed (s := 0) (kd := vOp V i) (by omega) (by omega) (by omega) (by omega) n9 z0 z1
  obtain ⟨I', c1, c2, c3, c4⟩ := a_deed (s := 1) (kd := vOp V i) (by omega) (by omega) (by omega) (by omega) n9 a3 a2
  have hk : ∀ s, vOp V i = cKind (vOp V i) (vDeed V s i 0) := fun s => by rw [d0]; rcases ho with q | q <;> rw [q] <;> rfl
  refine ⟨I', fun P hP => ?_, d1_of c3 (mt1 (by rw [d0]; rcases ho with q | q <;> rw [q] <;> decide) (d1 0) (hk 0) (fun _ q => absurd q n9)) c2 (mt1 (by rw [d0]; rcases ho with q | q <;> rw [q] <;> decide) (d1 1) (hk 1) (fun q => absurd q (by omega))), a4.tr c4⟩
  have e1 : I1 (p + 9 + i) = I (p + 9 + i) := a4.1 _ (by omega) (by omega) (by omega)
  have fin : w_X2_addDeed p 0 (nI i) (vOp V i) I (fun I9 => w_X2_addDeed p 1 (nI i) (I9 (p + 9 + i) 0) I9 (fun I10 => P I10)) := a1 _ (by rw [e1, eo]; exact c1 _ hP)
  unfold w_X2_splitOne
  rw [eo]
  rcases ho with q | q <;> rw [q] at fin ⊢
  · exact ⟨fun c => absurd c (by decide), fun c => absurd c (by decide), fun c => absurd c (by decide), fun c => absurd c (by decide), fun c => absurd c (by decide), fun _ _ _ _ _ _ _ => fin⟩
  · exact ⟨fun c => absurd c (by decide), fun c => absurd c (by decide), fun c => absurd c (by decide), fun c => absurd c (by decide), fun c => absurd c (by decide), fun _ _ _ _ _ _ _ => fin⟩
/-- the sends of a row -/
theorem a_sends {x y : Int32} (hi : i < 25) (e4 : I p 4 = V 49) (hx : bd x 8) (hy : bd y 8) (z0 : Tb p 0 i I 0 (fun _ => 0) (fun _ => 0)) (z1 : Tb p 1 i I 0 (fun _ => 0) (fun _ => 0)) :
    ∃ (I1 I' : MI) (f g : Nat → Int32), (∀ P : MI → Prop, P I1 → w_X2_addSend p (nI i) x I P) ∧ (∀ P : MI → Prop, P I' → w_X2_addSend p (nI i) y I1 P) ∧ Tb p 0 i I' (vSends V x y) f g ∧ Tb p 1 i I' 0 (fun _ => 0) (fun _ => 0) ∧ Fr2 p i I I1 ∧ Fr2 p i I I' ∧ ∀ k, k < vSends V x y → f k = 9 ∧ vSend V x y k = 1 + 16 * g k ∧ bd (g k) 8 := by
  by_cases gx : hs (V 49) x = true
  · obtain ⟨I1, a1, a2, a3, a4⟩ := a_send (c := 0) (d := 0) hi (by omega) (by omega) e4 gx z0 z1
    have e41 : I1 p 4 = V 49 := by rw [a4.1 p (by omega) (by omega) (by omega)]; exact e4
    by_cases gy : hs (V 49) y = true
    · obtain ⟨I2, c1, c2, c3, c4⟩ := a_send (c := 1) (d := 0) hi (by omega) (by omega) e41 gy a2 a3
      have e : vSends V x y = 2 := by unfold vSends; rw [if_pos gx, if_pos gy]
      refine ⟨I1, I2, _, _, a1, c1, by rw [e]; exact c2, c3, a4, a4.tr c4, fun k hk => ?_⟩
      rw [e] at hk
      unfold vSend
      rw [if_pos gx]
      rcases (show k = 0 ∨ k = 1 by omega) with rfl | rfl
      · rw [if_pos rfl, upd_n _ _ (by omega), upd_s, upd_n _ _ (by omega), upd_s]; exact ⟨rfl, rfl, hx⟩
      · rw [if_neg (by omega), if_pos ⟨gy, rfl⟩, upd_s, upd_s]; exact ⟨rfl, rfl, hy⟩
    · have e : vSends V x y = 1 := by unfold vSends; rw [if_pos gx, if_neg gy]
      refine ⟨I1, I1, _, _, a1, fun P hP => a_nosend hi e41 gy a2 hP, by rw [e]; exact a2, a3, a4, a4, fun k hk => ?_⟩
      rw [e] at hk
      have : k = 0 := by omega
      subst this
      unfold vSend
      rw [if_pos gx, if_pos rfl, upd_s, upd_s]; exact ⟨rfl, rfl, hx⟩
  · by_cases gy : hs (V 49) y = true
    · obtain ⟨I2, c1, c2, c3, c4⟩ := a_send (c := 0) (d := 0) hi (by omega) (by omega) e4 gy z0 z1
      have e : vSends V x y = 1 := by unfold vSends; rw [if_neg gx, if_pos gy]
      refine ⟨I, I2, _, _, fun P hP => a_nosend hi e4 gx z0 hP, c1, by rw [e]; exact c2, c3, Fr2.rf, c4, fun k hk => ?_⟩
      rw [e] at hk
      have : k = 0 := by omega
      subst this
      unfold vSend
      rw [if_neg gx, if_pos ⟨gy, rfl⟩, upd_s, upd_s]; exact ⟨rfl, rfl, hy⟩
    · have e : vSends V x y = 0 := by unfold vSends; rw [if_neg gx, if_neg gy]
      exact ⟨I, I, _, _, fun P hP => a_nosend hi e4 gx z0 hP, fun P hP => a_nosend hi e4 gy z0 hP, by rw [e]; exact z0, z1, Fr2.rf, Fr2.rf, fun k hk => by omega⟩
theorem so_reck (h : RelR p I V) (e4 : I p 4 = V 49) (hi : i ≤ ix (V 48)) (z0 : Tb p 0 i I 0 (fun _ => 0) (fun _ => 0)) (z1 : Tb p 1 i I 0 (fun _ => 0) (fun _ => 0)) (ho : vOp V i = 1 ∨ vOp V i = 2 ∨ vOp V i = 3) : SO p i I V := by
  obtain ⟨hsz, e48⟩ := size_lt h
  have eo : I (p + 9 + i) 0 = vOp V i := h.2.2.1 i hi
  have h8 : ¬ vOp V i = 8 := by rcases ho with q | q | q <;> rw [q] <;> decide
  have n9 : ¬ vOp V i = 9 := by rcases ho with q | q | q <;> rw [q] <;> decide
  have h7 : ¬ V (50 + 5 * i) = 7 := fun c => by
    have e := (row_of h hi h8).2.1
    rw [c] at e
    rcases ho with q | q | q <;> rw [q] at e <;> exact absurd e (by decide)
  obtain ⟨hl, e0, b0, b1, b2, b3, r0, r1, -⟩ := row_of h hi h8
  have b3 := b3 h7
  obtain ⟨f1, f2, f3⟩ := r1 (by rw [e0]; exact ho)
  have hsp : ∀ P : MI → Prop, w_X2_splitReckoning p (nI i) (p + 9 + i) I P → w_X2_splitOne p (nI i) (p + 9 + i) I P := fun P hP => by
    unfold w_X2_splitOne
    rw [eo]
    rcases ho with q | q | q <;> rw [q]
    · exact ⟨fun c => absurd c (by decide), fun _ => hP, fun c => absurd c (by decide), fun c => absurd c (by decide), fun c => absurd c (by decide), fun _ c => absurd rfl c⟩
    · exact ⟨fun c => absurd c (by decide), fun _ => hP, fun c => absurd c (by decide), fun c => absurd c (by decide), fun c => absurd c (by decide), fun _ _ c => absurd rfl c⟩
    · exact ⟨fun c => absurd c (by decide), fun _ => hP, fun c => absurd c (by decide), fun c => absurd c (by decide), fun c => absurd c (by decide), fun _ _ _ c => absurd rfl c⟩
  have k2 : vOp V i = cKind (vOp V i) 2 := by unfold cKind; rw [if_pos rfl]
  by_cases g : hs (V 49) (V (51 + 5 * i)) = true
  · have dv : ∀ s k, vDeed V s i k = (if s = 1 then 0 else if k = 0 then 2 else 0) := fun s k => by unfold vDeed; rw [vd_r ho, if_pos g]
    obtain ⟨I', a1, a2, a3, a4⟩ := a_deed (s := 0) (kd := vOp V i) (by omega) (by omega) (by omega) (by omega) n9 z0 z1
    refine ⟨I', fun P hP => hsp P ?_, d1_of a2 (mt1 (by rw [dv]; decide) (by rw [dv]; rfl) (by rw [dv]; exact k2) (fun _ q => absurd q n9)) a3 (mt0 (by rw [dv]; rfl)), a4⟩
    unfold w_X2_splitReckoning
    rw [e4, f1, eo]
    exact k_isIn (by rw [if_pos g]; exact ⟨fun c => absurd c (by decide), fun _ => a1 _ hP⟩)
  · have dv : ∀ s k, vDeed V s i k = (if s = 1 then (if k = 0 then 2 else 0) else vSend V (V (52 + 5 * i)) (V (53 + 5 * i)) k) := fun s k => by unfold vDeed; rw [vd_r ho, if_neg g]
    obtain ⟨I1, I2, f, gg, a1, a2, a3, a4, a5, a6, a7⟩ := a_sends (i := i) (x := V (52 + 5 * i)) (y := V (53 + 5 * i)) (by omega) e4 b2 b3 z0 z1
    have hle := vSends_le V (V (52 + 5 * i)) (V (53 + 5 * i))
    obtain ⟨I', c1, c2, c3, c4⟩ := a_deed (s := 1) (kd := vOp V i) (by omega) (by omega) (by omega) hle n9 a4 a3
    have m0 : Mt V 0 i (vSends V (V (52 + 5 * i)) (V (53 + 5 * i))) f gg := by
      have em : vMany V 0 i = vSends V (V (52 + 5 * i)) (V (53 + 5 * i)) := by
        have q : ∀ k, k ≤ 2 → (k < vMany V 0 i ↔ k < vSends V (V (52 + 5 * i)) (V (53 + 5 * i))) := fun k hk => by
          rw [vMany_iff h (by omega) hi hk, dv]
          show ¬ vSend V (V (52 + 5 * i)) (V (53 + 5 * i)) k = 0 ↔ _
          constructor
          · intro c
            rcases Nat.lt_or_ge k (vSends V (V (52 + 5 * i)) (V (53 + 5 * i))) with q | q
            · exact q
            · exact absurd (vSend_z q) c
          · intro c; exact vSend_n c b2 b3
        have q0 := q 0 (by omega)
        have q1 := q 1 (by omega)
        have q2 := vMany_le (V := V) (s := 0) (i := i)
        omega
      refine ⟨em, fun k hk => ?_⟩
      obtain ⟨w1, w2, w3⟩ := a7 k hk
      have ed : vDeed V 0 i k = 1 + 16 * gg k := by rw [dv]; exact w2
      rw [ed, w1, send_kind w3]
      exact ⟨rfl, fun _ _ => ⟨rfl, w3⟩⟩
    refine ⟨I', fun P hP => hsp P ?_, d1_of c3 m0 c2 (mt1 (by rw [dv, if_pos rfl, if_pos rfl]; decide) (by rw [dv]; rfl) (by rw [dv]; exact k2) (fun q => absurd q (by omega))), a6.tr c4⟩
    have e1 : I1 (p + 9 + i) = I (p + 9 + i) := a5.1 _ (by omega) (by omega) (by omega)
    have e2 : I2 (p + 9 + i) = I (p + 9 + i) := a6.1 _ (by omega) (by omega) (by omega)
    unfold w_X2_splitReckoning
    rw [e4, f1]
    refine k_isIn ?_
    rw [if_neg g]
    refine ⟨fun _ => ?_, fun c => absurd rfl c⟩
    rw [f2]
    refine a1 _ ?_
    rw [e1, f3]
    refine a2 _ ?_
    rw [e2, eo]
    exact c1 _ hP
theorem so_if (h : RelR p I V) (e4 : I p 4 = V 49) (hi : i ≤ ix (V 48)) (z0 : Tb p 0 i I 0 (fun _ => 0) (fun _ => 0)) (z1 : Tb p 1 i I 0 (fun _ => 0) (fun _ => 0)) (ho : vOp V i = 7) : SO p i I V := by
  obtain ⟨hsz, e48⟩ := size_lt h
  have eo : I (p + 9 + i) 0 = vOp V i := h.2.2.1 i hi
  obtain ⟨hl, e0, b0, b1, b2, b3, r0, r1, r4, r6, r7⟩ := row_of h hi (by rw [ho]; decide)
  obtain ⟨f2, f3, -⟩ := r7 (by rw [e0, ho])
  have hsp : ∀ P : MI → Prop, w_X2_splitIf p (nI i) (p + 9 + i) I P → w_X2_splitOne p (nI i) (p + 9 + i) I P := fun P hP => by
    unfold w_X2_splitOne
    rw [eo, ho]
    exact ⟨fun c => absurd c (by decide), fun c => absurd c (by decide), fun c => absurd c (by decide), fun c => absurd c (by decide), fun _ => hP, fun _ _ _ _ _ _ c => absurd rfl c⟩
  by_cases g : hs (V 49) (V (51 + 5 * i)) = true ∧ hs (V 49) (V (52 + 5 * i)) = true
  · have dv : ∀ s k, vDeed V s i k = (if k = 0 then (if s = 1 then 11 else 10) else 0) := fun s k => by unfold vDeed; rw [ho, vd_7]; unfold vDeedIf; rw [if_pos g]
    obtain ⟨I1, a1, a2, a3, a4⟩ := a_deed (s := 0) (kd := 16) (by omega) (by omega) (by omega) (by omega) (by decide) z0 z1
    obtain ⟨I', c1, c2, c3, c4⟩ := a_deed (s := 1) (kd := 17) (by omega) (by omega) (by omega) (by omega) (by decide) a3 a2
    refine ⟨I', fun P hP => hsp P ?_, d1_of c3 (mt1 (by rw [dv]; decide) (by rw [dv]; rfl) (by rw [dv]; rfl) (fun _ q => absurd q (by decide))) c2 (mt1 (by rw [dv]; decide) (by rw [dv]; rfl) (by rw [dv]; rfl) (fun q => absurd q (by omega))), a4.tr c4⟩
    unfold w_X2_splitIf
    rw [e4, f2, f3]
    exact k_isIn (by rw [if_pos g.1]; exact ⟨fun c => absurd c (by decide), fun _ => k_isIn (by rw [if_pos g.2]; exact ⟨fun c => absurd c (by decide), fun _ => a1 _ (c1 _ hP)⟩)⟩)
  · have dv : ∀ s k, vDeed V s i k = (if s = 1 then (if k = 0 then 13 else 0) else if k < vSends V (V (51 + 5 * i)) (V (52 + 5 * i)) then vSend V (V (51 + 5 * i)) (V (52 + 5 * i)) k else if k = vSends V (V (51 + 5 * i)) (V (52 + 5 * i)) then 12 else 0) := fun s k => by unfold vDeed; rw [ho, vd_7]; unfold vDeedIf; rw [if_neg g]
    obtain ⟨I1, I2, f, gg, a1, a2, a3, a4, a5, a6, a7⟩ := a_sends (i := i) (x := V (51 + 5 * i)) (y := V (52 + 5 * i)) (by omega) e4 b1 b2 z0 z1
    have hle : vSends V (V (51 + 5 * i)) (V (52 + 5 * i)) ≤ 1 := by
      unfold vSends
      by_cases q : hs (V 49) (V (51 + 5 * i)) = true
      · rw [if_pos q, if_neg (fun c => g ⟨q, c⟩)]; omega
      · rw [if_neg q]; split <;> omega
    obtain ⟨I3, c1, c2, c3, c4⟩ := a_deed (s := 0) (kd := 18) (by omega) (by omega) (by omega) (by omega) (by decide) a3 a4
    obtain ⟨I', d1, d2, d3, d4⟩ := a_deed (s := 1) (kd := 19) (by omega) (by omega) (by omega) (by omega) (by decide) c3 c2
    have m0 : Mt V 0 i (vSends V (V (51 + 5 * i)) (V (52 + 5 * i)) + 1) (upd f (vSends V (V (51 + 5 * i)) (V (52 + 5 * i))) 18) gg := by
      generalize hn : vSends V (V (51 + 5 * i)) (V (52 + 5 * i)) = n at *
      rcases (show n = 0 ∨ n = 1 by omega) with q | q
      · subst q
        have e0 : vDeed V 0 i 0 = 12 := by rw [dv]; rfl
        exact mt1 (by rw [e0]; decide) (by rw [dv]; rfl) (by rw [e0, upd_s]; rfl) (fun _ q => by rw [upd_s] at q; exact absurd q (by decide))
      · subst q
        obtain ⟨w1, w2, w3⟩ := a7 0 (by omega)
        have e0 : vDeed V 0 i 0 = 1 + 16 * gg 0 := by rw [dv]; exact w2
        have e1 : vDeed V 0 i 1 = 12 := by rw [dv]; rfl
        exact mt2 (by rw [e0]; exact send_ne w3) (by rw [e1]; decide) (by rw [e0, upd_n _ _ (by omega), w1, send_kind w3]) (fun _ _ => ⟨e0, w3⟩) (by rw [e1, upd_s]; rfl) (fun _ q => by rw [upd_s] at q; exact absurd q (by decide))
    refine ⟨I', fun P hP => hsp P ?_, d1_of d3 m0 d2 (mt1 (by rw [dv, if_pos rfl, if_pos rfl]; decide) (by rw [dv]; rfl) (by rw [dv]; rfl) (fun q => absurd q (by omega))), a6.tr (c4.tr d4)⟩
    have e1 : I1 (p + 9 + i) = I (p + 9 + i) := a5.1 _ (by omega) (by omega) (by omega)
    have hp47 : w_X2_splitIf_p47 p (nI i) (p + 9 + i) I P := by
      unfold w_X2_splitIf_p47
      rw [f2]
      refine a1 _ ?_
      rw [e1, f3]
      exact a2 _ (c1 _ (d1 _ hP))
    unfold w_X2_splitIf
    rw [e4, f2, f3]
    refine k_isIn ?_
    by_cases q : hs (V 49) (V (51 + 5 * i)) = true
    · rw [if_pos q]
      refine ⟨fun c => absurd c (by decide), fun _ => k_isIn ?_⟩
      rw [if_neg (fun c => g ⟨q, c⟩)]
      exact ⟨fun _ => hp47, fun c => absurd rfl c⟩
    · rw [if_neg q]
      exact ⟨fun _ => hp47, fun c => absurd rfl c⟩
theorem so_all (h : RelR p I V) (e4 : I p 4 = V 49) (hi : i ≤ ix (V 48)) (z0 : Tb p 0 i I 0 (fun _ => 0) (fun _ => 0)) (z1 : Tb p 1 i I 0 (fun _ => 0) (fun _ => 0)) : SO p i I V := by
  have hc : vOp V i = 0 ∨ vOp V i = 1 ∨ vOp V i = 2 ∨ vOp V i = 3 ∨ vOp V i = 4 ∨ vOp V i = 5 ∨ vOp V i = 6 ∨ vOp V i = 7 ∨ vOp V i = 8 := by
    rcases vOp_row h hi with ⟨e, h8⟩ | ⟨hl, ho⟩
    · simp [h8]
    · rw [ho]; exact op_cases (h.2.2.2.1 i hl).1
  rcases hc with c | c | c | c | c | c | c | c | c
  · exact so_set h e4 hi z0 z1 c
  · exact so_reck h e4 hi z0 z1 (Or.inl c)
  · exact so_reck h e4 hi z0 z1 (Or.inr (Or.inl c))
  · exact so_reck h e4 hi z0 z1 (Or.inr (Or.inr c))
  · exact so_mem (k1 := 10) (k2 := 11) (k3 := 12) h e4 hi z0 z1 (Or.inl ⟨c, rfl, rfl, rfl⟩)
  · exact so_mem (k1 := 13) (k2 := 14) (k3 := 15) h e4 hi z0 z1 (Or.inr ⟨c, rfl, rfl, rfl⟩)
  · exact so_go h e4 hi z0 z1 (Or.inl c)
  · exact so_if h e4 hi z0 z1 c
  · exact so_go h e4 hi z0 z1 (Or.inr c)
theorem RelR.fr4 {I' : MI} {x : Int32} (h : RelR p I V) (h' : I' = ui I p 4 x) : RelR p I' V := by
  subst h'
  obtain ⟨h1, h2, h3, h4, h5⟩ := h
  refine ⟨by rw [ui_gj _ _ _ (by omega)]; exact h1, h2, fun i hi => ?_, fun i hi => ?_, fun i hi => ?_⟩
  · rw [ui_ne _ _ _ (by omega)]; exact h3 i hi
  · have := h4 i hi
    unfold RowR at this ⊢
    rw [ui_ne _ _ _ (by omega)]; exact this
  · rw [ui_ne _ _ _ (by omega)]; exact h5 i hi
theorem RelR.fr5 {I' : MI} (h : RelR p I V) (hp : ∀ j, j ≠ 4 → I' p j = I p j) (hr : ∀ i, i < 25 → I' (p + 9 + i) = I (p + 9 + i)) : RelR p I' V := by
  obtain ⟨h1, h2, h3, h4, h5⟩ := h
  obtain ⟨-, hl⟩ := bd_ix h2 (by omega)
  refine ⟨by rw [hp _ (by omega)]; exact h1, h2, fun i hi => ?_, fun i hi => ?_, fun i hi => ?_⟩
  · rw [hr i (by omega)]; exact h3 i hi
  · have := h4 i hi
    unfold RowR at this ⊢
    rw [hr i (by omega)]; exact this
  · rw [hr i hi]; exact h5 i hi
theorem RelR.fr5' {I' : MI} (h : RelR p I V) (hp : ∀ j, j ≠ 3 → I' p j = I p j) (hr : ∀ i, i < 25 → I' (p + 9 + i) = I (p + 9 + i)) : RelR p I' V := by
  obtain ⟨h1, h2, h3, h4, h5⟩ := h
  obtain ⟨-, hl⟩ := bd_ix h2 (by omega)
  refine ⟨by rw [hp _ (by omega)]; exact h1, h2, fun i hi => ?_, fun i hi => ?_, fun i hi => ?_⟩
  · rw [hr i (by omega)]; exact h3 i hi
  · have := h4 i hi
    unfold RowR at this ⊢
    rw [hr i (by omega)]; exact this
  · rw [hr i hi]; exact h5 i hi
theorem D1.fr {I' : MI} {k : Nat} (h : D1 p k I V) (hk : k < 25) (hi : i < 25) (hne : k ≠ i) (hF : Fr2 p i I I') : D1 p k I' V := by
  obtain ⟨h1, h2, h3⟩ := h
  refine ⟨fun s hs' => ?_, fun s j hs' hj => ?_, fun j hj hc => ?_⟩
  · rw [hF.2.1 _ (by rcases (show s = 0 ∨ s = 1 by omega) with e | e <;> rw [e] <;> omega) (by rcases (show s = 0 ∨ s = 1 by omega) with e | e <;> rw [e] <;> omega)]; exact h1 s hs'
  · have hj2 := vMany_le (V := V) (s := s) (i := k)
    rw [hF.2.2.1 _ (by rcases (show s = 0 ∨ s = 1 by omega) with e | e <;> rw [e] <;> omega) (by rcases (show s = 0 ∨ s = 1 by omega) with e | e <;> rw [e] <;> omega)]; exact h2 s j hs' hj
  · have hj2 := vMany_le (V := V) (s := 0) (i := k)
    rw [hF.2.2.2 _ (by omega)]; exact h3 j hj hc
/-- what splitting leaves -/
def Fr3 (p : Nat) (I I' : MI) : Prop := (∀ c, c ≠ p → c ≠ p + 5 → c ≠ p + 6 → c ≠ p + 7 → I' c = I c) ∧ ∀ j, j ≠ 4 → I' p j = I p j
theorem k_split {K : Nat} (h : RelR p I V) (hK : K < 256) (e3 : I p 3 = nI K) (hL : ∀ A, IsL V K A → V 49 = nI A) : ∃ I', (∀ P : MI → Prop, P I' → w_X2_split p I P) ∧ RelR p I' V ∧ RelD p I' V ∧ Fr3 p I I' := by
  obtain ⟨hsz, e48⟩ := size_lt h
  have hA := gsI_L h hK
  have e49 := hL _ hA
  generalize hI1 : uf (ui I p 4 (nI (gsI V K 9))) (p + 7) 50 0 = I1
  have i1 : ∀ c, c ≠ p → c ≠ p + 7 → I1 c = I c := fun c h1 h2 => by rw [← hI1, uf_ne _ _ _ h2, ui_ne _ _ _ h1]
  have i1p : ∀ j, j ≠ 4 → I1 p j = I p j := fun j hj => by rw [← hI1, uf_ne _ _ _ (by omega), ui_gj _ _ _ hj]
  have i14 : I1 p 4 = V 49 := by rw [← hI1, uf_ne _ _ _ (by omega), ui_gs, e49]
  have i17 : ∀ j, j < 50 → I1 (p + 7) j = 0 := fun j hj => by rw [← hI1, uf_at]; simp [hj]
  have h1 : RelR p I1 V := h.fr5 i1p (fun i hi => i1 _ (by omega) (by omega))
  have rows : ∀ k, k ≤ ix (V 48) + 1 → ∃ I', (∀ P : MI → Prop, Lp2 (w_X2_split_l36 p P) (nI k) I' → Lp2 (w_X2_split_l36 p P) 0 I1) ∧ RelR p I' V ∧ I' p 4 = V 49 ∧ (∀ i, i < k → D1 p i I' V) ∧ (∀ i, k ≤ i → i < 25 → I' (p + 7) i = 0 ∧ I' (p + 7) (25 + i) = 0) ∧ Fr3 p I1 I' := fun k => by
    induction k with
    | zero => exact fun _ => ⟨I1, fun P hP => hP, h1, i14, fun i hi => by omega, fun i _ hi => ⟨i17 _ (by omega), i17 _ (by omega)⟩, fun _ _ _ _ _ => rfl, fun _ _ => rfl⟩
    | succ k ih =>
      intro hk
      obtain ⟨I2, a1, a2, a3, a4, a5, a6⟩ := ih (by omega)
      obtain ⟨z0, z1⟩ := a5 k (by omega) (by omega)
      obtain ⟨I3, c1, c2, c3⟩ := so_all (i := k) a2 a3 (by omega) ⟨by rw [show 25 * 0 + k = k by omega]; exact z0, fun j hj => by omega⟩ ⟨z1, fun j hj => by omega⟩
      refine ⟨I3, fun P hP => a1 P ?_, ?_, ?_, fun i hi => ?_, fun i hi1 hi2 => ?_, ?_, ?_⟩
      · obtain ⟨n, hn⟩ := hP
        refine ⟨n + 1, ?_⟩
        show w_X2_split_l36 p P (lpN2 (w_X2_split_l36 p P) n) (nI k) I2
        revert hn
        generalize lpN2 (w_X2_split_l36 p P) n = rec
        intro hn
        unfold w_X2_split_l36
        rw [a2.1, e48, nI_1]
        refine ⟨fun c => absurd ((nI_ltI (by omega) (by omega)).mp c) (by omega), fun _ => ⟨inn (by omega) (by omega), ?_⟩⟩
        rw [ixn (n := k) (by omega)]
        exact c1 _ hn
      · exact a2.fr5 (fun j _ => by rw [c3.1 p (by omega) (by omega) (by omega)]) (fun i hi => c3.1 _ (by omega) (by omega) (by omega))
      · rw [c3.1 p (by omega) (by omega) (by omega)]; exact a3
      · by_cases e : i = k
        · subst e; exact c2
        · exact (a4 i (by omega)).fr (by omega) (by omega) e c3
      · rw [c3.2.1 i (by omega) (by omega), c3.2.1 (25 + i) (by omega) (by omega)]; exact a5 i (by omega) hi2
      · intro c h1 h2 h3 h4
        rw [c3.1 c h2 h3 h4, a6.1 c h1 h2 h3 h4]
      · intro j hj
        rw [c3.1 p (by omega) (by omega) (by omega), a6.2 j hj]
  obtain ⟨I', a1, a2, a3, a4, a5, a6⟩ := rows (ix (V 48) + 1) (Nat.le_refl _)
  refine ⟨I', fun P hP => ?_, a2, ⟨a3, fun s i hs' hi => (a4 i (by omega)).1 s hs', fun s i k hs' hi hk => (a4 i (by omega)).2.1 s k hs' hk, fun i k hi hk hc => (a4 i (by omega)).2.2 k hk hc⟩, fun c h1 h2 h3 h4 => by rw [a6.1 c h1 h2 h3 h4, i1 c h1 h4], fun j hj => by rw [a6.2 j hj, i1p j hj]⟩
  unfold w_X2_split
  rintro _ rfl
  rw [e3]
  have fin : Lp2 (w_X2_split_l36 p P) 0 I1 := a1 P ⟨1, by
    show w_X2_split_l36 p P _ (nI (ix (V 48) + 1)) I'
    unfold w_X2_split_l36
    rw [show I' p 1 = nI (ix (V 48)) from a2.1.trans e48]
    exact ⟨fun _ => hP, fun c => absurd (nI_lt (by omega) (by omega)) c⟩⟩
  refine Lp2.of (fun x I' => ∃ k, k ≤ 9 ∧ x = nI k ∧ I' = ui I p 4 (nI (gsI V K k))) (fun x _ => 20 - ix x) ?_ _ _ ⟨0, by omega, rfl, rfl⟩
  rintro rec x I2 ⟨k, hk, rfl, rfl⟩ hrec
  unfold w_X2_split_l10
  refine ⟨fun c => ?_, fun c => ?_⟩
  · have := (nI_ltI (a := 8) (by omega) (by omega)).mp c
    have e : k = 9 := by omega
    subst e
    rintro _ rfl
    rw [hI1]
    exact fin
  · have hlt : k < 9 := by
      rcases Nat.lt_or_ge k 9 with q | q
      · exact q
      · exact absurd (nI_lt (a := 8) (by omega) (by omega)) c
    refine k_widen (h.fr4 rfl) (gsI_bd h hK k) (ui_gs _ _ _ _) ?_
    rw [ui_ui]
    refine hrec _ _ ⟨k + 1, by omega, nI_1 k, rfl⟩ ?_
    rw [nI_1, ixn (by omega), ixn (by omega)]; omega
end
