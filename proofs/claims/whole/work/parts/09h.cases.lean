/-! each deed's text, by class and model -/
section
variable {m b s i k : Nat} {I : MI} {V : Nat → Int32}
set_option maxRecDepth 20000 in
theorem tx_end (h : Rel m I V) (hs' : s < 2) (hi : i ≤ ix (V 48)) (hk : k < 2) (hb : ∀ c, m + 1 ≤ c → c ≤ m + 34 → c ≠ b ∧ c ≠ b + 1) (ho : vOp V i = 8) (ek : I (m + 1 + 5) (2 * (25 * s + i) + k) = nI 8) : ∃ T, TxC m b s i k I T ∧ TxM V i 14 T := by
  obtain ⟨hsz, e48⟩ := size_lt h.1
  have hL : (sT (wdj 8)).length = sL (wdj 8) := (sT_at _ (wdj_lt 8 (by decide)).2).1
  rw [show sL (wdj 8) = 3 from rfl] at hL
  refine ⟨[] ++ sT (wdj 8), fun I7 Q hC hQ => ?_, fun o I0 J Q hM hQ => ?_⟩
  · unfold w_X2_write
    refine ⟨inn (by omega) (by omega), k_kindOf hs' (by omega) hk ?_⟩
    rw [hC.2 (m + 1 + 5) (hb _ (by omega) (by omega)).1 (hb _ (by omega) (by omega)).2, ek, ixn (by omega)]
    refine ⟨8, by decide, rfl, e_str hC (by decide) (fun I1 h1 => ?_)⟩
    simp (config := { decide := true }) only [true_implies, false_implies, and_true, true_and, not_true_eq_false, not_false_eq_true, or_false, false_or, or_true, true_or, forall_const]
    exact hQ _ h1
  · unfold w_X10_tells
    intro x3 e3
    have e3 : x3 = 14 := e3.trans (by decide)
    subst e3
    simp (config := { decide := true }) only [w_X10_tells_p21, w_X10_tells_p184, w_X10_tells_p200, w_X10_tells_p221, w_X10_tells_p232, w_X10_tells_p262, w_X10_tells_p273, w_X10_tells_p298, w_X10_tells_p312, w_X10_tells_p346, w_X10_tells_p357, w_X10_opWord, w_X10_decides, true_implies, false_implies, and_true, true_and, not_true_eq_false, not_false_eq_true, or_false, false_or, or_true, true_or, forall_const]
    refine s_word hM (by decide) wdk_all.2.2.2.2.2.1.1 (fun I1 h1 => ?_)
    rw [wdk_all.2.2.2.2.2.1.2] at h1
    exact hQ _ h1
set_option maxRecDepth 20000 in
theorem tx_jump (h : Rel m I V) (hs' : s < 2) (hi : i ≤ ix (V 48)) (hk : k < 2) (hb : ∀ c, m + 1 ≤ c → c ≤ m + 34 → c ≠ b ∧ c ≠ b + 1) (ho : vOp V i = 6) (ek : I (m + 1 + 5) (2 * (25 * s + i) + k) = nI 6) : ∃ T, TxC m b s i k I T ∧ TxM V i 9 T := by
  obtain ⟨hsz, e48⟩ := size_lt h.1
  obtain ⟨⟨b0, ⟨r1, hr1, v1⟩, ⟨r2, hr2, v2⟩, b3, g0, g13, g45, g6, g7⟩, hop, hi24⟩ := row_tx h hi (by rw [ho]; decide)
  rw [ho] at hop
  obtain ⟨q4, n, hn, v4⟩ := g6 hop.symm
  have hd := decs_2 (show n < 100 by omega)
  have u1 := v1; rw [show 51 + 5 * i = 50 + 5 * i + 1 by omega] at u1
  have u2 := v2; rw [show 52 + 5 * i = 50 + 5 * i + 2 by omega] at u2
  have u4 := v4; rw [show 54 + 5 * i = 50 + 5 * i + 4 by omega] at u4
  have hL : (sT (wdj 6)).length = sL (wdj 6) := (sT_at _ (wdj_lt 6 (by decide)).2).1
  rw [show sL (wdj 6) = 4 from rfl] at hL
  refine ⟨[] ++ sT (wdj 6) ++ (32 :: decs n), fun I7 Q hC hQ => ?_, fun o I0 J Q hM hQ => ?_⟩
  · unfold w_X2_write
    refine ⟨inn (by omega) (by omega), k_kindOf hs' (by omega) hk ?_⟩
    rw [hC.2 (m + 1 + 5) (hb _ (by omega) (by omega)).1 (hb _ (by omega) (by omega)).2, ek, ixn (by omega)]
    refine ⟨6, by decide, rfl, e_str hC (by decide) (fun I1 h1 => ?_)⟩
    simp (config := { decide := true }) only [true_implies, false_implies, and_true, true_and, not_true_eq_false, not_false_eq_true, or_false, false_or, or_true, true_or, forall_const]
    have w1 := h1.2 (m + 1 + 9 + i) (hb _ (by omega) (by omega)).1 (hb _ (by omega) (by omega)).2
    refine e_num h1 (by rw [w1, q4]; exact v4) (by omega) (by simp only [List.length_append, List.length_cons, List.length_nil, hL]; omega) (fun I2 h2 => ?_)
    exact hQ _ h2
  · unfold w_X10_tells
    intro x3 e3
    have e3 : x3 = 9 := e3.trans (by decide)
    subst e3
    simp (config := { decide := true }) only [w_X10_tells_p21, w_X10_tells_p184, w_X10_tells_p200, w_X10_tells_p221, w_X10_tells_p232, w_X10_tells_p262, w_X10_tells_p273, w_X10_tells_p298, w_X10_tells_p312, w_X10_tells_p346, w_X10_tells_p357, w_X10_opWord, w_X10_decides, true_implies, false_implies, and_true, true_and, not_true_eq_false, not_false_eq_true, or_false, false_or, or_true, true_or, forall_const]
    refine s_word hM (by decide) wdk_all.2.2.2.2.1.1 (fun I1 h1 => ?_)
    rw [wdk_all.2.2.2.2.1.2] at h1
    refine s_of h1 (k := 4) (by omega) (by omega) (s_number h1 (by simp only [List.length_append, List.length_cons, List.length_nil, hL]; omega) (by omega) u4 (fun I2 h2 => ?_))
    exact hQ _ h2
set_option maxRecDepth 20000 in
theorem tx_tell (h : Rel m I V) (hs' : s < 2) (hi : i ≤ ix (V 48)) (hk : k < 2) (hb : ∀ c, m + 1 ≤ c → c ≤ m + 34 → c ≠ b ∧ c ≠ b + 1) (ho : vOp V i = 7) (ek : I (m + 1 + 5) (2 * (25 * s + i) + k) = nI 16) : ∃ T, TxC m b s i k I T ∧ TxM V i 10 T := by
  obtain ⟨hsz, e48⟩ := size_lt h.1
  obtain ⟨⟨b0, ⟨r1, hr1, v1⟩, ⟨r2, hr2, v2⟩, b3, g0, g13, g45, g6, g7⟩, hop, hi24⟩ := row_tx h hi (by rw [ho]; decide)
  rw [ho] at hop
  obtain ⟨q2, q3, q5, q4, ⟨n, hn, v4⟩, hsg⟩ := g7 hop.symm
  obtain ⟨sg, hsg, v3⟩ : ∃ c, c < 128 ∧ V (53 + 5 * i) = nI c := by rcases hsg with e | e | e <;> rw [e] <;> exact ⟨_, by decide, rfl⟩
  have hd := decs_2 (show n < 100 by omega)
  have u1 := v1; rw [show 51 + 5 * i = 50 + 5 * i + 1 by omega] at u1
  have u2 := v2; rw [show 52 + 5 * i = 50 + 5 * i + 2 by omega] at u2
  have u3 := v3; rw [show 53 + 5 * i = 50 + 5 * i + 3 by omega] at u3
  have u4 := v4; rw [show 54 + 5 * i = 50 + 5 * i + 4 by omega] at u4
  have hL : (sT (wdj 16)).length = sL (wdj 16) := (sT_at _ (wdj_lt 16 (by decide)).2).1
  rw [show sL (wdj 16) = 4 from rfl] at hL
  refine ⟨[] ++ sT (wdj 16) ++ [32, 97 + r1] ++ [sg] ++ [97 + r2] ++ (32 :: decs n), fun I7 Q hC hQ => ?_, fun o I0 J Q hM hQ => ?_⟩
  · unfold w_X2_write
    refine ⟨inn (by omega) (by omega), k_kindOf hs' (by omega) hk ?_⟩
    rw [hC.2 (m + 1 + 5) (hb _ (by omega) (by omega)).1 (hb _ (by omega) (by omega)).2, ek, ixn (by omega)]
    refine ⟨16, by decide, rfl, e_str hC (by decide) (fun I1 h1 => ?_)⟩
    simp (config := { decide := true }) only [true_implies, false_implies, and_true, true_and, not_true_eq_false, not_false_eq_true, or_false, false_or, or_true, true_or, forall_const]
    have w1 := h1.2 (m + 1 + 9 + i) (hb _ (by omega) (by omega)).1 (hb _ (by omega) (by omega)).2
    refine e_reg h1 (by rw [w1, q2]; exact v1) hr1 (by simp only [List.length_append, List.length_cons, List.length_nil, hL]; omega) (fun I2 h2 => ?_)
    have w2 := h2.2 (m + 1 + 9 + i) (hb _ (by omega) (by omega)).1 (hb _ (by omega) (by omega)).2
    refine e_chr h2 (by rw [w2, q5]; exact v3) hsg (by simp only [List.length_append, List.length_cons, List.length_nil, hL]; omega) (fun I3 h3 => ?_)
    have w3 := h3.2 (m + 1 + 9 + i) (hb _ (by omega) (by omega)).1 (hb _ (by omega) (by omega)).2
    refine e_let (by rw [w3, q3]; exact v2) hr2 (e_chr h3 rfl (by omega) (by simp only [List.length_append, List.length_cons, List.length_nil, hL]; omega) (fun I4 h4 => ?_))
    have w4 := h4.2 (m + 1 + 9 + i) (hb _ (by omega) (by omega)).1 (hb _ (by omega) (by omega)).2
    refine e_num h4 (by rw [w4, q4]; exact v4) (by omega) (by simp only [List.length_append, List.length_cons, List.length_nil, hL]; omega) (fun I5 h5 => ?_)
    exact hQ _ h5
  · unfold w_X10_tells
    intro x3 e3
    have e3 : x3 = 10 := e3.trans (by decide)
    subst e3
    simp (config := { decide := true }) only [w_X10_tells_p21, w_X10_tells_p184, w_X10_tells_p200, w_X10_tells_p221, w_X10_tells_p232, w_X10_tells_p262, w_X10_tells_p273, w_X10_tells_p298, w_X10_tells_p312, w_X10_tells_p346, w_X10_tells_p357, w_X10_opWord, w_X10_decides, true_implies, false_implies, and_true, true_and, not_true_eq_false, not_false_eq_true, or_false, false_or, or_true, true_or, forall_const]
    refine s_word hM (by decide) wdk_all.2.2.2.2.2.2.2.2.2.2.2.2.2.1.1 (fun I1 h1 => ?_)
    rw [wdk_all.2.2.2.2.2.2.2.2.2.2.2.2.2.1.2] at h1
    refine s_of h1 (k := 1) (by omega) (by omega) (s_letter h1 (by simp only [List.length_append, List.length_cons, List.length_nil, hL]; omega) u1 (fun I2 h2 => ?_))
    refine s_of h2 (k := 3) (by omega) (by omega) (s_lays h2 (by simp only [List.length_append, List.length_cons, List.length_nil, hL]; omega) u3 (fun I3 h3 => ?_))
    refine s_of h3 (k := 2) (by omega) (by omega) (s_lays h3 (by simp only [List.length_append, List.length_cons, List.length_nil, hL]; omega) (by rw [u2]; exact nI_add 97 r2) (fun I4 h4 => ?_))
    refine s_of h4 (k := 4) (by omega) (by omega) (s_number h4 (by simp only [List.length_append, List.length_cons, List.length_nil, hL]; omega) (by omega) u4 (fun I5 h5 => ?_))
    exact hQ _ h5
set_option maxRecDepth 20000 in
theorem tx_judge (h : Rel m I V) (hs' : s < 2) (hi : i ≤ ix (V 48)) (hk : k < 2) (hb : ∀ c, m + 1 ≤ c → c ≤ m + 34 → c ≠ b ∧ c ≠ b + 1) (ho : vOp V i = 7) (ek : I (m + 1 + 5) (2 * (25 * s + i) + k) = nI 19) : ∃ T, TxC m b s i k I T ∧ TxM V i 13 T := by
  obtain ⟨hsz, e48⟩ := size_lt h.1
  obtain ⟨⟨b0, ⟨r1, hr1, v1⟩, ⟨r2, hr2, v2⟩, b3, g0, g13, g45, g6, g7⟩, hop, hi24⟩ := row_tx h hi (by rw [ho]; decide)
  rw [ho] at hop
  obtain ⟨q2, q3, q5, q4, ⟨n, hn, v4⟩, hsg⟩ := g7 hop.symm
  obtain ⟨sg, hsg, v3⟩ : ∃ c, c < 128 ∧ V (53 + 5 * i) = nI c := by rcases hsg with e | e | e <;> rw [e] <;> exact ⟨_, by decide, rfl⟩
  have hd := decs_2 (show n < 100 by omega)
  have u1 := v1; rw [show 51 + 5 * i = 50 + 5 * i + 1 by omega] at u1
  have u2 := v2; rw [show 52 + 5 * i = 50 + 5 * i + 2 by omega] at u2
  have u3 := v3; rw [show 53 + 5 * i = 50 + 5 * i + 3 by omega] at u3
  have u4 := v4; rw [show 54 + 5 * i = 50 + 5 * i + 4 by omega] at u4
  have hL : (sT (wdj 19)).length = sL (wdj 19) := (sT_at _ (wdj_lt 19 (by decide)).2).1
  rw [show sL (wdj 19) = 5 from rfl] at hL
  refine ⟨[] ++ sT (wdj 19) ++ [32, 97 + r1] ++ [sg] ++ [97 + r2] ++ (32 :: decs n), fun I7 Q hC hQ => ?_, fun o I0 J Q hM hQ => ?_⟩
  · unfold w_X2_write
    refine ⟨inn (by omega) (by omega), k_kindOf hs' (by omega) hk ?_⟩
    rw [hC.2 (m + 1 + 5) (hb _ (by omega) (by omega)).1 (hb _ (by omega) (by omega)).2, ek, ixn (by omega)]
    refine ⟨19, by decide, rfl, e_str hC (by decide) (fun I1 h1 => ?_)⟩
    simp (config := { decide := true }) only [true_implies, false_implies, and_true, true_and, not_true_eq_false, not_false_eq_true, or_false, false_or, or_true, true_or, forall_const]
    have w1 := h1.2 (m + 1 + 9 + i) (hb _ (by omega) (by omega)).1 (hb _ (by omega) (by omega)).2
    refine e_reg h1 (by rw [w1, q2]; exact v1) hr1 (by simp only [List.length_append, List.length_cons, List.length_nil, hL]; omega) (fun I2 h2 => ?_)
    have w2 := h2.2 (m + 1 + 9 + i) (hb _ (by omega) (by omega)).1 (hb _ (by omega) (by omega)).2
    refine e_chr h2 (by rw [w2, q5]; exact v3) hsg (by simp only [List.length_append, List.length_cons, List.length_nil, hL]; omega) (fun I3 h3 => ?_)
    have w3 := h3.2 (m + 1 + 9 + i) (hb _ (by omega) (by omega)).1 (hb _ (by omega) (by omega)).2
    refine e_let (by rw [w3, q3]; exact v2) hr2 (e_chr h3 rfl (by omega) (by simp only [List.length_append, List.length_cons, List.length_nil, hL]; omega) (fun I4 h4 => ?_))
    have w4 := h4.2 (m + 1 + 9 + i) (hb _ (by omega) (by omega)).1 (hb _ (by omega) (by omega)).2
    refine e_num h4 (by rw [w4, q4]; exact v4) (by omega) (by simp only [List.length_append, List.length_cons, List.length_nil, hL]; omega) (fun I5 h5 => ?_)
    exact hQ _ h5
  · unfold w_X10_tells
    intro x3 e3
    have e3 : x3 = 13 := e3.trans (by decide)
    subst e3
    simp (config := { decide := true }) only [w_X10_tells_p21, w_X10_tells_p184, w_X10_tells_p200, w_X10_tells_p221, w_X10_tells_p232, w_X10_tells_p262, w_X10_tells_p273, w_X10_tells_p298, w_X10_tells_p312, w_X10_tells_p346, w_X10_tells_p357, w_X10_opWord, w_X10_decides, true_implies, false_implies, and_true, true_and, not_true_eq_false, not_false_eq_true, or_false, false_or, or_true, true_or, forall_const]
    refine s_word hM (by decide) wdk_all.2.2.2.2.2.2.2.2.2.2.2.2.2.2.2.2.1 (fun I1 h1 => ?_)
    rw [wdk_all.2.2.2.2.2.2.2.2.2.2.2.2.2.2.2.2.2] at h1
    refine s_of h1 (k := 1) (by omega) (by omega) (s_letter h1 (by simp only [List.length_append, List.length_cons, List.length_nil, hL]; omega) u1 (fun I2 h2 => ?_))
    refine s_of h2 (k := 3) (by omega) (by omega) (s_lays h2 (by simp only [List.length_append, List.length_cons, List.length_nil, hL]; omega) u3 (fun I3 h3 => ?_))
    refine s_of h3 (k := 2) (by omega) (by omega) (s_lays h3 (by simp only [List.length_append, List.length_cons, List.length_nil, hL]; omega) (by rw [u2]; exact nI_add 97 r2) (fun I4 h4 => ?_))
    refine s_of h4 (k := 4) (by omega) (by omega) (s_number h4 (by simp only [List.length_append, List.length_cons, List.length_nil, hL]; omega) (by omega) u4 (fun I5 h5 => ?_))
    exact hQ _ h5
set_option maxRecDepth 20000 in
theorem tx_heed (h : Rel m I V) (hs' : s < 2) (hi : i ≤ ix (V 48)) (hk : k < 2) (hb : ∀ c, m + 1 ≤ c → c ≤ m + 34 → c ≠ b ∧ c ≠ b + 1) (ho : vOp V i = 7) (ek : I (m + 1 + 5) (2 * (25 * s + i) + k) = nI 17) : ∃ T, TxC m b s i k I T ∧ TxM V i 11 T := by
  obtain ⟨hsz, e48⟩ := size_lt h.1
  obtain ⟨⟨b0, ⟨r1, hr1, v1⟩, ⟨r2, hr2, v2⟩, b3, g0, g13, g45, g6, g7⟩, hop, hi24⟩ := row_tx h hi (by rw [ho]; decide)
  rw [ho] at hop
  obtain ⟨q2, q3, q5, q4, ⟨n, hn, v4⟩, hsg⟩ := g7 hop.symm
  obtain ⟨sg, hsg, v3⟩ : ∃ c, c < 128 ∧ V (53 + 5 * i) = nI c := by rcases hsg with e | e | e <;> rw [e] <;> exact ⟨_, by decide, rfl⟩
  have hd := decs_2 (show n < 100 by omega)
  have u1 := v1; rw [show 51 + 5 * i = 50 + 5 * i + 1 by omega] at u1
  have u2 := v2; rw [show 52 + 5 * i = 50 + 5 * i + 2 by omega] at u2
  have u3 := v3; rw [show 53 + 5 * i = 50 + 5 * i + 3 by omega] at u3
  have u4 := v4; rw [show 54 + 5 * i = 50 + 5 * i + 4 by omega] at u4
  have hL : (sT (wdj 17)).length = sL (wdj 17) := (sT_at _ (wdj_lt 17 (by decide)).2).1
  rw [show sL (wdj 17) = 4 from rfl] at hL
  refine ⟨[] ++ sT (wdj 17) ++ (32 :: decs n), fun I7 Q hC hQ => ?_, fun o I0 J Q hM hQ => ?_⟩
  · unfold w_X2_write
    refine ⟨inn (by omega) (by omega), k_kindOf hs' (by omega) hk ?_⟩
    rw [hC.2 (m + 1 + 5) (hb _ (by omega) (by omega)).1 (hb _ (by omega) (by omega)).2, ek, ixn (by omega)]
    refine ⟨17, by decide, rfl, e_str hC (by decide) (fun I1 h1 => ?_)⟩
    simp (config := { decide := true }) only [true_implies, false_implies, and_true, true_and, not_true_eq_false, not_false_eq_true, or_false, false_or, or_true, true_or, forall_const]
    have w1 := h1.2 (m + 1 + 9 + i) (hb _ (by omega) (by omega)).1 (hb _ (by omega) (by omega)).2
    refine e_num h1 (by rw [w1, q4]; exact v4) (by omega) (by simp only [List.length_append, List.length_cons, List.length_nil, hL]; omega) (fun I2 h2 => ?_)
    exact hQ _ h2
  · unfold w_X10_tells
    intro x3 e3
    have e3 : x3 = 11 := e3.trans (by decide)
    subst e3
    simp (config := { decide := true }) only [w_X10_tells_p21, w_X10_tells_p184, w_X10_tells_p200, w_X10_tells_p221, w_X10_tells_p232, w_X10_tells_p262, w_X10_tells_p273, w_X10_tells_p298, w_X10_tells_p312, w_X10_tells_p346, w_X10_tells_p357, w_X10_opWord, w_X10_decides, true_implies, false_implies, and_true, true_and, not_true_eq_false, not_false_eq_true, or_false, false_or, or_true, true_or, forall_const]
    refine s_word hM (by decide) wdk_all.2.2.2.2.2.2.2.2.2.2.2.2.2.2.1.1 (fun I1 h1 => ?_)
    rw [wdk_all.2.2.2.2.2.2.2.2.2.2.2.2.2.2.1.2] at h1
    refine s_of h1 (k := 4) (by omega) (by omega) (s_number h1 (by simp only [List.length_append, List.length_cons, List.length_nil, hL]; omega) (by omega) u4 (fun I2 h2 => ?_))
    exact hQ _ h2
set_option maxRecDepth 20000 in
theorem tx_ask (h : Rel m I V) (hs' : s < 2) (hi : i ≤ ix (V 48)) (hk : k < 2) (hb : ∀ c, m + 1 ≤ c → c ≤ m + 34 → c ≠ b ∧ c ≠ b + 1) (ho : vOp V i = 7) (ek : I (m + 1 + 5) (2 * (25 * s + i) + k) = nI 18) : ∃ T, TxC m b s i k I T ∧ TxM V i 12 T := by
  obtain ⟨hsz, e48⟩ := size_lt h.1
  obtain ⟨⟨b0, ⟨r1, hr1, v1⟩, ⟨r2, hr2, v2⟩, b3, g0, g13, g45, g6, g7⟩, hop, hi24⟩ := row_tx h hi (by rw [ho]; decide)
  rw [ho] at hop
  obtain ⟨q2, q3, q5, q4, ⟨n, hn, v4⟩, hsg⟩ := g7 hop.symm
  obtain ⟨sg, hsg, v3⟩ : ∃ c, c < 128 ∧ V (53 + 5 * i) = nI c := by rcases hsg with e | e | e <;> rw [e] <;> exact ⟨_, by decide, rfl⟩
  have hd := decs_2 (show n < 100 by omega)
  have u1 := v1; rw [show 51 + 5 * i = 50 + 5 * i + 1 by omega] at u1
  have u2 := v2; rw [show 52 + 5 * i = 50 + 5 * i + 2 by omega] at u2
  have u3 := v3; rw [show 53 + 5 * i = 50 + 5 * i + 3 by omega] at u3
  have u4 := v4; rw [show 54 + 5 * i = 50 + 5 * i + 4 by omega] at u4
  have hL : (sT (wdj 18)).length = sL (wdj 18) := (sT_at _ (wdj_lt 18 (by decide)).2).1
  rw [show sL (wdj 18) = 3 from rfl] at hL
  refine ⟨[] ++ sT (wdj 18) ++ (32 :: decs n), fun I7 Q hC hQ => ?_, fun o I0 J Q hM hQ => ?_⟩
  · unfold w_X2_write
    refine ⟨inn (by omega) (by omega), k_kindOf hs' (by omega) hk ?_⟩
    rw [hC.2 (m + 1 + 5) (hb _ (by omega) (by omega)).1 (hb _ (by omega) (by omega)).2, ek, ixn (by omega)]
    refine ⟨18, by decide, rfl, e_str hC (by decide) (fun I1 h1 => ?_)⟩
    simp (config := { decide := true }) only [true_implies, false_implies, and_true, true_and, not_true_eq_false, not_false_eq_true, or_false, false_or, or_true, true_or, forall_const]
    have w1 := h1.2 (m + 1 + 9 + i) (hb _ (by omega) (by omega)).1 (hb _ (by omega) (by omega)).2
    refine e_num h1 (by rw [w1, q4]; exact v4) (by omega) (by simp only [List.length_append, List.length_cons, List.length_nil, hL]; omega) (fun I2 h2 => ?_)
    exact hQ _ h2
  · unfold w_X10_tells
    intro x3 e3
    have e3 : x3 = 12 := e3.trans (by decide)
    subst e3
    simp (config := { decide := true }) only [w_X10_tells_p21, w_X10_tells_p184, w_X10_tells_p200, w_X10_tells_p221, w_X10_tells_p232, w_X10_tells_p262, w_X10_tells_p273, w_X10_tells_p298, w_X10_tells_p312, w_X10_tells_p346, w_X10_tells_p357, w_X10_opWord, w_X10_decides, true_implies, false_implies, and_true, true_and, not_true_eq_false, not_false_eq_true, or_false, false_or, or_true, true_or, forall_const]
    refine s_word hM (by decide) wdk_all.2.2.2.2.2.2.2.2.2.2.2.2.2.2.2.1.1 (fun I1 h1 => ?_)
    rw [wdk_all.2.2.2.2.2.2.2.2.2.2.2.2.2.2.2.1.2] at h1
    refine s_of h1 (k := 4) (by omega) (by omega) (s_number h1 (by simp only [List.length_append, List.length_cons, List.length_nil, hL]; omega) (by omega) u4 (fun I2 h2 => ?_))
    exact hQ _ h2
set_option maxRecDepth 20000 in
theorem tx_fetch (h : Rel m I V) (hs' : s < 2) (hi : i ≤ ix (V 48)) (hk : k < 2) (hb : ∀ c, m + 1 ≤ c → c ≤ m + 34 → c ≠ b ∧ c ≠ b + 1) (ho : vOp V i = 4) (ek : I (m + 1 + 5) (2 * (25 * s + i) + k) = nI 10) : ∃ T, TxC m b s i k I T ∧ TxM V i 3 T := by
  obtain ⟨hsz, e48⟩ := size_lt h.1
  obtain ⟨⟨b0, ⟨r1, hr1, v1⟩, ⟨r2, hr2, v2⟩, b3, g0, g13, g45, g6, g7⟩, hop, hi24⟩ := row_tx h hi (by rw [ho]; decide)
  rw [ho] at hop
  obtain ⟨q1, q2, q4, n, hn, v4⟩ := g45 (Or.inl hop.symm)
  have hd := decs_2 (show n < 100 by omega)
  have u1 := v1; rw [show 51 + 5 * i = 50 + 5 * i + 1 by omega] at u1
  have u2 := v2; rw [show 52 + 5 * i = 50 + 5 * i + 2 by omega] at u2
  have u4 := v4; rw [show 54 + 5 * i = 50 + 5 * i + 4 by omega] at u4
  have hL : (sT (wdj 10)).length = sL (wdj 10) := (sT_at _ (wdj_lt 10 (by decide)).2).1
  rw [show sL (wdj 10) = 5 from rfl] at hL
  refine ⟨[] ++ sT (wdj 10) ++ [32, 97 + r1] ++ [32, 97 + r2] ++ (32 :: decs n), fun I7 Q hC hQ => ?_, fun o I0 J Q hM hQ => ?_⟩
  · unfold w_X2_write
    refine ⟨inn (by omega) (by omega), k_kindOf hs' (by omega) hk ?_⟩
    rw [hC.2 (m + 1 + 5) (hb _ (by omega) (by omega)).1 (hb _ (by omega) (by omega)).2, ek, ixn (by omega)]
    refine ⟨10, by decide, rfl, e_str hC (by decide) (fun I1 h1 => ?_)⟩
    simp (config := { decide := true }) only [true_implies, false_implies, and_true, true_and, not_true_eq_false, not_false_eq_true, or_false, false_or, or_true, true_or, forall_const]
    have w1 := h1.2 (m + 1 + 9 + i) (hb _ (by omega) (by omega)).1 (hb _ (by omega) (by omega)).2
    refine e_reg h1 (by rw [w1, q1]; exact v1) hr1 (by simp only [List.length_append, List.length_cons, List.length_nil, hL]; omega) (fun I2 h2 => ?_)
    have w2 := h2.2 (m + 1 + 9 + i) (hb _ (by omega) (by omega)).1 (hb _ (by omega) (by omega)).2
    refine e_reg h2 (by rw [w2, q2]; exact v2) hr2 (by simp only [List.length_append, List.length_cons, List.length_nil, hL]; omega) (fun I3 h3 => ?_)
    have w3 := h3.2 (m + 1 + 9 + i) (hb _ (by omega) (by omega)).1 (hb _ (by omega) (by omega)).2
    refine e_num h3 (by rw [w3, q4]; exact v4) (by omega) (by simp only [List.length_append, List.length_cons, List.length_nil, hL]; omega) (fun I4 h4 => ?_)
    exact hQ _ h4
  · unfold w_X10_tells
    intro x3 e3
    have e3 : x3 = 3 := e3.trans (by decide)
    subst e3
    simp (config := { decide := true }) only [w_X10_tells_p21, w_X10_tells_p184, w_X10_tells_p200, w_X10_tells_p221, w_X10_tells_p232, w_X10_tells_p262, w_X10_tells_p273, w_X10_tells_p298, w_X10_tells_p312, w_X10_tells_p346, w_X10_tells_p357, w_X10_opWord, w_X10_decides, true_implies, false_implies, and_true, true_and, not_true_eq_false, not_false_eq_true, or_false, false_or, or_true, true_or, forall_const]
    refine s_word hM (by decide) wdk_all.2.2.2.2.2.2.2.1.1 (fun I1 h1 => ?_)
    rw [wdk_all.2.2.2.2.2.2.2.1.2] at h1
    refine s_of h1 (k := 1) (by omega) (by omega) (s_letter h1 (by simp only [List.length_append, List.length_cons, List.length_nil, hL]; omega) u1 (fun I2 h2 => ?_))
    refine s_of h2 (k := 2) (by omega) (by omega) (s_letter h2 (by simp only [List.length_append, List.length_cons, List.length_nil, hL]; omega) u2 (fun I3 h3 => ?_))
    refine s_of h3 (k := 4) (by omega) (by omega) (s_number h3 (by simp only [List.length_append, List.length_cons, List.length_nil, hL]; omega) (by omega) u4 (fun I4 h4 => ?_))
    exact hQ _ h4
set_option maxRecDepth 20000 in
theorem tx_issue (h : Rel m I V) (hs' : s < 2) (hi : i ≤ ix (V 48)) (hk : k < 2) (hb : ∀ c, m + 1 ≤ c → c ≤ m + 34 → c ≠ b ∧ c ≠ b + 1) (ho : vOp V i = 4) (ek : I (m + 1 + 5) (2 * (25 * s + i) + k) = nI 11) : ∃ T, TxC m b s i k I T ∧ TxM V i 4 T := by
  obtain ⟨hsz, e48⟩ := size_lt h.1
  obtain ⟨⟨b0, ⟨r1, hr1, v1⟩, ⟨r2, hr2, v2⟩, b3, g0, g13, g45, g6, g7⟩, hop, hi24⟩ := row_tx h hi (by rw [ho]; decide)
  rw [ho] at hop
  obtain ⟨q1, q2, q4, n, hn, v4⟩ := g45 (Or.inl hop.symm)
  have hd := decs_2 (show n < 100 by omega)
  have u1 := v1; rw [show 51 + 5 * i = 50 + 5 * i + 1 by omega] at u1
  have u2 := v2; rw [show 52 + 5 * i = 50 + 5 * i + 2 by omega] at u2
  have u4 := v4; rw [show 54 + 5 * i = 50 + 5 * i + 4 by omega] at u4
  have hL : (sT (wdj 11)).length = sL (wdj 11) := (sT_at _ (wdj_lt 11 (by decide)).2).1
  rw [show sL (wdj 11) = 5 from rfl] at hL
  refine ⟨[] ++ sT (wdj 11) ++ [32, 97 + r2] ++ (32 :: decs n), fun I7 Q hC hQ => ?_, fun o I0 J Q hM hQ => ?_⟩
  · unfold w_X2_write
    refine ⟨inn (by omega) (by omega), k_kindOf hs' (by omega) hk ?_⟩
    rw [hC.2 (m + 1 + 5) (hb _ (by omega) (by omega)).1 (hb _ (by omega) (by omega)).2, ek, ixn (by omega)]
    refine ⟨11, by decide, rfl, e_str hC (by decide) (fun I1 h1 => ?_)⟩
    simp (config := { decide := true }) only [true_implies, false_implies, and_true, true_and, not_true_eq_false, not_false_eq_true, or_false, false_or, or_true, true_or, forall_const]
    have w1 := h1.2 (m + 1 + 9 + i) (hb _ (by omega) (by omega)).1 (hb _ (by omega) (by omega)).2
    refine e_reg h1 (by rw [w1, q2]; exact v2) hr2 (by simp only [List.length_append, List.length_cons, List.length_nil, hL]; omega) (fun I2 h2 => ?_)
    have w2 := h2.2 (m + 1 + 9 + i) (hb _ (by omega) (by omega)).1 (hb _ (by omega) (by omega)).2
    refine e_num h2 (by rw [w2, q4]; exact v4) (by omega) (by simp only [List.length_append, List.length_cons, List.length_nil, hL]; omega) (fun I3 h3 => ?_)
    exact hQ _ h3
  · unfold w_X10_tells
    intro x3 e3
    have e3 : x3 = 4 := e3.trans (by decide)
    subst e3
    simp (config := { decide := true }) only [w_X10_tells_p21, w_X10_tells_p184, w_X10_tells_p200, w_X10_tells_p221, w_X10_tells_p232, w_X10_tells_p262, w_X10_tells_p273, w_X10_tells_p298, w_X10_tells_p312, w_X10_tells_p346, w_X10_tells_p357, w_X10_opWord, w_X10_decides, true_implies, false_implies, and_true, true_and, not_true_eq_false, not_false_eq_true, or_false, false_or, or_true, true_or, forall_const]
    refine s_word hM (by decide) wdk_all.2.2.2.2.2.2.2.2.1.1 (fun I1 h1 => ?_)
    rw [wdk_all.2.2.2.2.2.2.2.2.1.2] at h1
    refine s_of h1 (k := 2) (by omega) (by omega) (s_letter h1 (by simp only [List.length_append, List.length_cons, List.length_nil, hL]; omega) u2 (fun I2 h2 => ?_))
    refine s_of h2 (k := 4) (by omega) (by omega) (s_number h2 (by simp only [List.length_append, List.length_cons, List.length_nil, hL]; omega) (by omega) u4 (fun I3 h3 => ?_))
    exact hQ _ h3
set_option maxRecDepth 20000 in
theorem tx_get (h : Rel m I V) (hs' : s < 2) (hi : i ≤ ix (V 48)) (hk : k < 2) (hb : ∀ c, m + 1 ≤ c → c ≤ m + 34 → c ≠ b ∧ c ≠ b + 1) (ho : vOp V i = 4) (ek : I (m + 1 + 5) (2 * (25 * s + i) + k) = nI 12) : ∃ T, TxC m b s i k I T ∧ TxM V i 5 T := by
  obtain ⟨hsz, e48⟩ := size_lt h.1
  obtain ⟨⟨b0, ⟨r1, hr1, v1⟩, ⟨r2, hr2, v2⟩, b3, g0, g13, g45, g6, g7⟩, hop, hi24⟩ := row_tx h hi (by rw [ho]; decide)
  rw [ho] at hop
  obtain ⟨q1, q2, q4, n, hn, v4⟩ := g45 (Or.inl hop.symm)
  have hd := decs_2 (show n < 100 by omega)
  have u1 := v1; rw [show 51 + 5 * i = 50 + 5 * i + 1 by omega] at u1
  have u2 := v2; rw [show 52 + 5 * i = 50 + 5 * i + 2 by omega] at u2
  have u4 := v4; rw [show 54 + 5 * i = 50 + 5 * i + 4 by omega] at u4
  have hL : (sT (wdj 12)).length = sL (wdj 12) := (sT_at _ (wdj_lt 12 (by decide)).2).1
  rw [show sL (wdj 12) = 3 from rfl] at hL
  refine ⟨[] ++ sT (wdj 12) ++ [32, 97 + r1], fun I7 Q hC hQ => ?_, fun o I0 J Q hM hQ => ?_⟩
  · unfold w_X2_write
    refine ⟨inn (by omega) (by omega), k_kindOf hs' (by omega) hk ?_⟩
    rw [hC.2 (m + 1 + 5) (hb _ (by omega) (by omega)).1 (hb _ (by omega) (by omega)).2, ek, ixn (by omega)]
    refine ⟨12, by decide, rfl, e_str hC (by decide) (fun I1 h1 => ?_)⟩
    simp (config := { decide := true }) only [true_implies, false_implies, and_true, true_and, not_true_eq_false, not_false_eq_true, or_false, false_or, or_true, true_or, forall_const]
    have w1 := h1.2 (m + 1 + 9 + i) (hb _ (by omega) (by omega)).1 (hb _ (by omega) (by omega)).2
    refine e_reg h1 (by rw [w1, q1]; exact v1) hr1 (by simp only [List.length_append, List.length_cons, List.length_nil, hL]; omega) (fun I2 h2 => ?_)
    exact hQ _ h2
  · unfold w_X10_tells
    intro x3 e3
    have e3 : x3 = 5 := e3.trans (by decide)
    subst e3
    simp (config := { decide := true }) only [w_X10_tells_p21, w_X10_tells_p184, w_X10_tells_p200, w_X10_tells_p221, w_X10_tells_p232, w_X10_tells_p262, w_X10_tells_p273, w_X10_tells_p298, w_X10_tells_p312, w_X10_tells_p346, w_X10_tells_p357, w_X10_opWord, w_X10_decides, true_implies, false_implies, and_true, true_and, not_true_eq_false, not_false_eq_true, or_false, false_or, or_true, true_or, forall_const]
    refine s_word hM (by decide) wdk_all.2.2.2.2.2.2.2.2.2.1.1 (fun I1 h1 => ?_)
    rw [wdk_all.2.2.2.2.2.2.2.2.2.1.2] at h1
    refine s_of h1 (k := 1) (by omega) (by omega) (s_letter h1 (by simp only [List.length_append, List.length_cons, List.length_nil, hL]; omega) u1 (fun I2 h2 => ?_))
    exact hQ _ h2
set_option maxRecDepth 20000 in
theorem tx_put (h : Rel m I V) (hs' : s < 2) (hi : i ≤ ix (V 48)) (hk : k < 2) (hb : ∀ c, m + 1 ≤ c → c ≤ m + 34 → c ≠ b ∧ c ≠ b + 1) (ho : vOp V i = 5) (ek : I (m + 1 + 5) (2 * (25 * s + i) + k) = nI 13) : ∃ T, TxC m b s i k I T ∧ TxM V i 6 T := by
  obtain ⟨hsz, e48⟩ := size_lt h.1
  obtain ⟨⟨b0, ⟨r1, hr1, v1⟩, ⟨r2, hr2, v2⟩, b3, g0, g13, g45, g6, g7⟩, hop, hi24⟩ := row_tx h hi (by rw [ho]; decide)
  rw [ho] at hop
  obtain ⟨q1, q2, q4, n, hn, v4⟩ := g45 (Or.inr hop.symm)
  have hd := decs_2 (show n < 100 by omega)
  have u1 := v1; rw [show 51 + 5 * i = 50 + 5 * i + 1 by omega] at u1
  have u2 := v2; rw [show 52 + 5 * i = 50 + 5 * i + 2 by omega] at u2
  have u4 := v4; rw [show 54 + 5 * i = 50 + 5 * i + 4 by omega] at u4
  have hL : (sT (wdj 13)).length = sL (wdj 13) := (sT_at _ (wdj_lt 13 (by decide)).2).1
  rw [show sL (wdj 13) = 3 from rfl] at hL
  refine ⟨[] ++ sT (wdj 13) ++ [32, 97 + r1] ++ [32, 97 + r2] ++ (32 :: decs n), fun I7 Q hC hQ => ?_, fun o I0 J Q hM hQ => ?_⟩
  · unfold w_X2_write
    refine ⟨inn (by omega) (by omega), k_kindOf hs' (by omega) hk ?_⟩
    rw [hC.2 (m + 1 + 5) (hb _ (by omega) (by omega)).1 (hb _ (by omega) (by omega)).2, ek, ixn (by omega)]
    refine ⟨13, by decide, rfl, e_str hC (by decide) (fun I1 h1 => ?_)⟩
    simp (config := { decide := true }) only [true_implies, false_implies, and_true, true_and, not_true_eq_false, not_false_eq_true, or_false, false_or, or_true, true_or, forall_const]
    have w1 := h1.2 (m + 1 + 9 + i) (hb _ (by omega) (by omega)).1 (hb _ (by omega) (by omega)).2
    refine e_reg h1 (by rw [w1, q1]; exact v1) hr1 (by simp only [List.length_append, List.length_cons, List.length_nil, hL]; omega) (fun I2 h2 => ?_)
    have w2 := h2.2 (m + 1 + 9 + i) (hb _ (by omega) (by omega)).1 (hb _ (by omega) (by omega)).2
    refine e_reg h2 (by rw [w2, q2]; exact v2) hr2 (by simp only [List.length_append, List.length_cons, List.length_nil, hL]; omega) (fun I3 h3 => ?_)
    have w3 := h3.2 (m + 1 + 9 + i) (hb _ (by omega) (by omega)).1 (hb _ (by omega) (by omega)).2
    refine e_num h3 (by rw [w3, q4]; exact v4) (by omega) (by simp only [List.length_append, List.length_cons, List.length_nil, hL]; omega) (fun I4 h4 => ?_)
    exact hQ _ h4
  · unfold w_X10_tells
    intro x3 e3
    have e3 : x3 = 6 := e3.trans (by decide)
    subst e3
    simp (config := { decide := true }) only [w_X10_tells_p21, w_X10_tells_p184, w_X10_tells_p200, w_X10_tells_p221, w_X10_tells_p232, w_X10_tells_p262, w_X10_tells_p273, w_X10_tells_p298, w_X10_tells_p312, w_X10_tells_p346, w_X10_tells_p357, w_X10_opWord, w_X10_decides, true_implies, false_implies, and_true, true_and, not_true_eq_false, not_false_eq_true, or_false, false_or, or_true, true_or, forall_const]
    refine s_word hM (by decide) wdk_all.2.2.2.2.2.2.2.2.2.2.1.1 (fun I1 h1 => ?_)
    rw [wdk_all.2.2.2.2.2.2.2.2.2.2.1.2] at h1
    refine s_of h1 (k := 1) (by omega) (by omega) (s_letter h1 (by simp only [List.length_append, List.length_cons, List.length_nil, hL]; omega) u1 (fun I2 h2 => ?_))
    refine s_of h2 (k := 2) (by omega) (by omega) (s_letter h2 (by simp only [List.length_append, List.length_cons, List.length_nil, hL]; omega) u2 (fun I3 h3 => ?_))
    refine s_of h3 (k := 4) (by omega) (by omega) (s_number h3 (by simp only [List.length_append, List.length_cons, List.length_nil, hL]; omega) (by omega) u4 (fun I4 h4 => ?_))
    exact hQ _ h4
set_option maxRecDepth 20000 in
theorem tx_place (h : Rel m I V) (hs' : s < 2) (hi : i ≤ ix (V 48)) (hk : k < 2) (hb : ∀ c, m + 1 ≤ c → c ≤ m + 34 → c ≠ b ∧ c ≠ b + 1) (ho : vOp V i = 5) (ek : I (m + 1 + 5) (2 * (25 * s + i) + k) = nI 14) : ∃ T, TxC m b s i k I T ∧ TxM V i 7 T := by
  obtain ⟨hsz, e48⟩ := size_lt h.1
  obtain ⟨⟨b0, ⟨r1, hr1, v1⟩, ⟨r2, hr2, v2⟩, b3, g0, g13, g45, g6, g7⟩, hop, hi24⟩ := row_tx h hi (by rw [ho]; decide)
  rw [ho] at hop
  obtain ⟨q1, q2, q4, n, hn, v4⟩ := g45 (Or.inr hop.symm)
  have hd := decs_2 (show n < 100 by omega)
  have u1 := v1; rw [show 51 + 5 * i = 50 + 5 * i + 1 by omega] at u1
  have u2 := v2; rw [show 52 + 5 * i = 50 + 5 * i + 2 by omega] at u2
  have u4 := v4; rw [show 54 + 5 * i = 50 + 5 * i + 4 by omega] at u4
  have hL : (sT (wdj 14)).length = sL (wdj 14) := (sT_at _ (wdj_lt 14 (by decide)).2).1
  rw [show sL (wdj 14) = 5 from rfl] at hL
  refine ⟨[] ++ sT (wdj 14) ++ [32, 97 + r2] ++ (32 :: decs n), fun I7 Q hC hQ => ?_, fun o I0 J Q hM hQ => ?_⟩
  · unfold w_X2_write
    refine ⟨inn (by omega) (by omega), k_kindOf hs' (by omega) hk ?_⟩
    rw [hC.2 (m + 1 + 5) (hb _ (by omega) (by omega)).1 (hb _ (by omega) (by omega)).2, ek, ixn (by omega)]
    refine ⟨14, by decide, rfl, e_str hC (by decide) (fun I1 h1 => ?_)⟩
    simp (config := { decide := true }) only [true_implies, false_implies, and_true, true_and, not_true_eq_false, not_false_eq_true, or_false, false_or, or_true, true_or, forall_const]
    have w1 := h1.2 (m + 1 + 9 + i) (hb _ (by omega) (by omega)).1 (hb _ (by omega) (by omega)).2
    refine e_reg h1 (by rw [w1, q2]; exact v2) hr2 (by simp only [List.length_append, List.length_cons, List.length_nil, hL]; omega) (fun I2 h2 => ?_)
    have w2 := h2.2 (m + 1 + 9 + i) (hb _ (by omega) (by omega)).1 (hb _ (by omega) (by omega)).2
    refine e_num h2 (by rw [w2, q4]; exact v4) (by omega) (by simp only [List.length_append, List.length_cons, List.length_nil, hL]; omega) (fun I3 h3 => ?_)
    exact hQ _ h3
  · unfold w_X10_tells
    intro x3 e3
    have e3 : x3 = 7 := e3.trans (by decide)
    subst e3
    simp (config := { decide := true }) only [w_X10_tells_p21, w_X10_tells_p184, w_X10_tells_p200, w_X10_tells_p221, w_X10_tells_p232, w_X10_tells_p262, w_X10_tells_p273, w_X10_tells_p298, w_X10_tells_p312, w_X10_tells_p346, w_X10_tells_p357, w_X10_opWord, w_X10_decides, true_implies, false_implies, and_true, true_and, not_true_eq_false, not_false_eq_true, or_false, false_or, or_true, true_or, forall_const]
    refine s_word hM (by decide) wdk_all.2.2.2.2.2.2.2.2.2.2.2.1.1 (fun I1 h1 => ?_)
    rw [wdk_all.2.2.2.2.2.2.2.2.2.2.2.1.2] at h1
    refine s_of h1 (k := 2) (by omega) (by omega) (s_letter h1 (by simp only [List.length_append, List.length_cons, List.length_nil, hL]; omega) u2 (fun I2 h2 => ?_))
    refine s_of h2 (k := 4) (by omega) (by omega) (s_number h2 (by simp only [List.length_append, List.length_cons, List.length_nil, hL]; omega) (by omega) u4 (fun I3 h3 => ?_))
    exact hQ _ h3
set_option maxRecDepth 20000 in
theorem tx_give (h : Rel m I V) (hs' : s < 2) (hi : i ≤ ix (V 48)) (hk : k < 2) (hb : ∀ c, m + 1 ≤ c → c ≤ m + 34 → c ≠ b ∧ c ≠ b + 1) (ho : vOp V i = 5) (ek : I (m + 1 + 5) (2 * (25 * s + i) + k) = nI 15) : ∃ T, TxC m b s i k I T ∧ TxM V i 8 T := by
  obtain ⟨hsz, e48⟩ := size_lt h.1
  obtain ⟨⟨b0, ⟨r1, hr1, v1⟩, ⟨r2, hr2, v2⟩, b3, g0, g13, g45, g6, g7⟩, hop, hi24⟩ := row_tx h hi (by rw [ho]; decide)
  rw [ho] at hop
  obtain ⟨q1, q2, q4, n, hn, v4⟩ := g45 (Or.inr hop.symm)
  have hd := decs_2 (show n < 100 by omega)
  have u1 := v1; rw [show 51 + 5 * i = 50 + 5 * i + 1 by omega] at u1
  have u2 := v2; rw [show 52 + 5 * i = 50 + 5 * i + 2 by omega] at u2
  have u4 := v4; rw [show 54 + 5 * i = 50 + 5 * i + 4 by omega] at u4
  have hL : (sT (wdj 15)).length = sL (wdj 15) := (sT_at _ (wdj_lt 15 (by decide)).2).1
  rw [show sL (wdj 15) = 4 from rfl] at hL
  refine ⟨[] ++ sT (wdj 15) ++ [32, 97 + r1], fun I7 Q hC hQ => ?_, fun o I0 J Q hM hQ => ?_⟩
  · unfold w_X2_write
    refine ⟨inn (by omega) (by omega), k_kindOf hs' (by omega) hk ?_⟩
    rw [hC.2 (m + 1 + 5) (hb _ (by omega) (by omega)).1 (hb _ (by omega) (by omega)).2, ek, ixn (by omega)]
    refine ⟨15, by decide, rfl, e_str hC (by decide) (fun I1 h1 => ?_)⟩
    simp (config := { decide := true }) only [true_implies, false_implies, and_true, true_and, not_true_eq_false, not_false_eq_true, or_false, false_or, or_true, true_or, forall_const]
    have w1 := h1.2 (m + 1 + 9 + i) (hb _ (by omega) (by omega)).1 (hb _ (by omega) (by omega)).2
    refine e_reg h1 (by rw [w1, q1]; exact v1) hr1 (by simp only [List.length_append, List.length_cons, List.length_nil, hL]; omega) (fun I2 h2 => ?_)
    exact hQ _ h2
  · unfold w_X10_tells
    intro x3 e3
    have e3 : x3 = 8 := e3.trans (by decide)
    subst e3
    simp (config := { decide := true }) only [w_X10_tells_p21, w_X10_tells_p184, w_X10_tells_p200, w_X10_tells_p221, w_X10_tells_p232, w_X10_tells_p262, w_X10_tells_p273, w_X10_tells_p298, w_X10_tells_p312, w_X10_tells_p346, w_X10_tells_p357, w_X10_opWord, w_X10_decides, true_implies, false_implies, and_true, true_and, not_true_eq_false, not_false_eq_true, or_false, false_or, or_true, true_or, forall_const]
    refine s_word hM (by decide) wdk_all.2.2.2.2.2.2.2.2.2.2.2.2.1.1 (fun I1 h1 => ?_)
    rw [wdk_all.2.2.2.2.2.2.2.2.2.2.2.2.1.2] at h1
    refine s_of h1 (k := 1) (by omega) (by omega) (s_letter h1 (by simp only [List.length_append, List.length_cons, List.length_nil, hL]; omega) u1 (fun I2 h2 => ?_))
    exact hQ _ h2
set_option maxRecDepth 20000 in
theorem tx_set (h : Rel m I V) (hs' : s < 2) (hi : i ≤ ix (V 48)) (hk : k < 2) (hb : ∀ c, m + 1 ≤ c → c ≤ m + 34 → c ≠ b ∧ c ≠ b + 1) (ho : vOp V i = 0) (ek : I (m + 1 + 5) (2 * (25 * s + i) + k) = nI 0) : ∃ T, TxC m b s i k I T ∧ TxM V i 2 T := by
  obtain ⟨hsz, e48⟩ := size_lt h.1
  obtain ⟨⟨b0, ⟨r1, hr1, v1⟩, ⟨r2, hr2, v2⟩, b3, g0, g13, g45, g6, g7⟩, hop, hi24⟩ := row_tx h hi (by rw [ho]; decide)
  rw [ho] at hop
  obtain ⟨q1, q4, n, hn, v4⟩ := g0 hop.symm
  have hd := decs_l n
  have u1 := v1; rw [show 51 + 5 * i = 50 + 5 * i + 1 by omega] at u1
  have u2 := v2; rw [show 52 + 5 * i = 50 + 5 * i + 2 by omega] at u2
  have u4 := v4; rw [show 54 + 5 * i = 50 + 5 * i + 4 by omega] at u4
  have hL : (sT (wdj 0)).length = sL (wdj 0) := (sT_at _ (wdj_lt 0 (by decide)).2).1
  rw [show sL (wdj 0) = 3 from rfl] at hL
  refine ⟨[] ++ sT (wdj 0) ++ [32, 97 + r1] ++ (32 :: decs n), fun I7 Q hC hQ => ?_, fun o I0 J Q hM hQ => ?_⟩
  · unfold w_X2_write
    refine ⟨inn (by omega) (by omega), k_kindOf hs' (by omega) hk ?_⟩
    rw [hC.2 (m + 1 + 5) (hb _ (by omega) (by omega)).1 (hb _ (by omega) (by omega)).2, ek, ixn (by omega)]
    refine ⟨0, by decide, rfl, e_str hC (by decide) (fun I1 h1 => ?_)⟩
    simp (config := { decide := true }) only [true_implies, false_implies, and_true, true_and, not_true_eq_false, not_false_eq_true, or_false, false_or, or_true, true_or, forall_const]
    have w1 := h1.2 (m + 1 + 9 + i) (hb _ (by omega) (by omega)).1 (hb _ (by omega) (by omega)).2
    refine e_reg h1 (by rw [w1, q1]; exact v1) hr1 (by simp only [List.length_append, List.length_cons, List.length_nil, hL]; omega) (fun I2 h2 => ?_)
    have w2 := h2.2 (m + 1 + 9 + i) (hb _ (by omega) (by omega)).1 (hb _ (by omega) (by omega)).2
    refine e_num h2 (by rw [w2, q4]; exact v4) (by omega) (by simp only [List.length_append, List.length_cons, List.length_nil, hL]; omega) (fun I3 h3 => ?_)
    exact hQ _ h3
  · unfold w_X10_tells
    intro x3 e3
    have e3 : x3 = 2 := e3.trans (by decide)
    subst e3
    simp (config := { decide := true }) only [w_X10_tells_p21, w_X10_tells_p184, w_X10_tells_p200, w_X10_tells_p221, w_X10_tells_p232, w_X10_tells_p262, w_X10_tells_p273, w_X10_tells_p298, w_X10_tells_p312, w_X10_tells_p346, w_X10_tells_p357, w_X10_opWord, w_X10_decides, true_implies, false_implies, and_true, true_and, not_true_eq_false, not_false_eq_true, or_false, false_or, or_true, true_or, forall_const]
    refine s_opOf hM (by omega) ?_
    rw [ho]
    simp (config := { decide := true }) only [w_X10_tells_p21, w_X10_tells_p184, w_X10_tells_p200, w_X10_tells_p221, w_X10_tells_p232, w_X10_tells_p262, w_X10_tells_p273, w_X10_tells_p298, w_X10_tells_p312, w_X10_tells_p346, w_X10_tells_p357, w_X10_opWord, w_X10_decides, true_implies, false_implies, and_true, true_and, not_true_eq_false, not_false_eq_true, or_false, false_or, or_true, true_or, forall_const]
    refine s_word hM (by decide) wdk_all.1.1 (fun I1 h1 => ?_)
    rw [wdk_all.1.2] at h1
    refine s_of h1 (k := 1) (by omega) (by omega) (s_letter h1 (by simp only [List.length_append, List.length_cons, List.length_nil, hL]; omega) u1 (fun I2 h2 => ?_))
    refine s_opOf h2 (by omega) ?_
    rw [ho]
    simp (config := { decide := true }) only [w_X10_tells_p21, w_X10_tells_p184, w_X10_tells_p200, w_X10_tells_p221, w_X10_tells_p232, w_X10_tells_p262, w_X10_tells_p273, w_X10_tells_p298, w_X10_tells_p312, w_X10_tells_p346, w_X10_tells_p357, w_X10_opWord, w_X10_decides, true_implies, false_implies, and_true, true_and, not_true_eq_false, not_false_eq_true, or_false, false_or, or_true, true_or, forall_const]
    refine s_opOf h2 (by omega) ?_
    rw [ho]
    simp (config := { decide := true }) only [w_X10_tells_p21, w_X10_tells_p184, w_X10_tells_p200, w_X10_tells_p221, w_X10_tells_p232, w_X10_tells_p262, w_X10_tells_p273, w_X10_tells_p298, w_X10_tells_p312, w_X10_tells_p346, w_X10_tells_p357, w_X10_opWord, w_X10_decides, true_implies, false_implies, and_true, true_and, not_true_eq_false, not_false_eq_true, or_false, false_or, or_true, true_or, forall_const]
    refine s_opOf h2 (by omega) ?_
    rw [ho]
    simp (config := { decide := true }) only [w_X10_tells_p21, w_X10_tells_p184, w_X10_tells_p200, w_X10_tells_p221, w_X10_tells_p232, w_X10_tells_p262, w_X10_tells_p273, w_X10_tells_p298, w_X10_tells_p312, w_X10_tells_p346, w_X10_tells_p357, w_X10_opWord, w_X10_decides, true_implies, false_implies, and_true, true_and, not_true_eq_false, not_false_eq_true, or_false, false_or, or_true, true_or, forall_const]
    refine s_of h2 (k := 4) (by omega) (by omega) (s_number h2 (by simp only [List.length_append, List.length_cons, List.length_nil, hL]; omega) (by omega) u4 (fun I3 h3 => ?_))
    exact hQ _ h3
set_option maxRecDepth 20000 in
theorem tx_add (h : Rel m I V) (hs' : s < 2) (hi : i ≤ ix (V 48)) (hk : k < 2) (hb : ∀ c, m + 1 ≤ c → c ≤ m + 34 → c ≠ b ∧ c ≠ b + 1) (ho : vOp V i = 1) (ek : I (m + 1 + 5) (2 * (25 * s + i) + k) = nI 1) : ∃ T, TxC m b s i k I T ∧ TxM V i 2 T := by
  obtain ⟨hsz, e48⟩ := size_lt h.1
  obtain ⟨⟨b0, ⟨r1, hr1, v1⟩, ⟨r2, hr2, v2⟩, b3, g0, g13, g45, g6, g7⟩, hop, hi24⟩ := row_tx h hi (by rw [ho]; decide)
  rw [ho] at hop
  obtain ⟨q1, q2, q3⟩ := g13 (Or.inl hop.symm)
  obtain ⟨r3, hr3, v3⟩ := b3 (by rw [← hop]; decide)
  have u1 := v1; rw [show 51 + 5 * i = 50 + 5 * i + 1 by omega] at u1
  have u2 := v2; rw [show 52 + 5 * i = 50 + 5 * i + 2 by omega] at u2
  have u3 := v3; rw [show 53 + 5 * i = 50 + 5 * i + 3 by omega] at u3
  have hL : (sT (wdj 1)).length = sL (wdj 1) := (sT_at _ (wdj_lt 1 (by decide)).2).1
  rw [show sL (wdj 1) = 3 from rfl] at hL
  refine ⟨[] ++ sT (wdj 1) ++ [32, 97 + r1] ++ [32, 97 + r2] ++ [32, 97 + r3], fun I7 Q hC hQ => ?_, fun o I0 J Q hM hQ => ?_⟩
  · unfold w_X2_write
    refine ⟨inn (by omega) (by omega), k_kindOf hs' (by omega) hk ?_⟩
    rw [hC.2 (m + 1 + 5) (hb _ (by omega) (by omega)).1 (hb _ (by omega) (by omega)).2, ek, ixn (by omega)]
    refine ⟨1, by decide, rfl, e_str hC (by decide) (fun I1 h1 => ?_)⟩
    simp (config := { decide := true }) only [true_implies, false_implies, and_true, true_and, not_true_eq_false, not_false_eq_true, or_false, false_or, or_true, true_or, forall_const]
    have w1 := h1.2 (m + 1 + 9 + i) (hb _ (by omega) (by omega)).1 (hb _ (by omega) (by omega)).2
    refine e_reg h1 (by rw [w1, q1]; exact v1) hr1 (by simp only [List.length_append, List.length_cons, List.length_nil, hL]; omega) (fun I2 h2 => ?_)
    have w2 := h2.2 (m + 1 + 9 + i) (hb _ (by omega) (by omega)).1 (hb _ (by omega) (by omega)).2
    refine e_reg h2 (by rw [w2, q2]; exact v2) hr2 (by simp only [List.length_append, List.length_cons, List.length_nil, hL]; omega) (fun I3 h3 => ?_)
    have w3 := h3.2 (m + 1 + 9 + i) (hb _ (by omega) (by omega)).1 (hb _ (by omega) (by omega)).2
    refine e_reg h3 (by rw [w3, q3]; exact v3) hr3 (by simp only [List.length_append, List.length_cons, List.length_nil, hL]; omega) (fun I4 h4 => ?_)
    exact hQ _ h4
  · unfold w_X10_tells
    intro x3 e3
    have e3 : x3 = 2 := e3.trans (by decide)
    subst e3
    simp (config := { decide := true }) only [w_X10_tells_p21, w_X10_tells_p184, w_X10_tells_p200, w_X10_tells_p221, w_X10_tells_p232, w_X10_tells_p262, w_X10_tells_p273, w_X10_tells_p298, w_X10_tells_p312, w_X10_tells_p346, w_X10_tells_p357, w_X10_opWord, w_X10_decides, true_implies, false_implies, and_true, true_and, not_true_eq_false, not_false_eq_true, or_false, false_or, or_true, true_or, forall_const]
    refine s_opOf hM (by omega) ?_
    rw [ho]
    simp (config := { decide := true }) only [w_X10_tells_p21, w_X10_tells_p184, w_X10_tells_p200, w_X10_tells_p221, w_X10_tells_p232, w_X10_tells_p262, w_X10_tells_p273, w_X10_tells_p298, w_X10_tells_p312, w_X10_tells_p346, w_X10_tells_p357, w_X10_opWord, w_X10_decides, true_implies, false_implies, and_true, true_and, not_true_eq_false, not_false_eq_true, or_false, false_or, or_true, true_or, forall_const]
    refine s_word hM (by decide) wdk_all.2.1.1 (fun I1 h1 => ?_)
    rw [wdk_all.2.1.2] at h1
    refine s_of h1 (k := 1) (by omega) (by omega) (s_letter h1 (by simp only [List.length_append, List.length_cons, List.length_nil, hL]; omega) u1 (fun I2 h2 => ?_))
    refine s_opOf h2 (by omega) ?_
    rw [ho]
    simp (config := { decide := true }) only [w_X10_tells_p21, w_X10_tells_p184, w_X10_tells_p200, w_X10_tells_p221, w_X10_tells_p232, w_X10_tells_p262, w_X10_tells_p273, w_X10_tells_p298, w_X10_tells_p312, w_X10_tells_p346, w_X10_tells_p357, w_X10_opWord, w_X10_decides, true_implies, false_implies, and_true, true_and, not_true_eq_false, not_false_eq_true, or_false, false_or, or_true, true_or, forall_const]
    refine s_of h2 (k := 2) (by omega) (by omega) (s_letter h2 (by simp only [List.length_append, List.length_cons, List.length_nil, hL]; omega) u2 (fun I3 h3 => ?_))
    refine s_opOf h3 (by omega) ?_
    rw [ho]
    simp (config := { decide := true }) only [w_X10_tells_p21, w_X10_tells_p184, w_X10_tells_p200, w_X10_tells_p221, w_X10_tells_p232, w_X10_tells_p262, w_X10_tells_p273, w_X10_tells_p298, w_X10_tells_p312, w_X10_tells_p346, w_X10_tells_p357, w_X10_opWord, w_X10_decides, true_implies, false_implies, and_true, true_and, not_true_eq_false, not_false_eq_true, or_false, false_or, or_true, true_or, forall_const]
    refine s_of h3 (k := 3) (by omega) (by omega) (s_letter h3 (by simp only [List.length_append, List.length_cons, List.length_nil, hL]; omega) u3 (fun I4 h4 => ?_))
    refine s_opOf h4 (by omega) ?_
    rw [ho]
    simp (config := { decide := true }) only [w_X10_tells_p21, w_X10_tells_p184, w_X10_tells_p200, w_X10_tells_p221, w_X10_tells_p232, w_X10_tells_p262, w_X10_tells_p273, w_X10_tells_p298, w_X10_tells_p312, w_X10_tells_p346, w_X10_tells_p357, w_X10_opWord, w_X10_decides, true_implies, false_implies, and_true, true_and, not_true_eq_false, not_false_eq_true, or_false, false_or, or_true, true_or, forall_const]
    exact hQ _ h4
set_option maxRecDepth 20000 in
theorem tx_sub (h : Rel m I V) (hs' : s < 2) (hi : i ≤ ix (V 48)) (hk : k < 2) (hb : ∀ c, m + 1 ≤ c → c ≤ m + 34 → c ≠ b ∧ c ≠ b + 1) (ho : vOp V i = 2) (ek : I (m + 1 + 5) (2 * (25 * s + i) + k) = nI 2) : ∃ T, TxC m b s i k I T ∧ TxM V i 2 T := by
  obtain ⟨hsz, e48⟩ := size_lt h.1
  obtain ⟨⟨b0, ⟨r1, hr1, v1⟩, ⟨r2, hr2, v2⟩, b3, g0, g13, g45, g6, g7⟩, hop, hi24⟩ := row_tx h hi (by rw [ho]; decide)
  rw [ho] at hop
  obtain ⟨q1, q2, q3⟩ := g13 (Or.inr (Or.inl hop.symm))
  obtain ⟨r3, hr3, v3⟩ := b3 (by rw [← hop]; decide)
  have u1 := v1; rw [show 51 + 5 * i = 50 + 5 * i + 1 by omega] at u1
  have u2 := v2; rw [show 52 + 5 * i = 50 + 5 * i + 2 by omega] at u2
  have u3 := v3; rw [show 53 + 5 * i = 50 + 5 * i + 3 by omega] at u3
  have hL : (sT (wdj 2)).length = sL (wdj 2) := (sT_at _ (wdj_lt 2 (by decide)).2).1
  rw [show sL (wdj 2) = 3 from rfl] at hL
  refine ⟨[] ++ sT (wdj 2) ++ [32, 97 + r1] ++ [32, 97 + r2] ++ [32, 97 + r3], fun I7 Q hC hQ => ?_, fun o I0 J Q hM hQ => ?_⟩
  · unfold w_X2_write
    refine ⟨inn (by omega) (by omega), k_kindOf hs' (by omega) hk ?_⟩
    rw [hC.2 (m + 1 + 5) (hb _ (by omega) (by omega)).1 (hb _ (by omega) (by omega)).2, ek, ixn (by omega)]
    refine ⟨2, by decide, rfl, e_str hC (by decide) (fun I1 h1 => ?_)⟩
    simp (config := { decide := true }) only [true_implies, false_implies, and_true, true_and, not_true_eq_false, not_false_eq_true, or_false, false_or, or_true, true_or, forall_const]
    have w1 := h1.2 (m + 1 + 9 + i) (hb _ (by omega) (by omega)).1 (hb _ (by omega) (by omega)).2
    refine e_reg h1 (by rw [w1, q1]; exact v1) hr1 (by simp only [List.length_append, List.length_cons, List.length_nil, hL]; omega) (fun I2 h2 => ?_)
    have w2 := h2.2 (m + 1 + 9 + i) (hb _ (by omega) (by omega)).1 (hb _ (by omega) (by omega)).2
    refine e_reg h2 (by rw [w2, q2]; exact v2) hr2 (by simp only [List.length_append, List.length_cons, List.length_nil, hL]; omega) (fun I3 h3 => ?_)
    have w3 := h3.2 (m + 1 + 9 + i) (hb _ (by omega) (by omega)).1 (hb _ (by omega) (by omega)).2
    refine e_reg h3 (by rw [w3, q3]; exact v3) hr3 (by simp only [List.length_append, List.length_cons, List.length_nil, hL]; omega) (fun I4 h4 => ?_)
    exact hQ _ h4
  · unfold w_X10_tells
    intro x3 e3
    have e3 : x3 = 2 := e3.trans (by decide)
    subst e3
    simp (config := { decide := true }) only [w_X10_tells_p21, w_X10_tells_p184, w_X10_tells_p200, w_X10_tells_p221, w_X10_tells_p232, w_X10_tells_p262, w_X10_tells_p273, w_X10_tells_p298, w_X10_tells_p312, w_X10_tells_p346, w_X10_tells_p357, w_X10_opWord, w_X10_decides, true_implies, false_implies, and_true, true_and, not_true_eq_false, not_false_eq_true, or_false, false_or, or_true, true_or, forall_const]
    refine s_opOf hM (by omega) ?_
    rw [ho]
    simp (config := { decide := true }) only [w_X10_tells_p21, w_X10_tells_p184, w_X10_tells_p200, w_X10_tells_p221, w_X10_tells_p232, w_X10_tells_p262, w_X10_tells_p273, w_X10_tells_p298, w_X10_tells_p312, w_X10_tells_p346, w_X10_tells_p357, w_X10_opWord, w_X10_decides, true_implies, false_implies, and_true, true_and, not_true_eq_false, not_false_eq_true, or_false, false_or, or_true, true_or, forall_const]
    refine s_word hM (by decide) wdk_all.2.2.1.1 (fun I1 h1 => ?_)
    rw [wdk_all.2.2.1.2] at h1
    refine s_of h1 (k := 1) (by omega) (by omega) (s_letter h1 (by simp only [List.length_append, List.length_cons, List.length_nil, hL]; omega) u1 (fun I2 h2 => ?_))
    refine s_opOf h2 (by omega) ?_
    rw [ho]
    simp (config := { decide := true }) only [w_X10_tells_p21, w_X10_tells_p184, w_X10_tells_p200, w_X10_tells_p221, w_X10_tells_p232, w_X10_tells_p262, w_X10_tells_p273, w_X10_tells_p298, w_X10_tells_p312, w_X10_tells_p346, w_X10_tells_p357, w_X10_opWord, w_X10_decides, true_implies, false_implies, and_true, true_and, not_true_eq_false, not_false_eq_true, or_false, false_or, or_true, true_or, forall_const]
    refine s_of h2 (k := 2) (by omega) (by omega) (s_letter h2 (by simp only [List.length_append, List.length_cons, List.length_nil, hL]; omega) u2 (fun I3 h3 => ?_))
    refine s_opOf h3 (by omega) ?_
    rw [ho]
    simp (config := { decide := true }) only [w_X10_tells_p21, w_X10_tells_p184, w_X10_tells_p200, w_X10_tells_p221, w_X10_tells_p232, w_X10_tells_p262, w_X10_tells_p273, w_X10_tells_p298, w_X10_tells_p312, w_X10_tells_p346, w_X10_tells_p357, w_X10_opWord, w_X10_decides, true_implies, false_implies, and_true, true_and, not_true_eq_false, not_false_eq_true, or_false, false_or, or_true, true_or, forall_const]
    refine s_of h3 (k := 3) (by omega) (by omega) (s_letter h3 (by simp only [List.length_append, List.length_cons, List.length_nil, hL]; omega) u3 (fun I4 h4 => ?_))
    refine s_opOf h4 (by omega) ?_
    rw [ho]
    simp (config := { decide := true }) only [w_X10_tells_p21, w_X10_tells_p184, w_X10_tells_p200, w_X10_tells_p221, w_X10_tells_p232, w_X10_tells_p262, w_X10_tells_p273, w_X10_tells_p298, w_X10_tells_p312, w_X10_tells_p346, w_X10_tells_p357, w_X10_opWord, w_X10_decides, true_implies, false_implies, and_true, true_and, not_true_eq_false, not_false_eq_true, or_false, false_or, or_true, true_or, forall_const]
    exact hQ _ h4
set_option maxRecDepth 20000 in
theorem tx_mul (h : Rel m I V) (hs' : s < 2) (hi : i ≤ ix (V 48)) (hk : k < 2) (hb : ∀ c, m + 1 ≤ c → c ≤ m + 34 → c ≠ b ∧ c ≠ b + 1) (ho : vOp V i = 3) (ek : I (m + 1 + 5) (2 * (25 * s + i) + k) = nI 3) : ∃ T, TxC m b s i k I T ∧ TxM V i 2 T := by
  obtain ⟨hsz, e48⟩ := size_lt h.1
  obtain ⟨⟨b0, ⟨r1, hr1, v1⟩, ⟨r2, hr2, v2⟩, b3, g0, g13, g45, g6, g7⟩, hop, hi24⟩ := row_tx h hi (by rw [ho]; decide)
  rw [ho] at hop
  obtain ⟨q1, q2, q3⟩ := g13 (Or.inr (Or.inr hop.symm))
  obtain ⟨r3, hr3, v3⟩ := b3 (by rw [← hop]; decide)
  have u1 := v1; rw [show 51 + 5 * i = 50 + 5 * i + 1 by omega] at u1
  have u2 := v2; rw [show 52 + 5 * i = 50 + 5 * i + 2 by omega] at u2
  have u3 := v3; rw [show 53 + 5 * i = 50 + 5 * i + 3 by omega] at u3
  have hL : (sT (wdj 3)).length = sL (wdj 3) := (sT_at _ (wdj_lt 3 (by decide)).2).1
  rw [show sL (wdj 3) = 3 from rfl] at hL
  refine ⟨[] ++ sT (wdj 3) ++ [32, 97 + r1] ++ [32, 97 + r2] ++ [32, 97 + r3], fun I7 Q hC hQ => ?_, fun o I0 J Q hM hQ => ?_⟩
  · unfold w_X2_write
    refine ⟨inn (by omega) (by omega), k_kindOf hs' (by omega) hk ?_⟩
    rw [hC.2 (m + 1 + 5) (hb _ (by omega) (by omega)).1 (hb _ (by omega) (by omega)).2, ek, ixn (by omega)]
    refine ⟨3, by decide, rfl, e_str hC (by decide) (fun I1 h1 => ?_)⟩
    simp (config := { decide := true }) only [true_implies, false_implies, and_true, true_and, not_true_eq_false, not_false_eq_true, or_false, false_or, or_true, true_or, forall_const]
    have w1 := h1.2 (m + 1 + 9 + i) (hb _ (by omega) (by omega)).1 (hb _ (by omega) (by omega)).2
    refine e_reg h1 (by rw [w1, q1]; exact v1) hr1 (by simp only [List.length_append, List.length_cons, List.length_nil, hL]; omega) (fun I2 h2 => ?_)
    have w2 := h2.2 (m + 1 + 9 + i) (hb _ (by omega) (by omega)).1 (hb _ (by omega) (by omega)).2
    refine e_reg h2 (by rw [w2, q2]; exact v2) hr2 (by simp only [List.length_append, List.length_cons, List.length_nil, hL]; omega) (fun I3 h3 => ?_)
    have w3 := h3.2 (m + 1 + 9 + i) (hb _ (by omega) (by omega)).1 (hb _ (by omega) (by omega)).2
    refine e_reg h3 (by rw [w3, q3]; exact v3) hr3 (by simp only [List.length_append, List.length_cons, List.length_nil, hL]; omega) (fun I4 h4 => ?_)
    exact hQ _ h4
  · unfold w_X10_tells
    intro x3 e3
    have e3 : x3 = 2 := e3.trans (by decide)
    subst e3
    simp (config := { decide := true }) only [w_X10_tells_p21, w_X10_tells_p184, w_X10_tells_p200, w_X10_tells_p221, w_X10_tells_p232, w_X10_tells_p262, w_X10_tells_p273, w_X10_tells_p298, w_X10_tells_p312, w_X10_tells_p346, w_X10_tells_p357, w_X10_opWord, w_X10_decides, true_implies, false_implies, and_true, true_and, not_true_eq_false, not_false_eq_true, or_false, false_or, or_true, true_or, forall_const]
    refine s_opOf hM (by omega) ?_
    rw [ho]
    simp (config := { decide := true }) only [w_X10_tells_p21, w_X10_tells_p184, w_X10_tells_p200, w_X10_tells_p221, w_X10_tells_p232, w_X10_tells_p262, w_X10_tells_p273, w_X10_tells_p298, w_X10_tells_p312, w_X10_tells_p346, w_X10_tells_p357, w_X10_opWord, w_X10_decides, true_implies, false_implies, and_true, true_and, not_true_eq_false, not_false_eq_true, or_false, false_or, or_true, true_or, forall_const]
    refine s_word hM (by decide) wdk_all.2.2.2.1.1 (fun I1 h1 => ?_)
    rw [wdk_all.2.2.2.1.2] at h1
    refine s_of h1 (k := 1) (by omega) (by omega) (s_letter h1 (by simp only [List.length_append, List.length_cons, List.length_nil, hL]; omega) u1 (fun I2 h2 => ?_))
    refine s_opOf h2 (by omega) ?_
    rw [ho]
    simp (config := { decide := true }) only [w_X10_tells_p21, w_X10_tells_p184, w_X10_tells_p200, w_X10_tells_p221, w_X10_tells_p232, w_X10_tells_p262, w_X10_tells_p273, w_X10_tells_p298, w_X10_tells_p312, w_X10_tells_p346, w_X10_tells_p357, w_X10_opWord, w_X10_decides, true_implies, false_implies, and_true, true_and, not_true_eq_false, not_false_eq_true, or_false, false_or, or_true, true_or, forall_const]
    refine s_of h2 (k := 2) (by omega) (by omega) (s_letter h2 (by simp only [List.length_append, List.length_cons, List.length_nil, hL]; omega) u2 (fun I3 h3 => ?_))
    refine s_opOf h3 (by omega) ?_
    rw [ho]
    simp (config := { decide := true }) only [w_X10_tells_p21, w_X10_tells_p184, w_X10_tells_p200, w_X10_tells_p221, w_X10_tells_p232, w_X10_tells_p262, w_X10_tells_p273, w_X10_tells_p298, w_X10_tells_p312, w_X10_tells_p346, w_X10_tells_p357, w_X10_opWord, w_X10_decides, true_implies, false_implies, and_true, true_and, not_true_eq_false, not_false_eq_true, or_false, false_or, or_true, true_or, forall_const]
    refine s_of h3 (k := 3) (by omega) (by omega) (s_letter h3 (by simp only [List.length_append, List.length_cons, List.length_nil, hL]; omega) u3 (fun I4 h4 => ?_))
    refine s_opOf h4 (by omega) ?_
    rw [ho]
    simp (config := { decide := true }) only [w_X10_tells_p21, w_X10_tells_p184, w_X10_tells_p200, w_X10_tells_p221, w_X10_tells_p232, w_X10_tells_p262, w_X10_tells_p273, w_X10_tells_p298, w_X10_tells_p312, w_X10_tells_p346, w_X10_tells_p357, w_X10_opWord, w_X10_decides, true_implies, false_implies, and_true, true_and, not_true_eq_false, not_false_eq_true, or_false, false_or, or_true, true_or, forall_const]
    exact hQ _ h4
end
