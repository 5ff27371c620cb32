/-! StringBuilder: its text, and what its methods do with it. -/
def SbT (b : Nat) (I : MI) (t : List Nat) : Prop := I b 1 = 0 ∧ I b 3 = nI t.length ∧ t.length ≤ 16 ∧ ∀ j c, t[j]? = some c → c < 128 ∧ I (b + 1) j = nI c
def SbF (b : Nat) (I I' : MI) : Prop := ∀ x, x ≠ b → x ≠ b + 1 → I' x = I x
theorem SbT.app {b : Nat} {I I' : MI} {t s : List Nat} (hS : SbT b I t) (hs : ∀ i c, s[i]? = some c → c < 128 ∧ I' (b + 1) (t.length + i) = nI c) (hl : t.length + s.length ≤ 16) (h1 : I' b 1 = 0) (h3 : I' b 3 = nI (t.length + s.length)) (hk : ∀ j, j < t.length → I' (b + 1) j = I (b + 1) j) : SbT b I' (t ++ s) := by
  refine ⟨h1, by rw [List.length_append]; exact h3, by rw [List.length_append]; exact hl, fun j c hj => ?_⟩
  rcases Nat.lt_or_ge j t.length with h | h
  · rw [List.getElem?_append_left h] at hj
    obtain ⟨a, e⟩ := hS.2.2.2 j c hj
    exact ⟨a, by rw [hk j h]; exact e⟩
  · rw [List.getElem?_append_right h] at hj
    obtain ⟨a, e⟩ := hs _ c hj
    rw [show t.length + (j - t.length) = j from by omega] at e
    exact ⟨a, e⟩
theorem le16 : ∀ q, q < 17 → nI q - 16 ≤ 0 := by decide
theorem bt128 : ∀ c, c < 128 → vp_nar .byte ((Int32.toInt8 (nI c)).toInt32) = nI c ∧ vp_nar .byte (nI c) = nI c ∧ ¬ (255 : Int32) < nI c := by decide +kernel
set_option maxRecDepth 100000 in
theorem c_isLat (K : Kx) (hW : WFK K) (l : Launch) (b : Nat) (hk : (kG K b).1 = 1) (I : MI) (J : MJ) (B : MR) (hc : I b 1 = 0) : Con K l yJ5_isLatin1_aae02 (wsT yJ5_isLatin1_aae02 cJ5_isLatin1_aae02 1 (some .boolean)) rm0' [.ref b] (I, J, B) (va_Qi (S := Unit) (fun r _ => r = 1) (fun _ t => HP K (I, J, B) t.heap) (AA K)) := by
  refine Con.ofJ RJ5 rfl (by decide) (Nat.le_of_ble_eq_true rfl) (fun m H0 w G => ?_)
  show Jg K m 1 H0 w 0 [(0, .ref b)] [] (I, J, B)
  refine j_gets G (fun U h => h.2.2.1) fl_J5_18 rfl dJ5_isLatin1_aae02_0 ?_
  refine j_if_eq G 17 dJ5_isLatin1_aae02_3 (by decide) (fun c => absurd c (by decide)) (fun _ => ?_)
  refine j_aload_n G 0 0 dJ5_isLatin1_aae02_6 rfl rfl ?_
  refine j_get G hW 0 1 0 (.int 0) hk (by decide) rfl (by decide) rfl lay_J4 fl_J5_22 rfl (congrArg Value.int (hc)) dJ5_isLatin1_aae02_7 ?_
  refine j_if_ne G 17 dJ5_isLatin1_aae02_10 (by decide) (fun c => absurd rfl c) (fun _ => ?_)
  refine j_iconst G (1 : Int32) dJ5_isLatin1_aae02_13 (by decide) ?_
  refine j_goto G 18 dJ5_isLatin1_aae02_14 (by decide) ?_
  exact j_reti G () (by decide) dJ5_isLatin1_aae02_18 rfl rfl
set_option maxRecDepth 100000 in
theorem c_ens (K : Kx) (hW : WFK K) (l : Launch) (b : Nat) (hk : (kG K b).1 = 1) (I : MI) (J : MJ) (B : MR) (hc : I b 1 = 0) (q : Nat) (hq : q ≤ 16) : Con K l yJ5_ensureCapacityInternal_d00df (wsT yJ5_ensureCapacityInternal_d00df cJ5_ensureCapacityInternal_d00df 3 none) rm0' [.ref b, .int (nI q)] (I, J, B) (va_Qv (S := Unit) (fun _ => True) (fun _ t => HP K (I, J, B) t.heap) (AA K)) := by
  refine Con.ofJ RJ5 rfl (by decide) (Nat.le_of_ble_eq_true rfl) (fun m H0 w G => ?_)
  show Jg K m 3 H0 w 0 [(0, .ref b), (1, .int (nI q))] [] (I, J, B)
  refine j_aload_n G 0 0 dJ5_ensureCapacityInternal_d00df_0 rfl rfl ?_
  refine j_get G hW 0 0 4 (.ref (b + 1)) hk (by decide) rfl (by decide) rfl lay_J4 fl_J5_15 rfl rfl dJ5_ensureCapacityInternal_d00df_1 ?_
  refine j_alen G hW (16 : Int32) (wk_1_1 hW hk) (by decide) (by decide) (by decide) rfl (by decide) dJ5_ensureCapacityInternal_d00df_4 ?_
  refine j_aload_n G 0 0 dJ5_ensureCapacityInternal_d00df_5 rfl rfl ?_
  refine j_get G hW 0 1 0 (.int 0) hk (by decide) rfl (by decide) rfl lay_J4 fl_J5_22 rfl (congrArg Value.int (hc)) dJ5_ensureCapacityInternal_d00df_6 ?_
  refine j_ishr G dJ5_ensureCapacityInternal_d00df_9 ?_
  rw [sh0]
  refine j_istore_n G 2 [(2, .int 16), (0, .ref b), (1, .int (nI q))] dJ5_ensureCapacityInternal_d00df_10 rfl (by decide) rfl ?_
  refine j_iload_n G 2 1 dJ5_ensureCapacityInternal_d00df_11 rfl rfl ?_
  refine j_iload_n G 0 2 dJ5_ensureCapacityInternal_d00df_12 rfl rfl ?_
  refine j_isub G dJ5_ensureCapacityInternal_d00df_13 ?_
  refine j_if_le G 38 dJ5_ensureCapacityInternal_d00df_14 (by decide) (fun _ => ?_) (fun c => absurd (le16 q (by omega)) c)
  exact j_retv G () dJ5_ensureCapacityInternal_d00df_38 trivial rfl
set_option maxRecDepth 100000 in
theorem c_canE (K : Kx) (hW : WFK K) (l : Launch) (c : Nat) (hc : c < 128) (mem : Mm) : Con K l yJ1_canEncode_fc78d (wsT yJ1_canEncode_fc78d cJ1_canEncode_fc78d 1 (some .boolean)) rm0' [.int (nI c)] mem (va_Qi (S := Unit) (fun r _ => r = 1) (fun _ t => HP K mem t.heap) (AA K)) := by
  refine Con.ofJ RJ1 rfl (by decide) (Nat.le_of_ble_eq_true rfl) (fun m H0 w G => ?_)
  show Jg K m 1 H0 w 0 [(0, .int (nI c))] [] mem
  refine j_iload_n G 0 0 dJ1_canEncode_fc78d_0 rfl rfl ?_
  refine j_sipush G (255 : Int32) dJ1_canEncode_fc78d_1 (by decide) ?_
  refine j_icmp_gt G 11 dJ1_canEncode_fc78d_4 (by decide) (fun h => absurd h (bt128 c hc).2.2) (fun _ => ?_)
  refine j_iconst G (1 : Int32) dJ1_canEncode_fc78d_7 (by decide) ?_
  refine j_goto G 12 dJ1_canEncode_fc78d_8 (by decide) ?_
  exact j_reti G () (by decide) dJ1_canEncode_fc78d_12 rfl rfl
set_option maxRecDepth 100000 in
theorem c_appC5 (K : Kx) (hW : WFK K) (l : Launch) (b : Nat) (hk : (kG K b).1 = 1) (I : MI) (J : MJ) (B : MR) (t : List Nat) (hS : SbT b I t) (c : Nat) (hc : c < 128) (hl : t.length + 1 ≤ 16) (Q : MI → Prop) (hQ : ∀ I', SbT b I' (t ++ [c]) → SbF b I I' → Q I') : Con K l yJ5_append_3fe6f (wsT yJ5_append_3fe6f cJ5_append_3fe6f 2 (some (.object "java/lang/AbstractStringBuilder"))) rm1b [.ref b, .int (nI c)] (I, J, B) (va_Qr (S := MI) Q (fun u _ t => True ∧ HP K (u, J, B) t.heap) (AA K)) := by
  refine Con.ofJ RJ5 rfl (by decide) (Nat.le_of_ble_eq_true rfl) (fun m H0 w G => ?_)
  show Jg K m 2 H0 w 0 [(0, .ref b), (1, .int (nI c))] [] (I, J, B)
  refine j_aload_n G 0 0 dJ5_append_3fe6f_0 rfl rfl ?_
  refine j_aload_n G 0 0 dJ5_append_3fe6f_1 rfl rfl ?_
  refine j_get G hW 0 3 0 (.int _) hk (by decide) rfl (by decide) rfl lay_J4 fl_J5_79 rfl (congrArg Value.int hS.2.1) dJ5_append_3fe6f_2 ?_
  refine j_iconst G (1 : Int32) dJ5_append_3fe6f_5 (by decide) ?_
  refine j_iadd G dJ5_append_3fe6f_6 ?_
  rw [show nI t.length + (1 : Int32) = nI (t.length + 1) from (nI_add _ 1)]
  refine j_cv (rn_U G hW (n := 1) (As := [.int (nI (t.length + 1))]) (rest := []) (c_ens K hW l b hk I J B hS.1 (t.length + 1) (by omega)) hk ml_J5_100 sm_ens (Or.inr (by decide)) im_J5_ensureCapacityInternal_d00df in_J5 co_J5_ensureCapacityInternal_d00df (by decide +kernel) rfl rfl (by decide) (by decide) rfl rfl (Nat.le_of_ble_eq_true rfl) dJ5_append_3fe6f_7) (fun _ _ => ?_)
  refine j_aload_n G 0 0 dJ5_append_3fe6f_10 rfl rfl ?_
  refine j_ci (rn_U G hW (n := 0) (As := []) (rest := []) (c_isLat K hW l b hk I J B hS.1) hk ml_J5_83 sm_lat (Or.inl se_lat) im_J5_isLatin1_aae02 in_J5 co_J5_isLatin1_aae02 (by decide +kernel) rfl rfl (by decide) (by decide) rfl rfl (Nat.le_of_ble_eq_true rfl) dJ5_append_3fe6f_11) (fun r _ h => ?_)
  subst h
  refine j_if_eq G 45 dJ5_append_3fe6f_14 (by decide) (fun c => absurd c (by decide)) (fun _ => ?_)
  refine j_iload_n G 1 1 dJ5_append_3fe6f_17 rfl rfl ?_
  refine j_ci (rn_S G (n := 1) (As := [.int (nI c)]) (rest := []) (c_canE K hW l c hc (I, J, B)) ml_J5_191 st_J1_canEncode_fc78d in_J1 co_J1_canEncode_fc78d (by decide +kernel) rfl rfl (by decide) (by decide) rfl rfl (Nat.le_of_ble_eq_true rfl) dJ5_append_3fe6f_18) (fun r _ h => ?_)
  subst h
  refine j_if_eq G 45 dJ5_append_3fe6f_21 (by decide) (fun c => absurd c (by decide)) (fun _ => ?_)
  refine j_aload_n G 0 0 dJ5_append_3fe6f_24 rfl rfl ?_
  refine j_get G hW 0 0 4 (.ref (b + 1)) hk (by decide) rfl (by decide) rfl lay_J4 fl_J5_15 rfl rfl dJ5_append_3fe6f_25 ?_
  refine j_aload_n G 0 0 dJ5_append_3fe6f_28 rfl rfl ?_
  refine j_dup G rfl dJ5_append_3fe6f_29 ?_
  refine j_get G hW 0 3 0 (.int _) hk (by decide) rfl (by decide) rfl lay_J4 fl_J5_79 rfl (congrArg Value.int hS.2.1) dJ5_append_3fe6f_30 ?_
  refine j_dupx1 G rfl rfl dJ5_append_3fe6f_33 ?_
  refine j_iconst G (1 : Int32) dJ5_append_3fe6f_34 (by decide) ?_
  refine j_iadd G dJ5_append_3fe6f_35 ?_
  rw [show nI t.length + (1 : Int32) = nI (t.length + 1) from (nI_add _ 1)]
  refine j_put G hW 0 3 (v := nI (t.length + 1)) tyJ4 (tyJ4 3) tyJ4_ok nmJ4 hk (by decide) rfl (by decide) rfl lay_J4 fl_J5_79 rfl rfl (tyJ4_ok 3 (by decide)) rfl rfl dJ5_append_3fe6f_36 ?_
  refine j_iload_n G 1 1 dJ5_append_3fe6f_39 rfl rfl ?_
  refine j_i2b G dJ5_append_3fe6f_40 ?_
  refine j_bast G hW (wk_1_1 hW hk) (inn (by omega) (by omega)) dJ5_append_3fe6f_41 ?_
  refine j_goto G 75 dJ5_append_3fe6f_42 (by decide) ?_
  refine j_aload_n G 0 0 dJ5_append_3fe6f_75 rfl rfl ?_
  refine j_reta G (g := fun _ _ => True) (st := fun u => (u, J, B)) _ (Or.inl ⟨_, rfl⟩) dJ5_append_3fe6f_76 (hQ _ ?_ ?_) trivial rfl
  · rw [ixn (by omega), (bt128 c hc).1]
    refine hS.app (fun i c' hi => ?_) hl (by rw [ui_gn _ _ _ _ (by omega), ui_gj _ _ _ (by omega)]; exact hS.1) (by rw [ui_gn _ _ _ _ (by omega), ui_gs]; rfl) (fun j hj => by rw [ui_gj _ _ _ (by omega), ui_gn _ _ _ _ (by omega)])
    cases i with
    | zero => cases hi; exact ⟨hc, ui_gs _ _ _ _⟩
    | succ i => simp at hi
  · intro x h1 h2; rw [ui_ne _ _ _ h2, ui_ne _ _ _ h1]
set_option maxRecDepth 100000 in
theorem c_appC4 (K : Kx) (hW : WFK K) (l : Launch) (b : Nat) (hk : (kG K b).1 = 1) (I : MI) (J : MJ) (B : MR) (t : List Nat) (hS : SbT b I t) (c : Nat) (hc : c < 128) (hl : t.length + 1 ≤ 16) (Q : MI → Prop) (hQ : ∀ I', SbT b I' (t ++ [c]) → SbF b I I' → Q I') : Con K l yJ4_append_cf468 (wsT yJ4_append_cf468 cJ4_append_cf468 2 (some (.object "java/lang/StringBuilder"))) rm2 [.ref b, .int (nI c)] (I, J, B) (va_Qr (S := MI) Q (fun u _ t => True ∧ HP K (u, J, B) t.heap) (AA K)) := by
  refine Con.ofJ RJ4 rfl (by decide) (Nat.le_of_ble_eq_true rfl) (fun m H0 w G => ?_)
  show Jg K m 2 H0 w 0 [(0, .ref b), (1, .int (nI c))] [] (I, J, B)
  refine j_aload_n G 0 0 dJ4_append_cf468_0 rfl rfl ?_
  refine j_iload_n G 1 1 dJ4_append_cf468_1 rfl rfl ?_
  refine j_cr (rn_SU G hW (n := 1) (As := [.int (nI c)]) (rest := []) (c_appC5 K hW l b hk I J B t hS c hc hl Q hQ) hk ml_J4_50 sm_appC su_J4 im_J5_append_3fe6f in_J5 co_J5_append_3fe6f (by decide +kernel) rfl rfl (by decide) (by decide) rfl rfl (Nat.le_of_ble_eq_true rfl) dJ4_append_cf468_2) (fun u ra h _ => ?_)
  refine j_pop G rfl dJ4_append_cf468_5 ?_
  refine j_aload_n G 0 0 dJ4_append_cf468_6 rfl rfl ?_
  exact j_reta G u (Or.inl ⟨_, rfl⟩) dJ4_append_cf468_7 h trivial rfl
