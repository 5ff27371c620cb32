/-! append(String), setLength(0), length, charAt of a StringBuilder; the word of a kind. -/
def sT (j : Nat) : List Nat := (sByt.getD j []).map (fun x => ix x)
theorem sT_at : ∀ j, j < 18 → (sT j).length = sL j ∧ ∀ i, i < sL j → (sT j).getD i 0 < 128 ∧ sC j i = nI ((sT j).getD i 0) ∧ fits .byte (.int (sC j i)) = true := by decide +kernel
abbrev rm48 : Room := { frames := 1, cells := 0, slots := 0, locals := 48 }
abbrev rm20 : Room := { frames := 1, cells := 0, slots := 0, locals := 20 }
abbrev rm71 : Room := { frames := 2, cells := 0, slots := 0, locals := 71 }
abbrev rm93 : Room := { frames := 3, cells := 0, slots := 0, locals := 93 }
abbrev rm115 : Room := { frames := 4, cells := 0, slots := 0, locals := 115 }
abbrev rm67 : Room := { frames := 3, cells := 0, slots := 0, locals := 67 }
set_option maxRecDepth 100000 in
theorem c_getB (K : Kx) (hW : WFK K) (l : Launch) (v : Nat) (hv : kG K v = (21, 16)) (I : MI) (J : MJ) (B : MR) (j n : Nat) (hj : j < 18) (hl : n + sL j ≤ 16) : Con K l yJ0_getBytes_840e7 (wsT yJ0_getBytes_840e7 cJ0_getBytes_840e7 4 none) rm48 [.ref (kA K j), .ref v, .int (nI n), .int 0] (I, J, B) (va_Qv (S := MI) (fun u => u = us I v (sC j) n (sL j)) (fun u t => HP K (u, J, B) t.heap) (AA K)) := by
  refine Con.ofJ RJ0 rfl (by decide) (Nat.le_of_ble_eq_true rfl) (fun m H0 w G => ?_)
  show Jg K m 4 H0 w 0 [(0, .ref (kA K j)), (1, .ref v), (2, .int (nI n)), (3, .int 0)] [] (I, J, B)
  refine j_aload_n G 0 0 dJ0_getBytes_840e7_0 rfl rfl ?_
  refine j_ci (rn_VS G (n := 0) (As := []) (rest := []) (c_coder K hW l j hj (I, J, B)) hj ml_J0_335 im_J0_coder_7d493 se_J0_coder_7d493 in_J0 co_J0_coder_7d493 rfl (by decide +kernel) rfl rfl (by decide) (by decide) rfl rfl (Nat.le_of_ble_eq_true rfl) dJ0_getBytes_840e7_1) (fun r _ h => ?_)
  subst h
  refine j_iload_n G 3 3 dJ0_getBytes_840e7_4 rfl rfl ?_
  refine j_icmp_ne G 28 dJ0_getBytes_840e7_5 (by decide) (fun c => absurd rfl c) (fun _ => ?_)
  refine j_aload_n G 0 0 dJ0_getBytes_840e7_8 rfl rfl ?_
  refine j_svalue G hj fl_J0_9 dJ0_getBytes_840e7_9 ?_
  refine j_iconst G (0 : Int32) dJ0_getBytes_840e7_12 (by decide) ?_
  refine j_aload_n G 1 1 dJ0_getBytes_840e7_13 rfl rfl ?_
  refine j_iload_n G 2 2 dJ0_getBytes_840e7_14 rfl rfl ?_
  refine j_iload_n G 3 3 dJ0_getBytes_840e7_15 rfl rfl ?_
  refine j_ishl G dJ0_getBytes_840e7_16 ?_
  rw [sb_shl0]
  refine j_aload_n G 0 0 dJ0_getBytes_840e7_17 rfl rfl ?_
  refine j_svalue G hj fl_J0_9 dJ0_getBytes_840e7_18 ?_
  refine j_slenV G hj dJ0_getBytes_840e7_21 ?_
  refine j_copyS G hW hj hv hl (by decide) (fun i hi => ((sT_at j hj).2 i hi).2.2) ml_J0_212 nat_copy st_copy in_J10 (by decide) (by decide) (Nat.le_of_ble_eq_true rfl) dJ0_getBytes_840e7_22 ?_
  refine j_goto G 43 dJ0_getBytes_840e7_25 (by decide) ?_
  exact j_retv G (st := fun u => (u, J, B)) _ dJ0_getBytes_840e7_43 rfl rfl
set_option maxRecDepth 100000 in
theorem c_infl (K : Kx) (hW : WFK K) (l : Launch) (b : Nat) (hk : (kG K b).1 = 1) (I : MI) (J : MJ) (B : MR) (hc : I b 1 = 0) (j : Nat) (hj : j < 18) : Con K l yJ5_inflateIfNeededFor_a7421 (wsT yJ5_inflateIfNeededFor_a7421 cJ5_inflateIfNeededFor_a7421 2 none) rm20 [.ref b, .ref (kA K j)] (I, J, B) (va_Qv (S := Unit) (fun _ => True) (fun _ t => HP K (I, J, B) t.heap) (AA K)) := by
  refine Con.ofJ RJ5 rfl (by decide) (Nat.le_of_ble_eq_true rfl) (fun m H0 w G => ?_)
  show Jg K m 2 H0 w 0 [(0, .ref b), (1, .ref (kA K j))] [] (I, J, B)
  refine j_gets G (fun U h => h.2.2.1) fl_J5_18 rfl dJ5_inflateIfNeededFor_a7421_0 ?_
  refine j_if_eq G 21 dJ5_inflateIfNeededFor_a7421_3 (by decide) (fun c => absurd c (by decide)) (fun _ => ?_)
  refine j_aload_n G 0 0 dJ5_inflateIfNeededFor_a7421_6 rfl rfl ?_
  refine j_get G hW 0 1 0 (.int 0) hk (by decide) rfl (by decide) rfl lay_J4 fl_J5_22 rfl (congrArg Value.int (hc)) dJ5_inflateIfNeededFor_a7421_7 ?_
  refine j_aload_n G 1 1 dJ5_inflateIfNeededFor_a7421_10 rfl rfl ?_
  refine j_ci (rn_VS G (n := 0) (As := []) (rest := [.int 0]) (c_coder K hW l j hj (I, J, B)) hj ml_J5_40 im_J0_coder_7d493 se_J0_coder_7d493 in_J0 co_J0_coder_7d493 rfl (by decide +kernel) rfl rfl (by decide) (by decide) rfl rfl (Nat.le_of_ble_eq_true rfl) dJ5_inflateIfNeededFor_a7421_11) (fun r _ h => ?_)
  subst h
  refine j_icmp_eq G 21 dJ5_inflateIfNeededFor_a7421_14 (by decide) (fun _ => ?_) (fun c => absurd rfl c)
  exact j_retv G () dJ5_inflateIfNeededFor_a7421_21 trivial rfl
set_option maxRecDepth 100000 in
theorem c_putS (K : Kx) (hW : WFK K) (l : Launch) (b : Nat) (hk : (kG K b).1 = 1) (I : MI) (J : MJ) (B : MR) (hc : I b 1 = 0) (j n : Nat) (hj : j < 18) (hl : n + sL j ≤ 16) : Con K l yJ5_putStringAt_47b60 (wsT yJ5_putStringAt_47b60 cJ5_putStringAt_47b60 3 none) rm71 [.ref b, .int (nI n), .ref (kA K j)] (I, J, B) (va_Qv (S := MI) (fun u => u = us I (b + 1) (sC j) n (sL j)) (fun u t => HP K (u, J, B) t.heap) (AA K)) := by
  refine Con.ofJ RJ5 rfl (by decide) (Nat.le_of_ble_eq_true rfl) (fun m H0 w G => ?_)
  show Jg K m 3 H0 w 0 [(0, .ref b), (1, .int (nI n)), (2, .ref (kA K j))] [] (I, J, B)
  refine j_aload_n G 0 0 dJ5_putStringAt_47b60_0 rfl rfl ?_
  refine j_aload_n G 2 2 dJ5_putStringAt_47b60_1 rfl rfl ?_
  refine j_cv (rn_U G hW (n := 1) (As := [.ref (kA K j)]) (rest := []) (c_infl K hW l b hk I J B hc j hj) hk ml_J5_397 sm_inf (Or.inr (by decide)) im_J5_inflateIfNeededFor_a7421 in_J5 co_J5_inflateIfNeededFor_a7421 (by decide +kernel) rfl rfl (by decide) (by decide) rfl rfl (Nat.le_of_ble_eq_true rfl) dJ5_putStringAt_47b60_2) (fun _ _ => ?_)
  refine j_aload_n G 2 2 dJ5_putStringAt_47b60_5 rfl rfl ?_
  refine j_aload_n G 0 0 dJ5_putStringAt_47b60_6 rfl rfl ?_
  refine j_get G hW 0 0 4 (.ref (b + 1)) hk (by decide) rfl (by decide) rfl lay_J4 fl_J5_15 rfl rfl dJ5_putStringAt_47b60_7 ?_
  refine j_iload_n G 1 1 dJ5_putStringAt_47b60_10 rfl rfl ?_
  refine j_aload_n G 0 0 dJ5_putStringAt_47b60_11 rfl rfl ?_
  refine j_get G hW 0 1 0 (.int 0) hk (by decide) rfl (by decide) rfl lay_J4 fl_J5_22 rfl (congrArg Value.int (hc)) dJ5_putStringAt_47b60_12 ?_
  refine j_cv (rn_VS G (n := 3) (As := [.ref (b + 1), .int (nI n), .int 0]) (rest := []) (c_getB K hW l (b + 1) (wk_1_1 hW hk) I J B j n hj hl) hj ml_J5_399 im_J0_getBytes_840e7 se_J0_getBytes_840e7 in_J0 co_J0_getBytes_840e7 rfl (by decide +kernel) rfl rfl (by decide) (by decide) rfl rfl (Nat.le_of_ble_eq_true rfl) dJ5_putStringAt_47b60_15) (fun u h => ?_)
  exact j_retv G u dJ5_putStringAt_47b60_18 h rfl
set_option maxRecDepth 100000 in
theorem c_appS5 (K : Kx) (hW : WFK K) (l : Launch) (b : Nat) (hk : (kG K b).1 = 1) (I : MI) (J : MJ) (B : MR) (t : List Nat) (hS : SbT b I t) (j : Nat) (hj : j < 18) (hl : t.length + sL j ≤ 16) (Q : MI → Prop) (hQ : ∀ I', SbT b I' (t ++ sT j) → SbF b I I' → Q I') : Con K l yJ5_append_cf1ce (wsT yJ5_append_cf1ce cJ5_append_cf1ce 3 (some (.object "java/lang/AbstractStringBuilder"))) rm93 [.ref b, .ref (kA K j)] (I, J, B) (va_Qr (S := MI) Q (fun u _ t => True ∧ HP K (u, J, B) t.heap) (AA K)) := by
  refine Con.ofJ RJ5 rfl (by decide) (Nat.le_of_ble_eq_true rfl) (fun m H0 w G => ?_)
  show Jg K m 3 H0 w 0 [(0, .ref b), (1, .ref (kA K j))] [] (I, J, B)
  refine j_aload_n G 1 1 dJ5_append_cf1ce_0 rfl rfl ?_
  refine j_ifnonnull G 9 dJ5_append_cf1ce_1 (by decide) ?_
  refine j_aload_n G 1 1 dJ5_append_cf1ce_9 rfl rfl ?_
  refine j_slen G hW (nI (sL j)) hj rfl ml_J5_32 (by decide) (by decide) (Nat.le_of_ble_eq_true rfl) dJ5_append_cf1ce_10 ?_
  refine j_istore_n G 2 [(2, .int (nI (sL j))), (0, .ref b), (1, .ref (kA K j))] dJ5_append_cf1ce_13 rfl (by decide) rfl ?_
  refine j_aload_n G 1 0 dJ5_append_cf1ce_14 rfl rfl ?_
  refine j_aload_n G 1 0 dJ5_append_cf1ce_15 rfl rfl ?_
  refine j_get G hW 0 3 0 (.int _) hk (by decide) rfl (by decide) rfl lay_J4 fl_J5_79 rfl (congrArg Value.int hS.2.1) dJ5_append_cf1ce_16 ?_
  refine j_iload_n G 0 2 dJ5_append_cf1ce_19 rfl rfl ?_
  refine j_iadd G dJ5_append_cf1ce_20 ?_
  rw [nI_add]
  refine j_cv (rn_U G hW (n := 1) (As := [.int (nI (t.length + sL j))]) (rest := []) (c_ens K hW l b hk I J B hS.1 (t.length + sL j) (by omega)) hk ml_J5_100 sm_ens (Or.inr (by decide)) im_J5_ensureCapacityInternal_d00df in_J5 co_J5_ensureCapacityInternal_d00df (by decide +kernel) rfl rfl (by decide) (by decide) rfl rfl (Nat.le_of_ble_eq_true rfl) dJ5_append_cf1ce_21) (fun _ _ => ?_)
  refine j_aload_n G 1 0 dJ5_append_cf1ce_24 rfl rfl ?_
  refine j_aload_n G 1 0 dJ5_append_cf1ce_25 rfl rfl ?_
  refine j_get G hW 0 3 0 (.int _) hk (by decide) rfl (by decide) rfl lay_J4 fl_J5_79 rfl (congrArg Value.int hS.2.1) dJ5_append_cf1ce_26 ?_
  refine j_aload_n G 2 1 dJ5_append_cf1ce_29 rfl rfl ?_
  refine j_cv (rn_U G hW (n := 2) (As := [.int (nI t.length), .ref (kA K j)]) (rest := []) (c_putS K hW l b hk I J B hS.1 j t.length hj hl) hk ml_J5_208 sm_put (Or.inr (by decide)) im_J5_putStringAt_47b60 in_J5 co_J5_putStringAt_47b60 (by decide +kernel) rfl rfl (by decide) (by decide) rfl rfl (Nat.le_of_ble_eq_true rfl) dJ5_append_cf1ce_30) (fun u h => ?_)
  subst h
  refine j_aload_n G 1 0 dJ5_append_cf1ce_33 rfl rfl ?_
  refine j_dup G rfl dJ5_append_cf1ce_34 ?_
  refine j_get G hW 0 3 0 (.int _) hk (by decide) rfl (by decide) rfl lay_J4 fl_J5_79 rfl (congrArg Value.int ((congrFun (us_ne I (sC j) t.length (sL j) (show b ≠ b + 1 by omega)) 3).trans hS.2.1)) dJ5_append_cf1ce_35 ?_
  refine j_iload_n G 0 2 dJ5_append_cf1ce_38 rfl rfl ?_
  refine j_iadd G dJ5_append_cf1ce_39 ?_
  rw [nI_add]
  refine j_put G hW 0 3 (v := nI (t.length + sL j)) tyJ4 (tyJ4 3) tyJ4_ok nmJ4 hk (by decide) rfl (by decide) rfl lay_J4 fl_J5_79 rfl rfl (tyJ4_ok 3 (by decide)) rfl rfl dJ5_append_cf1ce_40 ?_
  refine j_aload_n G 1 0 dJ5_append_cf1ce_43 rfl rfl ?_
  refine j_reta G (g := fun _ _ => True) (st := fun u => (u, J, B)) _ (Or.inl ⟨_, rfl⟩) dJ5_append_cf1ce_44 (hQ _ ?_ ?_) trivial rfl
  · have e := (sT_at j hj).1
    refine hS.app (fun i c' hi => ?_) (by rw [e]; exact hl) (by rw [ui_gj _ _ _ (by omega), us_ne _ _ _ _ (by omega)]; exact hS.1) (by rw [ui_gs, e]) (fun i hi => by rw [ui_gn _ _ _ _ (by omega), us_at]; unfold va_cpy; rw [if_neg (by omega)])
    have hi2 : i < sL j := by rw [← e]; exact (List.getElem?_eq_some_iff.mp hi).1
    obtain ⟨a1, a2, -⟩ := (sT_at j hj).2 i hi2
    rw [List.getD_eq_getElem?_getD, hi] at a1 a2
    refine ⟨a1, ?_⟩
    rw [ui_gn _ _ _ _ (by omega), us_at]
    unfold va_cpy
    rw [if_pos ⟨by omega, by omega⟩, show 0 + (t.length + i - t.length) = i from by omega]
    exact a2
  · intro x h1 h2; rw [ui_ne _ _ _ h1, us_ne _ _ _ _ h2]
set_option maxRecDepth 100000 in
theorem c_appS4 (K : Kx) (hW : WFK K) (l : Launch) (b : Nat) (hk : (kG K b).1 = 1) (I : MI) (J : MJ) (B : MR) (t : List Nat) (hS : SbT b I t) (j : Nat) (hj : j < 18) (hl : t.length + sL j ≤ 16) (Q : MI → Prop) (hQ : ∀ I', SbT b I' (t ++ sT j) → SbF b I I' → Q I') : Con K l yJ4_append_15ec4 (wsT yJ4_append_15ec4 cJ4_append_15ec4 2 (some (.object "java/lang/StringBuilder"))) rm115 [.ref b, .ref (kA K j)] (I, J, B) (va_Qr (S := MI) Q (fun u _ t => True ∧ HP K (u, J, B) t.heap) (AA K)) := by
  refine Con.ofJ RJ4 rfl (by decide) (Nat.le_of_ble_eq_true rfl) (fun m H0 w G => ?_)
  show Jg K m 2 H0 w 0 [(0, .ref b), (1, .ref (kA K j))] [] (I, J, B)
  refine j_aload_n G 0 0 dJ4_append_15ec4_0 rfl rfl ?_
  refine j_aload_n G 1 1 dJ4_append_15ec4_1 rfl rfl ?_
  refine j_cr (rn_SU G hW (n := 1) (As := [.ref (kA K j)]) (rest := []) (c_appS5 K hW l b hk I J B t hS j hj hl Q hQ) hk ml_J4_29 sm_appS su_J4 im_J5_append_cf1ce in_J5 co_J5_append_cf1ce (by decide +kernel) rfl rfl (by decide) (by decide) rfl rfl (Nat.le_of_ble_eq_true rfl) dJ4_append_15ec4_2) (fun u ra h _ => ?_)
  refine j_pop G rfl dJ4_append_15ec4_5 ?_
  refine j_aload_n G 0 0 dJ4_append_15ec4_6 rfl rfl ?_
  exact j_reta G u (Or.inl ⟨_, rfl⟩) dJ4_append_15ec4_7 h trivial rfl
set_option maxRecDepth 100000 in
theorem c_setL5 (K : Kx) (hW : WFK K) (l : Launch) (b : Nat) (hk : (kG K b).1 = 1) (I : MI) (J : MJ) (B : MR) (t : List Nat) (hS : SbT b I t) (Q : MI → Prop) (hQ : ∀ I', SbT b I' [] → SbF b I I' → Q I') : Con K l yJ5_setLength_d00df (wsT yJ5_setLength_d00df cJ5_setLength_d00df 2 none) rm1b [.ref b, .int 0] (I, J, B) (va_Qv (S := MI) Q (fun u t => HP K (u, J, B) t.heap) (AA K)) := by
  have h16 := hS.2.2.1
  refine Con.ofJ RJ5 rfl (by decide) (Nat.le_of_ble_eq_true rfl) (fun m H0 w G => ?_)
  show Jg K m 2 H0 w 0 [(0, .ref b), (1, .int 0)] [] (I, J, B)
  refine j_iload_n G 1 1 dJ5_setLength_d00df_0 rfl rfl ?_
  refine j_if_ge G 13 dJ5_setLength_d00df_1 (by decide) (fun _ => ?_) (fun c => absurd (by decide) c)
  refine j_aload_n G 0 0 dJ5_setLength_d00df_13 rfl rfl ?_
  refine j_iload_n G 1 1 dJ5_setLength_d00df_14 rfl rfl ?_
  refine j_cv (rn_U G hW (n := 1) (As := [.int (nI (0))]) (rest := []) (c_ens K hW l b hk I J B hS.1 (0) (Nat.zero_le _)) hk ml_J5_100 sm_ens (Or.inr (by decide)) im_J5_ensureCapacityInternal_d00df in_J5 co_J5_ensureCapacityInternal_d00df (by decide +kernel) rfl rfl (by decide) (by decide) rfl rfl (Nat.le_of_ble_eq_true rfl) dJ5_setLength_d00df_15) (fun _ _ => ?_)
  refine j_aload_n G 0 0 dJ5_setLength_d00df_18 rfl rfl ?_
  refine j_get G hW 0 3 0 (.int _) hk (by decide) rfl (by decide) rfl lay_J4 fl_J5_79 rfl (congrArg Value.int hS.2.1) dJ5_setLength_d00df_19 ?_
  refine j_iload_n G 1 1 dJ5_setLength_d00df_22 rfl rfl ?_
  refine j_icmp_ge G 63 dJ5_setLength_d00df_23 (by decide) (fun _ => ?_) (fun c => absurd (Int32.not_lt.mp (nI_pos (by omega))) c)
  refine j_aload_n G 0 0 dJ5_setLength_d00df_63 rfl rfl ?_
  refine j_get G hW 0 3 0 (.int _) hk (by decide) rfl (by decide) rfl lay_J4 fl_J5_79 rfl (congrArg Value.int hS.2.1) dJ5_setLength_d00df_64 ?_
  refine j_iload_n G 1 1 dJ5_setLength_d00df_67 rfl rfl ?_
  refine j_icmp_le G 76 dJ5_setLength_d00df_68 (by decide) (fun _ => ?_) (fun _ => ?_)
  · refine j_aload_n G 0 0 dJ5_setLength_d00df_76 rfl rfl ?_
    refine j_iload_n G 1 1 dJ5_setLength_d00df_77 rfl rfl ?_
    refine j_put G hW 0 3 (v := 0) tyJ4 (tyJ4 3) tyJ4_ok nmJ4 hk (by decide) rfl (by decide) rfl lay_J4 fl_J5_79 rfl rfl (tyJ4_ok 3 (by decide)) rfl rfl dJ5_setLength_d00df_78 ?_
    refine j_retv G (st := fun u => (u, J, B)) _ dJ5_setLength_d00df_81 (hQ _ ⟨by rw [ui_gj _ _ _ (by omega)]; exact hS.1, ui_gs _ _ _ _, Nat.zero_le _, fun i c hi => absurd hi (by simp)⟩ (fun x h1 _ => by rw [ui_ne _ _ _ h1])) rfl
  · refine j_aload_n G 0 0 dJ5_setLength_d00df_71 rfl rfl ?_
    refine j_iconst G (1 : Int32) dJ5_setLength_d00df_72 (by decide) ?_
    refine j_put G hW 0 2 (v := 1) tyJ4 (tyJ4 2) tyJ4_ok nmJ4 hk (by decide) rfl (by decide) rfl lay_J4 fl_J5_73 rfl rfl (tyJ4_ok 2 (by decide)) (by decide) (by decide) dJ5_setLength_d00df_73 ?_
    refine j_aload_n G 0 0 dJ5_setLength_d00df_76 rfl rfl ?_
    refine j_iload_n G 1 1 dJ5_setLength_d00df_77 rfl rfl ?_
    refine j_put G hW 0 3 (v := 0) tyJ4 (tyJ4 3) tyJ4_ok nmJ4 hk (by decide) rfl (by decide) rfl lay_J4 fl_J5_79 rfl rfl (tyJ4_ok 3 (by decide)) rfl rfl dJ5_setLength_d00df_78 ?_
    refine j_retv G (st := fun u => (u, J, B)) _ dJ5_setLength_d00df_81 (hQ _ ⟨by rw [ui_gj _ _ _ (by omega), ui_gj _ _ _ (by omega)]; exact hS.1, ui_gs _ _ _ _, Nat.zero_le _, fun i c hi => absurd hi (by simp)⟩ (fun x h1 _ => by rw [ui_ne _ _ _ h1, ui_ne _ _ _ h1])) rfl
set_option maxRecDepth 100000 in
theorem c_setL4 (K : Kx) (hW : WFK K) (l : Launch) (b : Nat) (hk : (kG K b).1 = 1) (I : MI) (J : MJ) (B : MR) (t : List Nat) (hS : SbT b I t) (Q : MI → Prop) (hQ : ∀ I', SbT b I' [] → SbF b I I' → Q I') : Con K l yJ4_setLength_d00df (wsT yJ4_setLength_d00df cJ4_setLength_d00df 2 none) rm2 [.ref b, .int 0] (I, J, B) (va_Qv (S := MI) Q (fun u t => HP K (u, J, B) t.heap) (AA K)) := by
  refine Con.ofJ RJ4 rfl (by decide) (Nat.le_of_ble_eq_true rfl) (fun m H0 w G => ?_)
  show Jg K m 2 H0 w 0 [(0, .ref b), (1, .int 0)] [] (I, J, B)
  refine j_aload_n G 0 0 dJ4_setLength_d00df_0 rfl rfl ?_
  refine j_iload_n G 1 1 dJ4_setLength_d00df_1 rfl rfl ?_
  refine j_cv (rn_SU G hW (n := 1) (As := [.int 0]) (rest := []) (c_setL5 K hW l b hk I J B t hS Q hQ) hk ml_J4_333 sm_setL su_J4 im_J5_setLength_d00df in_J5 co_J5_setLength_d00df (by decide +kernel) rfl rfl (by decide) (by decide) rfl rfl (Nat.le_of_ble_eq_true rfl) dJ4_setLength_d00df_2) (fun u h => ?_)
  exact j_retv G u dJ4_setLength_d00df_5 h rfl
set_option maxRecDepth 100000 in
theorem c_len5 (K : Kx) (hW : WFK K) (l : Launch) (b : Nat) (hk : (kG K b).1 = 1) (I : MI) (J : MJ) (B : MR) (t : List Nat) (hS : SbT b I t) : Con K l yJ5_length_8abf5 (wsT yJ5_length_8abf5 cJ5_length_8abf5 1 (some .int)) rm0' [.ref b] (I, J, B) (va_Qi (S := Unit) (fun r _ => r = nI t.length) (fun _ t => HP K (I, J, B) t.heap) (AA K)) := by
  refine Con.ofJ RJ5 rfl (by decide) (Nat.le_of_ble_eq_true rfl) (fun m H0 w G => ?_)
  show Jg K m 1 H0 w 0 [(0, .ref b)] [] (I, J, B)
  refine j_aload_n G 0 0 dJ5_length_8abf5_0 rfl rfl ?_
  refine j_get G hW 0 3 0 (.int _) hk (by decide) rfl (by decide) rfl lay_J4 fl_J5_79 rfl (congrArg Value.int hS.2.1) dJ5_length_8abf5_1 ?_
  exact j_reti G () rfl dJ5_length_8abf5_4 rfl rfl
set_option maxRecDepth 100000 in
theorem c_len4 (K : Kx) (hW : WFK K) (l : Launch) (b : Nat) (hk : (kG K b).1 = 1) (I : MI) (J : MJ) (B : MR) (t : List Nat) (hS : SbT b I t) (Q : Int32 → Prop) (hQ : Q (nI t.length)) : Con K l yJ4_length_8abf5 (wsT yJ4_length_8abf5 cJ4_length_8abf5 1 (some .int)) rm20 [.ref b] (I, J, B) (va_Qi (S := Unit) (fun r _ => Q r) (fun _ t => HP K (I, J, B) t.heap) (AA K)) := by
  refine Con.ofJ RJ4 rfl (by decide) (Nat.le_of_ble_eq_true rfl) (fun m H0 w G => ?_)
  show Jg K m 1 H0 w 0 [(0, .ref b)] [] (I, J, B)
  refine j_aload_n G 0 0 dJ4_length_8abf5_0 rfl rfl ?_
  refine j_ci (rn_SU G hW (n := 0) (As := []) (rest := []) (c_len5 K hW l b hk I J B t hS) hk ml_J4_343 sm_len su_J4 im_J5_length_8abf5 in_J5 co_J5_length_8abf5 (by decide +kernel) rfl rfl (by decide) (by decide) rfl rfl (Nat.le_of_ble_eq_true rfl) dJ4_length_8abf5_1) (fun r _ h => ?_)
  subst h
  exact j_reti G () rfl dJ4_length_8abf5_4 hQ rfl
theorem ch128 : ∀ c, c < 128 → (nI c &&& 255 = nI c ∧ ((nI c).toUInt32 % 65536).toInt32 = nI c ∧ narrow .char (.int (nI c)) = .int (nI c)) := by decide +kernel
theorem n16 : ∀ n, n < 17 → ¬ (16 : Int32) < nI n := by decide
set_option maxRecDepth 100000 in
theorem c_chr5 (K : Kx) (hW : WFK K) (l : Launch) (b : Nat) (hk : (kG K b).1 = 1) (I : MI) (J : MJ) (B : MR) (t : List Nat) (hS : SbT b I t) (k c : Nat) (hc : t[k]? = some c) : Con K l yJ5_charAt_5068e (wsT yJ5_charAt_5068e cJ5_charAt_5068e 5 (some .char)) rm2 [.ref b, .int (nI k)] (I, J, B) (va_Qi (S := Unit) (fun r _ => r = nI c) (fun _ t => HP K (I, J, B) t.heap) (AA K)) := by
  have h16 := hS.2.2.1
  obtain ⟨h128, he⟩ := hS.2.2.2 k c hc
  have hkt : k < t.length := (List.getElem?_eq_some_iff.mp hc).1
  refine Con.ofJ RJ5 rfl (by decide) (Nat.le_of_ble_eq_true rfl) (fun m H0 w G => ?_)
  show Jg K m 5 H0 w 0 [(0, .ref b), (1, .int (nI k))] [] (I, J, B)
  refine j_aload_n G 0 0 dJ5_charAt_5068e_0 rfl rfl ?_
  refine j_get G hW 0 1 0 (.int 0) hk (by decide) rfl (by decide) rfl lay_J4 fl_J5_22 rfl (congrArg Value.int (hS.1)) dJ5_charAt_5068e_1 ?_
  refine j_istore_n G 2 [(2, .int 0), (0, .ref b), (1, .int (nI k))] dJ5_charAt_5068e_4 rfl (by decide) rfl ?_
  refine j_aload_n G 1 0 dJ5_charAt_5068e_5 rfl rfl ?_
  refine j_get G hW 0 0 4 (.ref (b + 1)) hk (by decide) rfl (by decide) rfl lay_J4 fl_J5_15 rfl rfl dJ5_charAt_5068e_6 ?_
  refine j_astore_n G 3 [(3, .ref (b + 1)), (2, .int 0), (0, .ref b), (1, .int (nI k))] dJ5_charAt_5068e_9 rfl (by decide) rfl ?_
  refine j_aload_n G 2 0 dJ5_charAt_5068e_10 rfl rfl ?_
  refine j_get G hW 0 3 0 (.int _) hk (by decide) rfl (by decide) rfl lay_J4 fl_J5_79 rfl (congrArg Value.int hS.2.1) dJ5_charAt_5068e_11 ?_
  refine j_aload_n G 0 3 dJ5_charAt_5068e_14 rfl rfl ?_
  refine j_alen G hW (16 : Int32) (wk_1_1 hW hk) (by decide) (by decide) (by decide) rfl (by decide) dJ5_charAt_5068e_15 ?_
  refine j_iload_n G 1 2 dJ5_charAt_5068e_16 rfl rfl ?_
  refine j_ishr G dJ5_charAt_5068e_17 ?_
  rw [sh0]
  refine j_mmin G ml_J5_138 st_J9_min_7cf53 in_J9 co_J9_min_7cf53 (by decide) (by decide) (Nat.le_of_ble_eq_true rfl) dJ5_charAt_5068e_18 ?_
  rw [if_neg (n16 _ (by omega))]
  refine j_istore G [(4, .int (nI t.length)), (3, .ref (b + 1)), (2, .int 0), (0, .ref b), (1, .int (nI k))] dJ5_charAt_5068e_21 (by decide) rfl ?_
  refine j_iload_n G 4 1 dJ5_charAt_5068e_23 rfl rfl ?_
  refine j_iload G 0 dJ5_charAt_5068e_24 rfl ?_
  refine j_cv (rn_S G (n := 2) (As := [.int (nI k), .int (nI t.length)]) (rest := []) (c_chk0 K hW l (nI k) (nI t.length) (nI_pos (by omega)) (nI_lt hkt (by omega)) (I, J, B)) ml_J5_144 st_J0_checkIndex_df160 in_J0 co_J0_checkIndex_df160 (by decide +kernel) rfl rfl (by decide) (by decide) rfl rfl (Nat.le_of_ble_eq_true rfl) dJ5_charAt_5068e_26) (fun _ _ => ?_)
  refine j_iload_n G 2 2 dJ5_charAt_5068e_29 rfl rfl ?_
  refine j_if_ne G 42 dJ5_charAt_5068e_30 (by decide) (fun c => absurd rfl c) (fun _ => ?_)
  refine j_aload_n G 1 3 dJ5_charAt_5068e_33 rfl rfl ?_
  refine j_iload_n G 4 1 dJ5_charAt_5068e_34 rfl rfl ?_
  refine j_bald G hW (wk_1_1 hW hk) (inn (by omega) (by omega)) dJ5_charAt_5068e_35 ?_
  rw [ixn (by omega), he]
  refine j_sipush G (255 : Int32) dJ5_charAt_5068e_36 (by decide) ?_
  refine j_iand G dJ5_charAt_5068e_39 ?_
  refine j_i2c G dJ5_charAt_5068e_40 ?_
  rw [(ch128 c h128).1, (ch128 c h128).2.1]
  exact j_reti G () (ch128 c h128).2.2 dJ5_charAt_5068e_41 rfl rfl
set_option maxRecDepth 100000 in
theorem c_chr4 (K : Kx) (hW : WFK K) (l : Launch) (b : Nat) (hk : (kG K b).1 = 1) (I : MI) (J : MJ) (B : MR) (t : List Nat) (hS : SbT b I t) (k c : Nat) (hc : t[k]? = some c) (Q : Int32 → Prop) (hQ : Q (nI c)) : Con K l yJ4_charAt_5068e (wsT yJ4_charAt_5068e cJ4_charAt_5068e 2 (some .char)) rm67 [.ref b, .int (nI k)] (I, J, B) (va_Qi (S := Unit) (fun r _ => Q r) (fun _ t => HP K (I, J, B) t.heap) (AA K)) := by
  refine Con.ofJ RJ4 rfl (by decide) (Nat.le_of_ble_eq_true rfl) (fun m H0 w G => ?_)
  show Jg K m 2 H0 w 0 [(0, .ref b), (1, .int (nI k))] [] (I, J, B)
  refine j_aload_n G 0 0 dJ4_charAt_5068e_0 rfl rfl ?_
  refine j_iload_n G 1 1 dJ4_charAt_5068e_1 rfl rfl ?_
  refine j_ci (rn_SU G hW (n := 1) (As := [.int (nI k)]) (rest := []) (c_chr5 K hW l b hk I J B t hS k c hc) hk ml_J4_329 sm_chr su_J4 im_J5_charAt_5068e in_J5 co_J5_charAt_5068e (by decide +kernel) rfl rfl (by decide) (by decide) rfl rfl (Nat.le_of_ble_eq_true rfl) dJ4_charAt_5068e_2) (fun r _ h => ?_)
  subst h
  exact j_reti G () (ch128 c (hS.2.2.2 k c hc).1).2.2 dJ4_charAt_5068e_5 hQ rfl
/-- which String constant is the word of a kind -/
def wdj (k : Nat) : Nat := [1, 2, 3, 4, 17, 17, 5, 17, 6, 7, 8, 9, 10, 11, 12, 13, 14, 15, 16, 17].getD k 17
theorem wdj_lt : ∀ k, k < 20 → 0 < wdj k ∧ wdj k < 18 := by decide
set_option maxRecDepth 100000 in
theorem c_word (K : Kx) (hW : WFK K) (l : Launch) (k : Nat) (hk : k < 20) (mem : Mm) : Con K l yX2_wordOf (wsT yX2_wordOf cX2_wordOf 1 (some (.object "java/lang/String"))) rm0' [.int (nI k)] mem (va_Qr (S := Unit) (fun _ => True) (fun _ a t => a = kA K (wdj k) ∧ HP K mem t.heap) (AA K)) := by
  refine Con.ofJ RX2 rfl (by decide) (Nat.le_of_ble_eq_true rfl) (fun m H0 w G => ?_)
  show Jg K m 1 H0 w 0 [(0, .int (nI k))] [] mem
  refine j_iload_n G 0 0 dX2_wordOf_0 rfl rfl ?_
  match k, hk with
  | 0, _ =>
    refine j_tableIn G 92 dX2_wordOf_1 (by decide) (by decide) rfl (by decide) ?_
    refine j_ldcS G 1 (by decide) rfl rfl dX2_wordOf_92 ?_
    exact j_reta G (g := fun _ a => a = kA K (wdj 0)) () (Or.inl ⟨_, rfl⟩) dX2_wordOf_94 trivial rfl rfl
  | 1, _ =>
    refine j_tableIn G 95 dX2_wordOf_1 (by decide) (by decide) rfl (by decide) ?_
    refine j_ldcS G 2 (by decide) rfl rfl dX2_wordOf_95 ?_
    exact j_reta G (g := fun _ a => a = kA K (wdj 1)) () (Or.inl ⟨_, rfl⟩) dX2_wordOf_97 trivial rfl rfl
  | 2, _ =>
    refine j_tableIn G 98 dX2_wordOf_1 (by decide) (by decide) rfl (by decide) ?_
    refine j_ldcS G 3 (by decide) rfl rfl dX2_wordOf_98 ?_
    exact j_reta G (g := fun _ a => a = kA K (wdj 2)) () (Or.inl ⟨_, rfl⟩) dX2_wordOf_100 trivial rfl rfl
  | 3, _ =>
    refine j_tableIn G 101 dX2_wordOf_1 (by decide) (by decide) rfl (by decide) ?_
    refine j_ldcS G 4 (by decide) rfl rfl dX2_wordOf_101 ?_
    exact j_reta G (g := fun _ a => a = kA K (wdj 3)) () (Or.inl ⟨_, rfl⟩) dX2_wordOf_103 trivial rfl rfl
  | 4, _ =>
    refine j_tableIn G 140 dX2_wordOf_1 (by decide) (by decide) rfl (by decide) ?_
    refine j_ldcS G 17 (by decide) rfl rfl dX2_wordOf_140 ?_
    exact j_reta G (g := fun _ a => a = kA K (wdj 4)) () (Or.inl ⟨_, rfl⟩) dX2_wordOf_142 trivial rfl rfl
  | 5, _ =>
    refine j_tableIn G 140 dX2_wordOf_1 (by decide) (by decide) rfl (by decide) ?_
    refine j_ldcS G 17 (by decide) rfl rfl dX2_wordOf_140 ?_
    exact j_reta G (g := fun _ a => a = kA K (wdj 5)) () (Or.inl ⟨_, rfl⟩) dX2_wordOf_142 trivial rfl rfl
  | 6, _ =>
    refine j_tableIn G 104 dX2_wordOf_1 (by decide) (by decide) rfl (by decide) ?_
    refine j_ldcS G 5 (by decide) rfl rfl dX2_wordOf_104 ?_
    exact j_reta G (g := fun _ a => a = kA K (wdj 6)) () (Or.inl ⟨_, rfl⟩) dX2_wordOf_106 trivial rfl rfl
  | 7, _ =>
    refine j_tableIn G 140 dX2_wordOf_1 (by decide) (by decide) rfl (by decide) ?_
    refine j_ldcS G 17 (by decide) rfl rfl dX2_wordOf_140 ?_
    exact j_reta G (g := fun _ a => a = kA K (wdj 7)) () (Or.inl ⟨_, rfl⟩) dX2_wordOf_142 trivial rfl rfl
  | 8, _ =>
    refine j_tableIn G 107 dX2_wordOf_1 (by decide) (by decide) rfl (by decide) ?_
    refine j_ldcS G 6 (by decide) rfl rfl dX2_wordOf_107 ?_
    exact j_reta G (g := fun _ a => a = kA K (wdj 8)) () (Or.inl ⟨_, rfl⟩) dX2_wordOf_109 trivial rfl rfl
  | 9, _ =>
    refine j_tableIn G 110 dX2_wordOf_1 (by decide) (by decide) rfl (by decide) ?_
    refine j_ldcS G 7 (by decide) rfl rfl dX2_wordOf_110 ?_
    exact j_reta G (g := fun _ a => a = kA K (wdj 9)) () (Or.inl ⟨_, rfl⟩) dX2_wordOf_112 trivial rfl rfl
  | 10, _ =>
    refine j_tableIn G 113 dX2_wordOf_1 (by decide) (by decide) rfl (by decide) ?_
    refine j_ldcS G 8 (by decide) rfl rfl dX2_wordOf_113 ?_
    exact j_reta G (g := fun _ a => a = kA K (wdj 10)) () (Or.inl ⟨_, rfl⟩) dX2_wordOf_115 trivial rfl rfl
  | 11, _ =>
    refine j_tableIn G 116 dX2_wordOf_1 (by decide) (by decide) rfl (by decide) ?_
    refine j_ldcS G 9 (by decide) rfl rfl dX2_wordOf_116 ?_
    exact j_reta G (g := fun _ a => a = kA K (wdj 11)) () (Or.inl ⟨_, rfl⟩) dX2_wordOf_118 trivial rfl rfl
  | 12, _ =>
    refine j_tableIn G 119 dX2_wordOf_1 (by decide) (by decide) rfl (by decide) ?_
    refine j_ldcS G 10 (by decide) rfl rfl dX2_wordOf_119 ?_
    exact j_reta G (g := fun _ a => a = kA K (wdj 12)) () (Or.inl ⟨_, rfl⟩) dX2_wordOf_121 trivial rfl rfl
  | 13, _ =>
    refine j_tableIn G 122 dX2_wordOf_1 (by decide) (by decide) rfl (by decide) ?_
    refine j_ldcS G 11 (by decide) rfl rfl dX2_wordOf_122 ?_
    exact j_reta G (g := fun _ a => a = kA K (wdj 13)) () (Or.inl ⟨_, rfl⟩) dX2_wordOf_124 trivial rfl rfl
  | 14, _ =>
    refine j_tableIn G 125 dX2_wordOf_1 (by decide) (by decide) rfl (by decide) ?_
    refine j_ldcS G 12 (by decide) rfl rfl dX2_wordOf_125 ?_
    exact j_reta G (g := fun _ a => a = kA K (wdj 14)) () (Or.inl ⟨_, rfl⟩) dX2_wordOf_127 trivial rfl rfl
  | 15, _ =>
    refine j_tableIn G 128 dX2_wordOf_1 (by decide) (by decide) rfl (by decide) ?_
    refine j_ldcS G 13 (by decide) rfl rfl dX2_wordOf_128 ?_
    exact j_reta G (g := fun _ a => a = kA K (wdj 15)) () (Or.inl ⟨_, rfl⟩) dX2_wordOf_130 trivial rfl rfl
  | 16, _ =>
    refine j_tableIn G 131 dX2_wordOf_1 (by decide) (by decide) rfl (by decide) ?_
    refine j_ldcS G 14 (by decide) rfl rfl dX2_wordOf_131 ?_
    exact j_reta G (g := fun _ a => a = kA K (wdj 16)) () (Or.inl ⟨_, rfl⟩) dX2_wordOf_133 trivial rfl rfl
  | 17, _ =>
    refine j_tableIn G 134 dX2_wordOf_1 (by decide) (by decide) rfl (by decide) ?_
    refine j_ldcS G 15 (by decide) rfl rfl dX2_wordOf_134 ?_
    exact j_reta G (g := fun _ a => a = kA K (wdj 17)) () (Or.inl ⟨_, rfl⟩) dX2_wordOf_136 trivial rfl rfl
  | 18, _ =>
    refine j_tableIn G 137 dX2_wordOf_1 (by decide) (by decide) rfl (by decide) ?_
    refine j_ldcS G 16 (by decide) rfl rfl dX2_wordOf_137 ?_
    exact j_reta G (g := fun _ a => a = kA K (wdj 18)) () (Or.inl ⟨_, rfl⟩) dX2_wordOf_139 trivial rfl rfl
  | 19, _ =>
    refine j_tableOut G 140 dX2_wordOf_1 (by decide) (by decide) ?_
    refine j_ldcS G 17 (by decide) rfl rfl dX2_wordOf_140 ?_
    exact j_reta G (g := fun _ a => a = kA K (wdj 19)) () (Or.inl ⟨_, rfl⟩) dX2_wordOf_142 trivial rfl rfl
  | n + 20, h => exact absurd h (by omega)
