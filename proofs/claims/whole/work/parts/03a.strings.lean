section
variable {K : Kx} {l : Launch} {R : Room} {m : MethodId} {own : String} {cc : ByteArray} {nL : Nat} {H0 : Heap} {ret : Option FieldType} {Qc : Array Value → State → Outcome → State → Prop} {w : HW} {pc : Nat} {L : List (Nat × Value)} {S : List Value} {mem : Mm}
def sC (j k : Nat) : Int32 := (sByt.getD j []).getD k 0
abbrev sL (j : Nat) : Nat := sLen.getD j 0
theorem OH.q {K : Kx} {H : Heap} (h : OH K H) : ∀ a : Nat, a < (kH K).size → ¬ AA K a → H[a]? = (kH K)[a]? := h.2
/-- a static that nobody writes -/
theorem j_gets (G : Gd l R K m own cc nL H0 ret Qc w) {C n d ref : String} {v : Value} {index : Nat} (hZ : ∀ U, XS K U → va_Z C n d v (AA K) U (kH K)) (hw : Cond.fieldLink own index ref n d ∈ gw) (hs : ref = C) (hd : decode cc pc = .ok (.getstatic index, 3)) (k : Jg K m nL H0 w (pc + 3) L (v :: S) mem) : Jg K m nL H0 w pc L S mem := by
  obtain ⟨p, e, s, args, below, meth, c, rfl, hx, hb, hml, hown, hts, hK, rfl, hr, hlk⟩ := G
  intro H locs ls hP hS hl
  exact va_gets hx hb ((hZ s hK.1.2.2).kept hK.2.2) hS hown (hts _ hw) (fun x h => by rw [hs]; exact h) hd (k H locs ls hP hS hl)
theorem j_getsq (G : Gd l R K m own cc nL H0 ret Qc w) {C n d ref : String} {index : Nat} (hZ : ∀ U, XS K U → va_Zq C n d (AA K) U (kH K)) (hw : Cond.fieldLink own index ref n d ∈ gw) (hs : ref = C) (hd : decode cc pc = .ok (.getstatic index, 3)) (k : ∀ v : Value, (v = .null ∨ ∃ t, v = .ref t) → Jg K m nL H0 w (pc + 3) L (v :: S) mem) : Jg K m nL H0 w pc L S mem := by
  obtain ⟨p, e, s, args, below, meth, c, rfl, hx, hb, hml, hown, hts, hK, rfl, hr, hlk⟩ := G
  intro H locs ls hP hS hl
  rcases hZ s hK.1.2.2 with h | ⟨t, h⟩
  · exact va_gets hx hb (h.kept hK.2.2) hS hown (hts _ hw) (fun x h => by rw [hs]; exact h) hd (k .null (Or.inl rfl) H locs ls hP hS hl)
  · exact va_gets hx hb (h.kept hK.2.2) hS hown (hts _ hw) (fun x h => by rw [hs]; exact h) hd (k (.ref t) (Or.inr ⟨t, rfl⟩) H locs ls hP hS hl)
theorem j_ldcS (G : Gd l R K m own cc nL H0 ret Qc w) {index : Nat} (j : Nat) (hj : j < 18) (ho : (sX j).1 = own) (hi : (sX j).2.1 = index) (hd : decode cc pc = .ok (.ldc index, 2)) (k : Jg K m nL H0 w (pc + 2) L (.ref (kA K j) :: S) mem) : Jg K m nL H0 w pc L S mem := by
  obtain ⟨p, e, s, args, below, meth, c, rfl, hx, hb, hml, hown, hts, hK, rfl, hr, hlk⟩ := G
  intro H locs ls hP hS hl
  subst ho; subst hi
  exact va_ldcS hx hb hown (hK.1.2.2.1 j hj) hd (k H locs ls hP hS hl)
theorem j_scoder (G : Gd l R K m own cc nL H0 ret Qc w) {index j : Nat} (hj : j < 18) (hw : Cond.fieldLink own index "java/lang/String" "coder" "B" ∈ gw) (hd : decode cc pc = .ok (.getfield index, 3)) (k : Jg K m nL H0 w (pc + 3) L (.int 0 :: S) mem) : Jg K m nL H0 w pc L (.ref (kA K j) :: S) mem := by
  obtain ⟨p, e, s, args, below, meth, c, rfl, hx, hb, hml, hown, hts, hK, rfl, hr, hlk⟩ := G
  intro H locs ls hP hS hl
  exact vk_getf hx hb ((hK.1.2.2.2.1.1 j hj).2.1.kept hK.2.2) hS hown (hts _ hw) (fun _ h => h) hd (k H locs ls hP hS hl)
theorem j_svalue (G : Gd l R K m own cc nL H0 ret Qc w) {index j : Nat} (hj : j < 18) (hw : Cond.fieldLink own index "java/lang/String" "value" "[B" ∈ gw) (hd : decode cc pc = .ok (.getfield index, 3)) (k : Jg K m nL H0 w (pc + 3) L (.ref (kV K j) :: S) mem) : Jg K m nL H0 w pc L (.ref (kA K j) :: S) mem := by
  obtain ⟨p, e, s, args, below, meth, c, rfl, hx, hb, hml, hown, hts, hK, rfl, hr, hlk⟩ := G
  intro H locs ls hP hS hl
  exact vk_getf hx hb ((hK.1.2.2.2.1.1 j hj).2.2.1.kept hK.2.2) hS hown (hts _ hw) (fun _ h => h) hd (k H locs ls hP hS hl)
theorem j_slenV (G : Gd l R K m own cc nL H0 ret Qc w) {j : Nat} (hj : j < 18) (hd : decode cc pc = .ok (.arraylength, 1)) (k : Jg K m nL H0 w (pc + 1) L (.int (nI (sL j)) :: S) mem) : Jg K m nL H0 w pc L (.ref (kV K j) :: S) mem := by
  obtain ⟨p, e, s, args, below, meth, c, rfl, hx, hb, hml, hown, hts, hK, rfl, hr, hlk⟩ := G
  intro H locs ls hP hS hl
  obtain ⟨cell, h1, h2, h3, h4, h5, h6, h7⟩ := (hK.1.2.2.2.1.1 j hj).2.2.2.kept hK.2.2
  exact W.alen (n := nI (sL j)) hx hb (by rw [hS.2.1 _ (Array.getElem?_eq_some_iff.mp h1).1 h7]; exact h1) h2 h5 rfl rfl hd (k H locs ls hP hS hl)
theorem j_sbald (G : Gd l R K m own cc nL H0 ret Qc w) {j : Nat} {i : Int32} (hj : j < 18) (hi : vp_in i (sL j)) (hd : decode cc pc = .ok (.baload, 1)) (k : Jg K m nL H0 w (pc + 1) L (.int (sC j (ix i)) :: S) mem) : Jg K m nL H0 w pc L (.int i :: .ref (kV K j) :: S) mem := by
  obtain ⟨p, e, s, args, below, meth, c, rfl, hx, hb, hml, hown, hts, hK, rfl, hr, hlk⟩ := G
  intro H locs ls hP hS hl
  exact va_tb hx hb ((hK.1.2.2.2.1.1 j hj).2.2.2.kept hK.2.2) hS hi rfl hd (k H locs ls hP hS hl)
/-- a method of a String constant is called -/
theorem rn_VS (G : Gd l R K m own cc nL H0 ret Qc w) {j index maxL n : Nat} {As rest S0 : List Value} {y : MethodName} {bytes : ByteArray} {ret2 : Option FieldType} {rm : Room} {Qd : Array Value → State → Outcome → State → Prop} (hM : Con K l y (wsT y bytes maxL ret2) rm (.ref (kA K j) :: As) mem Qd) (hj : j < 18)
    (h1 : Cond.methodLink own index y ∈ gw) (h2 : Cond.instanceMethod y ∈ gw) (h3 : Cond.selects RJ0 y y ∈ gw) (h4 : Cond.initialized RJ0 ∈ gw) (h5 : Cond.code y bytes maxL ret2 ∈ gw) (hyC : y.cls = RJ0) (hds : dsc y n) (hrc : rm.cells = 0) (hrs : rm.slots = 0) (hfr : rm.frames + 1 ≤ R.frames) (hlo : 8 + (maxL + 11) + rm.locals ≤ R.locals)
    (hn : As.length = n) (hS0 : S0 = As.reverse ++ .ref (kA K j) :: rest) (hrm : (rest.map fun v => v.category).sum ≤ 8) (hd : decode cc pc = .ok (.invokevirtual index, 3)) : Rn K l m nL H0 w pc L S0 mem rest (Qd (Value.ref (kA K j) :: As).toArray) := by
  obtain ⟨p, e, s, args, below, meth, c, rfl, hx, hb, hml, hown, hts, hK, rfl, hr, hlk⟩ := G
  intro H locs ls hP hS hl
  refine ⟨p, e, R, s, args, below, meth, c, _, rfl, va_runV (As := As) (rest := rest) ⟨hx, hb, hml, hown, hts⟩ hM (cwV n hts (gw_in (pre := [.methodLink own index y, .instanceMethod y, .selects RJ0 y y, .initialized RJ0]) (fun w hw => ?_) h5) rfl hrc hrs ⟨hyC, hds⟩ ⟨hfr, hlo⟩) ⟨Con.blind K _ mem, vk_recv (hK.1.2.2.2.1.kept hK.2.2) hj hS, fun U hU hWm => ⟨rfl, by rw [hU]; exact hP, KK.warm hWm hK.1, by rw [hU]; exact hK.2.kept hS⟩⟩ rfl hn hl.1 hS0 (lv_room hrm) hd ⟨Nat.zero_le _, Nat.zero_le _⟩⟩
  simp only [List.mem_cons, List.not_mem_nil, or_false] at hw
  rcases hw with rfl | rfl | rfl | rfl <;> assumption
end
abbrev rm0' : Room := { frames := 0, cells := 0, slots := 0, locals := 0 }
set_option maxRecDepth 100000 in
theorem c_coder (K : Kx) (hW : WFK K) (l : Launch) (j : Nat) (hj : j < 18) (mem : Mm) : Con K l yJ0_coder_7d493 (wsT yJ0_coder_7d493 cJ0_coder_7d493 1 (some .byte)) rm0' [.ref (kA K j)] mem (va_Qi (S := Unit) (fun r _ => r = 0) (fun _ t => HP K mem t.heap) (AA K)) := by
  refine Con.ofJ RJ0 rfl (by decide) (Nat.le_of_ble_eq_true rfl) (fun m H0 w G => ?_)
  show Jg K m 1 H0 w 0 [(0, .ref (kA K j))] [] mem
  refine j_gets G (fun U h => h.2.2.1) fl_J0_38 rfl dJ0_coder_7d493_0 ?_
  refine j_if_eq G 13 dJ0_coder_7d493_3 (by decide) (fun c => absurd c (by decide)) (fun _ => ?_)
  refine j_aload_n G 0 0 dJ0_coder_7d493_6 rfl rfl ?_
  refine j_scoder G hj fl_J0_15 dJ0_coder_7d493_7 ?_
  refine j_goto G 14 dJ0_coder_7d493_10 (by decide) ?_
  exact j_reti G () (by decide) dJ0_coder_7d493_14 rfl rfl
set_option maxRecDepth 100000 in
theorem c_isLatin1 (K : Kx) (hW : WFK K) (l : Launch) (j : Nat) (hj : j < 18) (mem : Mm) : Con K l yJ0_isLatin1_aae02 (wsT yJ0_isLatin1_aae02 cJ0_isLatin1_aae02 1 (some .boolean)) rm0' [.ref (kA K j)] mem (va_Qi (S := Unit) (fun r _ => r = 1) (fun _ t => HP K mem t.heap) (AA K)) := by
  refine Con.ofJ RJ0 rfl (by decide) (Nat.le_of_ble_eq_true rfl) (fun m H0 w G => ?_)
  show Jg K m 1 H0 w 0 [(0, .ref (kA K j))] [] mem
  refine j_gets G (fun U h => h.2.2.1) fl_J0_38 rfl dJ0_isLatin1_aae02_0 ?_
  refine j_if_eq G 17 dJ0_isLatin1_aae02_3 (by decide) (fun c => absurd c (by decide)) (fun _ => ?_)
  refine j_aload_n G 0 0 dJ0_isLatin1_aae02_6 rfl rfl ?_
  refine j_scoder G hj fl_J0_15 dJ0_isLatin1_aae02_7 ?_
  refine j_if_ne G 17 dJ0_isLatin1_aae02_10 (by decide) (fun c => absurd rfl c) (fun _ => ?_)
  refine j_iconst G (1 : Int32) dJ0_isLatin1_aae02_13 (by decide) ?_
  refine j_goto G 18 dJ0_isLatin1_aae02_14 (by decide) ?_
  exact j_reti G () (by decide) dJ0_isLatin1_aae02_18 rfl rfl
abbrev rm1 : Room := { frames := 1, cells := 0, slots := 0, locals := 20 }
theorem sh0 (x : Int32) : x >>> ((0 : Int32) &&& 31) = x := sb_shr0 x
set_option maxRecDepth 100000 in
theorem c_length (K : Kx) (hW : WFK K) (l : Launch) (j : Nat) (hj : j < 18) (mem : Mm) : Con K l yJ0_length_8abf5 (wsT yJ0_length_8abf5 cJ0_length_8abf5 1 (some .int)) rm1 [.ref (kA K j)] mem (va_Qi (S := Unit) (fun r _ => r = nI (sL j)) (fun _ t => HP K mem t.heap) (AA K)) := by
  refine Con.ofJ RJ0 rfl (by decide) (Nat.le_of_ble_eq_true rfl) (fun m H0 w G => ?_)
  show Jg K m 1 H0 w 0 [(0, .ref (kA K j))] [] mem
  refine j_aload_n G 0 0 dJ0_length_8abf5_0 rfl rfl ?_
  refine j_svalue G hj fl_J0_9 dJ0_length_8abf5_1 ?_
  refine j_slenV G hj dJ0_length_8abf5_4 ?_
  refine j_aload_n G 0 0 dJ0_length_8abf5_5 rfl rfl ?_
  refine j_ci (rn_VS G (n := 0) (As := []) (rest := [.int (nI (sL j))]) (c_coder K hW l j hj mem) hj ml_J0_335 im_J0_coder_7d493 se_J0_coder_7d493 in_J0 co_J0_coder_7d493 rfl (by decide +kernel) rfl rfl (by decide) (by decide) rfl rfl (Nat.le_of_ble_eq_true rfl) dJ0_length_8abf5_6) (fun r _ h => ?_)
  subst h
  refine j_ishr G dJ0_length_8abf5_9 ?_
  rw [sh0]
  exact j_reti G () rfl dJ0_length_8abf5_10 rfl rfl
/-- a place is in range: nothing happens -/
theorem c_chk3 (K : Kx) (l : Launch) (x y : Int32) (v : Value) (hx : ¬ x < 0) (hy : x < y) (hc : v = .null ∨ ∃ t, v = .ref t) (mem : Mm) : Con K l yJ3_checkIndex_8e157 (wsT yJ3_checkIndex_8e157 cJ3_checkIndex_8e157 3 (some .int)) rm0' [.int x, .int y, v] mem (va_Qi (S := Unit) (fun r _ => r = x) (fun _ t => HP K mem t.heap) (AA K)) := by
  have hl : (lg_sl [.int x, .int y, v]).length ≤ 3 := by rcases hc with rfl | ⟨t, rfl⟩ <;> exact Nat.le_of_ble_eq_true rfl
  refine Con.ofJ RJ3 rfl (by decide) hl (fun m H0 w G => ?_)
  have hL : lv_args 0 [.int x, .int y, v] = [(0, .int x), (1, .int y), (2, v)] := by rcases hc with rfl | ⟨t, rfl⟩ <;> rfl
  rw [hL]
  refine j_iload_n G 0 0 dJ3_checkIndex_8e157_0 rfl rfl ?_
  refine j_if_lt G 9 dJ3_checkIndex_8e157_1 (by decide) (fun c => absurd c hx) (fun _ => ?_)
  refine j_iload_n G 0 0 dJ3_checkIndex_8e157_4 rfl rfl ?_
  refine j_iload_n G 1 1 dJ3_checkIndex_8e157_5 rfl rfl ?_
  refine j_icmp_lt G 16 dJ3_checkIndex_8e157_6 (by decide) (fun _ => ?_) (fun c => absurd hy c)
  refine j_iload_n G 0 0 dJ3_checkIndex_8e157_16 rfl rfl ?_
  exact j_reti G () rfl dJ3_checkIndex_8e157_17 rfl rfl
abbrev rm1b : Room := { frames := 1, cells := 0, slots := 0, locals := 22 }
theorem c_chk0 (K : Kx) (hW : WFK K) (l : Launch) (x y : Int32) (hx : ¬ x < 0) (hy : x < y) (mem : Mm) : Con K l yJ0_checkIndex_df160 (wsT yJ0_checkIndex_df160 cJ0_checkIndex_df160 2 none) rm1b [.int x, .int y] mem (va_Qv (S := Unit) (fun _ => True) (fun _ t => HP K mem t.heap) (AA K)) := by
  refine Con.ofJ RJ0 rfl (by decide) (Nat.le_of_ble_eq_true rfl) (fun m H0 w G => ?_)
  show Jg K m 2 H0 w 0 [(0, .int x), (1, .int y)] [] mem
  refine j_iload_n G 0 0 dJ0_checkIndex_df160_0 rfl rfl ?_
  refine j_iload_n G 1 1 dJ0_checkIndex_df160_1 rfl rfl ?_
  refine j_getsq G (fun U h => h.2.2.2.2.2.2.2) fl_J0_1053 rfl dJ0_checkIndex_df160_2 (fun v hv => ?_)
  refine j_ci (rn_S G (n := 3) (As := [.int x, .int y, v]) (rest := []) (c_chk3 K l x y v hx hy hv mem) ml_J0_1059 st_J3_checkIndex_8e157 in_J3 co_J3_checkIndex_8e157 (by decide +kernel) rfl rfl (by decide) (by decide) rfl rfl (Nat.le_of_ble_eq_true rfl) dJ0_checkIndex_df160_5) (fun r _ h => ?_)
  refine j_pop G rfl dJ0_checkIndex_df160_8 ?_
  exact j_retv G () dJ0_checkIndex_df160_9 trivial rfl
abbrev rm2 : Room := { frames := 2, cells := 0, slots := 0, locals := 43 }
theorem sC_ok : ∀ j, j < 18 → ∀ k, k < sL j → (sC j k &&& 255 = sC j k ∧ ((sC j k).toUInt32 % 65536).toInt32 = sC j k ∧ narrow .char (.int (sC j k)) = .int (sC j k)) := by decide +kernel
theorem sL_lt : ∀ j, j < 18 → sL j < 2 ^ 31 := by decide +kernel
theorem in_lt {i : Int32} {n : Nat} (hn : n < 2 ^ 31) (h : vp_in i n) : ¬ i < 0 ∧ i < nI n := by
  obtain ⟨k, hk, rfl⟩ := vp_in_of h hn
  exact ⟨nI_pos (by omega), nI_lt hk hn⟩
set_option maxRecDepth 100000 in
theorem c_charAt1 (K : Kx) (hW : WFK K) (l : Launch) (j : Nat) (hj : j < 18) (i : Int32) (hi : vp_in i (sL j)) (mem : Mm) : Con K l yJ1_charAt_3b067 (wsT yJ1_charAt_3b067 cJ1_charAt_3b067 2 (some .char)) rm2 [.ref (kV K j), .int i] mem (va_Qi (S := Unit) (fun r _ => r = sC j (ix i)) (fun _ t => HP K mem t.heap) (AA K)) := by
  obtain ⟨h0, h1⟩ := in_lt (sL_lt j hj) hi
  obtain ⟨e1, e2, e3⟩ := sC_ok j hj (ix i) (ix_lt hi)
  refine Con.ofJ RJ1 rfl (by decide) (Nat.le_of_ble_eq_true rfl) (fun m H0 w G => ?_)
  show Jg K m 2 H0 w 0 [(0, .ref (kV K j)), (1, .int i)] [] mem
  refine j_iload_n G 1 1 dJ1_charAt_3b067_0 rfl rfl ?_
  refine j_aload_n G 0 0 dJ1_charAt_3b067_1 rfl rfl ?_
  refine j_slenV G hj dJ1_charAt_3b067_2 ?_
  refine j_cv (rn_S G (n := 2) (As := [.int i, .int (nI (sL j))]) (rest := []) (c_chk0 K hW l i (nI (sL j)) h0 h1 mem) ml_J1_9 st_J0_checkIndex_df160 in_J0 co_J0_checkIndex_df160 (by decide +kernel) rfl rfl (by decide) (by decide) rfl rfl (Nat.le_of_ble_eq_true rfl) dJ1_charAt_3b067_3) (fun _ _ => ?_)
  refine j_aload_n G 0 0 dJ1_charAt_3b067_6 rfl rfl ?_
  refine j_iload_n G 1 1 dJ1_charAt_3b067_7 rfl rfl ?_
  refine j_sbald G hj hi dJ1_charAt_3b067_8 ?_
  refine j_sipush G (255 : Int32) dJ1_charAt_3b067_9 (by decide) ?_
  refine j_iand G dJ1_charAt_3b067_12 ?_
  refine j_i2c G dJ1_charAt_3b067_13 ?_
  rw [e1, e2]
  exact j_reti G () e3 dJ1_charAt_3b067_14 rfl rfl
abbrev rm3 : Room := { frames := 3, cells := 0, slots := 0, locals := 64 }
set_option maxRecDepth 100000 in
theorem c_charAt0 (K : Kx) (hW : WFK K) (l : Launch) (j : Nat) (hj : j < 18) (i : Int32) (hi : vp_in i (sL j)) (mem : Mm) : Con K l yJ0_charAt_5068e (wsT yJ0_charAt_5068e cJ0_charAt_5068e 2 (some .char)) rm3 [.ref (kA K j), .int i] mem (va_Qi (S := Unit) (fun r _ => r = sC j (ix i)) (fun _ t => HP K mem t.heap) (AA K)) := by
  obtain ⟨e1, e2, e3⟩ := sC_ok j hj (ix i) (ix_lt hi)
  refine Con.ofJ RJ0 rfl (by decide) (Nat.le_of_ble_eq_true rfl) (fun m H0 w G => ?_)
  show Jg K m 2 H0 w 0 [(0, .ref (kA K j)), (1, .int i)] [] mem
  refine j_aload_n G 0 0 dJ0_charAt_5068e_0 rfl rfl ?_
  refine j_ci (rn_VS G (n := 0) (As := []) (rest := []) (c_isLatin1 K hW l j hj mem) hj ml_J0_492 im_J0_isLatin1_aae02 se_J0_isLatin1_aae02 in_J0 co_J0_isLatin1_aae02 rfl (by decide +kernel) rfl rfl (by decide) (by decide) rfl rfl (Nat.le_of_ble_eq_true rfl) dJ0_charAt_5068e_1) (fun r _ h => ?_)
  subst h
  refine j_if_eq G 16 dJ0_charAt_5068e_4 (by decide) (fun c => absurd c (by decide)) (fun _ => ?_)
  refine j_aload_n G 0 0 dJ0_charAt_5068e_7 rfl rfl ?_
  refine j_svalue G hj fl_J0_9 dJ0_charAt_5068e_8 ?_
  refine j_iload_n G 1 1 dJ0_charAt_5068e_11 rfl rfl ?_
  refine j_ci (rn_S G (n := 2) (As := [.ref (kV K j), .int i]) (rest := []) (c_charAt1 K hW l j hj i hi mem) ml_J0_495 st_J1_charAt_3b067 in_J1 co_J1_charAt_3b067 (by decide +kernel) rfl rfl (by decide) (by decide) rfl rfl (Nat.le_of_ble_eq_true rfl) dJ0_charAt_5068e_12) (fun r _ h => ?_)
  subst h
  exact j_reti G () e3 dJ0_charAt_5068e_15 rfl rfl
section
variable {K : Kx} {l : Launch} {R : Room} {m : MethodId} {own : String} {cc : ByteArray} {nL : Nat} {H0 : Heap} {ret : Option FieldType} {Qc : Array Value → State → Outcome → State → Prop} {w : HW} {pc : Nat} {L : List (Nat × Value)} {S : List Value} {mem : Mm} {I : MI} {J : MJ} {B : MR} {a n : Nat}
theorem j_slen (G : Gd l R K m own cc nL H0 ret Qc w) (hW : WFK K) {index j : Nat} (v : Int32) (hj : j < 18) (hv : nI (sL j) = v) (h1 : Cond.methodLink own index yJ0_length_8abf5 ∈ gw) (hfr : 2 ≤ R.frames) (hlo : 40 ≤ R.locals) (hrm : (S.map fun v => v.category).sum ≤ 8) (hd : decode cc pc = .ok (.invokevirtual index, 3)) (k : Jg K m nL H0 w (pc + 3) L (.int v :: S) mem) : Jg K m nL H0 w pc L (.ref (kA K j) :: S) mem :=
  j_ci (rn_VS G (n := 0) (As := []) (rest := S) (c_length K hW l j hj mem) hj h1 im_J0_length_8abf5 se_J0_length_8abf5 in_J0 co_J0_length_8abf5 rfl (by decide +kernel) rfl rfl hfr hlo rfl rfl hrm hd) (fun r _ h => by rw [h, hv]; exact k)
theorem j_schar (G : Gd l R K m own cc nL H0 ret Qc w) (hW : WFK K) {index j : Nat} {i : Int32} (hj : j < 18) (hi : vp_in i (sL j)) (h1 : Cond.methodLink own index yJ0_charAt_5068e ∈ gw) (hfr : 4 ≤ R.frames) (hlo : 85 ≤ R.locals) (hrm : (S.map fun v => v.category).sum ≤ 8) (hd : decode cc pc = .ok (.invokevirtual index, 3)) (k : Jg K m nL H0 w (pc + 3) L (.int (sC j (ix i)) :: S) mem) : Jg K m nL H0 w pc L (.int i :: .ref (kA K j) :: S) mem :=
  j_ci (rn_VS G (n := 1) (As := [.int i]) (rest := S) (c_charAt0 K hW l j hj i hi mem) hj h1 im_J0_charAt_5068e se_J0_charAt_5068e in_J0 co_J0_charAt_5068e rfl (by decide +kernel) rfl rfl hfr hlo rfl rfl hrm hd) (fun r _ h => by rw [h]; exact k)
/-- the row that Tokens reads -/
theorem wk_tape (hW : WFK K) {t : Nat} (h : (kG K a).1 = 9) (ht : t + 101 = a) : kG K t = (21, 600) := hW.2.2.2.2.2.1 a h t ht
theorem vr_ne (hW : WFK K) {t n : Nat} (h : kG K t = (21, n)) : vr t = .ref t := by
  unfold vr
  rw [if_neg]
  intro e
  rw [e] at h
  have := hW.2.2.2.2.2.2
  rw [h] at this
  cases this
theorem fval_ur {a j k t' v : Nat} (h : j ≠ k) : fval (I, J, ur B a k v) a j t' = fval (I, J, B) a j t' := by
  match t' with
  | 0 => rfl
  | 1 => rfl
  | 2 =>
    show vr _ = vr _
    rw [show (I, J, ur B a k v).2.2 a j = B a j from by show ur B a k v a j = B a j; simp [ur, h]]
  | d + 3 => rfl
theorem j_putR (G : Gd l R K m own cc nL H0 ret Qc w) (hW : WFK K) (ci k : Nat) {C ref : String} {T : u_T} {N index v n : Nat} (ty0 : Nat → FieldType) (ty : FieldType) (hty : ∀ k, k < N → parseFieldDescriptor (T k).2.2.1 = some (ty0 k)) (hnm : ∀ a, a < N → ∀ b, b < N → a ≠ b → (T a).2.1 ≠ (T b).2.1) (hka : (kG K a).1 = ci + 1) (hci : ci < 19) (hc : vwCl[ci]? = some (C, T, N)) (hk : k < N) (hf : (fdl ci)[k]? = some 2) (hin : ∀ x ∈ u_ws C T N, x ∈ gw) (hw : Cond.fieldLink own index ref (T k).2.1 (T k).2.2.1 ∈ gw) (hsame : ref = (T k).1) (hfin : (T k).2.2.2 = false) (hpd : parseFieldDescriptor (T k).2.2.1 = some ty) (hn : narrow ty (.ref v) = .ref v) (hfit : fits ty (.ref v) = true) (hkv : kG K v = (21, n))
    (hd : decode cc pc = .ok (.putfield index, 3)) (kk : Jg K m nL H0 w (pc + 3) L S (I, J, ur B a k v)) : Jg K m nL H0 w pc L (.ref v :: .ref a :: S) (I, J, B) :=
  j_putX G hW ci k 2 (I, J, ur B a k v) ty0 hty hnm hka hci hc hk hf hin hw hsame hfin hpd hn hfit (by show vr (ur B a k v a k) = .ref v; rw [show ur B a k v a k = v from by simp [ur]]; exact vr_ne hW hkv) (fun j t' h => fval_ur h) (fun b hb => celE_congr rfl rfl (ur_ne B _ _ hb)) hd kk
end
