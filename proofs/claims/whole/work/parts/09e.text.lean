def w_J4_append_cf468 (a0 : Nat) (x1 : Int32) (I : MI) (Q : MI → Prop) : Prop := ∃ t k, SbT a0 I t ∧ x1 = nI k ∧ k < 128 ∧ t.length + 1 ≤ 16 ∧ ∀ I', SbT a0 I' (t ++ [k]) → SbF a0 I I' → Q I'
theorem c_J4_append_cf468 (K : Kx) (hW : WFK K) (l : Launch) (a0 : Nat) (x1 : Int32) (k0 : (kG K a0).1 = 1)  (I : MI) (J : MJ) (B : MR) (Q : MI → Prop) (h : w_J4_append_cf468 a0 x1 I Q) : Con K l yJ4_append_cf468 (wsT yJ4_append_cf468 cJ4_append_cf468 2 (some (.object "java/lang/StringBuilder"))) rm2 [.ref a0, .int x1] (I, J, B) (va_Qr (S := MI) Q (fun u _ t => True ∧ HP K (u, J, B) t.heap) (AA K)) := by
  obtain ⟨t, k, h1, rfl, h2, h3, h4⟩ := h
  exact c_appC4 K hW l a0 k0 I J B t h1 k h2 h3 Q h4
def w_J4_append_bf812 (a0 : Nat) (x1 : Int32) (I : MI) (Q : MI → Prop) : Prop := ∃ t k, SbT a0 I t ∧ x1 = nI k ∧ k < 1000 ∧ t.length + (decs k).length ≤ 16 ∧ ∀ I', SbT a0 I' (t ++ decs k) → SbF a0 I I' → Q I'
theorem c_J4_append_bf812 (K : Kx) (hW : WFK K) (l : Launch) (a0 : Nat) (x1 : Int32) (k0 : (kG K a0).1 = 1)  (I : MI) (J : MJ) (B : MR) (Q : MI → Prop) (h : w_J4_append_bf812 a0 x1 I Q) : Con K l yJ4_append_bf812 (wsT yJ4_append_bf812 cJ4_append_bf812 2 (some (.object "java/lang/StringBuilder"))) rm49 [.ref a0, .int x1] (I, J, B) (va_Qr (S := MI) Q (fun u _ t => True ∧ HP K (u, J, B) t.heap) (AA K)) := by
  obtain ⟨t, k, h1, rfl, h2, h3, h4⟩ := h
  exact c_appI4 K hW l a0 k0 I J B t h1 k h2 h3 Q h4
def w_J4_append_15ec4 (a0 : Nat) (j : Nat) (I : MI) (Q : MI → Prop) : Prop := ∃ t, SbT a0 I t ∧ t.length + sL j ≤ 16 ∧ ∀ I', SbT a0 I' (t ++ sT j) → SbF a0 I I' → Q I'
theorem c_J4_append_15ec4 (K : Kx) (hW : WFK K) (l : Launch) (a0 : Nat) (j : Nat) (k0 : (kG K a0).1 = 1) (hj : j < 18) (I : MI) (J : MJ) (B : MR) (Q : MI → Prop) (h : w_J4_append_15ec4 a0 j I Q) : Con K l yJ4_append_15ec4 (wsT yJ4_append_15ec4 cJ4_append_15ec4 2 (some (.object "java/lang/StringBuilder"))) rm115 [.ref a0, .ref (kA K j)] (I, J, B) (va_Qr (S := MI) Q (fun u _ t => True ∧ HP K (u, J, B) t.heap) (AA K)) := by
  obtain ⟨t, h1, h3, h4⟩ := h
  exact c_appS4 K hW l a0 k0 I J B t h1 j hj h3 Q h4
def w_J4_setLength_d00df (a0 : Nat) (x1 : Int32) (I : MI) (Q : MI → Prop) : Prop := x1 = 0 ∧ ∃ t, SbT a0 I t ∧ ∀ I', SbT a0 I' [] → SbF a0 I I' → Q I'
theorem c_J4_setLength_d00df (K : Kx) (hW : WFK K) (l : Launch) (a0 : Nat) (x1 : Int32) (k0 : (kG K a0).1 = 1)  (I : MI) (J : MJ) (B : MR) (Q : MI → Prop) (h : w_J4_setLength_d00df a0 x1 I Q) : Con K l yJ4_setLength_d00df (wsT yJ4_setLength_d00df cJ4_setLength_d00df 2 none) rm2 [.ref a0, .int x1] (I, J, B) (va_Qv (S := MI) Q (fun u t => HP K (u, J, B) t.heap) (AA K)) := by
  obtain ⟨rfl, t, h1, h4⟩ := h
  exact c_setL4 K hW l a0 k0 I J B t h1 Q h4
def w_J4_length_8abf5 (a0 : Nat)  (I : MI) (Q : Int32 → Prop) : Prop := ∃ t, SbT a0 I t ∧ Q (nI t.length)
theorem c_J4_length_8abf5 (K : Kx) (hW : WFK K) (l : Launch) (a0 : Nat)  (k0 : (kG K a0).1 = 1)  (I : MI) (J : MJ) (B : MR) (Q : Int32 → Prop) (h : w_J4_length_8abf5 a0  I Q) : Con K l yJ4_length_8abf5 (wsT yJ4_length_8abf5 cJ4_length_8abf5 1 (some .int)) rm20 [.ref a0] (I, J, B) (va_Qi (S := Unit) (fun r _ => Q r) (fun _ t => HP K (I, J, B) t.heap) (AA K)) := by
  obtain ⟨t, h1, h4⟩ := h
  exact c_len4 K hW l a0 k0 I J B t h1 Q h4
def w_J4_charAt_5068e (a0 : Nat) (x1 : Int32) (I : MI) (Q : Int32 → Prop) : Prop := ∃ t k c, SbT a0 I t ∧ x1 = nI k ∧ t[k]? = some c ∧ Q (nI c)
theorem c_J4_charAt_5068e (K : Kx) (hW : WFK K) (l : Launch) (a0 : Nat) (x1 : Int32) (k0 : (kG K a0).1 = 1)  (I : MI) (J : MJ) (B : MR) (Q : Int32 → Prop) (h : w_J4_charAt_5068e a0 x1 I Q) : Con K l yJ4_charAt_5068e (wsT yJ4_charAt_5068e cJ4_charAt_5068e 2 (some .char)) rm67 [.ref a0, .int x1] (I, J, B) (va_Qi (S := Unit) (fun r _ => Q r) (fun _ t => HP K (I, J, B) t.heap) (AA K)) := by
  obtain ⟨t, k, c, h1, rfl, h2, h4⟩ := h
  exact c_chr4 K hW l a0 k0 I J B t h1 k c h2 Q h4
theorem j_word {K : Kx} {l : Launch} {R : Room} {m : MethodId} {own : String} {cc : ByteArray} {nL : Nat} {H0 : Heap} {ret : Option FieldType} {Qc : Array Value → State → Outcome → State → Prop} {w : HW} {pc : Nat} {L : List (Nat × Value)} {S : List Value} {mem : Mm} (G : Gd l R K m own cc nL H0 ret Qc w) (hW : WFK K) {k index : Nat} {x : Int32} (hk : k < 20) (hx : x = nI k) (h1 : Cond.methodLink own index yX2_wordOf ∈ gw) (hf : 1 ≤ R.frames) (hlo : 20 ≤ R.locals) (hS : (S.map fun v => v.category).sum ≤ 8) (hd : decode cc pc = .ok (.invokestatic index, 3)) (kk : Jg K m nL H0 w (pc + 3) L (.ref (kA K (wdj k)) :: S) mem) : Jg K m nL H0 w pc L (.int x :: S) mem := by
  subst hx
  refine j_cr (rn_S G (n := 1) (As := [.int (nI k)]) (rest := S) (c_word K hW l k hk mem) h1 st_X2_wordOf in_X2 co_X2_wordOf (by decide +kernel) rfl rfl hf hlo rfl rfl hS hd) (fun u b _ hb => ?_)
  subst hb
  exact kk
abbrev rm_X2_writeRegister : Room := { frames := 3, cells := 0, slots := 0, locals := 64 }
def w_X2_writeRegister (a0 : Nat) (x1 : Int32) (I : MI) (Q : MI → Prop) : Prop :=
(w_J4_append_cf468 a0 (32 : Int32) I (fun I2 =>
(w_X2_letterOf x1 (fun r3 =>
(w_J4_append_cf468 a0 r3 I2 (fun I5 =>
Q I5))))))
set_option maxHeartbeats 4000000 in
set_option maxRecDepth 100000 in
theorem c_X2_writeRegister (K : Kx) (hW : WFK K) (l : Launch) (a0 : Nat) (x1 : Int32) (k0 : (kG K a0).1 = 1) (I : MI) (J : MJ) (B : MR) (Q : MI → Prop) (h : w_X2_writeRegister a0 x1 I Q) : Con K l yX2_writeRegister (wsT yX2_writeRegister cX2_writeRegister 2 none) rm_X2_writeRegister [.ref a0, .int x1] (I, J, B) (va_Qv (S := MI) Q (fun u t => HP K (u, J, B) t.heap) (AA K)) := by
  refine Con.ofJ RX2 rfl (by decide) (Nat.le_of_ble_eq_true rfl) (fun m H0 w G => ?_)
  unfold w_X2_writeRegister at h
  show Jg K m 2 H0 w 0 [(0, .ref a0), (1, .int x1)] [] (I, J, B)
  refine j_aload_n G 0 0 dX2_writeRegister_0 rfl rfl ?_
  refine j_bipush G (32 : Int32) dX2_writeRegister_1 (by decide) ?_
  refine j_cr (rn_V G hW (ci := 0) (n := 1) (As := [.int (32 : Int32)]) (rest := []) (c_J4_append_cf468 K hW l a0 (32 : Int32) k0 I J B _ h) k0 (by decide) rfl ml_X2_162 im_J4_append_cf468 se_J4_append_cf468 in_J4 co_J4_append_cf468 rfl (by decide +kernel) rfl rfl (by decide) (by decide) rfl rfl (Nat.le_of_ble_eq_true rfl) dX2_writeRegister_3) (fun I2 r1 h _ => ?_)
  refine j_pop G rfl dX2_writeRegister_6 ?_
  refine j_aload_n G 0 0 dX2_writeRegister_7 rfl rfl ?_
  refine j_iload_n G 1 1 dX2_writeRegister_8 rfl rfl ?_
  refine j_ci (rn_S G (n := 1) (As := [.int x1]) (rest := [.ref a0]) (c_X2_letterOf K hW l x1 I2 J B _ h) ml_X2_165 st_X2_letterOf in_X2 co_X2_letterOf (by decide +kernel) rfl rfl (by decide) (by decide) rfl rfl (Nat.le_of_ble_eq_true rfl) dX2_writeRegister_9) (fun r3 _ h => ?_)
  refine j_cr (rn_V G hW (ci := 0) (n := 1) (As := [.int r3]) (rest := []) (c_J4_append_cf468 K hW l a0 r3 k0 I2 J B _ h) k0 (by decide) rfl ml_X2_162 im_J4_append_cf468 se_J4_append_cf468 in_J4 co_J4_append_cf468 rfl (by decide +kernel) rfl rfl (by decide) (by decide) rfl rfl (Nat.le_of_ble_eq_true rfl) dX2_writeRegister_12) (fun I5 r4 h _ => ?_)
  refine j_pop G rfl dX2_writeRegister_15 ?_
  exact j_retv G I5 dX2_writeRegister_16 h rfl
abbrev rm_X2_writeNumber : Room := { frames := 3, cells := 0, slots := 0, locals := 70 }
def w_X2_writeNumber (a0 : Nat) (x1 : Int32) (I : MI) (Q : MI → Prop) : Prop :=
(w_J4_append_cf468 a0 (32 : Int32) I (fun I2 =>
(w_J4_append_bf812 a0 x1 I2 (fun I4 =>
Q I4))))
set_option maxHeartbeats 4000000 in
set_option maxRecDepth 100000 in
theorem c_X2_writeNumber (K : Kx) (hW : WFK K) (l : Launch) (a0 : Nat) (x1 : Int32) (k0 : (kG K a0).1 = 1) (I : MI) (J : MJ) (B : MR) (Q : MI → Prop) (h : w_X2_writeNumber a0 x1 I Q) : Con K l yX2_writeNumber (wsT yX2_writeNumber cX2_writeNumber 2 none) rm_X2_writeNumber [.ref a0, .int x1] (I, J, B) (va_Qv (S := MI) Q (fun u t => HP K (u, J, B) t.heap) (AA K)) := by
  refine Con.ofJ RX2 rfl (by decide) (Nat.le_of_ble_eq_true rfl) (fun m H0 w G => ?_)
  unfold w_X2_writeNumber at h
  show Jg K m 2 H0 w 0 [(0, .ref a0), (1, .int x1)] [] (I, J, B)
  refine j_aload_n G 0 0 dX2_writeNumber_0 rfl rfl ?_
  refine j_bipush G (32 : Int32) dX2_writeNumber_1 (by decide) ?_
  refine j_cr (rn_V G hW (ci := 0) (n := 1) (As := [.int (32 : Int32)]) (rest := []) (c_J4_append_cf468 K hW l a0 (32 : Int32) k0 I J B _ h) k0 (by decide) rfl ml_X2_162 im_J4_append_cf468 se_J4_append_cf468 in_J4 co_J4_append_cf468 rfl (by decide +kernel) rfl rfl (by decide) (by decide) rfl rfl (Nat.le_of_ble_eq_true rfl) dX2_writeNumber_3) (fun I2 r1 h _ => ?_)
  refine j_pop G rfl dX2_writeNumber_6 ?_
  refine j_aload_n G 0 0 dX2_writeNumber_7 rfl rfl ?_
  refine j_iload_n G 1 1 dX2_writeNumber_8 rfl rfl ?_
  refine j_cr (rn_V G hW (ci := 0) (n := 1) (As := [.int x1]) (rest := []) (c_J4_append_bf812 K hW l a0 x1 k0 I2 J B _ h) k0 (by decide) rfl ml_X2_169 im_J4_append_bf812 se_J4_append_bf812 in_J4 co_J4_append_bf812 rfl (by decide +kernel) rfl rfl (by decide) (by decide) rfl rfl (Nat.le_of_ble_eq_true rfl) dX2_writeNumber_9) (fun I4 r3 h _ => ?_)
  refine j_pop G rfl dX2_writeNumber_12 ?_
  exact j_retv G I4 dX2_writeNumber_13 h rfl
abbrev rm_X2_write : Room := { frames := 5, cells := 0, slots := 0, locals := 136 }
def w_X2_write (a0 : Nat) (a1 : Nat) (x2 : Int32) (x3 : Int32) (x4 : Int32) (I : MI) (Q : MI → Prop) : Prop :=
(vp_in x3 25 ∧
(w_X2_kindOf a0 x2 x3 x4 I (fun r4 =>
(∃ k5, k5 < 20 ∧ r4 = nI k5 ∧
(w_J4_append_15ec4 a1 (wdj k5) I (fun I7 =>
((r4 = (0 : Int32) → (w_X2_writeRegister a1 (I7 (a0 + 9 + ix x3) 1) I7 (fun I8 =>
(w_X2_writeNumber a1 (I8 (a0 + 9 + ix x3) 4) I8 (fun I9 =>
Q I9))))) ∧
(r4 = (1 : Int32) ∨ r4 = (2 : Int32) ∨ r4 = (3 : Int32) → (w_X2_writeRegister a1 (I7 (a0 + 9 + ix x3) 1) I7 (fun I10 =>
(w_X2_writeRegister a1 (I10 (a0 + 9 + ix x3) 2) I10 (fun I11 =>
(w_X2_writeRegister a1 (I11 (a0 + 9 + ix x3) 3) I11 (fun I12 =>
Q I12))))))) ∧
(r4 = (8 : Int32) → Q I7) ∧
(r4 = (9 : Int32) → (w_X2_sentAt a0 x3 x4 I7 (fun r13 =>
(w_X2_writeRegister a1 r13 I7 (fun I14 =>
Q I14))))) ∧
(r4 = (10 : Int32) ∨ r4 = (13 : Int32) → (w_X2_writeRegister a1 (I7 (a0 + 9 + ix x3) 1) I7 (fun I15 =>
(w_X2_writeRegister a1 (I15 (a0 + 9 + ix x3) 2) I15 (fun I16 =>
(w_X2_writeNumber a1 (I16 (a0 + 9 + ix x3) 4) I16 (fun I17 =>
Q I17))))))) ∧
(r4 = (11 : Int32) ∨ r4 = (14 : Int32) → (w_X2_writeRegister a1 (I7 (a0 + 9 + ix x3) 2) I7 (fun I18 =>
(w_X2_writeNumber a1 (I18 (a0 + 9 + ix x3) 4) I18 (fun I19 =>
Q I19))))) ∧
(r4 = (12 : Int32) ∨ r4 = (15 : Int32) → (w_X2_writeRegister a1 (I7 (a0 + 9 + ix x3) 1) I7 (fun I20 =>
Q I20))) ∧
(r4 = (16 : Int32) ∨ r4 = (19 : Int32) → (w_X2_writeRegister a1 (I7 (a0 + 9 + ix x3) 2) I7 (fun I21 =>
(w_J4_append_cf468 a1 (I21 (a0 + 9 + ix x3) 5) I21 (fun I23 =>
(w_X2_letterOf (I23 (a0 + 9 + ix x3) 3) (fun r24 =>
(w_J4_append_cf468 a1 r24 I23 (fun I26 =>
(w_X2_writeNumber a1 (I26 (a0 + 9 + ix x3) 4) I26 (fun I27 =>
Q I27))))))))))) ∧
(¬ r4 = (0 : Int32) → ¬ r4 = (1 : Int32) → ¬ r4 = (2 : Int32) → ¬ r4 = (3 : Int32) → ¬ r4 = (8 : Int32) → ¬ r4 = (9 : Int32) → ¬ r4 = (10 : Int32) → ¬ r4 = (11 : Int32) → ¬ r4 = (12 : Int32) → ¬ r4 = (13 : Int32) → ¬ r4 = (14 : Int32) → ¬ r4 = (15 : Int32) → ¬ r4 = (16 : Int32) → ¬ r4 = (19 : Int32) → (w_X2_writeNumber a1 (I7 (a0 + 9 + ix x3) 4) I7 (fun I28 =>
Q I28))))))))))
set_option maxHeartbeats 4000000 in
set_option maxRecDepth 100000 in
theorem c_X2_write (K : Kx) (hW : WFK K) (l : Launch) (a0 : Nat) (a1 : Nat) (x2 : Int32) (x3 : Int32) (x4 : Int32) (k0 : (kG K a0).1 = 4) (k1 : (kG K a1).1 = 1) (I : MI) (J : MJ) (B : MR) (Q : MI → Prop) (h : w_X2_write a0 a1 x2 x3 x4 I Q) : Con K l yX2_write (wsT yX2_write cX2_write 7 none) rm_X2_write [.ref a0, .ref a1, .int x2, .int x3, .int x4] (I, J, B) (va_Qv (S := MI) Q (fun u t => HP K (u, J, B) t.heap) (AA K)) := by
  refine Con.ofJ RX2 rfl (by decide) (Nat.le_of_ble_eq_true rfl) (fun m H0 w G => ?_)
  unfold w_X2_write at h
  show Jg K m 7 H0 w 0 [(0, .ref a0), (1, .ref a1), (2, .int x2), (3, .int x3), (4, .int x4)] [] (I, J, B)
  refine j_aload_n G 0 0 dX2_write_0 rfl rfl ?_
  have kk1 : kG K (a0 + 1) = (24, 25) := wk_4_1 hW k0
  refine j_get G hW 3 0 4 (.ref (a0 + 1)) k0 (by decide) rfl (by decide) rfl lay_X2 fl_X2_11 rfl rfl dX2_write_1 ?_
  refine j_iload_n G 3 3 dX2_write_4 rfl rfl ?_
  obtain ⟨b2, h⟩ := h
  have kk3 : (kG K (a0 + 9 + ix x3)).1 = 2 := wk_a24 (i := x3) hW kk1 b2 (ad3 rfl)
  refine j_aald24 G hW (i := x3) (b := a0 + 9 + ix x3) kk1 b2 (ad3 rfl) dX2_write_5 ?_
  refine j_astore G [(5, .ref (a0 + 9 + ix x3)), (0, .ref a0), (1, .ref a1), (2, .int x2), (3, .int x3), (4, .int x4)] dX2_write_6 (by decide) rfl ?_
  refine j_aload_n G 1 0 dX2_write_8 rfl rfl ?_
  refine j_iload_n G 3 2 dX2_write_9 rfl rfl ?_
  refine j_iload_n G 4 3 dX2_write_10 rfl rfl ?_
  refine j_iload G 5 dX2_write_11 rfl ?_
  refine j_ci (rn_V G hW (ci := 3) (n := 3) (As := [.int x2, .int x3, .int x4]) (rest := []) (c_X2_kindOf K hW l a0 x2 x3 x4 k0 I J B _ h) k0 (by decide) rfl ml_X2_132 im_X2_kindOf se_X2_kindOf in_X2 co_X2_kindOf rfl (by decide +kernel) rfl rfl (by decide) (by decide) rfl rfl (Nat.le_of_ble_eq_true rfl) dX2_write_13) (fun r4 _ h => ?_)
  refine j_istore G [(6, .int r4), (5, .ref (a0 + 9 + ix x3)), (0, .ref a0), (1, .ref a1), (2, .int x2), (3, .int x3), (4, .int x4)] dX2_write_16 (by decide) rfl ?_
  refine j_aload_n G 3 1 dX2_write_18 rfl rfl ?_
  refine j_iload G 0 dX2_write_19 rfl ?_
  obtain ⟨k5, hk5, ek5, h⟩ := h
  refine j_word G hW hk5 ek5 ml_X2_135 (by decide) (by decide) (Nat.le_of_ble_eq_true rfl) dX2_write_21 ?_
  refine j_cr (rn_V G hW (ci := 0) (n := 1) (As := [.ref (kA K (wdj k5))]) (rest := []) (c_J4_append_15ec4 K hW l a1 (wdj k5) k1 (wdj_lt k5 hk5).2 I J B _ h) k1 (by decide) rfl ml_X2_139 im_J4_append_15ec4 se_J4_append_15ec4 in_J4 co_J4_append_15ec4 rfl (by decide +kernel) rfl rfl (by decide) (by decide) rfl rfl (Nat.le_of_ble_eq_true rfl) dX2_write_24) (fun I7 r6 h _ => ?_)
  refine j_pop G rfl dX2_write_27 ?_
  refine j_iload G 0 dX2_write_28 rfl ?_
  by_cases c29 : r4 = (0 : Int32)
  · have h := h.1 (c29)
    refine j_tableIn G 150 dX2_write_30 (by rw [c29]; decide) (by rw [c29]; decide) (by rw [c29] <;> rfl) (by decide) ?_
    refine j_aload_n G 3 1 dX2_write_150 rfl rfl ?_
    refine j_aload G 1 dX2_write_151 rfl ?_
    refine j_get G hW 1 1 0 (.int (I7 (a0 + 9 + ix x3) 1)) kk3 (by decide) rfl (by decide) rfl lay_X0 fl_X2_93 rfl rfl dX2_write_153 ?_
    refine j_cv (rn_S G (n := 2) (As := [.ref a1, .int (I7 (a0 + 9 + ix x3) 1)]) (rest := []) (c_X2_writeRegister K hW l a1 (I7 (a0 + 9 + ix x3) 1) k1 I7 J B _ h) ml_X2_148 st_X2_writeRegister in_X2 co_X2_writeRegister (by decide +kernel) rfl rfl (by decide) (by decide) rfl rfl (Nat.le_of_ble_eq_true rfl) dX2_write_156) (fun I8 h => ?_)
    refine j_aload_n G 3 1 dX2_write_159 rfl rfl ?_
    refine j_aload G 1 dX2_write_160 rfl ?_
    refine j_get G hW 1 4 0 (.int (I8 (a0 + 9 + ix x3) 4)) kk3 (by decide) rfl (by decide) rfl lay_X0 fl_X2_152 rfl rfl dX2_write_162 ?_
    refine j_cv (rn_S G (n := 2) (As := [.ref a1, .int (I8 (a0 + 9 + ix x3) 4)]) (rest := []) (c_X2_writeNumber K hW l a1 (I8 (a0 + 9 + ix x3) 4) k1 I8 J B _ h) ml_X2_155 st_X2_writeNumber in_X2 co_X2_writeNumber (by decide +kernel) rfl rfl (by decide) (by decide) rfl rfl (Nat.le_of_ble_eq_true rfl) dX2_write_165) (fun I9 h => ?_)
    refine j_goto G 308 dX2_write_168 (by decide) ?_
    exact j_retv G I9 dX2_write_308 h rfl
  · skip
    by_cases c30 : r4 = (1 : Int32)
    · have h := h.2.1 (Or.inl c30)
      refine j_tableIn G 171 dX2_write_30 (by rw [c30]; decide) (by rw [c30]; decide) (by rw [c30] <;> rfl) (by decide) ?_
      refine j_aload_n G 3 1 dX2_write_171 rfl rfl ?_
      refine j_aload G 1 dX2_write_172 rfl ?_
      refine j_get G hW 1 1 0 (.int (I7 (a0 + 9 + ix x3) 1)) kk3 (by decide) rfl (by decide) rfl lay_X0 fl_X2_93 rfl rfl dX2_write_174 ?_
      refine j_cv (rn_S G (n := 2) (As := [.ref a1, .int (I7 (a0 + 9 + ix x3) 1)]) (rest := []) (c_X2_writeRegister K hW l a1 (I7 (a0 + 9 + ix x3) 1) k1 I7 J B _ h) ml_X2_148 st_X2_writeRegister in_X2 co_X2_writeRegister (by decide +kernel) rfl rfl (by decide) (by decide) rfl rfl (Nat.le_of_ble_eq_true rfl) dX2_write_177) (fun I10 h => ?_)
      refine j_aload_n G 3 1 dX2_write_180 rfl rfl ?_
      refine j_aload G 1 dX2_write_181 rfl ?_
      refine j_get G hW 1 2 0 (.int (I10 (a0 + 9 + ix x3) 2)) kk3 (by decide) rfl (by decide) rfl lay_X0 fl_X2_82 rfl rfl dX2_write_183 ?_
      refine j_cv (rn_S G (n := 2) (As := [.ref a1, .int (I10 (a0 + 9 + ix x3) 2)]) (rest := []) (c_X2_writeRegister K hW l a1 (I10 (a0 + 9 + ix x3) 2) k1 I10 J B _ h) ml_X2_148 st_X2_writeRegister in_X2 co_X2_writeRegister (by decide +kernel) rfl rfl (by decide) (by decide) rfl rfl (Nat.le_of_ble_eq_true rfl) dX2_write_186) (fun I11 h => ?_)
      refine j_aload_n G 3 1 dX2_write_189 rfl rfl ?_
      refine j_aload G 1 dX2_write_190 rfl ?_
      refine j_get G hW 1 3 0 (.int (I11 (a0 + 9 + ix x3) 3)) kk3 (by decide) rfl (by decide) rfl lay_X0 fl_X2_100 rfl rfl dX2_write_192 ?_
      refine j_cv (rn_S G (n := 2) (As := [.ref a1, .int (I11 (a0 + 9 + ix x3) 3)]) (rest := []) (c_X2_writeRegister K hW l a1 (I11 (a0 + 9 + ix x3) 3) k1 I11 J B _ h) ml_X2_148 st_X2_writeRegister in_X2 co_X2_writeRegister (by decide +kernel) rfl rfl (by decide) (by decide) rfl rfl (Nat.le_of_ble_eq_true rfl) dX2_write_195) (fun I12 h => ?_)
      refine j_goto G 308 dX2_write_198 (by decide) ?_
      exact j_retv G I12 dX2_write_308 h rfl
    · skip
      by_cases c31 : r4 = (2 : Int32)
      · have h := h.2.1 (Or.inr (Or.inl c31))
        refine j_tableIn G 171 dX2_write_30 (by rw [c31]; decide) (by rw [c31]; decide) (by rw [c31] <;> rfl) (by decide) ?_
        refine j_aload_n G 3 1 dX2_write_171 rfl rfl ?_
        refine j_aload G 1 dX2_write_172 rfl ?_
        refine j_get G hW 1 1 0 (.int (I7 (a0 + 9 + ix x3) 1)) kk3 (by decide) rfl (by decide) rfl lay_X0 fl_X2_93 rfl rfl dX2_write_174 ?_
        refine j_cv (rn_S G (n := 2) (As := [.ref a1, .int (I7 (a0 + 9 + ix x3) 1)]) (rest := []) (c_X2_writeRegister K hW l a1 (I7 (a0 + 9 + ix x3) 1) k1 I7 J B _ h) ml_X2_148 st_X2_writeRegister in_X2 co_X2_writeRegister (by decide +kernel) rfl rfl (by decide) (by decide) rfl rfl (Nat.le_of_ble_eq_true rfl) dX2_write_177) (fun I10 h => ?_)
        refine j_aload_n G 3 1 dX2_write_180 rfl rfl ?_
        refine j_aload G 1 dX2_write_181 rfl ?_
        refine j_get G hW 1 2 0 (.int (I10 (a0 + 9 + ix x3) 2)) kk3 (by decide) rfl (by decide) rfl lay_X0 fl_X2_82 rfl rfl dX2_write_183 ?_
        refine j_cv (rn_S G (n := 2) (As := [.ref a1, .int (I10 (a0 + 9 + ix x3) 2)]) (rest := []) (c_X2_writeRegister K hW l a1 (I10 (a0 + 9 + ix x3) 2) k1 I10 J B _ h) ml_X2_148 st_X2_writeRegister in_X2 co_X2_writeRegister (by decide +kernel) rfl rfl (by decide) (by decide) rfl rfl (Nat.le_of_ble_eq_true rfl) dX2_write_186) (fun I11 h => ?_)
        refine j_aload_n G 3 1 dX2_write_189 rfl rfl ?_
        refine j_aload G 1 dX2_write_190 rfl ?_
        refine j_get G hW 1 3 0 (.int (I11 (a0 + 9 + ix x3) 3)) kk3 (by decide) rfl (by decide) rfl lay_X0 fl_X2_100 rfl rfl dX2_write_192 ?_
        refine j_cv (rn_S G (n := 2) (As := [.ref a1, .int (I11 (a0 + 9 + ix x3) 3)]) (rest := []) (c_X2_writeRegister K hW l a1 (I11 (a0 + 9 + ix x3) 3) k1 I11 J B _ h) ml_X2_148 st_X2_writeRegister in_X2 co_X2_writeRegister (by decide +kernel) rfl rfl (by decide) (by decide) rfl rfl (Nat.le_of_ble_eq_true rfl) dX2_write_195) (fun I12 h => ?_)
        refine j_goto G 308 dX2_write_198 (by decide) ?_
        exact j_retv G I12 dX2_write_308 h rfl
      · skip
        by_cases c32 : r4 = (3 : Int32)
        · have h := h.2.1 (Or.inr (Or.inr (c32)))
          refine j_tableIn G 171 dX2_write_30 (by rw [c32]; decide) (by rw [c32]; decide) (by rw [c32] <;> rfl) (by decide) ?_
          refine j_aload_n G 3 1 dX2_write_171 rfl rfl ?_
          refine j_aload G 1 dX2_write_172 rfl ?_
          refine j_get G hW 1 1 0 (.int (I7 (a0 + 9 + ix x3) 1)) kk3 (by decide) rfl (by decide) rfl lay_X0 fl_X2_93 rfl rfl dX2_write_174 ?_
          refine j_cv (rn_S G (n := 2) (As := [.ref a1, .int (I7 (a0 + 9 + ix x3) 1)]) (rest := []) (c_X2_writeRegister K hW l a1 (I7 (a0 + 9 + ix x3) 1) k1 I7 J B _ h) ml_X2_148 st_X2_writeRegister in_X2 co_X2_writeRegister (by decide +kernel) rfl rfl (by decide) (by decide) rfl rfl (Nat.le_of_ble_eq_true rfl) dX2_write_177) (fun I10 h => ?_)
          refine j_aload_n G 3 1 dX2_write_180 rfl rfl ?_
          refine j_aload G 1 dX2_write_181 rfl ?_
          refine j_get G hW 1 2 0 (.int (I10 (a0 + 9 + ix x3) 2)) kk3 (by decide) rfl (by decide) rfl lay_X0 fl_X2_82 rfl rfl dX2_write_183 ?_
          refine j_cv (rn_S G (n := 2) (As := [.ref a1, .int (I10 (a0 + 9 + ix x3) 2)]) (rest := []) (c_X2_writeRegister K hW l a1 (I10 (a0 + 9 + ix x3) 2) k1 I10 J B _ h) ml_X2_148 st_X2_writeRegister in_X2 co_X2_writeRegister (by decide +kernel) rfl rfl (by decide) (by decide) rfl rfl (Nat.le_of_ble_eq_true rfl) dX2_write_186) (fun I11 h => ?_)
          refine j_aload_n G 3 1 dX2_write_189 rfl rfl ?_
          refine j_aload G 1 dX2_write_190 rfl ?_
          refine j_get G hW 1 3 0 (.int (I11 (a0 + 9 + ix x3) 3)) kk3 (by decide) rfl (by decide) rfl lay_X0 fl_X2_100 rfl rfl dX2_write_192 ?_
          refine j_cv (rn_S G (n := 2) (As := [.ref a1, .int (I11 (a0 + 9 + ix x3) 3)]) (rest := []) (c_X2_writeRegister K hW l a1 (I11 (a0 + 9 + ix x3) 3) k1 I11 J B _ h) ml_X2_148 st_X2_writeRegister in_X2 co_X2_writeRegister (by decide +kernel) rfl rfl (by decide) (by decide) rfl rfl (Nat.le_of_ble_eq_true rfl) dX2_write_195) (fun I12 h => ?_)
          refine j_goto G 308 dX2_write_198 (by decide) ?_
          exact j_retv G I12 dX2_write_308 h rfl
        · skip
          by_cases c33 : r4 = (8 : Int32)
          · have h := h.2.2.1 (c33)
            refine j_tableIn G 296 dX2_write_30 (by rw [c33]; decide) (by rw [c33]; decide) (by rw [c33] <;> rfl) (by decide) ?_
            refine j_goto G 308 dX2_write_296 (by decide) ?_
            exact j_retv G I7 dX2_write_308 h rfl
          · skip
            by_cases c34 : r4 = (9 : Int32)
            · have h := h.2.2.2.1 (c34)
              refine j_tableIn G 124 dX2_write_30 (by rw [c34]; decide) (by rw [c34]; decide) (by rw [c34] <;> rfl) (by decide) ?_
              refine j_aload_n G 3 1 dX2_write_124 rfl rfl ?_
              refine j_aload_n G 2 0 dX2_write_125 rfl rfl ?_
              refine j_iload_n G 5 3 dX2_write_126 rfl rfl ?_
              refine j_iload G 6 dX2_write_127 rfl ?_
              refine j_ci (rn_V G hW (ci := 3) (n := 2) (As := [.int x3, .int x4]) (rest := [.ref a1]) (c_X2_sentAt K hW l a0 x3 x4 k0 I7 J B _ h) k0 (by decide) rfl ml_X2_145 im_X2_sentAt se_X2_sentAt in_X2 co_X2_sentAt rfl (by decide +kernel) rfl rfl (by decide) (by decide) rfl rfl (Nat.le_of_ble_eq_true rfl) dX2_write_129) (fun r13 _ h => ?_)
              refine j_cv (rn_S G (n := 2) (As := [.ref a1, .int r13]) (rest := []) (c_X2_writeRegister K hW l a1 r13 k1 I7 J B _ h) ml_X2_148 st_X2_writeRegister in_X2 co_X2_writeRegister (by decide +kernel) rfl rfl (by decide) (by decide) rfl rfl (Nat.le_of_ble_eq_true rfl) dX2_write_132) (fun I14 h => ?_)
              refine j_goto G 308 dX2_write_135 (by decide) ?_
              exact j_retv G I14 dX2_write_308 h rfl
            · skip
              by_cases c35 : r4 = (10 : Int32)
              · have h := h.2.2.2.2.1 (Or.inl c35)
                refine j_tableIn G 201 dX2_write_30 (by rw [c35]; decide) (by rw [c35]; decide) (by rw [c35] <;> rfl) (by decide) ?_
                refine j_aload_n G 3 1 dX2_write_201 rfl rfl ?_
                refine j_aload G 1 dX2_write_202 rfl ?_
                refine j_get G hW 1 1 0 (.int (I7 (a0 + 9 + ix x3) 1)) kk3 (by decide) rfl (by decide) rfl lay_X0 fl_X2_93 rfl rfl dX2_write_204 ?_
                refine j_cv (rn_S G (n := 2) (As := [.ref a1, .int (I7 (a0 + 9 + ix x3) 1)]) (rest := []) (c_X2_writeRegister K hW l a1 (I7 (a0 + 9 + ix x3) 1) k1 I7 J B _ h) ml_X2_148 st_X2_writeRegister in_X2 co_X2_writeRegister (by decide +kernel) rfl rfl (by decide) (by decide) rfl rfl (Nat.le_of_ble_eq_true rfl) dX2_write_207) (fun I15 h => ?_)
                refine j_aload_n G 3 1 dX2_write_210 rfl rfl ?_
                refine j_aload G 1 dX2_write_211 rfl ?_
                refine j_get G hW 1 2 0 (.int (I15 (a0 + 9 + ix x3) 2)) kk3 (by decide) rfl (by decide) rfl lay_X0 fl_X2_82 rfl rfl dX2_write_213 ?_
                refine j_cv (rn_S G (n := 2) (As := [.ref a1, .int (I15 (a0 + 9 + ix x3) 2)]) (rest := []) (c_X2_writeRegister K hW l a1 (I15 (a0 + 9 + ix x3) 2) k1 I15 J B _ h) ml_X2_148 st_X2_writeRegister in_X2 co_X2_writeRegister (by decide +kernel) rfl rfl (by decide) (by decide) rfl rfl (Nat.le_of_ble_eq_true rfl) dX2_write_216) (fun I16 h => ?_)
                refine j_aload_n G 3 1 dX2_write_219 rfl rfl ?_
                refine j_aload G 1 dX2_write_220 rfl ?_
                refine j_get G hW 1 4 0 (.int (I16 (a0 + 9 + ix x3) 4)) kk3 (by decide) rfl (by decide) rfl lay_X0 fl_X2_152 rfl rfl dX2_write_222 ?_
                refine j_cv (rn_S G (n := 2) (As := [.ref a1, .int (I16 (a0 + 9 + ix x3) 4)]) (rest := []) (c_X2_writeNumber K hW l a1 (I16 (a0 + 9 + ix x3) 4) k1 I16 J B _ h) ml_X2_155 st_X2_writeNumber in_X2 co_X2_writeNumber (by decide +kernel) rfl rfl (by decide) (by decide) rfl rfl (Nat.le_of_ble_eq_true rfl) dX2_write_225) (fun I17 h => ?_)
                refine j_goto G 308 dX2_write_228 (by decide) ?_
                exact j_retv G I17 dX2_write_308 h rfl
              · skip
                by_cases c36 : r4 = (11 : Int32)
                · have h := h.2.2.2.2.2.1 (Or.inl c36)
                  refine j_tableIn G 231 dX2_write_30 (by rw [c36]; decide) (by rw [c36]; decide) (by rw [c36] <;> rfl) (by decide) ?_
                  refine j_aload_n G 3 1 dX2_write_231 rfl rfl ?_
                  refine j_aload G 1 dX2_write_232 rfl ?_
                  refine j_get G hW 1 2 0 (.int (I7 (a0 + 9 + ix x3) 2)) kk3 (by decide) rfl (by decide) rfl lay_X0 fl_X2_82 rfl rfl dX2_write_234 ?_
                  refine j_cv (rn_S G (n := 2) (As := [.ref a1, .int (I7 (a0 + 9 + ix x3) 2)]) (rest := []) (c_X2_writeRegister K hW l a1 (I7 (a0 + 9 + ix x3) 2) k1 I7 J B _ h) ml_X2_148 st_X2_writeRegister in_X2 co_X2_writeRegister (by decide +kernel) rfl rfl (by decide) (by decide) rfl rfl (Nat.le_of_ble_eq_true rfl) dX2_write_237) (fun I18 h => ?_)
                  refine j_aload_n G 3 1 dX2_write_240 rfl rfl ?_
                  refine j_aload G 1 dX2_write_241 rfl ?_
                  refine j_get G hW 1 4 0 (.int (I18 (a0 + 9 + ix x3) 4)) kk3 (by decide) rfl (by decide) rfl lay_X0 fl_X2_152 rfl rfl dX2_write_243 ?_
                  refine j_cv (rn_S G (n := 2) (As := [.ref a1, .int (I18 (a0 + 9 + ix x3) 4)]) (rest := []) (c_X2_writeNumber K hW l a1 (I18 (a0 + 9 + ix x3) 4) k1 I18 J B _ h) ml_X2_155 st_X2_writeNumber in_X2 co_X2_writeNumber (by decide +kernel) rfl rfl (by decide) (by decide) rfl rfl (Nat.le_of_ble_eq_true rfl) dX2_write_246) (fun I19 h => ?_)
                  refine j_goto G 308 dX2_write_249 (by decide) ?_
                  exact j_retv G I19 dX2_write_308 h rfl
                · skip
                  by_cases c37 : r4 = (12 : Int32)
                  · have h := h.2.2.2.2.2.2.1 (Or.inl c37)
                    refine j_tableIn G 138 dX2_write_30 (by rw [c37]; decide) (by rw [c37]; decide) (by rw [c37] <;> rfl) (by decide) ?_
                    refine j_aload_n G 3 1 dX2_write_138 rfl rfl ?_
                    refine j_aload G 1 dX2_write_139 rfl ?_
                    refine j_get G hW 1 1 0 (.int (I7 (a0 + 9 + ix x3) 1)) kk3 (by decide) rfl (by decide) rfl lay_X0 fl_X2_93 rfl rfl dX2_write_141 ?_
                    refine j_cv (rn_S G (n := 2) (As := [.ref a1, .int (I7 (a0 + 9 + ix x3) 1)]) (rest := []) (c_X2_writeRegister K hW l a1 (I7 (a0 + 9 + ix x3) 1) k1 I7 J B _ h) ml_X2_148 st_X2_writeRegister in_X2 co_X2_writeRegister (by decide +kernel) rfl rfl (by decide) (by decide) rfl rfl (Nat.le_of_ble_eq_true rfl) dX2_write_144) (fun I20 h => ?_)
                    refine j_goto G 308 dX2_write_147 (by decide) ?_
                    exact j_retv G I20 dX2_write_308 h rfl
                  · skip
                    by_cases c38 : r4 = (13 : Int32)
                    · have h := h.2.2.2.2.1 (Or.inr (c38))
                      refine j_tableIn G 201 dX2_write_30 (by rw [c38]; decide) (by rw [c38]; decide) (by rw [c38] <;> rfl) (by decide) ?_
                      refine j_aload_n G 3 1 dX2_write_201 rfl rfl ?_
                      refine j_aload G 1 dX2_write_202 rfl ?_
                      refine j_get G hW 1 1 0 (.int (I7 (a0 + 9 + ix x3) 1)) kk3 (by decide) rfl (by decide) rfl lay_X0 fl_X2_93 rfl rfl dX2_write_204 ?_
                      refine j_cv (rn_S G (n := 2) (As := [.ref a1, .int (I7 (a0 + 9 + ix x3) 1)]) (rest := []) (c_X2_writeRegister K hW l a1 (I7 (a0 + 9 + ix x3) 1) k1 I7 J B _ h) ml_X2_148 st_X2_writeRegister in_X2 co_X2_writeRegister (by decide +kernel) rfl rfl (by decide) (by decide) rfl rfl (Nat.le_of_ble_eq_true rfl) dX2_write_207) (fun I15 h => ?_)
                      refine j_aload_n G 3 1 dX2_write_210 rfl rfl ?_
                      refine j_aload G 1 dX2_write_211 rfl ?_
                      refine j_get G hW 1 2 0 (.int (I15 (a0 + 9 + ix x3) 2)) kk3 (by decide) rfl (by decide) rfl lay_X0 fl_X2_82 rfl rfl dX2_write_213 ?_
                      refine j_cv (rn_S G (n := 2) (As := [.ref a1, .int (I15 (a0 + 9 + ix x3) 2)]) (rest := []) (c_X2_writeRegister K hW l a1 (I15 (a0 + 9 + ix x3) 2) k1 I15 J B _ h) ml_X2_148 st_X2_writeRegister in_X2 co_X2_writeRegister (by decide +kernel) rfl rfl (by decide) (by decide) rfl rfl (Nat.le_of_ble_eq_true rfl) dX2_write_216) (fun I16 h => ?_)
                      refine j_aload_n G 3 1 dX2_write_219 rfl rfl ?_
                      refine j_aload G 1 dX2_write_220 rfl ?_
                      refine j_get G hW 1 4 0 (.int (I16 (a0 + 9 + ix x3) 4)) kk3 (by decide) rfl (by decide) rfl lay_X0 fl_X2_152 rfl rfl dX2_write_222 ?_
                      refine j_cv (rn_S G (n := 2) (As := [.ref a1, .int (I16 (a0 + 9 + ix x3) 4)]) (rest := []) (c_X2_writeNumber K hW l a1 (I16 (a0 + 9 + ix x3) 4) k1 I16 J B _ h) ml_X2_155 st_X2_writeNumber in_X2 co_X2_writeNumber (by decide +kernel) rfl rfl (by decide) (by decide) rfl rfl (Nat.le_of_ble_eq_true rfl) dX2_write_225) (fun I17 h => ?_)
                      refine j_goto G 308 dX2_write_228 (by decide) ?_
                      exact j_retv G I17 dX2_write_308 h rfl
                    · skip
                      by_cases c39 : r4 = (14 : Int32)
                      · have h := h.2.2.2.2.2.1 (Or.inr (c39))
                        refine j_tableIn G 231 dX2_write_30 (by rw [c39]; decide) (by rw [c39]; decide) (by rw [c39] <;> rfl) (by decide) ?_
                        refine j_aload_n G 3 1 dX2_write_231 rfl rfl ?_
                        refine j_aload G 1 dX2_write_232 rfl ?_
                        refine j_get G hW 1 2 0 (.int (I7 (a0 + 9 + ix x3) 2)) kk3 (by decide) rfl (by decide) rfl lay_X0 fl_X2_82 rfl rfl dX2_write_234 ?_
                        refine j_cv (rn_S G (n := 2) (As := [.ref a1, .int (I7 (a0 + 9 + ix x3) 2)]) (rest := []) (c_X2_writeRegister K hW l a1 (I7 (a0 + 9 + ix x3) 2) k1 I7 J B _ h) ml_X2_148 st_X2_writeRegister in_X2 co_X2_writeRegister (by decide +kernel) rfl rfl (by decide) (by decide) rfl rfl (Nat.le_of_ble_eq_true rfl) dX2_write_237) (fun I18 h => ?_)
                        refine j_aload_n G 3 1 dX2_write_240 rfl rfl ?_
                        refine j_aload G 1 dX2_write_241 rfl ?_
                        refine j_get G hW 1 4 0 (.int (I18 (a0 + 9 + ix x3) 4)) kk3 (by decide) rfl (by decide) rfl lay_X0 fl_X2_152 rfl rfl dX2_write_243 ?_
                        refine j_cv (rn_S G (n := 2) (As := [.ref a1, .int (I18 (a0 + 9 + ix x3) 4)]) (rest := []) (c_X2_writeNumber K hW l a1 (I18 (a0 + 9 + ix x3) 4) k1 I18 J B _ h) ml_X2_155 st_X2_writeNumber in_X2 co_X2_writeNumber (by decide +kernel) rfl rfl (by decide) (by decide) rfl rfl (Nat.le_of_ble_eq_true rfl) dX2_write_246) (fun I19 h => ?_)
                        refine j_goto G 308 dX2_write_249 (by decide) ?_
                        exact j_retv G I19 dX2_write_308 h rfl
                      · skip
                        by_cases c40 : r4 = (15 : Int32)
                        · have h := h.2.2.2.2.2.2.1 (Or.inr (c40))
                          refine j_tableIn G 138 dX2_write_30 (by rw [c40]; decide) (by rw [c40]; decide) (by rw [c40] <;> rfl) (by decide) ?_
                          refine j_aload_n G 3 1 dX2_write_138 rfl rfl ?_
                          refine j_aload G 1 dX2_write_139 rfl ?_
                          refine j_get G hW 1 1 0 (.int (I7 (a0 + 9 + ix x3) 1)) kk3 (by decide) rfl (by decide) rfl lay_X0 fl_X2_93 rfl rfl dX2_write_141 ?_
                          refine j_cv (rn_S G (n := 2) (As := [.ref a1, .int (I7 (a0 + 9 + ix x3) 1)]) (rest := []) (c_X2_writeRegister K hW l a1 (I7 (a0 + 9 + ix x3) 1) k1 I7 J B _ h) ml_X2_148 st_X2_writeRegister in_X2 co_X2_writeRegister (by decide +kernel) rfl rfl (by decide) (by decide) rfl rfl (Nat.le_of_ble_eq_true rfl) dX2_write_144) (fun I20 h => ?_)
                          refine j_goto G 308 dX2_write_147 (by decide) ?_
                          exact j_retv G I20 dX2_write_308 h rfl
                        · skip
                          by_cases c41 : r4 = (16 : Int32)
                          · have h := h.2.2.2.2.2.2.2.1 (Or.inl c41)
                            refine j_tableIn G 252 dX2_write_30 (by rw [c41]; decide) (by rw [c41]; decide) (by rw [c41] <;> rfl) (by decide) ?_
                            refine j_aload_n G 3 1 dX2_write_252 rfl rfl ?_
                            refine j_aload G 1 dX2_write_253 rfl ?_
                            refine j_get G hW 1 2 0 (.int (I7 (a0 + 9 + ix x3) 2)) kk3 (by decide) rfl (by decide) rfl lay_X0 fl_X2_82 rfl rfl dX2_write_255 ?_
                            refine j_cv (rn_S G (n := 2) (As := [.ref a1, .int (I7 (a0 + 9 + ix x3) 2)]) (rest := []) (c_X2_writeRegister K hW l a1 (I7 (a0 + 9 + ix x3) 2) k1 I7 J B _ h) ml_X2_148 st_X2_writeRegister in_X2 co_X2_writeRegister (by decide +kernel) rfl rfl (by decide) (by decide) rfl rfl (Nat.le_of_ble_eq_true rfl) dX2_write_258) (fun I21 h => ?_)
                            refine j_aload_n G 3 1 dX2_write_261 rfl rfl ?_
                            refine j_aload G 1 dX2_write_262 rfl ?_
                            refine j_get G hW 1 5 0 (.int (I21 (a0 + 9 + ix x3) 5)) kk3 (by decide) rfl (by decide) rfl lay_X0 fl_X2_158 rfl rfl dX2_write_264 ?_
                            refine j_cr (rn_V G hW (ci := 0) (n := 1) (As := [.int (I21 (a0 + 9 + ix x3) 5)]) (rest := []) (c_J4_append_cf468 K hW l a1 (I21 (a0 + 9 + ix x3) 5) k1 I21 J B _ h) k1 (by decide) rfl ml_X2_162 im_J4_append_cf468 se_J4_append_cf468 in_J4 co_J4_append_cf468 rfl (by decide +kernel) rfl rfl (by decide) (by decide) rfl rfl (Nat.le_of_ble_eq_true rfl) dX2_write_267) (fun I23 r22 h _ => ?_)
                            refine j_pop G rfl dX2_write_270 ?_
                            refine j_aload_n G 3 1 dX2_write_271 rfl rfl ?_
                            refine j_aload G 1 dX2_write_272 rfl ?_
                            refine j_get G hW 1 3 0 (.int (I23 (a0 + 9 + ix x3) 3)) kk3 (by decide) rfl (by decide) rfl lay_X0 fl_X2_100 rfl rfl dX2_write_274 ?_
                            refine j_ci (rn_S G (n := 1) (As := [.int (I23 (a0 + 9 + ix x3) 3)]) (rest := [.ref a1]) (c_X2_letterOf K hW l (I23 (a0 + 9 + ix x3) 3) I23 J B _ h) ml_X2_165 st_X2_letterOf in_X2 co_X2_letterOf (by decide +kernel) rfl rfl (by decide) (by decide) rfl rfl (Nat.le_of_ble_eq_true rfl) dX2_write_277) (fun r24 _ h => ?_)
                            refine j_cr (rn_V G hW (ci := 0) (n := 1) (As := [.int r24]) (rest := []) (c_J4_append_cf468 K hW l a1 r24 k1 I23 J B _ h) k1 (by decide) rfl ml_X2_162 im_J4_append_cf468 se_J4_append_cf468 in_J4 co_J4_append_cf468 rfl (by decide +kernel) rfl rfl (by decide) (by decide) rfl rfl (Nat.le_of_ble_eq_true rfl) dX2_write_280) (fun I26 r25 h _ => ?_)
                            refine j_pop G rfl dX2_write_283 ?_
                            refine j_aload_n G 3 1 dX2_write_284 rfl rfl ?_
                            refine j_aload G 1 dX2_write_285 rfl ?_
                            refine j_get G hW 1 4 0 (.int (I26 (a0 + 9 + ix x3) 4)) kk3 (by decide) rfl (by decide) rfl lay_X0 fl_X2_152 rfl rfl dX2_write_287 ?_
                            refine j_cv (rn_S G (n := 2) (As := [.ref a1, .int (I26 (a0 + 9 + ix x3) 4)]) (rest := []) (c_X2_writeNumber K hW l a1 (I26 (a0 + 9 + ix x3) 4) k1 I26 J B _ h) ml_X2_155 st_X2_writeNumber in_X2 co_X2_writeNumber (by decide +kernel) rfl rfl (by decide) (by decide) rfl rfl (Nat.le_of_ble_eq_true rfl) dX2_write_290) (fun I27 h => ?_)
                            refine j_goto G 308 dX2_write_293 (by decide) ?_
                            exact j_retv G I27 dX2_write_308 h rfl
                          · skip
                            by_cases c42 : r4 = (19 : Int32)
                            · have h := h.2.2.2.2.2.2.2.1 (Or.inr (c42))
                              refine j_tableIn G 252 dX2_write_30 (by rw [c42]; decide) (by rw [c42]; decide) (by rw [c42] <;> rfl) (by decide) ?_
                              refine j_aload_n G 3 1 dX2_write_252 rfl rfl ?_
                              refine j_aload G 1 dX2_write_253 rfl ?_
                              refine j_get G hW 1 2 0 (.int (I7 (a0 + 9 + ix x3) 2)) kk3 (by decide) rfl (by decide) rfl lay_X0 fl_X2_82 rfl rfl dX2_write_255 ?_
                              refine j_cv (rn_S G (n := 2) (As := [.ref a1, .int (I7 (a0 + 9 + ix x3) 2)]) (rest := []) (c_X2_writeRegister K hW l a1 (I7 (a0 + 9 + ix x3) 2) k1 I7 J B _ h) ml_X2_148 st_X2_writeRegister in_X2 co_X2_writeRegister (by decide +kernel) rfl rfl (by decide) (by decide) rfl rfl (Nat.le_of_ble_eq_true rfl) dX2_write_258) (fun I21 h => ?_)
                              refine j_aload_n G 3 1 dX2_write_261 rfl rfl ?_
                              refine j_aload G 1 dX2_write_262 rfl ?_
                              refine j_get G hW 1 5 0 (.int (I21 (a0 + 9 + ix x3) 5)) kk3 (by decide) rfl (by decide) rfl lay_X0 fl_X2_158 rfl rfl dX2_write_264 ?_
                              refine j_cr (rn_V G hW (ci := 0) (n := 1) (As := [.int (I21 (a0 + 9 + ix x3) 5)]) (rest := []) (c_J4_append_cf468 K hW l a1 (I21 (a0 + 9 + ix x3) 5) k1 I21 J B _ h) k1 (by decide) rfl ml_X2_162 im_J4_append_cf468 se_J4_append_cf468 in_J4 co_J4_append_cf468 rfl (by decide +kernel) rfl rfl (by decide) (by decide) rfl rfl (Nat.le_of_ble_eq_true rfl) dX2_write_267) (fun I23 r22 h _ => ?_)
                              refine j_pop G rfl dX2_write_270 ?_
                              refine j_aload_n G 3 1 dX2_write_271 rfl rfl ?_
                              refine j_aload G 1 dX2_write_272 rfl ?_
                              refine j_get G hW 1 3 0 (.int (I23 (a0 + 9 + ix x3) 3)) kk3 (by decide) rfl (by decide) rfl lay_X0 fl_X2_100 rfl rfl dX2_write_274 ?_
                              refine j_ci (rn_S G (n := 1) (As := [.int (I23 (a0 + 9 + ix x3) 3)]) (rest := [.ref a1]) (c_X2_letterOf K hW l (I23 (a0 + 9 + ix x3) 3) I23 J B _ h) ml_X2_165 st_X2_letterOf in_X2 co_X2_letterOf (by decide +kernel) rfl rfl (by decide) (by decide) rfl rfl (Nat.le_of_ble_eq_true rfl) dX2_write_277) (fun r24 _ h => ?_)
                              refine j_cr (rn_V G hW (ci := 0) (n := 1) (As := [.int r24]) (rest := []) (c_J4_append_cf468 K hW l a1 r24 k1 I23 J B _ h) k1 (by decide) rfl ml_X2_162 im_J4_append_cf468 se_J4_append_cf468 in_J4 co_J4_append_cf468 rfl (by decide +kernel) rfl rfl (by decide) (by decide) rfl rfl (Nat.le_of_ble_eq_true rfl) dX2_write_280) (fun I26 r25 h _ => ?_)
                              refine j_pop G rfl dX2_write_283 ?_
                              refine j_aload_n G 3 1 dX2_write_284 rfl rfl ?_
                              refine j_aload G 1 dX2_write_285 rfl ?_
                              refine j_get G hW 1 4 0 (.int (I26 (a0 + 9 + ix x3) 4)) kk3 (by decide) rfl (by decide) rfl lay_X0 fl_X2_152 rfl rfl dX2_write_287 ?_
                              refine j_cv (rn_S G (n := 2) (As := [.ref a1, .int (I26 (a0 + 9 + ix x3) 4)]) (rest := []) (c_X2_writeNumber K hW l a1 (I26 (a0 + 9 + ix x3) 4) k1 I26 J B _ h) ml_X2_155 st_X2_writeNumber in_X2 co_X2_writeNumber (by decide +kernel) rfl rfl (by decide) (by decide) rfl rfl (Nat.le_of_ble_eq_true rfl) dX2_write_290) (fun I27 h => ?_)
                              refine j_goto G 308 dX2_write_293 (by decide) ?_
                              exact j_retv G I27 dX2_write_308 h rfl
                            · skip
                              have h := h.2.2.2.2.2.2.2.2 c29 c30 c31 c32 c33 c34 c35 c36 c37 c38 c39 c40 c41 c42
                              by_cases c43 : r4 = (4 : Int32)
                              · refine j_tableIn G 299 dX2_write_30 (by rw [c43]; decide) (by rw [c43]; decide) (by rw [c43] <;> rfl) (by decide) ?_
                                refine j_aload_n G 3 1 dX2_write_299 rfl rfl ?_
                                refine j_aload G 1 dX2_write_300 rfl ?_
                                refine j_get G hW 1 4 0 (.int (I7 (a0 + 9 + ix x3) 4)) kk3 (by decide) rfl (by decide) rfl lay_X0 fl_X2_152 rfl rfl dX2_write_302 ?_
                                refine j_cv (rn_S G (n := 2) (As := [.ref a1, .int (I7 (a0 + 9 + ix x3) 4)]) (rest := []) (c_X2_writeNumber K hW l a1 (I7 (a0 + 9 + ix x3) 4) k1 I7 J B _ h) ml_X2_155 st_X2_writeNumber in_X2 co_X2_writeNumber (by decide +kernel) rfl rfl (by decide) (by decide) rfl rfl (Nat.le_of_ble_eq_true rfl) dX2_write_305) (fun I28 h => ?_)
                                exact j_retv G I28 dX2_write_308 h rfl
                              · skip
                                by_cases c44 : r4 = (5 : Int32)
                                · refine j_tableIn G 299 dX2_write_30 (by rw [c44]; decide) (by rw [c44]; decide) (by rw [c44] <;> rfl) (by decide) ?_
                                  refine j_aload_n G 3 1 dX2_write_299 rfl rfl ?_
                                  refine j_aload G 1 dX2_write_300 rfl ?_
                                  refine j_get G hW 1 4 0 (.int (I7 (a0 + 9 + ix x3) 4)) kk3 (by decide) rfl (by decide) rfl lay_X0 fl_X2_152 rfl rfl dX2_write_302 ?_
                                  refine j_cv (rn_S G (n := 2) (As := [.ref a1, .int (I7 (a0 + 9 + ix x3) 4)]) (rest := []) (c_X2_writeNumber K hW l a1 (I7 (a0 + 9 + ix x3) 4) k1 I7 J B _ h) ml_X2_155 st_X2_writeNumber in_X2 co_X2_writeNumber (by decide +kernel) rfl rfl (by decide) (by decide) rfl rfl (Nat.le_of_ble_eq_true rfl) dX2_write_305) (fun I28 h => ?_)
                                  exact j_retv G I28 dX2_write_308 h rfl
                                · skip
                                  by_cases c45 : r4 = (6 : Int32)
                                  · refine j_tableIn G 299 dX2_write_30 (by rw [c45]; decide) (by rw [c45]; decide) (by rw [c45] <;> rfl) (by decide) ?_
                                    refine j_aload_n G 3 1 dX2_write_299 rfl rfl ?_
                                    refine j_aload G 1 dX2_write_300 rfl ?_
                                    refine j_get G hW 1 4 0 (.int (I7 (a0 + 9 + ix x3) 4)) kk3 (by decide) rfl (by decide) rfl lay_X0 fl_X2_152 rfl rfl dX2_write_302 ?_
                                    refine j_cv (rn_S G (n := 2) (As := [.ref a1, .int (I7 (a0 + 9 + ix x3) 4)]) (rest := []) (c_X2_writeNumber K hW l a1 (I7 (a0 + 9 + ix x3) 4) k1 I7 J B _ h) ml_X2_155 st_X2_writeNumber in_X2 co_X2_writeNumber (by decide +kernel) rfl rfl (by decide) (by decide) rfl rfl (Nat.le_of_ble_eq_true rfl) dX2_write_305) (fun I28 h => ?_)
                                    exact j_retv G I28 dX2_write_308 h rfl
                                  · skip
                                    by_cases c46 : r4 = (7 : Int32)
                                    · refine j_tableIn G 299 dX2_write_30 (by rw [c46]; decide) (by rw [c46]; decide) (by rw [c46] <;> rfl) (by decide) ?_
                                      refine j_aload_n G 3 1 dX2_write_299 rfl rfl ?_
                                      refine j_aload G 1 dX2_write_300 rfl ?_
                                      refine j_get G hW 1 4 0 (.int (I7 (a0 + 9 + ix x3) 4)) kk3 (by decide) rfl (by decide) rfl lay_X0 fl_X2_152 rfl rfl dX2_write_302 ?_
                                      refine j_cv (rn_S G (n := 2) (As := [.ref a1, .int (I7 (a0 + 9 + ix x3) 4)]) (rest := []) (c_X2_writeNumber K hW l a1 (I7 (a0 + 9 + ix x3) 4) k1 I7 J B _ h) ml_X2_155 st_X2_writeNumber in_X2 co_X2_writeNumber (by decide +kernel) rfl rfl (by decide) (by decide) rfl rfl (Nat.le_of_ble_eq_true rfl) dX2_write_305) (fun I28 h => ?_)
                                      exact j_retv G I28 dX2_write_308 h rfl
                                    · skip
                                      by_cases c47 : r4 = (17 : Int32)
                                      · refine j_tableIn G 299 dX2_write_30 (by rw [c47]; decide) (by rw [c47]; decide) (by rw [c47] <;> rfl) (by decide) ?_
                                        refine j_aload_n G 3 1 dX2_write_299 rfl rfl ?_
                                        refine j_aload G 1 dX2_write_300 rfl ?_
                                        refine j_get G hW 1 4 0 (.int (I7 (a0 + 9 + ix x3) 4)) kk3 (by decide) rfl (by decide) rfl lay_X0 fl_X2_152 rfl rfl dX2_write_302 ?_
                                        refine j_cv (rn_S G (n := 2) (As := [.ref a1, .int (I7 (a0 + 9 + ix x3) 4)]) (rest := []) (c_X2_writeNumber K hW l a1 (I7 (a0 + 9 + ix x3) 4) k1 I7 J B _ h) ml_X2_155 st_X2_writeNumber in_X2 co_X2_writeNumber (by decide +kernel) rfl rfl (by decide) (by decide) rfl rfl (Nat.le_of_ble_eq_true rfl) dX2_write_305) (fun I28 h => ?_)
                                        exact j_retv G I28 dX2_write_308 h rfl
                                      · skip
                                        by_cases c48 : r4 = (18 : Int32)
                                        · refine j_tableIn G 299 dX2_write_30 (by rw [c48]; decide) (by rw [c48]; decide) (by rw [c48] <;> rfl) (by decide) ?_
                                          refine j_aload_n G 3 1 dX2_write_299 rfl rfl ?_
                                          refine j_aload G 1 dX2_write_300 rfl ?_
                                          refine j_get G hW 1 4 0 (.int (I7 (a0 + 9 + ix x3) 4)) kk3 (by decide) rfl (by decide) rfl lay_X0 fl_X2_152 rfl rfl dX2_write_302 ?_
                                          refine j_cv (rn_S G (n := 2) (As := [.ref a1, .int (I7 (a0 + 9 + ix x3) 4)]) (rest := []) (c_X2_writeNumber K hW l a1 (I7 (a0 + 9 + ix x3) 4) k1 I7 J B _ h) ml_X2_155 st_X2_writeNumber in_X2 co_X2_writeNumber (by decide +kernel) rfl rfl (by decide) (by decide) rfl rfl (Nat.le_of_ble_eq_true rfl) dX2_write_305) (fun I28 h => ?_)
                                          exact j_retv G I28 dX2_write_308 h rfl
                                        · skip
                                          have nc29 := sw_ne (n := 0) rfl c29
                                          have nc30 := sw_ne (n := 1) rfl c30
                                          have nc31 := sw_ne (n := 2) rfl c31
                                          have nc32 := sw_ne (n := 3) rfl c32
                                          have nc43 := sw_ne (n := 4) rfl c43
                                          have nc44 := sw_ne (n := 5) rfl c44
                                          have nc45 := sw_ne (n := 6) rfl c45
                                          have nc46 := sw_ne (n := 7) rfl c46
                                          have nc33 := sw_ne (n := 8) rfl c33
                                          have nc34 := sw_ne (n := 9) rfl c34
                                          have nc35 := sw_ne (n := 10) rfl c35
                                          have nc36 := sw_ne (n := 11) rfl c36
                                          have nc37 := sw_ne (n := 12) rfl c37
                                          have nc38 := sw_ne (n := 13) rfl c38
                                          have nc39 := sw_ne (n := 14) rfl c39
                                          have nc40 := sw_ne (n := 15) rfl c40
                                          have nc41 := sw_ne (n := 16) rfl c41
                                          have nc47 := sw_ne (n := 17) rfl c47
                                          have nc48 := sw_ne (n := 18) rfl c48
                                          have nc42 := sw_ne (n := 19) rfl c42
                                          refine j_tableOut G 299 dX2_write_30 (by omega) (by decide) ?_
                                          refine j_aload_n G 3 1 dX2_write_299 rfl rfl ?_
                                          refine j_aload G 1 dX2_write_300 rfl ?_
                                          refine j_get G hW 1 4 0 (.int (I7 (a0 + 9 + ix x3) 4)) kk3 (by decide) rfl (by decide) rfl lay_X0 fl_X2_152 rfl rfl dX2_write_302 ?_
                                          refine j_cv (rn_S G (n := 2) (As := [.ref a1, .int (I7 (a0 + 9 + ix x3) 4)]) (rest := []) (c_X2_writeNumber K hW l a1 (I7 (a0 + 9 + ix x3) 4) k1 I7 J B _ h) ml_X2_155 st_X2_writeNumber in_X2 co_X2_writeNumber (by decide +kernel) rfl rfl (by decide) (by decide) rfl rfl (Nat.le_of_ble_eq_true rfl) dX2_write_305) (fun I28 h => ?_)
                                          exact j_retv G I28 dX2_write_308 h rfl
abbrev rm_X9_text : Room := { frames := 6, cells := 0, slots := 0, locals := 162 }
def w_X9_text (a0 : Nat) (x1 : Int32) (x2 : Int32) (x3 : Int32) (x4 : Int32) (I : MI) (Q : Int32 → MI → Prop) : Prop :=
(w_X2_hasDeed (a0 + 4) x1 x2 x3 I (fun r4 =>
((¬ r4 = 0 → (w_J4_setLength_d00df (a0 + 177) (0 : Int32) I (fun I7 =>
(w_X2_write (a0 + 4) (a0 + 177) x1 x2 x3 I7 (fun I8 =>
((x4 < 0 → Q (-1 : Int32) I8) ∧
(¬ x4 < 0 → (w_J4_length_8abf5 (a0 + 177) I8 (fun r10 =>
((x4 < r10 → (w_J4_charAt_5068e (a0 + 177) x4 I8 (fun r12 =>
Q r12 I8))) ∧
(¬ x4 < r10 → Q (-1 : Int32) I8))))))))))) ∧
(r4 = 0 → Q (-1 : Int32) I))))
set_option maxHeartbeats 4000000 in
set_option maxRecDepth 100000 in
theorem c_X9_text (K : Kx) (hW : WFK K) (l : Launch) (a0 : Nat) (x1 : Int32) (x2 : Int32) (x3 : Int32) (x4 : Int32) (k0 : (kG K a0).1 = 11) (I : MI) (J : MJ) (B : MR) (Q : Int32 → MI → Prop) (h : w_X9_text a0 x1 x2 x3 x4 I Q) : Con K l yX9_text (wsT yX9_text cX9_text 6 (some .int)) rm_X9_text [.ref a0, .int x1, .int x2, .int x3, .int x4] (I, J, B) (va_Qi (S := MI) Q (fun u t => HP K (u, J, B) t.heap) (AA K)) := by
  refine Con.ofJ RX9 rfl (by decide) (Nat.le_of_ble_eq_true rfl) (fun m H0 w G => ?_)
  unfold w_X9_text at h
  show Jg K m 6 H0 w 0 [(0, .ref a0), (1, .int x1), (2, .int x2), (3, .int x3), (4, .int x4)] [] (I, J, B)
  refine j_aload_n G 0 0 dX9_text_0 rfl rfl ?_
  have kk1 : kG K (a0 + 1) = (10, 0) := wk_11_1 hW k0
  refine j_get G hW 10 0 4 (.ref (a0 + 1)) k0 (by decide) rfl (by decide) rfl lay_X9 fl_X9_12 rfl rfl dX9_text_1 ?_
  have kk2 : kG K (a0 + 3) = (3, 0) := wk_10_2 hW (congrArg Prod.fst kk1)
  refine j_get G hW 9 4 5 (.ref (a0 + 3)) (congrArg Prod.fst kk1) (by decide) rfl (by decide) rfl lay_X8 fl_X9_52 rfl rfl dX9_text_4 ?_
  have kk3 : kG K (a0 + 4) = (4, 0) := wk_3_1 hW (congrArg Prod.fst kk2)
  refine j_get G hW 2 0 4 (.ref (a0 + 4)) (congrArg Prod.fst kk2) (by decide) rfl (by decide) rfl lay_X1 fl_X9_55 rfl rfl dX9_text_7 ?_
  refine j_astore G [(5, .ref (a0 + 4)), (0, .ref a0), (1, .int x1), (2, .int x2), (3, .int x3), (4, .int x4)] dX9_text_10 (by decide) rfl ?_
  refine j_aload G 0 dX9_text_12 rfl ?_
  refine j_iload_n G 2 1 dX9_text_14 rfl rfl ?_
  refine j_iload_n G 3 2 dX9_text_15 rfl rfl ?_
  refine j_iload_n G 4 3 dX9_text_16 rfl rfl ?_
  refine j_ci (rn_V G hW (ci := 3) (n := 3) (As := [.int x1, .int x2, .int x3]) (rest := []) (c_X2_hasDeed K hW l (a0 + 4) x1 x2 x3 (congrArg Prod.fst kk3) I J B _ h) (congrArg Prod.fst kk3) (by decide) rfl ml_X9_141 im_X2_hasDeed se_X2_hasDeed in_X2 co_X2_hasDeed rfl (by decide +kernel) rfl rfl (by decide) (by decide) rfl rfl (Nat.le_of_ble_eq_true rfl) dX9_text_17) (fun r4 _ h => ?_)
  refine j_if_ne G 25 dX9_text_20 (by decide) (fun c5 => ?_) (fun c5 => ?_)
  · have h := h.1 c5
    refine j_aload_n G 1 0 dX9_text_25 rfl rfl ?_
    have kk6 : kG K (a0 + 177) = (1, 0) := wk_11_177 hW k0
    refine j_get G hW 10 6 180 (.ref (a0 + 177)) k0 (by decide) rfl (by decide) rfl lay_X9 fl_X9_48 rfl rfl dX9_text_26 ?_
    refine j_iconst G (0 : Int32) dX9_text_29 (by decide) ?_
    refine j_cv (rn_V G hW (ci := 0) (n := 1) (As := [.int (0 : Int32)]) (rest := []) (c_J4_setLength_d00df K hW l (a0 + 177) (0 : Int32) (congrArg Prod.fst kk6) I J B _ h) (congrArg Prod.fst kk6) (by decide) rfl ml_X9_145 im_J4_setLength_d00df se_J4_setLength_d00df in_J4 co_J4_setLength_d00df rfl (by decide +kernel) rfl rfl (by decide) (by decide) rfl rfl (Nat.le_of_ble_eq_true rfl) dX9_text_30) (fun I7 h => ?_)
    refine j_aload G 0 dX9_text_33 rfl ?_
    refine j_aload_n G 1 0 dX9_text_35 rfl rfl ?_
    refine j_get G hW 10 6 180 (.ref (a0 + 177)) k0 (by decide) rfl (by decide) rfl lay_X9 fl_X9_48 rfl rfl dX9_text_36 ?_
    refine j_iload_n G 2 1 dX9_text_39 rfl rfl ?_
    refine j_iload_n G 3 2 dX9_text_40 rfl rfl ?_
    refine j_iload_n G 4 3 dX9_text_41 rfl rfl ?_
    refine j_cv (rn_V G hW (ci := 3) (n := 4) (As := [.ref (a0 + 177), .int x1, .int x2, .int x3]) (rest := []) (c_X2_write K hW l (a0 + 4) (a0 + 177) x1 x2 x3 (congrArg Prod.fst kk3) (congrArg Prod.fst kk6) I7 J B _ h) (congrArg Prod.fst kk3) (by decide) rfl ml_X9_148 im_X2_write se_X2_write in_X2 co_X2_write rfl (by decide +kernel) rfl rfl (by decide) (by decide) rfl rfl (Nat.le_of_ble_eq_true rfl) dX9_text_42) (fun I8 h => ?_)
    refine j_iload G 5 dX9_text_45 rfl ?_
    refine j_if_lt G 62 dX9_text_47 (by decide) (fun c9 => ?_) (fun c9 => ?_)
    · have h := h.1 c9
      refine j_iconst G (-1 : Int32) dX9_text_62 (by decide) ?_
      refine j_goto G 75 dX9_text_63 (by decide) ?_
      exact j_reti G I8 rfl dX9_text_75 h rfl
    · have h := h.2 c9
      refine j_iload G 5 dX9_text_50 rfl ?_
      refine j_aload_n G 1 0 dX9_text_52 rfl rfl ?_
      refine j_get G hW 10 6 180 (.ref (a0 + 177)) k0 (by decide) rfl (by decide) rfl lay_X9 fl_X9_48 rfl rfl dX9_text_53 ?_
      refine j_ci (rn_V G hW (ci := 0) (n := 0) (As := []) (rest := [.int x4]) (c_J4_length_8abf5 K hW l (a0 + 177) (congrArg Prod.fst kk6) I8 J B _ h) (congrArg Prod.fst kk6) (by decide) rfl ml_X9_152 im_J4_length_8abf5 se_J4_length_8abf5 in_J4 co_J4_length_8abf5 rfl (by decide +kernel) rfl rfl (by decide) (by decide) rfl rfl (Nat.le_of_ble_eq_true rfl) dX9_text_56) (fun r10 _ h => ?_)
      refine j_icmp_lt G 66 dX9_text_59 (by decide) (fun c11 => ?_) (fun c11 => ?_)
      · have h := h.1 c11
        refine j_aload_n G 1 0 dX9_text_66 rfl rfl ?_
        refine j_get G hW 10 6 180 (.ref (a0 + 177)) k0 (by decide) rfl (by decide) rfl lay_X9 fl_X9_48 rfl rfl dX9_text_67 ?_
        refine j_iload G 5 dX9_text_70 rfl ?_
        refine j_ci (rn_V G hW (ci := 0) (n := 1) (As := [.int x4]) (rest := []) (c_J4_charAt_5068e K hW l (a0 + 177) x4 (congrArg Prod.fst kk6) I8 J B _ h) (congrArg Prod.fst kk6) (by decide) rfl ml_X9_155 im_J4_charAt_5068e se_J4_charAt_5068e in_J4 co_J4_charAt_5068e rfl (by decide +kernel) rfl rfl (by decide) (by decide) rfl rfl (Nat.le_of_ble_eq_true rfl) dX9_text_72) (fun r12 _ h => ?_)
        exact j_reti G I8 rfl dX9_text_75 h rfl
      · have h := h.2 c11
        refine j_iconst G (-1 : Int32) dX9_text_62 (by decide) ?_
        refine j_goto G 75 dX9_text_63 (by decide) ?_
        exact j_reti G I8 rfl dX9_text_75 h rfl
  · have h := h.2 c5
    refine j_iconst G (-1 : Int32) dX9_text_23 (by decide) ?_
    exact j_reti G I rfl dX9_text_24 h rfl
