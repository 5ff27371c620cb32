section
variable {K : Kx} {l : Launch} {R : Room} {m : MethodId} {own : String} {cc : ByteArray} {nL : Nat} {H0 : Heap} {ret : Option FieldType} {Qc : Array Value → State → Outcome → State → Prop} {w : HW} {pc : Nat} {L : List (Nat × Value)} {S : List Value} {I : MI} {J : MJ} {B : MR} {a n : Nat}
theorem cpy_words : nativeFrameWords "java/lang/System" "arraycopy" 5 + 11 ≤ 40 := by decide +kernel
theorem j_copyX (G : Gd l R K m own cc nL H0 ret Qc w) (hW : WFK K) {index : Nat} (nn kd t0 : Nat) {a0 n0 n1 : Nat} {x : Int32} {ty : FieldType} (h0 : kG K a0 = (kd, n0)) (h1 : kG K a = (kd, n1)) (hk1 : 20 ≤ kd) (hk2 : kd ≠ 22) (hk3 : kd < 24) (ht : (tyl (kC K))[t0]? = some (kC K kd, ty)) (hpr : refKind ty = false) (hx1 : ¬ x < 0) (hx2 : ix x = nn) (hn0 : nn ≤ n0) (hn1 : nn ≤ n1)
    (g1 : Cond.methodLink own index arraycopyName ∈ gw) (g2 : Cond.native arraycopyName ∈ gw) (g3 : Cond.static arraycopyName ∈ gw) (g4 : Cond.initialized "java/lang/System" ∈ gw) (hfit : ∀ j, j < nn → fits ty (.int (I a0 j)) = true) (hf : 1 ≤ R.frames) (hlo : 48 ≤ R.locals) (hS : (S.map fun v => v.category).sum ≤ 8) (hd : decode cc pc = .ok (.invokestatic index, 3)) (k : Jg K m nL H0 w (pc + 3) L S (uc I a0 a nn, J, B)) : Jg K m nL H0 w pc L (.int x :: .int 0 :: .ref a :: .int 0 :: .ref a0 :: S) (I, J, B) := by
  obtain ⟨p, e, s, args, below, meth, c, rfl, hx, hb, hml, hown, hts, hK, rfl, hr, hlk⟩ := G
  intro H locs ls hP hS2 hl
  have haL := hW.2.2.1 a (by rw [h1]; show kd ≠ 0; omega)
  have ha0 := hW.2.2.1 a0 (by rw [h0]; show kd ≠ 0; omega)
  obtain ⟨q, hq⟩ := HP.idx (mem := (I, J, B)) haL
  obtain ⟨q0, hq0⟩ := HP.idx (mem := (I, J, B)) ha0
  have hE : ∀ mem : Mm, celE K mem a = _ := fun mem => celE_arr (mem := mem) h1 hk1 hk2 hk3
  have hw := cpy_words
  refine va_copyi (ty := ty) (f := I a0) (g := I a) hx hb (hml.trans hl.1.symm) hown (hts _ g1) (hts _ g2) (hts _ g3) (hts _ g4) hK.1.1 hP (va_pl_D hW.2.2.2.1 (fun _ h => h)) hS2 q0 q t0 t0 (hq0.trans (congrArg (fun e => some (a0, e)) (celE_arr h0 hk1 hk2 hk3))) (hq.trans (congrArg (fun e => some (a, e)) (hE _))) ht ht hpr (by decide) (by decide) hx1 (by rw [sb_cl0]; show 0 + ix x ≤ n0; omega) (by rw [sb_cl0]; show 0 + ix x ≤ n1; omega) (fun i hi => by rw [sb_cl0, Nat.zero_add]; exact hfit i (by rw [← hx2]; exact hi)) hf (by omega) hd (fun H1 locs1 hP1 _ hS1 => k H1 locs1 ls (HP.set hW haL hq hP1 ?_ (fun b hb => celE_congr (uc_ne I _ hb) rfl rfl)) hS1 hl)
  rw [hE]
  dsimp only
  rw [uc_at, ← hx2]
  rfl
theorem j_copyi (G : Gd l R K m own cc nL H0 ret Qc w) (hW : WFK K) {index : Nat} (nn : Nat) {a0 n0 n1 : Nat} {x : Int32} (h0 : kG K a0 = (20, n0)) (h1 : kG K a = (20, n1)) (hx1 : ¬ x < 0) (hx2 : ix x = nn) (hn0 : nn ≤ n0) (hn1 : nn ≤ n1)
    (g1 : Cond.methodLink own index arraycopyName ∈ gw) (g2 : Cond.native arraycopyName ∈ gw) (g3 : Cond.static arraycopyName ∈ gw) (g4 : Cond.initialized "java/lang/System" ∈ gw) (hf : 1 ≤ R.frames) (hlo : 48 ≤ R.locals) (hS : (S.map fun v => v.category).sum ≤ 8) (hd : decode cc pc = .ok (.invokestatic index, 3)) (k : Jg K m nL H0 w (pc + 3) L S (uc I a0 a nn, J, B)) : Jg K m nL H0 w pc L (.int x :: .int 0 :: .ref a :: .int 0 :: .ref a0 :: S) (I, J, B) :=
  j_copyX G hW nn 20 0 h0 h1 (by decide) (by decide) (by decide) rfl rfl hx1 hx2 hn0 hn1 g1 g2 g3 g4 (fun _ _ => rfl) hf hlo hS hd k
theorem j_copyb (G : Gd l R K m own cc nL H0 ret Qc w) (hW : WFK K) {index : Nat} (nn : Nat) {a0 n0 n1 : Nat} {x : Int32} (h0 : kG K a0 = (21, n0)) (h1 : kG K a = (21, n1)) (hx1 : ¬ x < 0) (hx2 : ix x = nn) (hn0 : nn ≤ n0) (hn1 : nn ≤ n1)
    (g1 : Cond.methodLink own index arraycopyName ∈ gw) (g2 : Cond.native arraycopyName ∈ gw) (g3 : Cond.static arraycopyName ∈ gw) (g4 : Cond.initialized "java/lang/System" ∈ gw) (hfit : ∀ j, j < nn → fits .byte (.int (I a0 j)) = true) (hf : 1 ≤ R.frames) (hlo : 48 ≤ R.locals) (hS : (S.map fun v => v.category).sum ≤ 8) (hd : decode cc pc = .ok (.invokestatic index, 3)) (k : Jg K m nL H0 w (pc + 3) L S (uc I a0 a nn, J, B)) : Jg K m nL H0 w pc L (.int x :: .int 0 :: .ref a :: .int 0 :: .ref a0 :: S) (I, J, B) :=
  j_copyX G hW nn 21 1 h0 h1 (by decide) (by decide) (by decide) rfl rfl hx1 hx2 hn0 hn1 g1 g2 g3 g4 hfit hf hlo hS hd k
end
/-! Arrays.fill of ints -/
abbrev rm_fill : Room := { frames := 0, cells := 0, slots := 0, locals := 0 }
theorem uf_step (I : MI) (a i : Nat) (v : Int32) : ui (uf I a i v) a i v = uf I a (i + 1) v := by
  funext b
  by_cases hb : b = a
  · subst hb
    rw [ui_at, uf_at, uf_at]
    funext j
    unfold upd
    by_cases hj : j = i
    · subst hj; rw [if_pos rfl, if_pos (by omega)]
    · rw [if_neg hj]
      by_cases h2 : j < i
      · show (if j < i then v else I b j) = _; rw [if_pos h2, if_pos (by omega)]
      · show (if j < i then v else I b j) = _; rw [if_neg h2, if_neg (by omega)]
  · rw [ui_ne _ _ _ hb, uf_ne _ _ _ hb, uf_ne _ _ _ hb]
theorem uf_0 (I : MI) (a : Nat) (v : Int32) : uf I a 0 v = I := by
  funext b
  by_cases hb : b = a
  · subst hb; rw [uf_at]; funext j; rw [if_neg (by omega)]
  · rw [uf_ne _ _ _ hb]
theorem m_fill {K : Kx} {l : Launch} {m : MethodId} {H0 : Heap} {Q : MI → Prop} {w : HW} {J : MJ} {B : MR} {I : MI} {a n : Nat} {v : Int32} (G : Gd l rm_fill K m RJ7 cJ7_fill_53178 4 H0 none (va_Qv (S := MI) Q (fun u t => HP K (u, J, B) t.heap) (AA K)) w) (hW : WFK K) (ha : kG K a = (20, n)) (hn : n < 2 ^ 31) (h : Q (uf I a n v)) : ∀ f i, n - i < f → i ≤ n → Jg K m 4 H0 w 5 [(0, .ref a), (1, .int v), (2, .int (nI i)), (3, .int (nI n))] [] (uf I a i v, J, B) := by
  intro f
  induction f with
  | zero => intro i h; omega
  | succ f ih =>
    intro i h1 h2
    refine j_iload_n G 2 2 dJ7_fill_53178_5 rfl rfl ?_
    refine j_iload_n G 3 3 dJ7_fill_53178_6 rfl rfl ?_
    refine j_icmp_ge G 20 dJ7_fill_53178_7 (by decide) (fun c => ?_) (fun c => ?_)
    · have e : i = n := by
        have := (nI_leI (by omega) (by omega)).mp c
        omega
      subst e
      exact j_retv G _ dJ7_fill_53178_20 h rfl
    · have hl : i < n := by
        rcases Nat.lt_or_ge i n with q | q
        · exact q
        · exact absurd (nI_le q (by omega)) c
      refine j_aload_n G 0 0 dJ7_fill_53178_10 rfl rfl ?_
      refine j_iload_n G 2 2 dJ7_fill_53178_11 rfl rfl ?_
      refine j_iload_n G 1 1 dJ7_fill_53178_12 rfl rfl ?_
      refine j_iast G hW ha (vp_in_nI hl (by omega)) dJ7_fill_53178_13 ?_
      rw [show ix (nI i) = i from nI_clamp (by omega), uf_step]
      refine j_iinc G 2 (nI (i + 1)) [(2, .int (nI (i + 1))), (0, .ref a), (1, .int v), (3, .int (nI n))] dJ7_fill_53178_14 rfl (nI_1 i) (by decide) rfl ?_
      refine j_goto G 5 dJ7_fill_53178_17 (by decide) ?_
      exact Jg.sub [1, 2, 0, 3] rfl (ih (i + 1) (by omega) (by omega))
theorem c_fill (K : Kx) (hW : WFK K) (l : Launch) (a n : Nat) (v : Int32) (ha : kG K a = (20, n)) (hn : n < 2 ^ 31) (I : MI) (J : MJ) (B : MR) (Q : MI → Prop) (h : Q (uf I a n v)) : Con K l yJ7_fill_53178 (wsT yJ7_fill_53178 cJ7_fill_53178 4 none) rm_fill [.ref a, .int v] (I, J, B) (va_Qv (S := MI) Q (fun u t => HP K (u, J, B) t.heap) (AA K)) := by
  refine Con.ofJ RJ7 rfl (by decide) (Nat.le_of_ble_eq_true rfl) (fun m H0 w G => ?_)
  show Jg K m 4 H0 w 0 [(0, .ref a), (1, .int v)] [] (I, J, B)
  refine j_iconst G (0 : Int32) dJ7_fill_53178_0 (by decide) ?_
  refine j_istore_n G 2 [(2, .int 0), (0, .ref a), (1, .int v)] dJ7_fill_53178_1 rfl (by decide) rfl ?_
  refine j_aload_n G 1 0 dJ7_fill_53178_2 rfl rfl ?_
  refine j_alen G hW (nI n) ha (by decide) (by decide) (by decide) rfl rfl dJ7_fill_53178_3 ?_
  refine j_istore_n G 3 [(3, .int (nI n)), (2, .int 0), (0, .ref a), (1, .int v)] dJ7_fill_53178_4 rfl (by decide) rfl ?_
  have h5 := m_fill (I := I) (v := v) G hW ha hn h (n + 1) 0 (by omega) (by omega)
  rw [uf_0, nI_0] at h5
  exact Jg.sub [2, 3, 1, 0] rfl h5
theorem j_fill {K : Kx} {l : Launch} {R : Room} {m : MethodId} {own : String} {cc : ByteArray} {nL : Nat} {H0 : Heap} {ret : Option FieldType} {Qc : Array Value → State → Outcome → State → Prop} {w : HW} {pc : Nat} {L : List (Nat × Value)} {S : List Value} {I : MI} {J : MJ} {B : MR} {a n index : Nat} {v : Int32} (G : Gd l R K m own cc nL H0 ret Qc w) (hW : WFK K) (ha : kG K a = (20, n)) (hn : n < 2 ^ 31)
    (h1 : Cond.methodLink own index yJ7_fill_53178 ∈ gw) (h2 : Cond.static yJ7_fill_53178 ∈ gw) (h4 : Cond.initialized RJ7 ∈ gw) (h5 : Cond.code yJ7_fill_53178 cJ7_fill_53178 4 none ∈ gw) (hfr : 1 ≤ R.frames) (hlo : 23 ≤ R.locals) (hrm : (S.map fun v => v.category).sum ≤ 8) (hd : decode cc pc = .ok (.invokestatic index, 3)) (k : Jg K m nL H0 w (pc + 3) L S (uf I a n v, J, B)) : Jg K m nL H0 w pc L (.int v :: .ref a :: S) (I, J, B) :=
  j_cv (rn_S G (n := 2) (As := [.ref a, .int v]) (rest := S) (c_fill K hW l a n v ha hn I J B (fun u => u = uf I a n v) rfl) h1 h2 h4 h5 (by decide +kernel) rfl rfl hfr hlo rfl rfl hrm hd) (fun u h => by subst h; exact k)
