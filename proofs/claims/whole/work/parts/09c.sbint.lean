/-! append(int), append(String), setLength, length, charAt of a StringBuilder; the word of a kind. -/
section
variable {K : Kx} {l : Launch} {R : Room} {m : MethodId} {own : String} {cc : ByteArray} {nL : Nat} {H0 : Heap} {ret : Option FieldType} {Qc : Array Value → State → Outcome → State → Prop} {w : HW} {pc : Nat} {L : List (Nat × Value)} {S : List Value}
theorem j_ones (G : Gd l R K m own cc nL H0 ret Qc w) {mem : Mm} {i : Int32} (hi : vp_in i 100) (hd : decode cc pc = .ok (.baload, 1)) (k : Jg K m nL H0 w (pc + 1) L (.int (nI (48 + ix i % 10)) :: S) mem) : Jg K m nL H0 w pc L (.int i :: .ref (kO K) :: S) mem := by
  obtain ⟨p, e, s, args, below, meth, c, rfl, hx, hb, hml, hown, hts, hK, rfl, hr, hlk⟩ := G
  intro H locs ls hP hS hl
  exact va_tb hx hb (hK.1.2.2.2.2.2.2.1.kept hK.2.2) hS hi rfl hd (k H locs ls hP hS hl)
theorem j_tens (G : Gd l R K m own cc nL H0 ret Qc w) {mem : Mm} {i : Int32} (hi : vp_in i 100) (hd : decode cc pc = .ok (.baload, 1)) (k : Jg K m nL H0 w (pc + 1) L (.int (nI (48 + ix i / 10)) :: S) mem) : Jg K m nL H0 w pc L (.int i :: .ref (kT K) :: S) mem := by
  obtain ⟨p, e, s, args, below, meth, c, rfl, hx, hb, hml, hown, hts, hK, rfl, hr, hlk⟩ := G
  intro H locs ls hP hS hl
  exact va_tb hx hb (hK.1.2.2.2.2.2.2.2.2.1.kept hK.2.2) hS hi rfl hd (k H locs ls hP hS hl)
def us (I : MI) (a : Nat) (f : Nat → Int32) (dp n : Nat) : MI := fun b => if b = a then va_cpy f (I a) 0 dp n else I b
theorem us_at (I : MI) (a : Nat) (f : Nat → Int32) (dp n : Nat) : us I a f dp n a = va_cpy f (I a) 0 dp n := by simp [us]
theorem us_ne (I : MI) {a b : Nat} (f : Nat → Int32) (dp n : Nat) (h : b ≠ a) : us I a f dp n b = I b := by simp [us, h]
theorem j_copyS (G : Gd l R K m own cc nL H0 ret Qc w) (hW : WFK K) {I : MI} {J : MJ} {B : MR} {a index j n1 d : Nat} (hj : j < 18) (h1 : kG K a = (21, n1)) (hd1 : d + sL j ≤ n1) (hn1 : n1 < 2147483648) (hfit : ∀ i, i < sL j → fits .byte (.int (sC j i)) = true)
    (g1 : Cond.methodLink own index arraycopyName ∈ gw) (g2 : Cond.native arraycopyName ∈ gw) (g3 : Cond.static arraycopyName ∈ gw) (g4 : Cond.initialized "java/lang/System" ∈ gw) (hf : 1 ≤ R.frames) (hlo : 48 ≤ R.locals) (hS : (S.map fun v => v.category).sum ≤ 8) (hd : decode cc pc = .ok (.invokestatic index, 3)) (k : Jg K m nL H0 w (pc + 3) L S (us I a (sC j) d (sL j), J, B)) : Jg K m nL H0 w pc L (.int (nI (sL j)) :: .int (nI d) :: .ref a :: .int 0 :: .ref (kV K j) :: S) (I, J, B) := by
  obtain ⟨p, e, s, args, below, meth, c, rfl, hx, hb, hml, hown, hts, hK, rfl, hr, hlk⟩ := G
  intro H locs ls hP hS2 hl
  have haL := hW.2.2.1 a (by rw [h1]; show 21 ≠ 0; omega)
  obtain ⟨q, hq⟩ := HP.idx (mem := (I, J, B)) haL
  have hE : ∀ mem : Mm, celE K mem a = _ := fun mem => celE_arr (mem := mem) h1 (by decide) (by decide) (by decide)
  have hw := cpy_words
  have hsl := sL_lt j hj
  have e1 : (nI (sL j)).toNatClampNeg = sL j := ixn (by omega)
  have e2 : (nI d).toNatClampNeg = d := ixn (by omega)
  refine vk_copyt (f := sC j) (g := I a) hx hb (hml.trans hl.1.symm) hown (hts _ g1) (hts _ g2) (hts _ g3) (hts _ g4) hK.1.1 hP (va_pl_D hW.2.2.2.1 (fun _ h => h)) hS2 ((hK.1.2.2.2.1.1 j hj).2.2.2.kept hK.2.2) q 1 (hq.trans (congrArg (fun e => some (a, e)) (hE _))) rfl (by decide) (nI_pos (by omega)) (nI_pos (by omega)) (by rw [sb_cl0, e1]; exact Nat.le_of_eq (Nat.zero_add _)) (by rw [e1, e2]; exact hd1) (fun i hi => by rw [sb_cl0, Nat.zero_add]; exact hfit i (by rw [← e1]; exact hi)) hf (by omega) hd (fun H1 locs1 hP1 _ hS1 => k H1 locs1 ls (HP.set hW haL hq hP1 ?_ (fun b hb => celE_congr (us_ne I _ _ _ hb) rfl rfl)) hS1 hl)
  rw [hE]
  dsimp only
  rw [us_at, e1, e2, sb_cl0]
end
theorem n100 : ∀ k, k < 100 → (¬ nI k < 0 ∧ (0 : Int32) ≤ nI k ∧ (-nI k ≤ (-10 : Int32) ↔ 10 ≤ k) ∧ ¬ -nI k ≤ (-100 : Int32) ∧ (-100 : Int32) < -nI k ∧ ((-9 : Int32) ≤ -nI k ↔ k ≤ 9) ∧ - -nI k = nI k) := by decide +kernel
theorem n1000 : ∀ k, k < 1000 → (¬ nI k < 0 ∧ (0 : Int32) ≤ nI k ∧ (-nI k ≤ (-10 : Int32) ↔ 10 ≤ k) ∧ (-nI k ≤ (-100 : Int32) ↔ 100 ≤ k) ∧ ¬ -nI k ≤ (-1000 : Int32) ∧ ((-100 : Int32) < -nI k ↔ k < 100)) := by decide +kernel
/-- a number's digits, below 1000 -/
def decs (k : Nat) : List Nat := if k < 10 then [48 + k] else if k < 100 then [48 + k / 10, 48 + k % 10] else [48 + k / 100, 48 + k % 100 / 10, 48 + k % 100 % 10]
set_option maxRecDepth 100000 in
theorem c_size1 (K : Kx) (hW : WFK K) (l : Launch) (k : Nat) (hy : k < 10) (mem : Mm) : Con K l yJ6_stringSize_0f7a4 (wsT yJ6_stringSize_0f7a4 cJ6_stringSize_0f7a4 4 (some .int)) rm0' [.int (nI k)] mem (va_Qi (S := Unit) (fun r _ => r = nI 1) (fun _ t => HP K mem t.heap) (AA K)) := by
  have hn := n100 k (by omega)
  refine Con.ofJ RJ6 rfl (by decide) (Nat.le_of_ble_eq_true rfl) (fun m H0 w G => ?_)
  show Jg K m 4 H0 w 0 [(0, .int (nI k))] [] mem
  refine j_iconst G (1 : Int32) dJ6_stringSize_0f7a4_0 (by decide) ?_
  refine j_istore_n G 1 [(1, .int (1 : Int32)), (0, .int (nI k))] dJ6_stringSize_0f7a4_1 rfl (by decide) rfl ?_
  refine j_iload_n G 1 0 dJ6_stringSize_0f7a4_2 rfl rfl ?_
  refine j_if_lt G 11 dJ6_stringSize_0f7a4_3 (by decide) (fun c => absurd c hn.1) (fun _ => ?_)
  refine j_iconst G (0 : Int32) dJ6_stringSize_0f7a4_6 (by decide) ?_
  refine j_istore_n G 1 [(1, .int (0 : Int32)), (0, .int (nI k))] dJ6_stringSize_0f7a4_7 rfl (by decide) rfl ?_
  refine j_iload_n G 1 0 dJ6_stringSize_0f7a4_8 rfl rfl ?_
  refine j_ineg G dJ6_stringSize_0f7a4_9 ?_
  refine j_istore_n G 0 [(0, .int (-nI k)), (1, .int (0 : Int32))] dJ6_stringSize_0f7a4_10 rfl (by decide) rfl ?_
  refine j_bipush G (-10 : Int32) dJ6_stringSize_0f7a4_11 (by decide) ?_
  refine j_istore_n G 2 [(2, .int (-10 : Int32)), (0, .int (-nI k)), (1, .int (0 : Int32))] dJ6_stringSize_0f7a4_13 rfl (by decide) rfl ?_
  refine j_iconst G (1 : Int32) dJ6_stringSize_0f7a4_14 (by decide) ?_
  refine j_istore_n G 3 [(3, .int (1 : Int32)), (2, .int (-10 : Int32)), (0, .int (-nI k)), (1, .int (0 : Int32))] dJ6_stringSize_0f7a4_15 rfl (by decide) rfl ?_
  refine j_iload_n G 0 3 dJ6_stringSize_0f7a4_16 rfl rfl ?_
  refine j_bipush G (10 : Int32) dJ6_stringSize_0f7a4_17 (by decide) ?_
  refine j_icmp_ge G 42 dJ6_stringSize_0f7a4_19 (by decide) (fun c => absurd c (by decide)) (fun _ => ?_)
  refine j_iload_n G 2 0 dJ6_stringSize_0f7a4_22 rfl rfl ?_
  refine j_iload_n G 1 2 dJ6_stringSize_0f7a4_23 rfl rfl ?_
  refine j_icmp_le G 31 dJ6_stringSize_0f7a4_24 (by decide) (fun c => absurd (hn.2.2.1.mp c) (by omega)) (fun _ => ?_)
  refine j_iload_n G 0 3 dJ6_stringSize_0f7a4_27 rfl rfl ?_
  refine j_iload_n G 3 1 dJ6_stringSize_0f7a4_28 rfl rfl ?_
  refine j_iadd G dJ6_stringSize_0f7a4_29 ?_
  exact j_reti G () rfl dJ6_stringSize_0f7a4_30 (by decide) rfl
set_option maxRecDepth 100000 in
theorem c_size2 (K : Kx) (hW : WFK K) (l : Launch) (k : Nat) (hy : 10 ≤ k ∧ k < 100) (mem : Mm) : Con K l yJ6_stringSize_0f7a4 (wsT yJ6_stringSize_0f7a4 cJ6_stringSize_0f7a4 4 (some .int)) rm0' [.int (nI k)] mem (va_Qi (S := Unit) (fun r _ => r = nI 2) (fun _ t => HP K mem t.heap) (AA K)) := by
  have hn := n100 k (by omega)
  refine Con.ofJ RJ6 rfl (by decide) (Nat.le_of_ble_eq_true rfl) (fun m H0 w G => ?_)
  show Jg K m 4 H0 w 0 [(0, .int (nI k))] [] mem
  refine j_iconst G (1 : Int32) dJ6_stringSize_0f7a4_0 (by decide) ?_
  refine j_istore_n G 1 [(1, .int (1 : Int32)), (0, .int (nI k))] dJ6_stringSize_0f7a4_1 rfl (by decide) rfl ?_
  refine j_iload_n G 1 0 dJ6_stringSize_0f7a4_2 rfl rfl ?_
  refine j_if_lt G 11 dJ6_stringSize_0f7a4_3 (by decide) (fun c => absurd c hn.1) (fun _ => ?_)
  refine j_iconst G (0 : Int32) dJ6_stringSize_0f7a4_6 (by decide) ?_
  refine j_istore_n G 1 [(1, .int (0 : Int32)), (0, .int (nI k))] dJ6_stringSize_0f7a4_7 rfl (by decide) rfl ?_
  refine j_iload_n G 1 0 dJ6_stringSize_0f7a4_8 rfl rfl ?_
  refine j_ineg G dJ6_stringSize_0f7a4_9 ?_
  refine j_istore_n G 0 [(0, .int (-nI k)), (1, .int (0 : Int32))] dJ6_stringSize_0f7a4_10 rfl (by decide) rfl ?_
  refine j_bipush G (-10 : Int32) dJ6_stringSize_0f7a4_11 (by decide) ?_
  refine j_istore_n G 2 [(2, .int (-10 : Int32)), (0, .int (-nI k)), (1, .int (0 : Int32))] dJ6_stringSize_0f7a4_13 rfl (by decide) rfl ?_
  refine j_iconst G (1 : Int32) dJ6_stringSize_0f7a4_14 (by decide) ?_
  refine j_istore_n G 3 [(3, .int (1 : Int32)), (2, .int (-10 : Int32)), (0, .int (-nI k)), (1, .int (0 : Int32))] dJ6_stringSize_0f7a4_15 rfl (by decide) rfl ?_
  refine j_iload_n G 0 3 dJ6_stringSize_0f7a4_16 rfl rfl ?_
  refine j_bipush G (10 : Int32) dJ6_stringSize_0f7a4_17 (by decide) ?_
  refine j_icmp_ge G 42 dJ6_stringSize_0f7a4_19 (by decide) (fun c => absurd c (by decide)) (fun _ => ?_)
  refine j_iload_n G 2 0 dJ6_stringSize_0f7a4_22 rfl rfl ?_
  refine j_iload_n G 1 2 dJ6_stringSize_0f7a4_23 rfl rfl ?_
  refine j_icmp_le G 31 dJ6_stringSize_0f7a4_24 (by decide) (fun _ => ?_) (fun c => absurd (hn.2.2.1.mpr hy.1) c)
  refine j_bipush G (10 : Int32) dJ6_stringSize_0f7a4_31 (by decide) ?_
  refine j_iload_n G 1 2 dJ6_stringSize_0f7a4_33 rfl rfl ?_
  refine j_imul G dJ6_stringSize_0f7a4_34 ?_
  rw [show (10 : Int32) * (-10) = -100 from by decide]
  refine j_istore_n G 2 [(2, .int (-100 : Int32)), (3, .int (1 : Int32)), (0, .int (-nI k)), (1, .int (0 : Int32))] dJ6_stringSize_0f7a4_35 rfl (by decide) rfl ?_
  refine j_iinc G 1 (2 : Int32) [(3, .int (2 : Int32)), (2, .int (-100 : Int32)), (0, .int (-nI k)), (1, .int (0 : Int32))] dJ6_stringSize_0f7a4_36 rfl (by decide) (by decide) rfl ?_
  refine j_goto G 16 dJ6_stringSize_0f7a4_39 (by decide) ?_
  refine j_iload_n G 0 3 dJ6_stringSize_0f7a4_16 rfl rfl ?_
  refine j_bipush G (10 : Int32) dJ6_stringSize_0f7a4_17 (by decide) ?_
  refine j_icmp_ge G 42 dJ6_stringSize_0f7a4_19 (by decide) (fun c => absurd c (by decide)) (fun _ => ?_)
  refine j_iload_n G 2 0 dJ6_stringSize_0f7a4_22 rfl rfl ?_
  refine j_iload_n G 1 2 dJ6_stringSize_0f7a4_23 rfl rfl ?_
  refine j_icmp_le G 31 dJ6_stringSize_0f7a4_24 (by decide) (fun c => absurd c hn.2.2.2.1) (fun _ => ?_)
  refine j_iload_n G 0 3 dJ6_stringSize_0f7a4_27 rfl rfl ?_
  refine j_iload_n G 3 1 dJ6_stringSize_0f7a4_28 rfl rfl ?_
  refine j_iadd G dJ6_stringSize_0f7a4_29 ?_
  exact j_reti G () rfl dJ6_stringSize_0f7a4_30 (by decide) rfl
set_option maxRecDepth 100000 in
theorem c_size3 (K : Kx) (hW : WFK K) (l : Launch) (k : Nat) (hy : 100 ≤ k ∧ k < 1000) (mem : Mm) : Con K l yJ6_stringSize_0f7a4 (wsT yJ6_stringSize_0f7a4 cJ6_stringSize_0f7a4 4 (some .int)) rm0' [.int (nI k)] mem (va_Qi (S := Unit) (fun r _ => r = nI 3) (fun _ t => HP K mem t.heap) (AA K)) := by
  have hn := n1000 k (by omega)
  refine Con.ofJ RJ6 rfl (by decide) (Nat.le_of_ble_eq_true rfl) (fun m H0 w G => ?_)
  show Jg K m 4 H0 w 0 [(0, .int (nI k))] [] mem
  refine j_iconst G (1 : Int32) dJ6_stringSize_0f7a4_0 (by decide) ?_
  refine j_istore_n G 1 [(1, .int (1 : Int32)), (0, .int (nI k))] dJ6_stringSize_0f7a4_1 rfl (by decide) rfl ?_
  refine j_iload_n G 1 0 dJ6_stringSize_0f7a4_2 rfl rfl ?_
  refine j_if_lt G 11 dJ6_stringSize_0f7a4_3 (by decide) (fun c => absurd c hn.1) (fun _ => ?_)
  refine j_iconst G (0 : Int32) dJ6_stringSize_0f7a4_6 (by decide) ?_
  refine j_istore_n G 1 [(1, .int (0 : Int32)), (0, .int (nI k))] dJ6_stringSize_0f7a4_7 rfl (by decide) rfl ?_
  refine j_iload_n G 1 0 dJ6_stringSize_0f7a4_8 rfl rfl ?_
  refine j_ineg G dJ6_stringSize_0f7a4_9 ?_
  refine j_istore_n G 0 [(0, .int (-nI k)), (1, .int (0 : Int32))] dJ6_stringSize_0f7a4_10 rfl (by decide) rfl ?_
  refine j_bipush G (-10 : Int32) dJ6_stringSize_0f7a4_11 (by decide) ?_
  refine j_istore_n G 2 [(2, .int (-10 : Int32)), (0, .int (-nI k)), (1, .int (0 : Int32))] dJ6_stringSize_0f7a4_13 rfl (by decide) rfl ?_
  refine j_iconst G (1 : Int32) dJ6_stringSize_0f7a4_14 (by decide) ?_
  refine j_istore_n G 3 [(3, .int (1 : Int32)), (2, .int (-10 : Int32)), (0, .int (-nI k)), (1, .int (0 : Int32))] dJ6_stringSize_0f7a4_15 rfl (by decide) rfl ?_
  refine j_iload_n G 0 3 dJ6_stringSize_0f7a4_16 rfl rfl ?_
  refine j_bipush G (10 : Int32) dJ6_stringSize_0f7a4_17 (by decide) ?_
  refine j_icmp_ge G 42 dJ6_stringSize_0f7a4_19 (by decide) (fun c => absurd c (by decide)) (fun _ => ?_)
  refine j_iload_n G 2 0 dJ6_stringSize_0f7a4_22 rfl rfl ?_
  refine j_iload_n G 1 2 dJ6_stringSize_0f7a4_23 rfl rfl ?_
  refine j_icmp_le G 31 dJ6_stringSize_0f7a4_24 (by decide) (fun _ => ?_) (fun c => absurd (hn.2.2.1.mpr (by omega)) c)
  refine j_bipush G (10 : Int32) dJ6_stringSize_0f7a4_31 (by decide) ?_
  refine j_iload_n G 1 2 dJ6_stringSize_0f7a4_33 rfl rfl ?_
  refine j_imul G dJ6_stringSize_0f7a4_34 ?_
  rw [show (10 : Int32) * (-10) = -100 from by decide]
  refine j_istore_n G 2 [(2, .int (-100 : Int32)), (3, .int (1 : Int32)), (0, .int (-nI k)), (1, .int (0 : Int32))] dJ6_stringSize_0f7a4_35 rfl (by decide) rfl ?_
  refine j_iinc G 1 (2 : Int32) [(3, .int (2 : Int32)), (2, .int (-100 : Int32)), (0, .int (-nI k)), (1, .int (0 : Int32))] dJ6_stringSize_0f7a4_36 rfl (by decide) (by decide) rfl ?_
  refine j_goto G 16 dJ6_stringSize_0f7a4_39 (by decide) ?_
  refine j_iload_n G 0 3 dJ6_stringSize_0f7a4_16 rfl rfl ?_
  refine j_bipush G (10 : Int32) dJ6_stringSize_0f7a4_17 (by decide) ?_
  refine j_icmp_ge G 42 dJ6_stringSize_0f7a4_19 (by decide) (fun c => absurd c (by decide)) (fun _ => ?_)
  refine j_iload_n G 2 0 dJ6_stringSize_0f7a4_22 rfl rfl ?_
  refine j_iload_n G 1 2 dJ6_stringSize_0f7a4_23 rfl rfl ?_
  refine j_icmp_le G 31 dJ6_stringSize_0f7a4_24 (by decide) (fun _ => ?_) (fun c => absurd (hn.2.2.2.1.mpr hy.1) c)
  refine j_bipush G (10 : Int32) dJ6_stringSize_0f7a4_31 (by decide) ?_
  refine j_iload_n G 1 2 dJ6_stringSize_0f7a4_33 rfl rfl ?_
  refine j_imul G dJ6_stringSize_0f7a4_34 ?_
  rw [show (10 : Int32) * (-100) = -1000 from by decide]
  refine j_istore_n G 2 [(2, .int (-1000 : Int32)), (3, .int (2 : Int32)), (0, .int (-nI k)), (1, .int (0 : Int32))] dJ6_stringSize_0f7a4_35 rfl (by decide) rfl ?_
  refine j_iinc G 1 (3 : Int32) [(3, .int (3 : Int32)), (2, .int (-1000 : Int32)), (0, .int (-nI k)), (1, .int (0 : Int32))] dJ6_stringSize_0f7a4_36 rfl (by decide) (by decide) rfl ?_
  refine j_goto G 16 dJ6_stringSize_0f7a4_39 (by decide) ?_
  refine j_iload_n G 0 3 dJ6_stringSize_0f7a4_16 rfl rfl ?_
  refine j_bipush G (10 : Int32) dJ6_stringSize_0f7a4_17 (by decide) ?_
  refine j_icmp_ge G 42 dJ6_stringSize_0f7a4_19 (by decide) (fun c => absurd c (by decide)) (fun _ => ?_)
  refine j_iload_n G 2 0 dJ6_stringSize_0f7a4_22 rfl rfl ?_
  refine j_iload_n G 1 2 dJ6_stringSize_0f7a4_23 rfl rfl ?_
  refine j_icmp_le G 31 dJ6_stringSize_0f7a4_24 (by decide) (fun c => absurd c hn.2.2.2.2.1) (fun _ => ?_)
  refine j_iload_n G 0 3 dJ6_stringSize_0f7a4_27 rfl rfl ?_
  refine j_iload_n G 3 1 dJ6_stringSize_0f7a4_28 rfl rfl ?_
  refine j_iadd G dJ6_stringSize_0f7a4_29 ?_
  exact j_reti G () rfl dJ6_stringSize_0f7a4_30 (by decide) rfl
set_option maxRecDepth 100000 in
theorem c_getC3 (K : Kx) (hW : WFK K) (l : Launch) (v : Nat) (hv : kG K v = (21, 16)) (I : MI) (J : MJ) (B : MR) (n k : Nat) (hy : 100 ≤ k ∧ k < 1000) (hl : n + 3 ≤ 16) (Q : MI → Prop) (hQ : Q (ui (ui (ui I v (n + 2) (nI (48 + k % 100 % 10))) v (n + 1) (nI (48 + k % 100 / 10))) v n (nI (48 + k / 100)))) : Con K l yJ6_getChars_ba4f3 (wsT yJ6_getChars_ba4f3 cJ6_getChars_ba4f3 7 (some .int)) rm0' [.int (nI k), .int (nI (n + 3)), .ref v] (I, J, B) (va_Qi (S := MI) (fun _ u => Q u) (fun u t => HP K (u, J, B) t.heap) (AA K)) := by
  have hn := n1000 k (by omega)
  have hn2 := n100 (k / 100) (by omega)
  refine Con.ofJ RJ6 rfl (by decide) (Nat.le_of_ble_eq_true rfl) (fun m H0 w G => ?_)
  show Jg K m 7 H0 w 0 [(0, .int (nI k)), (1, .int (nI (n + 3))), (2, .ref v)] [] (I, J, B)
  refine j_iload_n G 1 1 dJ6_getChars_ba4f3_0 rfl rfl ?_
  refine j_istore G [(5, .int (nI (n + 3))), (0, .int (nI k)), (1, .int (nI (n + 3))), (2, .ref v)] dJ6_getChars_ba4f3_1 (by decide) rfl ?_
  refine j_iload_n G 1 0 dJ6_getChars_ba4f3_3 rfl rfl ?_
  refine j_if_ge G 11 dJ6_getChars_ba4f3_4 (by decide) (fun _ => ?_) (fun c => absurd hn.2.1 c)
  refine j_iconst G (0 : Int32) dJ6_getChars_ba4f3_11 (by decide) ?_
  refine j_istore G [(6, .int (0 : Int32)), (5, .int (nI (n + 3))), (0, .int (nI k)), (1, .int (nI (n + 3))), (2, .ref v)] dJ6_getChars_ba4f3_12 (by decide) rfl ?_
  refine j_iload G 0 dJ6_getChars_ba4f3_14 rfl ?_
  refine j_if_ne G 22 dJ6_getChars_ba4f3_16 (by decide) (fun c => absurd rfl c) (fun _ => ?_)
  refine j_iload_n G 2 0 dJ6_getChars_ba4f3_19 rfl rfl ?_
  refine j_ineg G dJ6_getChars_ba4f3_20 ?_
  refine j_istore_n G 0 [(0, .int (-nI k)), (6, .int (0 : Int32)), (5, .int (nI (n + 3))), (1, .int (nI (n + 3))), (2, .ref v)] dJ6_getChars_ba4f3_21 rfl (by decide) rfl ?_
  refine j_iload_n G 0 0 dJ6_getChars_ba4f3_22 rfl rfl ?_
  refine j_bipush G (-100 : Int32) dJ6_getChars_ba4f3_23 (by decide) ?_
  refine j_icmp_gt G 72 dJ6_getChars_ba4f3_25 (by decide) (fun c => absurd (hn.2.2.2.2.2.mp c) (by omega)) (fun _ => ?_)
  refine j_iload_n G 0 0 dJ6_getChars_ba4f3_28 rfl rfl ?_
  refine j_bipush G (100 : Int32) dJ6_getChars_ba4f3_29 (by decide) ?_
  refine j_idiv G (by decide) dJ6_getChars_ba4f3_31 ?_
  rw [sb_ndiv (by omega)]
  refine j_istore_n G 3 [(3, .int (-nI (k / 100))), (0, .int (-nI k)), (6, .int (0 : Int32)), (5, .int (nI (n + 3))), (1, .int (nI (n + 3))), (2, .ref v)] dJ6_getChars_ba4f3_32 rfl (by decide) rfl ?_
  refine j_iload_n G 0 3 dJ6_getChars_ba4f3_33 rfl rfl ?_
  refine j_bipush G (100 : Int32) dJ6_getChars_ba4f3_34 (by decide) ?_
  refine j_imul G dJ6_getChars_ba4f3_36 ?_
  refine j_iload_n G 1 0 dJ6_getChars_ba4f3_37 rfl rfl ?_
  refine j_isub G dJ6_getChars_ba4f3_38 ?_
  rw [sb_nrem (by omega)]
  refine j_istore G [(4, .int (nI (k % 100))), (3, .int (-nI (k / 100))), (0, .int (-nI k)), (6, .int (0 : Int32)), (5, .int (nI (n + 3))), (1, .int (nI (n + 3))), (2, .ref v)] dJ6_getChars_ba4f3_39 (by decide) rfl ?_
  refine j_iload_n G 1 3 dJ6_getChars_ba4f3_41 rfl rfl ?_
  refine j_istore_n G 0 [(0, .int (-nI (k / 100))), (4, .int (nI (k % 100))), (3, .int (-nI (k / 100))), (6, .int (0 : Int32)), (5, .int (nI (n + 3))), (1, .int (nI (n + 3))), (2, .ref v)] dJ6_getChars_ba4f3_42 rfl (by decide) rfl ?_
  refine j_aload_n G 6 2 dJ6_getChars_ba4f3_43 rfl rfl ?_
  refine j_iinc G 4 (nI (n + 2)) [(5, .int (nI (n + 2))), (0, .int (-nI (k / 100))), (4, .int (nI (k % 100))), (3, .int (-nI (k / 100))), (6, .int (0 : Int32)), (1, .int (nI (n + 3))), (2, .ref v)] dJ6_getChars_ba4f3_44 rfl (sb_m1 (by omega)) (by decide) rfl ?_
  refine j_iload G 0 dJ6_getChars_ba4f3_47 rfl ?_
  refine j_gets G (fun U h => h.2.2.2.1) fl_J6_83 rfl dJ6_getChars_ba4f3_49 ?_
  refine j_iload G 2 dJ6_getChars_ba4f3_52 rfl ?_
  refine j_ones G (inn (by omega) (by omega)) dJ6_getChars_ba4f3_54 ?_
  refine j_bast G hW hv (inn (by omega) (by omega)) dJ6_getChars_ba4f3_55 ?_
  refine j_aload_n G 6 2 dJ6_getChars_ba4f3_56 rfl rfl ?_
  refine j_iinc G 0 (nI (n + 1)) [(5, .int (nI (n + 1))), (0, .int (-nI (k / 100))), (4, .int (nI (k % 100))), (3, .int (-nI (k / 100))), (6, .int (0 : Int32)), (1, .int (nI (n + 3))), (2, .ref v)] dJ6_getChars_ba4f3_57 rfl (sb_m1 (by omega)) (by decide) rfl ?_
  refine j_iload G 0 dJ6_getChars_ba4f3_60 rfl ?_
  refine j_gets G (fun U h => h.2.2.2.2.2.1) fl_J6_87 rfl dJ6_getChars_ba4f3_62 ?_
  refine j_iload G 2 dJ6_getChars_ba4f3_65 rfl ?_
  refine j_tens G (inn (by omega) (by omega)) dJ6_getChars_ba4f3_67 ?_
  refine j_bast G hW hv (inn (by omega) (by omega)) dJ6_getChars_ba4f3_68 ?_
  refine j_goto G 22 dJ6_getChars_ba4f3_69 (by decide) ?_
  refine j_iload_n G 1 0 dJ6_getChars_ba4f3_22 rfl rfl ?_
  refine j_bipush G (-100 : Int32) dJ6_getChars_ba4f3_23 (by decide) ?_
  refine j_icmp_gt G 72 dJ6_getChars_ba4f3_25 (by decide) (fun _ => ?_) (fun c => absurd hn2.2.2.2.2.1 c)
  refine j_aload_n G 6 2 dJ6_getChars_ba4f3_72 rfl rfl ?_
  refine j_iinc G 0 (nI n) [(5, .int (nI n)), (0, .int (-nI (k / 100))), (4, .int (nI (k % 100))), (3, .int (-nI (k / 100))), (6, .int (0 : Int32)), (1, .int (nI (n + 3))), (2, .ref v)] dJ6_getChars_ba4f3_73 rfl (sb_m1 (by omega)) (by decide) rfl ?_
  refine j_iload G 0 dJ6_getChars_ba4f3_76 rfl ?_
  refine j_gets G (fun U h => h.2.2.2.1) fl_J6_83 rfl dJ6_getChars_ba4f3_78 ?_
  refine j_iload_n G 1 0 dJ6_getChars_ba4f3_81 rfl rfl ?_
  refine j_ineg G dJ6_getChars_ba4f3_82 ?_
  rw [hn2.2.2.2.2.2.2]
  refine j_ones G (inn (by omega) (by omega)) dJ6_getChars_ba4f3_83 ?_
  refine j_bast G hW hv (inn (by omega) (by omega)) dJ6_getChars_ba4f3_84 ?_
  refine j_iload_n G 1 0 dJ6_getChars_ba4f3_85 rfl rfl ?_
  refine j_bipush G (-9 : Int32) dJ6_getChars_ba4f3_86 (by decide) ?_
  refine j_icmp_ge G 104 dJ6_getChars_ba4f3_88 (by decide) (fun _ => ?_) (fun c => absurd (hn2.2.2.2.2.2.1.mpr (by omega)) c)
  refine j_iload G 4 dJ6_getChars_ba4f3_104 rfl ?_
  refine j_if_eq G 118 dJ6_getChars_ba4f3_106 (by decide) (fun _ => ?_) (fun c => absurd rfl c)
  refine j_iload G 0 dJ6_getChars_ba4f3_118 rfl ?_
  refine j_reti G (st := fun u => (u, J, B)) _ rfl dJ6_getChars_ba4f3_120 ?_ rfl
  rw [ixn (by omega), ixn (by omega), ixn (by omega), ixn (by omega), ixn (by omega), (bt128 (48 + k % 100 % 10) (by omega)).2.1, (bt128 (48 + k % 100 / 10) (by omega)).2.1, (bt128 (48 + k / 100 % 10) (by omega)).2.1, Nat.mod_eq_of_lt (show k / 100 < 10 by omega)]
  exact hQ
set_option maxRecDepth 100000 in
theorem c_getC1 (K : Kx) (hW : WFK K) (l : Launch) (v : Nat) (hv : kG K v = (21, 16)) (I : MI) (J : MJ) (B : MR) (n k : Nat) (hy : k < 10) (hl : n + 1 ≤ 16) (Q : MI → Prop) (hQ : Q (ui I v n (nI (48 + k)))) : Con K l yJ6_getChars_ba4f3 (wsT yJ6_getChars_ba4f3 cJ6_getChars_ba4f3 7 (some .int)) rm0' [.int (nI k), .int (nI (n + 1)), .ref v] (I, J, B) (va_Qi (S := MI) (fun _ u => Q u) (fun u t => HP K (u, J, B) t.heap) (AA K)) := by
  have hn := n100 k (by omega)
  refine Con.ofJ RJ6 rfl (by decide) (Nat.le_of_ble_eq_true rfl) (fun m H0 w G => ?_)
  show Jg K m 7 H0 w 0 [(0, .int (nI k)), (1, .int (nI (n + 1))), (2, .ref v)] [] (I, J, B)
  refine j_iload_n G 1 1 dJ6_getChars_ba4f3_0 rfl rfl ?_
  refine j_istore G [(5, .int (nI (n + 1))), (0, .int (nI k)), (1, .int (nI (n + 1))), (2, .ref v)] dJ6_getChars_ba4f3_1 (by decide) rfl ?_
  refine j_iload_n G 1 0 dJ6_getChars_ba4f3_3 rfl rfl ?_
  refine j_if_ge G 11 dJ6_getChars_ba4f3_4 (by decide) (fun _ => ?_) (fun c => absurd hn.2.1 c)
  refine j_iconst G (0 : Int32) dJ6_getChars_ba4f3_11 (by decide) ?_
  refine j_istore G [(6, .int (0 : Int32)), (5, .int (nI (n + 1))), (0, .int (nI k)), (1, .int (nI (n + 1))), (2, .ref v)] dJ6_getChars_ba4f3_12 (by decide) rfl ?_
  refine j_iload G 0 dJ6_getChars_ba4f3_14 rfl ?_
  refine j_if_ne G 22 dJ6_getChars_ba4f3_16 (by decide) (fun c => absurd rfl c) (fun _ => ?_)
  refine j_iload_n G 2 0 dJ6_getChars_ba4f3_19 rfl rfl ?_
  refine j_ineg G dJ6_getChars_ba4f3_20 ?_
  refine j_istore_n G 0 [(0, .int (-nI k)), (6, .int (0 : Int32)), (5, .int (nI (n + 1))), (1, .int (nI (n + 1))), (2, .ref v)] dJ6_getChars_ba4f3_21 rfl (by decide) rfl ?_
  refine j_iload_n G 0 0 dJ6_getChars_ba4f3_22 rfl rfl ?_
  refine j_bipush G (-100 : Int32) dJ6_getChars_ba4f3_23 (by decide) ?_
  refine j_icmp_gt G 72 dJ6_getChars_ba4f3_25 (by decide) (fun _ => ?_) (fun c => absurd hn.2.2.2.2.1 c)
  refine j_aload_n G 4 2 dJ6_getChars_ba4f3_72 rfl rfl ?_
  refine j_iinc G 2 (nI (n + 0)) [(5, .int (nI (n + 0))), (0, .int (-nI k)), (6, .int (0 : Int32)), (1, .int (nI (n + 1))), (2, .ref v)] dJ6_getChars_ba4f3_73 rfl (sb_m1 (by omega)) (by decide) rfl ?_
  refine j_iload G 0 dJ6_getChars_ba4f3_76 rfl ?_
  refine j_gets G (fun U h => h.2.2.2.1) fl_J6_83 rfl dJ6_getChars_ba4f3_78 ?_
  refine j_iload_n G 1 0 dJ6_getChars_ba4f3_81 rfl rfl ?_
  refine j_ineg G dJ6_getChars_ba4f3_82 ?_
  rw [hn.2.2.2.2.2.2]
  refine j_ones G (inn (by omega) (by omega)) dJ6_getChars_ba4f3_83 ?_
  refine j_bast G hW hv (inn (by omega) (by omega)) dJ6_getChars_ba4f3_84 ?_
  refine j_iload_n G 1 0 dJ6_getChars_ba4f3_85 rfl rfl ?_
  refine j_bipush G (-9 : Int32) dJ6_getChars_ba4f3_86 (by decide) ?_
  refine j_icmp_ge G 104 dJ6_getChars_ba4f3_88 (by decide) (fun _ => ?_) (fun c => absurd (hn.2.2.2.2.2.1.mpr (by omega)) c)
  refine j_iload G 2 dJ6_getChars_ba4f3_104 rfl ?_
  refine j_if_eq G 118 dJ6_getChars_ba4f3_106 (by decide) (fun _ => ?_) (fun c => absurd rfl c)
  refine j_iload G 0 dJ6_getChars_ba4f3_118 rfl ?_
  refine j_reti G (st := fun u => (u, J, B)) _ rfl dJ6_getChars_ba4f3_120 ?_ rfl
  rw [ixn (by omega), ixn (by omega), (bt128 _ (by omega)).2.1, Nat.mod_eq_of_lt hy]
  exact hQ
set_option maxRecDepth 100000 in
theorem c_getC2 (K : Kx) (hW : WFK K) (l : Launch) (v : Nat) (hv : kG K v = (21, 16)) (I : MI) (J : MJ) (B : MR) (n k : Nat) (hy : 10 ≤ k ∧ k < 100) (hl : n + 2 ≤ 16) (Q : MI → Prop) (hQ : Q (ui (ui I v (n + 1) (nI (48 + k % 10))) v n (nI (48 + k / 10)))) : Con K l yJ6_getChars_ba4f3 (wsT yJ6_getChars_ba4f3 cJ6_getChars_ba4f3 7 (some .int)) rm0' [.int (nI k), .int (nI (n + 2)), .ref v] (I, J, B) (va_Qi (S := MI) (fun _ u => Q u) (fun u t => HP K (u, J, B) t.heap) (AA K)) := by
  have hn := n100 k (by omega)
  refine Con.ofJ RJ6 rfl (by decide) (Nat.le_of_ble_eq_true rfl) (fun m H0 w G => ?_)
  show Jg K m 7 H0 w 0 [(0, .int (nI k)), (1, .int (nI (n + 2))), (2, .ref v)] [] (I, J, B)
  refine j_iload_n G 1 1 dJ6_getChars_ba4f3_0 rfl rfl ?_
  refine j_istore G [(5, .int (nI (n + 2))), (0, .int (nI k)), (1, .int (nI (n + 2))), (2, .ref v)] dJ6_getChars_ba4f3_1 (by decide) rfl ?_
  refine j_iload_n G 1 0 dJ6_getChars_ba4f3_3 rfl rfl ?_
  refine j_if_ge G 11 dJ6_getChars_ba4f3_4 (by decide) (fun _ => ?_) (fun c => absurd hn.2.1 c)
  refine j_iconst G (0 : Int32) dJ6_getChars_ba4f3_11 (by decide) ?_
  refine j_istore G [(6, .int (0 : Int32)), (5, .int (nI (n + 2))), (0, .int (nI k)), (1, .int (nI (n + 2))), (2, .ref v)] dJ6_getChars_ba4f3_12 (by decide) rfl ?_
  refine j_iload G 0 dJ6_getChars_ba4f3_14 rfl ?_
  refine j_if_ne G 22 dJ6_getChars_ba4f3_16 (by decide) (fun c => absurd rfl c) (fun _ => ?_)
  refine j_iload_n G 2 0 dJ6_getChars_ba4f3_19 rfl rfl ?_
  refine j_ineg G dJ6_getChars_ba4f3_20 ?_
  refine j_istore_n G 0 [(0, .int (-nI k)), (6, .int (0 : Int32)), (5, .int (nI (n + 2))), (1, .int (nI (n + 2))), (2, .ref v)] dJ6_getChars_ba4f3_21 rfl (by decide) rfl ?_
  refine j_iload_n G 0 0 dJ6_getChars_ba4f3_22 rfl rfl ?_
  refine j_bipush G (-100 : Int32) dJ6_getChars_ba4f3_23 (by decide) ?_
  refine j_icmp_gt G 72 dJ6_getChars_ba4f3_25 (by decide) (fun _ => ?_) (fun c => absurd hn.2.2.2.2.1 c)
  refine j_aload_n G 4 2 dJ6_getChars_ba4f3_72 rfl rfl ?_
  refine j_iinc G 2 (nI (n + 1)) [(5, .int (nI (n + 1))), (0, .int (-nI k)), (6, .int (0 : Int32)), (1, .int (nI (n + 2))), (2, .ref v)] dJ6_getChars_ba4f3_73 rfl (sb_m1 (by omega)) (by decide) rfl ?_
  refine j_iload G 0 dJ6_getChars_ba4f3_76 rfl ?_
  refine j_gets G (fun U h => h.2.2.2.1) fl_J6_83 rfl dJ6_getChars_ba4f3_78 ?_
  refine j_iload_n G 1 0 dJ6_getChars_ba4f3_81 rfl rfl ?_
  refine j_ineg G dJ6_getChars_ba4f3_82 ?_
  rw [hn.2.2.2.2.2.2]
  refine j_ones G (inn (by omega) (by omega)) dJ6_getChars_ba4f3_83 ?_
  refine j_bast G hW hv (inn (by omega) (by omega)) dJ6_getChars_ba4f3_84 ?_
  refine j_iload_n G 1 0 dJ6_getChars_ba4f3_85 rfl rfl ?_
  refine j_bipush G (-9 : Int32) dJ6_getChars_ba4f3_86 (by decide) ?_
  refine j_icmp_ge G 104 dJ6_getChars_ba4f3_88 (by decide) (fun c => absurd (hn.2.2.2.2.2.1.mp c) (by omega)) (fun _ => ?_)
  refine j_aload_n G 4 2 dJ6_getChars_ba4f3_91 rfl rfl ?_
  refine j_iinc G 0 (nI n) [(5, .int (nI n)), (0, .int (-nI k)), (6, .int (0 : Int32)), (1, .int (nI (n + 2))), (2, .ref v)] dJ6_getChars_ba4f3_92 rfl (sb_m1 (by omega)) (by decide) rfl ?_
  refine j_iload G 0 dJ6_getChars_ba4f3_95 rfl ?_
  refine j_gets G (fun U h => h.2.2.2.2.2.1) fl_J6_87 rfl dJ6_getChars_ba4f3_97 ?_
  refine j_iload_n G 1 0 dJ6_getChars_ba4f3_100 rfl rfl ?_
  refine j_ineg G dJ6_getChars_ba4f3_101 ?_
  rw [hn.2.2.2.2.2.2]
  refine j_tens G (inn (by omega) (by omega)) dJ6_getChars_ba4f3_102 ?_
  refine j_bast G hW hv (inn (by omega) (by omega)) dJ6_getChars_ba4f3_103 ?_
  refine j_iload G 2 dJ6_getChars_ba4f3_104 rfl ?_
  refine j_if_eq G 118 dJ6_getChars_ba4f3_106 (by decide) (fun _ => ?_) (fun c => absurd rfl c)
  refine j_iload G 0 dJ6_getChars_ba4f3_118 rfl ?_
  refine j_reti G (st := fun u => (u, J, B)) _ rfl dJ6_getChars_ba4f3_120 ?_ rfl
  rw [ixn (by omega), ixn (by omega), ixn (by omega), (bt128 (48 + k % 10) (by omega)).2.1, (bt128 (48 + k / 10) (by omega)).2.1]
  exact hQ
abbrev rm26 : Room := { frames := 1, cells := 0, slots := 0, locals := 26 }
abbrev rm49 : Room := { frames := 2, cells := 0, slots := 0, locals := 49 }
set_option maxRecDepth 100000 in
theorem c_appI5a (K : Kx) (hW : WFK K) (l : Launch) (b : Nat) (hk : (kG K b).1 = 1) (I : MI) (J : MJ) (B : MR) (t : List Nat) (hS : SbT b I t) (k : Nat) (hy : k < 10) (hl : t.length + 1 ≤ 16) (Q : MI → Prop) (hQ : ∀ I', SbT b I' (t ++ [48 + k]) → SbF b I I' → Q I') : Con K l yJ5_append_c97b9 (wsT yJ5_append_c97b9 cJ5_append_c97b9 4 (some (.object "java/lang/AbstractStringBuilder"))) rm26 [.ref b, .int (nI k)] (I, J, B) (va_Qr (S := MI) Q (fun u _ t => True ∧ HP K (u, J, B) t.heap) (AA K)) := by
  refine Con.ofJ RJ5 rfl (by decide) (Nat.le_of_ble_eq_true rfl) (fun m H0 w G => ?_)
  show Jg K m 4 H0 w 0 [(0, .ref b), (1, .int (nI k))] [] (I, J, B)
  refine j_aload_n G 0 0 dJ5_append_c97b9_0 rfl rfl ?_
  refine j_get G hW 0 3 0 (.int _) hk (by decide) rfl (by decide) rfl lay_J4 fl_J5_79 rfl (congrArg Value.int hS.2.1) dJ5_append_c97b9_1 ?_
  refine j_istore_n G 2 [(2, .int (nI t.length)), (0, .ref b), (1, .int (nI k))] dJ5_append_c97b9_4 rfl (by decide) rfl ?_
  refine j_iload_n G 0 2 dJ5_append_c97b9_5 rfl rfl ?_
  refine j_iload_n G 2 1 dJ5_append_c97b9_6 rfl rfl ?_
  refine j_ci (rn_S G (n := 1) (As := [.int (nI k)]) (rest := [.int (nI t.length)]) (c_size1 K hW l k hy (I, J, B)) ml_J5_245 st_J6_stringSize_0f7a4 in_J6 co_J6_stringSize_0f7a4 (by decide +kernel) rfl rfl (by decide) (by decide) rfl rfl (Nat.le_of_ble_eq_true rfl) dJ5_append_c97b9_7) (fun r _ h => ?_)
  subst h
  refine j_iadd G dJ5_append_c97b9_10 ?_
  rw [nI_add]
  refine j_istore_n G 3 [(3, .int (nI (t.length + 1))), (2, .int (nI t.length)), (0, .ref b), (1, .int (nI k))] dJ5_append_c97b9_11 rfl (by decide) rfl ?_
  refine j_aload_n G 2 0 dJ5_append_c97b9_12 rfl rfl ?_
  refine j_iload_n G 0 3 dJ5_append_c97b9_13 rfl rfl ?_
  refine j_cv (rn_U G hW (n := 1) (As := [.int (nI (t.length + 1))]) (rest := []) (c_ens K hW l b hk I J B hS.1 (t.length + 1) (by omega)) hk ml_J5_100 sm_ens (Or.inr (by decide)) im_J5_ensureCapacityInternal_d00df in_J5 co_J5_ensureCapacityInternal_d00df (by decide +kernel) rfl rfl (by decide) (by decide) rfl rfl (Nat.le_of_ble_eq_true rfl) dJ5_append_c97b9_14) (fun _ _ => ?_)
  refine j_aload_n G 2 0 dJ5_append_c97b9_17 rfl rfl ?_
  refine j_ci (rn_U G hW (n := 0) (As := []) (rest := []) (c_isLat K hW l b hk I J B hS.1) hk ml_J5_83 sm_lat (Or.inl se_lat) im_J5_isLatin1_aae02 in_J5 co_J5_isLatin1_aae02 (by decide +kernel) rfl rfl (by decide) (by decide) rfl rfl (Nat.le_of_ble_eq_true rfl) dJ5_append_c97b9_18) (fun r _ h => ?_)
  subst h
  refine j_if_eq G 37 dJ5_append_c97b9_21 (by decide) (fun c => absurd c (by decide)) (fun _ => ?_)
  refine j_iload_n G 3 1 dJ5_append_c97b9_24 rfl rfl ?_
  refine j_iload_n G 0 3 dJ5_append_c97b9_25 rfl rfl ?_
  refine j_aload_n G 2 0 dJ5_append_c97b9_26 rfl rfl ?_
  refine j_get G hW 0 0 4 (.ref (b + 1)) hk (by decide) rfl (by decide) rfl lay_J4 fl_J5_15 rfl rfl dJ5_append_c97b9_27 ?_
  refine j_ci (rn_S G (n := 3) (As := [.int (nI k), .int (nI (t.length + 1)), .ref (b + 1)]) (rest := []) (c_getC1 K hW l (b + 1) (wk_1_1 hW hk) I J B t.length k hy hl (fun u => u = _) rfl) ml_J5_248 st_J6_getChars_ba4f3 in_J6 co_J6_getChars_ba4f3 (by decide +kernel) rfl rfl (by decide) (by decide) rfl rfl (Nat.le_of_ble_eq_true rfl) dJ5_append_c97b9_30) (fun r u h => ?_)
  subst h
  refine j_pop G rfl dJ5_append_c97b9_33 ?_
  refine j_goto G 48 dJ5_append_c97b9_34 (by decide) ?_
  refine j_aload_n G 2 0 dJ5_append_c97b9_48 rfl rfl ?_
  refine j_iload_n G 0 3 dJ5_append_c97b9_49 rfl rfl ?_
  refine j_put G hW 0 3 (v := nI (t.length + 1)) tyJ4 (tyJ4 3) tyJ4_ok nmJ4 hk (by decide) rfl (by decide) rfl lay_J4 fl_J5_79 rfl rfl (tyJ4_ok 3 (by decide)) rfl rfl dJ5_append_c97b9_50 ?_
  refine j_aload_n G 2 0 dJ5_append_c97b9_53 rfl rfl ?_
  refine j_reta G (g := fun _ _ => True) (st := fun u => (u, J, B)) _ (Or.inl ⟨_, rfl⟩) dJ5_append_c97b9_54 (hQ _ ?_ ?_) trivial rfl
  · refine hS.app (fun i c' hi => ?_) hl (by rw [ui_gj _ _ _ (by omega), ui_gn _ _ _ _ (by omega)]; exact hS.1) (by rw [ui_gs]; rfl) (fun j hj => by rw [ui_gn _ _ _ _ (by omega), ui_gj _ _ _ (by omega)])
    cases i with
    | zero => cases hi; exact ⟨by omega, by rw [ui_gn _ _ _ _ (by omega)]; exact ui_gs _ _ _ _⟩
    | succ i => simp at hi
  · intro x h1 h2; rw [ui_ne _ _ _ h1, ui_ne _ _ _ h2]
set_option maxRecDepth 100000 in
theorem c_appI5b (K : Kx) (hW : WFK K) (l : Launch) (b : Nat) (hk : (kG K b).1 = 1) (I : MI) (J : MJ) (B : MR) (t : List Nat) (hS : SbT b I t) (k : Nat) (hy : 10 ≤ k ∧ k < 100) (hl : t.length + 2 ≤ 16) (Q : MI → Prop) (hQ : ∀ I', SbT b I' (t ++ [48 + k / 10, 48 + k % 10]) → SbF b I I' → Q I') : Con K l yJ5_append_c97b9 (wsT yJ5_append_c97b9 cJ5_append_c97b9 4 (some (.object "java/lang/AbstractStringBuilder"))) rm26 [.ref b, .int (nI k)] (I, J, B) (va_Qr (S := MI) Q (fun u _ t => True ∧ HP K (u, J, B) t.heap) (AA K)) := by
  refine Con.ofJ RJ5 rfl (by decide) (Nat.le_of_ble_eq_true rfl) (fun m H0 w G => ?_)
  show Jg K m 4 H0 w 0 [(0, .ref b), (1, .int (nI k))] [] (I, J, B)
  refine j_aload_n G 0 0 dJ5_append_c97b9_0 rfl rfl ?_
  refine j_get G hW 0 3 0 (.int _) hk (by decide) rfl (by decide) rfl lay_J4 fl_J5_79 rfl (congrArg Value.int hS.2.1) dJ5_append_c97b9_1 ?_
  refine j_istore_n G 2 [(2, .int (nI t.length)), (0, .ref b), (1, .int (nI k))] dJ5_append_c97b9_4 rfl (by decide) rfl ?_
  refine j_iload_n G 0 2 dJ5_append_c97b9_5 rfl rfl ?_
  refine j_iload_n G 2 1 dJ5_append_c97b9_6 rfl rfl ?_
  refine j_ci (rn_S G (n := 1) (As := [.int (nI k)]) (rest := [.int (nI t.length)]) (c_size2 K hW l k hy (I, J, B)) ml_J5_245 st_J6_stringSize_0f7a4 in_J6 co_J6_stringSize_0f7a4 (by decide +kernel) rfl rfl (by decide) (by decide) rfl rfl (Nat.le_of_ble_eq_true rfl) dJ5_append_c97b9_7) (fun r _ h => ?_)
  subst h
  refine j_iadd G dJ5_append_c97b9_10 ?_
  rw [nI_add]
  refine j_istore_n G 3 [(3, .int (nI (t.length + 2))), (2, .int (nI t.length)), (0, .ref b), (1, .int (nI k))] dJ5_append_c97b9_11 rfl (by decide) rfl ?_
  refine j_aload_n G 2 0 dJ5_append_c97b9_12 rfl rfl ?_
  refine j_iload_n G 0 3 dJ5_append_c97b9_13 rfl rfl ?_
  refine j_cv (rn_U G hW (n := 1) (As := [.int (nI (t.length + 2))]) (rest := []) (c_ens K hW l b hk I J B hS.1 (t.length + 2) (by omega)) hk ml_J5_100 sm_ens (Or.inr (by decide)) im_J5_ensureCapacityInternal_d00df in_J5 co_J5_ensureCapacityInternal_d00df (by decide +kernel) rfl rfl (by decide) (by decide) rfl rfl (Nat.le_of_ble_eq_true rfl) dJ5_append_c97b9_14) (fun _ _ => ?_)
  refine j_aload_n G 2 0 dJ5_append_c97b9_17 rfl rfl ?_
  refine j_ci (rn_U G hW (n := 0) (As := []) (rest := []) (c_isLat K hW l b hk I J B hS.1) hk ml_J5_83 sm_lat (Or.inl se_lat) im_J5_isLatin1_aae02 in_J5 co_J5_isLatin1_aae02 (by decide +kernel) rfl rfl (by decide) (by decide) rfl rfl (Nat.le_of_ble_eq_true rfl) dJ5_append_c97b9_18) (fun r _ h => ?_)
  subst h
  refine j_if_eq G 37 dJ5_append_c97b9_21 (by decide) (fun c => absurd c (by decide)) (fun _ => ?_)
  refine j_iload_n G 3 1 dJ5_append_c97b9_24 rfl rfl ?_
  refine j_iload_n G 0 3 dJ5_append_c97b9_25 rfl rfl ?_
  refine j_aload_n G 2 0 dJ5_append_c97b9_26 rfl rfl ?_
  refine j_get G hW 0 0 4 (.ref (b + 1)) hk (by decide) rfl (by decide) rfl lay_J4 fl_J5_15 rfl rfl dJ5_append_c97b9_27 ?_
  refine j_ci (rn_S G (n := 3) (As := [.int (nI k), .int (nI (t.length + 2)), .ref (b + 1)]) (rest := []) (c_getC2 K hW l (b + 1) (wk_1_1 hW hk) I J B t.length k hy hl (fun u => u = _) rfl) ml_J5_248 st_J6_getChars_ba4f3 in_J6 co_J6_getChars_ba4f3 (by decide +kernel) rfl rfl (by decide) (by decide) rfl rfl (Nat.le_of_ble_eq_true rfl) dJ5_append_c97b9_30) (fun r u h => ?_)
  subst h
  refine j_pop G rfl dJ5_append_c97b9_33 ?_
  refine j_goto G 48 dJ5_append_c97b9_34 (by decide) ?_
  refine j_aload_n G 2 0 dJ5_append_c97b9_48 rfl rfl ?_
  refine j_iload_n G 0 3 dJ5_append_c97b9_49 rfl rfl ?_
  refine j_put G hW 0 3 (v := nI (t.length + 2)) tyJ4 (tyJ4 3) tyJ4_ok nmJ4 hk (by decide) rfl (by decide) rfl lay_J4 fl_J5_79 rfl rfl (tyJ4_ok 3 (by decide)) rfl rfl dJ5_append_c97b9_50 ?_
  refine j_aload_n G 2 0 dJ5_append_c97b9_53 rfl rfl ?_
  refine j_reta G (g := fun _ _ => True) (st := fun u => (u, J, B)) _ (Or.inl ⟨_, rfl⟩) dJ5_append_c97b9_54 (hQ _ ?_ ?_) trivial rfl
  · refine hS.app (fun i c' hi => ?_) hl (by rw [ui_gj _ _ _ (by omega), ui_gn _ _ _ _ (by omega), ui_gn _ _ _ _ (by omega)]; exact hS.1) (by rw [ui_gs]; rfl) (fun j hj => by rw [ui_gn _ _ _ _ (by omega), ui_gj _ _ _ (by omega), ui_gj _ _ _ (by omega)])
    match i, hi with
    | 0, hi => cases hi; exact ⟨by omega, by rw [ui_gn _ _ _ _ (by omega)]; exact ui_gs _ _ _ _⟩
    | 1, hi => cases hi; exact ⟨by omega, by rw [ui_gn _ _ _ _ (by omega), ui_gj _ _ _ (by omega), ui_gs]⟩
    | i + 2, hi => simp at hi
  · intro x h1 h2; rw [ui_ne _ _ _ h1, ui_ne _ _ _ h2, ui_ne _ _ _ h2]
set_option maxRecDepth 100000 in
theorem c_appI5c (K : Kx) (hW : WFK K) (l : Launch) (b : Nat) (hk : (kG K b).1 = 1) (I : MI) (J : MJ) (B : MR) (t : List Nat) (hS : SbT b I t) (k : Nat) (hy : 100 ≤ k ∧ k < 1000) (hl : t.length + 3 ≤ 16) (Q : MI → Prop) (hQ : ∀ I', SbT b I' (t ++ [48 + k / 100, 48 + k % 100 / 10, 48 + k % 100 % 10]) → SbF b I I' → Q I') : Con K l yJ5_append_c97b9 (wsT yJ5_append_c97b9 cJ5_append_c97b9 4 (some (.object "java/lang/AbstractStringBuilder"))) rm26 [.ref b, .int (nI k)] (I, J, B) (va_Qr (S := MI) Q (fun u _ t => True ∧ HP K (u, J, B) t.heap) (AA K)) := by
  refine Con.ofJ RJ5 rfl (by decide) (Nat.le_of_ble_eq_true rfl) (fun m H0 w G => ?_)
  show Jg K m 4 H0 w 0 [(0, .ref b), (1, .int (nI k))] [] (I, J, B)
  refine j_aload_n G 0 0 dJ5_append_c97b9_0 rfl rfl ?_
  refine j_get G hW 0 3 0 (.int _) hk (by decide) rfl (by decide) rfl lay_J4 fl_J5_79 rfl (congrArg Value.int hS.2.1) dJ5_append_c97b9_1 ?_
  refine j_istore_n G 2 [(2, .int (nI t.length)), (0, .ref b), (1, .int (nI k))] dJ5_append_c97b9_4 rfl (by decide) rfl ?_
  refine j_iload_n G 0 2 dJ5_append_c97b9_5 rfl rfl ?_
  refine j_iload_n G 2 1 dJ5_append_c97b9_6 rfl rfl ?_
  refine j_ci (rn_S G (n := 1) (As := [.int (nI k)]) (rest := [.int (nI t.length)]) (c_size3 K hW l k hy (I, J, B)) ml_J5_245 st_J6_stringSize_0f7a4 in_J6 co_J6_stringSize_0f7a4 (by decide +kernel) rfl rfl (by decide) (by decide) rfl rfl (Nat.le_of_ble_eq_true rfl) dJ5_append_c97b9_7) (fun r _ h => ?_)
  subst h
  refine j_iadd G dJ5_append_c97b9_10 ?_
  rw [nI_add]
  refine j_istore_n G 3 [(3, .int (nI (t.length + 3))), (2, .int (nI t.length)), (0, .ref b), (1, .int (nI k))] dJ5_append_c97b9_11 rfl (by decide) rfl ?_
  refine j_aload_n G 2 0 dJ5_append_c97b9_12 rfl rfl ?_
  refine j_iload_n G 0 3 dJ5_append_c97b9_13 rfl rfl ?_
  refine j_cv (rn_U G hW (n := 1) (As := [.int (nI (t.length + 3))]) (rest := []) (c_ens K hW l b hk I J B hS.1 (t.length + 3) (by omega)) hk ml_J5_100 sm_ens (Or.inr (by decide)) im_J5_ensureCapacityInternal_d00df in_J5 co_J5_ensureCapacityInternal_d00df (by decide +kernel) rfl rfl (by decide) (by decide) rfl rfl (Nat.le_of_ble_eq_true rfl) dJ5_append_c97b9_14) (fun _ _ => ?_)
  refine j_aload_n G 2 0 dJ5_append_c97b9_17 rfl rfl ?_
  refine j_ci (rn_U G hW (n := 0) (As := []) (rest := []) (c_isLat K hW l b hk I J B hS.1) hk ml_J5_83 sm_lat (Or.inl se_lat) im_J5_isLatin1_aae02 in_J5 co_J5_isLatin1_aae02 (by decide +kernel) rfl rfl (by decide) (by decide) rfl rfl (Nat.le_of_ble_eq_true rfl) dJ5_append_c97b9_18) (fun r _ h => ?_)
  subst h
  refine j_if_eq G 37 dJ5_append_c97b9_21 (by decide) (fun c => absurd c (by decide)) (fun _ => ?_)
  refine j_iload_n G 3 1 dJ5_append_c97b9_24 rfl rfl ?_
  refine j_iload_n G 0 3 dJ5_append_c97b9_25 rfl rfl ?_
  refine j_aload_n G 2 0 dJ5_append_c97b9_26 rfl rfl ?_
  refine j_get G hW 0 0 4 (.ref (b + 1)) hk (by decide) rfl (by decide) rfl lay_J4 fl_J5_15 rfl rfl dJ5_append_c97b9_27 ?_
  refine j_ci (rn_S G (n := 3) (As := [.int (nI k), .int (nI (t.length + 3)), .ref (b + 1)]) (rest := []) (c_getC3 K hW l (b + 1) (wk_1_1 hW hk) I J B t.length k hy hl (fun u => u = _) rfl) ml_J5_248 st_J6_getChars_ba4f3 in_J6 co_J6_getChars_ba4f3 (by decide +kernel) rfl rfl (by decide) (by decide) rfl rfl (Nat.le_of_ble_eq_true rfl) dJ5_append_c97b9_30) (fun r u h => ?_)
  subst h
  refine j_pop G rfl dJ5_append_c97b9_33 ?_
  refine j_goto G 48 dJ5_append_c97b9_34 (by decide) ?_
  refine j_aload_n G 2 0 dJ5_append_c97b9_48 rfl rfl ?_
  refine j_iload_n G 0 3 dJ5_append_c97b9_49 rfl rfl ?_
  refine j_put G hW 0 3 (v := nI (t.length + 3)) tyJ4 (tyJ4 3) tyJ4_ok nmJ4 hk (by decide) rfl (by decide) rfl lay_J4 fl_J5_79 rfl rfl (tyJ4_ok 3 (by decide)) rfl rfl dJ5_append_c97b9_50 ?_
  refine j_aload_n G 2 0 dJ5_append_c97b9_53 rfl rfl ?_
  refine j_reta G (g := fun _ _ => True) (st := fun u => (u, J, B)) _ (Or.inl ⟨_, rfl⟩) dJ5_append_c97b9_54 (hQ _ ?_ ?_) trivial rfl
  · refine hS.app (fun i c' hi => ?_) hl (by rw [ui_gj _ _ _ (by omega), ui_gn _ _ _ _ (by omega), ui_gn _ _ _ _ (by omega), ui_gn _ _ _ _ (by omega)]; exact hS.1) (by rw [ui_gs]; rfl) (fun j hj => by rw [ui_gn _ _ _ _ (by omega), ui_gj _ _ _ (by omega), ui_gj _ _ _ (by omega), ui_gj _ _ _ (by omega)])
    match i, hi with
    | 0, hi => cases hi; exact ⟨by omega, by rw [ui_gn _ _ _ _ (by omega)]; exact ui_gs _ _ _ _⟩
    | 1, hi => cases hi; exact ⟨by omega, by rw [ui_gn _ _ _ _ (by omega), ui_gj _ _ _ (by omega), ui_gs]⟩
    | 2, hi => cases hi; exact ⟨by omega, by rw [ui_gn _ _ _ _ (by omega), ui_gj _ _ _ (by omega), ui_gj _ _ _ (by omega), ui_gs]⟩
    | i + 3, hi => simp at hi
  · intro x h1 h2; rw [ui_ne _ _ _ h1, ui_ne _ _ _ h2, ui_ne _ _ _ h2, ui_ne _ _ _ h2]
set_option maxRecDepth 100000 in
theorem c_appI5 (K : Kx) (hW : WFK K) (l : Launch) (b : Nat) (hk : (kG K b).1 = 1) (I : MI) (J : MJ) (B : MR) (t : List Nat) (hS : SbT b I t) (k : Nat) (hy : k < 1000) (hl : t.length + (decs k).length ≤ 16) (Q : MI → Prop) (hQ : ∀ I', SbT b I' (t ++ decs k) → SbF b I I' → Q I') : Con K l yJ5_append_c97b9 (wsT yJ5_append_c97b9 cJ5_append_c97b9 4 (some (.object "java/lang/AbstractStringBuilder"))) rm26 [.ref b, .int (nI k)] (I, J, B) (va_Qr (S := MI) Q (fun u _ t => True ∧ HP K (u, J, B) t.heap) (AA K)) := by
  unfold decs at hl hQ
  by_cases h : k < 10
  · rw [if_pos h] at hl hQ; exact c_appI5a K hW l b hk I J B t hS k h hl Q hQ
  · rw [if_neg h] at hl hQ
    by_cases h2 : k < 100
    · rw [if_pos h2] at hl hQ; exact c_appI5b K hW l b hk I J B t hS k ⟨by omega, h2⟩ hl Q hQ
    · rw [if_neg h2] at hl hQ; exact c_appI5c K hW l b hk I J B t hS k ⟨by omega, hy⟩ hl Q hQ
set_option maxRecDepth 100000 in
theorem c_appI4 (K : Kx) (hW : WFK K) (l : Launch) (b : Nat) (hk : (kG K b).1 = 1) (I : MI) (J : MJ) (B : MR) (t : List Nat) (hS : SbT b I t) (k : Nat) (hy : k < 1000) (hl : t.length + (decs k).length ≤ 16) (Q : MI → Prop) (hQ : ∀ I', SbT b I' (t ++ decs k) → SbF b I I' → Q I') : Con K l yJ4_append_bf812 (wsT yJ4_append_bf812 cJ4_append_bf812 2 (some (.object "java/lang/StringBuilder"))) rm49 [.ref b, .int (nI k)] (I, J, B) (va_Qr (S := MI) Q (fun u _ t => True ∧ HP K (u, J, B) t.heap) (AA K)) := by
  refine Con.ofJ RJ4 rfl (by decide) (Nat.le_of_ble_eq_true rfl) (fun m H0 w G => ?_)
  show Jg K m 2 H0 w 0 [(0, .ref b), (1, .int (nI k))] [] (I, J, B)
  refine j_aload_n G 0 0 dJ4_append_bf812_0 rfl rfl ?_
  refine j_iload_n G 1 1 dJ4_append_bf812_1 rfl rfl ?_
  refine j_cr (rn_SU G hW (n := 1) (As := [.int (nI k)]) (rest := []) (c_appI5 K hW l b hk I J B t hS k hy hl Q hQ) hk ml_J4_53 sm_appI su_J4 im_J5_append_c97b9 in_J5 co_J5_append_c97b9 (by decide +kernel) rfl rfl (by decide) (by decide) rfl rfl (Nat.le_of_ble_eq_true rfl) dJ4_append_bf812_2) (fun u ra h _ => ?_)
  refine j_pop G rfl dJ4_append_bf812_5 ?_
  refine j_aload_n G 0 0 dJ4_append_bf812_6 rfl rfl ?_
  exact j_reta G u (Or.inl ⟨_, rfl⟩) dJ4_append_bf812_7 h trivial rfl
