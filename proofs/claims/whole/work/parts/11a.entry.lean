/-! what the entry gives: words by their places -/
theorem tw_1 {i : Nat} {w : Cond} (h : tables_1_1[i]? = some w) : w ∈ lw_tbl := List.mem_append_right _ (List.mem_append_left _ (List.mem_of_getElem? h))
theorem tw_2 {i : Nat} {w : Cond} (h : tables_1_2[i]? = some w) : w ∈ lw_tbl := List.mem_append_right _ (List.mem_append_right _ (List.mem_append_left _ (List.mem_of_getElem? h)))
theorem tw_3 {i : Nat} {w : Cond} (h : tables_1_3[i]? = some w) : w ∈ lw_tbl := List.mem_append_right _ (List.mem_append_right _ (List.mem_append_right _ (List.mem_append_left _ (List.mem_of_getElem? h))))
theorem tw_4 {i : Nat} {w : Cond} (h : tables_1_4[i]? = some w) : w ∈ lw_tbl := List.mem_append_right _ (List.mem_append_right _ (List.mem_append_right _ (List.mem_append_right _ (List.mem_append_left _ (List.mem_of_getElem? h)))))
theorem tw_5 {i : Nat} {w : Cond} (h : tables_1_5[i]? = some w) : w ∈ lw_tbl := List.mem_append_right _ (List.mem_append_right _ (List.mem_append_right _ (List.mem_append_right _ (List.mem_append_right _ (List.mem_append_left _ (List.mem_of_getElem? h))))))
theorem gw_tbl {w : Cond} (h : w ∈ gw) : w ∈ lw_tbl := (List.mem_filter.mp h).1
def nAt : Cond → Nat → Nat → Cond
  | .and a b, n, i => if i < n / 2 then nAt a (n / 2) i else nAt b (n - n / 2) (i - n / 2)
  | c, _, _ => c
theorem nAt_ok {args : Array Value} {s : State} (T : Cond) : ∀ n i, T.before args s = true → (nAt T n i).before args s = true := by
  induction T with
  | and a b iha ihb =>
    intro n i h
    rw [Cond.before_and, Bool.and_eq_true] at h
    simp only [nAt]
    split
    · exact iha _ _ h.1
    · exact ihb _ _ h.2
  | _ => intro n i h; exact h
def sPos (i : Nat) : Nat := ([261, 364, 372, 381, 391, 402, 415, 428, 443, 460, 478, 495, 513, 534, 555, 577, 600, 623] : List Nat).getD i 0
abbrev sTm (i : Nat) : Term := .string (sX i).1 (sX i).2.1
abbrev sFl (i : Nat) : Term := .field (sTm i) "java/lang/String" "value" "[B"
set_option maxRecDepth 100000 in
theorem na_cs : nAt narrow_1 669 2 = .eq (.static "java/lang/String" "COMPACT_STRINGS" "Z") (.int 1) := by decide +kernel
set_option maxRecDepth 100000 in
theorem na_fo : nAt narrow_1 669 3 = .isRef (.static "jdk/internal/util/Preconditions" "SIOOBE_FORMATTER" "Ljava/util/function/BiFunction;") := by decide +kernel
set_option maxRecDepth 100000 in
theorem na_oa : nAt narrow_1 669 8 = .arrayOf (.static "java/lang/Integer" "DigitOnes" "[B") .byte := by decide +kernel
set_option maxRecDepth 100000 in
theorem na_ol : nAt narrow_1 669 9 = .eq (.length (.static "java/lang/Integer" "DigitOnes" "[B")) (.int 100) := by decide +kernel
set_option maxRecDepth 100000 in
theorem na_oe : ∀ j, j < 100 → nAt narrow_1 669 (10 + j) = .eq (.elem (.static "java/lang/Integer" "DigitOnes" "[B") (.int (Int32.ofNat j))) (.int (nI (48 + j % 10))) := by decide +kernel
set_option maxRecDepth 100000 in
theorem na_ta : nAt narrow_1 669 111 = .arrayOf (.static "java/lang/Integer" "DigitTens" "[B") .byte := by decide +kernel
set_option maxRecDepth 100000 in
theorem na_tl : nAt narrow_1 669 112 = .eq (.length (.static "java/lang/Integer" "DigitTens" "[B")) (.int 100) := by decide +kernel
set_option maxRecDepth 100000 in
theorem na_te : ∀ j, j < 100 → nAt narrow_1 669 (113 + j) = .eq (.elem (.static "java/lang/Integer" "DigitTens" "[B") (.int (Int32.ofNat j))) (.int (nI (48 + j / 10))) := by decide +kernel
set_option maxRecDepth 100000 in
theorem na_ex : ∀ i, i < 18 → nAt narrow_1 669 (sPos i) = .exactly (sTm i) "java/lang/String" := by decide +kernel
set_option maxRecDepth 100000 in
theorem na_co : ∀ i, i < 18 → nAt narrow_1 669 (sPos i + 1) = .eq (.field (sTm i) "java/lang/String" "coder" "B") (.int 0) := by decide +kernel
set_option maxRecDepth 100000 in
theorem na_ar : ∀ i, i < 18 → nAt narrow_1 669 (sPos i + 2) = .arrayOf (sFl i) .byte := by decide +kernel
set_option maxRecDepth 100000 in
theorem na_le : ∀ i, i < 18 → nAt narrow_1 669 (sPos i + 3) = .eq (.length (sFl i)) (.int (Int32.ofNat (sLen.getD i 0))) := by decide +kernel
set_option maxRecDepth 100000 in
theorem na_el : ∀ i, i < 18 → ∀ j, j < sLen.getD i 0 → nAt narrow_1 669 (sPos i + 4 + j) = .eq (.elem (sFl i) (.int (Int32.ofNat j))) (.int ((sByt.getD i []).getD j 0)) := by decide +kernel
set_option maxRecDepth 100000 in
theorem na_ne : ∀ i, i < 18 → ∀ k, k < i → nAt narrow_1 669 (sPos i + 4 + sLen.getD i 0 + k) = .not (.eq (sTm k) (sTm i)) := by decide +kernel
set_option maxRecDepth 100000 in
theorem sr_ok : ∀ j, j < 18 → Cond.stringRef (sX j).1 (sX j).2.1 (sX j).2.2 ∈ lw_tbl := by
  intro j hj
  match j, hj with
  | 0, _ => exact tw_3 (i := 91) rfl
  | 1, _ => exact tw_5 (i := 9) rfl
  | 2, _ => exact tw_5 (i := 10) rfl
  | 3, _ => exact tw_5 (i := 11) rfl
  | 4, _ => exact tw_5 (i := 12) rfl
  | 5, _ => exact tw_5 (i := 13) rfl
  | 6, _ => exact tw_5 (i := 14) rfl
  | 7, _ => exact tw_5 (i := 15) rfl
  | 8, _ => exact tw_5 (i := 16) rfl
  | 9, _ => exact tw_5 (i := 17) rfl
  | 10, _ => exact tw_5 (i := 18) rfl
  | 11, _ => exact tw_5 (i := 19) rfl
  | 12, _ => exact tw_5 (i := 20) rfl
  | 13, _ => exact tw_5 (i := 21) rfl
  | 14, _ => exact tw_5 (i := 22) rfl
  | 15, _ => exact tw_5 (i := 23) rfl
  | 16, _ => exact tw_5 (i := 24) rfl
  | 17, _ => exact tw_5 (i := 25) rfl
  | j + 18, h => exact absurd h (by omega)
set_option maxRecDepth 100000 in
theorem nw_ok : ∀ q ∈ nstW, Cond.methodLinkNest q.1 q.2.1 q.2.2 "TwoProcessors" ∈ lw_tbl := List.forall_mem_cons.mpr ⟨tw_2 (i := 218) rfl, List.forall_mem_cons.mpr ⟨tw_2 (i := 221) rfl, List.forall_mem_cons.mpr ⟨tw_2 (i := 224) rfl, List.forall_mem_cons.mpr ⟨tw_2 (i := 235) rfl, List.forall_mem_cons.mpr ⟨tw_3 (i := 84) rfl, List.forall_mem_cons.mpr ⟨tw_3 (i := 192) rfl, List.forall_mem_cons.mpr ⟨tw_4 (i := 44) rfl, List.forall_mem_cons.mpr ⟨tw_4 (i := 91) rfl, List.forall_mem_cons.mpr ⟨tw_4 (i := 114) rfl, List.forall_mem_cons.mpr ⟨tw_5 (i := 195) rfl, fun _ h => absurd h List.not_mem_nil⟩⟩⟩⟩⟩⟩⟩⟩⟩⟩
set_option maxRecDepth 100000 in
theorem ni_ok : ∀ q ∈ nstI, Cond.methodLinkNest q.1 q.2.1 q.2.2 "TwoProcessors" ∈ lw_tbl := List.forall_mem_cons.mpr ⟨tw_1 (i := 34) rfl, List.forall_mem_cons.mpr ⟨tw_1 (i := 53) rfl, List.forall_mem_cons.mpr ⟨tw_1 (i := 169) rfl, List.forall_mem_cons.mpr ⟨tw_2 (i := 88) rfl, List.forall_mem_cons.mpr ⟨tw_2 (i := 96) rfl, List.forall_mem_cons.mpr ⟨tw_2 (i := 158) rfl, fun _ h => absurd h List.not_mem_nil⟩⟩⟩⟩⟩⟩
/-- a private method of a class above, told by another method that an object of C selects there -/
theorem sel_pv {C : String} {y z : MethodName} {s : State} {args : Array Value} (hy : y.cls ≠ "java/lang/invoke/MethodHandle" ∧ y.cls ≠ "java/lang/invoke/VarHandle") (hyz : y.cls = z.cls) (hz : (Cond.selects C z z).before args s = true) (hpriv : (Cond.privateMethod y).before args s = true) (hinst : (Cond.instanceMethod y).before args s = true) : (Cond.selects C y y).before args s = true := by
  obtain ⟨mk, methM, hnamed, hmethM, -, -⟩ := Cond.instanceMethod_spec hinst
  have hfound : s.methodFound? y.cls y.name y.desc = some mk := State.methodFound?_of_named hnamed hy
  have hcy := findClass_of_methodNamed hnamed
  have hsel : ∀ c, selectMethod {} s.vm c mk = .method mk := fun c => selectMethod_private hmethM (Cond.privateMethod_at hpriv mk methM hnamed hmethM)
  simp only [Cond.before, Cond.holds, Cond.value] at hz ⊢
  cases hc : s.vm.findClass C with
  | none => simp [hc] at hz
  | some c =>
    cases hf : s.methodFound? z.cls z.name z.desc with
    | none => simp [hc, hf] at hz
    | some r =>
      cases hm : s.methodNamed? z with
      | none => simp [hc, hf, hm] at hz
      | some mz =>
        have hcz := findClass_of_methodNamed hm
        rw [hyz, hcz] at hcy
        have hcls : mk.cls = mz.cls := (Option.some.inj hcy).symm
        simp only [hc, hf, hm] at hz
        simp only [hfound, hnamed, hsel, hcls]
        cases hs : selectMethod {} s.vm c r with
        | method m' =>
          rw [hs] at hz
          simp at hz
          simp [hz.2]
        | _ => rw [hs] at hz; simp at hz
theorem pv_ok {s : State} {args : Array Value} (hts : ∀ w ∈ lw_tbl, w.before args s = true) : ∀ y ∈ pvW, va_Nw (.selects RJ4 y y) s := by
  have hz := hts _ (tw_4 (i := 226) rfl)
  exact List.forall_mem_cons.mpr ⟨va_Nw.of rfl (sel_pv (z := ⟨"java/lang/AbstractStringBuilder", "isLatin1", "()Z"⟩) (by decide) rfl hz (hts _ (tw_4 (i := 195) rfl)) (hts _ (tw_4 (i := 196) rfl))), List.forall_mem_cons.mpr ⟨va_Nw.of rfl (sel_pv (z := ⟨"java/lang/AbstractStringBuilder", "isLatin1", "()Z"⟩) (by decide) rfl hz (hts _ (tw_5 (i := 54) rfl)) (hts _ (tw_5 (i := 55) rfl))), List.forall_mem_cons.mpr ⟨va_Nw.of rfl (sel_pv (z := ⟨"java/lang/AbstractStringBuilder", "isLatin1", "()Z"⟩) (by decide) rfl hz (hts _ (tw_5 (i := 58) rfl)) (hts _ (tw_5 (i := 59) rfl))), fun _ h => absurd h List.not_mem_nil⟩⟩⟩
theorem ac_prim {s : State} {args : Array Value} {ty : FieldType} (h : (Cond.arrayClass ty).before args s = true) : ∃ cA, ArrOfT s cA ty ∧ s.vm.findClass ("[" ++ ty.toString) = some cA := by
  obtain ⟨c, k, comp, h1, h2, h3⟩ := Cond.arrayClass_spec h
  exact ⟨c, fun N z => ⟨(fun k h => by cases h), k, h2, comp, h3⟩, h1⟩
theorem ac_obj {s : State} {args : Array Value} {C : String} (h : (Cond.arrayOver (.object C)).before args s = true) : ∃ cA, ArrOfT s cA (.object C) ∧ va_RA s cA (.object C) := by
  obtain ⟨comp, c, k, h1, h2, h3, h4, h5⟩ := Cond.arrayOver_spec h
  exact ⟨c, fun N z => ⟨(fun k h => by cases h), k, h3, comp, h4⟩, k, comp, h3, h4, h1, h5⟩
theorem cls_ok {s : State} {args : Array Value} (hts : ∀ w ∈ gw, w.before args s = true) (k : Nat) : ∃ q : ClassId × (Nat → Nat), ∀ r, vwCl[k]? = some r → u_Kn s r.1 r.2.1 r.2.2 q.1 q.2 := by
  match k with
  | 0 => obtain ⟨c, f, h⟩ := u_known hts lay_J4 (hts _ is_J4); exact ⟨(c, f), fun r hr => by cases hr; exact h⟩
  | 1 => obtain ⟨c, f, h⟩ := u_known hts lay_X0 (hts _ is_X0); exact ⟨(c, f), fun r hr => by cases hr; exact h⟩
  | 2 => obtain ⟨c, f, h⟩ := u_known hts lay_X1 (hts _ is_X1); exact ⟨(c, f), fun r hr => by cases hr; exact h⟩
  | 3 => obtain ⟨c, f, h⟩ := u_known hts lay_X2 (hts _ is_X2); exact ⟨(c, f), fun r hr => by cases hr; exact h⟩
  | 4 => obtain ⟨c, f, h⟩ := u_known hts lay_X3 (hts _ is_X3); exact ⟨(c, f), fun r hr => by cases hr; exact h⟩
  | 5 => obtain ⟨c, f, h⟩ := u_known hts lay_X4 (hts _ is_X4); exact ⟨(c, f), fun r hr => by cases hr; exact h⟩
  | 6 => obtain ⟨c, f, h⟩ := u_known hts lay_X5 (hts _ is_X5); exact ⟨(c, f), fun r hr => by cases hr; exact h⟩
  | 7 => obtain ⟨c, f, h⟩ := u_known hts lay_X6 (hts _ is_X6); exact ⟨(c, f), fun r hr => by cases hr; exact h⟩
  | 8 => obtain ⟨c, f, h⟩ := u_known hts lay_X7 (hts _ is_X7); exact ⟨(c, f), fun r hr => by cases hr; exact h⟩
  | 9 => obtain ⟨c, f, h⟩ := u_known hts lay_X8 (hts _ is_X8); exact ⟨(c, f), fun r hr => by cases hr; exact h⟩
  | 10 => obtain ⟨c, f, h⟩ := u_known hts lay_X9 (hts _ is_X9); exact ⟨(c, f), fun r hr => by cases hr; exact h⟩
  | 11 => obtain ⟨c, f, h⟩ := u_known hts lay_X10 (hts _ is_X10); exact ⟨(c, f), fun r hr => by cases hr; exact h⟩
  | k + 12 => exact ⟨(0, fun _ => 0), fun r hr => by simp at hr⟩
theorem arr_ok {s : State} {args : Array Value} (hts : ∀ w ∈ lw_tbl, w.before args s = true) : ∃ cy : Nat → ClassId, ∀ (k : Nat) (q : ClassId × FieldType), (tyl cy)[k]? = some q → ArrOfT s q.1 q.2 ∧ va_RA s q.1 q.2 := by
  obtain ⟨c0, a0, b0⟩ := ac_prim (hts _ (gw_tbl ar_int))
  obtain ⟨c1, a1, b1⟩ := ac_prim (hts _ (gw_tbl ar_byte))
  obtain ⟨c2, a2, b2⟩ := ac_prim (hts _ (gw_tbl ar_long))
  obtain ⟨c3, a3, b3⟩ := ac_prim (hts _ (gw_tbl ar_boolean))
  obtain ⟨c4, h4⟩ := ac_obj (hts _ (tw_1 (i := 51) rfl))
  obtain ⟨c5, h5⟩ := ac_obj (hts _ (tw_1 (i := 165) rfl))
  obtain ⟨c6, h6⟩ := ac_obj (hts _ (tw_1 (i := 167) rfl))
  obtain ⟨c7, h7⟩ := ac_obj (hts _ (tw_2 (i := 85) rfl))
  refine ⟨fun k => ([c0, c1, c2, c3, c4, c5, c6, c7] : List Nat).getD (k - 20) 0, fun k q hq => ?_⟩
  match k, hq with
  | 0, hq => cases hq; exact ⟨a0, b0⟩
  | 1, hq => cases hq; exact ⟨a1, b1⟩
  | 2, hq => cases hq; exact ⟨a2, b2⟩
  | 3, hq => cases hq; exact ⟨a3, b3⟩
  | 4, hq => cases hq; exact h4
  | 5, hq => cases hq; exact h5
  | 6, hq => cases hq; exact h6
  | 7, hq => cases hq; exact h7
  | k + 8, hq => simp [tyl] at hq
/-- the world's knowledge at the law's entry -/
theorem start_K {s : State} {args : Array Value} (hts : ∀ w ∈ lw_tbl, w.before args s = true) (hgv : (Jvm.Cond.and given_1 narrow_1).before args s = true) : ∃ K : Kx, KN K s ∧ kH K = s.heap ∧ kL K = [] := by
  have hn : narrow_1.before args s = true := by
    rw [Cond.before_and, Bool.and_eq_true] at hgv; exact hgv.2
  have na : ∀ i, (nAt narrow_1 669 i).before args s = true := fun i => nAt_ok narrow_1 669 i hn
  have hA : ∀ a : Nat, a < s.heap.size → ¬ (fun q : Nat => q ∈ ([] : List Nat)) a := fun a _ => List.not_mem_nil
  obtain ⟨fC, hfC⟩ := Classical.axiomOfChoice (cls_ok (s := s) (args := args) (fun w hw => hts w (gw_tbl hw)))
  obtain ⟨cy, hcy⟩ := arr_ok hts
  obtain ⟨adK, adV, hS, hev⟩ := vk_Sof (args := args) (s := s) (N := 18) (tm := sTm) (len := sLen) (byt := sByt) (A := fun q : Nat => q ∈ ([] : List Nat)) (by decide) (fun i hi => by rw [← na_ex i hi]; exact na _) (fun i hi => by rw [← na_co i hi]; exact na _) (fun i hi => by rw [← na_ar i hi]; exact na _) (fun i hi => by rw [← na_le i hi]; exact na _) (fun i hi j hj => by rw [← na_el i hi j hj]; exact na _) (fun i j hi hj hij => by
    rcases Nat.lt_or_gt_of_ne hij with h | h
    · left; rw [← na_ne j hj i h]; exact na _
    · right; rw [← na_ne i hi j h]; exact na _) hA
  have hcs := na 2; rw [na_cs] at hcs
  have hfo := na 3; rw [na_fo] at hfo
  have hoa := na 8; rw [na_oa] at hoa
  have hol := na 9; rw [na_ol] at hol
  have hta := na 111; rw [na_ta] at hta
  have htl := na 112; rw [na_tl] at htl
  obtain ⟨tO, eO, hO⟩ := va_Tof (args := args) (s := s) (ty := .byte) (N := 100) (f := fun j => .int (nI (48 + j % 10))) (A := fun q : Nat => q ∈ ([] : List Nat)) (by decide) hoa (va_eqt hol) (fun j hj => va_eqt (by rw [← na_oe j hj]; exact na _)) hA
  obtain ⟨tT, eT, hT⟩ := va_Tof (args := args) (s := s) (ty := .byte) (N := 100) (f := fun j => .int (nI (48 + j / 10))) (A := fun q : Nat => q ∈ ([] : List Nat)) (by decide) hta (va_eqt htl) (fun j hj => va_eqt (by rw [← na_te j hj]; exact na _)) hA
  have hint := hts _ (tw_1 (i := 23) rfl)
  refine ⟨((fun k => (fC k).1, fun k => (fC k).2), cy, [], fun _ => (0, 0), s.heap, adK, adV, tO, tT), ⟨⟨⟨fun k r hr => hfC k r hr, hcy⟩, ⟨fun q hq => va_Nw.of rfl (hts _ (nw_ok q hq)), pv_ok hts⟩, fun j hj => vk_R.of (hts _ (sr_ok j hj)) (hev j hj), hS, va_Zof (hts _ (tw_2 (i := 189) rfl)) (hts _ (tw_1 (i := 15) rfl)) (va_eqi hcs) hA, va_Zref (hts _ (tw_5 (i := 124) rfl)) hint eO hA, hO, va_Zref (hts _ (tw_5 (i := 126) rfl)) hint eT hA, hT, va_Zqof (hts _ (tw_3 (i := 116) rfl)) (hts _ (tw_1 (i := 20) rfl)) hfo hA⟩, va_AO.of (hts _ (tw_1 (i := 51) rfl)), va_AO.of (hts _ (tw_1 (i := 165) rfl)), va_AO.of (hts _ (tw_1 (i := 167) rfl)), va_AO.of (hts _ (tw_2 (i := 85) rfl)), fun q hq => va_Nw.of rfl (hts _ (ni_ok q hq))⟩, rfl, rfl⟩
