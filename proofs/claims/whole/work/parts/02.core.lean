/-! memory as functions; a world of known kinds; the judgement Jg: from here the walk comes to the end -/
abbrev MI : Type := Nat → Nat → Int32
abbrev MJ : Type := Nat → Nat → Int64
abbrev MR : Type := Nat → Nat → Nat
abbrev Mm : Type := MI × MJ × MR
abbrev Kd : Type := Nat → Nat × Nat
def ui (I : MI) (a k : Nat) (v : Int32) : MI := fun b => if b = a then upd (I b) k v else I b
def uj (J : MJ) (a k : Nat) (v : Int64) : MJ := fun b => if b = a then vp_updL (J b) k v else J b
def ur (R : MR) (a k : Nat) (v : Nat) : MR := fun b => if b = a then (fun j => if j = k then v else R b j) else R b
abbrev ix (i : Int32) : Nat := i.toNatClampNeg
def vr (n : Nat) : Value := if n = 0 then .null else .ref n
/-- what each class's fields are: 0 a number, 1 a long, 2 a reference that may change, 3 + d a reference to the cell d behind -/
def fdl : Nat → List Nat
  | 0 => [4, 0, 0, 0]
  | 1 => [0, 0, 0, 0, 0, 0]
  | 2 => [4, 38, 39, 40, 41, 0, 0, 0, 0, 0, 0, 0, 0, 0, 0, 0]
  | 3 => [4, 0, 0, 0, 0, 5, 6, 7, 8, 9, 10, 11]
  | 4 => [4, 5, 0, 0, 0]
  | 5 => [4, 0, 0, 38, 0, 0, 44, 45]
  | 6 => [0, 0, 0, 0, 0, 0, 0, 4, 5]
  | 7 => [4, 5, 0, 0, 0]
  | 8 => [4, 5, 6, 7, 0, 2, 0]
  | 9 => [4, 0, 0, 0, 5]
  | 10 => [4, 69, 70, 71, 114, 177, 180]
  | 11 => [4, 5, 6, 0, 0, 0, 0, 0, 7, 0, 0, 0, 0, 0, 0, 0, 0, 1, 8, 9, 10, 11, 12, 0, 0]
  | _ => []
def fval (mem : Mm) (a k t : Nat) : Value := match t with
  | 0 => .int (mem.1 a k)
  | 1 => .long (mem.2.1 a k)
  | 2 => vr (mem.2.2 a k)
  | d + 3 => .ref (a + d)
def fvals (mem : Mm) (ci a : Nat) : List Value := (List.range (fdl ci).length).map (fun k => fval mem a k ((fdl ci).getD k 0))
/-- arrays of references: how far the first one lies behind, and the step -/
def rof : Nat → Nat × Nat
  | 24 => (8, 1)
  | 25 => (2, 3)
  | 26 => (19, 3)
  | _ => (113, 65)
abbrev Kx : Type := va_G × (Nat → ClassId) × List Nat × Kd × Heap × (Nat → Nat) × (Nat → Nat) × Nat × Nat
abbrev kD (K : Kx) : va_G := K.1
abbrev kC (K : Kx) : Nat → ClassId := K.2.1
abbrev kL (K : Kx) : List Nat := K.2.2.1
abbrev kG (K : Kx) : Kd := K.2.2.2.1
abbrev kH (K : Kx) : Heap := K.2.2.2.2.1
/-- the String constants and their bytes; Integer's rows of digits -/
abbrev kA (K : Kx) : Nat → Nat := K.2.2.2.2.2.1
abbrev kV (K : Kx) : Nat → Nat := K.2.2.2.2.2.2.1
abbrev kO (K : Kx) : Nat := K.2.2.2.2.2.2.2.1
abbrev kT (K : Kx) : Nat := K.2.2.2.2.2.2.2.2
def celE (K : Kx) (mem : Mm) (a : Nat) : va_E :=
  let g := kG K a
  if g.1 < 20 then .inr (g.1 - 1, fvals mem (g.1 - 1) a)
  else if g.1 = 22 then .inl ((kC K) 22, g.2, .inr (.inl (mem.2.1 a)))
  else if g.1 < 24 then .inl ((kC K) g.1, g.2, .inl (mem.1 a))
  else .inl ((kC K) g.1, g.2, .inr (.inr (.inr (.inr (fun j => some (a + (rof g.1).1 + (rof g.1).2 * j))))))
def HP (K : Kx) (mem : Mm) (H : Heap) : Prop := va_P (kD K) vwCl (va_pl (kL K) (celE K mem)) H
def AA (K : Kx) : Nat → Prop := fun q => q ∈ (kL K)
def tyl (cy : Nat → ClassId) : List (ClassId × FieldType) := [(cy 20, .int), (cy 21, .byte), (cy 22, .long), (cy 23, .boolean), (cy 24, .object "TwoProcessors$Instruction"), (cy 25, .object "TwoProcessors$Queue"), (cy 26, .object "TwoProcessors$Side"), (cy 27, .object "TwoProcessors$Whole")]
/-- links to private methods of nest mates -/
def nstW : List (String × Nat × MethodName) := [(RX2, 85, yX9_bit), (RX2, 89, yX9_isReckoning), (RX2, 96, yX9_isIn), (RX2, 121, yX9_deedPlace), (RX7, 72, yX9_isRegister), (RX4, 132, yX9_bit), (RX2, 125, yX9_isSide), (RX1, 230, yX9_reckon), (RX1, 247, yX9_isIn), (RX6, 68, yX9_reckon)]
/-- the String constants: whose, at which place, the text's bytes -/
def sCon : List (String × Nat × String) := [("TwoProcessors$Tokens", 78, "late room cell reg keep set add sub mul load store jump if end loads stores data copies told asked "), ("TwoProcessors$Program", 172, "set"), ("TwoProcessors$Program", 174, "add"), ("TwoProcessors$Program", 176, "sub"), ("TwoProcessors$Program", 178, "mul"), ("TwoProcessors$Program", 180, "jump"), ("TwoProcessors$Program", 182, "end"), ("TwoProcessors$Program", 184, "send"), ("TwoProcessors$Program", 186, "fetch"), ("TwoProcessors$Program", 188, "issue"), ("TwoProcessors$Program", 190, "get"), ("TwoProcessors$Program", 192, "put"), ("TwoProcessors$Program", 194, "place"), ("TwoProcessors$Program", 196, "give"), ("TwoProcessors$Program", 198, "tell"), ("TwoProcessors$Program", 200, "heed"), ("TwoProcessors$Program", 202, "ask"), ("TwoProcessors$Program", 204, "judge")]
def sByt : List (List Int32) := [[108, 97, 116, 101, 32, 114, 111, 111, 109, 32, 99, 101, 108, 108, 32, 114, 101, 103, 32, 107, 101, 101, 112, 32, 115, 101, 116, 32, 97, 100, 100, 32, 115, 117, 98, 32, 109, 117, 108, 32, 108, 111, 97, 100, 32, 115, 116, 111, 114, 101, 32, 106, 117, 109, 112, 32, 105, 102, 32, 101, 110, 100, 32, 108, 111, 97, 100, 115, 32, 115, 116, 111, 114, 101, 115, 32, 100, 97, 116, 97, 32, 99, 111, 112, 105, 101, 115, 32, 116, 111, 108, 100, 32, 97, 115, 107, 101, 100, 32], [115, 101, 116], [97, 100, 100], [115, 117, 98], [109, 117, 108], [106, 117, 109, 112], [101, 110, 100], [115, 101, 110, 100], [102, 101, 116, 99, 104], [105, 115, 115, 117, 101], [103, 101, 116], [112, 117, 116], [112, 108, 97, 99, 101], [103, 105, 118, 101], [116, 101, 108, 108], [104, 101, 101, 100], [97, 115, 107], [106, 117, 100, 103, 101]]
def sLen : List Nat := [99, 3, 3, 3, 3, 4, 3, 4, 5, 5, 3, 3, 5, 4, 4, 4, 3, 5]
def sX (j : Nat) : String × Nat × String := sCon.getD j ("", 0, "")
def XS (K : Kx) (U : State) : Prop := (∀ j, j < 18 → vk_R (sX j).1 (sX j).2.1 (sX j).2.2 (kA K j) U) ∧ vk_S 18 sLen sByt (kA K) (kV K) (AA K) U (kH K) ∧ va_Z "java/lang/String" "COMPACT_STRINGS" "Z" (.int 1) (AA K) U (kH K)
  ∧ va_Z "java/lang/Integer" "DigitOnes" "[B" (.ref (kO K)) (AA K) U (kH K) ∧ va_T .byte (kO K) 100 (fun j => .int (nI (48 + j % 10))) (AA K) U (kH K) ∧ va_Z "java/lang/Integer" "DigitTens" "[B" (.ref (kT K)) (AA K) U (kH K) ∧ va_T .byte (kT K) 100 (fun j => .int (nI (48 + j / 10))) (AA K) U (kH K) ∧ va_Zq "jdk/internal/util/Preconditions" "SIOOBE_FORMATTER" "Ljava/util/function/BiFunction;" (AA K) U (kH K)
theorem XS.warm {K : Kx} {s U : State} (hW : s.WarmedH U.vm) (h : XS K s) : XS K U := by
  obtain ⟨h1, h2, h3, h4, h5, h6, h7, h8⟩ := h
  have hv := hW.alike
  exact ⟨fun j hj => (h1 j hj).warm hW, h2.moved hv, h3.moved hv, h4.moved hv, h5.moved hv, h6.moved hv, h7.moved hv, h8.moved hv⟩
theorem XS.same {K : Kx} {s U : State} (hv : s.vm = U.vm) (h : XS K s) : XS K U := by
  obtain ⟨h1, h2, h3, h4, h5, h6, h7, h8⟩ := h
  have ha : s.vm.Alike U.vm := by rw [hv]; exact Vm.Alike.refl U.vm
  exact ⟨fun j hj => (h1 j hj).same hv.symm, h2.moved ha, h3.moved ha, h4.moved ha, h5.moved ha, h6.moved ha, h7.moved ha, h8.moved ha⟩
/-- private methods of AbstractStringBuilder, on a StringBuilder -/
def pvW : List MethodName := [yJ5_ensureCapacityInternal_d00df, yJ5_putStringAt_47b60, yJ5_inflateIfNeededFor_a7421]
def KK (K : Kx) (U : State) : Prop := va_K (kD K) vwCl (tyl (kC K)) U ∧ ((∀ q ∈ nstW, va_Nw (.methodLinkNest q.1 q.2.1 q.2.2 "TwoProcessors") U) ∧ ∀ y ∈ pvW, va_Nw (.selects RJ4 y y) U) ∧ XS K U
theorem KK.warm {K : Kx} {s U : State} (hW : s.WarmedH U.vm) (h : KK K s) : KK K U := ⟨va_K.moved hW.alike h.1, ⟨fun q hq => va_Nw.warmM hW (h.2.1.1 q hq), fun y hy => word_at hW (Or.inl rfl) (h.2.1.2 y hy)⟩, h.2.2.warm hW⟩
theorem KK.same {K : Kx} {s U : State} (hv : s.vm = U.vm) (h : KK K s) : KK K U := ⟨va_K.moved (by rw [hv]; exact Vm.Alike.refl U.vm) h.1, ⟨fun q hq => va_Nw.same rfl hv (h.2.1.1 q hq), fun y hy => va_Nw.same rfl hv (h.2.1.2 y hy)⟩, h.2.2.same hv⟩
/-- the old heap stands -/
def OH (K : Kx) (H : Heap) : Prop := (kH K).size ≤ H.size ∧ ∀ q, q < (kH K).size → ¬ AA K q → H[q]? = (kH K)[q]?
theorem OH.kept {K : Kx} {H0 H : Heap} {locs : List Loc} (h : OH K H0) (hS : va_S (AA K) H0 H locs) : OH K H := ⟨Nat.le_trans h.1 hS.1, fun q hq ha => (hS.2.1 q (Nat.lt_of_lt_of_le hq h.1) ha).trans (h.2 q hq ha)⟩
/-- the kinds fit: what each object's references lead to -/
def wfO : List (Nat × Nat × Nat × Nat) := [(1, 1, 21, 16), (3, 1, 4, 0), (3, 35, 20, 8), (3, 36, 20, 32), (3, 37, 25, 6), (3, 38, 26, 2), (4, 1, 24, 25), (4, 2, 20, 6), (4, 3, 20, 32), (4, 4, 20, 8), (4, 5, 20, 100), (4, 6, 20, 50), (4, 7, 20, 50), (4, 8, 20, 24), (5, 1, 20, 6), (5, 2, 20, 6), (6, 1, 4, 0), (6, 35, 9, 0), (6, 41, 20, 150), (6, 42, 20, 150), (7, 1, 20, 8), (7, 2, 20, 50), (8, 1, 20, 8), (8, 2, 20, 32), (9, 1, 20, 601), (9, 2, 20, 601), (9, 3, 20, 601), (9, 4, 20, 601), (10, 1, 21, 600), (10, 2, 3, 0), (11, 1, 10, 0), (11, 66, 27, 3), (11, 67, 23, 3), (11, 68, 6, 0), (11, 111, 3, 0), (11, 174, 8, 0), (11, 177, 1, 0), (12, 1, 20, 4905), (12, 2, 20, 600), (12, 3, 23, 3), (12, 4, 20, 24), (12, 5, 22, 90), (12, 6, 22, 25), (12, 7, 20, 90), (12, 8, 20, 25), (12, 9, 20, 25)]
def rok : Nat → Nat
  | 24 => 2
  | 25 => 5
  | 26 => 7
  | _ => 10
def WFK (K : Kx) : Prop := (∀ e ∈ wfO, ∀ a, (kG K a).1 = e.1 → kG K (a + e.2.1) = (e.2.2.1, e.2.2.2)) ∧ (∀ a k n, kG K a = (k, n) → 24 ≤ k → ∀ j, j < n → (kG K (a + (rof k).1 + (rof k).2 * j)).1 = rok k) ∧ (∀ a, (kG K a).1 ≠ 0 → a ∈ (kL K)) ∧ va_D (fun _ => True) ((kL K).map (fun a => (a, (.inr (0, []) : va_E)))) ∧ (∀ a, (kG K a).1 < 28) ∧ (∀ a, (kG K a).1 = 9 → ∀ t, t + 101 = a → kG K t = (21, 600)) ∧ (kG K 0).1 = 0
theorem va_pl_D {L : List Nat} {f : Nat → va_E} {A : Nat → Prop} (h : va_D (fun _ => True) (L.map (fun a => (a, (.inr (0, []) : va_E))))) (hA : ∀ a ∈ L, A a) : va_D A (va_pl L f) := by
  refine ⟨fun i j p q hi hj e => ?_, fun k q hk => ?_⟩
  · unfold va_pl at hi hj
    rw [List.getElem?_map] at hi hj
    cases h1 : L[i]? with
    | none => rw [h1] at hi; cases hi
    | some x =>
      cases h2 : L[j]? with
      | none => rw [h2] at hj; cases hj
      | some y =>
        rw [h1] at hi; rw [h2] at hj
        cases hi; cases hj
        exact h.1 i j (x, .inr (0, [])) (y, .inr (0, [])) (by rw [List.getElem?_map, h1]; rfl) (by rw [List.getElem?_map, h2]; rfl) e
  · unfold va_pl at hk
    rw [List.getElem?_map] at hk
    cases h1 : L[k]? with
    | none => rw [h1] at hk; cases hk
    | some x => rw [h1] at hk; cases hk; exact hA x (List.mem_of_getElem? h1)
theorem HP.at {K : Kx} {mem : Mm} {H : Heap} (h : HP K mem H) {a : Nat} (ha : a ∈ (kL K)) : va_P (kD K) vwCl [(a, celE K mem a)] H := by
  intro k q hk
  obtain ⟨i, hi⟩ := List.getElem?_of_mem ha
  cases k with
  | zero =>
    cases hk
    exact h i _ (by unfold va_pl; rw [List.getElem?_map, hi]; rfl)
  | succ n => simp at hk
/-- one cell is changed -/
theorem HP.put {K : Kx} {mem mem' : Mm} {H H1 : Heap} (h : HP K mem H) {a : Nat} (h1 : va_at (kD K) vwCl (a, celE K mem' a) H1) (ho : ∀ q, q ≠ a → H1[q]? = H[q]?) (he : ∀ b, b ≠ a → celE K mem' b = celE K mem b) : HP K mem' H1 := by
  intro k q hk
  unfold va_pl at hk
  rw [List.getElem?_map] at hk
  cases hx : (kL K)[k]? with
  | none => rw [hx] at hk; cases hk
  | some x =>
    rw [hx] at hk; cases hk
    by_cases hxa : x = a
    · subst hxa; exact h1
    · have := h k (x, celE K mem x) (by unfold va_pl; rw [List.getElem?_map, hx]; rfl)
      show va_at (kD K) vwCl (x, celE K mem' x) H1
      rw [he x hxa]
      exact this.kept (ho x hxa)
abbrev HW : Type := Heap → List Loc → JFrame → Prop
/-- the fixed things of a method's walk -/
def Gd (l : Launch) (R : Room) (K : Kx) (m : MethodId) (own : String) (cc : ByteArray) (nL : Nat) (H0 : Heap) (ret : Option FieldType) (Qc : Array Value → State → Outcome → State → Prop) (w : HW) : Prop :=
  ∃ (p : Program) (e : Env) (s : State) (args : Array Value) (below : List Frame) (meth : Method) (c : Code), w = (fun H locs g => W p l e R s m args below meth c H locs 0 0 (MQ below Qc args s 0 0 (AA K)) g) ∧ p.tables.exec = Jvm.exec ∧ c.code = cc ∧ c.maxLocals = nL ∧ s.vm.findClass own = some m.cls ∧ (∀ x ∈ gw, x.before args s = true) ∧ (KK K s ∧ OH K s.heap) ∧ H0 = s.heap ∧ meth.sig.returnType = ret ∧ meth.locks = false
def Jg (K : Kx) (m : MethodId) (nL : Nat) (H0 : Heap) (w : HW) (pc : Nat) (L : List (Nat × Value)) (S : List Value) (mem : Mm) : Prop :=
  ∀ (H : Heap) (locs : List Loc) (ls : Array Slot), HP K mem H → va_S (AA K) H0 H locs → lv_has ls nL L → w H locs (F0 m pc ls S)
def Con (K : Kx) (l : Launch) (y : MethodName) (ws : List Cond) (rm : Room) (as : List Value) (mem : Mm) (Qc : Array Value → State → Outcome → State → Prop) : Prop :=
  Met l y ws rm (va_Pc as (fun U => HP K mem U.heap ∧ KK K U ∧ OH K U.heap)) Qc 0 0 (AA K)
theorem Con.ofJ {K : Kx} {l : Launch} {y : MethodName} {rm : Room} {as : List Value} {mem : Mm} {Qc : Array Value → State → Outcome → State → Prop} {cc : ByteArray} {nL : Nat} {ret : Option FieldType} (own : String) (hown : y.cls = own) (hy : plainName y.cls = true) (hn : (lg_sl as).length ≤ nL)
    (body : ∀ (m : MethodId) (H0 : Heap) (w : HW), Gd l rm K m own cc nL H0 ret Qc w → Jg K m nL H0 w 0 (lv_args 0 as) [] mem) : Con K l y (wsT y cc nL ret) rm as mem Qc := by
  subst hown
  refine Met.ofW (cc := cc) (maxL := nL) (ret := ret) hy rfl ?_
  intro p e s m args below meth c s₁ B hml hv
  obtain ⟨rfl, hP, hK⟩ := hv
  have h := body m s.heap _ ⟨p, e, s, as.toArray, below, meth, c, rfl, B.exec, B.bytes, hml, findClass_of_methodNamed B.named, fun x h => atoms_spec (ws := wsT y cc nL ret) B.pre x (List.mem_cons_of_mem _ h), hK, rfl, B.returns, B.notSynchronized⟩
  have hl := lv_entry as (n := nL) hn
  rw [lg_entry_eq]
  exact h s.heap [] _ hP va_S.rf hl
