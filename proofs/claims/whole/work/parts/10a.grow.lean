/-! the growing world, while objects are made: cells lie one behind the other from base on -/
/-- links to constructors of nest mates -/
def nstI : List (String × Nat × MethodName) := [(RX9, 11, yX8_init), (RX2, 39, yX0_init), (RX1, 37, yX3_init), (RX9, 26, yX4_init), (RX4, 20, yX7_init), (RX9, 40, yX6_init)]
def AO4 (U : State) : Prop := va_AO RX0 U ∧ va_AO RX3 U ∧ va_AO RX5 U ∧ va_AO RX8 U ∧ ∀ q ∈ nstI, va_Nw (.methodLinkNest q.1 q.2.1 q.2.2 "TwoProcessors") U
def KN (K : Kx) (U : State) : Prop := KK K U ∧ AO4 U
def HE (K : Kx) (base N : Nat) (E : Nat → va_E) (H : Heap) : Prop := ∀ q, base ≤ q → q < base + N → va_at (kD K) vwCl (q, E q) H
def AB (base : Nat) : Nat → Prop := fun q => base ≤ q
def ue (E : Nat → va_E) (q : Nat) (e : va_E) : Nat → va_E := fun b => if b = q then e else E b
theorem ue_at (E : Nat → va_E) (q : Nat) (e : va_E) : ue E q e q = e := if_pos rfl
theorem ue_ne (E : Nat → va_E) {q b : Nat} (e : va_E) (h : b ≠ q) : ue E q e b = E b := if_neg h
theorem r_idx {base N q : Nat} (E : Nat → va_E) (h1 : base ≤ q) (h2 : q < base + N) : (va_pl (List.range' base N) E)[q - base]? = some (q, E q) := by
  unfold va_pl
  rw [List.getElem?_map, List.getElem?_range' (by omega)]
  simp
  constructor
  · omega
  · congr 1; omega
theorem HE.P {K : Kx} {base N : Nat} {E : Nat → va_E} {H : Heap} (h : HE K base N E H) : va_P (kD K) vwCl (va_pl (List.range' base N) E) H := by
  intro k x hx
  unfold va_pl at hx
  rw [List.getElem?_map] at hx
  cases hk : (List.range' base N)[k]? with
  | none => rw [hk] at hx; cases hx
  | some y =>
    rw [hk] at hx; cases hx
    have := List.mem_of_getElem? hk
    rw [List.mem_range'_1] at this
    exact h y this.1 this.2
theorem P.HE {K : Kx} {base N a : Nat} {E : Nat → va_E} {e : va_E} {H : Heap} (h1 : base ≤ a) (h2 : a < base + N) (h : va_P (kD K) vwCl ((va_pl (List.range' base N) E).set (a - base) (a, e)) H) : HE K base N (ue E a e) H := by
  intro q q1 q2
  by_cases hq : q = a
  · subst hq
    rw [ue_at]
    refine h (q - base) _ ?_
    rw [List.getElem?_set_self]
    unfold va_pl; rw [List.length_map, List.length_range']; omega
  · rw [ue_ne _ _ hq]
    refine h (q - base) _ ?_
    rw [List.getElem?_set_ne (by omega)]
    exact r_idx E q1 q2
theorem HE.D {base N : Nat} {E : Nat → va_E} : va_D (AB base) (va_pl (List.range' base N) E) := by
  have key : ∀ (i : Nat) (x : Nat × va_E), (va_pl (List.range' base N) E)[i]? = some x → x.1 = base + i := fun i x hx => by
    unfold va_pl at hx
    rw [List.getElem?_map] at hx
    cases hk : (List.range' base N)[i]? with
    | none => rw [hk] at hx; cases hx
    | some y =>
      rw [hk] at hx; cases hx
      have hl : i < N := by have := (List.getElem?_eq_some_iff.mp hk).1; rw [List.length_range'] at this; exact this
      rw [List.getElem?_range' hl] at hk
      have := Option.some.inj hk
      show y = base + i
      omega
  refine ⟨fun i j p q hi hj e => ?_, fun k q hk => ?_⟩
  · have := key i p hi; have := key j q hj; omega
  · show base ≤ q.1
    have := key k q hk; omega
theorem HE.ge {K : Kx} {base N : Nat} {E : Nat → va_E} {H : Heap} (h : HE K base N E H) (hN : 0 < N) : base + N ≤ H.size := by
  have h1 := r_idx (N := N) (base := base) (q := base + N - 1) E (by omega) (by omega)
  have := (h.P _ _ h1).lt
  simp only at this
  omega
theorem HE.push {K : Kx} {base N : Nat} {E : Nat → va_E} {H H1 : Heap} {e : va_E} (h : HE K base N E H) (hs : H.size = base + N) (ho : ∀ q, q < H.size → H1[q]? = H[q]?) (he : va_at (kD K) vwCl (base + N, e) H1) : HE K base (N + 1) (ue E (base + N) e) H1 := by
  intro q q1 q2
  by_cases hq : q = base + N
  · subst hq; rw [ue_at]; exact he
  · rw [ue_ne _ _ hq]
    exact (h q q1 (by omega)).kept (ho q (by omega))
abbrev HN : Type := Heap → List Loc → Nat → Nat → JFrame → Prop
def GN (l : Launch) (R : Room) (K : Kx) (base n0 : Nat) (m : MethodId) (own : String) (cc : ByteArray) (nL : Nat) (H0 : Heap) (ret : Option FieldType) (Qc : Array Value → State → Outcome → State → Prop) (mc ms : Nat) (w : HN) : Prop :=
  ∃ (p : Program) (e : Env) (s : State) (args : Array Value) (below : List Frame) (meth : Method) (c : Code), w = (fun H locs ce sl g => W p l e R s m args below meth c H locs ce sl (MQ below Qc args s mc ms (AB base)) g) ∧ p.tables.exec = Jvm.exec ∧ c.code = cc ∧ c.maxLocals = nL ∧ s.vm.findClass own = some m.cls ∧ (∀ x ∈ gw, x.before args s = true) ∧ (KN K s ∧ OH K s.heap) ∧ H0 = s.heap ∧ meth.sig.returnType = ret ∧ meth.locks = false ∧ meth.name = "<init>" ∧ s.heap.size = base + n0
def JN (K : Kx) (base n0 : Nat) (m : MethodId) (nL : Nat) (H0 : Heap) (w : HN) (ce sl : Nat) (E : Nat → va_E) (pc : Nat) (L : List (Nat × Value)) (S : List Value) : Prop :=
  ∀ (H : Heap) (locs : List Loc) (ls : Array Slot), HE K base (n0 + ce) E H → va_S (AB base) H0 H locs → lv_has ls nL L → w H locs ce sl (F0 m pc ls S)
theorem W_sz {p : Program} {l : Launch} {e : Env} {R : Room} {s : State} {m : MethodId} {args : Array Value} {below : List Frame} {meth : Method} {c : Code} {H : Heap} {locs : List Loc} {cells slots : Nat} {Q : State → Prop} {g : JFrame} (k : H.size ≤ s.heap.size + cells → W p l e R s m args below meth c H locs cells slots Q g) : W p l e R s m args below meth c H locs cells slots Q g := fun T hT X => k (by have h := X.same.2.2.1; rw [← hT]; exact h) T hT X
section
variable {K : Kx} {l : Launch} {R : Room} {base n0 : Nat} {m : MethodId} {own : String} {cc : ByteArray} {nL : Nat} {H0 : Heap} {ret : Option FieldType} {Qc : Array Value → State → Outcome → State → Prop} {mc ms : Nat} {w : HN} {ce sl : Nat} {E : Nat → va_E} {pc : Nat} {L : List (Nat × Value)} {S : List Value}
theorem n_new (G : GN l R K base n0 m own cc nL H0 ret Qc mc ms w) {C : String} {T : u_T} {N ci index : Nat} (fs : List Value) (ty : Nat → FieldType) (hty : ∀ k, k < N → parseFieldDescriptor (T k).2.2.1 = some (ty k)) (hc : vwCl[ci]? = some (C, T, N)) (hin : ∀ x ∈ u_ws C T N, x ∈ gw) (h1 : Cond.classLink own index C ∈ gw) (h2 : Cond.instantiable C N ∈ gw) (h3 : Cond.initialized C ∈ gw) (hfs : ∀ j, j < N → defaultValue (ty j) = vp_V fs j) (hce : ce + 1 ≤ R.cells) (hsl : sl + N ≤ R.slots) (hpos : 0 < n0 + ce) (hd : decode cc pc = .ok (.new index, 3))
    (k : JN K base n0 m nL H0 w (ce + 1) (sl + N) (ue E (base + (n0 + ce)) (.inr (ci, fs))) (pc + 3) L (.ref (base + (n0 + ce)) :: S)) : JN K base n0 m nL H0 w ce sl E pc L S := by
  obtain ⟨p, e, s, args, below, meth, c, rfl, hx, hb, hml, hown, hts, hK, rfl, hr, hlk, hnm, hsz⟩ := G
  intro H locs ls hP hS hl
  refine W_sz (fun hle => ?_)
  have hH : H.size = base + (n0 + ce) := by have := hP.ge hpos; omega
  have hKn := hK.1.1.1.1 ci _ hc
  refine W.newcK hx hb hown (hts _ h1) (hts _ h2) (hts _ h3) rfl hd hce hsl hKn.2.1 hH fun H1 kC hkC e1 z1 o1 => ?_
  refine k H1 locs ls (hP.push hH (fun q hq => o1 q (by omega)) ⟨_, hc, (u_born ty hts hin hKn hkC e1 hty).to hfs⟩) ⟨Nat.le_trans hS.1 (by omega), fun x x1 x2 => (o1 x (by have := hS.1; omega)).trans (hS.2.1 x x1 x2), hS.2.2⟩ hl
theorem n_newa (G : GN l R K base n0 m own cc nL H0 ret Qc mc ms w) {atype : ArrayType} {ty : FieldType} (t0 kd : Nat) {n : Int32} {N : Nat} {a0 : _} (hty : newarray.typeOf atype = ty) (harr : Cond.arrayClass ty ∈ gw) (ht : (tyl (kC K))[t0]? = some (kC K kd, ty)) (hra : ∀ (U : State) (cA : ClassId), va_RA U cA ty → U.vm.findClass ("[" ++ ty.toString) = some cA) (ha : ∀ cA : ClassId, vp_cell cA (N, a0) = arrV cA N (fun _ => defaultValue ty)) (hn : ¬ n < 0) (hN : ix n = N) (hbytes : N * componentBytes ty ≤ 536870912) (hce : ce + 1 ≤ R.cells) (hsl : sl + N ≤ R.slots) (hpos : 0 < n0 + ce) (hd : decode cc pc = .ok (.newarray atype, 2))
    (k : JN K base n0 m nL H0 w (ce + 1) (sl + N) (ue E (base + (n0 + ce)) (.inl (kC K kd, N, a0))) (pc + 2) L (.ref (base + (n0 + ce)) :: S)) : JN K base n0 m nL H0 w ce sl E pc L (.int n :: S) := by
  obtain ⟨p, e, s, args, below, meth, c, rfl, hx, hb, hml, hown, hts, hK, rfl, hr, hlk, hnm, hsz⟩ := G
  intro H locs ls hP hS hl
  subst hty
  refine W_sz (fun hle => ?_)
  have hH : H.size = base + (n0 + ce) := by have := hP.ge hpos; omega
  refine va_newaK hx hb (hts _ harr) rfl hd rfl hn hN hbytes hce hsl hH fun H1 cA e1 z1 o1 hAr hNm => ?_
  have hcA : cA = kC K kd := Option.some.inj (hNm.symm.trans (hra _ _ (hK.1.1.1.2 t0 _ ht).2))
  subst hcA
  refine k H1 locs ls (hP.push hH (fun q hq => o1 q (by omega)) ?_) ⟨Nat.le_trans hS.1 (by omega), fun x x1 x2 => (o1 x (by have := hS.1; omega)).trans (hS.2.1 x x1 x2), hS.2.2⟩ hl
  show H1[base + (n0 + ce)]? = some (vp_cell _ _)
  rw [ha]; exact e1
theorem n_newq (G : GN l R K base n0 m own cc nL H0 ret Qc mc ms w) {C : String} {index : Nat} (t0 kd : Nat) {n : Int32} {N : Nat} (hao : ∀ U, AO4 U → va_AO C U) (h1 : Cond.classLink own index C ∈ gw) (ht : (tyl (kC K))[t0]? = some (kC K kd, .object C)) (hn : ¬ n < 0) (hN : ix n = N) (hbytes : N * 4 ≤ 536870912) (hce : ce + 1 ≤ R.cells) (hsl : sl + N ≤ R.slots) (hpos : 0 < n0 + ce) (hd : decode cc pc = .ok (.anewarray index, 3))
    (k : JN K base n0 m nL H0 w (ce + 1) (sl + N) (ue E (base + (n0 + ce)) (.inl (kC K kd, N, .inr (.inr (.inr (.inr (fun _ => none))))))) (pc + 3) L (.ref (base + (n0 + ce)) :: S)) : JN K base n0 m nL H0 w ce sl E pc L (.int n :: S) := by
  obtain ⟨p, e, s, args, below, meth, c, rfl, hx, hb, hml, hown, hts, hK, rfl, hr, hlk, hnm, hsz⟩ := G
  intro H locs ls hP hS hl
  subst hN
  refine W_sz (fun hle => ?_)
  have hH : H.size = base + (n0 + ce) := by have := hP.ge hpos; omega
  refine W.anew hx hb hown (hts _ h1) (va_AO.use (hao _ hK.1.2)) rfl hd rfl hn hbytes hce hsl fun cA kA comp f1 f2 f3 f4 => ?_
  obtain ⟨kA', comp', g1, g2, g3, g4⟩ := (hK.1.1.1.2 t0 _ ht).2
  have hcA : cA = kC K kd := Option.some.inj (f1.symm.trans g4)
  subst hcA
  generalize hH1 : H.push ({ cls := kC K kd, slots := Array.replicate n.toNatClampNeg .null, vm := .none } : Cell) = H1
  have z1 : H1.size = H.size + 1 := by rw [← hH1, Array.size_push]
  have e1 : H1[H.size]? = some (arrV (kC K kd) n.toNatClampNeg (fun _ => .null)) := by rw [← hH1, Array.getElem?_push_size, ← arrV_new]
  have o1 : ∀ q : Nat, q < H.size → H1[q]? = H[q]? := fun q hq => by rw [← hH1, Array.getElem?_push, if_neg (Nat.ne_of_lt hq)]
  rw [hH]
  refine k H1 locs ls (hP.push hH o1 ?_) ⟨Nat.le_trans hS.1 (by omega), fun x x1 x2 => (o1 x (by have := hS.1; omega)).trans (hS.2.1 x x1 x2), hS.2.2⟩ hl
  show H1[base + (n0 + ce)]? = some (vp_cell _ _)
  rw [vp_cell_q, ← hH]; exact e1
end
