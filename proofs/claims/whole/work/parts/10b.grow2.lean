/-! the growing world: fields, cells of arrays, calls, the plain instructions -/
section
variable {K : Kx} {l : Launch} {R : Room} {base n0 : Nat} {m : MethodId} {own : String} {cc : ByteArray} {nL : Nat} {H0 : Heap} {ret : Option FieldType} {Qc : Array Value → State → Outcome → State → Prop} {mc ms : Nat} {w : HN} {ce sl : Nat} {E : Nat → va_E} {pc : Nat} {L : List (Nat × Value)} {S : List Value}
theorem n_iconst (G : GN l R K base n0 m own cc nL H0 ret Qc mc ms w) {n : Int} (v : Int32) (hd : decode cc pc = .ok (.iconst n, 1)) (hv : Int32.ofInt n = v) (k : JN K base n0 m nL H0 w ce sl E (pc + 1) L (.int v :: S)) : JN K base n0 m nL H0 w ce sl E pc L S := by
  obtain ⟨p, e, s, args, below, meth, c, rfl, hx, hb, hml, hown, hts, hK, rfl, hr, hlk, hnm, hsz⟩ := G
  intro H locs ls hP hS hl
  exact lv_iconst hx hb hd hv (k H locs ls hP hS hl)
theorem n_bipush (G : GN l R K base n0 m own cc nL H0 ret Qc mc ms w) {n : Int} (v : Int32) (hd : decode cc pc = .ok (.bipush n, 2)) (hv : (Int8.ofInt n).toInt32 = v) (k : JN K base n0 m nL H0 w ce sl E (pc + 2) L (.int v :: S)) : JN K base n0 m nL H0 w ce sl E pc L S := by
  obtain ⟨p, e, s, args, below, meth, c, rfl, hx, hb, hml, hown, hts, hK, rfl, hr, hlk, hnm, hsz⟩ := G
  intro H locs ls hP hS hl
  exact lv_bipush hx hb hd hv (k H locs ls hP hS hl)
theorem n_sipush (G : GN l R K base n0 m own cc nL H0 ret Qc mc ms w) {n : Int} (v : Int32) (hd : decode cc pc = .ok (.sipush n, 3)) (hv : (Int16.ofInt n).toInt32 = v) (k : JN K base n0 m nL H0 w ce sl E (pc + 3) L (.int v :: S)) : JN K base n0 m nL H0 w ce sl E pc L S := by
  obtain ⟨p, e, s, args, below, meth, c, rfl, hx, hb, hml, hown, hts, hK, rfl, hr, hlk, hnm, hsz⟩ := G
  intro H locs ls hP hS hl
  exact lv_sipush hx hb hd hv (k H locs ls hP hS hl)
theorem n_iload_n (G : GN l R K base n0 m own cc nL H0 ret Qc mc ms w) {k0 : Fin 4} {x : Int32} (j i : Nat) (hd : decode cc pc = .ok (.iload_n k0, 1)) (hi : (k0 : Nat) = i) (hj : L[j]? = some (i, .int x)) (k : JN K base n0 m nL H0 w ce sl E (pc + 1) L (.int x :: S)) : JN K base n0 m nL H0 w ce sl E pc L S := by
  obtain ⟨p, e, s, args, below, meth, c, rfl, hx, hb, hml, hown, hts, hK, rfl, hr, hlk, hnm, hsz⟩ := G
  intro H locs ls hP hS hl
  exact lv_iload_n hx hb hd hi (lv_at hl j hj) (k H locs ls hP hS hl)
theorem n_aload_n (G : GN l R K base n0 m own cc nL H0 ret Qc mc ms w) {k0 : Fin 4} {x : Nat} (j i : Nat) (hd : decode cc pc = .ok (.aload_n k0, 1)) (hi : (k0 : Nat) = i) (hj : L[j]? = some (i, .ref x)) (k : JN K base n0 m nL H0 w ce sl E (pc + 1) L (.ref x :: S)) : JN K base n0 m nL H0 w ce sl E pc L S := by
  obtain ⟨p, e, s, args, below, meth, c, rfl, hx, hb, hml, hown, hts, hK, rfl, hr, hlk, hnm, hsz⟩ := G
  intro H locs ls hP hS hl
  exact lv_aload_n hx hb hd hi (lv_at hl j hj) (k H locs ls hP hS hl)
theorem n_istore_n (G : GN l R K base n0 m own cc nL H0 ret Qc mc ms w) {k0 : Fin 4} {x : Int32} (i : Nat) (L2 : List (Nat × Value)) (hd : decode cc pc = .ok (.istore_n k0, 1)) (hi : (k0 : Nat) = i) (hn : i < nL) (hl2 : (i, Value.int x) :: L.filter (fun q => !(q.1 == i) && !(q.1 + 1 == i && q.2.category == 2)) = L2) (k : JN K base n0 m nL H0 w ce sl E (pc + 1) L2 S) : JN K base n0 m nL H0 w ce sl E pc L (.int x :: S) := by
  obtain ⟨p, e, s, args, below, meth, c, rfl, hx, hb, hml, hown, hts, hK, rfl, hr, hlk, hnm, hsz⟩ := G
  intro H locs ls hP hS hl
  exact lv_istore_n hx hb hd hi hl hn hl2 (fun ls hl => k H locs ls hP hS hl)
theorem n_iinc (G : GN l R K base n0 m own cc nL H0 ret Qc mc ms w) {i : Nat} {n : Int} {x : Int32} (j : Nat) (v : Int32) (L2 : List (Nat × Value)) (hd : decode cc pc = .ok (.iinc i n, 3)) (hj : L[j]? = some (i, .int x)) (hv : x + Int32.ofInt n = v) (hn : i < nL) (hl2 : (i, Value.int v) :: L.filter (fun q => !(q.1 == i) && !(q.1 + 1 == i && q.2.category == 2)) = L2) (k : JN K base n0 m nL H0 w ce sl E (pc + 3) L2 S) : JN K base n0 m nL H0 w ce sl E pc L S := by
  obtain ⟨p, e, s, args, below, meth, c, rfl, hx, hb, hml, hown, hts, hK, rfl, hr, hlk, hnm, hsz⟩ := G
  intro H locs ls hP hS hl
  exact lv_iinc hx hb hd hl hj hv hn hl2 (fun ls hl => k H locs ls hP hS hl)
theorem n_goto (G : GN l R K base n0 m own cc nL H0 ret Qc mc ms w) {off : Int} (tgt : Nat) (hd : decode cc pc = .ok (.goto off, 3)) (ht : (pc : Int) + off = (tgt : Int)) (k : JN K base n0 m nL H0 w ce sl E tgt L S) : JN K base n0 m nL H0 w ce sl E pc L S := by
  obtain ⟨p, e, s, args, below, meth, c, rfl, hx, hb, hml, hown, hts, hK, rfl, hr, hlk, hnm, hsz⟩ := G
  intro H locs ls hP hS hl
  exact lv_goto hx hb hd ht (k H locs ls hP hS hl)
theorem n_icmp_ge (G : GN l R K base n0 m own cc nL H0 ret Qc mc ms w) {x y : Int32} {off : Int} (tgt : Nat) (hd : decode cc pc = .ok (.if_icmp .ge off, 3)) (ht : (pc : Int) + off = (tgt : Int)) (kt : y ≤ x → JN K base n0 m nL H0 w ce sl E tgt L S) (kf : ¬ y ≤ x → JN K base n0 m nL H0 w ce sl E (pc + 3) L S) : JN K base n0 m nL H0 w ce sl E pc L (.int y :: .int x :: S) := by
  obtain ⟨p, e, s, args, below, meth, c, rfl, hx, hb, hml, hown, hts, hK, rfl, hr, hlk, hnm, hsz⟩ := G
  intro H locs ls hP hS hl
  exact lv_icmp_ge hx hb hd ht (fun h => kt h H locs ls hP hS hl) (fun h => kf h H locs ls hP hS hl)
theorem n_dup (G : GN l R K base n0 m own cc nL H0 ret Qc mc ms w) {a : Value} (ha : a.category = 1) (hd : decode cc pc = .ok (.dup, 1)) (k : JN K base n0 m nL H0 w ce sl E (pc + 1) L (a :: a :: S)) : JN K base n0 m nL H0 w ce sl E pc L (a :: S) := by
  obtain ⟨p, e, s, args, below, meth, c, rfl, hx, hb, hml, hown, hts, hK, rfl, hr, hlk, hnm, hsz⟩ := G
  intro H locs ls hP hS hl
  exact lv_dup hx hb hd ha (k H locs ls hP hS hl)
theorem n_if_eq (G : GN l R K base n0 m own cc nL H0 ret Qc mc ms w) {x : Int32} {off : Int} (tgt : Nat) (hd : decode cc pc = .ok (.ifCond .eq off, 3)) (ht : (pc : Int) + off = (tgt : Int)) (kt : x = 0 → JN K base n0 m nL H0 w ce sl E tgt L S) (kf : ¬ x = 0 → JN K base n0 m nL H0 w ce sl E (pc + 3) L S) : JN K base n0 m nL H0 w ce sl E pc L (.int x :: S) := by
  obtain ⟨p, e, s, args, below, meth, c, rfl, hx, hb, hml, hown, hts, hK, rfl, hr, hlk, hnm, hsz⟩ := G
  intro H locs ls hP hS hl
  exact lv_if_eq hx hb hd ht (fun h => kt h H locs ls hP hS hl) (fun h => kf h H locs ls hP hS hl)
theorem n_put (G : GN l R K base n0 m own cc nL H0 ret Qc mc ms w) {C ref : String} {T : u_T} {N index : Nat} (ci a k : Nat) {fs : List Value} {v : Value} (ty0 : Nat → FieldType) (ty : FieldType) (hty : ∀ k, k < N → parseFieldDescriptor (T k).2.2.1 = some (ty0 k)) (hnm0 : ∀ a, a < N → ∀ b, b < N → a ≠ b → (T a).2.1 ≠ (T b).2.1) (h1 : base ≤ a) (h2 : a < base + (n0 + ce)) (he : E a = .inr (ci, fs)) (hc : vwCl[ci]? = some (C, T, N)) (hk : k < N) (hin : ∀ x ∈ u_ws C T N, x ∈ gw) (hw : Cond.fieldLink own index ref (T k).2.1 (T k).2.2.1 ∈ gw) (hsame : ref = (T k).1) (hfin : (T k).2.2.2 = false) (hpd : parseFieldDescriptor (T k).2.2.1 = some ty) (hn : narrow ty v = v) (hfit : fits ty v = true) (hl : k < fs.length) (hd : decode cc pc = .ok (.putfield index, 3))
    (kk : JN K base n0 m nL H0 w ce sl (ue E a (.inr (ci, fs.set k v))) (pc + 3) L S) : JN K base n0 m nL H0 w ce sl E pc L (v :: .ref a :: S) := by
  obtain ⟨p, e, s, args, below, meth, c, rfl, hx, hb, hml, hown, hts, hK, rfl, hr, hlk, hnm, hsz⟩ := G
  intro H locs ls hP hS hlv
  exact va_put hx hb hts hin ty0 hty hnm0 hown hK.1.1.1 hP.P HE.D hS (a - base) (by rw [r_idx E h1 h2, he]) hc k hk (hts _ hw) (fun x h => by rw [hsame]; exact h) hfin hpd hn hfit hl hd (fun H1 locs1 hP1 _ hS1 => kk H1 locs1 ls (P.HE h1 h2 hP1) hS1 hlv)
theorem n_putF (G : GN l R K base n0 m own cc nL H0 ret Qc mc ms w) {C ref : String} {T : u_T} {N index : Nat} (ci a k : Nat) {fs : List Value} {v : Value} (ty0 : Nat → FieldType) (ty : FieldType) (hty : ∀ k, k < N → parseFieldDescriptor (T k).2.2.1 = some (ty0 k)) (hnm0 : ∀ a, a < N → ∀ b, b < N → a ≠ b → (T a).2.1 ≠ (T b).2.1) (h1 : base ≤ a) (h2 : a < base + (n0 + ce)) (he : E a = .inr (ci, fs)) (hc : vwCl[ci]? = some (C, T, N)) (hk : k < N) (hin : ∀ x ∈ u_ws C T N, x ∈ gw) (hw : Cond.fieldLink own index ref (T k).2.1 (T k).2.2.1 ∈ gw) (hsame : ref = (T k).1) (hfin : (T k).2.2.2 = true) (hdecl : (T k).1 = own) (hpd : parseFieldDescriptor (T k).2.2.1 = some ty) (hn : narrow ty v = v) (hfit : fits ty v = true) (hl : k < fs.length) (hd : decode cc pc = .ok (.putfield index, 3))
    (kk : JN K base n0 m nL H0 w ce sl (ue E a (.inr (ci, fs.set k v))) (pc + 3) L S) : JN K base n0 m nL H0 w ce sl E pc L (v :: .ref a :: S) := by
  obtain ⟨p, e, s, args, below, meth, c, rfl, hx, hb, hml, hown, hts, hK, rfl, hr, hlk, hnm, hsz⟩ := G
  intro H locs ls hP hS hlv
  exact va_putF hx hb hts hin ty0 hty hnm0 hown hK.1.1.1 hP.P HE.D hS (a - base) (by rw [r_idx E h1 h2, he]) hc k hk (hts _ hw) (fun x h => by rw [hsame]; exact h) hfin hnm hdecl hpd hn hfit hl hd (fun H1 locs1 hP1 _ hS1 => kk H1 locs1 ls (P.HE h1 h2 hP1) hS1 hlv)
theorem n_get (G : GN l R K base n0 m own cc nL H0 ret Qc mc ms w) {C ref : String} {T : u_T} {N index : Nat} (ci a k : Nat) {fs : List Value} {v : Value} (h1 : base ≤ a) (h2 : a < base + (n0 + ce)) (he : E a = .inr (ci, fs)) (hc : vwCl[ci]? = some (C, T, N)) (hk : k < N) (hin : ∀ x ∈ u_ws C T N, x ∈ gw) (hw : Cond.fieldLink own index ref (T k).2.1 (T k).2.2.1 ∈ gw) (hsame : ref = (T k).1) (hv : fs[k]? = some v) (hd : decode cc pc = .ok (.getfield index, 3))
    (kk : JN K base n0 m nL H0 w ce sl E (pc + 3) L (v :: S)) : JN K base n0 m nL H0 w ce sl E pc L (.ref a :: S) := by
  obtain ⟨p, e, s, args, below, meth, c, rfl, hx, hb, hml, hown, hts, hK, rfl, hr, hlk, hnm, hsz⟩ := G
  intro H locs ls hP hS hlv
  exact va_get hx hb hts hin hown hK.1.1.1 hP.P (a - base) (by rw [r_idx E h1 h2, he]) hc k hk (hts _ hw) (fun x h => by rw [hsame]; exact h) hv hd (kk H locs ls hP hS hlv)
theorem n_ast (G : GN l R K base n0 m own cc nL H0 ret Qc mc ms w) {r : vw_C} (ci a v t0 kd : Nat) {n : Nat} {vs : List Value} {f : Nat → Option Nat} {i : Int32} (h1 : base ≤ a) (h2 : a < base + (n0 + ce)) (he : E a = .inl (kC K kd, n, .inr (.inr (.inr (.inr f))))) (g1 : base ≤ v) (g2 : v < base + (n0 + ce)) (hv : E v = .inr (ci, vs)) (hc : vwCl[ci]? = some r) (ht : (tyl (kC K))[t0]? = some (kC K kd, .object r.1)) (hin : vp_in i n) (hd : decode cc pc = .ok (.aastore, 1))
    (kk : JN K base n0 m nL H0 w ce sl (ue E a (.inl (kC K kd, n, .inr (.inr (.inr (.inr (va_up f (ix i) (some v)))))))) (pc + 1) L S) : JN K base n0 m nL H0 w ce sl E pc L (.ref v :: .int i :: .ref a :: S) := by
  obtain ⟨p, e, s, args, below, meth, c, rfl, hx, hb, hml, hown, hts, hK, rfl, hr, hlk, hnm, hsz⟩ := G
  intro H locs ls hP hS hlv
  exact va_astq hx hb hK.1.1.1 hP.P HE.D hS (a - base) t0 (v - base) ci (by rw [r_idx E h1 h2, he]) ht (by rw [r_idx E g1 g2, hv]) hc hin hd (fun H1 locs1 hP1 _ hS1 => kk H1 locs1 ls (P.HE h1 h2 hP1) hS1 hlv)
theorem n_obj (G : GN l R K base n0 m own cc nL H0 ret Qc mc ms w) {a idx : Nat} (h1 : Cond.methodLink own idx Lib.objectInit ∈ gw) (h2 : Cond.instanceMethod Lib.objectInit ∈ gw) (h3 : Cond.code Lib.objectInit ⟨#[0xb1]⟩ 1 none ∈ gw) (hf : 1 ≤ R.frames) (hlo : (S.map fun v => v.category).sum + 12 ≤ R.locals) (hd : decode cc pc = .ok (.invokespecial idx, 3)) (kk : JN K base n0 m nL H0 w ce sl E (pc + 3) L S) : JN K base n0 m nL H0 w ce sl E pc L (.ref a :: S) := by
  obtain ⟨p, e, s, args, below, meth, c, rfl, hx, hb, hml, hown, hts, hK, rfl, hr, hlk, hnm, hsz⟩ := G
  intro H locs ls hP hS hlv
  refine W.objInit hx hb hown (hts _ h1) (hts _ h2) (hts _ h3) rfl (by rw [hml]; exact hlv.1) rfl hd hf ?_ (kk H locs ls hP hS hlv)
  show 2 * 0 + _ + 12 ≤ _
  omega
theorem n_retv {E' : Nat → va_E} (G : GN l R K base n0 m own cc nL H0 none (va_Qv (S := Unit) (fun _ => True) (fun _ t => HE K base (n0 + mc) E' t.heap) (AB base)) mc ms w) (hc : ce = mc) (hs : sl = ms) (hE : E = E') (hd : decode cc pc = .ok (.return_, 1)) : JN K base n0 m nL H0 w ce sl E pc L [] := by
  obtain ⟨p, e, s, args, below, meth, c, rfl, hx, hb, hml, hown, hts, hK, rfl, hr, hlk, hnm, hsz⟩ := G
  subst hc; subst hs; subst hE
  intro H locs ls hP hS hl
  exact W.vret hx hb hr (fun t ht _ => ⟨⟨(), rfl, trivial, by show HE K base (n0 + ce) E t.heap; rw [ht]; exact hP⟩, hS.F ht⟩) (fun q hq => hS.2.2 q hq) hd hlk
end
def ConN (K : Kx) (l : Launch) (y : MethodName) (ws : List Cond) (rm : Room) (as : List Value) (base n0 : Nat) (E : Nat → va_E) (mc ms : Nat) (Qc : Array Value → State → Outcome → State → Prop) : Prop :=
  Met l y ws rm (va_Pc as (fun U => HE K base n0 E U.heap ∧ KN K U ∧ OH K U.heap ∧ U.heap.size = base + n0)) Qc mc ms (AB base)
theorem KN.warm {K : Kx} {s U : State} (hW : s.WarmedH U.vm) (h : KN K s) : KN K U := ⟨h.1.warm hW, h.2.1.moved hW.alike, h.2.2.1.moved hW.alike, h.2.2.2.1.moved hW.alike, h.2.2.2.2.1.moved hW.alike, fun q hq => va_Nw.warmM hW (h.2.2.2.2.2 q hq)⟩
theorem KN.same {K : Kx} {s U : State} (hv : s.vm = U.vm) (h : KN K s) : KN K U := by
  have ha : s.vm.Alike U.vm := by rw [hv]; exact Vm.Alike.refl U.vm
  exact ⟨h.1.same hv, h.2.1.moved ha, h.2.2.1.moved ha, h.2.2.2.1.moved ha, h.2.2.2.2.1.moved ha, fun q hq => va_Nw.same rfl hv (h.2.2.2.2.2 q hq)⟩
theorem ConN.ofJ {K : Kx} {l : Launch} {y : MethodName} {rm : Room} {as : List Value} {base n0 mc ms : Nat} {E : Nat → va_E} {Qc : Array Value → State → Outcome → State → Prop} {cc : ByteArray} {nL : Nat} {ret : Option FieldType} (own : String) (hown : y.cls = own) (hyn : y.name = "<init>") (hy : plainName y.cls = true) (hn : (lg_sl as).length ≤ nL)
    (body : ∀ (m : MethodId) (H0 : Heap) (w : HN), GN l rm K base n0 m own cc nL H0 ret Qc mc ms w → JN K base n0 m nL H0 w 0 0 E 0 (lv_args 0 as) []) : ConN K l y (wsT y cc nL ret) rm as base n0 E mc ms Qc := by
  subst hown
  refine Met.ofW (cc := cc) (maxL := nL) (ret := ret) hy rfl ?_
  intro p e s m args below meth c s₁ B hml hv
  obtain ⟨rfl, hP, hK, hO, hz⟩ := hv
  have h := body m s.heap _ ⟨p, e, s, as.toArray, below, meth, c, rfl, B.exec, B.bytes, hml, findClass_of_methodNamed B.named, fun x h => atoms_spec (ws := wsT y cc nL ret) B.pre x (List.mem_cons_of_mem _ h), ⟨hK, hO⟩, rfl, B.returns, B.notSynchronized, (name_of_methodNamed B.named B.method).1.trans hyn, hz⟩
  have hl := lv_entry as (n := nL) hn
  rw [lg_entry_eq]
  exact h s.heap [] _ hP va_S.rf hl
theorem ConN.blind (K : Kx) (as : List Value) (base n0 : Nat) (E : Nat → va_E) : FrameBlind (va_Pc as (fun U => HE K base n0 E U.heap ∧ KN K U ∧ OH K U.heap ∧ U.heap.size = base + n0)) := fun a U g mk q => by
  obtain ⟨q0, q1, q2, q3⟩ := q
  exact ⟨q0, q1, KN.same (s := U) (U := U.calling g mk a) rfl q2, q3⟩
theorem OH.ab {K : Kx} {base : Nat} {H0 H : Heap} {locs : List Loc} (hb : (kH K).size = base) (h : OH K H0) (hS : va_S (AB base) H0 H locs) : OH K H := ⟨Nat.le_trans h.1 hS.1, fun q hq ha => (hS.2.1 q (Nat.lt_of_lt_of_le hq h.1) (by show ¬ base ≤ q; omega)).trans (h.2 q hq ha)⟩
section
variable {K : Kx} {l : Launch} {R : Room} {base n0 : Nat} {m : MethodId} {own : String} {cc : ByteArray} {nL : Nat} {H0 : Heap} {ret : Option FieldType} {Qc : Array Value → State → Outcome → State → Prop} {mc ms : Nat} {w : HN} {ce sl : Nat} {E : Nat → va_E} {pc : Nat} {L : List (Nat × Value)} {S : List Value}
/-- a constructor is called -/
theorem n_init (G : GN l R K base n0 m own cc nL H0 ret Qc mc ms w) (hkH : (kH K).size = base) {b index maxL n mc2 ms2 : Nat} {As rest S0 : List Value} {y : MethodName} {bytes : ByteArray} {rm : Room} {E' : Nat → va_E} (hM : ConN K l y (wsT y bytes maxL none) rm (.ref b :: As) base (n0 + ce) E mc2 ms2 (va_Qv (S := Unit) (fun _ => True) (fun _ t => HE K base (n0 + ce + mc2) E' t.heap) (AB base)))
    (h1 : Cond.methodLink own index y ∈ gw) (h2 : Cond.instanceMethod y ∈ gw) (h4 : Cond.initialized y.cls ∈ gw) (h5 : Cond.code y bytes maxL none ∈ gw) (hyn : y.name = "<init>") (hds : dsc y n) (hrc : rm.cells = mc2) (hrs : rm.slots = ms2) (hfr : rm.frames + 1 ≤ R.frames) (hlo : 8 + (maxL + 11) + rm.locals ≤ R.locals)
    (hn : As.length = n) (hS0 : S0 = As.reverse ++ .ref b :: rest) (hrm : (rest.map fun v => v.category).sum ≤ 8) (hce : ce + mc2 ≤ R.cells) (hsl : sl + ms2 ≤ R.slots) (hpos : 0 < n0 + ce) (hd : decode cc pc = .ok (.invokespecial index, 3)) (kk : JN K base n0 m nL H0 w (ce + mc2) (sl + ms2) E' (pc + 3) L rest) : JN K base n0 m nL H0 w ce sl E pc L S0 := by
  obtain ⟨p, e, s, args, below, meth, c, rfl, hx, hb, hml, hown, hts, hK, rfl, hr, hlk, hnm, hsz⟩ := G
  intro H locs ls hP hS hl
  refine W_sz (fun hle => ?_)
  have hH : H.size = base + (n0 + ce) := by have := hP.ge hpos; omega
  refine va_callv (va_runI (As := As) (rest := rest) ⟨hx, hb, hml, hown, hts⟩ hM (cwI n hts (gw_in0 h5) rfl hrc hrs (hts _ h4) (hts _ h1) (hts _ h2) hyn hds ⟨hfr, hlo⟩) ⟨ConN.blind K _ base _ E, fun U hU hWm => ⟨rfl, by rw [hU]; exact hP, KN.warm hWm hK.1, by rw [hU]; exact OH.ab hkH hK.2 hS, by rw [hU]; exact hH⟩⟩ rfl hn hl.1 hS0 (lv_room hrm) hd ⟨hce, hsl⟩) hS (fun _ _ h => h) (fun _ h => h) (fun u t H1 locs1 ht _ _ hB _ _ hS1 => kk H1 locs1 ls (by rw [← ht, ← Nat.add_assoc]; exact hB) hS1 hl)
/-- a nest mate's constructor is called -/
theorem n_initN (G : GN l R K base n0 m own cc nL H0 ret Qc mc ms w) (hkH : (kH K).size = base) {b index maxL n mc2 ms2 : Nat} {As rest S0 : List Value} {y : MethodName} {bytes : ByteArray} {rm : Room} {E' : Nat → va_E} (hM : ConN K l y (wsT y bytes maxL none) rm (.ref b :: As) base (n0 + ce) E mc2 ms2 (va_Qv (S := Unit) (fun _ => True) (fun _ t => HE K base (n0 + ce + mc2) E' t.heap) (AB base)))
    (h1 : (own, index, y) ∈ nstI) (h2 : Cond.instanceMethod y ∈ gw) (h4 : Cond.initialized y.cls ∈ gw) (h5 : Cond.code y bytes maxL none ∈ gw) (hyn : y.name = "<init>") (hds : dsc y n) (hrc : rm.cells = mc2) (hrs : rm.slots = ms2) (hfr : rm.frames + 1 ≤ R.frames) (hlo : 8 + (maxL + 11) + rm.locals ≤ R.locals)
    (hn : As.length = n) (hS0 : S0 = As.reverse ++ .ref b :: rest) (hrm : (rest.map fun v => v.category).sum ≤ 8) (hce : ce + mc2 ≤ R.cells) (hsl : sl + ms2 ≤ R.slots) (hpos : 0 < n0 + ce) (hd : decode cc pc = .ok (.invokespecial index, 3)) (kk : JN K base n0 m nL H0 w (ce + mc2) (sl + ms2) E' (pc + 3) L rest) : JN K base n0 m nL H0 w ce sl E pc L S0 := by
  obtain ⟨p, e, s, args, below, meth, c, rfl, hx, hb, hml, hown, hts, hK, rfl, hr, hlk, hnm, hsz⟩ := G
  intro H locs ls hP hS hl
  refine W_sz (fun hle => ?_)
  have hH : H.size = base + (n0 + ce) := by have := hP.ge hpos; omega
  refine va_callv (va_runIN (As := As) (rest := rest) ⟨hx, hb, hml, hown, hts⟩ hM ⟨va_cnB n hts (gw_in0 h5) rfl hrc hrs (hK.1.2.2.2.2.2 _ h1) (hts _ h4) hds ⟨hfr, hlo⟩, hyn, hts _ h2⟩ ⟨ConN.blind K _ base _ E, fun U hU hWm => ⟨rfl, by rw [hU]; exact hP, KN.warm hWm hK.1, by rw [hU]; exact OH.ab hkH hK.2 hS, by rw [hU]; exact hH⟩⟩ rfl hn hl.1 hS0 (lv_room hrm) hd ⟨hce, hsl⟩) hS (fun _ _ h => h) (fun _ h => h) (fun u t H1 locs1 ht _ _ hB _ _ hS1 => kk H1 locs1 ls (by rw [← ht, ← Nat.add_assoc]; exact hB) hS1 hl)
end
