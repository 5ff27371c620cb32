/-! the law's own walk: the same rules, in a room that is partly used up -/
def GL (l : Launch) (R : Room) (K : Kx) (m : MethodId) (own : String) (cc : ByteArray) (nL : Nat) (H0 : Heap) (bS Ln : Nat) (xs : Nat → Int32) (w : HW) : Prop :=
  ∃ (p : Program) (e : Env) (s : State) (args : Array Value) (below : List Frame) (meth : Method) (c : Code) (cells slots : Nat) (Q : State → Prop), w = (fun H locs g => W p l e R s m args below meth c H locs cells slots Q g) ∧ p.tables.exec = Jvm.exec ∧ c.code = cc ∧ c.maxLocals = nL ∧ s.vm.findClass own = some m.cls ∧ (∀ x ∈ gw, x.before args s = true) ∧ (KK K s ∧ OH K s.heap) ∧ H0 = s.heap ∧ (cells ≤ R.cells ∧ slots ≤ R.slots) ∧ va_X bS Ln xs s s.heap ∧ bS < s.heap.size ∧ ¬ AA K bS
section
variable {K : Kx} {l : Launch} {R : Room} {m : MethodId} {own : String} {cc : ByteArray} {nL : Nat} {H0 : Heap} {bS Ln : Nat} {xs : Nat → Int32} {w : HW} {pc : Nat} {L : List (Nat × Value)} {S : List Value} {mem : Mm}
theorem jl_iconst (G : GL l R K m own cc nL H0 bS Ln xs w) {n : Int} (v : Int32) (hd : decode cc pc = .ok (.iconst n, 1)) (hv : Int32.ofInt n = v) (k : Jg K m nL H0 w (pc + 1) L (.int v :: S) mem) : Jg K m nL H0 w pc L S mem := by
  obtain ⟨p, e, s, args, below, meth, c, cells, slots, Q, rfl, hx, hb, hml, hown, hts, hK, rfl, hcs, hX⟩ := G
  intro H locs ls hP hS hl
  exact lv_iconst hx hb hd hv (k H locs ls hP hS hl)
theorem jl_bipush (G : GL l R K m own cc nL H0 bS Ln xs w) {n : Int} (v : Int32) (hd : decode cc pc = .ok (.bipush n, 2)) (hv : (Int8.ofInt n).toInt32 = v) (k : Jg K m nL H0 w (pc + 2) L (.int v :: S) mem) : Jg K m nL H0 w pc L S mem := by
  obtain ⟨p, e, s, args, below, meth, c, cells, slots, Q, rfl, hx, hb, hml, hown, hts, hK, rfl, hcs, hX⟩ := G
  intro H locs ls hP hS hl
  exact lv_bipush hx hb hd hv (k H locs ls hP hS hl)
theorem jl_iload_n (G : GL l R K m own cc nL H0 bS Ln xs w) {k0 : Fin 4} {x : Int32} (j i : Nat) (hd : decode cc pc = .ok (.iload_n k0, 1)) (hi : (k0 : Nat) = i) (hj : L[j]? = some (i, .int x)) (k : Jg K m nL H0 w (pc + 1) L (.int x :: S) mem) : Jg K m nL H0 w pc L S mem := by
  obtain ⟨p, e, s, args, below, meth, c, cells, slots, Q, rfl, hx, hb, hml, hown, hts, hK, rfl, hcs, hX⟩ := G
  intro H locs ls hP hS hl
  exact lv_iload_n hx hb hd hi (lv_at hl j hj) (k H locs ls hP hS hl)
theorem jl_aload_n (G : GL l R K m own cc nL H0 bS Ln xs w) {k0 : Fin 4} {x : Nat} (j i : Nat) (hd : decode cc pc = .ok (.aload_n k0, 1)) (hi : (k0 : Nat) = i) (hj : L[j]? = some (i, .ref x)) (k : Jg K m nL H0 w (pc + 1) L (.ref x :: S) mem) : Jg K m nL H0 w pc L S mem := by
  obtain ⟨p, e, s, args, below, meth, c, cells, slots, Q, rfl, hx, hb, hml, hown, hts, hK, rfl, hcs, hX⟩ := G
  intro H locs ls hP hS hl
  exact lv_aload_n hx hb hd hi (lv_at hl j hj) (k H locs ls hP hS hl)
theorem jl_istore_n (G : GL l R K m own cc nL H0 bS Ln xs w) {k0 : Fin 4} {x : Int32} (i : Nat) (L2 : List (Nat × Value)) (hd : decode cc pc = .ok (.istore_n k0, 1)) (hi : (k0 : Nat) = i) (hn : i < nL) (hl2 : (i, Value.int x) :: L.filter (fun q => !(q.1 == i) && !(q.1 + 1 == i && q.2.category == 2)) = L2) (k : Jg K m nL H0 w (pc + 1) L2 S mem) : Jg K m nL H0 w pc L (.int x :: S) mem := by
  obtain ⟨p, e, s, args, below, meth, c, cells, slots, Q, rfl, hx, hb, hml, hown, hts, hK, rfl, hcs, hX⟩ := G
  intro H locs ls hP hS hl
  exact lv_istore_n hx hb hd hi hl hn hl2 (fun ls hl => k H locs ls hP hS hl)
theorem jl_iadd (G : GL l R K m own cc nL H0 bS Ln xs w) {x y : Int32} (hd : decode cc pc = .ok (.iadd, 1)) (k : Jg K m nL H0 w (pc + 1) L (.int (x + y) :: S) mem) : Jg K m nL H0 w pc L (.int y :: .int x :: S) mem := by
  obtain ⟨p, e, s, args, below, meth, c, cells, slots, Q, rfl, hx, hb, hml, hown, hts, hK, rfl, hcs, hX⟩ := G
  intro H locs ls hP hS hl
  exact lv_iadd hx hb hd (k H locs ls hP hS hl)
theorem jl_isub (G : GL l R K m own cc nL H0 bS Ln xs w) {x y : Int32} (hd : decode cc pc = .ok (.isub, 1)) (k : Jg K m nL H0 w (pc + 1) L (.int (x - y) :: S) mem) : Jg K m nL H0 w pc L (.int y :: .int x :: S) mem := by
  obtain ⟨p, e, s, args, below, meth, c, cells, slots, Q, rfl, hx, hb, hml, hown, hts, hK, rfl, hcs, hX⟩ := G
  intro H locs ls hP hS hl
  exact lv_isub hx hb hd (k H locs ls hP hS hl)
theorem jl_iand (G : GL l R K m own cc nL H0 bS Ln xs w) {x y : Int32} (hd : decode cc pc = .ok (.iand, 1)) (k : Jg K m nL H0 w (pc + 1) L (.int (x &&& y) :: S) mem) : Jg K m nL H0 w pc L (.int y :: .int x :: S) mem := by
  obtain ⟨p, e, s, args, below, meth, c, cells, slots, Q, rfl, hx, hb, hml, hown, hts, hK, rfl, hcs, hX⟩ := G
  intro H locs ls hP hS hl
  exact lv_iand hx hb hd (k H locs ls hP hS hl)
theorem jl_iinc (G : GL l R K m own cc nL H0 bS Ln xs w) {i : Nat} {n : Int} {x : Int32} (j : Nat) (v : Int32) (L2 : List (Nat × Value)) (hd : decode cc pc = .ok (.iinc i n, 3)) (hj : L[j]? = some (i, .int x)) (hv : x + Int32.ofInt n = v) (hn : i < nL) (hl2 : (i, Value.int v) :: L.filter (fun q => !(q.1 == i) && !(q.1 + 1 == i && q.2.category == 2)) = L2) (k : Jg K m nL H0 w (pc + 3) L2 S mem) : Jg K m nL H0 w pc L S mem := by
  obtain ⟨p, e, s, args, below, meth, c, cells, slots, Q, rfl, hx, hb, hml, hown, hts, hK, rfl, hcs, hX⟩ := G
  intro H locs ls hP hS hl
  exact lv_iinc hx hb hd hl hj hv hn hl2 (fun ls hl => k H locs ls hP hS hl)
theorem jl_goto (G : GL l R K m own cc nL H0 bS Ln xs w) {off : Int} (tgt : Nat) (hd : decode cc pc = .ok (.goto off, 3)) (ht : (pc : Int) + off = (tgt : Int)) (k : Jg K m nL H0 w tgt L S mem) : Jg K m nL H0 w pc L S mem := by
  obtain ⟨p, e, s, args, below, meth, c, cells, slots, Q, rfl, hx, hb, hml, hown, hts, hK, rfl, hcs, hX⟩ := G
  intro H locs ls hP hS hl
  exact lv_goto hx hb hd ht (k H locs ls hP hS hl)
theorem jl_icmp_eq (G : GL l R K m own cc nL H0 bS Ln xs w) {x y : Int32} {off : Int} (tgt : Nat) (hd : decode cc pc = .ok (.if_icmp .eq off, 3)) (ht : (pc : Int) + off = (tgt : Int)) (kt : x = y → Jg K m nL H0 w tgt L S mem) (kf : ¬ x = y → Jg K m nL H0 w (pc + 3) L S mem) : Jg K m nL H0 w pc L (.int y :: .int x :: S) mem := by
  obtain ⟨p, e, s, args, below, meth, c, cells, slots, Q, rfl, hx, hb, hml, hown, hts, hK, rfl, hcs, hX⟩ := G
  intro H locs ls hP hS hl
  exact lv_icmp_eq hx hb hd ht (fun h => kt h H locs ls hP hS hl) (fun h => kf h H locs ls hP hS hl)
theorem jl_icmp_gt (G : GL l R K m own cc nL H0 bS Ln xs w) {x y : Int32} {off : Int} (tgt : Nat) (hd : decode cc pc = .ok (.if_icmp .gt off, 3)) (ht : (pc : Int) + off = (tgt : Int)) (kt : y < x → Jg K m nL H0 w tgt L S mem) (kf : ¬ y < x → Jg K m nL H0 w (pc + 3) L S mem) : Jg K m nL H0 w pc L (.int y :: .int x :: S) mem := by
  obtain ⟨p, e, s, args, below, meth, c, cells, slots, Q, rfl, hx, hb, hml, hown, hts, hK, rfl, hcs, hX⟩ := G
  intro H locs ls hP hS hl
  exact lv_icmp_gt hx hb hd ht (fun h => kt h H locs ls hP hS hl) (fun h => kf h H locs ls hP hS hl)
theorem jl_if_eq (G : GL l R K m own cc nL H0 bS Ln xs w) {x : Int32} {off : Int} (tgt : Nat) (hd : decode cc pc = .ok (.ifCond .eq off, 3)) (ht : (pc : Int) + off = (tgt : Int)) (kt : x = 0 → Jg K m nL H0 w tgt L S mem) (kf : ¬ x = 0 → Jg K m nL H0 w (pc + 3) L S mem) : Jg K m nL H0 w pc L (.int x :: S) mem := by
  obtain ⟨p, e, s, args, below, meth, c, cells, slots, Q, rfl, hx, hb, hml, hown, hts, hK, rfl, hcs, hX⟩ := G
  intro H locs ls hP hS hl
  exact lv_if_eq hx hb hd ht (fun h => kt h H locs ls hP hS hl) (fun h => kf h H locs ls hP hS hl)
theorem jl_tableIn (G : GL l R K m own cc nL H0 bS Ln xs w) {dflt lo hi : Int} {offs : Array Int} {len : Nat} {x : Int32} {off : Int} (tgt : Nat) (hd : decode cc pc = .ok (.tableswitch dflt lo hi offs, len)) (h1 : ¬ x.toInt < lo) (h2 : ¬ hi < x.toInt) (ho : offs[(x.toInt - lo).toNat]? = some off) (ht : (pc : Int) + off = (tgt : Int)) (k : Jg K m nL H0 w tgt L S mem) : Jg K m nL H0 w pc L (.int x :: S) mem := by
  obtain ⟨p, e, s, args, below, meth, c, cells, slots, Q, rfl, hx, hb, hml, hown, hts, hK, rfl, hcs, hX⟩ := G
  intro H locs ls hP hS hl
  exact lv_tableIn hx hb hd h1 h2 ho ht (k H locs ls hP hS hl)
theorem jl_tableOut (G : GL l R K m own cc nL H0 bS Ln xs w) {dflt lo hi : Int} {offs : Array Int} {len : Nat} {x : Int32} (tgt : Nat) (hd : decode cc pc = .ok (.tableswitch dflt lo hi offs, len)) (h : x.toInt < lo ∨ hi < x.toInt) (ht : (pc : Int) + dflt = (tgt : Int)) (k : Jg K m nL H0 w tgt L S mem) : Jg K m nL H0 w pc L (.int x :: S) mem := by
  obtain ⟨p, e, s, args, below, meth, c, cells, slots, Q, rfl, hx, hb, hml, hown, hts, hK, rfl, hcs, hX⟩ := G
  intro H locs ls hP hS hl
  exact lv_tableOut hx hb hd h ht (k H locs ls hP hS hl)
theorem jl_sld (G : GL l R K m own cc nL H0 bS Ln xs w) {i : Int32} (hin : vp_in i Ln) (hd : decode cc pc = .ok (.iaload, 1)) (k : Jg K m nL H0 w (pc + 1) L (.int (xs (ix i)) :: S) mem) : Jg K m nL H0 w pc L (.int i :: .ref bS :: S) mem := by
  obtain ⟨p, e, s, args, below, meth, c, cells, slots, Q, rfl, hx, hb, hml, hown, hts, hK, rfl, hcs, hX⟩ := G
  intro H locs ls hP hS hl
  exact va_sld hx hb hX.1 hX.2.1 hX.2.2 hS hin hd (k H locs ls hP hS hl)
theorem jl_slen (G : GL l R K m own cc nL H0 bS Ln xs w) (hd : decode cc pc = .ok (.arraylength, 1)) (k : Jg K m nL H0 w (pc + 1) L (.int (nI Ln) :: S) mem) : Jg K m nL H0 w pc L (.ref bS :: S) mem := by
  obtain ⟨p, e, s, args, below, meth, c, cells, slots, Q, rfl, hx, hb, hml, hown, hts, hK, rfl, hcs, hX⟩ := G
  intro H locs ls hP hS hl
  exact va_slen hx hb hX.1 hX.2.1 hX.2.2 hS hd (k H locs ls hP hS hl)
def RnL (K : Kx) (l : Launch) (m : MethodId) (nL : Nat) (H0 : Heap) (w : HW) (pc : Nat) (L : List (Nat × Value)) (S0 : List Value) (mem : Mm) (rest : List Value) (Qa : State → Outcome → State → Prop) : Prop :=
  ∀ (H : Heap) (locs : List Loc) (ls : Array Slot), HP K mem H → va_S (AA K) H0 H locs → lv_has ls nL L →
    ∃ (p : Program) (e : Env) (R : Room) (s : State) (args : Array Value) (below : List Frame) (meth : Method) (c : Code) (cells slots : Nat) (Q : State → Prop), w = (fun H locs g => W p l e R s m args below meth c H locs cells slots Q g) ∧ va_Run p l e R s m args below meth c H locs cells slots 0 0 (F0 m pc ls S0) rest Qa (AA K)
theorem rl_V (G : GL l R K m own cc nL H0 bS Ln xs w) (hW : WFK K) {b ci index maxL n : Nat} {As rest S0 : List Value} {y : MethodName} {bytes : ByteArray} {ret2 : Option FieldType} {rm : Room} {Qd : Array Value → State → Outcome → State → Prop} {C : String} {T : u_T} {N : Nat} (hM : Con K l y (wsT y bytes maxL ret2) rm (.ref b :: As) mem Qd) (hkb : (kG K b).1 = ci + 1) (hci : ci < 19) (hc : vwCl[ci]? = some (C, T, N))
    (h1 : Cond.methodLink own index y ∈ gw) (h2 : Cond.instanceMethod y ∈ gw) (h3 : Cond.selects C y y ∈ gw) (h4 : Cond.initialized C ∈ gw) (h5 : Cond.code y bytes maxL ret2 ∈ gw) (hyC : y.cls = C) (hds : dsc y n) (hrc : rm.cells = 0) (hrs : rm.slots = 0) (hfr : rm.frames + 1 ≤ R.frames) (hlo : 8 + (maxL + 11) + rm.locals ≤ R.locals)
    (hn : As.length = n) (hS0 : S0 = As.reverse ++ .ref b :: rest) (hrm : (rest.map fun v => v.category).sum ≤ 8) (hd : decode cc pc = .ok (.invokevirtual index, 3)) : RnL K l m nL H0 w pc L S0 mem rest (Qd (Value.ref b :: As).toArray) := by
  obtain ⟨p, e, s, args, below, meth, c, cells, slots, Q, rfl, hx, hb, hml, hown, hts, hK, rfl, hcs, hX⟩ := G
  intro H locs ls hP hS hl
  have hbL := hW.2.2.1 b (by rw [hkb]; simp)
  refine ⟨p, e, R, s, args, below, meth, c, cells, slots, _, rfl, va_runV (As := As) (rest := rest) ⟨hx, hb, hml, hown, hts⟩ hM (cwV n hts (gw_in (pre := [.methodLink own index y, .instanceMethod y, .selects C y y, .initialized C]) (fun w hw => ?_) h5) rfl hrc hrs ⟨hyC, hds⟩ ⟨hfr, hlo⟩) ⟨Con.blind K _ mem, va_recv (q0 := 0) hK.1.1 (hP.at hbL) hc (congrArg (fun e => some (b, e)) (celE_obj hkb hci)), fun U hU hWm => ⟨rfl, by rw [hU]; exact hP, KK.warm hWm hK.1, by rw [hU]; exact hK.2.kept hS⟩⟩ rfl hn hl.1 hS0 (lv_room hrm) hd hcs⟩
  simp only [List.mem_cons, List.not_mem_nil, or_false] at hw
  rcases hw with rfl | rfl | rfl | rfl <;> assumption
theorem jl_ci {S0 rest : List Value} {S' : Type} {post : Int32 → S' → Prop} {st : S' → Mm} {a : Array Value} (h : RnL K l m nL H0 w pc L S0 mem rest (va_Qi post (fun u t => HP K (st u) t.heap) (AA K) a)) (kk : ∀ r u, post r u → Jg K m nL H0 w (pc + 3) L (.int r :: rest) (st u)) : Jg K m nL H0 w pc L S0 mem := by
  intro H locs ls hP hS hl
  obtain ⟨p, e, R, s, args, below, meth, c, cells, slots, Q, rfl, hr⟩ := h H locs ls hP hS hl
  exact va_calli hr hS (fun _ _ h => h) (fun _ h => h) (fun r u t H1 locs1 ht _ hp hB _ _ hS1 => kk r u hp H1 locs1 ls (by rw [← ht]; exact hB) hS1 hl)
theorem jl_cv {S0 rest : List Value} {S' : Type} {post : S' → Prop} {st : S' → Mm} {a : Array Value} (h : RnL K l m nL H0 w pc L S0 mem rest (va_Qv post (fun u t => HP K (st u) t.heap) (AA K) a)) (kk : ∀ u, post u → Jg K m nL H0 w (pc + 3) L rest (st u)) : Jg K m nL H0 w pc L S0 mem := by
  intro H locs ls hP hS hl
  obtain ⟨p, e, R, s, args, below, meth, c, cells, slots, Q, rfl, hr⟩ := h H locs ls hP hS hl
  exact va_callv hr hS (fun _ _ h => h) (fun _ h => h) (fun u t H1 locs1 ht _ hp hB _ _ hS1 => kk u hp H1 locs1 ls (by rw [← ht]; exact hB) hS1 hl)
end
