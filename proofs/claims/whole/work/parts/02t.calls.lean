theorem gw_in {pre : List Cond} {y : MethodName} {cc : ByteArray} {nL : Nat} {ret : Option FieldType} (hp : ∀ w ∈ pre, w ∈ gw) (hc : Cond.code y cc nL ret ∈ gw) : GoodIn gw (pre ++ wsT y cc nL ret) := by
  intro w hw
  have h : w ∈ gw := by
    rcases List.mem_append.mp hw with h | h
    · exact hp w h
    · rcases List.mem_cons.mp h with h | h
      · rw [h]; exact hc
      · exact h
  exact ⟨h, gw_good h⟩
theorem gw_in0 {y : MethodName} {cc : ByteArray} {nL : Nat} {ret : Option FieldType} (hc : Cond.code y cc nL ret ∈ gw) : GoodIn gw (wsT y cc nL ret) := gw_in (pre := []) (fun _ h => absurd h List.not_mem_nil) hc
theorem Con.blind (K : Kx) (as : List Value) (mem : Mm) : FrameBlind (va_Pc as (fun U => HP K mem U.heap ∧ KK K U ∧ OH K U.heap)) := fun a U g mk q => by
  obtain ⟨q0, q1, q2, q3⟩ := q
  exact ⟨q0, q1, KK.same (s := U) (U := U.calling g mk a) rfl q2, q3⟩
section
variable {K : Kx} {l : Launch} {R : Room} {m : MethodId} {own : String} {cc : ByteArray} {nL : Nat} {H0 : Heap} {ret : Option FieldType} {Qc : Array Value → State → Outcome → State → Prop} {w : HW} {pc : Nat} {L : List (Nat × Value)} {S : List Value} {mem : Mm}
theorem j_reti {S' : Type} {post : Int32 → S' → Prop} {st : S' → Mm} {ty : FieldType} (G : Gd l R K m own cc nL H0 (some ty) (va_Qi post (fun u t => HP K (st u) t.heap) (AA K)) w) {r : Int32} (u : S') (hn : narrow ty (.int r) = .int r) (hd : decode cc pc = .ok (.ireturn, 1)) (h : post r u) (hm : st u = mem) : Jg K m nL H0 w pc L [.int r] mem := by
  obtain ⟨p, e, s, args, below, meth, c, rfl, hx, hb, hml, hown, hts, hK, rfl, hr, hlk⟩ := G
  intro H locs ls hP hS hl
  exact W.zret hx hb hr hn (fun t ht _ => ⟨⟨r, u, rfl, h, by show HP K (st u) t.heap; rw [hm, ht]; exact hP⟩, hS.F ht⟩) (fun q hq => hS.2.2 q hq) hd hlk
theorem j_retv {S' : Type} {post : S' → Prop} {st : S' → Mm} (G : Gd l R K m own cc nL H0 none (va_Qv post (fun u t => HP K (st u) t.heap) (AA K)) w) (u : S') (hd : decode cc pc = .ok (.return_, 1)) (h : post u) (hm : st u = mem) : Jg K m nL H0 w pc L [] mem := by
  obtain ⟨p, e, s, args, below, meth, c, rfl, hx, hb, hml, hown, hts, hK, rfl, hr, hlk⟩ := G
  intro H locs ls hP hS hl
  exact W.vret hx hb hr (fun t ht _ => ⟨⟨u, rfl, h, by show HP K (st u) t.heap; rw [hm, ht]; exact hP⟩, hS.F ht⟩) (fun q hq => hS.2.2 q hq) hd hlk
theorem j_retl {S' : Type} {post : Int64 → S' → Prop} {st : S' → Mm} (G : Gd l R K m own cc nL H0 (some .long) (va_Ql post (fun u t => HP K (st u) t.heap) (AA K)) w) {r : Int64} (u : S') (hd : decode cc pc = .ok (.lreturn, 1)) (h : post r u) (hm : st u = mem) : Jg K m nL H0 w pc L [.long r] mem := by
  obtain ⟨p, e, s, args, below, meth, c, rfl, hx, hb, hml, hown, hts, hK, rfl, hr, hlk⟩ := G
  intro H locs ls hP hS hl
  exact W.lret hx hb hr (fun t ht _ => ⟨⟨r, u, rfl, h, by show HP K (st u) t.heap; rw [hm, ht]; exact hP⟩, hS.F ht⟩) (fun q hq => hS.2.2 q hq) hd hlk
abbrev dsc (y : MethodName) (n : Nat) : Prop := y.cls ≠ "java/lang/invoke/MethodHandle" ∧ y.cls ≠ "java/lang/invoke/VarHandle" ∧ (parseMethodDescriptor y.desc).map (fun d => d.parameters.length) = some n
/-- how a call is made: each way gives the run of the callee -/
def Rn (K : Kx) (l : Launch) (m : MethodId) (nL : Nat) (H0 : Heap) (w : HW) (pc : Nat) (L : List (Nat × Value)) (S0 : List Value) (mem : Mm) (rest : List Value) (Qa : State → Outcome → State → Prop) : Prop :=
  ∀ (H : Heap) (locs : List Loc) (ls : Array Slot), HP K mem H → va_S (AA K) H0 H locs → lv_has ls nL L →
    ∃ (p : Program) (e : Env) (R : Room) (s : State) (args : Array Value) (below : List Frame) (meth : Method) (c : Code) (Q : State → Prop), w = (fun H locs g => W p l e R s m args below meth c H locs 0 0 Q g) ∧ va_Run p l e R s m args below meth c H locs 0 0 0 0 (F0 m pc ls S0) rest Qa (AA K)
theorem rn_V (G : Gd l R K m own cc nL H0 ret Qc w) (hW : WFK K) {b ci index maxL n : Nat} {As rest S0 : List Value} {y : MethodName} {bytes : ByteArray} {ret2 : Option FieldType} {rm : Room} {Qd : Array Value → State → Outcome → State → Prop} {C : String} {T : u_T} {N : Nat} (hM : Con K l y (wsT y bytes maxL ret2) rm (.ref b :: As) mem Qd) (hkb : (kG K b).1 = ci + 1) (hci : ci < 19) (hc : vwCl[ci]? = some (C, T, N))
    (h1 : Cond.methodLink own index y ∈ gw) (h2 : Cond.instanceMethod y ∈ gw) (h3 : Cond.selects C y y ∈ gw) (h4 : Cond.initialized C ∈ gw) (h5 : Cond.code y bytes maxL ret2 ∈ gw) (hyC : y.cls = C) (hds : dsc y n) (hrc : rm.cells = 0) (hrs : rm.slots = 0) (hfr : rm.frames + 1 ≤ R.frames) (hlo : 8 + (maxL + 11) + rm.locals ≤ R.locals)
    (hn : As.length = n) (hS0 : S0 = As.reverse ++ .ref b :: rest) (hrm : (rest.map fun v => v.category).sum ≤ 8) (hd : decode cc pc = .ok (.invokevirtual index, 3)) : Rn K l m nL H0 w pc L S0 mem rest (Qd (Value.ref b :: As).toArray) := by
  obtain ⟨p, e, s, args, below, meth, c, rfl, hx, hb, hml, hown, hts, hK, rfl, hr, hlk⟩ := G
  intro H locs ls hP hS hl
  have hbL := hW.2.2.1 b (by rw [hkb]; simp)
  refine ⟨p, e, R, s, args, below, meth, c, _, rfl, va_runV (As := As) (rest := rest) ⟨hx, hb, hml, hown, hts⟩ hM (cwV n hts (gw_in (pre := [.methodLink own index y, .instanceMethod y, .selects C y y, .initialized C]) (fun w hw => ?_) h5) rfl hrc hrs ⟨hyC, hds⟩ ⟨hfr, hlo⟩) ⟨Con.blind K _ mem, va_recv (q0 := 0) hK.1.1 (hP.at hbL) hc (congrArg (fun e => some (b, e)) (celE_obj hkb hci)), fun U hU hWm => ⟨rfl, by rw [hU]; exact hP, KK.warm hWm hK.1, by rw [hU]; exact hK.2.kept hS⟩⟩ rfl hn hl.1 hS0 (lv_room hrm) hd ⟨Nat.zero_le _, Nat.zero_le _⟩⟩
  simp only [List.mem_cons, List.not_mem_nil, or_false] at hw
  rcases hw with rfl | rfl | rfl | rfl <;> assumption
theorem rn_S (G : Gd l R K m own cc nL H0 ret Qc w) {index maxL n : Nat} {As rest S0 : List Value} {y : MethodName} {bytes : ByteArray} {ret2 : Option FieldType} {rm : Room} {Qd : Array Value → State → Outcome → State → Prop} (hM : Con K l y (wsT y bytes maxL ret2) rm As mem Qd)
    (h1 : Cond.methodLink own index y ∈ gw) (h2 : Cond.static y ∈ gw) (h4 : Cond.initialized y.cls ∈ gw) (h5 : Cond.code y bytes maxL ret2 ∈ gw) (hds : dsc y n) (hrc : rm.cells = 0) (hrs : rm.slots = 0) (hfr : rm.frames + 1 ≤ R.frames) (hlo : 8 + (maxL + 11) + rm.locals ≤ R.locals)
    (hn : As.length = n) (hS0 : S0 = As.reverse ++ rest) (hrm : (rest.map fun v => v.category).sum ≤ 8) (hd : decode cc pc = .ok (.invokestatic index, 3)) : Rn K l m nL H0 w pc L S0 mem rest (Qd As.toArray) := by
  obtain ⟨p, e, s, args, below, meth, c, rfl, hx, hb, hml, hown, hts, hK, rfl, hr, hlk⟩ := G
  intro H locs ls hP hS hl
  exact ⟨p, e, R, s, args, below, meth, c, _, rfl, va_runS (As := As) (rest := rest) ⟨hx, hb, hml, hown, hts⟩ hM ⟨callB_of n hts (gw_in0 h5) rfl hrc hrs (hts _ h4) (hts _ h1) hds ⟨hfr, hlo⟩, hts _ h2⟩ ⟨Con.blind K _ mem, fun U hU hWm => ⟨rfl, by rw [hU]; exact hP, KK.warm hWm hK.1, by rw [hU]; exact hK.2.kept hS⟩⟩ rfl hn hl.1 hS0 (lv_room hrm) hd ⟨Nat.zero_le _, Nat.zero_le _⟩⟩
theorem rn_N (G : Gd l R K m own cc nL H0 ret Qc w) {index maxL n : Nat} {As rest S0 : List Value} {y : MethodName} {bytes : ByteArray} {ret2 : Option FieldType} {rm : Room} {Qd : Array Value → State → Outcome → State → Prop} (hM : Con K l y (wsT y bytes maxL ret2) rm As mem Qd)
    (h1 : (own, index, y) ∈ nstW) (h2 : Cond.static y ∈ gw) (h4 : Cond.initialized y.cls ∈ gw) (h5 : Cond.code y bytes maxL ret2 ∈ gw) (hds : dsc y n) (hrc : rm.cells = 0) (hrs : rm.slots = 0) (hfr : rm.frames + 1 ≤ R.frames) (hlo : 8 + (maxL + 11) + rm.locals ≤ R.locals)
    (hn : As.length = n) (hS0 : S0 = As.reverse ++ rest) (hrm : (rest.map fun v => v.category).sum ≤ 8) (hd : decode cc pc = .ok (.invokestatic index, 3)) : Rn K l m nL H0 w pc L S0 mem rest (Qd As.toArray) := by
  obtain ⟨p, e, s, args, below, meth, c, rfl, hx, hb, hml, hown, hts, hK, rfl, hr, hlk⟩ := G
  intro H locs ls hP hS hl
  exact ⟨p, e, R, s, args, below, meth, c, _, rfl, va_runSN (As := As) (rest := rest) ⟨hx, hb, hml, hown, hts⟩ hM ⟨va_cnB n hts (gw_in0 h5) rfl hrc hrs (hK.1.2.1.1 _ h1) (hts _ h4) hds ⟨hfr, hlo⟩, hts _ h2, trivial⟩ ⟨Con.blind K _ mem, fun U hU hWm => ⟨rfl, by rw [hU]; exact hP, KK.warm hWm hK.1, by rw [hU]; exact hK.2.kept hS⟩⟩ rfl hn hl.1 hS0 (lv_room hrm) hd ⟨Nat.zero_le _, Nat.zero_le _⟩⟩
theorem j_ci {S0 rest : List Value} {S' : Type} {post : Int32 → S' → Prop} {st : S' → Mm} {a : Array Value} (h : Rn K l m nL H0 w pc L S0 mem rest (va_Qi post (fun u t => HP K (st u) t.heap) (AA K) a)) (kk : ∀ r u, post r u → Jg K m nL H0 w (pc + 3) L (.int r :: rest) (st u)) : Jg K m nL H0 w pc L S0 mem := by
  intro H locs ls hP hS hl
  obtain ⟨p, e, R, s, args, below, meth, c, Q, rfl, hr⟩ := h H locs ls hP hS hl
  exact va_calli hr hS (fun _ _ h => h) (fun _ h => h) (fun r u t H1 locs1 ht _ hp hB _ _ hS1 => kk r u hp H1 locs1 ls (by rw [← ht]; exact hB) hS1 hl)
theorem j_cv {S0 rest : List Value} {S' : Type} {post : S' → Prop} {st : S' → Mm} {a : Array Value} (h : Rn K l m nL H0 w pc L S0 mem rest (va_Qv post (fun u t => HP K (st u) t.heap) (AA K) a)) (kk : ∀ u, post u → Jg K m nL H0 w (pc + 3) L rest (st u)) : Jg K m nL H0 w pc L S0 mem := by
  intro H locs ls hP hS hl
  obtain ⟨p, e, R, s, args, below, meth, c, Q, rfl, hr⟩ := h H locs ls hP hS hl
  exact va_callv hr hS (fun _ _ h => h) (fun _ h => h) (fun u t H1 locs1 ht _ hp hB _ _ hS1 => kk u hp H1 locs1 ls (by rw [← ht]; exact hB) hS1 hl)
theorem j_cl {S0 rest : List Value} {S' : Type} {post : Int64 → S' → Prop} {st : S' → Mm} {a : Array Value} (h : Rn K l m nL H0 w pc L S0 mem rest (va_Ql post (fun u t => HP K (st u) t.heap) (AA K) a)) (kk : ∀ r u, post r u → Jg K m nL H0 w (pc + 3) L (.long r :: rest) (st u)) : Jg K m nL H0 w pc L S0 mem := by
  intro H locs ls hP hS hl
  obtain ⟨p, e, R, s, args, below, meth, c, Q, rfl, hr⟩ := h H locs ls hP hS hl
  exact va_calll hr hS (fun _ _ h => h) (fun _ h => h) (fun r u t H1 locs1 ht _ hp hB _ _ hS1 => kk r u hp H1 locs1 ls (by rw [← ht]; exact hB) hS1 hl)
end
