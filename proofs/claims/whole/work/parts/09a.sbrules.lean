/-! Rules for the StringBuilder of the class: answers that are references, super's methods, inherited methods, copies out of a text. -/
section
variable {K : Kx} {l : Launch} {R : Room} {m : MethodId} {own : String} {cc : ByteArray} {nL : Nat} {H0 : Heap} {ret : Option FieldType} {Qc : Array Value → State → Outcome → State → Prop} {w : HW} {pc : Nat} {L : List (Nat × Value)} {S : List Value} {mem : Mm}
theorem j_reta {S' : Type} {post : S' → Prop} {g : S' → Nat → Prop} {st : S' → Mm} {ty : FieldType} (G : Gd l R K m own cc nL H0 (some ty) (va_Qr post (fun u a t => g u a ∧ HP K (st u) t.heap) (AA K)) w) {r : Nat} (u : S') (hty : (∃ n, ty = .object n) ∨ ∃ t, ty = .array t) (hd : decode cc pc = .ok (.areturn, 1)) (h : post u) (hg : g u r) (hm : st u = mem) : Jg K m nL H0 w pc L [.ref r] mem := by
  obtain ⟨p, e, s, args, below, meth, c, rfl, hx, hb, hml, hown, hts, hK, rfl, hr, hlk⟩ := G
  intro H locs ls hP hS hl
  exact W.aret hx hb hr hty (Or.inr ⟨r, rfl⟩) (fun t ht _ => ⟨⟨u, r, rfl, h, hg, by show HP K (st u) t.heap; rw [hm, ht]; exact hP⟩, hS.F ht⟩) (fun q hq => hS.2.2 q hq) hd hlk
theorem j_cr {S0 rest : List Value} {S' : Type} {post : S' → Prop} {g : S' → Nat → Prop} {st : S' → Mm} {a : Array Value} (h : Rn K l m nL H0 w pc L S0 mem rest (va_Qr post (fun u b t => g u b ∧ HP K (st u) t.heap) (AA K) a)) (kk : ∀ u b, post u → g u b → Jg K m nL H0 w (pc + 3) L (.ref b :: rest) (st u)) : Jg K m nL H0 w pc L S0 mem := by
  intro H locs ls hP hS hl
  obtain ⟨p, e, R, s, args, below, meth, c, Q, rfl, hr⟩ := h H locs ls hP hS hl
  exact va_callr hr hS (fun _ _ h => h) (fun _ h => h) (fun u ra t H1 locs1 ht _ hp hB _ _ hS1 => kk u ra hp hB.1 H1 locs1 ls (by rw [← ht]; exact hB.2) hS1 hl)
theorem j_ifnonnull (G : Gd l R K m own cc nL H0 ret Qc w) {x : Nat} {off : Int} (tgt : Nat) (hd : decode cc pc = .ok (.ifnonnull off, 3)) (ht : (pc : Int) + off = (tgt : Int)) (k : Jg K m nL H0 w tgt L S mem) : Jg K m nL H0 w pc L (.ref x :: S) mem := by
  obtain ⟨p, e, s, args, below, meth, c, rfl, hx, hb, hml, hown, hts, hK, rfl, hr, hlk⟩ := G
  intro H locs ls hP hS hl
  exact lv_ifnonnull hx hb hd ht (k H locs ls hP hS hl)
theorem j_ineg (G : Gd l R K m own cc nL H0 ret Qc w) {x : Int32} (hd : decode cc pc = .ok (.ineg, 1)) (k : Jg K m nL H0 w (pc + 1) L (.int (-x) :: S) mem) : Jg K m nL H0 w pc L (.int x :: S) mem := by
  obtain ⟨p, e, s, args, below, meth, c, rfl, hx, hb, hml, hown, hts, hK, rfl, hr, hlk⟩ := G
  intro H locs ls hP hS hl
  exact lv_ineg hx hb hd (k H locs ls hP hS hl)
/-- super's own method, on a StringBuilder -/
theorem rn_SU (G : Gd l R K m own cc nL H0 ret Qc w) (hW : WFK K) {b index maxL n : Nat} {As rest S0 : List Value} {y : MethodName} {bytes : ByteArray} {ret2 : Option FieldType} {rm : Room} {Qd : Array Value → State → Outcome → State → Prop} (hM : Con K l y (wsT y bytes maxL ret2) rm (.ref b :: As) mem Qd) (hkb : (kG K b).1 = 1)
    (h1 : Cond.methodLink own index y ∈ gw) (h6 : Cond.sameMethod y.cls y.cls y.name y.desc ∈ gw) (h7 : Cond.superclass own y.cls ∈ gw) (h2 : Cond.instanceMethod y ∈ gw) (h4 : Cond.initialized y.cls ∈ gw) (h5 : Cond.code y bytes maxL ret2 ∈ gw) (hds : y.name ≠ "<init>" ∧ (parseMethodDescriptor y.desc).map (fun d => d.parameters.length) = some n) (hrc : rm.cells = 0) (hrs : rm.slots = 0) (hfr : rm.frames + 1 ≤ R.frames) (hlo : 8 + (maxL + 11) + rm.locals ≤ R.locals)
    (hn : As.length = n) (hS0 : S0 = As.reverse ++ .ref b :: rest) (hrm : (rest.map fun v => v.category).sum ≤ 8) (hd : decode cc pc = .ok (.invokespecial index, 3)) : Rn K l m nL H0 w pc L S0 mem rest (Qd (Value.ref b :: As).toArray) := by
  obtain ⟨p, e, s, args, below, meth, c, rfl, hx, hb, hml, hown, hts, hK, rfl, hr, hlk⟩ := G
  intro H locs ls hP hS hl
  have hbL := hW.2.2.1 b (by rw [hkb]; simp)
  refine ⟨p, e, R, s, args, below, meth, c, _, rfl, va_runSU (C := RJ4) (As := As) (rest := rest) (hK.1.1.1 0 (RJ4, TJ4, 4) rfl).2 ⟨hx, hb, hml, hown, hts⟩ hM (va_cwSU n hts (gw_in (pre := [.methodLink own index y, .sameMethod y.cls y.cls y.name y.desc, .superclass own y.cls, .instanceMethod y, .initialized y.cls]) (fun w hw => ?_) h5) rfl hrc hrs hds ⟨hfr, hlo⟩) ⟨Con.blind K _ mem, va_recv (q0 := 0) (ci := 0) hK.1.1 (hP.at hbL) rfl (congrArg (fun e => some (b, e)) (celE_obj hkb (by decide))), fun U hU hWm => ⟨rfl, by rw [hU]; exact hP, KK.warm hWm hK.1, by rw [hU]; exact hK.2.kept hS⟩⟩ rfl hn hl.1 hS0 (lv_room hrm) hd ⟨Nat.zero_le _, Nat.zero_le _⟩⟩
  simp only [List.mem_cons, List.not_mem_nil, or_false] at hw
  rcases hw with rfl | rfl | rfl | rfl | rfl <;> assumption
/-- a method that a StringBuilder inherits -/
theorem rn_U (G : Gd l R K m own cc nL H0 ret Qc w) (hW : WFK K) {b index maxL n : Nat} {As rest S0 : List Value} {y : MethodName} {bytes : ByteArray} {ret2 : Option FieldType} {rm : Room} {Qd : Array Value → State → Outcome → State → Prop} (hM : Con K l y (wsT y bytes maxL ret2) rm (.ref b :: As) mem Qd) (hkb : (kG K b).1 = 1)
    (h1 : Cond.methodLink own index y ∈ gw) (h6 : Cond.sameMethod y.cls y.cls y.name y.desc ∈ gw) (h3 : Cond.selects RJ4 y y ∈ gw ∨ y ∈ pvW) (h2 : Cond.instanceMethod y ∈ gw) (h4 : Cond.initialized y.cls ∈ gw) (h5 : Cond.code y bytes maxL ret2 ∈ gw) (hds : dsc y n) (hrc : rm.cells = 0) (hrs : rm.slots = 0) (hfr : rm.frames + 1 ≤ R.frames) (hlo : 8 + (maxL + 11) + rm.locals ≤ R.locals)
    (hn : As.length = n) (hS0 : S0 = As.reverse ++ .ref b :: rest) (hrm : (rest.map fun v => v.category).sum ≤ 8) (hd : decode cc pc = .ok (.invokevirtual index, 3)) : Rn K l m nL H0 w pc L S0 mem rest (Qd (Value.ref b :: As).toArray) := by
  obtain ⟨p, e, s, args, below, meth, c, rfl, hx, hb, hml, hown, hts, hK, rfl, hr, hlk⟩ := G
  intro H locs ls hP hS hl
  have hbL := hW.2.2.1 b (by rw [hkb]; simp)
  have hcw : va_CU R s args own RJ4 y.cls index y y bytes maxL ret2 (wsT y bytes maxL ret2) rm 0 0 n := by
    refine ⟨⟨hrc, hrs, hfr, hlo, pay_in hts (gw_in0 h5), List.mem_cons_self⟩, hts _ h5, hts _ h4, ⟨hds.1, hds.2.1⟩, fun sig h => ?_, hts _ h1, hts _ h6, va_Decl.of (hts _ h2) (hts _ h5), h3.elim (fun h => hts _ h) (fun h => va_Nw.use rfl (hK.1.2.1.2 _ h)), hts _ h2⟩
    have h2 := hds.2.2
    rw [h] at h2
    exact (Option.some.inj h2).symm
  exact ⟨p, e, R, s, args, below, meth, c, _, rfl, va_runU (As := As) (rest := rest) ⟨hx, hb, hml, hown, hts⟩ hM hcw ⟨Con.blind K _ mem, va_recv (q0 := 0) (ci := 0) hK.1.1 (hP.at hbL) rfl (congrArg (fun e => some (b, e)) (celE_obj hkb (by decide))), fun U hU hWm => ⟨rfl, by rw [hU]; exact hP, KK.warm hWm hK.1, by rw [hU]; exact hK.2.kept hS⟩⟩ rfl hn hl.1 hS0 (lv_room hrm) hd ⟨Nat.zero_le _, Nat.zero_le _⟩⟩
end
set_option maxRecDepth 100000 in
theorem se_lat : Cond.selects RJ4 yJ5_isLatin1_aae02 yJ5_isLatin1_aae02 ∈ gw := gw_4 (i := 226) rfl rfl
set_option maxRecDepth 100000 in
theorem su_J4 : Cond.superclass RJ4 RJ5 ∈ gw := gw_2 (i := 209) rfl rfl
set_option maxRecDepth 100000 in
theorem sm_lat : Cond.sameMethod RJ5 RJ5 "isLatin1" "()Z" ∈ gw := gw_4 (i := 225) rfl rfl
set_option maxRecDepth 100000 in
theorem sm_setL : Cond.sameMethod RJ5 RJ5 "setLength" "(I)V" ∈ gw := gw_8 (i := 161) rfl rfl
set_option maxRecDepth 100000 in
theorem sm_ens : Cond.sameMethod RJ5 RJ5 "ensureCapacityInternal" "(I)V" ∈ gw := gw_8 (i := 162) rfl rfl
set_option maxRecDepth 100000 in
theorem sm_appS : Cond.sameMethod RJ5 RJ5 "append" "(Ljava/lang/String;)Ljava/lang/AbstractStringBuilder;" ∈ gw := gw_8 (i := 164) rfl rfl
set_option maxRecDepth 100000 in
theorem sm_put : Cond.sameMethod RJ5 RJ5 "putStringAt" "(ILjava/lang/String;)V" ∈ gw := gw_8 (i := 166) rfl rfl
set_option maxRecDepth 100000 in
theorem sm_inf : Cond.sameMethod RJ5 RJ5 "inflateIfNeededFor" "(Ljava/lang/String;)V" ∈ gw := gw_8 (i := 167) rfl rfl
set_option maxRecDepth 100000 in
theorem sm_appC : Cond.sameMethod RJ5 RJ5 "append" "(C)Ljava/lang/AbstractStringBuilder;" ∈ gw := gw_8 (i := 169) rfl rfl
set_option maxRecDepth 100000 in
theorem sm_appI : Cond.sameMethod RJ5 RJ5 "append" "(I)Ljava/lang/AbstractStringBuilder;" ∈ gw := gw_8 (i := 170) rfl rfl
set_option maxRecDepth 100000 in
theorem sm_len : Cond.sameMethod RJ5 RJ5 "length" "()I" ∈ gw := gw_8 (i := 171) rfl rfl
set_option maxRecDepth 100000 in
theorem sm_chr : Cond.sameMethod RJ5 RJ5 "charAt" "(I)C" ∈ gw := gw_8 (i := 172) rfl rfl
