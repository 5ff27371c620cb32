section
variable {K : Kx} {l : Launch} {R : Room} {m : MethodId} {own : String} {cc : ByteArray} {nL : Nat} {H0 : Heap} {ret : Option FieldType} {Qc : Array Value → State → Outcome → State → Prop} {w : HW} {pc : Nat} {L : List (Nat × Value)} {S : List Value} {mem : Mm}
theorem Jg.eq {L' : List (Nat × Value)} {S' : List Value} {mem' : Mm} (k : Jg K m nL H0 w pc L' S' mem') (h1 : L = L') (h2 : S = S') (h3 : mem = mem') : Jg K m nL H0 w pc L S mem := by subst h1; subst h2; subst h3; exact k
/-- fewer locals are remembered -/
theorem Jg.sub {L' : List (Nat × Value)} (ks : List Nat) (hl : lv_pick L ks = L') (k : Jg K m nL H0 w pc L' S mem) : Jg K m nL H0 w pc L S mem := fun H locs ls hP hS h => k H locs ls hP hS (lv_sub h ks hl)
theorem j_iconst (G : Gd l R K m own cc nL H0 ret Qc w) {n : Int} (v : Int32) (hd : decode cc pc = .ok (.iconst n, 1)) (hv : Int32.ofInt n = v) (k : Jg K m nL H0 w (pc + 1) L (.int v :: S) mem) : Jg K m nL H0 w pc L S mem := by
  obtain ⟨p, e, s, args, below, meth, c, rfl, hx, hb, hml, hown, hts, hK, rfl, hr, hlk⟩ := G
  intro H locs ls hP hS hl
  exact lv_iconst hx hb hd hv (k H locs ls hP hS hl)
theorem j_bipush (G : Gd l R K m own cc nL H0 ret Qc w) {n : Int} (v : Int32) (hd : decode cc pc = .ok (.bipush n, 2)) (hv : (Int8.ofInt n).toInt32 = v) (k : Jg K m nL H0 w (pc + 2) L (.int v :: S) mem) : Jg K m nL H0 w pc L S mem := by
  obtain ⟨p, e, s, args, below, meth, c, rfl, hx, hb, hml, hown, hts, hK, rfl, hr, hlk⟩ := G
  intro H locs ls hP hS hl
  exact lv_bipush hx hb hd hv (k H locs ls hP hS hl)
theorem j_sipush (G : Gd l R K m own cc nL H0 ret Qc w) {n : Int} (v : Int32) (hd : decode cc pc = .ok (.sipush n, 3)) (hv : (Int16.ofInt n).toInt32 = v) (k : Jg K m nL H0 w (pc + 3) L (.int v :: S) mem) : Jg K m nL H0 w pc L S mem := by
  obtain ⟨p, e, s, args, below, meth, c, rfl, hx, hb, hml, hown, hts, hK, rfl, hr, hlk⟩ := G
  intro H locs ls hP hS hl
  exact lv_sipush hx hb hd hv (k H locs ls hP hS hl)
theorem j_lconst (G : Gd l R K m own cc nL H0 ret Qc w) {n : Fin 2} (v : Int64) (hd : decode cc pc = .ok (.lconst n, 1)) (hv : Int64.ofNat (n : Nat) = v) (k : Jg K m nL H0 w (pc + 1) L (.long v :: S) mem) : Jg K m nL H0 w pc L S mem := by
  obtain ⟨p, e, s, args, below, meth, c, rfl, hx, hb, hml, hown, hts, hK, rfl, hr, hlk⟩ := G
  intro H locs ls hP hS hl
  exact lv_lconst hx hb hd hv (k H locs ls hP hS hl)
theorem j_iload_n (G : Gd l R K m own cc nL H0 ret Qc w) {k0 : Fin 4} {x : Int32} (j i : Nat) (hd : decode cc pc = .ok (.iload_n k0, 1)) (hi : (k0 : Nat) = i) (hj : L[j]? = some (i, .int x)) (k : Jg K m nL H0 w (pc + 1) L (.int x :: S) mem) : Jg K m nL H0 w pc L S mem := by
  obtain ⟨p, e, s, args, below, meth, c, rfl, hx, hb, hml, hown, hts, hK, rfl, hr, hlk⟩ := G
  intro H locs ls hP hS hl
  exact lv_iload_n hx hb hd hi (lv_at hl j hj) (k H locs ls hP hS hl)
theorem j_iload (G : Gd l R K m own cc nL H0 ret Qc w) {i : Nat} {x : Int32} (j : Nat) (hd : decode cc pc = .ok (.iload i, 2)) (hj : L[j]? = some (i, .int x)) (k : Jg K m nL H0 w (pc + 2) L (.int x :: S) mem) : Jg K m nL H0 w pc L S mem := by
  obtain ⟨p, e, s, args, below, meth, c, rfl, hx, hb, hml, hown, hts, hK, rfl, hr, hlk⟩ := G
  intro H locs ls hP hS hl
  exact lv_iload hx hb hd (lv_at hl j hj) (k H locs ls hP hS hl)
theorem j_istore_n (G : Gd l R K m own cc nL H0 ret Qc w) {k0 : Fin 4} {x : Int32} (i : Nat) (L2 : List (Nat × Value)) (hd : decode cc pc = .ok (.istore_n k0, 1)) (hi : (k0 : Nat) = i) (hn : i < nL) (hl2 : (i, Value.int x) :: L.filter (fun q => !(q.1 == i) && !(q.1 + 1 == i && q.2.category == 2)) = L2) (k : Jg K m nL H0 w (pc + 1) L2 S mem) : Jg K m nL H0 w pc L (.int x :: S) mem := by
  obtain ⟨p, e, s, args, below, meth, c, rfl, hx, hb, hml, hown, hts, hK, rfl, hr, hlk⟩ := G
  intro H locs ls hP hS hl
  exact lv_istore_n hx hb hd hi hl hn hl2 (fun ls hl => k H locs ls hP hS hl)
theorem j_istore (G : Gd l R K m own cc nL H0 ret Qc w) {i : Nat} {x : Int32} (L2 : List (Nat × Value)) (hd : decode cc pc = .ok (.istore i, 2)) (hn : i < nL) (hl2 : (i, Value.int x) :: L.filter (fun q => !(q.1 == i) && !(q.1 + 1 == i && q.2.category == 2)) = L2) (k : Jg K m nL H0 w (pc + 2) L2 S mem) : Jg K m nL H0 w pc L (.int x :: S) mem := by
  obtain ⟨p, e, s, args, below, meth, c, rfl, hx, hb, hml, hown, hts, hK, rfl, hr, hlk⟩ := G
  intro H locs ls hP hS hl
  exact lv_istore hx hb hd hl hn hl2 (fun ls hl => k H locs ls hP hS hl)
theorem j_lload_n (G : Gd l R K m own cc nL H0 ret Qc w) {k0 : Fin 4} {x : Int64} (j i : Nat) (hd : decode cc pc = .ok (.lload_n k0, 1)) (hi : (k0 : Nat) = i) (hj : L[j]? = some (i, .long x)) (k : Jg K m nL H0 w (pc + 1) L (.long x :: S) mem) : Jg K m nL H0 w pc L S mem := by
  obtain ⟨p, e, s, args, below, meth, c, rfl, hx, hb, hml, hown, hts, hK, rfl, hr, hlk⟩ := G
  intro H locs ls hP hS hl
  exact lv_lload_n hx hb hd hi (lv_at hl j hj) (k H locs ls hP hS hl)
theorem j_lload (G : Gd l R K m own cc nL H0 ret Qc w) {i : Nat} {x : Int64} (j : Nat) (hd : decode cc pc = .ok (.lload i, 2)) (hj : L[j]? = some (i, .long x)) (k : Jg K m nL H0 w (pc + 2) L (.long x :: S) mem) : Jg K m nL H0 w pc L S mem := by
  obtain ⟨p, e, s, args, below, meth, c, rfl, hx, hb, hml, hown, hts, hK, rfl, hr, hlk⟩ := G
  intro H locs ls hP hS hl
  exact lv_lload hx hb hd (lv_at hl j hj) (k H locs ls hP hS hl)
theorem j_lstore_n (G : Gd l R K m own cc nL H0 ret Qc w) {k0 : Fin 4} {x : Int64} (i : Nat) (L2 : List (Nat × Value)) (hd : decode cc pc = .ok (.lstore_n k0, 1)) (hi : (k0 : Nat) = i) (hn : i + 1 < nL) (hl2 : (i, Value.long x) :: L.filter (fun q => !(q.1 == i) && (!(q.1 == i + 1) && !(q.1 + 1 == i && q.2.category == 2))) = L2) (k : Jg K m nL H0 w (pc + 1) L2 S mem) : Jg K m nL H0 w pc L (.long x :: S) mem := by
  obtain ⟨p, e, s, args, below, meth, c, rfl, hx, hb, hml, hown, hts, hK, rfl, hr, hlk⟩ := G
  intro H locs ls hP hS hl
  exact lv_lstore_n hx hb hd hi hl hn hl2 (fun ls hl => k H locs ls hP hS hl)
theorem j_lstore (G : Gd l R K m own cc nL H0 ret Qc w) {i : Nat} {x : Int64} (L2 : List (Nat × Value)) (hd : decode cc pc = .ok (.lstore i, 2)) (hn : i + 1 < nL) (hl2 : (i, Value.long x) :: L.filter (fun q => !(q.1 == i) && (!(q.1 == i + 1) && !(q.1 + 1 == i && q.2.category == 2))) = L2) (k : Jg K m nL H0 w (pc + 2) L2 S mem) : Jg K m nL H0 w pc L (.long x :: S) mem := by
  obtain ⟨p, e, s, args, below, meth, c, rfl, hx, hb, hml, hown, hts, hK, rfl, hr, hlk⟩ := G
  intro H locs ls hP hS hl
  exact lv_lstore hx hb hd hl hn hl2 (fun ls hl => k H locs ls hP hS hl)
theorem j_aload_n (G : Gd l R K m own cc nL H0 ret Qc w) {k0 : Fin 4} {x : Nat} (j i : Nat) (hd : decode cc pc = .ok (.aload_n k0, 1)) (hi : (k0 : Nat) = i) (hj : L[j]? = some (i, .ref x)) (k : Jg K m nL H0 w (pc + 1) L (.ref x :: S) mem) : Jg K m nL H0 w pc L S mem := by
  obtain ⟨p, e, s, args, below, meth, c, rfl, hx, hb, hml, hown, hts, hK, rfl, hr, hlk⟩ := G
  intro H locs ls hP hS hl
  exact lv_aload_n hx hb hd hi (lv_at hl j hj) (k H locs ls hP hS hl)
theorem j_aload (G : Gd l R K m own cc nL H0 ret Qc w) {i : Nat} {x : Nat} (j : Nat) (hd : decode cc pc = .ok (.aload i, 2)) (hj : L[j]? = some (i, .ref x)) (k : Jg K m nL H0 w (pc + 2) L (.ref x :: S) mem) : Jg K m nL H0 w pc L S mem := by
  obtain ⟨p, e, s, args, below, meth, c, rfl, hx, hb, hml, hown, hts, hK, rfl, hr, hlk⟩ := G
  intro H locs ls hP hS hl
  exact lv_aload hx hb hd (lv_at hl j hj) (k H locs ls hP hS hl)
theorem j_astore_n (G : Gd l R K m own cc nL H0 ret Qc w) {k0 : Fin 4} {x : Nat} (i : Nat) (L2 : List (Nat × Value)) (hd : decode cc pc = .ok (.astore_n k0, 1)) (hi : (k0 : Nat) = i) (hn : i < nL) (hl2 : (i, Value.ref x) :: L.filter (fun q => !(q.1 == i) && !(q.1 + 1 == i && q.2.category == 2)) = L2) (k : Jg K m nL H0 w (pc + 1) L2 S mem) : Jg K m nL H0 w pc L (.ref x :: S) mem := by
  obtain ⟨p, e, s, args, below, meth, c, rfl, hx, hb, hml, hown, hts, hK, rfl, hr, hlk⟩ := G
  intro H locs ls hP hS hl
  exact lv_astore_n hx hb hd hi hl hn hl2 (fun ls hl => k H locs ls hP hS hl)
theorem j_astore (G : Gd l R K m own cc nL H0 ret Qc w) {i : Nat} {x : Nat} (L2 : List (Nat × Value)) (hd : decode cc pc = .ok (.astore i, 2)) (hn : i < nL) (hl2 : (i, Value.ref x) :: L.filter (fun q => !(q.1 == i) && !(q.1 + 1 == i && q.2.category == 2)) = L2) (k : Jg K m nL H0 w (pc + 2) L2 S mem) : Jg K m nL H0 w pc L (.ref x :: S) mem := by
  obtain ⟨p, e, s, args, below, meth, c, rfl, hx, hb, hml, hown, hts, hK, rfl, hr, hlk⟩ := G
  intro H locs ls hP hS hl
  exact lv_astore hx hb hd hl hn hl2 (fun ls hl => k H locs ls hP hS hl)
theorem j_iinc (G : Gd l R K m own cc nL H0 ret Qc w) {i : Nat} {n : Int} {x : Int32} (j : Nat) (v : Int32) (L2 : List (Nat × Value)) (hd : decode cc pc = .ok (.iinc i n, 3)) (hj : L[j]? = some (i, .int x)) (hv : x + Int32.ofInt n = v) (hn : i < nL) (hl2 : (i, Value.int v) :: L.filter (fun q => !(q.1 == i) && !(q.1 + 1 == i && q.2.category == 2)) = L2) (k : Jg K m nL H0 w (pc + 3) L2 S mem) : Jg K m nL H0 w pc L S mem := by
  obtain ⟨p, e, s, args, below, meth, c, rfl, hx, hb, hml, hown, hts, hK, rfl, hr, hlk⟩ := G
  intro H locs ls hP hS hl
  exact lv_iinc hx hb hd hl hj hv hn hl2 (fun ls hl => k H locs ls hP hS hl)
theorem j_iadd (G : Gd l R K m own cc nL H0 ret Qc w) {x y : Int32} (hd : decode cc pc = .ok (.iadd, 1)) (k : Jg K m nL H0 w (pc + 1) L (.int (x + y) :: S) mem) : Jg K m nL H0 w pc L (.int y :: .int x :: S) mem := by
  obtain ⟨p, e, s, args, below, meth, c, rfl, hx, hb, hml, hown, hts, hK, rfl, hr, hlk⟩ := G
  intro H locs ls hP hS hl
  exact lv_iadd hx hb hd (k H locs ls hP hS hl)
theorem j_isub (G : Gd l R K m own cc nL H0 ret Qc w) {x y : Int32} (hd : decode cc pc = .ok (.isub, 1)) (k : Jg K m nL H0 w (pc + 1) L (.int (x - y) :: S) mem) : Jg K m nL H0 w pc L (.int y :: .int x :: S) mem := by
  obtain ⟨p, e, s, args, below, meth, c, rfl, hx, hb, hml, hown, hts, hK, rfl, hr, hlk⟩ := G
  intro H locs ls hP hS hl
  exact lv_isub hx hb hd (k H locs ls hP hS hl)
theorem j_imul (G : Gd l R K m own cc nL H0 ret Qc w) {x y : Int32} (hd : decode cc pc = .ok (.imul, 1)) (k : Jg K m nL H0 w (pc + 1) L (.int (x * y) :: S) mem) : Jg K m nL H0 w pc L (.int y :: .int x :: S) mem := by
  obtain ⟨p, e, s, args, below, meth, c, rfl, hx, hb, hml, hown, hts, hK, rfl, hr, hlk⟩ := G
  intro H locs ls hP hS hl
  exact lv_imul hx hb hd (k H locs ls hP hS hl)
theorem j_iand (G : Gd l R K m own cc nL H0 ret Qc w) {x y : Int32} (hd : decode cc pc = .ok (.iand, 1)) (k : Jg K m nL H0 w (pc + 1) L (.int (x &&& y) :: S) mem) : Jg K m nL H0 w pc L (.int y :: .int x :: S) mem := by
  obtain ⟨p, e, s, args, below, meth, c, rfl, hx, hb, hml, hown, hts, hK, rfl, hr, hlk⟩ := G
  intro H locs ls hP hS hl
  exact lv_iand hx hb hd (k H locs ls hP hS hl)
theorem j_ior (G : Gd l R K m own cc nL H0 ret Qc w) {x y : Int32} (hd : decode cc pc = .ok (.ior, 1)) (k : Jg K m nL H0 w (pc + 1) L (.int (x ||| y) :: S) mem) : Jg K m nL H0 w pc L (.int y :: .int x :: S) mem := by
  obtain ⟨p, e, s, args, below, meth, c, rfl, hx, hb, hml, hown, hts, hK, rfl, hr, hlk⟩ := G
  intro H locs ls hP hS hl
  exact lv_ior hx hb hd (k H locs ls hP hS hl)
theorem j_ixor (G : Gd l R K m own cc nL H0 ret Qc w) {x y : Int32} (hd : decode cc pc = .ok (.ixor, 1)) (k : Jg K m nL H0 w (pc + 1) L (.int (x ^^^ y) :: S) mem) : Jg K m nL H0 w pc L (.int y :: .int x :: S) mem := by
  obtain ⟨p, e, s, args, below, meth, c, rfl, hx, hb, hml, hown, hts, hK, rfl, hr, hlk⟩ := G
  intro H locs ls hP hS hl
  exact lv_ixor hx hb hd (k H locs ls hP hS hl)
theorem j_ishl (G : Gd l R K m own cc nL H0 ret Qc w) {x y : Int32} (hd : decode cc pc = .ok (.ishl, 1)) (k : Jg K m nL H0 w (pc + 1) L (.int (x <<< (y &&& 31)) :: S) mem) : Jg K m nL H0 w pc L (.int y :: .int x :: S) mem := by
  obtain ⟨p, e, s, args, below, meth, c, rfl, hx, hb, hml, hown, hts, hK, rfl, hr, hlk⟩ := G
  intro H locs ls hP hS hl
  exact lv_ishl hx hb hd (k H locs ls hP hS hl)
theorem j_ishr (G : Gd l R K m own cc nL H0 ret Qc w) {x y : Int32} (hd : decode cc pc = .ok (.ishr, 1)) (k : Jg K m nL H0 w (pc + 1) L (.int (x >>> (y &&& 31)) :: S) mem) : Jg K m nL H0 w pc L (.int y :: .int x :: S) mem := by
  obtain ⟨p, e, s, args, below, meth, c, rfl, hx, hb, hml, hown, hts, hK, rfl, hr, hlk⟩ := G
  intro H locs ls hP hS hl
  exact lv_ishr hx hb hd (k H locs ls hP hS hl)
theorem j_idiv (G : Gd l R K m own cc nL H0 ret Qc w) {x y : Int32} (hne : ¬ y = 0) (hd : decode cc pc = .ok (.idiv, 1)) (k : Jg K m nL H0 w (pc + 1) L (.int (x / y) :: S) mem) : Jg K m nL H0 w pc L (.int y :: .int x :: S) mem := by
  obtain ⟨p, e, s, args, below, meth, c, rfl, hx, hb, hml, hown, hts, hK, rfl, hr, hlk⟩ := G
  intro H locs ls hP hS hl
  exact lv_idiv hx hb hd hne (k H locs ls hP hS hl)
theorem j_irem (G : Gd l R K m own cc nL H0 ret Qc w) {x y : Int32} (hne : ¬ y = 0) (hd : decode cc pc = .ok (.irem, 1)) (k : Jg K m nL H0 w (pc + 1) L (.int (x - x / y * y) :: S) mem) : Jg K m nL H0 w pc L (.int y :: .int x :: S) mem := by
  obtain ⟨p, e, s, args, below, meth, c, rfl, hx, hb, hml, hown, hts, hK, rfl, hr, hlk⟩ := G
  intro H locs ls hP hS hl
  exact lv_irem hx hb hd hne (k H locs ls hP hS hl)
theorem j_ladd (G : Gd l R K m own cc nL H0 ret Qc w) {x y : Int64} (hd : decode cc pc = .ok (.ladd, 1)) (k : Jg K m nL H0 w (pc + 1) L (.long (x + y) :: S) mem) : Jg K m nL H0 w pc L (.long y :: .long x :: S) mem := by
  obtain ⟨p, e, s, args, below, meth, c, rfl, hx, hb, hml, hown, hts, hK, rfl, hr, hlk⟩ := G
  intro H locs ls hP hS hl
  exact lv_ladd hx hb hd (k H locs ls hP hS hl)
theorem j_lsub (G : Gd l R K m own cc nL H0 ret Qc w) {x y : Int64} (hd : decode cc pc = .ok (.lsub, 1)) (k : Jg K m nL H0 w (pc + 1) L (.long (x - y) :: S) mem) : Jg K m nL H0 w pc L (.long y :: .long x :: S) mem := by
  obtain ⟨p, e, s, args, below, meth, c, rfl, hx, hb, hml, hown, hts, hK, rfl, hr, hlk⟩ := G
  intro H locs ls hP hS hl
  exact lv_lsub hx hb hd (k H locs ls hP hS hl)
theorem j_lmul (G : Gd l R K m own cc nL H0 ret Qc w) {x y : Int64} (hd : decode cc pc = .ok (.lmul, 1)) (k : Jg K m nL H0 w (pc + 1) L (.long (x * y) :: S) mem) : Jg K m nL H0 w pc L (.long y :: .long x :: S) mem := by
  obtain ⟨p, e, s, args, below, meth, c, rfl, hx, hb, hml, hown, hts, hK, rfl, hr, hlk⟩ := G
  intro H locs ls hP hS hl
  exact lv_lmul hx hb hd (k H locs ls hP hS hl)
theorem j_land (G : Gd l R K m own cc nL H0 ret Qc w) {x y : Int64} (hd : decode cc pc = .ok (.land, 1)) (k : Jg K m nL H0 w (pc + 1) L (.long (x &&& y) :: S) mem) : Jg K m nL H0 w pc L (.long y :: .long x :: S) mem := by
  obtain ⟨p, e, s, args, below, meth, c, rfl, hx, hb, hml, hown, hts, hK, rfl, hr, hlk⟩ := G
  intro H locs ls hP hS hl
  exact lv_land hx hb hd (k H locs ls hP hS hl)
theorem j_lor (G : Gd l R K m own cc nL H0 ret Qc w) {x y : Int64} (hd : decode cc pc = .ok (.lor, 1)) (k : Jg K m nL H0 w (pc + 1) L (.long (x ||| y) :: S) mem) : Jg K m nL H0 w pc L (.long y :: .long x :: S) mem := by
  obtain ⟨p, e, s, args, below, meth, c, rfl, hx, hb, hml, hown, hts, hK, rfl, hr, hlk⟩ := G
  intro H locs ls hP hS hl
  exact lv_lor hx hb hd (k H locs ls hP hS hl)
theorem j_lshl (G : Gd l R K m own cc nL H0 ret Qc w) {x : Int64} {y : Int32} (hd : decode cc pc = .ok (.lshl, 1)) (k : Jg K m nL H0 w (pc + 1) L (.long (x <<< (y.toInt64 &&& 63)) :: S) mem) : Jg K m nL H0 w pc L (.int y :: .long x :: S) mem := by
  obtain ⟨p, e, s, args, below, meth, c, rfl, hx, hb, hml, hown, hts, hK, rfl, hr, hlk⟩ := G
  intro H locs ls hP hS hl
  exact lv_lshl hx hb hd rfl (k H locs ls hP hS hl)
theorem j_lshr (G : Gd l R K m own cc nL H0 ret Qc w) {x : Int64} {y : Int32} (hd : decode cc pc = .ok (.lshr, 1)) (k : Jg K m nL H0 w (pc + 1) L (.long (x >>> (y.toInt64 &&& 63)) :: S) mem) : Jg K m nL H0 w pc L (.int y :: .long x :: S) mem := by
  obtain ⟨p, e, s, args, below, meth, c, rfl, hx, hb, hml, hown, hts, hK, rfl, hr, hlk⟩ := G
  intro H locs ls hP hS hl
  exact lv_lshr hx hb hd rfl (k H locs ls hP hS hl)
theorem j_lcmp (G : Gd l R K m own cc nL H0 ret Qc w) {x y : Int64} (hd : decode cc pc = .ok (.lcmp, 1)) (k : Jg K m nL H0 w (pc + 1) L (.int (lg_cmp x y) :: S) mem) : Jg K m nL H0 w pc L (.long y :: .long x :: S) mem := by
  obtain ⟨p, e, s, args, below, meth, c, rfl, hx, hb, hml, hown, hts, hK, rfl, hr, hlk⟩ := G
  intro H locs ls hP hS hl
  exact W.lcmp hx hb hd (k H locs ls hP hS hl)
theorem j_i2l (G : Gd l R K m own cc nL H0 ret Qc w) {x : Int32} (hd : decode cc pc = .ok (.i2l, 1)) (k : Jg K m nL H0 w (pc + 1) L (.long x.toInt64 :: S) mem) : Jg K m nL H0 w pc L (.int x :: S) mem := by
  obtain ⟨p, e, s, args, below, meth, c, rfl, hx, hb, hml, hown, hts, hK, rfl, hr, hlk⟩ := G
  intro H locs ls hP hS hl
  exact lv_i2l hx hb hd rfl (k H locs ls hP hS hl)
theorem j_l2i (G : Gd l R K m own cc nL H0 ret Qc w) {x : Int64} (hd : decode cc pc = .ok (.l2i, 1)) (k : Jg K m nL H0 w (pc + 1) L (.int x.toInt32 :: S) mem) : Jg K m nL H0 w pc L (.long x :: S) mem := by
  obtain ⟨p, e, s, args, below, meth, c, rfl, hx, hb, hml, hown, hts, hK, rfl, hr, hlk⟩ := G
  intro H locs ls hP hS hl
  exact lv_l2i hx hb hd rfl (k H locs ls hP hS hl)
theorem j_i2c (G : Gd l R K m own cc nL H0 ret Qc w) {x : Int32} (hd : decode cc pc = .ok (.i2c, 1)) (k : Jg K m nL H0 w (pc + 1) L (.int (x.toUInt32 % 65536).toInt32 :: S) mem) : Jg K m nL H0 w pc L (.int x :: S) mem := by
  obtain ⟨p, e, s, args, below, meth, c, rfl, hx, hb, hml, hown, hts, hK, rfl, hr, hlk⟩ := G
  intro H locs ls hP hS hl
  exact lv_i2c hx hb hd rfl (k H locs ls hP hS hl)
theorem j_i2b (G : Gd l R K m own cc nL H0 ret Qc w) {x : Int32} (hd : decode cc pc = .ok (.i2b, 1)) (k : Jg K m nL H0 w (pc + 1) L (.int x.toInt8.toInt32 :: S) mem) : Jg K m nL H0 w pc L (.int x :: S) mem := by
  obtain ⟨p, e, s, args, below, meth, c, rfl, hx, hb, hml, hown, hts, hK, rfl, hr, hlk⟩ := G
  intro H locs ls hP hS hl
  exact lv_i2b hx hb hd rfl (k H locs ls hP hS hl)
theorem j_dup (G : Gd l R K m own cc nL H0 ret Qc w) {a : Value} (ha : a.category = 1) (hd : decode cc pc = .ok (.dup, 1)) (k : Jg K m nL H0 w (pc + 1) L (a :: a :: S) mem) : Jg K m nL H0 w pc L (a :: S) mem := by
  obtain ⟨p, e, s, args, below, meth, c, rfl, hx, hb, hml, hown, hts, hK, rfl, hr, hlk⟩ := G
  intro H locs ls hP hS hl
  exact lv_dup hx hb hd ha (k H locs ls hP hS hl)
theorem j_pop (G : Gd l R K m own cc nL H0 ret Qc w) {a : Value} (ha : a.category = 1) (hd : decode cc pc = .ok (.pop, 1)) (k : Jg K m nL H0 w (pc + 1) L S mem) : Jg K m nL H0 w pc L (a :: S) mem := by
  obtain ⟨p, e, s, args, below, meth, c, rfl, hx, hb, hml, hown, hts, hK, rfl, hr, hlk⟩ := G
  intro H locs ls hP hS hl
  exact lv_pop hx hb hd ha (k H locs ls hP hS hl)
theorem j_dup2 (G : Gd l R K m own cc nL H0 ret Qc w) {a b : Value} (ha : a.category = 1) (hb2 : b.category = 1) (hd : decode cc pc = .ok (.dup2, 1)) (k : Jg K m nL H0 w (pc + 1) L (a :: b :: a :: b :: S) mem) : Jg K m nL H0 w pc L (a :: b :: S) mem := by
  obtain ⟨p, e, s, args, below, meth, c, rfl, hx, hb, hml, hown, hts, hK, rfl, hr, hlk⟩ := G
  intro H locs ls hP hS hl
  exact lv_dup2_11 hx hb hd ha hb2 (k H locs ls hP hS hl)
theorem j_dupx1 (G : Gd l R K m own cc nL H0 ret Qc w) {a b : Value} (ha : a.category = 1) (hb2 : b.category = 1) (hd : decode cc pc = .ok (.dup_x1, 1)) (k : Jg K m nL H0 w (pc + 1) L (a :: b :: a :: S) mem) : Jg K m nL H0 w pc L (a :: b :: S) mem := by
  obtain ⟨p, e, s, args, below, meth, c, rfl, hx, hb, hml, hown, hts, hK, rfl, hr, hlk⟩ := G
  intro H locs ls hP hS hl
  exact lv_dup_x1 hx hb hd ha hb2 (k H locs ls hP hS hl)
theorem j_if_eq (G : Gd l R K m own cc nL H0 ret Qc w) {x : Int32} {off : Int} (tgt : Nat) (hd : decode cc pc = .ok (.ifCond .eq off, 3)) (ht : (pc : Int) + off = (tgt : Int)) (kt : x = 0 → Jg K m nL H0 w tgt L S mem) (kf : ¬ x = 0 → Jg K m nL H0 w (pc + 3) L S mem) : Jg K m nL H0 w pc L (.int x :: S) mem := by
  obtain ⟨p, e, s, args, below, meth, c, rfl, hx, hb, hml, hown, hts, hK, rfl, hr, hlk⟩ := G
  intro H locs ls hP hS hl
  exact lv_if_eq hx hb hd ht (fun h => kt h H locs ls hP hS hl) (fun h => kf h H locs ls hP hS hl)
theorem j_if_ne (G : Gd l R K m own cc nL H0 ret Qc w) {x : Int32} {off : Int} (tgt : Nat) (hd : decode cc pc = .ok (.ifCond .ne off, 3)) (ht : (pc : Int) + off = (tgt : Int)) (kt : ¬ x = 0 → Jg K m nL H0 w tgt L S mem) (kf : x = 0 → Jg K m nL H0 w (pc + 3) L S mem) : Jg K m nL H0 w pc L (.int x :: S) mem := by
  obtain ⟨p, e, s, args, below, meth, c, rfl, hx, hb, hml, hown, hts, hK, rfl, hr, hlk⟩ := G
  intro H locs ls hP hS hl
  exact lv_if_ne hx hb hd ht (fun h => kt h H locs ls hP hS hl) (fun h => kf h H locs ls hP hS hl)
theorem j_if_lt (G : Gd l R K m own cc nL H0 ret Qc w) {x : Int32} {off : Int} (tgt : Nat) (hd : decode cc pc = .ok (.ifCond .lt off, 3)) (ht : (pc : Int) + off = (tgt : Int)) (kt : x < 0 → Jg K m nL H0 w tgt L S mem) (kf : ¬ x < 0 → Jg K m nL H0 w (pc + 3) L S mem) : Jg K m nL H0 w pc L (.int x :: S) mem := by
  obtain ⟨p, e, s, args, below, meth, c, rfl, hx, hb, hml, hown, hts, hK, rfl, hr, hlk⟩ := G
  intro H locs ls hP hS hl
  exact lv_if_lt hx hb hd ht (fun h => kt h H locs ls hP hS hl) (fun h => kf h H locs ls hP hS hl)
theorem j_if_ge (G : Gd l R K m own cc nL H0 ret Qc w) {x : Int32} {off : Int} (tgt : Nat) (hd : decode cc pc = .ok (.ifCond .ge off, 3)) (ht : (pc : Int) + off = (tgt : Int)) (kt : 0 ≤ x → Jg K m nL H0 w tgt L S mem) (kf : ¬ 0 ≤ x → Jg K m nL H0 w (pc + 3) L S mem) : Jg K m nL H0 w pc L (.int x :: S) mem := by
  obtain ⟨p, e, s, args, below, meth, c, rfl, hx, hb, hml, hown, hts, hK, rfl, hr, hlk⟩ := G
  intro H locs ls hP hS hl
  exact lv_if_ge hx hb hd ht (fun h => kt h H locs ls hP hS hl) (fun h => kf h H locs ls hP hS hl)
theorem j_if_gt (G : Gd l R K m own cc nL H0 ret Qc w) {x : Int32} {off : Int} (tgt : Nat) (hd : decode cc pc = .ok (.ifCond .gt off, 3)) (ht : (pc : Int) + off = (tgt : Int)) (kt : 0 < x → Jg K m nL H0 w tgt L S mem) (kf : ¬ 0 < x → Jg K m nL H0 w (pc + 3) L S mem) : Jg K m nL H0 w pc L (.int x :: S) mem := by
  obtain ⟨p, e, s, args, below, meth, c, rfl, hx, hb, hml, hown, hts, hK, rfl, hr, hlk⟩ := G
  intro H locs ls hP hS hl
  exact lv_if_gt hx hb hd ht (fun h => kt h H locs ls hP hS hl) (fun h => kf h H locs ls hP hS hl)
theorem j_if_le (G : Gd l R K m own cc nL H0 ret Qc w) {x : Int32} {off : Int} (tgt : Nat) (hd : decode cc pc = .ok (.ifCond .le off, 3)) (ht : (pc : Int) + off = (tgt : Int)) (kt : x ≤ 0 → Jg K m nL H0 w tgt L S mem) (kf : ¬ x ≤ 0 → Jg K m nL H0 w (pc + 3) L S mem) : Jg K m nL H0 w pc L (.int x :: S) mem := by
  obtain ⟨p, e, s, args, below, meth, c, rfl, hx, hb, hml, hown, hts, hK, rfl, hr, hlk⟩ := G
  intro H locs ls hP hS hl
  exact lv_if_le hx hb hd ht (fun h => kt h H locs ls hP hS hl) (fun h => kf h H locs ls hP hS hl)
theorem j_icmp_eq (G : Gd l R K m own cc nL H0 ret Qc w) {x y : Int32} {off : Int} (tgt : Nat) (hd : decode cc pc = .ok (.if_icmp .eq off, 3)) (ht : (pc : Int) + off = (tgt : Int)) (kt : x = y → Jg K m nL H0 w tgt L S mem) (kf : ¬ x = y → Jg K m nL H0 w (pc + 3) L S mem) : Jg K m nL H0 w pc L (.int y :: .int x :: S) mem := by
  obtain ⟨p, e, s, args, below, meth, c, rfl, hx, hb, hml, hown, hts, hK, rfl, hr, hlk⟩ := G
  intro H locs ls hP hS hl
  exact lv_icmp_eq hx hb hd ht (fun h => kt h H locs ls hP hS hl) (fun h => kf h H locs ls hP hS hl)
theorem j_icmp_ne (G : Gd l R K m own cc nL H0 ret Qc w) {x y : Int32} {off : Int} (tgt : Nat) (hd : decode cc pc = .ok (.if_icmp .ne off, 3)) (ht : (pc : Int) + off = (tgt : Int)) (kt : ¬ x = y → Jg K m nL H0 w tgt L S mem) (kf : x = y → Jg K m nL H0 w (pc + 3) L S mem) : Jg K m nL H0 w pc L (.int y :: .int x :: S) mem := by
  obtain ⟨p, e, s, args, below, meth, c, rfl, hx, hb, hml, hown, hts, hK, rfl, hr, hlk⟩ := G
  intro H locs ls hP hS hl
  exact lv_icmp_ne hx hb hd ht (fun h => kt h H locs ls hP hS hl) (fun h => kf h H locs ls hP hS hl)
theorem j_icmp_lt (G : Gd l R K m own cc nL H0 ret Qc w) {x y : Int32} {off : Int} (tgt : Nat) (hd : decode cc pc = .ok (.if_icmp .lt off, 3)) (ht : (pc : Int) + off = (tgt : Int)) (kt : x < y → Jg K m nL H0 w tgt L S mem) (kf : ¬ x < y → Jg K m nL H0 w (pc + 3) L S mem) : Jg K m nL H0 w pc L (.int y :: .int x :: S) mem := by
  obtain ⟨p, e, s, args, below, meth, c, rfl, hx, hb, hml, hown, hts, hK, rfl, hr, hlk⟩ := G
  intro H locs ls hP hS hl
  exact lv_icmp_lt hx hb hd ht (fun h => kt h H locs ls hP hS hl) (fun h => kf h H locs ls hP hS hl)
theorem j_icmp_ge (G : Gd l R K m own cc nL H0 ret Qc w) {x y : Int32} {off : Int} (tgt : Nat) (hd : decode cc pc = .ok (.if_icmp .ge off, 3)) (ht : (pc : Int) + off = (tgt : Int)) (kt : y ≤ x → Jg K m nL H0 w tgt L S mem) (kf : ¬ y ≤ x → Jg K m nL H0 w (pc + 3) L S mem) : Jg K m nL H0 w pc L (.int y :: .int x :: S) mem := by
  obtain ⟨p, e, s, args, below, meth, c, rfl, hx, hb, hml, hown, hts, hK, rfl, hr, hlk⟩ := G
  intro H locs ls hP hS hl
  exact lv_icmp_ge hx hb hd ht (fun h => kt h H locs ls hP hS hl) (fun h => kf h H locs ls hP hS hl)
theorem j_icmp_gt (G : Gd l R K m own cc nL H0 ret Qc w) {x y : Int32} {off : Int} (tgt : Nat) (hd : decode cc pc = .ok (.if_icmp .gt off, 3)) (ht : (pc : Int) + off = (tgt : Int)) (kt : y < x → Jg K m nL H0 w tgt L S mem) (kf : ¬ y < x → Jg K m nL H0 w (pc + 3) L S mem) : Jg K m nL H0 w pc L (.int y :: .int x :: S) mem := by
  obtain ⟨p, e, s, args, below, meth, c, rfl, hx, hb, hml, hown, hts, hK, rfl, hr, hlk⟩ := G
  intro H locs ls hP hS hl
  exact lv_icmp_gt hx hb hd ht (fun h => kt h H locs ls hP hS hl) (fun h => kf h H locs ls hP hS hl)
theorem j_icmp_le (G : Gd l R K m own cc nL H0 ret Qc w) {x y : Int32} {off : Int} (tgt : Nat) (hd : decode cc pc = .ok (.if_icmp .le off, 3)) (ht : (pc : Int) + off = (tgt : Int)) (kt : x ≤ y → Jg K m nL H0 w tgt L S mem) (kf : ¬ x ≤ y → Jg K m nL H0 w (pc + 3) L S mem) : Jg K m nL H0 w pc L (.int y :: .int x :: S) mem := by
  obtain ⟨p, e, s, args, below, meth, c, rfl, hx, hb, hml, hown, hts, hK, rfl, hr, hlk⟩ := G
  intro H locs ls hP hS hl
  exact lv_icmp_le hx hb hd ht (fun h => kt h H locs ls hP hS hl) (fun h => kf h H locs ls hP hS hl)
theorem j_goto (G : Gd l R K m own cc nL H0 ret Qc w) {off : Int} (tgt : Nat) (hd : decode cc pc = .ok (.goto off, 3)) (ht : (pc : Int) + off = (tgt : Int)) (k : Jg K m nL H0 w tgt L S mem) : Jg K m nL H0 w pc L S mem := by
  obtain ⟨p, e, s, args, below, meth, c, rfl, hx, hb, hml, hown, hts, hK, rfl, hr, hlk⟩ := G
  intro H locs ls hP hS hl
  exact lv_goto hx hb hd ht (k H locs ls hP hS hl)
theorem j_tableIn (G : Gd l R K m own cc nL H0 ret Qc w) {dflt lo hi : Int} {offs : Array Int} {len : Nat} {x : Int32} {off : Int} (tgt : Nat) (hd : decode cc pc = .ok (.tableswitch dflt lo hi offs, len)) (h1 : ¬ x.toInt < lo) (h2 : ¬ hi < x.toInt) (ho : offs[(x.toInt - lo).toNat]? = some off) (ht : (pc : Int) + off = (tgt : Int)) (k : Jg K m nL H0 w tgt L S mem) : Jg K m nL H0 w pc L (.int x :: S) mem := by
  obtain ⟨p, e, s, args, below, meth, c, rfl, hx, hb, hml, hown, hts, hK, rfl, hr, hlk⟩ := G
  intro H locs ls hP hS hl
  exact lv_tableIn hx hb hd h1 h2 ho ht (k H locs ls hP hS hl)
theorem j_tableOut (G : Gd l R K m own cc nL H0 ret Qc w) {dflt lo hi : Int} {offs : Array Int} {len : Nat} {x : Int32} (tgt : Nat) (hd : decode cc pc = .ok (.tableswitch dflt lo hi offs, len)) (h : x.toInt < lo ∨ hi < x.toInt) (ht : (pc : Int) + dflt = (tgt : Int)) (k : Jg K m nL H0 w tgt L S mem) : Jg K m nL H0 w pc L (.int x :: S) mem := by
  obtain ⟨p, e, s, args, below, meth, c, rfl, hx, hb, hml, hown, hts, hK, rfl, hr, hlk⟩ := G
  intro H locs ls hP hS hl
  exact lv_tableOut hx hb hd h ht (k H locs ls hP hS hl)
theorem j_lookup (G : Gd l R K m own cc nL H0 ret Qc w) {dflt : Int} {ps : Array (Int × Int)} {len : Nat} {x : Int32} {off : Int} (tgt : Nat) (hd : decode cc pc = .ok (.lookupswitch dflt ps, len)) (hp : (ps.toList.zip (ps.toList.drop 1)).all (fun (a, next) => a.1 < next.1) = true) (ho : Op.lookupswitch.offset ps.toList dflt x.toInt = off) (ht : (pc : Int) + off = (tgt : Int)) (k : Jg K m nL H0 w tgt L S mem) : Jg K m nL H0 w pc L (.int x :: S) mem := by
  obtain ⟨p, e, s, args, below, meth, c, rfl, hx, hb, hml, hown, hts, hK, rfl, hr, hlk⟩ := G
  intro H locs ls hP hS hl
  exact lv_lookup hx hb hd hp ho ht (k H locs ls hP hS hl)
theorem j_ldc (G : Gd l R K m own cc nL H0 ret Qc w) {index : Nat} (v : Int32) (hw : Jvm.Cond.constant own index v ∈ gw) (hd : decode cc pc = .ok (.ldc index, 2)) (k : Jg K m nL H0 w (pc + 2) L (.int v :: S) mem) : Jg K m nL H0 w pc L S mem := by
  obtain ⟨p, e, s, args, below, meth, c, rfl, hx, hb, hml, hown, hts, hK, rfl, hr, hlk⟩ := G
  intro H locs ls hP hS hl
  exact lv_ldc hx hb hown (hts _ hw) hd (k H locs ls hP hS hl)
theorem j_ldc2 (G : Gd l R K m own cc nL H0 ret Qc w) {index : Nat} (v : Int64) (hw : Jvm.Cond.constantLong own index v ∈ gw) (hd : decode cc pc = .ok (.ldc2_w index, 3)) (k : Jg K m nL H0 w (pc + 3) L (.long v :: S) mem) : Jg K m nL H0 w pc L S mem := by
  obtain ⟨p, e, s, args, below, meth, c, rfl, hx, hb, hml, hown, hts, hK, rfl, hr, hlk⟩ := G
  intro H locs ls hP hS hl
  exact lv_ldc2 hx hb hown (hts _ hw) hd (k H locs ls hP hS hl)
end
