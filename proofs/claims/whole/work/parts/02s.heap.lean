theorem celE_obj {K : Kx} {mem : Mm} {a ci : Nat} (h : (kG K a).1 = ci + 1) (hci : ci < 19) : celE K mem a = .inr (ci, fvals mem ci a) := by
  have h1 : (kG K a).1 < 20 := by omega
  simp only [celE]
  rw [if_pos h1, h, Nat.add_sub_cancel]
theorem celE_arr {K : Kx} {mem : Mm} {a k n : Nat} (h : kG K a = (k, n)) (h1 : 20 ≤ k) (h2 : k ≠ 22) (h3 : k < 24) : celE K mem a = .inl ((kC K) k, n, .inl (mem.1 a)) := by
  simp only [celE]
  rw [h]
  dsimp only
  rw [if_neg (by omega), if_neg h2, if_pos h3]
theorem celE_arrL {K : Kx} {mem : Mm} {a n : Nat} (h : kG K a = (22, n)) : celE K mem a = .inl ((kC K) 22, n, .inr (.inl (mem.2.1 a))) := by
  simp only [celE]
  rw [h]
  dsimp only
  rw [if_neg (by omega), if_pos rfl]
theorem celE_arrR {K : Kx} {mem : Mm} {a k n : Nat} (h : kG K a = (k, n)) (h1 : 24 ≤ k) : celE K mem a = .inl ((kC K) k, n, .inr (.inr (.inr (.inr (fun j => some (a + (rof k).1 + (rof k).2 * j)))))) := by
  simp only [celE]
  rw [h]
  dsimp only
  rw [if_neg (by omega), if_neg (by omega), if_neg (by omega)]
theorem fval_congr {mem mem' : Mm} {b : Nat} (h1 : mem'.1 b = mem.1 b) (h2 : mem'.2.1 b = mem.2.1 b) (h3 : mem'.2.2 b = mem.2.2 b) (k t : Nat) : fval mem' b k t = fval mem b k t := by
  unfold fval
  rw [h1, h2, h3]
theorem fvals_congr {mem mem' : Mm} {b : Nat} (h1 : mem'.1 b = mem.1 b) (h2 : mem'.2.1 b = mem.2.1 b) (h3 : mem'.2.2 b = mem.2.2 b) (ci : Nat) : fvals mem' ci b = fvals mem ci b := by
  unfold fvals
  exact List.map_congr_left (fun k _ => fval_congr h1 h2 h3 k _)
theorem celE_congr {K : Kx} {mem mem' : Mm} {b : Nat} (h1 : mem'.1 b = mem.1 b) (h2 : mem'.2.1 b = mem.2.1 b) (h3 : mem'.2.2 b = mem.2.2 b) : celE K mem' b = celE K mem b := by
  simp only [celE]
  rw [fvals_congr h1 h2 h3, h1, h2]
theorem fvals_get {mem : Mm} {ci a k t : Nat} (hf : (fdl ci)[k]? = some t) : (fvals mem ci a)[k]? = some (fval mem a k t) := by
  have hlt := (List.getElem?_eq_some_iff.mp hf).1
  unfold fvals
  rw [List.getElem?_map, List.getElem?_range hlt]
  show some (fval mem a k ((fdl ci).getD k 0)) = some (fval mem a k t)
  rw [List.getD_eq_getElem?_getD, hf]
  rfl
theorem fvals_len {mem : Mm} {ci a : Nat} : (fvals mem ci a).length = (fdl ci).length := by simp [fvals]
/-- one field is changed -/
theorem fvals_set {mem mem' : Mm} {ci a k t : Nat} {v : Value} (hf : (fdl ci)[k]? = some t) (hv : fval mem' a k t = v) (ho : ∀ j t', j ≠ k → fval mem' a j t' = fval mem a j t') : (fvals mem ci a).set k v = fvals mem' ci a := by
  apply List.ext_getElem?
  intro j
  rw [List.getElem?_set]
  by_cases hj : k = j
  · subst hj
    rw [if_pos rfl, fvals_get hf, hv, if_pos (by rw [fvals_len]; exact (List.getElem?_eq_some_iff.mp hf).1)]
  · rw [if_neg hj]
    cases hx : (fdl ci)[j]? with
    | none =>
      have h1 : (fdl ci).length ≤ j := by simpa using hx
      rw [List.getElem?_eq_none (by rw [fvals_len]; exact h1), List.getElem?_eq_none (by rw [fvals_len]; exact h1)]
    | some t' => rw [fvals_get hx, fvals_get hx, ho j t' (fun h => hj h.symm)]
theorem ui_at (I : MI) (a k : Nat) (v : Int32) : ui I a k v a = upd (I a) k v := by simp [ui]
theorem ui_ne (I : MI) {a b : Nat} (k : Nat) (v : Int32) (h : b ≠ a) : ui I a k v b = I b := by simp [ui, h]
theorem uj_at (J : MJ) (a k : Nat) (v : Int64) : uj J a k v a = vp_updL (J a) k v := by simp [uj]
theorem uj_ne (J : MJ) {a b : Nat} (k : Nat) (v : Int64) (h : b ≠ a) : uj J a k v b = J b := by simp [uj, h]
theorem ur_ne (R : MR) {a b : Nat} (k v : Nat) (h : b ≠ a) : ur R a k v b = R b := by simp [ur, h]
theorem HP.set {K : Kx} {mem mem' : Mm} {H1 : Heap} {a q : Nat} {e : va_E} (hW : WFK K) (haL : a ∈ (kL K)) (hq : (va_pl (kL K) (celE K mem))[q]? = some (a, celE K mem a)) (h : va_P (kD K) vwCl ((va_pl (kL K) (celE K mem)).set q (a, e)) H1) (he : celE K mem' a = e) (ho : ∀ b, b ≠ a → celE K mem' b = celE K mem b) : HP K mem' H1 := by
  have h1 := va_pl_set (A := AA K) (X := []) (L := (kL K)) (f := celE K mem) (a := a) (k := q) (e := e) (va_pl_D hW.2.2.2.1 (fun _ h => h)) haL hq
  rw [List.nil_append, List.nil_append] at h1
  rw [h1] at h
  unfold HP
  rw [va_pl_congr (f := celE K mem') (g := va_up (celE K mem) a e) (fun b => ?_)]
  · exact h
  · unfold va_up
    by_cases hb : b = a
    · subst hb; rw [if_pos rfl]; exact he
    · rw [if_neg hb]; exact ho b hb
theorem HP.idx {K : Kx} {mem : Mm} {a : Nat} (haL : a ∈ (kL K)) : ∃ q : Nat, (va_pl (kL K) (celE K mem))[q]? = some (a, celE K mem a) := va_pl_get (X := []) haL
section
variable {K : Kx} {l : Launch} {R : Room} {m : MethodId} {own : String} {cc : ByteArray} {nL : Nat} {H0 : Heap} {ret : Option FieldType} {Qc : Array Value → State → Outcome → State → Prop} {w : HW} {pc : Nat} {L : List (Nat × Value)} {S : List Value} {I : MI} {J : MJ} {B : MR} {a n : Nat}
theorem j_iald (G : Gd l R K m own cc nL H0 ret Qc w) (hW : WFK K) {i : Int32} (ha : kG K a = (20, n)) (hin : vp_in i n) (hd : decode cc pc = .ok (.iaload, 1)) (k : Jg K m nL H0 w (pc + 1) L (.int (I a (ix i)) :: S) (I, J, B)) : Jg K m nL H0 w pc L (.int i :: .ref a :: S) (I, J, B) := by
  obtain ⟨p, e, s, args, below, meth, c, rfl, hx, hb, hml, hown, hts, hK, rfl, hr, hlk⟩ := G
  intro H locs ls hP hS hl
  have haL := hW.2.2.1 a (by rw [ha]; simp)
  exact va_iald hx hb hK.1.1 (hP.at haL) 0 0 (congrArg (fun e => some (a, e)) (celE_arr ha (by decide) (by decide) (by decide))) rfl hin hd (k H locs ls hP hS hl)
theorem j_bald (G : Gd l R K m own cc nL H0 ret Qc w) (hW : WFK K) {i : Int32} (ha : kG K a = (21, n)) (hin : vp_in i n) (hd : decode cc pc = .ok (.baload, 1)) (k : Jg K m nL H0 w (pc + 1) L (.int (I a (ix i)) :: S) (I, J, B)) : Jg K m nL H0 w pc L (.int i :: .ref a :: S) (I, J, B) := by
  obtain ⟨p, e, s, args, below, meth, c, rfl, hx, hb, hml, hown, hts, hK, rfl, hr, hlk⟩ := G
  intro H locs ls hP hS hl
  have haL := hW.2.2.1 a (by rw [ha]; simp)
  exact va_bald hx hb hK.1.1 (hP.at haL) 0 1 (congrArg (fun e => some (a, e)) (celE_arr ha (by decide) (by decide) (by decide))) rfl hin hd (k H locs ls hP hS hl)
theorem j_zald (G : Gd l R K m own cc nL H0 ret Qc w) (hW : WFK K) {i : Int32} (ha : kG K a = (23, n)) (hin : vp_in i n) (hd : decode cc pc = .ok (.baload, 1)) (k : Jg K m nL H0 w (pc + 1) L (.int (I a (ix i)) :: S) (I, J, B)) : Jg K m nL H0 w pc L (.int i :: .ref a :: S) (I, J, B) := by
  obtain ⟨p, e, s, args, below, meth, c, rfl, hx, hb, hml, hown, hts, hK, rfl, hr, hlk⟩ := G
  intro H locs ls hP hS hl
  have haL := hW.2.2.1 a (by rw [ha]; simp)
  exact va_zald hx hb hK.1.1 (hP.at haL) 0 3 (congrArg (fun e => some (a, e)) (celE_arr ha (by decide) (by decide) (by decide))) rfl hin hd (k H locs ls hP hS hl)
theorem j_lald (G : Gd l R K m own cc nL H0 ret Qc w) (hW : WFK K) {i : Int32} (ha : kG K a = (22, n)) (hin : vp_in i n) (hd : decode cc pc = .ok (.laload, 1)) (k : Jg K m nL H0 w (pc + 1) L (.long (J a (ix i)) :: S) (I, J, B)) : Jg K m nL H0 w pc L (.int i :: .ref a :: S) (I, J, B) := by
  obtain ⟨p, e, s, args, below, meth, c, rfl, hx, hb, hml, hown, hts, hK, rfl, hr, hlk⟩ := G
  intro H locs ls hP hS hl
  have haL := hW.2.2.1 a (by rw [ha]; simp)
  exact va_lald hx hb hK.1.1 (hP.at haL) 0 2 (congrArg (fun e => some (a, e)) (celE_arrL ha)) rfl hin hd (k H locs ls hP hS hl)
theorem j_aald (G : Gd l R K m own cc nL H0 ret Qc w) (hW : WFK K) {i : Int32} {kd : Nat} {C : String} (ha : kG K a = (kd, n)) (h1 : 24 ≤ kd) (ht : (tyl (kC K))[kd - 20]? = some ((kC K) kd, .object C)) (hin : vp_in i n) (hd : decode cc pc = .ok (.aaload, 1)) (k : Jg K m nL H0 w (pc + 1) L (.ref (a + (rof kd).1 + (rof kd).2 * ix i) :: S) (I, J, B)) : Jg K m nL H0 w pc L (.int i :: .ref a :: S) (I, J, B) := by
  obtain ⟨p, e, s, args, below, meth, c, rfl, hx, hb, hml, hown, hts, hK, rfl, hr, hlk⟩ := G
  intro H locs ls hP hS hl
  have haL := hW.2.2.1 a (by rw [ha]; show kd ≠ 0; omega)
  exact va_aldq hx hb hK.1.1 (hP.at haL) 0 _ (congrArg (fun e => some (a, e)) (celE_arrR ha h1)) ht hin hd (k H locs ls hP hS hl)
theorem j_alen (G : Gd l R K m own cc nL H0 ret Qc w) (hW : WFK K) {kd : Nat} (v : Int32) (ha : kG K a = (kd, n)) (h1 : 20 ≤ kd) (h2 : kd ≠ 22) (h3 : kd < 24) {ty : FieldType} (ht : (tyl (kC K))[kd - 20]? = some ((kC K) kd, ty)) (hv : Int32.ofNat n = v) (hd : decode cc pc = .ok (.arraylength, 1)) (k : Jg K m nL H0 w (pc + 1) L (.int v :: S) (I, J, B)) : Jg K m nL H0 w pc L (.ref a :: S) (I, J, B) := by
  obtain ⟨p, e, s, args, below, meth, c, rfl, hx, hb, hml, hown, hts, hK, rfl, hr, hlk⟩ := G
  intro H locs ls hP hS hl
  have haL := hW.2.2.1 a (by rw [ha]; show kd ≠ 0; omega)
  exact va_alen hx hb hK.1.1 (hP.at haL) 0 _ (congrArg (fun e => some (a, e)) (celE_arr ha h1 h2 h3)) ht hv hd (k H locs ls hP hS hl)
theorem j_iast (G : Gd l R K m own cc nL H0 ret Qc w) (hW : WFK K) {i x : Int32} (ha : kG K a = (20, n)) (hin : vp_in i n) (hd : decode cc pc = .ok (.iastore, 1)) (k : Jg K m nL H0 w (pc + 1) L S (ui I a (ix i) x, J, B)) : Jg K m nL H0 w pc L (.int x :: .int i :: .ref a :: S) (I, J, B) := by
  obtain ⟨p, e, s, args, below, meth, c, rfl, hx, hb, hml, hown, hts, hK, rfl, hr, hlk⟩ := G
  intro H locs ls hP hS hl
  have haL := hW.2.2.1 a (by rw [ha]; simp)
  obtain ⟨q, hq⟩ := HP.idx (mem := (I, J, B)) haL
  have hE : ∀ mem : Mm, celE K mem a = _ := fun mem => celE_arr (mem := mem) ha (by decide) (by decide) (by decide)
  refine va_iast hx hb hK.1.1 hP (va_pl_D hW.2.2.2.1 (fun _ h => h)) hS q 0 (hq.trans (congrArg (fun e => some (a, e)) (hE _))) rfl hin hd (fun H1 locs1 hP1 _ hS1 => k H1 locs1 ls (HP.set hW haL hq hP1 (by rw [hE]; dsimp only; rw [ui_at]) (fun b hb => celE_congr (ui_ne I _ _ hb) rfl rfl)) hS1 hl)
theorem j_bast (G : Gd l R K m own cc nL H0 ret Qc w) (hW : WFK K) {i x : Int32} (ha : kG K a = (21, n)) (hin : vp_in i n) (hd : decode cc pc = .ok (.bastore, 1)) (k : Jg K m nL H0 w (pc + 1) L S (ui I a (ix i) (vp_nar .byte x), J, B)) : Jg K m nL H0 w pc L (.int x :: .int i :: .ref a :: S) (I, J, B) := by
  obtain ⟨p, e, s, args, below, meth, c, rfl, hx, hb, hml, hown, hts, hK, rfl, hr, hlk⟩ := G
  intro H locs ls hP hS hl
  have haL := hW.2.2.1 a (by rw [ha]; simp)
  obtain ⟨q, hq⟩ := HP.idx (mem := (I, J, B)) haL
  have hE : ∀ mem : Mm, celE K mem a = _ := fun mem => celE_arr (mem := mem) ha (by decide) (by decide) (by decide)
  refine va_bast hx hb hK.1.1 hP (va_pl_D hW.2.2.2.1 (fun _ h => h)) hS q 1 (hq.trans (congrArg (fun e => some (a, e)) (hE _))) rfl hin hd (fun H1 locs1 hP1 _ hS1 => k H1 locs1 ls (HP.set hW haL hq hP1 (by rw [hE]; dsimp only; rw [ui_at]) (fun b hb => celE_congr (ui_ne I _ _ hb) rfl rfl)) hS1 hl)
theorem j_zast (G : Gd l R K m own cc nL H0 ret Qc w) (hW : WFK K) {i x : Int32} (ha : kG K a = (23, n)) (hin : vp_in i n) (hd : decode cc pc = .ok (.bastore, 1)) (k : Jg K m nL H0 w (pc + 1) L S (ui I a (ix i) (vp_nar .boolean x), J, B)) : Jg K m nL H0 w pc L (.int x :: .int i :: .ref a :: S) (I, J, B) := by
  obtain ⟨p, e, s, args, below, meth, c, rfl, hx, hb, hml, hown, hts, hK, rfl, hr, hlk⟩ := G
  intro H locs ls hP hS hl
  have haL := hW.2.2.1 a (by rw [ha]; simp)
  obtain ⟨q, hq⟩ := HP.idx (mem := (I, J, B)) haL
  have hE : ∀ mem : Mm, celE K mem a = _ := fun mem => celE_arr (mem := mem) ha (by decide) (by decide) (by decide)
  refine va_zast hx hb hK.1.1 hP (va_pl_D hW.2.2.2.1 (fun _ h => h)) hS q 3 (hq.trans (congrArg (fun e => some (a, e)) (hE _))) rfl hin hd (fun H1 locs1 hP1 _ hS1 => k H1 locs1 ls (HP.set hW haL hq hP1 (by rw [hE]; dsimp only; rw [ui_at]) (fun b hb => celE_congr (ui_ne I _ _ hb) rfl rfl)) hS1 hl)
theorem j_last (G : Gd l R K m own cc nL H0 ret Qc w) (hW : WFK K) {i : Int32} {x : Int64} (ha : kG K a = (22, n)) (hin : vp_in i n) (hd : decode cc pc = .ok (.lastore, 1)) (k : Jg K m nL H0 w (pc + 1) L S (I, uj J a (ix i) x, B)) : Jg K m nL H0 w pc L (.long x :: .int i :: .ref a :: S) (I, J, B) := by
  obtain ⟨p, e, s, args, below, meth, c, rfl, hx, hb, hml, hown, hts, hK, rfl, hr, hlk⟩ := G
  intro H locs ls hP hS hl
  have haL := hW.2.2.1 a (by rw [ha]; simp)
  obtain ⟨q, hq⟩ := HP.idx (mem := (I, J, B)) haL
  have hE : ∀ mem : Mm, celE K mem a = _ := fun mem => celE_arrL (mem := mem) ha
  refine va_last hx hb hK.1.1 hP (va_pl_D hW.2.2.2.1 (fun _ h => h)) hS q 2 (hq.trans (congrArg (fun e => some (a, e)) (hE _))) rfl hin hd (fun H1 locs1 hP1 _ hS1 => k H1 locs1 ls (HP.set hW haL hq hP1 (by rw [hE]; dsimp only; rw [uj_at]) (fun b hb => celE_congr rfl (uj_ne J _ _ hb) rfl)) hS1 hl)
/-- a field is read -/
theorem j_get (G : Gd l R K m own cc nL H0 ret Qc w) (hW : WFK K) (ci k t : Nat) {C ref : String} {T : u_T} {N index : Nat} {mem : Mm} (v : Value) (hka : (kG K a).1 = ci + 1) (hci : ci < 19) (hc : vwCl[ci]? = some (C, T, N)) (hk : k < N) (hf : (fdl ci)[k]? = some t) (hin : ∀ x ∈ u_ws C T N, x ∈ gw) (hw : Cond.fieldLink own index ref (T k).2.1 (T k).2.2.1 ∈ gw) (hsame : ref = (T k).1) (hv : fval mem a k t = v) (hd : decode cc pc = .ok (.getfield index, 3)) (kk : Jg K m nL H0 w (pc + 3) L (v :: S) mem) : Jg K m nL H0 w pc L (.ref a :: S) mem := by
  obtain ⟨p, e, s, args, below, meth, c, rfl, hx, hb, hml, hown, hts, hK, rfl, hr, hlk⟩ := G
  intro H locs ls hP hS hl
  have haL := hW.2.2.1 a (by rw [hka]; simp)
  subst hv
  refine va_get hx hb hts hin hown hK.1.1 (hP.at haL) 0 (congrArg (fun e => some (a, e)) (celE_obj hka hci)) hc k hk (hts _ hw) (fun x h => by rw [hsame]; exact h) (fvals_get hf) hd (kk H locs ls hP hS hl)
/-- a field is written -/
theorem j_putX (G : Gd l R K m own cc nL H0 ret Qc w) (hW : WFK K) (ci k t : Nat) {C ref : String} {T : u_T} {N index : Nat} {mem : Mm} (mem' : Mm) {v : Value} (ty0 : Nat → FieldType) {ty : FieldType} (hty : ∀ k, k < N → parseFieldDescriptor (T k).2.2.1 = some (ty0 k)) (hnm : ∀ a, a < N → ∀ b, b < N → a ≠ b → (T a).2.1 ≠ (T b).2.1) (hka : (kG K a).1 = ci + 1) (hci : ci < 19) (hc : vwCl[ci]? = some (C, T, N)) (hk : k < N) (hf : (fdl ci)[k]? = some t) (hin : ∀ x ∈ u_ws C T N, x ∈ gw) (hw : Cond.fieldLink own index ref (T k).2.1 (T k).2.2.1 ∈ gw) (hsame : ref = (T k).1) (hfin : (T k).2.2.2 = false) (hpd : parseFieldDescriptor (T k).2.2.1 = some ty) (hn : narrow ty v = v) (hfit : fits ty v = true)
    (hv : fval mem' a k t = v) (ho : ∀ j t', j ≠ k → fval mem' a j t' = fval mem a j t') (hoo : ∀ b, b ≠ a → celE K mem' b = celE K mem b) (hd : decode cc pc = .ok (.putfield index, 3)) (kk : Jg K m nL H0 w (pc + 3) L S mem') : Jg K m nL H0 w pc L (v :: .ref a :: S) mem := by
  obtain ⟨p, e, s, args, below, meth, c, rfl, hx, hb, hml, hown, hts, hK, rfl, hr, hlk⟩ := G
  intro H locs ls hP hS hl
  have haL := hW.2.2.1 a (by rw [hka]; simp)
  obtain ⟨q, hq⟩ := HP.idx (mem := mem) haL
  refine va_put hx hb hts hin ty0 hty hnm hown hK.1.1 hP (va_pl_D hW.2.2.2.1 (fun _ h => h)) hS q (hq.trans (congrArg (fun e => some (a, e)) (celE_obj hka hci))) hc k hk (hts _ hw) (fun x h => by rw [hsame]; exact h) hfin hpd hn hfit (by rw [fvals_len]; exact (List.getElem?_eq_some_iff.mp hf).1) hd (fun H1 locs1 hP1 _ hS1 => kk H1 locs1 ls (HP.set hW haL hq hP1 (by rw [celE_obj hka hci, fvals_set hf hv ho]) hoo) hS1 hl)
theorem fval_ui {a j k t' : Nat} {v : Int32} (h : j ≠ k) : fval (ui I a k v, J, B) a j t' = fval (I, J, B) a j t' := by
  match t' with
  | 0 => show Value.int _ = Value.int _; rw [show (ui I a k v, J, B).1 a j = I a j from by show ui I a k v a j = I a j; rw [ui_at]; exact pk_un h]
  | 1 => rfl
  | 2 => rfl
  | d + 3 => rfl
theorem j_put (G : Gd l R K m own cc nL H0 ret Qc w) (hW : WFK K) (ci k : Nat) {C ref : String} {T : u_T} {N index : Nat} {v : Int32} (ty0 : Nat → FieldType) (ty : FieldType) (hty : ∀ k, k < N → parseFieldDescriptor (T k).2.2.1 = some (ty0 k)) (hnm : ∀ a, a < N → ∀ b, b < N → a ≠ b → (T a).2.1 ≠ (T b).2.1) (hka : (kG K a).1 = ci + 1) (hci : ci < 19) (hc : vwCl[ci]? = some (C, T, N)) (hk : k < N) (hf : (fdl ci)[k]? = some 0) (hin : ∀ x ∈ u_ws C T N, x ∈ gw) (hw : Cond.fieldLink own index ref (T k).2.1 (T k).2.2.1 ∈ gw) (hsame : ref = (T k).1) (hfin : (T k).2.2.2 = false) (hpd : parseFieldDescriptor (T k).2.2.1 = some ty) (hn : narrow ty (.int v) = .int v) (hfit : fits ty (.int v) = true)
    (hd : decode cc pc = .ok (.putfield index, 3)) (kk : Jg K m nL H0 w (pc + 3) L S (ui I a k v, J, B)) : Jg K m nL H0 w pc L (.int v :: .ref a :: S) (I, J, B) :=
  j_putX G hW ci k 0 (ui I a k v, J, B) ty0 hty hnm hka hci hc hk hf hin hw hsame hfin hpd hn hfit (by show Value.int _ = Value.int _; rw [show (ui I a k v, J, B).1 a k = v from by show ui I a k v a k = v; rw [ui_at]; exact pk_us]) (fun j t' h => fval_ui h) (fun b hb => celE_congr (ui_ne I _ _ hb) rfl rfl) hd kk
theorem j_putL (G : Gd l R K m own cc nL H0 ret Qc w) (hW : WFK K) (ci k : Nat) {C ref : String} {T : u_T} {N index : Nat} {v : Int64} (ty0 : Nat → FieldType) (hty : ∀ k, k < N → parseFieldDescriptor (T k).2.2.1 = some (ty0 k)) (hnm : ∀ a, a < N → ∀ b, b < N → a ≠ b → (T a).2.1 ≠ (T b).2.1) (hka : (kG K a).1 = ci + 1) (hci : ci < 19) (hc : vwCl[ci]? = some (C, T, N)) (hk : k < N) (hf : (fdl ci)[k]? = some 1) (hin : ∀ x ∈ u_ws C T N, x ∈ gw) (hw : Cond.fieldLink own index ref (T k).2.1 (T k).2.2.1 ∈ gw) (hsame : ref = (T k).1) (hfin : (T k).2.2.2 = false) (hpd : parseFieldDescriptor (T k).2.2.1 = some .long)
    (hd : decode cc pc = .ok (.putfield index, 3)) (kk : Jg K m nL H0 w (pc + 3) L S (I, uj J a k v, B)) : Jg K m nL H0 w pc L (.long v :: .ref a :: S) (I, J, B) :=
  j_putX G hW ci k 1 (I, uj J a k v, B) ty0 hty hnm hka hci hc hk hf hin hw hsame hfin hpd rfl rfl (by show Value.long _ = Value.long _; rw [show (I, uj J a k v, B).2.1 a k = v from by show uj J a k v a k = v; rw [uj_at]; exact pk_uLs]) (fun j t' h => by
    match t' with
    | 0 => rfl
    | 1 => show Value.long _ = Value.long _; rw [show (I, uj J a k v, B).2.1 a j = J a j from by show uj J a k v a j = _; rw [uj_at]; exact pk_uLn h]
    | 2 => rfl
    | d + 3 => rfl) (fun b hb => celE_congr rfl (uj_ne J _ _ hb) rfl) hd kk
end
