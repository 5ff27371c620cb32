/-! words of the constructors; the tables of kinds; the rules with their numbers written out -/
set_option maxRecDepth 100000 in
theorem cl_L_7 : Cond.classLink RL 7 RX9 ∈ gw := gw_1 (i := 24) rfl rfl
set_option maxRecDepth 100000 in
theorem is_X9 : Cond.instantiable RX9 7 ∈ gw := gw_1 (i := 25) rfl rfl
set_option maxRecDepth 100000 in
theorem cl_X9_9 : Cond.classLink RX9 9 RX8 ∈ gw := gw_1 (i := 32) rfl rfl
set_option maxRecDepth 100000 in
theorem is_X8 : Cond.instantiable RX8 5 ∈ gw := gw_1 (i := 33) rfl rfl
set_option maxRecDepth 100000 in
theorem cl_X8_19 : Cond.classLink RX8 19 RX1 ∈ gw := gw_1 (i := 38) rfl rfl
set_option maxRecDepth 100000 in
theorem is_X1 : Cond.instantiable RX1 16 ∈ gw := gw_1 (i := 39) rfl rfl
set_option maxRecDepth 100000 in
theorem cl_X1_9 : Cond.classLink RX1 9 RX2 ∈ gw := gw_1 (i := 44) rfl rfl
set_option maxRecDepth 100000 in
theorem is_X2 : Cond.instantiable RX2 12 ∈ gw := gw_1 (i := 45) rfl rfl
set_option maxRecDepth 100000 in
theorem cl_X2_9 : Cond.classLink RX2 9 RX0 ∈ gw := gw_1 (i := 50) rfl rfl
set_option maxRecDepth 100000 in
theorem is_X0 : Cond.instantiable RX0 6 ∈ gw := gw_1 (i := 52) rfl rfl
set_option maxRecDepth 100000 in
theorem ar_byte : Cond.arrayClass .byte ∈ gw := gw_1 (i := 97) rfl rfl
set_option maxRecDepth 100000 in
theorem ar_int : Cond.arrayClass .int ∈ gw := gw_1 (i := 98) rfl rfl
set_option maxRecDepth 100000 in
theorem cl_X1_25 : Cond.classLink RX1 25 RX3 ∈ gw := gw_1 (i := 164) rfl rfl
set_option maxRecDepth 100000 in
theorem cl_X1_31 : Cond.classLink RX1 31 RX5 ∈ gw := gw_1 (i := 166) rfl rfl
set_option maxRecDepth 100000 in
theorem is_X3 : Cond.instantiable RX3 5 ∈ gw := gw_1 (i := 168) rfl rfl
set_option maxRecDepth 100000 in
theorem is_X5 : Cond.instantiable RX5 9 ∈ gw := gw_1 (i := 193) rfl rfl
set_option maxRecDepth 100000 in
theorem cl_X9_24 : Cond.classLink RX9 24 RX4 ∈ gw := gw_2 (i := 86) rfl rfl
set_option maxRecDepth 100000 in
theorem is_X4 : Cond.instantiable RX4 8 ∈ gw := gw_2 (i := 87) rfl rfl
set_option maxRecDepth 100000 in
theorem cl_X4_11 : Cond.classLink RX4 11 RX2 ∈ gw := gw_2 (i := 92) rfl rfl
set_option maxRecDepth 100000 in
theorem cl_X4_18 : Cond.classLink RX4 18 RX7 ∈ gw := gw_2 (i := 94) rfl rfl
set_option maxRecDepth 100000 in
theorem is_X7 : Cond.instantiable RX7 7 ∈ gw := gw_2 (i := 95) rfl rfl
set_option maxRecDepth 100000 in
theorem ar_boolean : Cond.arrayClass .boolean ∈ gw := gw_2 (i := 125) rfl rfl
set_option maxRecDepth 100000 in
theorem cl_X9_31 : Cond.classLink RX9 31 RX1 ∈ gw := gw_2 (i := 154) rfl rfl
set_option maxRecDepth 100000 in
theorem cl_X9_38 : Cond.classLink RX9 38 RX6 ∈ gw := gw_2 (i := 156) rfl rfl
set_option maxRecDepth 100000 in
theorem is_X6 : Cond.instantiable RX6 5 ∈ gw := gw_2 (i := 157) rfl rfl
set_option maxRecDepth 100000 in
theorem cl_X9_45 : Cond.classLink RX9 45 RJ4 ∈ gw := gw_2 (i := 179) rfl rfl
set_option maxRecDepth 100000 in
theorem is_J4 : Cond.instantiable RJ4 4 ∈ gw := gw_2 (i := 180) rfl rfl
set_option maxRecDepth 100000 in
theorem cl_L_10 : Cond.classLink RL 10 RX10 ∈ gw := gw_6 (i := 81) rfl rfl
set_option maxRecDepth 100000 in
theorem is_X10 : Cond.instantiable RX10 25 ∈ gw := gw_6 (i := 82) rfl rfl
set_option maxRecDepth 100000 in
theorem ar_long : Cond.arrayClass .long ∈ gw := gw_6 (i := 188) rfl rfl
set_option maxRecDepth 100000 in
theorem oi_J5 : Cond.methodLink RJ5 3 Lib.objectInit ∈ gw := gw_2 (i := 187) rfl rfl
set_option maxRecDepth 100000 in
theorem oi_X0 : Cond.methodLink RX0 3 Lib.objectInit ∈ gw := gw_1 (i := 56) rfl rfl
set_option maxRecDepth 100000 in
theorem oi_X1 : Cond.methodLink RX1 3 Lib.objectInit ∈ gw := gw_1 (i := 43) rfl rfl
set_option maxRecDepth 100000 in
theorem oi_X10 : Cond.methodLink RX10 1 Lib.objectInit ∈ gw := gw_6 (i := 86) rfl rfl
set_option maxRecDepth 100000 in
theorem oi_X2 : Cond.methodLink RX2 3 Lib.objectInit ∈ gw := gw_1 (i := 49) rfl rfl
set_option maxRecDepth 100000 in
theorem oi_X3 : Cond.methodLink RX3 3 Lib.objectInit ∈ gw := gw_1 (i := 172) rfl rfl
set_option maxRecDepth 100000 in
theorem oi_X4 : Cond.methodLink RX4 5 Lib.objectInit ∈ gw := gw_2 (i := 91) rfl rfl
set_option maxRecDepth 100000 in
theorem oi_X5 : Cond.methodLink RX5 3 Lib.objectInit ∈ gw := gw_1 (i := 197) rfl rfl
set_option maxRecDepth 100000 in
theorem oi_X6 : Cond.methodLink RX6 3 Lib.objectInit ∈ gw := gw_2 (i := 161) rfl rfl
set_option maxRecDepth 100000 in
theorem oi_X7 : Cond.methodLink RX7 3 Lib.objectInit ∈ gw := gw_2 (i := 99) rfl rfl
set_option maxRecDepth 100000 in
theorem oi_X8 : Cond.methodLink RX8 3 Lib.objectInit ∈ gw := gw_1 (i := 37) rfl rfl
set_option maxRecDepth 100000 in
theorem oi_X9 : Cond.methodLink RX9 3 Lib.objectInit ∈ gw := gw_1 (i := 29) rfl rfl
set_option maxRecDepth 100000 in
theorem oi_im : Cond.instanceMethod Lib.objectInit ∈ gw := gw_1 (i := 30) rfl rfl
set_option maxRecDepth 100000 in
theorem oi_co : Cond.code Lib.objectInit ⟨#[0xb1]⟩ 1 none ∈ gw := gw_1 (i := 31) rfl rfl
def tQ : List (Nat × Nat) := [(5, 0), (20, 6), (20, 6)]
def tS : List (Nat × Nat) := [(7, 0), (20, 8), (20, 50)]
def tProg : List (Nat × Nat) := [(4, 0), (24, 25), (20, 6), (20, 32), (20, 8), (20, 100), (20, 50), (20, 50), (20, 24)] ++ List.replicate 25 (2, 0)
def tMach : List (Nat × Nat) := [(3, 0)] ++ tProg ++ [(20, 8), (20, 32), (25, 6), (26, 2)] ++ tQ ++ tQ ++ tQ ++ tQ ++ tQ ++ tQ ++ tS ++ tS
def tWhole : List (Nat × Nat) := [(10, 0), (21, 600)] ++ tMach
def tTok : List (Nat × Nat) := [(9, 0), (20, 601), (20, 601), (20, 601), (20, 601), (21, 0)]
def tReader : List (Nat × Nat) := [(6, 0)] ++ tProg ++ tTok ++ [(20, 150), (20, 150)]
def tSingle : List (Nat × Nat) := [(8, 0), (20, 8), (20, 32)]
def tSb : List (Nat × Nat) := [(1, 0), (21, 16)]
def tAll : List (Nat × Nat) := [(11, 0)] ++ tWhole ++ [(27, 3), (23, 3)] ++ tReader ++ tMach ++ tSingle ++ tSb ++ tWhole ++ tWhole ++ tWhole
def tModel : List (Nat × Nat) := [(12, 0), (20, 4905), (20, 600), (23, 3), (20, 24), (22, 90), (22, 25), (20, 90), (20, 25), (20, 25)]
theorem wft_prog : wft tProg := by unfold wft; decide +kernel
theorem wft_mach : wft tMach := by unfold wft; decide +kernel
theorem wft_model : wft tModel := by unfold wft; decide +kernel
theorem wft_both : wft (tAll ++ tModel) := by unfold wft; decide +kernel
theorem len_both : (tAll ++ tModel).length = 384 := by decide +kernel
abbrev mem0 : Mm := (fun _ _ => 0, fun _ _ => 0, fun _ _ => 0)
section
variable {K : Kx} {l : Launch} {R : Room} {base n0 : Nat} {m : MethodId} {own : String} {cc : ByteArray} {nL : Nat} {H0 : Heap} {ret : Option FieldType} {Qc : Array Value → State → Outcome → State → Prop} {mc ms : Nat} {w : HN} {ce sl : Nat} {E : Nat → va_E} {pc : Nat} {L : List (Nat × Value)} {S : List Value}
theorem n_newa' (G : GN l R K base n0 m own cc nL H0 ret Qc mc ms w) {atype : ArrayType} {ty : FieldType} (t0 kd q c' s' : Nat) {n : Int32} (N : Nat) {a0 : _} (hq : base + (n0 + ce) = q) (hc : ce + 1 = c') (hs : sl + N = s') (hty : newarray.typeOf atype = ty) (harr : Cond.arrayClass ty ∈ gw) (ht : (tyl (kC K))[t0]? = some (kC K kd, ty)) (hra : ∀ (U : State) (cA : ClassId), va_RA U cA ty → U.vm.findClass ("[" ++ ty.toString) = some cA) (ha : ∀ cA : ClassId, vp_cell cA (N, a0) = arrV cA N (fun _ => defaultValue ty)) (hn : ¬ n < 0) (hN : ix n = N) (hbytes : N * componentBytes ty ≤ 536870912) (hce : c' ≤ R.cells) (hsl : s' ≤ R.slots) (hpos : 0 < n0 + ce) (hd : decode cc pc = .ok (.newarray atype, 2))
    (k : ∀ E', E' = ue E q (.inl (kC K kd, N, a0)) → JN K base n0 m nL H0 w c' s' E' (pc + 2) L (.ref q :: S)) : JN K base n0 m nL H0 w ce sl E pc L (.int n :: S) := by
  subst hq; subst hc; subst hs
  exact n_newa G t0 kd hty harr ht hra ha hn hN hbytes hce hsl hpos hd (k _ rfl)
theorem n_putF' (G : GN l R K base n0 m own cc nL H0 ret Qc mc ms w) {C ref : String} {T : u_T} {N index : Nat} (ci a k : Nat) {fs : List Value} {v : Value} (fs' : List Value) (ty0 : Nat → FieldType) (ty : FieldType) (hfs : fs.set k v = fs') (hty : ∀ k, k < N → parseFieldDescriptor (T k).2.2.1 = some (ty0 k)) (hnm0 : ∀ a, a < N → ∀ b, b < N → a ≠ b → (T a).2.1 ≠ (T b).2.1) (h1 : base ≤ a) (h2 : a < base + (n0 + ce)) (he : E a = .inr (ci, fs)) (hc : vwCl[ci]? = some (C, T, N)) (hk : k < N) (hin : ∀ x ∈ u_ws C T N, x ∈ gw) (hw : Cond.fieldLink own index ref (T k).2.1 (T k).2.2.1 ∈ gw) (hsame : ref = (T k).1) (hfin : (T k).2.2.2 = true) (hdecl : (T k).1 = own) (hpd : parseFieldDescriptor (T k).2.2.1 = some ty) (hn : narrow ty v = v) (hfit : fits ty v = true) (hl : k < fs.length) (hd : decode cc pc = .ok (.putfield index, 3))
    (kk : ∀ E', E' = ue E a (.inr (ci, fs')) → JN K base n0 m nL H0 w ce sl E' (pc + 3) L S) : JN K base n0 m nL H0 w ce sl E pc L (v :: .ref a :: S) := by
  subst hfs
  exact n_putF G ci a k ty0 ty hty hnm0 h1 h2 he hc hk hin hw hsame hfin hdecl hpd hn hfit hl hd (kk _ rfl)
theorem n_put' (G : GN l R K base n0 m own cc nL H0 ret Qc mc ms w) {C ref : String} {T : u_T} {N index : Nat} (ci a k : Nat) {fs : List Value} {v : Value} (fs' : List Value) (ty0 : Nat → FieldType) (ty : FieldType) (hfs : fs.set k v = fs') (hty : ∀ k, k < N → parseFieldDescriptor (T k).2.2.1 = some (ty0 k)) (hnm0 : ∀ a, a < N → ∀ b, b < N → a ≠ b → (T a).2.1 ≠ (T b).2.1) (h1 : base ≤ a) (h2 : a < base + (n0 + ce)) (he : E a = .inr (ci, fs)) (hc : vwCl[ci]? = some (C, T, N)) (hk : k < N) (hin : ∀ x ∈ u_ws C T N, x ∈ gw) (hw : Cond.fieldLink own index ref (T k).2.1 (T k).2.2.1 ∈ gw) (hsame : ref = (T k).1) (hfin : (T k).2.2.2 = false) (hpd : parseFieldDescriptor (T k).2.2.1 = some ty) (hn : narrow ty v = v) (hfit : fits ty v = true) (hl : k < fs.length) (hd : decode cc pc = .ok (.putfield index, 3))
    (kk : ∀ E', E' = ue E a (.inr (ci, fs')) → JN K base n0 m nL H0 w ce sl E' (pc + 3) L S) : JN K base n0 m nL H0 w ce sl E pc L (v :: .ref a :: S) := by
  subst hfs
  exact n_put G ci a k ty0 ty hty hnm0 h1 h2 he hc hk hin hw hsame hfin hpd hn hfit hl hd (kk _ rfl)
theorem n_retv' {E' : Nat → va_E} (G : GN l R K base n0 m own cc nL H0 none (va_Qv (S := Unit) (fun _ => True) (fun _ t => HE K base (n0 + mc) E' t.heap) (AB base)) mc ms w) (hc : ce = mc) (hs : sl = ms) (hE : ∀ q, base ≤ q → q < base + (n0 + ce) → E q = E' q) (hd : decode cc pc = .ok (.return_, 1)) : JN K base n0 m nL H0 w ce sl E pc L [] := by
  obtain ⟨p, e, s, args, below, meth, c, rfl, hx, hb, hml, hown, hts, hK, rfl, hr, hlk, hnm, hsz⟩ := G
  subst hc; subst hs
  intro H locs ls hP hS hl
  exact W.vret hx hb hr (fun t ht _ => ⟨⟨(), rfl, trivial, by show HE K base (n0 + ce) E' t.heap; rw [ht]; exact fun q q1 q2 => by rw [← hE q q1 q2]; exact hP q q1 q2⟩, hS.F ht⟩) (fun q hq => hS.2.2 q hq) hd hlk
end
