/-! THE CLAIM OUT OF ONE WALK OF THE LAW'S BODY. Your part is whole_start (and what it stands on); all else here is the same for every law, but numbers. -/
def R_law : String := "TwoProcessorsLaw"
def lw_P (b : Addr) (xs : List Int32) (args : Array Value) (s : State) : Prop := args = #[.ref b] ∧ s.IntsAt b xs ∧ xs.length ≤ 3072 ∧ (Jvm.Cond.and given_1 narrow_1).before args s = true
def lw_Q (_ : Array Value) (s : State) (o : Outcome) (t : State) : Prop := o = .returned (some (.int 1)) ∧ Framed s o t [] 600000 7302250
def lw_Z (below : List Frame) (a : Array Value) (s : State) : State → Prop := fun t => ∃ o, t.status = .running ∧ Ended t below o ∧ lw_Q a s o t
/-- the law's own end, with 1 on the stack, nothing written that was there before, its room as the claim has it -/
theorem lw_ret {p : Program} {l : Launch} {e : Env} {s : State} {m : MethodId} {below : List Frame} {meth : Method} {c : Code} {b : Nat} (hx : p.tables.exec = Jvm.exec) (hb : c.code = code) (hr : meth.sig.returnType = ret) (hlocks : meth.locks = false) {pc : Nat} {H : Heap} {ls : Array Slot} (hdg : decode code pc = .ok (.ireturn, 1)) : W p l e room_1 s m #[Value.ref b] below meth c H [] 600000 7302250 (lw_Z below #[Value.ref b] s) (F0 m pc ls [.int 1]) := by
  intro T hT X
  obtain ⟨fs, hret, hrun, hended, hW, hframe⟩ := X.leave (v := some (.int 1)) (hlocks := hlocks) (fun h => by rw [hr] at h; cases h)
  have hmeth' : T.vm.method? m = some meth := X.method'
  refine ⟨T.setFrames fs, ?_, .returned (some (.int 1)), hrun, hended, rfl, ⟨_, rfl⟩, hW, hframe⟩
  jvm_step X.here [X.here.top, hx, hb, hdg, hmeth', hr, ret, narrow_b1]
  (try refine ⟨rfl, ?_⟩); (try refine ⟨rfl, ?_⟩)
  first | (intro acts; rw [hret _ acts rfl rfl rfl]) | rw [hret _ _ rfl rfl rfl]
  exact Steps.refl _
/-- what holds at the law's entry: the machine, the code, the tables' words (any of lw_tbl by 'hts w (by decide +kernel)'), the script of L ints xs at the cell b, what the Statement gives of the start (any of its parts by flat_of_before) -/
def lw_At (p : Program) (s : State) (m : MethodId) (meth : Method) (c : Code) (b L : Nat) (xs : Nat → Int32) : Prop :=
  p.tables.exec = Jvm.exec ∧ c.code = code ∧ meth.sig.returnType = ret ∧ c.maxLocals = 4 ∧ s.vm.findClass R_law = some m.cls ∧ (∀ w ∈ lw_tbl, w.before #[Value.ref b] s = true) ∧ va_X b L xs s s.heap ∧ b < s.heap.size ∧ meth.locks = false ∧ (Jvm.Cond.and given_1 narrow_1).before #[Value.ref b] s = true
section
variable {p : Program} {l : Launch} {e : Env} {R : Room} {s : State} {m : MethodId} {args : Array Value} {below : List Frame} {meth : Method} {c : Code} {Q : State → Prop} {cc : ByteArray} {nL : Nat} {own : String} {K : Kx} {base : Nat} {H : Heap} {locs : List Loc} {ce sl pc : Nat} {E : Nat → va_E} {ls : Array Slot} {S : List Value}
/-- the law makes an object -/
theorem l_new (hx : p.tables.exec = Jvm.exec) (hb : c.code = cc) (hown : s.vm.findClass own = some m.cls) (hts : ∀ x ∈ gw, x.before args s = true) (hK : KN K s) {C : String} {T : u_T} {N ci index : Nat} (fs : List Value) (ty : Nat → FieldType) (hty : ∀ k, k < N → parseFieldDescriptor (T k).2.2.1 = some (ty k)) (hc : vwCl[ci]? = some (C, T, N)) (hin : ∀ x ∈ u_ws C T N, x ∈ gw) (h1 : Cond.classLink own index C ∈ gw) (h2 : Cond.instantiable C N ∈ gw) (h3 : Cond.initialized C ∈ gw) (hfs : ∀ j, j < N → defaultValue (ty j) = vp_V fs j) (hce : ce + 1 ≤ R.cells) (hsl : sl + N ≤ R.slots) (hH : H.size = base + ce) (hP : HE K base ce E H) (hS : va_S (AB base) s.heap H locs) (hd : decode cc pc = .ok (.new index, 3))
    (k : ∀ H1, HE K base (ce + 1) (ue E (base + ce) (.inr (ci, fs))) H1 → va_S (AB base) s.heap H1 locs → H1.size = base + (ce + 1) → W p l e R s m args below meth c H1 locs (ce + 1) (sl + N) Q (F0 m (pc + 3) ls (.ref (base + ce) :: S))) : W p l e R s m args below meth c H locs ce sl Q (F0 m pc ls S) := by
  have hKn := hK.1.1.1 ci _ hc
  refine W.newcK hx hb hown (hts _ h1) (hts _ h2) (hts _ h3) rfl hd hce hsl hKn.2.1 hH fun H1 kC hkC e1 z1 o1 => ?_
  exact k H1 (hP.push hH (fun q hq => o1 q (by omega)) ⟨_, hc, (u_born ty hts hin hKn hkC e1 hty).to hfs⟩) ⟨Nat.le_trans hS.1 (by omega), fun x x1 x2 => (o1 x (by have := hS.1; omega)).trans (hS.2.1 x x1 x2), hS.2.2⟩ (by omega)
/-- the law calls a constructor -/
theorem l_init (hx : p.tables.exec = Jvm.exec) (hb : c.code = cc) (hml : c.maxLocals = nL) (hown : s.vm.findClass own = some m.cls) (hts : ∀ x ∈ gw, x.before args s = true) (hK : KN K s) (hO : OH K s.heap) (hkH : (kH K).size = base) (hss : s.heap.size = base) {b index maxL n mc2 ms2 : Nat} {As rest S0 : List Value} {y : MethodName} {bytes : ByteArray} {rm : Room} {S' : Type} {post : S' → Prop} {E' : S' → Nat → va_E} (hM : ConN K l y (wsT y bytes maxL none) rm (.ref b :: As) base ce E mc2 ms2 (va_Qv (S := S') post (fun u t => HE K base (ce + mc2) (E' u) t.heap) (AB base)))
    (h1 : Cond.methodLink own index y ∈ gw) (h2 : Cond.instanceMethod y ∈ gw) (h4 : Cond.initialized y.cls ∈ gw) (h5 : Cond.code y bytes maxL none ∈ gw) (hyn : y.name = "<init>") (hds : dsc y n) (hrc : rm.cells = mc2) (hrs : rm.slots = ms2) (hfr : rm.frames + 1 ≤ R.frames) (hlo : 8 + (maxL + 11) + rm.locals ≤ R.locals)
    (hn : As.length = n) (hS0 : S0 = As.reverse ++ .ref b :: rest) (hrm : (rest.map fun v => v.category).sum ≤ 8) (hce : ce + mc2 ≤ R.cells) (hsl : sl + ms2 ≤ R.slots) (hlz : ls.size = nL) (hH : H.size = base + ce) (hP : HE K base ce E H) (hS : va_S (AB base) s.heap H locs) (hpos : 0 < ce + mc2) (hd : decode cc pc = .ok (.invokespecial index, 3))
    (kk : ∀ u, post u → ∀ H1 locs1, HE K base (ce + mc2) (E' u) H1 → va_S (AB base) s.heap H1 locs1 → H1.size = base + (ce + mc2) → W p l e R s m args below meth c H1 locs1 (ce + mc2) (sl + ms2) Q (F0 m (pc + 3) ls rest)) : W p l e R s m args below meth c H locs ce sl Q (F0 m pc ls S0) := by
  refine va_callv (va_runI (As := As) (rest := rest) ⟨hx, hb, hml, hown, hts⟩ hM (cwI n hts (gw_in0 h5) rfl hrc hrs (hts _ h4) (hts _ h1) (hts _ h2) hyn hds ⟨hfr, hlo⟩) ⟨ConN.blind K _ base _ E, fun U hU hWm => ⟨rfl, by rw [hU]; exact hP, KN.warm hWm hK, by rw [hU]; exact OH.ab hkH hO hS, by rw [hU]; exact hH⟩⟩ rfl hn hlz hS0 (lv_room hrm) hd ⟨hce, hsl⟩) hS (fun _ _ h => h) (fun _ h => h) (fun u t H1 locs1 ht _ hp hB _ _ hS1 => ?_)
  refine W_sz (fun hle => ?_)
  have hP1 : HE K base (ce + mc2) (E' u) H1 := by rw [← ht]; exact hB
  exact kk u hp H1 locs1 hP1 hS1 (by have := hP1.ge hpos; omega)
end
theorem bo_kinds : (∀ i, i < 374 → (tAll ++ tModel).getD i (0, 0) = tAll.getD i (0, 0)) ∧ ∀ i, i < 10 → (tAll ++ tModel).getD (374 + i) (0, 0) = tModel.getD i (0, 0) := by decide +kernel
theorem len_mo : tModel.length = 10 := rfl
/-- class and model lie in one world -/
theorem bo_HE {K : Kx} {base : Nat} {u v : MI} {E0 : Nat → va_E} {en : va_E} {H : Heap} (hP : HE K base 384 (ov (sub K (base + 374) tModel) (memP v) (ue (ov (sub K base tAll) (u, fun _ _ => 0, clB base) E0) (base + 374) en)) H) : HE K base 384 (celE (sub K base (tAll ++ tModel)) ((fun q => if q < base + 374 then u q else v q), fun _ _ => 0, clB base)) H := by
  intro q q1 q2
  have hq := hP q q1 q2
  have e : ov (sub K (base + 374) tModel) (memP v) (ue (ov (sub K base tAll) (u, fun _ _ => 0, clB base) E0) (base + 374) en) q = celE (sub K base (tAll ++ tModel)) ((fun q => if q < base + 374 then u q else v q), fun _ _ => 0, clB base) q := by
    by_cases h : q < base + 374
    · obtain ⟨i, hi, rfl⟩ : ∃ i, i < 374 ∧ q = base + i := ⟨q - base, by omega, by omega⟩
      have a1 : ¬ (base + i ∈ kL (sub K (base + 374) tModel)) := fun c => by have := sub_AA.mp c; omega
      have a2 : base + i ∈ kL (sub K base tAll) := sub_AA.mpr ⟨by omega, by rw [len_all]; omega⟩
      unfold ov
      rw [if_neg a1, ue_ne _ _ (by omega), if_pos a2]
      refine celE_same ?_ rfl (if_pos h).symm rfl rfl
      rw [sub_G, sub_G]; exact (bo_kinds.1 i hi).symm
    · obtain ⟨i, hi, rfl⟩ : ∃ i, i < 10 ∧ q = base + 374 + i := ⟨q - (base + 374), by omega, by omega⟩
      have a1 : base + 374 + i ∈ kL (sub K (base + 374) tModel) := sub_AA.mpr ⟨by omega, by rw [len_mo]; omega⟩
      unfold ov
      rw [if_pos a1]
      refine celE_same ?_ rfl (if_neg h).symm rfl (clB_ne (by omega)).symm
      rw [sub_G, show base + 374 + i = base + (374 + i) by omega, sub_G]; exact (bo_kinds.2 i hi).symm
  rw [← e]; exact hq
set_option maxRecDepth 100000 in
set_option maxHeartbeats 4000000 in
/-- YOUR PART: from the entry, for every script of at most 3072 ints, the law comes to its end with true ('hflags': the launch's flags, for a law that throws: no stack traces) -/
theorem whole_start {p : Program} {e : Env} {s : State} {m : MethodId} {below : List Frame} {meth : Method} {c : Code} (l : Launch) (hflags : l.flags = flags0) {b L : Nat} {xs : Nat → Int32} (hL : L ≤ 3072) (C0 : lw_At p s m meth c b L xs) : W p l e room_1 s m #[Value.ref b] below meth c s.heap [] 0 0 (lw_Z below #[Value.ref b] s) (entryFrame m ([Value.ref b] : List Value).toArray 4) := by
  obtain ⟨hx, hb, hr, hml, hown, htl, hX, hbl, hlocks, hgv⟩ := C0
  have hts : ∀ w ∈ gw, w.before #[Value.ref b] s = true := fun w hw => htl w (gw_tbl hw)
  obtain ⟨K, hK, hkH0, hkL⟩ := start_K htl hgv
  have hO : OH K s.heap := ⟨by rw [hkH0]; exact Nat.le_refl _, fun q _ _ => by rw [hkH0]⟩
  obtain ⟨base, hbase⟩ : ∃ base, s.heap.size = base := ⟨_, rfl⟩
  have hkH : (kH K).size = base := by rw [hkH0]; exact hbase
  have hb0 : 0 < base := by omega
  have hl := lv_entry ([.ref b]) (n := 4) (Nat.le_of_ble_eq_true rfl)
  rw [lg_entry_eq]
  generalize (lg_sl ([.ref b]) ++ List.replicate (4 - (lg_sl ([.ref b])).length) Slot.unset).toArray = ls at hl ⊢
  have hl : lv_has ls 4 [(0, .ref b)] := hl
  refine l_new (base := base) hx hb hown hts hK (ci := 10) (E := fun _ => .inr (0, [])) [.null, .null, .null, .null, .null, .null, .null] tyX9 tyX9_ok rfl lay_X9 cl_L_7 is_X9 in_X9 (by decide) (Nat.le_of_ble_eq_true rfl) (Nat.le_of_ble_eq_true rfl) hbase (fun q q1 q2 => absurd q2 (by omega)) va_S.rf dL_law_0 (fun H1 hP1 hS1 hz1 => ?_)
  show W p l e room_1 s m #[Value.ref b] below meth c H1 [] 1 7 (lw_Z below #[Value.ref b] s) (F0 m 3 ls [.ref base])
  generalize hE1 : ue (fun _ => Sum.inr (0, [])) (base + 0) (.inr (10, [.null, .null, .null, .null, .null, .null, .null])) = E1 at hP1
  have f1 : E1 base = .inr (10, [.null, .null, .null, .null, .null, .null, .null]) := by rw [← hE1]; exact ue_at _ _ _
  refine lv_dup hx hb dL_law_3 rfl ?_
  refine l_init (base := base) (b := base) hx hb hml hown hts hK hO hkH hbase (mc2 := 373) (ms2 := 9452) (n := 0) (As := []) (rest := [.ref base]) (c_X9_init K l base 1 base E1 hkH hkL hb0 rfl (Nat.le_refl _) f1) ml_L_9 im_X9_init in_X9 co_X9_init rfl (by decide +kernel) rfl rfl (Nat.le_of_ble_eq_true rfl) (Nat.le_of_ble_eq_true rfl) rfl rfl (Nat.le_of_ble_eq_true rfl) (Nat.le_of_ble_eq_true rfl) (Nat.le_of_ble_eq_true rfl) hl.1 hz1 hP1 hS1 (Nat.le_of_ble_eq_true rfl) dL_law_4 (fun u hu H2 locs2 hP2 hS2 hz2 => ?_)
  show W p l e room_1 s m #[Value.ref b] below meth c H2 locs2 374 9459 (lw_Z below #[Value.ref b] s) (F0 m 7 ls [.ref base])
  refine lv_astore_n (lv' := [(1, .ref base), (0, .ref b)]) hx hb dL_law_7 rfl hl (by decide) rfl (fun ls hl => ?_)
  refine l_new (base := base) hx hb hown hts hK (ci := 11) [.null, .null, .null, .int 0, .int 0, .int 0, .int 0, .int 0, .null, .int 0, .int 0, .int 0, .int 0, .int 0, .int 0, .int 0, .int 0, .long 0, .null, .null, .null, .null, .null, .int 0, .int 0] tyX10 tyX10_ok rfl lay_X10 cl_L_10 is_X10 in_X10 (by decide) (Nat.le_of_ble_eq_true rfl) (Nat.le_of_ble_eq_true rfl) hz2 hP2 hS2 dL_law_8 (fun H3 hP3 hS3 hz3 => ?_)
  show W p l e room_1 s m #[Value.ref b] below meth c H3 locs2 375 9484 (lw_Z below #[Value.ref b] s) (F0 m 11 ls [.ref (base + 374)])
  refine lv_dup hx hb dL_law_11 rfl ?_
  refine l_init (base := base) (b := base + 374) hx hb hml hown hts hK hO hkH hbase (mc2 := 9) (ms2 := 5787) (n := 0) (As := []) (rest := [.ref (base + 374)]) (c_X10_init K l base 375 (base + 374) _ hkH hkL hb0 rfl (by omega) (ue_at _ _ _)) ml_L_12 im_X10_init in_X10 co_X10_init rfl (by decide +kernel) rfl rfl (Nat.le_of_ble_eq_true rfl) (Nat.le_of_ble_eq_true rfl) rfl rfl (Nat.le_of_ble_eq_true rfl) (Nat.le_of_ble_eq_true rfl) (Nat.le_of_ble_eq_true rfl) hl.1 hz3 hP3 hS3 (Nat.le_of_ble_eq_true rfl) dL_law_12 (fun v hv H4 locs4 hP4 hS4 hz4 => ?_)
  show W p l e room_1 s m #[Value.ref b] below meth c H4 locs4 384 15271 (lw_Z below #[Value.ref b] s) (F0 m 15 ls [.ref (base + 374)])
  refine lv_astore_n (lv' := [(2, .ref (base + 374)), (1, .ref base), (0, .ref b)]) hx hb dL_law_15 rfl hl (by decide) rfl (fun ls hl => ?_)
  refine lv_iconst (v := nI 0) hx hb dL_law_16 (by decide) ?_
  refine lv_istore_n (lv' := [(3, .int (nI 0)), (2, .ref (base + 374)), (1, .ref base), (0, .ref b)]) hx hb dL_law_17 rfl hl (by decide) rfl (fun ls hl => ?_)
  refine va_forget (fun q hq => by rw [hbase]; exact hS4.2.2 q hq) ?_
  have hHE := bo_HE hP4
  have hW' : WFK (sub K base (tAll ++ tModel)) := WFK.sub hb0 wft_both
  have hcl := (cl_ClI hu).fr (I' := fun q => if q < base + 374 then u q else v q) (fun q _ q2 => if_pos q2)
  have hmd := (mo_MdI hv).frc (I' := fun q => if q < base + 374 then u q else v q) (fun q q1 _ => if_neg (by omega))
  have G : GL l room_1 (sub K base (tAll ++ tModel)) m RL cL_law 4 s.heap b L xs (fun H locs g => W p l e room_1 s m #[Value.ref b] below meth c H locs 384 15271 (lw_Z below #[Value.ref b] s) g) :=
    ⟨p, e, s, #[Value.ref b], below, meth, c, 384, 15271, lw_Z below #[Value.ref b] s, rfl, hx, hb, hml, hown, hts, ⟨KK.sub hK.1 (by omega), OH.sub hO hkL⟩, rfl, ⟨Nat.le_of_ble_eq_true rfl, Nat.le_of_ble_eq_true rfl⟩, hX, hbl, fun c => by have := sub_AA.mp c; omega⟩
  refine law_loop (a := base) (o := base + 374) G hW' (congrArg Prod.fst ((sub_G 0).trans rfl)) (congrArg Prod.fst ((sub_G 374).trans (by decide +kernel : (tAll ++ tModel).getD 374 (0, 0) = (12, 0)))) hL (fun Lo mem H locs ls hP hS hl => ?_) (L + 6) 0 (by omega) (by omega) (fun q => if q < base + 374 then u q else v q) (fun _ _ => 0) (clB base) (LI.of (Nat.le_refl _) hcl hmd) H4 [] ls ?_ ⟨hS4.1, fun q q1 _ => hS4.2.1 q q1 (by show ¬ base ≤ q; omega), fun l h => absurd h List.not_mem_nil⟩ (lv_sub hl [3, 2, 1, 0] rfl)
  · refine lv_iconst (v := 1) hx hb dL_law_961 (by decide) ?_
    refine va_forget (fun q hq => by have := sub_AA.mp (hS.2.2 q hq); omega) ?_
    refine W.widen (k := 600000) (n := 7302250) (Nat.le_of_ble_eq_true rfl) (Nat.le_of_ble_eq_true rfl) ?_
    exact lw_ret hx hb hr hlocks dL_law_962
  · have := hHE.P
    show va_P (kD K) vwCl (va_pl (List.range' base (tAll ++ tModel).length) _) H4
    rw [len_both]; exact this
