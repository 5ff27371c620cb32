/-! a part of the world as a world of its own: an object with all that lies behind it -/
def sub (K : Kx) (b : Nat) (tbl : List (Nat × Nat)) : Kx := (kD K, kC K, List.range' b tbl.length, (fun a => if b ≤ a then tbl.getD (a - b) (0, 0) else (0, 0)), kH K, kA K, kV K, kO K, kT K)
def wft (tbl : List (Nat × Nat)) : Prop :=
  (∀ i, i < tbl.length → ∀ e ∈ wfO, (tbl.getD i (0, 0)).1 = e.1 → tbl.getD (i + e.2.1) (0, 0) = (e.2.2.1, e.2.2.2)) ∧
  (∀ i, i < tbl.length → 24 ≤ (tbl.getD i (0, 0)).1 → ∀ j, j < (tbl.getD i (0, 0)).2 → (tbl.getD (i + (rof (tbl.getD i (0, 0)).1).1 + (rof (tbl.getD i (0, 0)).1).2 * j) (0, 0)).1 = rok (tbl.getD i (0, 0)).1) ∧
  (∀ i, i < tbl.length → (tbl.getD i (0, 0)).1 < 28) ∧ ∀ i, i < tbl.length → (tbl.getD i (0, 0)).1 = 9 → 101 ≤ i ∧ tbl.getD (i - 101) (0, 0) = (21, 600)
section
variable {K : Kx} {b : Nat} {tbl : List (Nat × Nat)}
theorem sub_G (i : Nat) : kG (sub K b tbl) (b + i) = tbl.getD i (0, 0) := by
  show (if b ≤ b + i then tbl.getD (b + i - b) (0, 0) else (0, 0)) = _
  rw [if_pos (by omega), Nat.add_sub_cancel_left]
theorem sub_k {a : Nat} (h : (kG (sub K b tbl) a).1 ≠ 0) : ∃ i, i < tbl.length ∧ a = b + i := by
  by_cases hb : b ≤ a
  · refine ⟨a - b, ?_, by omega⟩
    apply Nat.lt_of_not_le
    intro hl
    apply h
    show (if b ≤ a then tbl.getD (a - b) (0, 0) else (0, 0)).1 = 0
    rw [if_pos hb, List.getD_eq_getElem?_getD, List.getElem?_eq_none hl]
    rfl
  · exfalso
    apply h
    show (if b ≤ a then tbl.getD (a - b) (0, 0) else (0, 0)).1 = 0
    rw [if_neg hb]
theorem sub_AA {q : Nat} : AA (sub K b tbl) q ↔ b ≤ q ∧ q < b + tbl.length := by
  show q ∈ List.range' b tbl.length ↔ _
  rw [List.mem_range'_1]
theorem WFK.sub (hb : 0 < b) (h : wft tbl) : WFK (_root_.Jvm.Pilot.CTwoProcessorsLaw_law_r9363_108251.sub K b tbl) := by
  obtain ⟨h1, h2, h3, h4⟩ := h
  refine ⟨fun e he a ha => ?_, fun a k n ha hk j hj => ?_, fun a ha => ?_, ?_, fun a => ?_, fun a ha t ht => ?_, ?_⟩
  · have hne : ∀ e ∈ wfO, e.1 ≠ 0 := by decide
    obtain ⟨i, hi, rfl⟩ := sub_k (by rw [ha]; exact hne e he)
    rw [sub_G] at ha
    rw [Nat.add_assoc, sub_G]
    exact h1 i hi e he ha
  · obtain ⟨i, hi, rfl⟩ := sub_k (by rw [ha]; show k ≠ 0; omega)
    rw [sub_G] at ha
    have := h2 i hi (by rw [ha]; exact hk) j (by rw [ha]; exact hj)
    rw [ha] at this
    rw [Nat.add_assoc, Nat.add_assoc, sub_G, ← Nat.add_assoc]
    exact this
  · obtain ⟨i, hi, rfl⟩ := sub_k ha
    exact sub_AA.mpr ⟨by omega, by omega⟩
  · have := (HE.D (base := b) (N := tbl.length) (E := fun _ => .inr (0, []))).1
    exact ⟨this, fun _ _ _ => trivial⟩
  · by_cases h0 : (kG (_root_.Jvm.Pilot.CTwoProcessorsLaw_law_r9363_108251.sub K b tbl) a).1 = 0
    · rw [h0]; omega
    · obtain ⟨i, hi, rfl⟩ := sub_k h0
      rw [sub_G]; exact h3 i hi
  · obtain ⟨i, hi, rfl⟩ := sub_k (by rw [ha]; omega)
    rw [sub_G] at ha
    obtain ⟨g1, g2⟩ := h4 i hi ha
    rw [show t = b + (i - 101) by omega, sub_G]
    exact g2
  · show (if b ≤ 0 then tbl.getD (0 - b) (0, 0) else (0, 0)).1 = 0
    rw [if_neg (by omega)]
theorem va_Z.na {C n d : String} {v : Value} {A A' : Nat → Prop} {U : State} {H : Heap} (h : va_Z C n d v A U H) (hA : ∀ q, q < H.size → ¬ A' q) : va_Z C n d v A' U H := by
  obtain ⟨cf, kf, fi, f, a, cell, h1, h2, h3, h4, h5, h6, h7, h8⟩ := h
  exact ⟨cf, kf, fi, f, a, cell, h1, h2, h3, h4, h5, h6, h7, hA a (Array.getElem?_eq_some_iff.mp h5).1⟩
theorem va_T.na {ty : FieldType} {t N : Nat} {f : Nat → Value} {A A' : Nat → Prop} {U : State} {H : Heap} (h : va_T ty t N f A U H) (hA : ∀ q, q < H.size → ¬ A' q) : va_T ty t N f A' U H := by
  obtain ⟨cell, h1, h2, h3, h4, h5, h6, h7⟩ := h
  exact ⟨cell, h1, h2, h3, h4, h5, h6, hA t (Array.getElem?_eq_some_iff.mp h1).1⟩
theorem vk_S.na {N : Nat} {len : List Nat} {byt : List (List Int32)} {x y : Nat → Nat} {A A' : Nat → Prop} {U : State} {H : Heap} (h : vk_S N len byt x y A U H) (hA : ∀ q, q < H.size → ¬ A' q) : vk_S N len byt x y A' U H := by
  refine ⟨fun i hi => ?_, h.2⟩
  obtain ⟨⟨c1, a1, a2, a3, a4⟩, ⟨cf, k, j, f, c2, b1, b2, b3, b4, b5, b6⟩, ⟨cf', k', j', f', c3, d1, d2, d3, d4, d5, d6⟩, g⟩ := h.1 i hi
  exact ⟨⟨c1, a1, a2, a3, hA _ (Array.getElem?_eq_some_iff.mp a1).1⟩, ⟨cf, k, j, f, c2, b1, b2, b3, b4, b5, hA _ (Array.getElem?_eq_some_iff.mp b3).1⟩, ⟨cf', k', j', f', c3, d1, d2, d3, d4, d5, hA _ (Array.getElem?_eq_some_iff.mp d3).1⟩, g.na hA⟩
theorem KK.sub {U : State} (h : KK K U) (hb : (kH K).size ≤ b) : KK (_root_.Jvm.Pilot.CTwoProcessorsLaw_law_r9363_108251.sub K b tbl) U := by
  have hA : ∀ q, q < (kH K).size → ¬ AA (_root_.Jvm.Pilot.CTwoProcessorsLaw_law_r9363_108251.sub K b tbl) q := fun q hq c => by have := sub_AA.mp c; omega
  obtain ⟨h1, h2, x1, x2, x3, x4, x5, x6, x7, x8⟩ := h
  exact ⟨h1, h2, x1, x2.na hA, x3.na hA, x4.na hA, x5.na hA, x6.na hA, x7.na hA, x8.elim (fun h => Or.inl (h.na hA)) (fun ⟨t, h⟩ => Or.inr ⟨t, h.na hA⟩)⟩
theorem OH.sub {H : Heap} (h : OH K H) (hL : kL K = []) : OH (_root_.Jvm.Pilot.CTwoProcessorsLaw_law_r9363_108251.sub K b tbl) H := ⟨h.1, fun q hq _ => h.2 q hq (by show q ∉ kL K; rw [hL]; exact List.not_mem_nil)⟩
/-- what an object and all behind it hold lies over the rest -/
def ov (K' : Kx) (mem : Mm) (E : Nat → va_E) : Nat → va_E := fun q => if q ∈ kL K' then celE K' mem q else E q
end
section
variable {K : Kx} {l : Launch} {R : Room} {base n0 : Nat} {m : MethodId} {own : String} {cc : ByteArray} {nL : Nat} {H0 : Heap} {ret : Option FieldType} {Qc : Array Value → State → Outcome → State → Prop} {mc ms : Nat} {w : HN} {ce sl : Nat} {E : Nat → va_E} {pc : Nat} {L : List (Nat × Value)} {S : List Value}
/-- a method of a finished part of the world is called -/
theorem n_con (G : GN l R K base n0 m own cc nL H0 ret Qc mc ms w) (hkH : (kH K).size = base) (hkL : kL K = []) (b : Nat) (tbl : List (Nat × Nat)) (mem : Mm) (hb1 : base ≤ b) (hb2 : b + tbl.length ≤ base + (n0 + ce)) (hE : ∀ i, i < tbl.length → E (b + i) = celE (sub K b tbl) mem (b + i))
    {ob ci index maxL n N : Nat} {As rest S0 : List Value} {y : MethodName} {bytes : ByteArray} {rm : Room} {C : String} {T : u_T} {fs : List Value} {S' : Type} {post : S' → Prop} {st : S' → Mm} (hM : Con (sub K b tbl) l y (wsT y bytes maxL none) rm (.ref ob :: As) mem (va_Qv (S := S') post (fun u t => HP (sub K b tbl) (st u) t.heap) (AA (sub K b tbl)))) (ho1 : base ≤ ob) (ho2 : ob < base + (n0 + ce)) (heo : E ob = .inr (ci, fs)) (hc : vwCl[ci]? = some (C, T, N))
    (h1 : Cond.methodLink own index y ∈ gw) (h2 : Cond.instanceMethod y ∈ gw) (h3 : Cond.selects C y y ∈ gw) (h4 : Cond.initialized C ∈ gw) (h5 : Cond.code y bytes maxL none ∈ gw) (hyC : y.cls = C) (hds : dsc y n) (hrc : rm.cells = 0) (hrs : rm.slots = 0) (hfr : rm.frames + 1 ≤ R.frames) (hlo : 8 + (maxL + 11) + rm.locals ≤ R.locals)
    (hn : As.length = n) (hS0 : S0 = As.reverse ++ .ref ob :: rest) (hrm : (rest.map fun v => v.category).sum ≤ 8) (hce : ce ≤ R.cells) (hsl : sl ≤ R.slots) (hd : decode cc pc = .ok (.invokevirtual index, 3)) (kk : ∀ u, post u → JN K base n0 m nL H0 w ce sl (ov (sub K b tbl) (st u) E) (pc + 3) L rest) : JN K base n0 m nL H0 w ce sl E pc L S0 := by
  obtain ⟨p, e, s, args, below, meth, c, rfl, hx, hb, hml, hown, hts, hK, rfl, hr, hlk, hnm, hsz⟩ := G
  intro H locs ls hP hS hl
  have hHP : HP (sub K b tbl) mem H := by
    have : HE K b tbl.length (celE (sub K b tbl) mem) H := fun q q1 q2 => by
      have := hP q (by omega) (by omega)
      rw [show q = b + (q - b) by omega, hE (q - b) (by omega)] at this
      rw [show q = b + (q - b) by omega]
      exact this
    exact this.P
  refine va_callv (va_runV (As := As) (rest := rest) ⟨hx, hb, hml, hown, hts⟩ hM (cwV n hts (gw_in (pre := [.methodLink own index y, .instanceMethod y, .selects C y y, .initialized C]) (fun w hw => ?_) h5) rfl hrc hrs ⟨hyC, hds⟩ ⟨hfr, hlo⟩) ⟨Con.blind _ _ mem, va_recv (q0 := ob - base) (ci := ci) hK.1.1.1 hP.P hc (by rw [r_idx E ho1 ho2, heo]), fun U hU hWm => ⟨rfl, by rw [hU]; exact hHP, KK.sub (KK.warm hWm hK.1.1) (by omega), by rw [hU]; exact OH.sub (OH.ab hkH hK.2 hS) hkL⟩⟩ rfl hn hl.1 hS0 (lv_room hrm) hd ⟨hce, hsl⟩) hS (fun q _ h => by have := sub_AA.mp h; show base ≤ q; omega) (fun q h => by have := sub_AA.mp h; show base ≤ q; omega) (fun u t H1 locs1 ht _ hp hB _ hfm hS1 => kk u hp H1 locs1 ls (fun q q1 q2 => ?_) hS1 hl)
  · simp only [List.mem_cons, List.not_mem_nil, or_false] at hw
    rcases hw with rfl | rfl | rfl | rfl <;> assumption
  · unfold ov
    by_cases hq : q ∈ kL (sub K b tbl)
    · rw [if_pos hq]
      have h2 : HP (sub K b tbl) (st u) H1 := by rw [← ht]; exact hB
      have := h2.at hq 0 _ rfl
      exact this
    · rw [if_neg hq]
      have h3 := hP q q1 q2
      exact h3.kept (hfm q h3.lt hq)
end
