/-! constructors that tell what they made by a memory; the queues of a new machine -/
section
variable {K : Kx} {l : Launch} {R : Room} {base n0 : Nat} {m : MethodId} {own : String} {cc : ByteArray} {nL : Nat} {H0 : Heap} {ret : Option FieldType} {Qc : Array Value → State → Outcome → State → Prop} {mc ms : Nat} {w : HN} {ce sl : Nat} {E : Nat → va_E} {pc : Nat} {L : List (Nat × Value)} {S : List Value}
/-- a constructor is called; what it made is told by some u -/
theorem n_initS (G : GN l R K base n0 m own cc nL H0 ret Qc mc ms w) (hkH : (kH K).size = base) {b index maxL n mc2 ms2 : Nat} {As rest S0 : List Value} {y : MethodName} {bytes : ByteArray} {rm : Room} {S' : Type} {post : S' → Prop} {E' : S' → Nat → va_E} (hM : ConN K l y (wsT y bytes maxL none) rm (.ref b :: As) base (n0 + ce) E mc2 ms2 (va_Qv (S := S') post (fun u t => HE K base (n0 + ce + mc2) (E' u) t.heap) (AB base)))
    (h1 : Cond.methodLink own index y ∈ gw) (h2 : Cond.instanceMethod y ∈ gw) (h4 : Cond.initialized y.cls ∈ gw) (h5 : Cond.code y bytes maxL none ∈ gw) (hyn : y.name = "<init>") (hds : dsc y n) (hrc : rm.cells = mc2) (hrs : rm.slots = ms2) (hfr : rm.frames + 1 ≤ R.frames) (hlo : 8 + (maxL + 11) + rm.locals ≤ R.locals)
    (hn : As.length = n) (hS0 : S0 = As.reverse ++ .ref b :: rest) (hrm : (rest.map fun v => v.category).sum ≤ 8) (hce : ce + mc2 ≤ R.cells) (hsl : sl + ms2 ≤ R.slots) (hpos : 0 < n0 + ce) (hd : decode cc pc = .ok (.invokespecial index, 3)) (kk : ∀ u, post u → JN K base n0 m nL H0 w (ce + mc2) (sl + ms2) (E' u) (pc + 3) L rest) : JN K base n0 m nL H0 w ce sl E pc L S0 := by
  obtain ⟨p, e, s, args, below, meth, c, rfl, hx, hb, hml, hown, hts, hK, rfl, hr, hlk, hnm, hsz⟩ := G
  intro H locs ls hP hS hl
  refine W_sz (fun hle => ?_)
  have hH : H.size = base + (n0 + ce) := by have := hP.ge hpos; omega
  refine va_callv (va_runI (As := As) (rest := rest) ⟨hx, hb, hml, hown, hts⟩ hM (cwI n hts (gw_in0 h5) rfl hrc hrs (hts _ h4) (hts _ h1) (hts _ h2) hyn hds ⟨hfr, hlo⟩) ⟨ConN.blind K _ base _ E, fun U hU hWm => ⟨rfl, by rw [hU]; exact hP, KN.warm hWm hK.1, by rw [hU]; exact OH.ab hkH hK.2 hS, by rw [hU]; exact hH⟩⟩ rfl hn hl.1 hS0 (lv_room hrm) hd ⟨hce, hsl⟩) hS (fun _ _ h => h) (fun _ h => h) (fun u t H1 locs1 ht _ hp hB _ _ hS1 => kk u hp H1 locs1 ls (by rw [← ht, ← Nat.add_assoc]; exact hB) hS1 hl)
/-- a nest mate's constructor is called; what it made is told by some u -/
theorem n_initSN (G : GN l R K base n0 m own cc nL H0 ret Qc mc ms w) (hkH : (kH K).size = base) {b index maxL n mc2 ms2 : Nat} {As rest S0 : List Value} {y : MethodName} {bytes : ByteArray} {rm : Room} {S' : Type} {post : S' → Prop} {E' : S' → Nat → va_E} (hM : ConN K l y (wsT y bytes maxL none) rm (.ref b :: As) base (n0 + ce) E mc2 ms2 (va_Qv (S := S') post (fun u t => HE K base (n0 + ce + mc2) (E' u) t.heap) (AB base)))
    (h1 : (own, index, y) ∈ nstI) (h2 : Cond.instanceMethod y ∈ gw) (h4 : Cond.initialized y.cls ∈ gw) (h5 : Cond.code y bytes maxL none ∈ gw) (hyn : y.name = "<init>") (hds : dsc y n) (hrc : rm.cells = mc2) (hrs : rm.slots = ms2) (hfr : rm.frames + 1 ≤ R.frames) (hlo : 8 + (maxL + 11) + rm.locals ≤ R.locals)
    (hn : As.length = n) (hS0 : S0 = As.reverse ++ .ref b :: rest) (hrm : (rest.map fun v => v.category).sum ≤ 8) (hce : ce + mc2 ≤ R.cells) (hsl : sl + ms2 ≤ R.slots) (hpos : 0 < n0 + ce) (hd : decode cc pc = .ok (.invokespecial index, 3)) (kk : ∀ u, post u → JN K base n0 m nL H0 w (ce + mc2) (sl + ms2) (E' u) (pc + 3) L rest) : JN K base n0 m nL H0 w ce sl E pc L S0 := by
  obtain ⟨p, e, s, args, below, meth, c, rfl, hx, hb, hml, hown, hts, hK, rfl, hr, hlk, hnm, hsz⟩ := G
  intro H locs ls hP hS hl
  refine W_sz (fun hle => ?_)
  have hH : H.size = base + (n0 + ce) := by have := hP.ge hpos; omega
  refine va_callv (va_runIN (As := As) (rest := rest) ⟨hx, hb, hml, hown, hts⟩ hM ⟨va_cnB n hts (gw_in0 h5) rfl hrc hrs (hK.1.2.2.2.2.2 _ h1) (hts _ h4) hds ⟨hfr, hlo⟩, hyn, hts _ h2⟩ ⟨ConN.blind K _ base _ E, fun U hU hWm => ⟨rfl, by rw [hU]; exact hP, KN.warm hWm hK.1, by rw [hU]; exact OH.ab hkH hK.2 hS, by rw [hU]; exact hH⟩⟩ rfl hn hl.1 hS0 (lv_room hrm) hd ⟨hce, hsl⟩) hS (fun _ _ h => h) (fun _ h => h) (fun u t H1 locs1 ht _ hp hB _ _ hS1 => kk u hp H1 locs1 ls (by rw [← ht, ← Nat.add_assoc]; exact hB) hS1 hl)
theorem n_retS {S' : Type} {post : S' → Prop} {E' : S' → Nat → va_E} (u : S') (G : GN l R K base n0 m own cc nL H0 none (va_Qv (S := S') post (fun u t => HE K base (n0 + mc) (E' u) t.heap) (AB base)) mc ms w) (hp : post u) (hc : ce = mc) (hs : sl = ms) (hE : ∀ q, base ≤ q → q < base + (n0 + ce) → E q = E' u q) (hd : decode cc pc = .ok (.return_, 1)) : JN K base n0 m nL H0 w ce sl E pc L [] := by
  obtain ⟨p, e, s, args, below, meth, c, rfl, hx, hb, hml, hown, hts, hK, rfl, hr, hlk, hnm, hsz⟩ := G
  subst hc; subst hs
  intro H locs ls hP hS hl
  exact W.vret hx hb hr (fun t ht _ => ⟨⟨u, rfl, hp, by show HE K base (n0 + ce) (E' u) t.heap; rw [ht]; exact fun q q1 q2 => by rw [← hE q q1 q2]; exact hP q q1 q2⟩, hS.F ht⟩) (fun q hq => hS.2.2 q hq) hd hlk
end
/-- so many queues of a new machine are made -/
def refsK (b d st i : Nat) : Nat → Option Nat := fun j => if j < i then some (b + d + st * j) else none
theorem refsK_up (b d st i : Nat) : va_up (refsK b d st i) i (some (b + d + st * i)) = refsK b d st (i + 1) := by
  funext j
  unfold va_up refsK
  by_cases h : j = i
  · subst h; simp
  · by_cases h2 : j < i
    · simp [h, h2]; omega
    · simp [h, h2]; omega
def queE (q : Nat) : va_E := .inr (4, [.ref (q + 1), .ref (q + 2), .int 0, .int 0, .int 0])
/-- what the loop over queues keeps: i of them stand, all below b + 37 and b + 38 as before -/
def QuI (K : Kx) (b i : Nat) (E1 E : Nat → va_E) : Prop :=
  E (b + 37) = .inl (kC K 25, 6, .inr (.inr (.inr (.inr (refsK b 39 3 i))))) ∧ (∀ j, j < i → E (b + 39 + 3 * j) = queE (b + 39 + 3 * j) ∧ E (b + 40 + 3 * j) = arI K 6 ∧ E (b + 41 + 3 * j) = arI K 6) ∧ ∀ q, q < b + 39 → q ≠ b + 37 → E q = E1 q
