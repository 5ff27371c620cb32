/-! loops of predicates, kinds behind fields, names for values, and what the laying program uses besides -/
def lpN0 (b : Prop → Prop) : Nat → Prop
  | 0 => False
  | n + 1 => b (lpN0 b n)
def lpN1 {A : Type} (b : (A → Prop) → A → Prop) : Nat → A → Prop
  | 0, _ => False
  | n + 1, x => b (lpN1 b n) x
def lpN2 {A B : Type} (b : (A → B → Prop) → A → B → Prop) : Nat → A → B → Prop
  | 0, _, _ => False
  | n + 1, x, y => b (lpN2 b n) x y
def lpN3 {A B C : Type} (b : (A → B → C → Prop) → A → B → C → Prop) : Nat → A → B → C → Prop
  | 0, _, _, _ => False
  | n + 1, x, y, z => b (lpN3 b n) x y z
def lpN4 {A B C D : Type} (b : (A → B → C → D → Prop) → A → B → C → D → Prop) : Nat → A → B → C → D → Prop
  | 0, _, _, _, _ => False
  | n + 1, x, y, z, u => b (lpN4 b n) x y z u
def lpN5 {A B C D E : Type} (b : (A → B → C → D → E → Prop) → A → B → C → D → E → Prop) : Nat → A → B → C → D → E → Prop
  | 0, _, _, _, _, _ => False
  | n + 1, x, y, z, u, v => b (lpN5 b n) x y z u v
def Lp1 {A : Type} (b : (A → Prop) → A → Prop) (x : A) : Prop := ∃ n, lpN1 b n x
def Lp2 {A B : Type} (b : (A → B → Prop) → A → B → Prop) (x : A) (y : B) : Prop := ∃ n, lpN2 b n x y
def Lp3 {A B C : Type} (b : (A → B → C → Prop) → A → B → C → Prop) (x : A) (y : B) (z : C) : Prop := ∃ n, lpN3 b n x y z
def Lp4 {A B C D : Type} (b : (A → B → C → D → Prop) → A → B → C → D → Prop) (x : A) (y : B) (z : C) (u : D) : Prop := ∃ n, lpN4 b n x y z u
def Lp5 {A B C D E : Type} (b : (A → B → C → D → E → Prop) → A → B → C → D → E → Prop) (x : A) (y : B) (z : C) (u : D) (v : E) : Prop := ∃ n, lpN5 b n x y z u v
theorem lpN1_ind {A : Type} {b : (A → Prop) → A → Prop} {P : A → Prop} (h : ∀ k : A → Prop, (∀ x, k x → P x) → ∀ x, b k x → P x) : ∀ n x, lpN1 b n x → P x
  | 0, _, h0 => h0.elim
  | n + 1, x, hx => h (lpN1 b n) (lpN1_ind h n) x hx
theorem lpN2_ind {A B : Type} {b : (A → B → Prop) → A → B → Prop} {P : A → B → Prop} (h : ∀ k : A → B → Prop, (∀ x y, k x y → P x y) → ∀ x y, b k x y → P x y) : ∀ n x y, lpN2 b n x y → P x y
  | 0, _, _, h0 => h0.elim
  | n + 1, x, y, hx => h (lpN2 b n) (lpN2_ind h n) x y hx
theorem lpN3_ind {A B C : Type} {b : (A → B → C → Prop) → A → B → C → Prop} {P : A → B → C → Prop} (h : ∀ k : A → B → C → Prop, (∀ x y z, k x y z → P x y z) → ∀ x y z, b k x y z → P x y z) : ∀ n x y z, lpN3 b n x y z → P x y z
  | 0, _, _, _, h0 => h0.elim
  | n + 1, x, y, z, hx => h (lpN3 b n) (lpN3_ind h n) x y z hx
theorem lpN4_ind {A B C D : Type} {b : (A → B → C → D → Prop) → A → B → C → D → Prop} {P : A → B → C → D → Prop} (h : ∀ k : A → B → C → D → Prop, (∀ x y z u, k x y z u → P x y z u) → ∀ x y z u, b k x y z u → P x y z u) : ∀ n x y z u, lpN4 b n x y z u → P x y z u
  | 0, _, _, _, _, h0 => h0.elim
  | n + 1, x, y, z, u, hx => h (lpN4 b n) (lpN4_ind h n) x y z u hx
theorem lpN5_ind {A B C D E : Type} {b : (A → B → C → D → E → Prop) → A → B → C → D → E → Prop} {P : A → B → C → D → E → Prop} (h : ∀ k : A → B → C → D → E → Prop, (∀ x y z u v, k x y z u v → P x y z u v) → ∀ x y z u v, b k x y z u v → P x y z u v) : ∀ n x y z u v, lpN5 b n x y z u v → P x y z u v
  | 0, _, _, _, _, _, h0 => h0.elim
  | n + 1, x, y, z, u, v, hx => h (lpN5 b n) (lpN5_ind h n) x y z u v hx
/-- a loop by what holds at its head and a measure that falls -/
theorem Lp1.of {A : Type} {b : (A → Prop) → A → Prop} (P : A → Prop) (μ : A → Nat) (h : ∀ (k : A → Prop) x, P x → (∀ x', P x' → μ x' < μ x → k x') → b k x) (x : A) (hx : P x) : Lp1 b x := by
  have H : ∀ n x, P x → μ x < n → lpN1 b n x := by
    intro n
    induction n with
    | zero => intro x _ h; omega
    | succ n ih => intro x hx hm; exact h _ x hx (fun x' hx' hl => ih x' hx' (by omega))
  exact ⟨μ x + 1, H _ x hx (Nat.lt_succ_self _)⟩
theorem Lp2.of {A B : Type} {b : (A → B → Prop) → A → B → Prop} (P : A → B → Prop) (μ : A → B → Nat) (h : ∀ (k : A → B → Prop) x y, P x y → (∀ x' y', P x' y' → μ x' y' < μ x y → k x' y') → b k x y) (x : A) (y : B) (hx : P x y) : Lp2 b x y := by
  have H : ∀ n x y, P x y → μ x y < n → lpN2 b n x y := by
    intro n
    induction n with
    | zero => intro x y _ h; omega
    | succ n ih => intro x y hx hm; exact h _ x y hx (fun x' y' hx' hl => ih x' y' hx' (by omega))
  exact ⟨μ x y + 1, H _ x y hx (Nat.lt_succ_self _)⟩
theorem Lp3.of {A B C : Type} {b : (A → B → C → Prop) → A → B → C → Prop} (P : A → B → C → Prop) (μ : A → B → C → Nat) (h : ∀ (k : A → B → C → Prop) x y z, P x y z → (∀ x' y' z', P x' y' z' → μ x' y' z' < μ x y z → k x' y' z') → b k x y z) (x : A) (y : B) (z : C) (hx : P x y z) : Lp3 b x y z := by
  have H : ∀ n x y z, P x y z → μ x y z < n → lpN3 b n x y z := by
    intro n
    induction n with
    | zero => intro x y z _ h; omega
    | succ n ih => intro x y z hx hm; exact h _ x y z hx (fun x' y' z' hx' hl => ih x' y' z' hx' (by omega))
  exact ⟨μ x y z + 1, H _ x y z hx (Nat.lt_succ_self _)⟩
theorem Lp4.of {A B C D : Type} {b : (A → B → C → D → Prop) → A → B → C → D → Prop} (P : A → B → C → D → Prop) (μ : A → B → C → D → Nat) (h : ∀ (k : A → B → C → D → Prop) x y z u, P x y z u → (∀ x' y' z' u', P x' y' z' u' → μ x' y' z' u' < μ x y z u → k x' y' z' u') → b k x y z u) (x : A) (y : B) (z : C) (u : D) (hx : P x y z u) : Lp4 b x y z u := by
  have H : ∀ n x y z u, P x y z u → μ x y z u < n → lpN4 b n x y z u := by
    intro n
    induction n with
    | zero => intro x y z u _ h; omega
    | succ n ih => intro x y z u hx hm; exact h _ x y z u hx (fun x' y' z' u' hx' hl => ih x' y' z' u' hx' (by omega))
  exact ⟨μ x y z u + 1, H _ x y z u hx (Nat.lt_succ_self _)⟩
theorem Lp5.of {A B C D E : Type} {b : (A → B → C → D → E → Prop) → A → B → C → D → E → Prop} (P : A → B → C → D → E → Prop) (μ : A → B → C → D → E → Nat) (h : ∀ (k : A → B → C → D → E → Prop) x y z u v, P x y z u v → (∀ x' y' z' u' v', P x' y' z' u' v' → μ x' y' z' u' v' < μ x y z u v → k x' y' z' u' v') → b k x y z u v) (x : A) (y : B) (z : C) (u : D) (v : E) (hx : P x y z u v) : Lp5 b x y z u v := by
  have H : ∀ n x y z u v, P x y z u v → μ x y z u v < n → lpN5 b n x y z u v := by
    intro n
    induction n with
    | zero => intro x y z u v _ h; omega
    | succ n ih => intro x y z u v hx hm; exact h _ x y z u v hx (fun x' y' z' u' v' hx' hl => ih x' y' z' u' v' hx' (by omega))
  exact ⟨μ x y z u v + 1, H _ x y z u v hx (Nat.lt_succ_self _)⟩
def bln (x : Int32) : Prop := x = 0 ∨ x = 1
def chr (x : Int32) : Prop := narrow .char (.int x) = .int x ∧ fits .char (.int x) = true
theorem bln_n {x : Int32} (h : bln x) : narrow .boolean (.int x) = .int x := by rcases h with rfl | rfl <;> rfl
theorem bln_f {x : Int32} (h : bln x) : fits .boolean (.int x) = true := by rcases h with rfl | rfl <;> rfl
theorem chr_n {x : Int32} (h : chr x) : narrow .char (.int x) = .int x := h.1
theorem chr_f {x : Int32} (h : chr x) : fits .char (.int x) = true := h.2
theorem vpc {i : Int32} {n : Nat} (h : decide (0 ≤ i.toInt ∧ i.toInt < (n : Int)) = true) : vp_in i n := vp_in_iff.mpr (of_decide_eq_true h)
theorem ad1 {a c s j b : Nat} {i : Int32} (h1 : ix i = j) (h2 : a + c + s * j = b) : a + c + s * ix i = b := by rw [h1]; exact h2
theorem ad2 {x b : Nat} (h : x = b) : x = b := h
theorem ad3 {a c j b : Nat} (h : a + c + j = b) : a + c + 1 * j = b := by rw [Nat.one_mul]; exact h
theorem sw_ne {x : Int32} {v : Int32} {n : Int} (hv : v.toInt = n) (h : ¬ x = v) : x.toInt ≠ n := fun e => h (Int32.toInt_inj.mp (e.trans hv.symm))
def uf (I : MI) (a n : Nat) (v : Int32) : MI := fun b => if b = a then (fun j => if j < n then v else I b j) else I b
def uc (I : MI) (s d n : Nat) : MI := fun b => if b = d then va_cpy (I s) (I d) 0 0 n else I b
theorem uf_at (I : MI) (a n : Nat) (v : Int32) : uf I a n v a = fun j => if j < n then v else I a j := by simp [uf]
theorem uf_ne (I : MI) {a b : Nat} (n : Nat) (v : Int32) (h : b ≠ a) : uf I a n v b = I b := by simp [uf, h]
theorem uc_at (I : MI) (s d n : Nat) : uc I s d n d = va_cpy (I s) (I d) 0 0 n := by simp [uc]
theorem uc_ne (I : MI) {s d b : Nat} (n : Nat) (h : b ≠ d) : uc I s d n b = I b := by simp [uc, h]
section
variable {K : Kx} {l : Launch} {R : Room} {m : MethodId} {own : String} {cc : ByteArray} {nL : Nat} {H0 : Heap} {ret : Option FieldType} {Qc : Array Value → State → Outcome → State → Prop} {w : HW} {pc : Nat} {L : List (Nat × Value)} {S : List Value} {mem : Mm} {I : MI} {J : MJ} {B : MR} {a n : Nat}
theorem j_nm {x : Int32} (k : ∀ y : Int32, y = x → Jg K m nL H0 w pc L (.int y :: S) mem) : Jg K m nL H0 w pc L (.int x :: S) mem := k x rfl
theorem j_nml {x : Int64} (k : ∀ y : Int64, y = x → Jg K m nL H0 w pc L (.long y :: S) mem) : Jg K m nL H0 w pc L (.long x :: S) mem := k x rfl
theorem j_mI (k : ∀ X : MI, X = I → Jg K m nL H0 w pc L S (X, J, B)) : Jg K m nL H0 w pc L S (I, J, B) := k I rfl
theorem j_mJ (k : ∀ X : MJ, X = J → Jg K m nL H0 w pc L S (I, X, B)) : Jg K m nL H0 w pc L S (I, J, B) := k J rfl
theorem j_mB (k : ∀ X : MR, X = B → Jg K m nL H0 w pc L S (I, J, X)) : Jg K m nL H0 w pc L S (I, J, B) := k B rfl
theorem ix_lt {i : Int32} (h : vp_in i n) : ix i < n := Nat.not_le.mp fun q => h (Or.inr q)
theorem wk_a24 {b : Nat} {i : Int32} (hW : WFK K) (ha : kG K a = (24, n)) (hi : vp_in i n) (e : a + 8 + 1 * ix i = b) : (kG K b).1 = 2 := by rw [← e]; exact hW.2.1 a 24 n ha (by decide) _ (ix_lt hi)
theorem wk_a25 {b : Nat} {i : Int32} (hW : WFK K) (ha : kG K a = (25, n)) (hi : vp_in i n) (e : a + 2 + 3 * ix i = b) : (kG K b).1 = 5 := by rw [← e]; exact hW.2.1 a 25 n ha (by decide) _ (ix_lt hi)
theorem wk_a26 {b : Nat} {i : Int32} (hW : WFK K) (ha : kG K a = (26, n)) (hi : vp_in i n) (e : a + 19 + 3 * ix i = b) : (kG K b).1 = 7 := by rw [← e]; exact hW.2.1 a 26 n ha (by decide) _ (ix_lt hi)
theorem wk_a27 {b : Nat} {i : Int32} (hW : WFK K) (ha : kG K a = (27, n)) (hi : vp_in i n) (e : a + 113 + 65 * ix i = b) : (kG K b).1 = 10 := by rw [← e]; exact hW.2.1 a 27 n ha (by decide) _ (ix_lt hi)
theorem j_aald24 (G : Gd l R K m own cc nL H0 ret Qc w) (hW : WFK K) {i : Int32} {b : Nat} (ha : kG K a = (24, n)) (hin : vp_in i n) (e : a + 8 + 1 * ix i = b) (hd : decode cc pc = .ok (.aaload, 1)) (k : Jg K m nL H0 w (pc + 1) L (.ref b :: S) (I, J, B)) : Jg K m nL H0 w pc L (.int i :: .ref a :: S) (I, J, B) := by subst e; exact j_aald G hW ha (by decide) rfl hin hd k
theorem j_aald25 (G : Gd l R K m own cc nL H0 ret Qc w) (hW : WFK K) {i : Int32} {b : Nat} (ha : kG K a = (25, n)) (hin : vp_in i n) (e : a + 2 + 3 * ix i = b) (hd : decode cc pc = .ok (.aaload, 1)) (k : Jg K m nL H0 w (pc + 1) L (.ref b :: S) (I, J, B)) : Jg K m nL H0 w pc L (.int i :: .ref a :: S) (I, J, B) := by subst e; exact j_aald G hW ha (by decide) rfl hin hd k
theorem j_aald26 (G : Gd l R K m own cc nL H0 ret Qc w) (hW : WFK K) {i : Int32} {b : Nat} (ha : kG K a = (26, n)) (hin : vp_in i n) (e : a + 19 + 3 * ix i = b) (hd : decode cc pc = .ok (.aaload, 1)) (k : Jg K m nL H0 w (pc + 1) L (.ref b :: S) (I, J, B)) : Jg K m nL H0 w pc L (.int i :: .ref a :: S) (I, J, B) := by subst e; exact j_aald G hW ha (by decide) rfl hin hd k
theorem j_aald27 (G : Gd l R K m own cc nL H0 ret Qc w) (hW : WFK K) {i : Int32} {b : Nat} (ha : kG K a = (27, n)) (hin : vp_in i n) (e : a + 113 + 65 * ix i = b) (hd : decode cc pc = .ok (.aaload, 1)) (k : Jg K m nL H0 w (pc + 1) L (.ref b :: S) (I, J, B)) : Jg K m nL H0 w pc L (.int i :: .ref a :: S) (I, J, B) := by subst e; exact j_aald G hW ha (by decide) rfl hin hd k
theorem j_mmax (G : Gd l R K m own cc nL H0 ret Qc w) {index : Nat} {x y : Int32} (h1 : Cond.methodLink own index yJ9_max_7cf53 ∈ gw) (h2 : Cond.static yJ9_max_7cf53 ∈ gw) (h3 : Cond.initialized RJ9 ∈ gw) (h4 : Cond.code yJ9_max_7cf53 cJ9_max_7cf53 2 (some .int) ∈ gw) (hf : 1 ≤ R.frames) (hlo : 21 ≤ R.locals) (hS : (S.map fun v => v.category).sum ≤ 8) (hd : decode cc pc = .ok (.invokestatic index, 3)) (k : Jg K m nL H0 w (pc + 3) L (.int (if x < y then y else x) :: S) mem) : Jg K m nL H0 w pc L (.int y :: .int x :: S) mem := by
  obtain ⟨p, e, s, args, below, meth, c, rfl, hx, hb, hml, hown, hts, hK, rfl, hr, hlk⟩ := G
  intro H locs ls hP hS2 hl
  exact va_mmax hx hb (hml.trans hl.1.symm) hown (hts _ h1) (hts _ h2) (hts _ h3) (hts _ h4) hf (by omega) (Nat.zero_le _) (Nat.zero_le _) hd (k H locs ls hP hS2 hl)
theorem j_mmin (G : Gd l R K m own cc nL H0 ret Qc w) {index : Nat} {x y : Int32} (h1 : Cond.methodLink own index yJ9_min_7cf53 ∈ gw) (h2 : Cond.static yJ9_min_7cf53 ∈ gw) (h3 : Cond.initialized RJ9 ∈ gw) (h4 : Cond.code yJ9_min_7cf53 cJ9_min_7cf53 2 (some .int) ∈ gw) (hf : 1 ≤ R.frames) (hlo : 21 ≤ R.locals) (hS : (S.map fun v => v.category).sum ≤ 8) (hd : decode cc pc = .ok (.invokestatic index, 3)) (k : Jg K m nL H0 w (pc + 3) L (.int (if y < x then y else x) :: S) mem) : Jg K m nL H0 w pc L (.int y :: .int x :: S) mem := by
  obtain ⟨p, e, s, args, below, meth, c, rfl, hx, hb, hml, hown, hts, hK, rfl, hr, hlk⟩ := G
  intro H locs ls hP hS2 hl
  exact va_mmin hx hb (hml.trans hl.1.symm) hown (hts _ h1) (hts _ h2) (hts _ h3) (hts _ h4) hf (by omega) (Nat.zero_le _) (Nat.zero_le _) hd (k H locs ls hP hS2 hl)
end
