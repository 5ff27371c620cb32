/-! the class's line: what is written on it; words and numbers for both -/
def Cl (b : Nat) (I0 I : MI) (t : List Nat) : Prop := SbT b I t ∧ SbF b I0 I
section
variable {b : Nat} {I0 I : MI} {t : List Nat} {Q : MI → Prop}
theorem SbF.tr {b : Nat} {I I' I'' : MI} (h : SbF b I I') (h' : SbF b I' I'') : SbF b I I'' := fun x h1 h2 => (h' x h1 h2).trans (h x h1 h2)
theorem e_str {j : Nat} (h : Cl b I0 I t) (hl : t.length + sL j ≤ 16) (hQ : ∀ I', Cl b I0 I' (t ++ sT j) → Q I') : w_J4_append_15ec4 b j I Q :=
  ⟨t, h.1, hl, fun I' h1 h2 => hQ I' ⟨h1, h.2.tr h2⟩⟩
theorem e_chr {c : Nat} {x : Int32} (h : Cl b I0 I t) (hx : x = nI c) (hc : c < 128) (hl : t.length + 1 ≤ 16) (hQ : ∀ I', Cl b I0 I' (t ++ [c]) → Q I') : w_J4_append_cf468 b x I Q :=
  ⟨t, c, h.1, hx, hc, hl, fun I' h1 h2 => hQ I' ⟨h1, h.2.tr h2⟩⟩
theorem ltr8 : ∀ r, r < 8 → (Int32.toUInt32 ((97 : Int32) + nI r) % 65536).toInt32 = nI (97 + r) ∧ chr (nI (97 + r)) := by
  intro r hr
  have e : ∀ r, r < 8 → (Int32.toUInt32 ((97 : Int32) + nI r) % 65536).toInt32 = nI (97 + r) := by decide
  refine ⟨e r hr, ?_⟩
  rcases (show r = 0 ∨ r = 1 ∨ r = 2 ∨ r = 3 ∨ r = 4 ∨ r = 5 ∨ r = 6 ∨ r = 7 by omega) with rfl | rfl | rfl | rfl | rfl | rfl | rfl | rfl <;> (unfold chr; decide)
theorem e_let {r : Nat} {x : Int32} {S : Int32 → Prop} (hx : x = nI r) (hr : r < 8) (hQ : S (nI (97 + r))) : w_X2_letterOf x S := by
  obtain ⟨e1, e2⟩ := ltr8 r hr
  unfold w_X2_letterOf
  rw [hx, e1]
  exact ⟨e2, hQ⟩
theorem e_reg {r : Nat} {x : Int32} (h : Cl b I0 I t) (hx : x = nI r) (hr : r < 8) (hl : t.length + 2 ≤ 16) (hQ : ∀ I', Cl b I0 I' (t ++ [32, 97 + r]) → Q I') : w_X2_writeRegister b x I Q := by
  unfold w_X2_writeRegister
  refine e_chr (c := 32) h rfl (by omega) (by omega) (fun I1 h1 => ?_)
  refine e_let hx hr (e_chr (c := 97 + r) h1 rfl (by omega) (by rw [List.length_append]; simp; omega) (fun I2 h2 => hQ I2 ?_))
  rw [List.append_assoc] at h2
  exact h2
theorem e_num {n : Nat} {x : Int32} (h : Cl b I0 I t) (hx : x = nI n) (hn : n < 1000) (hl : t.length + 1 + (decs n).length ≤ 16) (hQ : ∀ I', Cl b I0 I' (t ++ (32 :: decs n)) → Q I') : w_X2_writeNumber b x I Q := by
  unfold w_X2_writeNumber
  refine e_chr (c := 32) h rfl (by omega) (by omega) (fun I1 h1 => ?_)
  refine ⟨t ++ [32], n, h1.1, hx, hn, by rw [List.length_append]; simp; omega, fun I2 g1 g2 => hQ I2 ⟨?_, h1.2.tr g2⟩⟩
  rw [List.append_assoc] at g1
  exact g1
end
theorem decs_l (n : Nat) : (decs n).length ≤ 3 := by unfold decs; split <;> (try split) <;> simp
theorem decs_2 {n : Nat} (h : n < 100) : (decs n).length ≤ 2 := by unfold decs; split <;> (try rw [if_pos h]) <;> simp
/-- the words of the model, and the class's -/
def wdk (y : Int64) (j : Nat) : Prop := wOK y ∧ wbs y 8 = sT j
theorem wdk_all : wdk 7562612 (wdj 0) ∧ wdk 6382692 (wdj 1) ∧ wdk 7566690 (wdj 2) ∧ wdk 7173484 (wdj 3) ∧ wdk 1786080624 (wdj 6) ∧ wdk 6647396 (wdj 8) ∧ wdk 1936027236 (wdj 9) ∧ wdk 439788790632 (wdj 10) ∧ wdk 452908512613 (wdj 11) ∧ wdk 6776180 (wdj 12) ∧ wdk 7370100 (wdj 13) ∧ wdk 482854658917 (wdj 14) ∧ wdk 1734964837 (wdj 15) ∧ wdk 1952803948 (wdj 16) ∧ wdk 1751475556 (wdj 17) ∧ wdk 6386539 (wdj 18) ∧ wdk 457236047717 (wdj 19) := by
  unfold wdk wOK
  decide +kernel
/-- the class writes a text, the model lays it -/
def TxC (m b s i k : Nat) (I : MI) (T : List Nat) : Prop := ∀ (I7 : MI) (Q : MI → Prop), Cl b I I7 [] → (∀ I', Cl b I I' T → Q I') → w_X2_write (m + 1) b (nI s) (nI i) (nI k) I7 Q
def TxM (V : Nat → Int32) (i : Nat) (d : Int32) (T : List Nat) : Prop := ∀ (o : Nat) (I0 J : MI) (Q : MI → Prop), Ml o V I0 J [] → (∀ J', Ml o V I0 J' T → Q J') → w_X10_tells o (nI i) d J Q
theorem row_tx {m i : Nat} {I : MI} {V : Nat → Int32} (h : Rel m I V) (hi : i ≤ ix (V 48)) (ho : ¬ vOp V i = 8) : RowR (m + 1) i I V ∧ vOp V i = V (50 + 5 * i) ∧ i < 24 := by
  obtain ⟨hsz, -⟩ := size_lt h.1
  rcases vOp_row h.1 hi with ⟨-, e⟩ | ⟨hl, e⟩
  · exact absurd e ho
  · exact ⟨h.1.2.2.2.1 i hl, e, by omega⟩
