/-! to the beginning: the model -/
def vZero (V : Nat → Int32) (k : Nat) : Nat → Int32 := fun j => if 170 ≤ j ∧ j < k then 0 else V j
def vLay (V : Nat → Int32) (k : Nat) : Nat → Int32 := fun j => if 172 ≤ j ∧ j < k then V (j - 171) else if 170 ≤ j ∧ j < 516 then 0 else V j
def vStart (V : Nat → Int32) (A : Nat) : Nat → Int32 := upd (upd (vLay V 218) 250 (-1)) 49 (nI A)
section
variable {p o b : Nat} {I J : MI} {V : Nat → Int32}
theorem gRow_fr {V' : Nat → Int32} {A i : Nat} (hV : VFr V V') (hi : i < 24) : gRow V' A i = gRow V A i := by
  unfold gRow
  rw [hV (50 + 5 * i) (by omega), hV (51 + 5 * i) (by omega), hV (52 + 5 * i) (by omega), hV (53 + 5 * i) (by omega)]
theorem IsL.fr {V' : Nat → Int32} {K A : Nat} (hV : VFr V V') (hs' : ix (V 48) < 25) (h : IsL V' K A) : IsL V K A := by
  have e48 : V' 48 = V 48 := hV 48 (by omega)
  have hc : ∀ C, Clo V' C ↔ Clo V C := fun C => by
    unfold Clo
    rw [e48]
    constructor
    · intro q i hi; rw [← gRow_fr hV (by omega)]; exact q i hi
    · intro q i hi; rw [gRow_fr hV (by omega)]; exact q i hi
  exact ⟨h.1, h.2.1, (hc A).mp h.2.2.1, fun C h1 h2 => h.2.2.2 C h1 ((hc C).mpr h2)⟩
theorem vLay_fr {k : Nat} : VFr V (vLay V k) := fun j hj => by unfold vLay; rw [if_neg (by omega), if_neg (by omega)]
theorem vLay_up {k : Nat} (h1 : 172 ≤ k) (h2 : k < 218) : upd (vLay V k) k (V (k - 171)) = vLay V (k + 1) := by
  funext j
  by_cases e : j = k
  · subst e; rw [upd_s]; unfold vLay; rw [if_pos (by omega)]
  · rw [upd_n _ _ e]; unfold vLay
    by_cases g : 172 ≤ j ∧ j < k
    · rw [if_pos g, if_pos (by omega)]
    · rw [if_neg g, if_neg (show ¬ (172 ≤ j ∧ j < k + 1) by omega)]
theorem vLay_o {k j : Nat} (h : j < 170) : vLay V k j = V j := by unfold vLay; rw [if_neg (by omega), if_neg (by omega)]
theorem t_layl {c lo hi base : Nat} {W : (Int32 → MI → Prop) → Int32 → MI → Prop} {ke : Int32 → MI → Prop} (hb : b ≤ 1032) (hc : lo + hi ≤ 218) (hlo : 172 ≤ lo) (hbase : base + 171 = lo)
    (hW : ∀ (rec : Int32 → MI → Prop) (x : Int32) (I' : MI), ((nI hi ≤ x → ke x I') ∧ (¬ nI hi ≤ x → (vp_in ((nI b + nI base) + x) 4905 ∧ (vp_in ((nI b + nI lo) + x) 4905 ∧ (∀ I11, I11 = ui I' (o + 1) (ix ((nI b + nI lo) + x)) (I' (o + 1) (ix ((nI b + nI base) + x))) → rec (x + 1) I11))))) → W rec x I')
    (hk : ke (nI hi) (kb J (o + 1) b (vLay V (lo + hi)))) : Lp2 W 0 (kb J (o + 1) b (vLay V lo)) := by
  refine Lp2.of (fun x I' => ∃ k, k ≤ hi ∧ x = nI k ∧ I' = kb J (o + 1) b (vLay V (lo + k))) (fun x _ => 300 - ix x) ?_ _ _ ⟨0, by omega, rfl, rfl⟩
  rintro rec x I' ⟨k, hkk, rfl, rfl⟩ hrec
  refine hW rec _ _ ⟨fun c => ?_, fun c => ?_⟩
  · have := (nI_leI (by omega) (by omega)).mp c
    have e : k = hi := by omega
    rw [e]; exact hk
  · have hlt : k < hi := by
      rcases Nat.lt_or_ge k hi with q | q
      · exact q
      · exact absurd (nI_le q (by omega)) c
    simp only [nI_add]
    rw [show b + base + k = b + (base + k) by omega, show b + lo + k = b + (lo + k) by omega, kg hb (by omega)]
    refine ⟨kin hb (by omega), kin hb (by omega), ?_⟩
    rintro _ rfl
    rw [kx hb (by omega), vLay_o (by omega), show base + k = lo + k - 171 by omega, vLay_up (by omega) (by omega)]
    refine hrec _ _ ⟨k + 1, by omega, nI_1 k, rfl⟩ ?_
    rw [nI_1, ixn (by omega), ixn (by omega)]; omega
theorem t_starts {K : Nat} {P : MI → Prop} (h : RelR p I V) (hb : b ≤ 1032) (hK : K < 256) (e47 : V 47 = nI K) (hP : ∀ A, IsL V K A → P (kb J (o + 1) b (vStart V A))) : w_X10_starts o (nI b) (kb J (o + 1) b V) P := by
  obtain ⟨hsz, -⟩ := size_lt h
  have e0 : vZero V 170 = V := by funext j; unfold vZero; rw [if_neg (by omega)]
  have e1 : vZero V 516 = vLay V 172 := by funext j; unfold vZero vLay; rw [if_neg (show ¬ (172 ≤ j ∧ j < 172) by omega)]
  unfold w_X10_starts
  have hstart : kb J (o + 1) b V = kb J (o + 1) b (vZero V 170) := by rw [e0]
  rw [hstart]
  refine Lp2.of (fun x I' => ∃ k, 170 ≤ k ∧ k ≤ 516 ∧ x = nI k ∧ I' = kb J (o + 1) b (vZero V k)) (fun x _ => 600 - ix x) ?_ _ _ ⟨170, by omega, by omega, rfl, rfl⟩
  rintro rec x I' ⟨k, hk1, hk2, rfl, rfl⟩ hrec
  unfold w_X10_starts_l4
  refine ⟨fun c => ?_, fun c => ?_⟩
  · have := (nI_leI (a := 516) (by omega) (by omega)).mp c
    have e : k = 516 := by omega
    subst e
    rw [e1]
    refine t_layl (c := 0) (lo := 172) (hi := 6) (base := 1) hb (by omega) (by omega) (by omega) (fun rec x I' q => by unfold w_X10_starts_l28; exact q) ?_
    refine t_layl (c := 0) (lo := 178) (hi := 32) (base := 7) hb (by omega) (by omega) (by omega) (fun rec x I' q => by unfold w_X10_starts_l64; exact q) ?_
    refine t_layl (c := 0) (lo := 210) (hi := 8) (base := 39) hb (by omega) (by omega) (by omega) (fun rec x I' q => by unfold w_X10_starts_l101; exact q) ?_
    obtain ⟨y1, -, y3⟩ := t_val (o := o) (J := J) (V := vLay V 218) (k := 250) hb (by omega)
    have y3 : ui (kb J (o + 1) b (vLay V 218)) (o + 1) (ix (nI b + 250)) (-1) = kb J (o + 1) b (upd (vLay V 218) 250 (-1)) := y3 _
    refine ⟨y1, ?_⟩
    rintro _ rfl
    show w_X10_aims o (nI b) (ui (kb J (o + 1) b (vLay V 218)) (o + 1) (ix (nI b + 250)) (-1)) _
    rw [y3]
    have vf : VFr V (upd (vLay V 218) 250 (-1)) := vLay_fr.tr (VFr.up (by omega))
    refine t_aims (h.fr (fun _ _ _ => rfl) vf) hb hK (by rw [vf 47 (by omega)]; exact e47) (fun A hA => ?_)
    obtain ⟨z1, -, z3⟩ := t_val (o := o) (J := J) (V := upd (vLay V 218) 250 (-1)) (k := 49) hb (by omega)
    have z3 : ui (kb J (o + 1) b (upd (vLay V 218) 250 (-1))) (o + 1) (ix (nI b + 49)) (nI A) = kb J (o + 1) b (vStart V A) := z3 _
    refine ⟨z1, ?_⟩
    rintro _ rfl
    rw [z3]
    exact hP A (hA.fr vf hsz)
  · have hlt : k < 516 := by
      rcases Nat.lt_or_ge k 516 with q | q
      · exact q
      · exact absurd (nI_le (a := 516) q (by omega)) c
    rw [nI_add]
    refine ⟨kin hb hlt, ?_⟩
    rintro _ rfl
    rw [kx hb hlt, show upd (vZero V k) k 0 = vZero V (k + 1) from ?_]
    · refine hrec _ _ ⟨k + 1, by omega, by omega, nI_1 k, rfl⟩ ?_
      rw [nI_1, ixn (by omega), ixn (by omega)]; omega
    · funext j
      by_cases e : j = k
      · subst e; rw [upd_s]; unfold vZero; rw [if_pos (by omega)]
      · rw [upd_n _ _ e]; unfold vZero
        by_cases g : 170 ≤ j ∧ j < k
        · rw [if_pos g, if_pos (by omega)]
        · rw [if_neg g, if_neg (by omega)]
end
