/-! how the class's memory stands to a block -/
def cKind (op d : Int32) : Int32 := if d = 2 then op else if d = 3 then 10 else if d = 4 then 11 else if d = 5 then 12 else if d = 6 then 13 else if d = 7 then 14 else if d = 8 then 15 else if d = 9 then 6 else if d = 10 then 16 else if d = 11 then 17 else if d = 12 then 18 else if d = 13 then 19 else if d = 14 then 8 else 9
def vMany (V : Nat → Int32) (side i : Nat) : Nat := if vDeed V side i 0 = 0 then 0 else if vDeed V side i 1 = 0 then 1 else 2
/-- a row of the program -/
def RowR (p i : Nat) (I : MI) (V : Nat → Int32) : Prop :=
  bd (V (50 + 5 * i)) 9 ∧ bd (V (51 + 5 * i)) 8 ∧ bd (V (52 + 5 * i)) 8 ∧ (¬ V (50 + 5 * i) = 7 → bd (V (53 + 5 * i)) 8) ∧
  (V (50 + 5 * i) = 0 → I (p + 9 + i) 1 = V (51 + 5 * i) ∧ I (p + 9 + i) 4 = V (54 + 5 * i) ∧ bd (V (54 + 5 * i)) 1000) ∧
  ((V (50 + 5 * i) = 1 ∨ V (50 + 5 * i) = 2 ∨ V (50 + 5 * i) = 3) → I (p + 9 + i) 1 = V (51 + 5 * i) ∧ I (p + 9 + i) 2 = V (52 + 5 * i) ∧ I (p + 9 + i) 3 = V (53 + 5 * i)) ∧
  ((V (50 + 5 * i) = 4 ∨ V (50 + 5 * i) = 5) → I (p + 9 + i) 1 = V (51 + 5 * i) ∧ I (p + 9 + i) 2 = V (52 + 5 * i) ∧ I (p + 9 + i) 4 = V (54 + 5 * i) ∧ bd (V (54 + 5 * i)) 32) ∧
  (V (50 + 5 * i) = 6 → I (p + 9 + i) 4 = V (54 + 5 * i) ∧ bd (V (54 + 5 * i)) (ix (V 48))) ∧
  (V (50 + 5 * i) = 7 → I (p + 9 + i) 2 = V (51 + 5 * i) ∧ I (p + 9 + i) 3 = V (52 + 5 * i) ∧ I (p + 9 + i) 5 = V (53 + 5 * i) ∧ I (p + 9 + i) 4 = V (54 + 5 * i) ∧ bd (V (54 + 5 * i)) (ix (V 48)) ∧ (V (53 + 5 * i) = 60 ∨ V (53 + 5 * i) = 61 ∨ V (53 + 5 * i) = 62))
/-- the rows -/
def RelR (p : Nat) (I : MI) (V : Nat → Int32) : Prop :=
  I p 1 = V 48 ∧ bd (V 48) 25 ∧ (∀ i, i ≤ ix (V 48) → I (p + 9 + i) 0 = vOp V i) ∧ (∀ i, i < ix (V 48) → RowR p i I V) ∧ ∀ i, i < 25 → chr (I (p + 9 + i) 5)
/-- the deeds -/
def RelD (p : Nat) (I : MI) (V : Nat → Int32) : Prop :=
  I p 4 = V 49 ∧ (∀ s i, s < 2 → i ≤ ix (V 48) → I (p + 7) (25 * s + i) = nI (vMany V s i)) ∧ (∀ s i k, s < 2 → i ≤ ix (V 48) → k < vMany V s i → I (p + 5) (2 * (25 * s + i) + k) = cKind (vOp V i) (vDeed V s i k)) ∧
  ∀ i k, i ≤ ix (V 48) → k < vMany V 0 i → cKind (vOp V i) (vDeed V 0 i k) = 9 → vDeed V 0 i k = 1 + 16 * I (p + 6) (2 * i + k) ∧ bd (I (p + 6) (2 * i + k)) 8
/-- what was told -/
def RelT (p : Nat) (I : MI) (V : Nat → Int32) : Prop :=
  I p 2 = V 0 ∧ I p 3 = V 47 ∧ bd (V 47) 256 ∧ (∃ k, 1 ≤ k ∧ k ≤ 9 ∧ V 0 = nI k) ∧ (∀ q, q < 6 → I (p + 2) q = V (1 + q) ∧ ∃ k, 1 ≤ k ∧ k ≤ 6 ∧ V (1 + q) = nI k) ∧ (∀ c, c < 32 → I (p + 3) c = V (7 + c) ∧ bd (V (7 + c)) 1000) ∧ ∀ r, r < 8 → I (p + 4) r = V (39 + r) ∧ bd (V (39 + r)) 1000
/-- the machine's own numbers -/
def RelM (m : Nat) (I : MI) (V : Nat → Int32) : Prop :=
  (∀ r, r < 8 → I (m + 35) r = V (210 + r) ∧ bd (V (210 + r)) 1000) ∧ (∀ c, c < 32 → I (m + 36) c = V (178 + c) ∧ bd (V (178 + c)) 1000) ∧
  I m 5 = V 170 ∧ bd (V 170) 1000 ∧ I m 6 = V 171 ∧ bd (V 171) 4 ∧ True ∧ I m 7 = V 0 ∧ (∃ k, 1 ≤ k ∧ k ≤ 9 ∧ V 0 = nI k) ∧
  I m 8 = V 218 ∧ I m 9 = V 219 ∧ I m 10 = V 220 ∧ I m 11 = V 233 + V 234 + V 235 ∧ I m 12 = V 221 ∧ I m 13 = V 250 ∧ (V 250 = -1 ∨ bd (V 250) 1000) ∧ I m 14 = V 251 ∧ bd (V 251) 1000 ∧ bln (I m 15)
/-- what an entry of a queue may be, and its mark -/
def EntR (q : Nat) (x y z mk : Int32) : Prop :=
  (q = 0 → bd x 1000 ∧ mk = y ∧ bd y 1000) ∧ (q = 1 → bd x 32 ∧ ((y = 1 ∧ mk = z ∧ bd z 1000) ∨ (y = 0 ∧ mk = -1))) ∧ (q = 2 ∨ q = 3 → bd x 1000) ∧ (q = 4 ∨ q = 5 → bd x 2)
def RelQ (m q : Nat) (I : MI) (V : Nat → Int32) : Prop :=
  ∃ n f, n ≤ 6 ∧ f < 6 ∧ V (252 + 19 * q) = nI n ∧ I (m + 39 + 3 * q) 3 = nI n ∧ I (m + 39 + 3 * q) 2 = nI f ∧ I (m + 39 + 3 * q) 4 = V (172 + q) ∧ (∃ k, 1 ≤ k ∧ k ≤ 6 ∧ V (172 + q) = nI k) ∧
    ∀ j, j < n → I (m + 40 + 3 * q) ((f + j) % 6) = V (253 + 19 * q + 3 * j) ∧ EntR q (V (253 + 19 * q + 3 * j)) (V (254 + 19 * q + 3 * j)) (V (255 + 19 * q + 3 * j)) (I (m + 41 + 3 * q) ((f + j) % 6))
def RelS (m s : Nat) (I : MI) (V : Nat → Int32) : Prop :=
  I (m + 57 + 3 * s) 0 = nI s ∧ (∃ p k, p ≤ ix (V 48) ∧ V (222 + 14 * s) = nI p ∧ V (223 + 14 * s) = nI k ∧ (k = 0 ∨ k < vMany V s p)) ∧ I (m + 57 + 3 * s) 1 = V (222 + 14 * s) ∧ I (m + 57 + 3 * s) 2 = V (223 + 14 * s) ∧
  I (m + 57 + 3 * s) 5 = V (224 + 14 * s) ∧ I (m + 57 + 3 * s) 3 = V (225 + 14 * s) ∧ I (m + 57 + 3 * s) 4 = V (226 + 14 * s) ∧ bd (V (226 + 14 * s)) 2 ∧
  (∀ r, 1 ≤ r → r ≤ 7 → I (m + 58 + 3 * s) r = V (228 + 14 * s + r)) ∧ ∀ i k, i < 25 → k < 2 → I (m + 59 + 3 * s) (2 * i + k) = V (366 + 75 * s + 3 * i + k)
def Rel (m : Nat) (I : MI) (V : Nat → Int32) : Prop := RelR (m + 1) I V ∧ RelD (m + 1) I V ∧ RelM m I V ∧ (∀ q, q < 6 → RelQ m q I V) ∧ ∀ s, s < 2 → RelS m s I V
/-- why each waited -/
def RelW (m : Nat) (I : MI) (V : Nat → Int32) : Prop := ∀ s, s < 2 → I (m + 57 + 3 * s) 6 = V (227 + 14 * s)
/-- nothing but the machine's own cells, and of those not the program's, is changed -/
def Frm (m : Nat) (I I' : MI) : Prop := ∀ c, (c < m ∨ m + 63 ≤ c ∨ (m + 1 ≤ c ∧ c ≤ m + 34)) → I' c = I c
def VFr (V V' : Nat → Int32) : Prop := ∀ k, k < 170 → V' k = V k
theorem Frm.rf {m : Nat} {I : MI} : Frm m I I := fun _ _ => rfl
theorem Frm.tr {m : Nat} {I I' I'' : MI} (h : Frm m I I') (h' : Frm m I' I'') : Frm m I I'' := fun c hc => (h' c hc).trans (h c hc)
theorem VFr.rf {V : Nat → Int32} : VFr V V := fun _ _ => rfl
theorem VFr.tr {V V' V'' : Nat → Int32} (h : VFr V V') (h' : VFr V' V'') : VFr V V'' := fun c hc => (h' c hc).trans (h c hc)
theorem VFr.up {V : Nat → Int32} {k : Nat} {x : Int32} (h : 170 ≤ k) : VFr V (upd V k x) := fun j hj => upd_n _ _ (by omega)
theorem Frm.ui {m a k : Nat} {I : MI} {v : Int32} (h1 : m ≤ a) (h2 : a < m + 63) (h3 : a = m ∨ m + 35 ≤ a) : Frm m I (ui I a k v) := fun c hc => ui_ne _ _ _ (by omega)
theorem vOp_fr {V V' : Nat → Int32} (h : VFr V V') {i : Nat} (hi : i ≤ 23 ∨ nI i = V 48) : vOp V' i = vOp V i := by
  unfold vOp
  rw [h 48 (by omega)]
  split
  · rfl
  · rename_i hn
    rcases hi with hi | hi
    · exact h _ (by omega)
    · exact absurd hi hn
theorem vSends_fr {V V' : Nat → Int32} (h : VFr V V') (r s : Int32) : vSends V' r s = vSends V r s := by unfold vSends; rw [h 49 (by omega)]
theorem vSend_fr {V V' : Nat → Int32} (h : VFr V V') (r s : Int32) (k : Nat) : vSend V' r s k = vSend V r s k := by unfold vSend; rw [h 49 (by omega)]
theorem vDeed_fr {V V' : Nat → Int32} (h : VFr V V') {s i k : Nat} (hi : i ≤ 23 ∨ nI i = V 48) : vDeed V' s i k = vDeed V s i k := by
  unfold vDeed
  rw [vOp_fr h hi]
  by_cases h8 : vOp V i = 8
  · rw [h8]; rfl
  · have hi' : i ≤ 23 := by
      rcases hi with hi | hi
      · exact hi
      · unfold vOp at h8; rw [if_pos hi] at h8; exact absurd rfl h8
    unfold vDeedOp vDeedIf
    rw [h 49 (by omega), h (51 + 5 * i) (by omega), h (52 + 5 * i) (by omega), h (53 + 5 * i) (by omega)]
    rw [vSends_fr h, vSend_fr h, vSend_fr h]
theorem vMany_fr {V V' : Nat → Int32} (h : VFr V V') {s i : Nat} (hi : i ≤ 23 ∨ nI i = V 48) : vMany V' s i = vMany V s i := by unfold vMany; rw [vDeed_fr h hi, vDeed_fr h hi]
theorem ilow {V : Nat → Int32} (h : bd (V 48) 25) {i : Nat} (hi : i ≤ ix (V 48)) : i ≤ 23 ∨ nI i = V 48 := by
  obtain ⟨e, hl⟩ := bd_ix h (by omega)
  rcases Nat.lt_or_ge i 24 with q | q
  · exact Or.inl (by omega)
  · right; rw [e]; congr 1; omega
theorem RowR.fr {p i : Nat} {I I' : MI} {V V' : Nat → Int32} (h : RowR p i I V) (hi : i ≤ 23) (hI : I' (p + 9 + i) = I (p + 9 + i)) (hV : VFr V V') : RowR p i I' V' := by
  unfold RowR at h ⊢
  rw [hI, hV 48 (by omega), hV (50 + 5 * i) (by omega), hV (51 + 5 * i) (by omega), hV (52 + 5 * i) (by omega), hV (53 + 5 * i) (by omega), hV (54 + 5 * i) (by omega)]
  exact h
theorem RelR.fr {p : Nat} {I I' : MI} {V V' : Nat → Int32} (h : RelR p I V) (hI : ∀ c, p ≤ c → c ≤ p + 33 → I' c = I c) (hV : VFr V V') : RelR p I' V' := by
  obtain ⟨h1, h2, h3, h4, h5⟩ := h
  obtain ⟨e, hl⟩ := bd_ix h2 (by omega)
  have e48 := hV 48 (by omega)
  refine ⟨by rw [hI p (by omega) (by omega), e48]; exact h1, by rw [e48]; exact h2, fun i hi => ?_, fun i hi => ?_, fun i hi => ?_⟩
  · rw [e48] at hi
    rw [hI (p + 9 + i) (by omega) (by omega), h3 i hi, vOp_fr hV (ilow h2 hi)]
  · rw [e48] at hi
    exact (h4 i hi).fr (by omega) (hI (p + 9 + i) (by omega) (by omega)) hV
  · rw [hI (p + 9 + i) (by omega) (by omega)]; exact h5 i hi
theorem RelD.fr {p : Nat} {I I' : MI} {V V' : Nat → Int32} (h : RelD p I V) (h2 : bd (V 48) 25) (hI : ∀ c, p ≤ c → c ≤ p + 33 → I' c = I c) (hV : VFr V V') : RelD p I' V' := by
  obtain ⟨g1, g2, g3, g4⟩ := h
  have e48 := hV 48 (by omega)
  refine ⟨by rw [hI p (by omega) (by omega), hV 49 (by omega)]; exact g1, fun s i hs hi => ?_, fun s i k hs hi hk => ?_, fun i k hi hk hc => ?_⟩
  · rw [e48] at hi
    rw [hI (p + 7) (by omega) (by omega), g2 s i hs hi, vMany_fr hV (ilow h2 hi)]
  · rw [e48] at hi
    rw [vMany_fr hV (ilow h2 hi)] at hk
    rw [hI (p + 5) (by omega) (by omega), g3 s i k hs hi hk, vOp_fr hV (ilow h2 hi), vDeed_fr hV (ilow h2 hi)]
  · rw [e48] at hi
    rw [vMany_fr hV (ilow h2 hi)] at hk
    rw [vOp_fr hV (ilow h2 hi), vDeed_fr hV (ilow h2 hi)] at hc
    rw [hI (p + 6) (by omega) (by omega), vDeed_fr hV (ilow h2 hi)]
    exact g4 i k hi hk hc
theorem RelQ.fr {m q : Nat} {I I' : MI} {V V' : Nat → Int32} (h : RelQ m q I V) (hI : ∀ d, d < 3 → I' (m + 39 + 3 * q + d) = I (m + 39 + 3 * q + d)) (h1 : V' (172 + q) = V (172 + q)) (hV : ∀ d, d < 19 → V' (252 + 19 * q + d) = V (252 + 19 * q + d)) : RelQ m q I' V' := by
  obtain ⟨n, f, hn, hf, e1, e2, e3, e4, e5, hj⟩ := h
  have i0 := hI 0 (by omega)
  have i1 := hI 1 (by omega)
  have i2 := hI 2 (by omega)
  rw [show m + 39 + 3 * q + 0 = m + 39 + 3 * q by omega] at i0
  rw [show m + 39 + 3 * q + 1 = m + 40 + 3 * q by omega] at i1
  rw [show m + 39 + 3 * q + 2 = m + 41 + 3 * q by omega] at i2
  refine ⟨n, f, hn, hf, ?_, ?_, ?_, ?_, ?_, fun j hj2 => ?_⟩
  · have := hV 0 (by omega); rw [Nat.add_zero] at this; rw [this]; exact e1
  · rw [i0]; exact e2
  · rw [i0]; exact e3
  · rw [i0, h1]; exact e4
  · rw [h1]; exact e5
  · have v1 := hV (1 + 3 * j) (by omega)
    have v2 := hV (2 + 3 * j) (by omega)
    have v3 := hV (3 + 3 * j) (by omega)
    rw [show 252 + 19 * q + (1 + 3 * j) = 253 + 19 * q + 3 * j by omega] at v1
    rw [show 252 + 19 * q + (2 + 3 * j) = 254 + 19 * q + 3 * j by omega] at v2
    rw [show 252 + 19 * q + (3 + 3 * j) = 255 + 19 * q + 3 * j by omega] at v3
    rw [i1, i2, v1, v2, v3]
    exact hj j hj2
theorem RelS.fr {m s : Nat} {I I' : MI} {V V' : Nat → Int32} (h : RelS m s I V) (h2 : bd (V 48) 25) (hs : s < 2) (hI : ∀ d, d < 3 → I' (m + 57 + 3 * s + d) = I (m + 57 + 3 * s + d)) (h1 : VFr V V') (hV : ∀ d, d < 14 → d ≠ 5 → V' (222 + 14 * s + d) = V (222 + 14 * s + d)) (hW : ∀ d, d < 75 → V' (366 + 75 * s + d) = V (366 + 75 * s + d)) : RelS m s I' V' := by
  obtain ⟨g0, ⟨p, k, hp, ep, ek, hk⟩, g1, g2, g3, g4, g5, g6, g9, g10⟩ := h
  have i0 := hI 0 (by omega)
  have i1 := hI 1 (by omega)
  have i2 := hI 2 (by omega)
  rw [show m + 57 + 3 * s + 0 = m + 57 + 3 * s by omega] at i0
  rw [show m + 57 + 3 * s + 1 = m + 58 + 3 * s by omega] at i1
  rw [show m + 57 + 3 * s + 2 = m + 59 + 3 * s by omega] at i2
  have v0 := hV 0 (by omega) (by omega)
  have v1 := hV 1 (by omega) (by omega)
  have v2 := hV 2 (by omega) (by omega)
  have v3 := hV 3 (by omega) (by omega)
  have v4 := hV 4 (by omega) (by omega)
  rw [show 222 + 14 * s + 0 = 222 + 14 * s by omega] at v0
  rw [show 222 + 14 * s + 1 = 223 + 14 * s by omega] at v1
  rw [show 222 + 14 * s + 2 = 224 + 14 * s by omega] at v2
  rw [show 222 + 14 * s + 3 = 225 + 14 * s by omega] at v3
  rw [show 222 + 14 * s + 4 = 226 + 14 * s by omega] at v4
  unfold RelS
  rw [i0, i1, i2, v0, v1, v2, v3, v4, h1 48 (by omega)]
  refine ⟨g0, ⟨p, k, hp, ep, ek, ?_⟩, g1, g2, g3, g4, g5, g6, fun r hr1 hr2 => ?_, fun i k hi hk => ?_⟩
  · rw [vMany_fr h1 (ilow h2 hp)]; exact hk
  · have := hV (6 + r) (by omega) (by omega)
    rw [show 222 + 14 * s + (6 + r) = 228 + 14 * s + r by omega] at this
    rw [this]; exact g9 r hr1 hr2
  · have := hW (3 * i + k) (by omega)
    rw [show 366 + 75 * s + (3 * i + k) = 366 + 75 * s + 3 * i + k by omega] at this
    rw [this]; exact g10 i k hi hk
