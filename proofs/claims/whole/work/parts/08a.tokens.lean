/-! tokens as they lie on the tape -/
def isLt (b : Nat) : Bool := decide (97 ≤ b ∧ b ≤ 122)
def isDg (b : Nat) : Bool := decide (48 ≤ b ∧ b ≤ 57)
def isBl (b : Nat) : Bool := decide (b = 32 ∨ b = 10)
def isSg (b : Nat) : Bool := decide (58 ≤ b ∧ b ≤ 62)
/-- from p on, as long as f holds -/
def runN (f : Nat → Bool) (T : Nat → Nat) (L : Nat) : Nat → Nat → Nat
  | 0, p => p
  | n + 1, p => if p < L ∧ f (T p) = true then runN f T L n (p + 1) else p
def runE (f : Nat → Bool) (T : Nat → Nat) (L p : Nat) : Nat := runN f T L (L - p) p
section
variable {f : Nat → Bool} {T : Nat → Nat} {L p : Nat}
theorem runE_step (h : p < L) (hf : f (T p) = true) : runE f T L p = runE f T L (p + 1) := by
  unfold runE
  rw [show L - p = (L - (p + 1)) + 1 by omega]
  show (if p < L ∧ f (T p) = true then runN f T L (L - (p + 1)) (p + 1) else p) = _
  rw [if_pos ⟨h, hf⟩]
theorem runE_stop (h : L ≤ p ∨ f (T p) = false) : runE f T L p = p := by
  unfold runE
  cases hn : L - p with
  | zero => rfl
  | succ n =>
    show (if p < L ∧ f (T p) = true then runN f T L n (p + 1) else p) = _
    rw [if_neg (fun c => by rcases h with q | q; omega; rw [q] at c; exact absurd c.2 (by decide))]
theorem runN_b : ∀ (n p : Nat), p ≤ runN f T L n p ∧ (p ≤ L → runN f T L n p ≤ L) ∧ (∀ j, p ≤ j → j < runN f T L n p → f (T j) = true)
  | 0, p => ⟨Nat.le_refl _, id, fun j h1 h2 => absurd (show j < p from h2) (by omega)⟩
  | n + 1, p => by
    have ih := runN_b n (p + 1)
    by_cases c : p < L ∧ f (T p) = true
    · have e : runN f T L (n + 1) p = runN f T L n (p + 1) := if_pos c
      rw [e]
      refine ⟨by omega, fun _ => ih.2.1 (by omega), fun j h1 h2 => ?_⟩
      by_cases q : j = p
      · subst q; exact c.2
      · exact ih.2.2 j (by omega) h2
    · have e : runN f T L (n + 1) p = p := if_neg c
      rw [e]
      exact ⟨Nat.le_refl _, id, fun j h1 h2 => by omega⟩
theorem runE_ge : p ≤ runE f T L p := (runN_b _ p).1
theorem runE_le (h : p ≤ L) : runE f T L p ≤ L := (runN_b _ p).2.1 h
theorem runE_in {j : Nat} (h1 : p ≤ j) (h2 : j < runE f T L p) : f (T j) = true := (runN_b _ p).2.2 j h1 h2
theorem runN_out : ∀ (n p : Nat), L ≤ p + n → runN f T L n p < L → f (T (runN f T L n p)) = false
  | 0, p, h, h2 => absurd (show p < L from h2) (by omega)
  | n + 1, p, h, h2 => by
    by_cases c : p < L ∧ f (T p) = true
    · have e : runN f T L (n + 1) p = runN f T L n (p + 1) := if_pos c
      rw [e] at h2 ⊢
      exact runN_out n (p + 1) (by omega) h2
    · have e : runN f T L (n + 1) p = p := if_neg c
      rw [e] at h2 ⊢
      cases q : f (T p) with
      | false => rfl
      | true => exact absurd ⟨h2, q⟩ c
theorem runE_out (h : runE f T L p < L) : f (T (runE f T L p)) = false := runN_out _ p (by omega) h
end
/-- where the token at p ends -/
def tkE (T : Nat → Nat) (L p : Nat) : Nat := if L ≤ p then L else if isLt (T p) = true then runE isLt T L (p + 1) else if isDg (T p) = true then runE isDg T L (p + 1) else p + 1
def pos (T : Nat → Nat) (L : Nat) : Nat → Nat
  | 0 => runE isBl T L 0
  | k + 1 => runE isBl T L (tkE T L (pos T L k))
def te (T : Nat → Nat) (L k : Nat) : Nat := tkE T L (pos T L k)
def byts (T : Nat → Nat) (p e : Nat) : List Nat := (List.range (e - p)).map (fun i => T (p + i))
def WL (j : Nat) : List Nat := [[108, 97, 116, 101], [114, 111, 111, 109], [99, 101, 108, 108], [114, 101, 103], [107, 101, 101, 112], [115, 101, 116], [97, 100, 100], [115, 117, 98], [109, 117, 108], [108, 111, 97, 100], [115, 116, 111, 114, 101], [106, 117, 109, 112], [105, 102], [101, 110, 100], [108, 111, 97, 100, 115], [115, 116, 111, 114, 101, 115], [100, 97, 116, 97], [99, 111, 112, 105, 101, 115], [116, 111, 108, 100], [97, 115, 107, 101, 100]].getD j []
def stW (j : Nat) : Nat := [0, 5, 10, 15, 19, 24, 28, 32, 36, 40, 45, 51, 56, 59, 63, 69, 76, 81, 88, 93].getD j 99
def wnoR (l : List Nat) : Nat → Nat → Nat
  | 0, j => j
  | d + 1, j => if WL j = l then j else wnoR l d (j + 1)
/-- which word it is, 20: none -/
def wno (l : List Nat) : Nat := wnoR l 20 0
def dgv (l : List Nat) : Nat := l.foldl (fun v b => v * 10 + (b - 48)) 0
def pkv (l : List Nat) : Nat := l.foldl (fun v b => v * 256 + b) 0
/-- the class's kind of a token, and its value -/
def tkd (T : Nat → Nat) (L k : Nat) : Nat :=
  if L ≤ pos T L k then 6 else if isLt (T (pos T L k)) = true then (if 8 < te T L k - pos T L k then 0 else if te T L k - pos T L k = 1 then (if T (pos T L k) ≤ 104 then 2 else 0) else if wno (byts T (pos T L k) (te T L k)) = 20 then 3 else 1)
  else if isDg (T (pos T L k)) = true then (if 3 < te T L k - pos T L k then 0 else 4) else if isSg (T (pos T L k)) = true then 5 else 0
def tvN (T : Nat → Nat) (L k : Nat) : Nat :=
  if isLt (T (pos T L k)) = true then (if te T L k - pos T L k = 1 then T (pos T L k) - 97 else wno (byts T (pos T L k) (te T L k)))
  else if isDg (T (pos T L k)) = true then dgv (byts T (pos T L k) (te T L k)) else T (pos T L k)
section
variable {T : Nat → Nat} {L k : Nat}
theorem tkE_gt {p : Nat} (h : p < L) : p < tkE T L p ∧ tkE T L p ≤ L := by
  unfold tkE
  rw [if_neg (by omega)]
  have g : ∀ f : Nat → Bool, p < runE f T L (p + 1) ∧ runE f T L (p + 1) ≤ L := fun f => ⟨Nat.lt_of_lt_of_le (Nat.lt_succ_self p) runE_ge, runE_le (by omega)⟩
  split
  · exact g _
  · split
    · exact g _
    · omega
theorem tkE_le {p : Nat} : tkE T L p ≤ L := by
  by_cases h : p < L
  · exact (tkE_gt h).2
  · unfold tkE; rw [if_pos (by omega)]; exact Nat.le_refl _
theorem pos_le : ∀ k, pos T L k ≤ L
  | 0 => runE_le (Nat.zero_le _)
  | k + 1 => runE_le tkE_le
theorem te_gt (h : pos T L k < L) : pos T L k < te T L k ∧ te T L k ≤ L := tkE_gt h
theorem pos_te : te T L k ≤ pos T L (k + 1) := runE_ge
theorem pos_mono (h : pos T L k < L) : pos T L k < pos T L (k + 1) := Nat.lt_of_lt_of_le (te_gt h).1 pos_te
theorem pos_nb (h : pos T L k < L) : isBl (T (pos T L k)) = false := by
  cases k with
  | zero => exact runE_out h
  | succ k => exact runE_out h
end
/-- bytes as the class compares them -/
theorem byS_low : ∀ b, b < 128 → byS b = nI b := by decide +kernel
theorem byS_neg : ∀ b, b < 256 → 128 ≤ b → byS b < 0 := by decide +kernel
theorem byS_eq {b c : Nat} (hb : b < 256) (hc : c < 128) : byS b = nI c ↔ b = c := by
  refine ⟨fun h => ?_, fun h => by subst h; exact byS_low b hc⟩
  rcases Nat.lt_or_ge b 128 with q | q
  · rw [byS_low b q] at h; exact nI_inj (by omega) (by omega) h
  · have := byS_neg b hb q
    rw [h] at this; exact absurd this (nI_pos (by omega))
theorem byS_lt {b c : Nat} (hb : b < 256) (hc : c < 128) : byS b < nI c ↔ (b < c ∨ 128 ≤ b) := by
  rcases Nat.lt_or_ge b 128 with q | q
  · rw [byS_low b q, nI_ltI (by omega) (by omega)]; omega
  · exact ⟨fun _ => Or.inr q, fun _ => Int32.lt_of_lt_of_le (byS_neg b hb q) (nI_pos' (by omega))⟩
theorem byS_gt {b c : Nat} (hb : b < 256) (hc : c < 128) : nI c < byS b ↔ (c < b ∧ b < 128) := by
  rcases Nat.lt_or_ge b 128 with q | q
  · rw [byS_low b q, nI_ltI (by omega) (by omega)]; omega
  · refine ⟨fun h => absurd h (Int32.not_lt.mpr (Int32.le_of_lt (Int32.lt_of_lt_of_le (byS_neg b hb q) (nI_pos' (by omega))))), fun h => by omega⟩
theorem byS_inj {b c : Nat} (hb : b < 256) (hc : c < 256) : byS b = byS c ↔ b = c := by
  refine ⟨fun h => ?_, fun h => by rw [h]⟩
  have h1 := sc_k8 b hb
  have h2 := sc_k8 c hc
  unfold byS at h
  rw [h, h2] at h1
  exact nI_inj (by omega) (by omega) h1.symm
section
variable {b : Nat} {Q : Int32 → Prop}
theorem k_isBl (hb : b < 256) (h : Q (if isBl b = true then 1 else 0)) : w_X7_isBlank (byS b) Q := by
  have e10 : byS b = 10 ↔ b = 10 := byS_eq hb (c := 10) (by omega)
  have e32 : byS b = 32 ↔ b = 32 := byS_eq hb (c := 32) (by omega)
  unfold w_X7_isBlank
  unfold isBl at h
  refine ⟨fun c => ?_, fun c => ⟨fun c2 => ?_, fun c2 => ?_⟩⟩
  · rw [if_pos (decide_eq_true (Or.inr (e10.mp c)))] at h; exact h
  · rw [if_neg (by rw [decide_eq_true_iff]; exact fun q => q.elim (fun q => c2 (e32.mpr q)) (fun q => c (e10.mpr q)))] at h; exact h
  · rw [if_pos (decide_eq_true (Or.inl (e32.mp c2)))] at h; exact h
theorem k_isLt (hb : b < 256) (h : Q (if isLt b = true then 1 else 0)) : w_X7_isLetter (byS b) Q := by
  have e1 : byS b < 97 ↔ (b < 97 ∨ 128 ≤ b) := byS_lt hb (c := 97) (by omega)
  have e2 : (122 : Int32) < byS b ↔ (122 < b ∧ b < 128) := byS_gt hb (c := 122) (by omega)
  unfold w_X7_isLetter
  unfold isLt at h
  refine ⟨fun c => ?_, fun c => ⟨fun c2 => ?_, fun c2 => ?_⟩⟩
  · have := e1.mp c
    rw [if_neg (by rw [decide_eq_true_iff]; omega)] at h; exact h
  · have := e2.mp c2
    rw [if_neg (by rw [decide_eq_true_iff]; omega)] at h; exact h
  · rw [e1] at c; rw [e2] at c2
    rw [if_pos (by rw [decide_eq_true_iff]; omega)] at h; exact h
theorem k_isDg (hb : b < 256) (h : Q (if isDg b = true then 1 else 0)) : w_X7_isDigit (byS b) Q := by
  have e1 : byS b < 48 ↔ (b < 48 ∨ 128 ≤ b) := byS_lt hb (c := 48) (by omega)
  have e2 : (57 : Int32) < byS b ↔ (57 < b ∧ b < 128) := byS_gt hb (c := 57) (by omega)
  unfold w_X7_isDigit
  unfold isDg at h
  refine ⟨fun c => ?_, fun c => ⟨fun c2 => ?_, fun c2 => ?_⟩⟩
  · have := e1.mp c
    rw [if_neg (by rw [decide_eq_true_iff]; omega)] at h; exact h
  · have := e2.mp c2
    rw [if_neg (by rw [decide_eq_true_iff]; omega)] at h; exact h
  · rw [e1] at c; rw [e2] at c2
    rw [if_pos (by rw [decide_eq_true_iff]; omega)] at h; exact h
theorem k_isSg (hb : b < 256) (h : Q (if isSg b = true then 1 else 0)) : w_X7_isSign (byS b) Q := by
  have e : ∀ c : Nat, c < 128 → (byS b = nI c ↔ b = c) := fun c hc => byS_eq hb hc
  have e59 : byS b = 59 ↔ b = 59 := e 59 (by omega)
  have e58 : byS b = 58 ↔ b = 58 := e 58 (by omega)
  have e60 : byS b = 60 ↔ b = 60 := e 60 (by omega)
  have e61 : byS b = 61 ↔ b = 61 := e 61 (by omega)
  have e62 : byS b = 62 ↔ b = 62 := e 62 (by omega)
  unfold w_X7_isSign
  rw [e59, e58, e60, e61, e62]
  unfold isSg at h
  have yes : (b = 58 ∨ b = 59 ∨ b = 60 ∨ b = 61 ∨ b = 62) → Q 1 := fun q => by rw [if_pos (by rw [decide_eq_true_iff]; omega)] at h; exact h
  refine ⟨fun c => yes (by omega), fun c1 => ⟨fun c => yes (by omega), fun c2 => ⟨fun c => yes (by omega), fun c3 => ⟨fun c => yes (by omega), fun c4 => ⟨fun c5 => ?_, fun c => yes (by omega)⟩⟩⟩⟩⟩
  rw [if_neg (by rw [decide_eq_true_iff]; omega)] at h; exact h
end
/-- the words' letters -/
theorem wl_tab : ∀ j, j < 20 → (∀ i, i < (WL j).length → sC 0 (stW j + i) = nI ((WL j).getD i 0) ∧ ¬ sC 0 (stW j + i) = 32 ∧ (WL j).getD i 0 < 128) ∧ sC 0 (stW j + (WL j).length) = 32 ∧ stW (j + 1) = stW j + (WL j).length + 1 ∧ stW j + (WL j).length < 99 ∧ 2 ≤ (WL j).length := by decide +kernel
section
variable {T : Nat → Nat} {p e : Nat}
theorem byts_len : (byts T p e).length = e - p := by unfold byts; rw [List.length_map, List.length_range]
theorem byts_get {i : Nat} (hi : i < e - p) : (byts T p e).getD i 0 = T (p + i) := by
  unfold byts
  rw [List.getD_eq_getElem?_getD, List.getElem?_map, List.getElem?_range hi]
  rfl
theorem byts_eq {l : List Nat} : byts T p e = l ↔ (e - p = l.length ∧ ∀ i, i < l.length → T (p + i) = l.getD i 0) := by
  constructor
  · intro h
    subst h
    refine ⟨byts_len.symm, fun i hi => ?_⟩
    rw [byts_len] at hi
    exact (byts_get hi).symm
  · rintro ⟨h1, h2⟩
    refine List.ext_getElem? (fun i => ?_)
    rcases Nat.lt_or_ge i l.length with q | q
    · have g := byts_get (T := T) (p := p) (e := e) (i := i) (by omega)
      have hl : i < (byts T p e).length := by rw [byts_len]; omega
      rw [List.getElem?_eq_getElem hl, List.getElem?_eq_getElem q]
      have a1 : (byts T p e).getD i 0 = (byts T p e)[i] := by rw [List.getD_eq_getElem?_getD, List.getElem?_eq_getElem hl]; rfl
      have a2 : l.getD i 0 = l[i] := by rw [List.getD_eq_getElem?_getD, List.getElem?_eq_getElem q]; rfl
      rw [← a1, ← a2, g, h2 i q]
    · rw [List.getElem?_eq_none q, List.getElem?_eq_none (by rw [byts_len]; omega)]
end
