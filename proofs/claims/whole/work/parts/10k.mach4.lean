/-! a new machine as a part of the world -/
theorem celE_same {K K' : Kx} {mem mem' : Mm} {a : Nat} (h1 : kG K a = kG K' a) (h2 : kC K = kC K') (h3 : mem.1 a = mem'.1 a) (h4 : mem.2.1 a = mem'.2.1 a) (h5 : mem.2.2 a = mem'.2.2 a) : celE K mem a = celE K' mem' a := by
  have e : celE K mem a = celE K mem' a := celE_congr h3 h4 h5
  rw [e]
  unfold celE
  rw [h1, h2]
def maM (b : Nat) : MI := fun q k => if q < b + 35 then clrM (b + 1) q k else if q = b + 60 ∧ k = 0 then 1 else 0
theorem ma_kinds : tMach.length = 63 ∧ (∀ i, i < 34 → tMach.getD (1 + i) (0, 0) = tProg.getD i (0, 0)) ∧ (∀ j, j < 6 → tMach.getD (39 + 3 * j) (0, 0) = (5, 0) ∧ tMach.getD (40 + 3 * j) (0, 0) = (20, 6) ∧ tMach.getD (41 + 3 * j) (0, 0) = (20, 6)) ∧ ∀ j, j < 2 → tMach.getD (57 + 3 * j) (0, 0) = (7, 0) ∧ tMach.getD (58 + 3 * j) (0, 0) = (20, 8) ∧ tMach.getD (59 + 3 * j) (0, 0) = (20, 50) := by decide
/-- what holds of the cells when queues and sides are made -/
def MaE (K : Kx) (b : Nat) (E : Nat → va_E) : Prop :=
  E b = maO b ∧ (∀ i, i < 34 → E (b + 1 + i) = celE (sub K (b + 1) tProg) (memP (clrM (b + 1))) (b + 1 + i)) ∧ E (b + 35) = arI K 8 ∧ E (b + 36) = arI K 32 ∧ E (b + 37) = .inl (kC K 25, 6, .inr (.inr (.inr (.inr (refsK b 39 3 6))))) ∧ E (b + 38) = .inl (kC K 26, 2, .inr (.inr (.inr (.inr (refsK b 57 3 2))))) ∧ (∀ j, j < 6 → E (b + 39 + 3 * j) = queE (b + 39 + 3 * j) ∧ E (b + 40 + 3 * j) = arI K 6 ∧ E (b + 41 + 3 * j) = arI K 6) ∧ ∀ j, j < 2 → E (b + 57 + 3 * j) = sidE (b + 57 + 3 * j) (nI j) ∧ E (b + 58 + 3 * j) = arI K 8 ∧ E (b + 59 + 3 * j) = arI K 50
theorem ma_ov {K : Kx} {base N b : Nat} {E : Nat → va_E} {H : Heap} (hE : MaE K b E) (h : HE K base N E H) : HE K base N (ov (sub K b tMach) (memP (maM b)) E) H := by
  intro q q1 q2
  have hq := h q q1 q2
  unfold ov
  by_cases hm : q ∈ kL (sub K b tMach)
  · rw [if_pos hm]
    have hr := sub_AA.mp hm
    rw [ma_kinds.1] at hr
    obtain ⟨g0, gp, g35, g36, g37, g38, gq, gs⟩ := hE
    obtain ⟨i, hi, rfl⟩ : ∃ i, i < 63 ∧ q = b + i := ⟨q - b, by omega, by omega⟩
    have z : ∀ j, 35 ≤ j → j ≠ 60 → maM b (b + j) = fun _ => 0 := fun j hj hn => by funext k; unfold maM; rw [if_neg (by omega), if_neg (by omega)]
    have arr : ∀ j n, 35 ≤ j → j ≠ 60 → tMach.getD j (0, 0) = (20, n) → E (b + j) = arI K n → va_at (kD K) vwCl (b + j, E (b + j)) H → va_at (kD K) vwCl (b + j, celE (sub K b tMach) (memP (maM b)) (b + j)) H := fun j n hj hn ht he ha => by
      rw [celE_arr ((sub_G j).trans ht) (by decide) (by decide) (by decide)]
      rw [he] at ha
      show va_at _ _ (_, .inl (kC K 20, n, .inl (maM b (b + j)))) _
      rw [z j hj hn]; exact ha
    rcases (show i = 0 ∨ (1 ≤ i ∧ i < 35) ∨ i = 35 ∨ i = 36 ∨ i = 37 ∨ i = 38 ∨ (39 ≤ i ∧ i < 57) ∨ 57 ≤ i by omega) with rfl | hp | rfl | rfl | rfl | rfl | hqq | hss
    · have e : E (b + 0) = celE (sub K b tMach) (memP (maM b)) (b + 0) := by
        rw [celE_obj (ci := 2) (congrArg Prod.fst (sub_G 0)) (by decide)]
        show E b = _
        rw [g0]
        have z0 : ∀ k, 5 ≤ k → maM b (b + 0) k = 0 := fun k hk => by
          unfold maM clrM
          rw [if_pos (by omega), ui_gn _ _ _ _ (by omega), uf_ne _ _ _ (by omega), uf_ne _ _ _ (by omega), uf_ne _ _ _ (by omega), ui_gn _ _ _ _ (by omega), ui_gn _ _ _ _ (by omega), ui_gn _ _ _ _ (by omega)]
          unfold prI; rw [if_neg (by omega)]
        show maO b = Sum.inr (2, [Value.ref (b + 1), .ref (b + 35), .ref (b + 36), .ref (b + 37), .ref (b + 38), .int (maM b (b + 0) 5), .int (maM b (b + 0) 6), .int (maM b (b + 0) 7), .int (maM b (b + 0) 8), .int (maM b (b + 0) 9), .int (maM b (b + 0) 10), .int (maM b (b + 0) 11), .int (maM b (b + 0) 12), .int (maM b (b + 0) 13), .int (maM b (b + 0) 14), .int (maM b (b + 0) 15)])
        rw [z0 5 (by omega), z0 6 (by omega), z0 7 (by omega), z0 8 (by omega), z0 9 (by omega), z0 10 (by omega), z0 11 (by omega), z0 12 (by omega), z0 13 (by omega), z0 14 (by omega), z0 15 (by omega)]
        rfl
      rw [← e]; exact hq
    · obtain ⟨j, hj, rfl⟩ : ∃ j, j < 34 ∧ i = 1 + j := ⟨i - 1, by omega, by omega⟩
      have e := gp j hj
      rw [show b + 1 + j = b + (1 + j) by omega] at e
      rw [e] at hq
      have : celE (sub K b tMach) (memP (maM b)) (b + (1 + j)) = celE (sub K (b + 1) tProg) (memP (clrM (b + 1))) (b + (1 + j)) := by
        refine celE_same ?_ rfl ?_ rfl rfl
        · rw [sub_G, show b + (1 + j) = b + 1 + j by omega, sub_G]; exact ma_kinds.2.1 j hj
        · funext k; show maM b _ k = clrM (b + 1) _ k; unfold maM; rw [if_pos (by omega)]
      rw [this]; exact hq
    · exact arr 35 8 (by omega) (by omega) rfl g35 hq
    · exact arr 36 32 (by omega) (by omega) rfl g36 hq
    · rw [celE_arrR (k := 25) (n := 6) ((sub_G 37).trans rfl) (by decide)]
      rw [g37] at hq
      refine at_refs hq (fun j hj => ?_)
      unfold refsK
      rw [if_pos hj]
      show some (b + 39 + 3 * j) = some (b + 37 + 2 + 3 * j)
      rfl
    · rw [celE_arrR (k := 26) (n := 2) ((sub_G 38).trans rfl) (by decide)]
      rw [g38] at hq
      refine at_refs hq (fun j hj => ?_)
      unfold refsK
      rw [if_pos hj]
      show some (b + 57 + 3 * j) = some (b + 38 + 19 + 3 * j)
      rfl
    · obtain ⟨j, r, hj, hr2, rfl⟩ : ∃ j r, j < 6 ∧ r < 3 ∧ i = 39 + r + 3 * j := ⟨(i - 39) / 3, (i - 39) % 3, by omega, by omega, by omega⟩
      obtain ⟨p1, p2, p3⟩ := gq j hj
      obtain ⟨t1, t2, t3⟩ := ma_kinds.2.2.1 j hj
      rcases (show r = 0 ∨ r = 1 ∨ r = 2 by omega) with rfl | rfl | rfl
      · have e : E (b + (39 + 0 + 3 * j)) = celE (sub K b tMach) (memP (maM b)) (b + (39 + 0 + 3 * j)) := by
          rw [celE_obj (ci := 4) (congrArg Prod.fst ((sub_G (39 + 0 + 3 * j)).trans t1)) (by decide), show b + (39 + 0 + 3 * j) = b + 39 + 3 * j by omega, p1]
          have z0 := z (39 + 3 * j) (by omega) (by omega)
          rw [show b + (39 + 3 * j) = b + 39 + 3 * j by omega] at z0
          show queE _ = Sum.inr (4, [Value.ref (b + 39 + 3 * j + 1), .ref (b + 39 + 3 * j + 2), .int (maM b (b + 39 + 3 * j) 2), .int (maM b (b + 39 + 3 * j) 3), .int (maM b (b + 39 + 3 * j) 4)])
          rw [z0]; rfl
        rw [← e]; exact hq
      · exact arr (39 + 1 + 3 * j) 6 (by omega) (by omega) (by rw [show 39 + 1 + 3 * j = 40 + 3 * j by omega]; exact t2) (by rw [show b + (39 + 1 + 3 * j) = b + 40 + 3 * j by omega]; exact p2) hq
      · exact arr (39 + 2 + 3 * j) 6 (by omega) (by omega) (by rw [show 39 + 2 + 3 * j = 41 + 3 * j by omega]; exact t3) (by rw [show b + (39 + 2 + 3 * j) = b + 41 + 3 * j by omega]; exact p3) hq
    · obtain ⟨j, r, hj, hr2, rfl⟩ : ∃ j r, j < 2 ∧ r < 3 ∧ i = 57 + r + 3 * j := ⟨(i - 57) / 3, (i - 57) % 3, by omega, by omega, by omega⟩
      obtain ⟨p1, p2, p3⟩ := gs j hj
      obtain ⟨t1, t2, t3⟩ := ma_kinds.2.2.2 j hj
      rcases (show r = 0 ∨ r = 1 ∨ r = 2 by omega) with rfl | rfl | rfl
      · have e : E (b + (57 + 0 + 3 * j)) = celE (sub K b tMach) (memP (maM b)) (b + (57 + 0 + 3 * j)) := by
          rw [celE_obj (ci := 6) (congrArg Prod.fst ((sub_G (57 + 0 + 3 * j)).trans t1)) (by decide), show b + (57 + 0 + 3 * j) = b + 57 + 3 * j by omega, p1]
          have z0 : maM b (b + 57 + 3 * j) 0 = nI j := by
            unfold maM
            rw [if_neg (by omega)]
            rcases (show j = 0 ∨ j = 1 by omega) with rfl | rfl
            · rw [if_neg (by omega)]; rfl
            · rw [if_pos ⟨by omega, rfl⟩]; rfl
          have z1 : ∀ k, k ≠ 0 → maM b (b + 57 + 3 * j) k = 0 := fun k hk => by unfold maM; rw [if_neg (by omega), if_neg (fun c => hk c.2)]
          show sidE _ _ = Sum.inr (6, [Value.int (maM b (b + 57 + 3 * j) 0), .int (maM b (b + 57 + 3 * j) 1), .int (maM b (b + 57 + 3 * j) 2), .int (maM b (b + 57 + 3 * j) 3), .int (maM b (b + 57 + 3 * j) 4), .int (maM b (b + 57 + 3 * j) 5), .int (maM b (b + 57 + 3 * j) 6), .ref (b + 57 + 3 * j + 1), .ref (b + 57 + 3 * j + 2)])
          rw [z0, z1 1 (by omega), z1 2 (by omega), z1 3 (by omega), z1 4 (by omega), z1 5 (by omega), z1 6 (by omega)]; rfl
        rw [← e]; exact hq
      · exact arr (57 + 1 + 3 * j) 8 (by omega) (by omega) (by rw [show 57 + 1 + 3 * j = 58 + 3 * j by omega]; exact t2) (by rw [show b + (57 + 1 + 3 * j) = b + 58 + 3 * j by omega]; exact p2) hq
      · exact arr (57 + 2 + 3 * j) 50 (by omega) (by omega) (by rw [show 57 + 2 + 3 * j = 59 + 3 * j by omega]; exact t3) (by rw [show b + (57 + 2 + 3 * j) = b + 59 + 3 * j by omega]; exact p3) hq
  · rw [if_neg hm]; exact hq
