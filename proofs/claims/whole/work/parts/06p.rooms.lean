section
variable {m : Nat} {I : MI} {V : Nat → Int32}
theorem Rel.room {k j : Nat} (h : Rel m I V) (hk : k < 6) (j1 : 1 ≤ j) (j2 : j ≤ 6) : Rel m (ui I (m + 39 + 3 * k) 4 (nI j)) (upd V (172 + k) (nI j)) := by
  obtain ⟨n, f, hn, hf, e1, e2, e3, e4, e5, hj⟩ := h.2.2.2.1 k hk
  have hv : VFr V (upd V (172 + k) (nI j)) := VFr.up (by omega)
  refine h.set (Frm.ui (by omega) (by omega) (by omega)) hv (h.2.2.1.fr (ui_ne _ _ _ (by omega)) (ui_ne _ _ _ (by omega)) (fun k' _ _ => by rw [ui_ne _ _ _ (by omega)]) (fun k' hk => upd_n _ _ (by omega))) (fun q hq => ?_) (fun s hs => (h.2.2.2.2 s hs).fr h.1.2.1 hs (fun d hd => ui_ne _ _ _ (by omega)) hv (fun d hd _ => upd_n _ _ (by omega)) (fun d hd => upd_n _ _ (by omega)))
  by_cases e : q = k
  · subst e
    refine ⟨n, f, hn, hf, by rw [upd_n _ _ (by omega)]; exact e1, by rw [ui_gj _ _ _ (by omega)]; exact e2, by rw [ui_gj _ _ _ (by omega)]; exact e3, by rw [ui_gs, upd_s], by rw [upd_s]; exact ⟨j, by omega, by omega, rfl⟩, fun i hi => ?_⟩
    rw [ui_ne _ _ _ (by omega), ui_ne _ _ _ (by omega), upd_n _ _ (by omega), upd_n _ _ (by omega), upd_n _ _ (by omega)]
    exact hj i hi
  · exact (h.2.2.2.1 q hq).fr (fun d hd => ui_ne _ _ _ (by omega)) (upd_n _ _ (by omega)) (fun d hd => upd_n _ _ (by omega))
/-- one room is set -/
theorem k_setRoom1 {k : Nat} {y : Int32} {P : MI → Prop} (hk : k < 6) (hP : P (ui I (m + 39 + 3 * k) 4 y)) : w_X1_setRooms m (nI k) (nI k) y I P := by
  unfold w_X1_setRooms
  rintro _ rfl
  have e : (if (0 : Int32) < nI k then nI k else 0) = nI k := by
    by_cases q : k = 0
    · subst q; rfl
    · rw [if_pos (show (0 : Int32) < nI k from nI_lt (a := 0) (b := k) (by omega) (by omega))]
  rw [e]
  refine ⟨2, ?_⟩
  show w_X1_setRooms_l7 m (nI k) y P (lpN2 (w_X1_setRooms_l7 m (nI k) y P) 1) (nI k) I
  have hn : lpN2 (w_X1_setRooms_l7 m (nI k) y P) 1 (nI (k + 1)) (ui I (m + 39 + 3 * k) 4 y) := by
    show w_X1_setRooms_l7 m (nI k) y P _ (nI (k + 1)) _
    unfold w_X1_setRooms_l7
    exact ⟨fun _ => hP, fun c => absurd (nI_lt (by omega) (by omega)) c⟩
  revert hn
  generalize lpN2 (w_X1_setRooms_l7 m (nI k) y P) 1 = rec
  intro hn
  unfold w_X1_setRooms_l7
  refine ⟨fun c => absurd ((nI_ltI (by omega) (by omega)).mp c) (by omega), fun _ => ⟨fun c => absurd ((nI_leI (a := 6) (by omega) (by omega)).mp c) (by omega), fun _ => ⟨inn hk (by omega), ?_⟩⟩⟩
  rintro _ rfl
  rw [ixn (by omega), nI_1]
  exact hn
end
