def undS (s : xS) : xS := ((lH s).getD 0 dfT, (lH s).tail, lS s, lv s, ln s, lc s)
def spUndo (s : xS) : Int32 × xS := if (lH s).length = 0 then (-5, s) else (nI ((lH s).length - 1), undS s)
theorem okH {s : xS} (ho : okS s) {j : Nat} (hj : j < (lH s).length) : okT ((lH s).getD j dfT) := by
  rw [List.getD_eq_getElem?_getD, List.getElem?_eq_getElem hj]
  exact ho.2.2.1 _ (List.getElem_mem hj)
theorem eqG3 {t u : Nat → GV} (h : ∀ i, i < 3 → eqG (t i) (u i)) (hu : okT u) : eqT t u := fun i hi => (h i hi).eqA (hu i hi)
section CALLS7
variable {G : sG} {d : Nat} {P : sQ} {w : sW} {B : Nat} {s : xS}
theorem t_undo (h : clAt G w B s) (ho : okS s) (k : ∀ w', Fr w w' (fun q => B ≤ q ∧ q < B + 92) → clAt G w' B (spUndo s).2 → P (some (.int (spUndo s).1)) w') : wpM G (d + 5) yX9_undo (0, 0) [.ref B] w P := by
  have h0 := h.1
  unfold clO at h0
  obtain ⟨h1, ⟨σ, h2, h2e⟩, ⟨nx, H, h30, h31, h32⟩, h4, h5, h6, h8⟩ := id h
  have hl := ho.2.1
  obtain ⟨f, x1, x2⟩ := id h31
  unfold spUndo at k
  refine eX9_undo ?_
  refine qX9_undo_0 ?_
  refine qX9_undo_1 (by assumption) ?_
  refine qX9_undo_4 (by assumption) ?_
  refine nX9_undo_7 (by omega) (fun h7 => ?_) (fun h7 => ?_)
  · rw [if_neg h7] at k
    refine qX9_undo_13 ?_
    refine qX9_undo_14 (by assumption) ?_
    refine qX9_undo_17 ?_
    refine qX9_undo_18 (by assumption) ?_
    refine qX9_undo_21 (by assumption) (Nat.le_of_ble_eq_true rfl) (t_takeBack h31 h30 hl (by omega) h2 (by omega) (fun w' σ' hF hh hn hq => ?_))
    have e0 : w'.1 B = _ := (hF.2 B (by omega)).trans h0
    obtain ⟨f', y1, y2⟩ := id hh
    refine qX9_undo_24 ?_
    refine qX9_undo_25 (by assumption) ?_
    refine qX9_undo_28 (by assumption) ?_
    refine qX9_undo_31 ?_
    have e1 := h32 0 (by omega)
    rw [Nat.sub_zero] at e1
    have ok1 : okT (H ((nx + 5) % 6)) := (okH ho (by omega)).eq e1
    refine k w' (hF.mono (fun q hq => by omega)) ⟨e0, ⟨σ', hn, (eqG3 hq ok1).tr e1⟩, ⟨(nx + 5) % 6, H, by omega, ?_, fun j hj => ?_⟩, h4.fr hF (by omega) (fun q a1 a2 => by omega), h5.fr hF (by omega), h6.fr hF (by omega) (by omega), h8.fr hF (fun q a1 a2 => by omega)⟩
    · rw [show (lH (undS s)).length = (lH s).length - 1 from List.length_tail]
      exact hh
    · have hj : j < (lH s).tail.length := hj
      rw [List.length_tail] at hj
      have e2 := h32 (j + 1) (by omega)
      rw [show ((nx + 5) % 6 + 5 - j) % 6 = (nx + 5 - (j + 1)) % 6 by omega]
      have e3 : (lH (undS s)).getD j dfT = (lH s).getD (j + 1) dfT := by
        show (lH s).tail.getD j dfT = _
        rw [List.getD_eq_getElem?_getD, List.getD_eq_getElem?_getD, List.getElem?_tail]
      rw [e3]
      exact e2
  · rw [if_pos h7] at k
    refine qX9_undo_10 ?_
    refine qX9_undo_12 ?_
    exact k w Fr.rf h
end CALLS7
