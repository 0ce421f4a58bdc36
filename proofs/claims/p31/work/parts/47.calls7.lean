section CALLS8
variable {G : sG} {d : Nat} {P : sQ} {w : sW} {B : Nat} {s : xS}
theorem t_rem {hb b : Nat} {t : Nat → GV} {L : List (Nat → GV)} (h : hisP G w hb L) (hL : L.length ≤ 6) (hn : nowP G w b t) (ht : okT t) (hd : b + 8 ≤ hb ∨ hb + 50 ≤ b) (k : ∀ w', Fr w w' (fun q => hb ≤ q ∧ q < hb + 50) → hisP G w' hb ((t :: L).take 6) → P none w') : wpM G (d + 4) yX3_remember (0, 0) [.ref hb, .ref b] w P := by
  obtain ⟨nx, H, h1, h2, h3⟩ := h
  obtain ⟨σ, h4, h5⟩ := hn
  refine t_remember h2 h1 hL h4 hd (fun w' σ' hF hh hq => ?_)
  refine k w' hF ⟨(nx + 1) % 6, (fun j => if j = nx then σ' else H j), by omega, by rw [List.length_take, List.length_cons, Nat.min_comm]; exact hh, fun j hj => ?_⟩
  · show eqT (if ((nx + 1) % 6 + 5 - j) % 6 = nx then σ' else H (((nx + 1) % 6 + 5 - j) % 6)) _
    rw [List.length_take] at hj
    have hj : j < min 6 (L.length + 1) := hj
    cases j with
    | zero =>
      rw [if_pos (by omega)]
      exact (eqG3 hq (ht.eq h5)).tr h5
    | succ j =>
      rw [if_neg (by omega)]
      rw [show ((nx + 1) % 6 + 5 - (j + 1)) % 6 = (nx + 5 - j) % 6 by omega]
      have e : ((t :: L).take 6).getD (j + 1) dfT = L.getD j dfT := by
        rw [List.getD_eq_getElem?_getD, List.getD_eq_getElem?_getD, List.getElem?_take_of_lt (by omega), List.getElem?_cons_succ]
      rw [e]
      exact h3 j (by omega)
end CALLS8
