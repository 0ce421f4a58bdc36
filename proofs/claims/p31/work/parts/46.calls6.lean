def undS (s : xS) : xS := ((lH s).getD 0 dfT, (lH s).tail, lS s, lv s, ln s, lc s)
def spUndo (s : xS) : Int32 × xS := if (lH s).length = 0 then (-5, s) else (nI ((lH s).length - 1), undS s)
theorem okH {s : xS} (ho : okS s) {j : Nat} (hj : j < (lH s).length) : okT ((lH s).getD j dfT) := by
  rw [List.getD_eq_getElem?_getD, List.getElem?_eq_getElem hj]
  exact ho.2.2.1 _ (List.getElem_mem hj)
theorem eqG3 {t u : Nat → GV} (h : ∀ i, i < 3 → eqG (t i) (u i)) (hu : okT u) : eqT t u := fun i hi => (h i hi).eqA (hu i hi)
section CALLS7
variable {G : sG} {d : Nat} {P : sQ} {w : sW} {B : Nat} {s : xS}
end CALLS7
