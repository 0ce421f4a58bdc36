/-- one array is changed -/
def setA (t : Nat → GV) (i : Nat) (v : GV) : Nat → GV := fun j => if j = i then v else t j
theorem nowP.set {G : sG} {w w' : sW} {b i R C : Nat} {t : Nat → GV} {a : Nat → Nat} {v : GV} (h : nowP G w b t) (hi : i < 3) (hF : Fr w w' (sGE (b + 2 + 2 * i) (b + 2 + 2 * i + 1))) (hg : gAt G w' (b + 2 + 2 * i) (b + 2 + 2 * i + 1) R C a) (he : eqA (R, C, a) v) : nowP G w' b (setA t i v) := by
  obtain ⟨σ, ⟨f, h1, h2, h3, h4⟩, h5⟩ := h
  refine ⟨setA σ i (R, C, a), ⟨f, by rw [hF.2 _ (fun z => by rcases z with z | z <;> omega)]; exact h1, by rw [hF.2 _ (fun z => by rcases z with z | z <;> omega)]; exact h2, h3, fun j hj => ?_⟩, fun j hj => ?_⟩
  · unfold setA
    by_cases hji : j = i
    · subst hji
      rw [if_pos rfl]
      exact hg
    · rw [if_neg hji]
      exact (h4 j hj).fr hF (fun z => by rcases z with z | z <;> omega) (fun z => by rcases z with z | z <;> omega)
  · unfold setA
    by_cases hji : j = i
    · subst hji
      rw [if_pos rfl, if_pos rfl]
      exact he
    · rw [if_neg hji, if_neg hji]
      exact h5 j hj
