theorem tu_tu {R C : Nat} {a : Nat → Nat} {k : Nat} (hk : k < R * C) : tuN C R (tuN R C a) k = a k := by
  obtain ⟨h1, h2⟩ := dm_lt hk
  unfold tuN
  rw [dm_mod h1, dm_div h1, dm_eq]
theorem setA2 {t : Nat → GV} {i : Nat} {u v : GV} (j : Nat) (h : eqA v (t i)) : eqA (setA (setA t i u) i v j) (t j) := by
  unfold setA
  by_cases hj : j = i
  · subst hj; rw [if_pos rfl]; exact h
  · rw [if_neg hj, if_neg hj]; exact eqA.rf
theorem setAs {t : Nat → GV} {i : Nat} {u : GV} : setA t i u i = u := by unfold setA; rw [if_pos rfl]
theorem okT.set {t : Nat → GV} {i : Nat} {u : GV} (h : okT t) (hu : okV u) : okT (setA t i u) := fun j hj => by
  unfold setA
  split
  · exact hu
  · exact h j hj
theorem okV.tu {x : GV} (h : okV x) : okV (x.2.1, x.1, tuN x.1 x.2.1 x.2.2) := ⟨h.1.sw, tuN_le h.2⟩
