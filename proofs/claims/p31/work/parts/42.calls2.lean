noncomputable def spArrayOf (s : xS) (x y : Int32) : Int32 := cIf (inB x 3) (cIf (y = nI 0) (nI (lA s (nN x)).1) (cIf (y = nI 1) (nI (lA s (nN x)).2.1) (cIf (y = nI 2) (nI (mxF (lA s (nN x)).2.2 ((lA s (nN x)).1 * (lA s (nN x)).2.1))) (cIf (y = nI 3) (nI (mnF (lA s (nN x)).2.2 ((lA s (nN x)).1 * (lA s (nN x)).2.1))) (cIf (y = nI 4) (nI (unlE (lA s (nN x)).2.2 ((lA s (nN x)).1 * (lA s (nN x)).2.1))) (-2)))))) (-1)
section CALLS3
variable {G : sG} {d : Nat} {P : sQ} {w : sW} {B : Nat} {s : xS}
theorem t_arrayOf {x y : Int32} (h : clAt G w B s) (ho : okS s) (k : P (some (.int (spArrayOf s x y))) w) : wpM G (d + 3) yX9_arrayOf (0, 0) [.ref B, .int x, .int y] w P := by
  have h0 := h.1
  unfold clO at h0
  unfold spArrayOf at k
  refine eX9_arrayOf ?_
  refine qX9_arrayOf_0 ?_
  refine qX9_arrayOf_1 (Nat.le_of_ble_eq_true rfl) (t_isArray (fun i hi hx => ?_) (fun hx => ?_))
  · subst hx
    obtain ⟨g1, ⟨f, g2, g3⟩, a, g4, g5, g6, g7⟩ := clG h ho hi
    rw [nN_nI (by omega), cIf_t (inB_nI hi)] at k
    obtain ⟨q1, q2⟩ := id g4
    refine nX9_arrayOf_4 (by omega) (fun h4 => ?_) (fun h4 => by exfalso; omega)
    refine qX9_arrayOf_9 ?_
    refine qX9_arrayOf_10 (by assumption) ?_
    refine qX9_arrayOf_13 (by assumption) ?_
    refine qX9_arrayOf_16 ?_
    refine nX9_arrayOf_17 g2 (Or.inl rfl) hi (by decide) g3 ?_
    refine qX9_arrayOf_18 ?_
    refine qX9_arrayOf_19 ?_
    by_cases hy : inB y 5
    · obtain ⟨j, hj, rfl⟩ := hy
      rcases (show j = 0 ∨ j = 1 ∨ j = 2 ∨ j = 3 ∨ j = 4 by omega) with rfl | rfl | rfl | rfl | rfl
      · rw [cIf_t rfl] at k
        refine qX9_arrayOf_20_0 ?_
        refine qX9_arrayOf_56 ?_
        refine qX9_arrayOf_57 (by assumption) ?_
        refine qX9_arrayOf_60 ?_
        exact k
      · rw [cIf_f (by decide), cIf_t rfl] at k
        refine qX9_arrayOf_20_1 ?_
        refine qX9_arrayOf_61 ?_
        refine qX9_arrayOf_62 (by assumption) ?_
        refine qX9_arrayOf_65 ?_
        exact k
      · rw [cIf_f (by decide), cIf_f (by decide), cIf_t rfl, ← mxF_cong g7] at k
        refine qX9_arrayOf_20_2 ?_
        refine qX9_arrayOf_66 ?_
        refine qX9_arrayOf_67 (by assumption) (Nat.le_of_ble_eq_true rfl) (t_greatest g4 (fun j hj => Nat.le_trans (g6 j hj) (by decide)) g5 ?_)
        refine qX9_arrayOf_70 ?_
        exact k
      · rw [cIf_f (by decide), cIf_f (by decide), cIf_f (by decide), cIf_t rfl, ← mnF_cong g7] at k
        refine qX9_arrayOf_20_3 ?_
        refine qX9_arrayOf_71 ?_
        refine qX9_arrayOf_72 (by assumption) (Nat.le_of_ble_eq_true rfl) (t_least g4 g6 g5 ?_)
        refine qX9_arrayOf_75 ?_
        exact k
      · rw [cIf_f (by decide), cIf_f (by decide), cIf_f (by decide), cIf_f (by decide), cIf_t rfl, ← unlE_cong g7] at k
        refine qX9_arrayOf_20_4 ?_
        refine qX9_arrayOf_76 ?_
        refine qX9_arrayOf_77 (by assumption) (Nat.le_of_ble_eq_true rfl) (t_unlikeEntries g4 g6 g5 ?_)
        refine qX9_arrayOf_80 ?_
        exact k
    · refine qX9_arrayOf_20_d (tab_d (by decide) hy) ?_
      refine qX9_arrayOf_81 ?_
      refine qX9_arrayOf_83 ?_
      rw [cIf_f (fun z => hy ⟨0, by decide, z⟩), cIf_f (fun z => hy ⟨1, by decide, z⟩), cIf_f (fun z => hy ⟨2, by decide, z⟩), cIf_f (fun z => hy ⟨3, by decide, z⟩), cIf_f (fun z => hy ⟨4, by decide, z⟩)] at k
      exact k
  · rw [cIf_f hx] at k
    refine nX9_arrayOf_4 (by omega) (fun h4 => by exfalso; omega) (fun h4 => ?_)
    refine qX9_arrayOf_7 ?_
    refine qX9_arrayOf_8 ?_
    exact k
end CALLS3
