section GRID
variable {G : sG} {d : Nat} {P : sQ} {w : sW} {g e R C : Nat} {a : Nat → Nat}
theorem t_isArray {x : Int32} (ht : ∀ i, i < 3 → x = nI i → P (some (.int (nI 1))) w) (hf : ¬ inB x 3 → P (some (.int (nI 0))) w) : wpM G (d + 1) yX9_isArray (0, 0) [.int x] w P := by
  refine eX9_isArray ?_
  refine qX9_isArray_0 ?_
  refine qX9_isArray_1 (fun h1 => ?_) (fun h1 => ?_)
  · refine qX9_isArray_13 ?_
    refine qX9_isArray_14 rfl ?_
    exact hf (inB_lt0 (by decide) h1)
  · refine qX9_isArray_4 ?_
    refine qX9_isArray_5 ?_
    refine qX9_isArray_6 (fun h6 => ?_) (fun h6 => ?_)
    · refine qX9_isArray_13 ?_
      refine qX9_isArray_14 rfl ?_
      exact hf (inB_ge (by decide) h6)
    · refine qX9_isArray_9 ?_
      refine qX9_isArray_10 ?_
      refine qX9_isArray_14 rfl ?_
      obtain ⟨i, hi, hx⟩ := inB_of (by decide) h1 h6
      exact ht i hi hx
theorem t_size (h : gAt G w g e R C a) (k : P (some (.int (nI (R * C)))) w) : wpM G (d + 1) yX2_size (0, 0) [.ref g] w P := by
  obtain ⟨hg, he⟩ := h
  refine eX2_size ?_
  refine qX2_size_0 ?_
  refine qX2_size_1 (by assumption) ?_
  refine qX2_size_4 ?_
  refine qX2_size_5 (by assumption) ?_
  first | refine nX2_size_8 ?_ | refine qX2_size_8 ?_
  refine qX2_size_9 ?_
  exact k
theorem t_place {r c : Nat} (h : gAt G w g e R C a) (k : P (some (.int (nI (r * C + c)))) w) : wpM G (d + 1) yX2_place (0, 0) [.ref g, .int (nI r), .int (nI c)] w P := by
  obtain ⟨hg, he⟩ := h
  refine eX2_place ?_
  refine qX2_place_0 ?_
  refine qX2_place_1 ?_
  refine qX2_place_2 (by assumption) ?_
  first | refine nX2_place_5 ?_ | refine qX2_place_5 ?_
  refine qX2_place_6 ?_
  first | refine nX2_place_7 ?_ | refine qX2_place_7 ?_
  refine qX2_place_8 ?_
  exact k
theorem t_at {r c : Nat} (h : gAt G w g e R C a) (hi : r * C + c < 12) (k : P (some (.int (nI (a (r * C + c))))) w) : wpM G (d + 2) yX2_at (0, 0) [.ref g, .int (nI r), .int (nI c)] w P := by
  obtain ⟨hg, he⟩ := id h
  refine eX2_at ?_
  refine qX2_at_0 ?_
  refine qX2_at_1 (by assumption) ?_
  refine qX2_at_4 ?_
  refine qX2_at_5 ?_
  refine qX2_at_6 ?_
  refine qX2_at_7 (by assumption) (Nat.le_of_ble_eq_true rfl) (t_place h ?_)
  first | refine fX2_at_10 (by assumption) (by omega) (by decide) ?_ | refine nX2_at_10 (by assumption) (by omega) (by decide) ?_
  refine qX2_at_11 ?_
  exact k
theorem t_assign {r c v : Nat} (h : gAt G w g e R C a) (hi : r * C + c < 12) (k : P none (s_up w e (aN G 12 (updN a (r * C + c) v)))) : wpM G (d + 2) yX2_assign (0, 0) [.ref g, .int (nI r), .int (nI c), .int (nI v)] w P := by
  obtain ⟨hg, he⟩ := id h
  refine eX2_assign ?_
  refine qX2_assign_0 ?_
  refine qX2_assign_1 (by assumption) ?_
  refine qX2_assign_4 ?_
  refine qX2_assign_5 ?_
  refine qX2_assign_6 ?_
  refine qX2_assign_7 (by assumption) (Nat.le_of_ble_eq_true rfl) (t_place h ?_)
  refine qX2_assign_10 ?_
  first | refine fX2_assign_11 (by assumption) (by omega) (by decide) ?_ | refine nX2_assign_11 (by assumption) (by omega) (by decide) ?_
  refine qX2_assign_12 ?_
  exact k
theorem t_reshape {v0 v1 v2 : Value} {x y : Int32} (hg : w.1 g = ob 1 [v0, v1, v2]) (k : P none (s_up w g (ob 1 [v0, .int x, .int y]))) : wpM G (d + 1) yX2_reshape (0, 0) [.ref g, .int x, .int y] w P := by
  refine eX2_reshape ?_
  refine qX2_reshape_0 ?_
  refine qX2_reshape_1 ?_
  refine qX2_reshape_2 (by assumption) ?_
  have hg2 : (s_up w g (ob 1 [v0, .int x, v2])).1 g = ob 1 [v0, .int x, v2] := s_upS
  refine qX2_reshape_5 ?_
  refine qX2_reshape_6 ?_
  refine qX2_reshape_7 (by assumption) ?_
  refine qX2_reshape_10 ?_
  rw [s_upup]
  exact k
theorem t_greatest (h : gAt G w g e R C a) (ha : ∀ k, k < R * C → a k ≤ 2000) (hd : okD R C) (k : P (some (.int (nI (mxF a (R * C))))) w) : wpM G (d + 2) yX2_greatest (0, 0) [.ref g] w P := by
  obtain ⟨hg, he⟩ := id h
  obtain ⟨d1, d2, d3, d4, d5⟩ := hd
  have hp : 1 ≤ R * C := Nat.mul_le_mul d1 d3
  refine eX2_greatest ?_
  refine qX2_greatest_0 ?_
  refine qX2_greatest_1 (by assumption) ?_
  refine qX2_greatest_4 ?_
  first | refine fX2_greatest_5 (by assumption) (by omega) (by decide) ?_ | refine nX2_greatest_5 (by assumption) (by omega) (by decide) ?_
  refine qX2_greatest_6 ?_
  refine qX2_greatest_7 ?_
  refine qX2_greatest_8 ?_
  have loop : ∀ n j m, j + n = R * C → 1 ≤ j → m = mxF a j → wp G (d + 1) mX2_greatest P 9 [some (.ref g), some (.int (nI m)), some (.int (nI j))] [] w (0, 0) := by
    intro n
    induction n with
    | zero =>
      intro j m hj h1 hm
      refine qX2_greatest_9 ?_
      refine qX2_greatest_10 ?_
      refine qX2_greatest_11 (by assumption) (Nat.le_of_ble_eq_true rfl) (t_size h ?_)
      refine nX2_greatest_14 (by omega) (by omega) (fun h14 => ?_) (fun h14 => by exfalso; omega)
      refine qX2_greatest_34 ?_
      refine qX2_greatest_35 ?_
      rw [hm, show j = R * C by omega]
      exact k
    | succ n ih =>
      intro j m hj h1 hm
      have hj2 : j < 12 := by omega
      have hm2 : m ≤ 2000 := by rw [hm]; exact mxF_le (fun k hk => ha k (by omega))
      have ha2 := ha j (by omega)
      refine qX2_greatest_9 ?_
      refine qX2_greatest_10 ?_
      refine qX2_greatest_11 (by assumption) (Nat.le_of_ble_eq_true rfl) (t_size h ?_)
      refine nX2_greatest_14 (by omega) (by omega) (fun h14 => by exfalso; omega) (fun h14 => ?_)
      refine qX2_greatest_17 ?_
      refine qX2_greatest_18 ?_
      refine qX2_greatest_19 (by assumption) ?_
      refine qX2_greatest_22 ?_
      first | refine fX2_greatest_23 (by assumption) (by omega) (by decide) ?_ | refine nX2_greatest_23 (by assumption) (by omega) (by decide) ?_
      refine nX2_greatest_24 (by omega) (by omega) (Nat.le_of_ble_eq_true rfl) ?_
      refine qX2_greatest_27 ?_
      first | refine nX2_greatest_28 ?_ | refine qX2_greatest_28 ?_
      refine qX2_greatest_31 ?_
      exact ih (j + 1) _ (by omega) (by omega) (by rw [hm]; rfl)
  exact loop (R * C - 1) 1 (a 0) (by omega) (Nat.le_refl 1) (by simp [mxF])
end GRID
