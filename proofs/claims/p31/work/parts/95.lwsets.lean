/-! the law gathers the sets that can be touched -/
theorem bit_up {f : Nat → Int64} {s S : Nat} (hs : s < 512) (hS : S < 512) : bitL (vp_updL f (s / 64) (f (s / 64) ||| 1 <<< ((nI (s % 64)).toInt64 &&& 63)) (S / 64)) (S % 64) = (bitL (f (S / 64)) (S % 64) || decide (S = s)) := by
  unfold vp_updL
  by_cases h : S / 64 = s / 64
  · have h1 : S % 64 < 64 := by omega
    have h2 : s % 64 < 64 := by omega
    simp only [h, if_true]
    rw [bitL_or, bitL_shl h2 h1, bitL_1 _ (by omega)]
    congr 1
    by_cases h3 : S = s
    · subst h3; simp
    · have h4 : ¬ S % 64 = s % 64 := by omega
      simp only [h3, decide_false, Bool.and_eq_false_iff, decide_eq_false_iff_not]
      omega
  · have h3 : ¬ S = s := fun z => h (by rw [z])
    simp [h, h3]
section LSETS
variable {G : sG} {d : Nat} {P : sQ} {w : sW} {p a R C : Nat} {f E : Nat → Nat}
theorem l_sets {pu ps : Nat} {v0 : Nat → Int32} {se0 : Nat → Int64} (h : lV G w p f a R C E) (hR3 : R ≤ 3) (hu : w.1 pu = aI G 4 v0) (hs : w.1 ps = aJ G 8 se0) (n1 : p ≠ pu) (n2 : p ≠ ps) (n3 : pu ≠ ps) (k : ∀ w' v' se', Fr w w' (fun q => q = pu ∨ q = ps) → w'.1 pu = aI G 4 v' → w'.1 ps = aJ G 8 se' → (∀ S, S < 512 → bitL (se' (S / 64)) (S % 64) = (decide (S < 2 ^ (R * C)) && !untN R C E S)) → P (some (.int (nI (2 ^ (R * C) - cnB (untN R C E) (2 ^ (R * C)))))) w') : wpM G (d + 3) yL_sets (0, 0) [.int (nI a), .ref p, .ref pu, .ref ps] w P := by
  have hd := h.2.2.2.2.2.1
  have h9 := h.2.2.2.2.2.2.1
  have hp2 : 2 ^ (R * C) ≤ 2 ^ 9 := Nat.pow_le_pow_right (by decide) h9
  have hp3 : 1 <<< (R * C) = 2 ^ (R * C) := Nat.one_shiftLeft _
  have nF : ¬ (p = pu ∨ p = ps) := by omega
  refine eL_sets ?_
  refine qL_sets_0 ?_
  refine qL_sets_1 ?_
  refine qL_sets_3 ?_
  refine qL_sets_4 ?_
  have LB : ∀ m s w2 v se, s + m = 2 ^ (R * C) → Fr w w2 (fun q => q = pu ∨ q = ps) → w2.1 pu = aI G 4 v → w2.1 ps = aJ G 8 se → (∀ S, S < 512 → bitL (se (S / 64)) (S % 64) = (decide (S < s) && !untN R C E S)) → wp G (d + 2) mL_sets P 27 [some (.int (nI a)), some (.ref p), some (.ref pu), some (.ref ps), some (.int (nI (s - cnB (untN R C E) s))), some (.int (nI s))] [] w2 (0, 0) := by
    intro m
    induction m with
    | zero =>
      intro s w2 v se hs hF hv hse hb
      have h2 := h.fr hF nF
      refine qL_sets_27 ?_
      refine qL_sets_29 ?_
      refine qL_sets_30 ?_
      refine qL_sets_31 ?_
      refine qL_sets_32 (Nat.le_of_ble_eq_true rfl) (l_many h2 ?_)
      refine nL_sets_35 (by omega) (by omega) ?_
      rw [hp3]
      refine nL_sets_36 (by omega) (by omega) (fun h36 => ?_) (fun h36 => by exfalso; omega)
      refine qL_sets_79 ?_
      refine qL_sets_81 ?_
      rw [show s = 2 ^ (R * C) by omega] at hb ⊢
      exact k w2 v se hF hv hse hb
    | succ m ih =>
      intro s w2 v se hs hF hv hse hb
      have h2 := h.fr hF nF
      have hcn := cnB_le (untN R C E) s
      refine qL_sets_27 ?_
      refine qL_sets_29 ?_
      refine qL_sets_30 ?_
      refine qL_sets_31 ?_
      refine qL_sets_32 (Nat.le_of_ble_eq_true rfl) (l_many h2 ?_)
      refine nL_sets_35 (by omega) (by omega) ?_
      rw [hp3]
      refine nL_sets_36 (by omega) (by omega) (fun h36 => by exfalso; omega) (fun h36 => ?_)
      refine qL_sets_39 ?_
      refine qL_sets_40 ?_
      refine qL_sets_42 ?_
      refine qL_sets_43 ?_
      refine qL_sets_44 (Nat.le_of_ble_eq_true rfl) (l_touches h2 hR3 (by omega) hv n1 (fun w3 v3 hF3 hv3 => ?_))
      have hse3 : w3.1 ps = aJ G 8 se := by rw [hF3.2 _ (Ne.symm n3)]; exact hse
      have hF' := hF.tr hF3 (fun q hq => Or.inl hq)
      cases hh : untN R C E s with
      | true =>
        rw [show nI (bN (!true)) = nI 0 from rfl]
        refine nL_sets_47 (by omega) (fun h47 => by exfalso; omega) (fun h47 => ?_)
        refine qL_sets_50 ?_
        first | refine nL_sets_73 ?_ | refine qL_sets_73 ?_
        refine qL_sets_76 ?_
        have hs2 := ih (s + 1) w3 v3 se (by omega) hF' hv3 hse3 (fun S hS => by
          rw [hb S hS]
          by_cases hSs : S = s
          · subst hSs; simp [hh]
          · rw [show decide (S < s + 1) = decide (S < s) from by rw [decide_eq_decide]; omega])
        rw [show s + 1 - cnB (untN R C E) (s + 1) = s - cnB (untN R C E) s by simp only [cnB, hh, if_true]; omega] at hs2
        exact hs2
      | false =>
        rw [show nI (bN (!false)) = nI 1 from rfl]
        refine nL_sets_47 (by omega) (fun h47 => ?_) (fun h47 => by exfalso; omega)
        refine qL_sets_53 ?_
        refine qL_sets_54 ?_
        refine qL_sets_56 ?_
        refine nL_sets_58 (by omega) (by omega) (by omega) ?_
        refine qL_sets_59 rfl rfl ?_
        refine nL_sets_60 (by assumption) (by omega) (by decide) ?_
        refine qL_sets_61 ?_
        refine qL_sets_62 ?_
        refine qL_sets_64 ?_
        refine nL_sets_66 (by omega) (by omega) (by omega) ?_
        refine qL_sets_67 ?_
        refine qL_sets_68 ?_
        refine nL_sets_69 hse3 (by omega) (by decide) ?_
        first | refine nL_sets_70 ?_ | refine qL_sets_70 ?_
        first | refine nL_sets_73 ?_ | refine qL_sets_73 ?_
        refine qL_sets_76 ?_
        have hs2 := ih (s + 1) _ v3 _ (by omega) (hF'.up (Or.inr rfl)) (by rw [s_upN n3]; exact hv3) s_upS (fun S hS => by
          rw [bit_up (s := s) (by omega) hS, hb S hS]
          by_cases hSs : S = s
          · subst hSs; simp [hh]
          · rw [show decide (S < s + 1) = decide (S < s) from by rw [decide_eq_decide]; omega]
            simp [hSs])
        rw [show s + 1 - cnB (untN R C E) (s + 1) = s - cnB (untN R C E) s + 1 by simp only [cnB, hh]; simp; omega] at hs2
        exact hs2
  have LA : ∀ m i w2 se, i + m = 8 → Fr w w2 (fun q => q = pu ∨ q = ps) → w2.1 pu = aI G 4 v0 → w2.1 ps = aJ G 8 se → (∀ j, j < i → se j = 0) → wp G (d + 2) mL_sets P 6 [some (.int (nI a)), some (.ref p), some (.ref pu), some (.ref ps), some (.int (nI 0)), some (.int (nI i))] [] w2 (0, 0) := by
    intro m
    induction m with
    | zero =>
      intro i w2 se hi hF hv hse h0
      refine qL_sets_6 ?_
      refine qL_sets_8 ?_
      refine nL_sets_10 (by omega) (by omega) (fun h10 => ?_) (fun h10 => by exfalso; omega)
      refine qL_sets_24 ?_
      refine qL_sets_25 ?_
      exact LB (2 ^ (R * C)) 0 w2 v0 se (by omega) hF hv hse (fun S hS => by rw [h0 _ (by omega), bitL_0]; simp)
    | succ m ih =>
      intro i w2 se hi hF hv hse h0
      refine qL_sets_6 ?_
      refine qL_sets_8 ?_
      refine nL_sets_10 (by omega) (by omega) (fun h10 => by exfalso; omega) (fun h10 => ?_)
      refine qL_sets_13 ?_
      refine qL_sets_14 ?_
      refine qL_sets_16 ?_
      refine nL_sets_17 (by assumption) (by omega) (by decide) ?_
      first | refine nL_sets_18 ?_ | refine qL_sets_18 ?_
      refine qL_sets_21 ?_
      refine ih (i + 1) _ _ (by omega) (hF.up (Or.inr rfl)) (by rw [s_upN n3]; exact hv) s_upS (fun j hj => ?_)
      unfold vp_updL
      by_cases hji : j = i
      · simp [hji]
      · simp only [hji, if_false]
        exact h0 j (by omega)
  exact LA 8 0 w se0 (by omega) Fr.rf hu hs (fun j hj => absurd hj (Nat.not_lt_zero j))
end LSETS
