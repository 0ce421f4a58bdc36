theorem tb64 (i : Nat) {t p : Nat} (ht : t < 64) : (i * 64 + t).testBit p = if p < 6 then t.testBit p else i.testBit (p - 6) := by
  have h : (2 ^ 6 * i + t).testBit p = if p < 6 then t.testBit p else i.testBit (p - 6) := Nat.testBit_two_pow_mul_add i (i := 6) (show t < 2 ^ 6 from ht) p
  rw [show i * 64 + t = 2 ^ 6 * i + t by omega]
  exact h
theorem lowT : ∀ p, p < 6 → ∀ t, t < 64 → (decide (2 ^ p ≤ t) && !(t - 2 ^ p).testBit p) = t.testBit p := by decide +kernel
theorem clo_hi (U : Nat → Bool) (n S : Nat) : clo U (n + 1) S = (clo U n S || (S.testBit n && clo U n (S - 2 ^ n))) := rfl
section COVERS2
variable {G : sG} {d : Nat} {P : sQ} {w : sW} {v n : Nat} {U : Nat → Bool} {fr pw : Nat → Nat}
set_option maxHeartbeats 1000000 in
theorem t_markSupersets (h : cvAt G w v n U fr pw) (hn : n ≤ 12) (k : ∀ w', Fr w w' (s4 v) → cvAt G w' v n (clo U n) fr pw → P none w') : wpM G (d + 1) yX1_markSupersets (0, 0) [.ref v] w P := by
  obtain ⟨f0, x1, x2, x3, x4, x5⟩ := id h
  have hp6 : ∀ p, p < 6 → 1 <<< p = 2 ^ p ∧ 1 * 2 ^ p ≤ 64 ∧ 2 ^ p < 64 := by decide
  refine eX1_markSupersets ?_
  refine qX1_markSupersets_0 ?_
  refine qX1_markSupersets_1 (by assumption) ?_
  refine qX1_markSupersets_4 ?_
  refine nX1_markSupersets_6 (by omega) (by omega) (Nat.le_of_ble_eq_true rfl) ?_
  refine qX1_markSupersets_9 ?_
  refine qX1_markSupersets_10 ?_
  refine qX1_markSupersets_11 ?_
  generalize hlow : min n 6 = low
  have hl6 : low ≤ 6 := by omega
  have ph2 : ∀ (w' : sW) (l3 l4 : Option Value), Fr w w' (s4 v) → cvAt G w' v n (clo U low) fr pw → wp G d mX1_markSupersets P 62 [some (.ref v), some (.int (nI low)), some (.int (nI 64)), l3, l4] [] w' (0, 0) := by
    intro w' l3 l4 hF hc
    refine qX1_markSupersets_62 ?_
    refine qX1_markSupersets_64 ?_
    have Lp : ∀ m p (w' : sW) (l3 l4 : Option Value), (p + m = n ∨ (m = 0 ∧ n ≤ p)) → 6 ≤ p → p ≤ 12 → Fr w w' (s4 v) → cvAt G w' v n (clo U (min n p)) fr pw → wp G d mX1_markSupersets P 65 [some (.ref v), some (.int (nI low)), some (.int (nI p)), l3, l4] [] w' (0, 0) := by
      intro m
      induction m with
      | zero =>
        intro p w' l3 l4 hp h6 hp12 hF hc
        obtain ⟨f, y1, y2, y3, y4, y5⟩ := id hc
        refine qX1_markSupersets_65 ?_
        refine qX1_markSupersets_66 ?_
        refine qX1_markSupersets_67 (by assumption) ?_
        refine nX1_markSupersets_70 (by omega) (by omega) (fun h70 => ?_) (fun h70 => by exfalso; omega)
        refine qX1_markSupersets_128 ?_
        exact k w' hF (by rw [show min n p = n by omega] at hc; exact hc)
      | succ m ih =>
        intro p w' l3 l4 hp h6 hp12 hF hc
        have hpn : p < n := by omega
        obtain ⟨f, y1, y2, y3, y4, y5⟩ := id hc
        obtain ⟨s1, s2, s3⟩ := hp6 (p - 6) (by omega)
        rw [show min n p = p by omega] at hc y5
        refine qX1_markSupersets_65 ?_
        refine qX1_markSupersets_66 ?_
        refine qX1_markSupersets_67 (by assumption) ?_
        refine nX1_markSupersets_70 (by omega) (by omega) (fun h70 => by exfalso; omega) (fun h70 => ?_)
        refine qX1_markSupersets_73 ?_
        refine qX1_markSupersets_74 ?_
        refine qX1_markSupersets_75 ?_
        first | refine nX1_markSupersets_77 (by omega) ?_ | refine qX1_markSupersets_77 ?_
        refine nX1_markSupersets_78 (by omega) (by omega) ?_
        refine qX1_markSupersets_79 ?_
        refine qX1_markSupersets_80 ?_
        refine qX1_markSupersets_81 ?_
        have hpow : 2 ^ (p - 6) * 64 = 2 ^ p := by
          rw [show (64 : Nat) = 2 ^ 6 from rfl, ← Nat.pow_add, show p - 6 + 6 = p by omega]
        have L2 : ∀ q i (w' : sW), i + q = 64 → Fr w w' (s4 v) → cvAt G w' v n (fun S => if S / 64 < i then clo U (p + 1) S else clo U p S) fr pw → wp G d mX1_markSupersets P 83 [some (.ref v), some (.int (nI low)), some (.int (nI p)), some (.int (nI (1 <<< (p - 6)))), some (.int (nI i))] [] w' (0, 0) := by
          intro q
          induction q with
          | zero =>
            intro i w' hi hF hc
            refine qX1_markSupersets_83 ?_
            refine qX1_markSupersets_85 ?_
            refine nX1_markSupersets_87 (by omega) (by omega) (fun h87 => ?_) (fun h87 => by exfalso; omega)
            first | refine nX1_markSupersets_122 ?_ | refine qX1_markSupersets_122 ?_
            refine qX1_markSupersets_125 ?_
            refine ih (p + 1) w' _ _ (by omega) (by omega) (by omega) hF (hc.ext (fun S hS => ?_))
            rw [if_pos (by omega), show min n (p + 1) = p + 1 by omega]
          | succ q ih2 =>
            intro i w' hi hF hc
            obtain ⟨f, y1, y2, y3, y4, y5⟩ := id hc
            have hle : i &&& 1 <<< (p - 6) ≤ i := Nat.and_le_left
            refine qX1_markSupersets_83 ?_
            refine qX1_markSupersets_85 ?_
            refine nX1_markSupersets_87 (by omega) (by omega) (fun h87 => by exfalso; omega) (fun h87 => ?_)
            refine qX1_markSupersets_90 ?_
            refine qX1_markSupersets_92 ?_
            first | refine nX1_markSupersets_93 ?_ | refine qX1_markSupersets_93 ?_
            refine nX1_markSupersets_94 (by omega) (fun h94 => ?_) (fun h94 => ?_)
            · rw [and_bit] at h94
              first | refine nX1_markSupersets_116 ?_ | refine qX1_markSupersets_116 ?_
              refine qX1_markSupersets_119 ?_
              refine ih2 (i + 1) w' (by omega) hF (hc.ext (fun S hS => ?_))
              by_cases h1 : S / 64 < i
              · rw [if_pos h1, if_pos (by omega)]
              · rw [if_neg h1]
                by_cases h2 : S / 64 < i + 1
                · rw [if_pos h2, clo_hi]
                  have hb : S.testBit p = false := by
                    have := tb64 i (t := S % 64) (p := p) (by omega)
                    rw [if_neg (by omega), h94, show i * 64 + S % 64 = S by omega] at this
                    exact this
                  rw [hb]
                  simp
                · rw [if_neg h2]
            · have hib : i.testBit (p - 6) = true := by
                cases hq : i.testBit (p - 6) with
                | true => rfl
                | false => exact absurd ((and_bit i (p - 6)).mpr hq) h94
              have hge : 2 ^ (p - 6) ≤ i := Nat.ge_two_pow_of_testBit hib
              have hpos := Nat.two_pow_pos (p - 6)
              refine qX1_markSupersets_97 ?_
              refine qX1_markSupersets_98 (by assumption) ?_
              refine qX1_markSupersets_101 ?_
              refine qX1_markSupersets_103 rfl rfl ?_
              refine nX1_markSupersets_104 (by assumption) (by omega) (by decide) ?_
              refine qX1_markSupersets_105 ?_
              refine qX1_markSupersets_106 (by assumption) ?_
              refine qX1_markSupersets_109 ?_
              refine qX1_markSupersets_111 ?_
              first | refine nX1_markSupersets_112 (by omega) ?_ | refine qX1_markSupersets_112 ?_
              refine nX1_markSupersets_113 (by assumption) (by omega) (by decide) ?_
              refine qX1_markSupersets_114 ?_
              refine nX1_markSupersets_115 (by assumption) (by omega) (by decide) ?_
              first | refine nX1_markSupersets_116 ?_ | refine qX1_markSupersets_116 ?_
              refine qX1_markSupersets_119 ?_
              refine ih2 (i + 1) _ (by omega) (hF.up ⟨by omega, by omega⟩) ⟨_, by rw [s_upN (by omega)]; exact y1, s_upS, by rw [s_upN (by omega)]; exact y3, by rw [s_upN (by omega)]; exact y4, fun j t hj ht => ?_⟩
              have y6 : ∀ j, j < 64 → bitL (f j) t = (if (j * 64 + t) / 64 < i then clo U (p + 1) (j * 64 + t) else clo U p (j * 64 + t)) := fun j hj => y5 j t hj ht
              show _ = (if (j * 64 + t) / 64 < i + 1 then clo U (p + 1) (j * 64 + t) else clo U p (j * 64 + t))
              by_cases hji : j = i
              · subst hji
                rw [pk_uLs, bitL_or, s1, y6 j hj, y6 (j - 2 ^ (p - 6)) (by omega), if_neg (by omega), if_pos (by omega), if_pos (by omega), clo_hi, clo_hi]
                have e1 : ((j - 2 ^ (p - 6)) * 64 + t).testBit p = false := by
                  rw [tb64 _ ht, if_neg (by omega)]
                  have h3 : j = 2 ^ (p - 6) + (j - 2 ^ (p - 6)) := by omega
                  rw [h3, Nat.testBit_two_pow_add_eq] at hib
                  simpa using hib
                have e2 : (j * 64 + t).testBit p = true := by
                  rw [tb64 _ ht, if_neg (by omega)]
                  exact hib
                have e3 : (j - 2 ^ (p - 6)) * 64 + t = j * 64 + t - 2 ^ p := by
                  rw [Nat.sub_mul, hpow]
                  have : 2 ^ (p - 6) * 64 ≤ j * 64 := Nat.mul_le_mul_right 64 hge
                  omega
                rw [e1, e2, e3]
                simp
              · rw [pk_uLn hji, y6 j hj]
                by_cases h1 : j < i
                · rw [if_pos (by omega), if_pos (by omega)]
                · rw [if_neg (by omega), if_neg (by omega)]
        refine L2 64 0 w' (by omega) hF (hc.ext (fun S hS => ?_))
        rw [if_neg (Nat.not_lt_zero _)]
    by_cases h6 : n ≤ 6
    · exact Lp 0 6 w' l3 l4 (Or.inr ⟨rfl, h6⟩) (Nat.le_refl 6) (by omega) hF (by rw [hlow]; exact hc)
    · exact Lp (n - 6) 6 w' l3 l4 (Or.inl (by omega)) (Nat.le_refl 6) (by omega) hF (by rw [hlow]; exact hc)
  have L1 : ∀ m i (w' : sW) (l3 l4 : Option Value), i + m = 64 → Fr w w' (s4 v) → cvAt G w' v n (fun S => if S / 64 < i then clo U low S else U S) fr pw → wp G d mX1_markSupersets P 12 [some (.ref v), some (.int (nI low)), some (.int (nI i)), l3, l4] [] w' (0, 0) := by
    intro m
    induction m with
    | zero =>
      intro i w' l3 l4 hi hF hc
      have : i = 64 := by omega
      subst this
      refine qX1_markSupersets_12 ?_
      refine qX1_markSupersets_13 ?_
      refine nX1_markSupersets_15 (by omega) (by omega) (fun h15 => ?_) (fun h15 => by exfalso; omega)
      refine ph2 w' l3 l4 hF (hc.ext (fun S hS => ?_))
      rw [if_pos (by omega)]
    | succ m ih =>
      intro i w' l3 l4 hi hF hc
      refine qX1_markSupersets_12 ?_
      refine qX1_markSupersets_13 ?_
      refine nX1_markSupersets_15 (by omega) (by omega) (fun h15 => by exfalso; omega) (fun h15 => ?_)
      refine qX1_markSupersets_18 ?_
      refine qX1_markSupersets_19 ?_
      have L2 : ∀ q p (w' : sW), p + q = low → Fr w w' (s4 v) → cvAt G w' v n (fun S => if S / 64 < i then clo U low S else if S / 64 = i then clo U p S else U S) fr pw → wp G d mX1_markSupersets P 20 [some (.ref v), some (.int (nI low)), some (.int (nI i)), some (.int (nI p)), l4] [] w' (0, 0) := by
        intro q
        induction q with
        | zero =>
          intro p w' hp hF hc
          refine qX1_markSupersets_20 ?_
          refine qX1_markSupersets_21 ?_
          refine nX1_markSupersets_22 (by omega) (by omega) (fun h22 => ?_) (fun h22 => by exfalso; omega)
          first | refine nX1_markSupersets_56 ?_ | refine qX1_markSupersets_56 ?_
          refine qX1_markSupersets_59 ?_
          refine ih (i + 1) w' _ _ (by omega) hF (hc.ext (fun S hS => ?_))
          by_cases h1 : S / 64 < i
          · rw [if_pos h1, if_pos (by omega)]
          · rw [if_neg h1]
            by_cases h2 : S / 64 = i
            · rw [if_pos h2, if_pos (by omega), show p = low by omega]
            · rw [if_neg h2, if_neg (by omega)]
        | succ q ih2 =>
          intro p w' hp hF hc
          obtain ⟨f, y1, y2, y3, y4, y5⟩ := id hc
          obtain ⟨s1, s2, s3⟩ := hp6 p (by omega)
          refine qX1_markSupersets_20 ?_
          refine qX1_markSupersets_21 ?_
          refine nX1_markSupersets_22 (by omega) (by omega) (fun h22 => by exfalso; omega) (fun h22 => ?_)
          refine qX1_markSupersets_25 ?_
          refine qX1_markSupersets_26 (by assumption) ?_
          refine qX1_markSupersets_29 ?_
          refine qX1_markSupersets_30 rfl rfl ?_
          refine nX1_markSupersets_31 (by assumption) (by omega) (by decide) ?_
          refine qX1_markSupersets_32 ?_
          refine qX1_markSupersets_33 (by assumption) ?_
          refine qX1_markSupersets_36 ?_
          refine nX1_markSupersets_37 (by assumption) (by omega) (by decide) ?_
          refine qX1_markSupersets_38 ?_
          refine qX1_markSupersets_41 ?_
          refine wX1_markSupersets_42 (by omega) ?_
          refine qX1_markSupersets_43 ?_
          refine qX1_markSupersets_44 ?_
          refine qX1_markSupersets_45 ?_
          refine nX1_markSupersets_46 (by omega) (by omega) ?_
          rw [s1]
          refine qX1_markSupersets_47 ?_
          refine qX1_markSupersets_48 ?_
          refine nX1_markSupersets_49 (by assumption) (by omega) (by decide) ?_
          first | refine nX1_markSupersets_50 ?_ | refine qX1_markSupersets_50 ?_
          refine qX1_markSupersets_53 ?_
          refine ih2 (p + 1) _ (by omega) (hF.up ⟨by omega, by omega⟩) ⟨_, by rw [s_upN (by omega)]; exact y1, s_upS, by rw [s_upN (by omega)]; exact y3, by rw [s_upN (by omega)]; exact y4, fun j t hj ht => ?_⟩
          have y6 : ∀ j t, j < 64 → t < 64 → bitL (f j) t = (if (j * 64 + t) / 64 < i then clo U low (j * 64 + t) else if (j * 64 + t) / 64 = i then clo U p (j * 64 + t) else U (j * 64 + t)) := fun j t hj ht => y5 j t hj ht
          show _ = (if (j * 64 + t) / 64 < i then clo U low (j * 64 + t) else if (j * 64 + t) / 64 = i then clo U (p + 1) (j * 64 + t) else U (j * 64 + t))
          by_cases hji : j = i
          · subst hji
            rw [pk_uLs, bitL_or, y6 j t hj ht, if_neg (by omega), if_pos (by omega), if_neg (by omega), if_pos (by omega), clo_hi, bitL_shl (by omega) ht, bitL_and]
            congr 1
            rw [tb64 _ ht, if_pos (by omega), ← lowT p (by omega) t ht]
            by_cases hpt : 2 ^ p ≤ t
            · rw [y6 j (t - 2 ^ p) hj (by omega), if_neg (by omega), if_pos (by omega), bitL_wW p (by omega) _ (by omega), show j * 64 + t - 2 ^ p = j * 64 + (t - 2 ^ p) by omega]
              simp [hpt, Bool.and_comm]
            · simp [hpt]
          · rw [pk_uLn hji, y6 j t hj ht]
            have e1 : ¬ (j * 64 + t) / 64 = i := by omega
            rw [if_neg e1, if_neg e1]
      refine L2 low 0 w' (by omega) hF (hc.ext (fun S hS => ?_))
      by_cases h1 : S / 64 < i
      · rw [if_pos h1, if_pos h1]
      · rw [if_neg h1, if_neg h1]
        split <;> rfl
  refine L1 64 0 w _ _ (by omega) Fr.rf (h.ext (fun S hS => ?_))
  rw [if_neg (Nat.not_lt_zero _)]
end COVERS2
