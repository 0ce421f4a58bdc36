/-! the reference: texts, load -/
def oS (v : Option Nat) : Int32 := match v with
  | none => -6
  | some x => nI x
theorem nI_m6 {x : Nat} (h : x < 100000) : ¬ nI x = -6 := by
  rw [nI_Z, show (-6 : Int32) = iZ (-6) by decide, iZ_eq ⟨by omega, by omega⟩ ⟨by decide, by decide⟩]
  omega
theorem getD_l {l : List Nat} {x j : Nat} (h : j < l.length) : (l ++ [x]).getD j 0 = l.getD j 0 := by
  rw [List.getD_eq_getElem?_getD, List.getD_eq_getElem?_getD, List.getElem?_append_left h]
theorem getD_e {l : List Nat} {x : Nat} : (l ++ [x]).getD l.length 0 = x := by
  rw [List.getD_eq_getElem?_getD, List.getElem?_append_right (Nat.le_refl _)]
  simp
section REFL
variable {G : sG} {d D : Nat} {P : sQ} {w : sW} {v : M7} {st : Nat → Nat} {s : xS}
theorem m_takes {tm tr x : Nat} {td lg : Nat → Nat} (h : mO w D v) (h1 : v.2.2.1 = nI tm) (h2 : v.2.2.2.1 = nI tr) (htd : w.1 (D + 6) = aN G 48 td) (hlg : w.1 (D + 7) = aN G 48 lg) (l1 : tm < 48) (l2 : tr < 48) (k : ∀ w', Fr w w' (fun q => q = D ∨ q = D + 6 ∨ q = D + 7) → mO w' D (v.1, v.2.1, nI (tm + 1), nI tr, v.2.2.2.2.1, v.2.2.2.2.2.1, v.2.2.2.2.2.2) → w'.1 (D + 6) = aN G 48 (updN td tm x) → w'.1 (D + 7) = aN G 48 (updN lg tr (lg tr + 1)) → P none w') : wpM G (d + 1) yX10_takes (0, 0) [.ref D, .int (nI x)] w P := by
  obtain ⟨r1, r2, r3, r4, r5⟩ := v
  have h1 : r3 = nI tm := h1
  have h2 : r4 = nI tr := by exact h2
  subst h1
  subst h2
  refine eX10_takes ?_
  refine qX10_takes_0 ?_
  refine qX10_takes_1 (by assumption) ?_
  refine qX10_takes_4 ?_
  refine qX10_takes_5 (by assumption) ?_
  refine qX10_takes_8 ?_
  first | refine fX10_takes_9 (by assumption) (by omega) (by decide) ?_ | refine nX10_takes_9 (by assumption) (by omega) (by decide) ?_
  generalize hw1 : s_up w (D + 6) _ = w1
  have hF1 : Fr w w1 (fun q => q = D + 6) := by rw [← hw1]; exact Fr.rf.up rfl
  have q1 : w1.1 (D + 6) = aN G 48 (updN td tm x) := by rw [← hw1]; exact s_upS
  have m1 : mO w1 D (r1, r2, nI tm, nI tr, r5) := (hF1.2 D (by omega)).trans h
  refine qX10_takes_10 ?_
  refine qX10_takes_11 rfl ?_
  refine qX10_takes_12 (by assumption) ?_
  refine qX10_takes_15 ?_
  first | refine nX10_takes_16 ?_ | refine qX10_takes_16 ?_
  refine qX10_takes_17 (by assumption) ?_
  generalize hw2 : s_up w1 D _ = w2
  have hF2 : Fr w1 w2 (fun q => q = D) := by rw [← hw2]; exact Fr.rf.up rfl
  have m2 : mO w2 D (r1, r2, nI (tm + 1), nI tr, r5) := by rw [← hw2]; exact s_upS
  have q2 : w2.1 (D + 7) = aN G 48 lg := by rw [hF2.2 _ (by omega), hF1.2 _ (by omega)]; exact hlg
  refine qX10_takes_20 ?_
  refine qX10_takes_21 (by assumption) ?_
  refine qX10_takes_24 ?_
  refine qX10_takes_25 (by assumption) ?_
  refine qX10_takes_28 rfl rfl ?_
  first | refine fX10_takes_29 (by assumption) (by omega) (by decide) ?_ | refine nX10_takes_29 (by assumption) (by omega) (by decide) ?_
  refine qX10_takes_30 ?_
  first | refine nX10_takes_31 ?_ | refine qX10_takes_31 ?_
  first | refine fX10_takes_32 (by assumption) (by omega) (by decide) ?_ | refine nX10_takes_32 (by assumption) (by omega) (by decide) ?_
  refine qX10_takes_33 ?_
  have hF3 : Fr w w2 (fun q => q = D ∨ q = D + 6 ∨ q = D + 7) := (hF1.mono (fun q hq => Or.inr (Or.inl hq))).tr hF2 (fun q hq => Or.inl hq)
  exact k _ (hF3.up (Or.inr (Or.inr rfl))) (by
    show (s_up w2 (D + 7) _).1 D = _
    rw [s_upN (by omega)]
    exact m2) (by rw [s_upN (by omega), hF2.2 _ (by omega)]; exact q1) s_upS
def ffI (c td lg : Nat → Nat) (n : Nat) (tm tr : Int32) : Prop := tm = nI (vlS c n).length ∧ tr = nI (lnS c n).length ∧ (∀ j, j < (vlS c n).length → td j = (vlS c n).getD j 0) ∧ (∀ j, j < (lnS c n).length → lg j = (lnS c n).getD j 0) ∧ (vlS c n).length ≤ 41 ∧ (lnS c n).length ≤ 41
set_option maxHeartbeats 2000000 in
theorem m_findFault {n : Nat} {c pd td lg : Nat → Nat} (h : mO w D v) (hn : v.2.1 = n) (hn80 : n ≤ 80) (hpd : w.1 (D + 5) = aN G 80 pd) (hc : ∀ k, k < n → pd k = c k) (hb : ∀ k, k < n → c k < 256) (htd : w.1 (D + 6) = aN G 48 td) (hlg : w.1 (D + 7) = aN G 48 lg) (k : ∀ w' td' lg' tm tr, Fr w w' (fun q => q = D ∨ q = D + 6 ∨ q = D + 7) → mO w' D (v.1, v.2.1, tm, tr, v.2.2.2.2.1, v.2.2.2.2.2.1, v.2.2.2.2.2.2) → w'.1 (D + 6) = aN G 48 td' → w'.1 (D + 7) = aN G 48 lg' → (fF c n 0 none = none → ffI c td' lg' n tm tr) → P (some (.int (fI (fF c n 0 none)))) w') : wpM G (d + 2) yX10_findFault (0, 0) [.ref D] w P := by
  obtain ⟨r1, r2, r3, r4, r5⟩ := v
  have hn : r2 = n := hn
  subst hn
  refine eX10_findFault ?_
  refine qX10_findFault_0 ?_
  refine qX10_findFault_2 ?_
  refine qX10_findFault_3 ?_
  refine qX10_findFault_4 ?_
  refine qX10_findFault_5 (by assumption) ?_
  generalize hw1 : s_up w D _ = w1
  have hF1 : Fr w w1 (fun q => q = D) := by rw [← hw1]; exact Fr.rf.up rfl
  have m1 : mO w1 D (r1, r2, nI 0, r4, r5) := by rw [← hw1]; exact s_upS
  refine qX10_findFault_8 ?_
  refine qX10_findFault_9 ?_
  refine qX10_findFault_10 (by assumption) ?_
  generalize hw2 : s_up w1 D _ = w2
  have hF2 : Fr w w2 (fun q => q = D) := by rw [← hw2]; exact hF1.up rfl
  have m2 : mO w2 D (r1, r2, nI 0, nI 0, r5) := by rw [← hw2]; exact s_upS
  have q2 : w2.1 (D + 7) = aN G 48 lg := by rw [hF2.2 _ (by omega)]; exact hlg
  refine qX10_findFault_13 ?_
  refine qX10_findFault_14 (by assumption) ?_
  refine qX10_findFault_17 ?_
  refine qX10_findFault_18 ?_
  first | refine fX10_findFault_19 (by assumption) (by omega) (by decide) ?_ | refine nX10_findFault_19 (by assumption) (by omega) (by decide) ?_
  generalize hw3 : s_up w2 (D + 7) _ = w3
  have hF3 : Fr w w3 (fun q => q = D ∨ q = D + 6 ∨ q = D + 7) := by rw [← hw3]; exact (hF2.mono (fun q hq => Or.inl hq)).up (Or.inr (Or.inr rfl))
  have m3 : mO w3 D (r1, r2, nI 0, nI 0, r5) := by
    show w3.1 D = _
    rw [← hw3, s_upN (by omega)]
    exact m2
  have q3 : w3.1 (D + 7) = aN G 48 (updN lg 0 0) := by rw [← hw3]; exact s_upS
  have q4 : w3.1 (D + 6) = aN G 48 td := by rw [← hw3, s_upN (by omega), hF2.2 _ (by omega)]; exact htd
  refine qX10_findFault_20 ?_
  refine qX10_findFault_21 ?_
  have L : ∀ m j (vo : Option Nat) (w' : sW) (td' lg' : Nat → Nat) (l3 l4 l5 l6 : Option Value), j + m = r2 → Fr w w' (fun q => q = D ∨ q = D + 6 ∨ q = D + 7) → mO w' D (r1, r2, nI (rdv c j).1.length, nI (msr c j).1.length, r5) → w'.1 (D + 6) = aN G 48 td' → w'.1 (D + 7) = aN G 48 lg' → (rdv c j).2 = vo.getD 0 → (∀ x, vo = some x → x ≤ 999) → 2 * (rdv c j).1.length ≤ j → (vo ≠ none → 2 * (rdv c j).1.length + 1 ≤ j) → (msr c j).1.length ≤ (rdv c j).1.length → (∀ q, q < (rdv c j).1.length → td' q = (rdv c j).1.getD q 0) → (∀ q, q < (msr c j).1.length → lg' q = (msr c j).1.getD q 0) → lg' (msr c j).1.length = (msr c j).2 → fF c r2 0 none = fF c m j vo → wp G (d + 1) mX10_findFault P 22 [some (.ref D), some (.int (oS vo)), some (.int (nI j)), l3, l4, l5, l6] [] w' (0, 0) := by
    intro m
    induction m with
    | zero =>
      intro j vo w' td' lg' l3 l4 l5 l6 hj hF m1 q1 q2 i1 i2 i3 i3' i4 i5 i6 i6' i7
      have hje : j = r2 := by omega
      subst hje
      refine qX10_findFault_22 ?_
      refine qX10_findFault_23 ?_
      refine qX10_findFault_24 (by assumption) ?_
      show wp G (d + 1) mX10_findFault P 27 _ (.int (nI j) :: .int (nI j) :: []) w' (0, 0)
      refine nX10_findFault_27 (by omega) (by omega) (fun h27 => ?_) (fun h27 => by exfalso; omega)
      refine qX10_findFault_204 ?_
      refine qX10_findFault_205 ?_
      cases vo with
      | none =>
        have e : fF c j 0 none = some j := i7
        rw [e] at k
        refine qX10_findFault_207 (fun h => absurd rfl h) (fun _ => ?_)
        refine qX10_findFault_210 ?_
        refine qX10_findFault_211 (by assumption) ?_
        refine qX10_findFault_214 ?_
        exact k w' td' lg' _ _ hF m1 q1 q2 (fun z => absurd z (by simp))
      | some x =>
        have hx := i2 x rfl
        have e : fF c j 0 none = none := i7
        rw [e] at k
        have i3'' := i3' (by simp)
        have i1 : (rdv c j).2 = x := i1
        refine qX10_findFault_207 (fun _ => ?_) (fun h => absurd h (nI_m6 (by omega)))
        refine qX10_findFault_215 ?_
        refine qX10_findFault_216 ?_
        show wp G (d + 1) mX10_findFault P 217 _ (.int (nI x) :: _) w' (0, 0)
        refine qX10_findFault_217 (by assumption) (Nat.le_of_ble_eq_true rfl) (m_takes m1 rfl rfl q1 q2 (by omega) (by omega) (fun w4 hF4 m4 q5 q6 => ?_))
        refine qX10_findFault_220 ?_
        refine qX10_findFault_221 rfl ?_
        refine qX10_findFault_222 (by assumption) ?_
        refine qX10_findFault_225 ?_
        first | refine nX10_findFault_226 ?_ | refine qX10_findFault_226 ?_
        refine qX10_findFault_227 (by assumption) ?_
        generalize hw5 : s_up w4 D _ = w5
        have hF5 : Fr w w5 (fun q => q = D ∨ q = D + 6 ∨ q = D + 7) := by rw [← hw5]; exact (hF.tr hF4 (fun q hq => hq)).up (Or.inl rfl)
        have m5 : mO w5 D (r1, j, nI ((rdv c j).1.length + 1), nI ((msr c j).1.length + 1), r5) := by rw [← hw5]; exact s_upS
        refine qX10_findFault_230 ?_
        refine qX10_findFault_232 ?_
        refine k w5 _ _ _ _ hF5 m5 (by rw [← hw5, s_upN (by omega)]; exact q5) (by rw [← hw5, s_upN (by omega)]; exact q6) (fun _ => ?_)
        have v1 : (vlS c j).length = (rdv c j).1.length + 1 := by unfold vlS; simp
        have v2 : (lnS c j).length = (msr c j).1.length + 1 := by unfold lnS; simp
        refine ⟨by rw [v1], by rw [v2], fun q hq => ?_, fun q hq => ?_, by omega, by omega⟩
        · rw [v1] at hq
          unfold vlS
          by_cases hqe : q = (rdv c j).1.length
          · subst hqe; rw [updN_s, getD_e, i1]
          · rw [updN_n hqe, getD_l (by omega)]; exact i5 q (by omega)
        · rw [v2] at hq
          unfold lnS
          by_cases hqe : q = (msr c j).1.length
          · subst hqe; rw [updN_s, getD_e, i6']
          · rw [updN_n hqe, getD_l (by omega)]; exact i6 q (by omega)
    | succ m ih =>
      intro j vo w' td' lg' l3 l4 l5 l6 hj hF m1 q1 q2 i1 i2 i3 i3' i4 i5 i6 i6' i7
      have hx := hb j (by omega)
      have q5 : w'.1 (D + 5) = aN G 80 pd := by rw [hF.2 _ (by omega)]; exact hpd
      refine qX10_findFault_22 ?_
      refine qX10_findFault_23 ?_
      refine qX10_findFault_24 (by assumption) ?_
      show wp G (d + 1) mX10_findFault P 27 _ (.int (nI r2) :: .int (nI j) :: []) w' (0, 0)
      refine nX10_findFault_27 (by omega) (by omega) (fun h27 => by exfalso; omega) (fun h27 => ?_)
      refine qX10_findFault_30 ?_
      refine qX10_findFault_31 (by assumption) ?_
      refine qX10_findFault_34 ?_
      first | refine fX10_findFault_35 (by assumption) (by omega) (by decide) ?_ | refine nX10_findFault_35 (by assumption) (by omega) (by decide) ?_
      rw [hc j (by omega)]
      have bad : ∀ (l4 l5 l6 : Option Value), fF c r2 0 none = some j → wp G (d + 1) mX10_findFault P 131 [some (.ref D), some (.int (oS vo)), some (.int (nI j)), some (.int (nI (c j))), l4, l5, l6] [] w' (0, 0) := by
        intro l4 l5 l6 e
        rw [e] at k
        refine qX10_findFault_131 ?_
        refine qX10_findFault_132 ?_
        exact k w' td' lg' _ _ hF m1 q1 q2 (fun z => absurd z (by simp))
      simp only [fF] at i7
      refine qX10_findFault_36 ?_
      refine qX10_findFault_37 ?_
      refine qX10_findFault_38 ?_
      refine qX10_findFault_40 ?_
      refine qX10_findFault_42 (Nat.le_of_ble_eq_true rfl) (m_within (fun h1 h2 => ?_) (fun hno => ?_))
      · rw [nI_leI (by decide) (by omega)] at h1
        rw [nI_leI (by omega) (by decide)] at h2
        have hdg : isDg (c j) = true := by simp [isDg, h1, h2]
        have n1 : ¬ c j = 59 := by omega
        have n2 : ¬ c j = 44 := by omega
        rw [hdg, if_pos rfl] at i7
        have hr : rdv c (j + 1) = ((rdv c j).1, (rdv c j).2 * 10 + (c j - 48)) := by simp only [rdv]; rw [hdg, if_pos rfl]
        have hm : msr c (j + 1) = msr c j := by simp only [msr]; rw [if_neg n1, if_neg n2]
        have good : ∀ x, x ≤ 999 → (rdv c j).2 * 10 + (c j - 48) = x → fF c r2 0 none = fF c m (j + 1) (some x) → ∀ l5 : Option Value, wp G (d + 1) mX10_findFault P 197 [some (.ref D), some (.int (oS vo)), some (.int (nI j)), some (.int (nI (c j))), some (.int (nI (c j - 48))), l5, some (.int (nI 0))] [.int (nI x)] w' (0, 0) := by
          intro x hx9 hxe e l5
          refine qX10_findFault_197 ?_
          first | refine nX10_findFault_198 ?_ | refine qX10_findFault_198 ?_
          refine qX10_findFault_201 ?_
          refine ih (j + 1) (some x) w' td' lg' _ _ _ _ (by omega) hF ?_ q1 q2 ?_ (fun y hy => by cases hy; exact hx9) ?_ (fun _ => ?_) ?_ ?_ ?_ ?_ e
          · rw [hr, hm]; exact m1
          · rw [hr]; exact hxe
          · rw [hr]; show 2 * (rdv c j).1.length ≤ j + 1; omega
          · rw [hr]; show 2 * (rdv c j).1.length + 1 ≤ j + 1; omega
          · rw [hr, hm]; exact i4
          · rw [hr]; exact i5
          · rw [hm]; exact i6
          · rw [hm]; exact i6'
        have nosign : ∀ (b : Bool), (b = true → wp G (d + 1) mX10_findFault P 133 [some (.ref D), some (.int (oS vo)), some (.int (nI j)), some (.int (nI (c j))), some (.int (nI (c j - 48))), some (.int (nI (tf b))), some (.int (nI 0))] [] w' (0, 0)) → (b = false → fF c r2 0 none = some j) → wp G (d + 1) mX10_findFault P 94 [some (.ref D), some (.int (oS vo)), some (.int (nI j)), some (.int (nI (c j))), some (.int (nI (c j - 48))), l5, l6] [.int (nI (tf b))] w' (0, 0) := by
          intro b hbt hbf
          have aft : wp G (d + 1) mX10_findFault P 118 [some (.ref D), some (.int (oS vo)), some (.int (nI j)), some (.int (nI (c j))), some (.int (nI (c j - 48))), some (.int (nI (tf b))), l6] [] w' (0, 0) := by
            refine qX10_findFault_118 ?_
            refine qX10_findFault_119 ?_
            refine qX10_findFault_121 ?_
            cases b with
            | true =>
              show wp G (d + 1) mX10_findFault P 123 _ (.int (nI 1) :: []) w' (0, 0)
              refine nX10_findFault_123 (by omega) (fun h123 => ?_) (fun h123 => by exfalso; omega)
              exact hbt rfl
            | false =>
              show wp G (d + 1) mX10_findFault P 123 _ (.int (nI 0) :: []) w' (0, 0)
              refine nX10_findFault_123 (by omega) (fun h123 => by exfalso; omega) (fun h123 => ?_)
              refine qX10_findFault_126 ?_
              refine nX10_findFault_128 (by omega) (fun h128 => by exfalso; omega) (fun h128 => ?_)
              exact bad _ _ _ (hbf rfl)
          refine qX10_findFault_94 ?_
          refine qX10_findFault_96 ?_
          refine qX10_findFault_97 ?_
          refine qX10_findFault_99 (fun h99 => ?_) (fun h99 => ?_)
          · exact aft
          · refine qX10_findFault_102 ?_
            refine qX10_findFault_103 ?_
            refine nX10_findFault_105 (by omega) (by omega) (fun h105 => by exfalso; omega) (fun h105 => ?_)
            refine qX10_findFault_108 ?_
            refine qX10_findFault_109 ?_
            refine nX10_findFault_111 (by omega) (by omega) (fun h111 => ?_) (fun h111 => by exfalso; omega)
            exact aft
        refine nX10_findFault_45 (by omega) (fun h45 => by exfalso; omega) (fun h45 => ?_)
        refine qX10_findFault_48 ?_
        refine qX10_findFault_49 ?_
        first | refine nX10_findFault_51 (by omega) ?_ | refine qX10_findFault_51 ?_
        refine qX10_findFault_52 ?_
        refine qX10_findFault_57 ?_
        refine qX10_findFault_59 ?_
        refine qX10_findFault_61 ?_
        refine qX10_findFault_63 (fun h => absurd h (nI_m6 (by omega))) (fun _ => ?_)
        refine qX10_findFault_66 ?_
        refine qX10_findFault_67 ?_
        cases vo with
        | none =>
          have i7 : fF c r2 0 none = fF c m (j + 1) (some (c j - 48)) := i7
          refine qX10_findFault_69 (fun _ => ?_) (fun h => absurd rfl h)
          refine qX10_findFault_89 ?_
          refine qX10_findFault_90 ?_
          refine nosign true (fun _ => ?_) (fun z => absurd z (by decide))
          refine qX10_findFault_133 ?_
          refine nX10_findFault_135 (by omega) (fun h135 => ?_) (fun h135 => by exfalso; omega)
          refine qX10_findFault_143 ?_
          refine qX10_findFault_144 ?_
          refine nX10_findFault_146 (by omega) (by omega) (fun h146 => ?_) (fun h146 => by exfalso; omega)
          refine qX10_findFault_169 ?_
          refine nX10_findFault_171 (by omega) (fun h171 => ?_) (fun h171 => by exfalso; omega)
          refine qX10_findFault_179 ?_
          refine qX10_findFault_180 ?_
          refine qX10_findFault_182 (fun h => absurd rfl h) (fun _ => ?_)
          refine qX10_findFault_185 ?_
          refine qX10_findFault_187 ?_
          exact good (c j - 48) (by omega) (by rw [i1]; simp) i7 _
        | some y =>
          have hy := i2 y rfl
          have i7 : fF c r2 0 none = if y = 0 ∨ 999 < y * 10 + (c j - 48) then some j else fF c m (j + 1) (some (y * 10 + (c j - 48))) := i7
          have bd2 : (y = 0 ∨ 999 < y * 10 + (c j - 48)) → wp G (d + 1) mX10_findFault P 93 [some (.ref D), some (.int (oS (some y))), some (.int (nI j)), some (.int (nI (c j))), some (.int (nI (c j - 48))), l5, l6] [] w' (0, 0) := by
            intro hh
            rw [if_pos hh] at i7
            refine qX10_findFault_93 ?_
            exact nosign false (fun z => absurd z (by decide)) (fun _ => i7)
          refine qX10_findFault_69 (fun h => absurd h (nI_m6 (by omega))) (fun _ => ?_)
          refine qX10_findFault_72 ?_
          show wp G (d + 1) mX10_findFault P 73 _ (.int (nI y) :: []) w' (0, 0)
          refine nX10_findFault_73 (by omega) (fun h73 => ?_) (fun h73 => ?_)
          · exact bd2 (Or.inl (by omega))
          · refine qX10_findFault_76 ?_
            refine qX10_findFault_78 ?_
            show wp G (d + 1) mX10_findFault P 79 _ (.int (nI y) :: _) w' (0, 0)
            first | refine nX10_findFault_79 ?_ | refine qX10_findFault_79 ?_
            refine qX10_findFault_80 ?_
            first | refine nX10_findFault_82 ?_ | refine qX10_findFault_82 ?_
            refine qX10_findFault_83 ?_
            refine nX10_findFault_86 (by omega) (by omega) (fun h86 => ?_) (fun h86 => ?_)
            · exact bd2 (Or.inr (by omega))
            · rw [if_neg (by omega)] at i7
              refine qX10_findFault_89 ?_
              refine qX10_findFault_90 ?_
              refine nosign true (fun _ => ?_) (fun z => absurd z (by decide))
              refine qX10_findFault_133 ?_
              refine nX10_findFault_135 (by omega) (fun h135 => ?_) (fun h135 => by exfalso; omega)
              refine qX10_findFault_143 ?_
              refine qX10_findFault_144 ?_
              refine nX10_findFault_146 (by omega) (by omega) (fun h146 => ?_) (fun h146 => by exfalso; omega)
              refine qX10_findFault_169 ?_
              refine nX10_findFault_171 (by omega) (fun h171 => ?_) (fun h171 => by exfalso; omega)
              refine qX10_findFault_179 ?_
              refine qX10_findFault_180 ?_
              refine qX10_findFault_182 (fun _ => ?_) (fun h => absurd h (nI_m6 (by omega)))
              refine qX10_findFault_190 ?_
              refine qX10_findFault_192 ?_
              show wp G (d + 1) mX10_findFault P 193 _ (.int (nI y) :: _) w' (0, 0)
              first | refine nX10_findFault_193 ?_ | refine qX10_findFault_193 ?_
              refine qX10_findFault_194 ?_
              first | refine nX10_findFault_196 ?_ | refine qX10_findFault_196 ?_
              rw [show 10 * y + (c j - 48) = y * 10 + (c j - 48) by omega]
              exact good _ (by omega) (by rw [i1]; rfl) i7 _
      · rw [nI_leI (by decide) (by omega), nI_leI (by omega) (by decide)] at hno
        have hdg : isDg (c j) = false := by
          cases hq : isDg (c j) with
          | false => rfl
          | true =>
            exfalso
            apply hno
            unfold isDg at hq
            rw [Bool.and_eq_true, decide_eq_true_eq, decide_eq_true_eq] at hq
            exact hq
        rw [hdg, if_neg (by decide)] at i7
        have hr : rdv c (j + 1) = ((rdv c j).1 ++ [(rdv c j).2], 0) := by simp only [rdv]; rw [hdg, if_neg (by decide)]
        have aft : fF c r2 0 none = some j → wp G (d + 1) mX10_findFault P 118 [some (.ref D), some (.int (oS vo)), some (.int (nI j)), some (.int (nI (c j))), some (.int (-6)), some (.int (nI 0)), l6] [] w' (0, 0) := by
          intro e
          refine qX10_findFault_118 ?_
          refine qX10_findFault_119 ?_
          refine qX10_findFault_121 ?_
          refine nX10_findFault_123 (by omega) (fun h123 => by exfalso; omega) (fun h123 => ?_)
          refine qX10_findFault_126 ?_
          refine nX10_findFault_128 (by omega) (fun h128 => by exfalso; omega) (fun h128 => ?_)
          exact bad _ _ _ e
        refine nX10_findFault_45 (by omega) (fun h45 => ?_) (fun h45 => by exfalso; omega)
        refine qX10_findFault_55 ?_
        refine qX10_findFault_57 ?_
        refine qX10_findFault_59 ?_
        refine qX10_findFault_61 ?_
        refine qX10_findFault_63 (fun _ => ?_) (fun h => absurd rfl h)
        refine qX10_findFault_93 ?_
        refine qX10_findFault_94 ?_
        refine qX10_findFault_96 ?_
        refine qX10_findFault_97 ?_
        cases vo with
        | none =>
          have i7 : fF c r2 0 none = some j := i7
          refine qX10_findFault_99 (fun _ => ?_) (fun h => absurd rfl h)
          exact aft i7
        | some y =>
          have hy := i2 y rfl
          have i1 : (rdv c j).2 = y := i1
          have i3'' := i3' (by simp)
          have i7 : fF c r2 0 none = if c j = 44 ∨ c j = 59 then fF c m (j + 1) none else some j := i7
          refine qX10_findFault_99 (fun h => absurd h (nI_m6 (by omega))) (fun _ => ?_)
          have sign : (c j = 44 ∨ c j = 59) → wp G (d + 1) mX10_findFault P 114 [some (.ref D), some (.int (oS (some y))), some (.int (nI j)), some (.int (nI (c j))), some (.int (-6)), some (.int (nI 0)), l6] [] w' (0, 0) := by
            intro hs
            rw [if_pos hs] at i7
            refine qX10_findFault_114 ?_
            refine qX10_findFault_115 ?_
            refine qX10_findFault_119 ?_
            refine qX10_findFault_121 ?_
            refine nX10_findFault_123 (by omega) (fun h123 => by exfalso; omega) (fun h123 => ?_)
            refine qX10_findFault_126 ?_
            refine nX10_findFault_128 (by omega) (fun h128 => ?_) (fun h128 => by exfalso; omega)
            refine qX10_findFault_133 ?_
            refine nX10_findFault_135 (by omega) (fun h135 => by exfalso; omega) (fun h135 => ?_)
            refine qX10_findFault_138 ?_
            refine qX10_findFault_139 ?_
            show wp G (d + 1) mX10_findFault P 140 _ (.int (nI y) :: _) w' (0, 0)
            refine qX10_findFault_140 (by assumption) (Nat.le_of_ble_eq_true rfl) (m_takes m1 rfl rfl q1 q2 (by omega) (by omega) (fun w4 hF4 m4 q5 q6 => ?_))
            have m4 : mO w4 D (r1, r2, nI ((rdv c j).1.length + 1), nI (msr c j).1.length, r5) := m4
            have hrl : (rdv c (j + 1)).1.length = (rdv c j).1.length + 1 := by rw [hr]; simp
            have hrd : ∀ q, q < (rdv c (j + 1)).1.length → updN td' (rdv c j).1.length y q = (rdv c (j + 1)).1.getD q 0 := fun q hq => by
              rw [hrl] at hq
              rw [hr]
              show _ = ((rdv c j).1 ++ [(rdv c j).2]).getD q 0
              by_cases hqe : q = (rdv c j).1.length
              · subst hqe; rw [updN_s, getD_e, i1]
              · rw [updN_n hqe, getD_l (by omega)]; exact i5 q (by omega)
            refine qX10_findFault_143 ?_
            refine qX10_findFault_144 ?_
            rcases hs with hs | hs
            · have hm : msr c (j + 1) = ((msr c j).1, (msr c j).2 + 1) := by simp only [msr]; rw [if_neg (by omega), if_pos hs]
              refine nX10_findFault_146 (by omega) (by omega) (fun h146 => ?_) (fun h146 => by exfalso; omega)
              refine qX10_findFault_169 ?_
              refine nX10_findFault_171 (by omega) (fun h171 => by exfalso; omega) (fun h171 => ?_)
              refine qX10_findFault_174 ?_
              refine qX10_findFault_176 ?_
              refine qX10_findFault_197 ?_
              first | refine nX10_findFault_198 ?_ | refine qX10_findFault_198 ?_
              refine qX10_findFault_201 ?_
              refine ih (j + 1) none w4 _ _ _ _ _ _ (by omega) (hF.tr hF4 (fun q hq => hq)) ?_ q5 q6 ?_ (fun z hz => absurd hz (by simp)) (by omega) (fun z => absurd rfl z) ?_ hrd ?_ ?_ i7
              · rw [hrl, hm]; exact m4
              · rw [hr]; rfl
              · rw [hrl, hm]; show (msr c j).1.length ≤ _; omega
              · rw [hm]
                intro q hq
                have hq : q < (msr c j).1.length := hq
                rw [updN_n (by omega)]
                exact i6 q hq
              · rw [hm]
                show updN lg' (msr c j).1.length _ (msr c j).1.length = (msr c j).2 + 1
                rw [updN_s, i6']
            · have hm : msr c (j + 1) = ((msr c j).1 ++ [(msr c j).2 + 1], 0) := by simp only [msr]; rw [if_pos hs]
              have hml : (msr c (j + 1)).1.length = (msr c j).1.length + 1 := by rw [hm]; simp
              refine nX10_findFault_146 (by omega) (by omega) (fun h146 => by exfalso; omega) (fun h146 => ?_)
              refine qX10_findFault_149 ?_
              refine qX10_findFault_150 rfl ?_
              refine qX10_findFault_151 (by assumption) ?_
              refine qX10_findFault_154 ?_
              first | refine nX10_findFault_155 ?_ | refine qX10_findFault_155 ?_
              refine qX10_findFault_156 (by assumption) ?_
              generalize hw5 : s_up w4 D _ = w5
              have hF5 : Fr w4 w5 (fun q => q = D) := by rw [← hw5]; exact Fr.rf.up rfl
              have m5 : mO w5 D (r1, r2, nI ((rdv c j).1.length + 1), nI ((msr c j).1.length + 1), r5) := by rw [← hw5]; exact s_upS
              have q7 : w5.1 (D + 7) = aN G 48 (updN lg' (msr c j).1.length (lg' (msr c j).1.length + 1)) := by rw [hF5.2 _ (by omega)]; exact q6
              refine qX10_findFault_159 ?_
              refine qX10_findFault_160 (by assumption) ?_
              refine qX10_findFault_163 ?_
              refine qX10_findFault_164 (by assumption) ?_
              refine qX10_findFault_167 ?_
              refine fX10_findFault_168 q7 (by omega) (by decide) ?_
              generalize hw6 : s_up w5 (D + 7) _ = w6
              have hF6 : Fr w5 w6 (fun q => q = D + 7) := by rw [← hw6]; exact Fr.rf.up rfl
              have m6 : mO w6 D (r1, r2, nI ((rdv c j).1.length + 1), nI ((msr c j).1.length + 1), r5) := (hF6.2 D (by omega)).trans m5
              have q8 : w6.1 (D + 7) = aN G 48 (updN (updN lg' (msr c j).1.length (lg' (msr c j).1.length + 1)) ((msr c j).1.length + 1) 0) := by rw [← hw6]; exact s_upS
              refine qX10_findFault_169 ?_
              refine nX10_findFault_171 (by omega) (fun h171 => by exfalso; omega) (fun h171 => ?_)
              refine qX10_findFault_174 ?_
              refine qX10_findFault_176 ?_
              refine qX10_findFault_197 ?_
              first | refine nX10_findFault_198 ?_ | refine qX10_findFault_198 ?_
              refine qX10_findFault_201 ?_
              refine ih (j + 1) none w6 _ _ _ _ _ _ (by omega) (((hF.tr hF4 (fun q hq => hq)).tr hF5 (fun q hq => Or.inl hq)).tr hF6 (fun q hq => Or.inr (Or.inr hq))) ?_ (by rw [hF6.2 _ (by omega), hF5.2 _ (by omega)]; exact q5) q8 ?_ (fun z hz => absurd hz (by simp)) (by omega) (fun z => absurd rfl z) (by omega) hrd ?_ ?_ i7
              · rw [hrl, hml]; exact m6
              · rw [hr]; rfl
              · rw [hml, hm]
                intro q hq
                show _ = ((msr c j).1 ++ [(msr c j).2 + 1]).getD q 0
                rw [updN_n (by omega)]
                by_cases hqe : q = (msr c j).1.length
                · subst hqe; rw [updN_s, getD_e, i6']
                · rw [updN_n hqe, getD_l (by omega)]; exact i6 q (by omega)
              · rw [hml, hm, updN_s]
          refine qX10_findFault_102 ?_
          refine qX10_findFault_103 ?_
          refine nX10_findFault_105 (by omega) (by omega) (fun h105 => ?_) (fun h105 => ?_)
          · exact sign (Or.inl h105)
          · refine qX10_findFault_108 ?_
            refine qX10_findFault_109 ?_
            refine nX10_findFault_111 (by omega) (by omega) (fun h111 => ?_) (fun h111 => ?_)
            · rw [if_neg (by omega)] at i7
              exact aft i7
            · exact sign (Or.inr h111)
  refine L r2 0 none w3 td (updN lg 0 0) none none none none (by omega) hF3 m3 q4 q3 rfl (fun x hx => absurd hx (by simp)) (Nat.le_refl 0) (fun z => absurd rfl z) (Nat.le_refl 0) (fun q hq => absurd hq (Nat.not_lt_zero q)) (fun q hq => absurd hq (Nat.not_lt_zero q)) ?_ rfl
  show updN lg 0 0 0 = 0
  rw [updN_s]
theorem m_fault (h : mdAt G w D s) (ho : okS s) (k : ∀ w', Fr w w' (sD D) → mdAt G w' D s → P (some (.int (spFault s))) w') : wpM G (d + 3) yX10_fault (0, 0) [.ref D] w P := by
  obtain ⟨⟨v, o1, o2, o3⟩, p2, p3, p4, p5, ⟨pd, p6, p6'⟩, ⟨td, t1⟩, ⟨lg, t2⟩, t3, t4, t5, t6, t7⟩ := id h
  obtain ⟨_, _, _, _, h80, h256⟩ := ho
  refine eX10_fault ?_
  refine qX10_fault_0 ?_
  refine qX10_fault_1 (by assumption) (Nat.le_of_ble_eq_true rfl) (m_findFault o1 o3 h80 p6 p6' h256 t1 t2 (fun w1 td1 lg1 tm tr hF1 m1 q1 q2 _ => ?_))
  refine qX10_fault_4 ?_
  have hsc : scM G w1 D := by
    obtain ⟨f3, t3⟩ := t3
    obtain ⟨f4, t4⟩ := t4
    obtain ⟨f5, t5⟩ := t5
    obtain ⟨f6, t6⟩ := t6
    obtain ⟨f7, t7⟩ := t7
    exact ⟨⟨td1, q1⟩, ⟨lg1, q2⟩, ⟨f3, by rw [hF1.2 _ (by omega)]; exact t3⟩, ⟨f4, by rw [hF1.2 _ (by omega)]; exact t4⟩, ⟨f5, by rw [hF1.2 _ (by omega)]; exact t5⟩, ⟨f6, by rw [hF1.2 _ (by omega)]; exact t6⟩, f7, by rw [hF1.2 _ (by omega)]; exact t7⟩
  exact k w1 (hF1.mono (fun q hq => by unfold sD; omega)) (h.scr (hF1.mono (fun q hq => by omega)) ⟨_, m1, o2, o3⟩ hsc)
end REFL
