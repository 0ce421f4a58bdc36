/-! the law's acts: a row or a column dropped -/
def ctN (b : Bool) (C line i : Nat) : Nat := cnB (fun q => linN b C q != line) i
def ckD (R C : Nat) (b : Bool) (line : Nat) : Bool := (List.range (R * C)).all (fun q => linN b C q == line || rmN b C line (ctN b C line q) == q) && ctN b C line (R * C) == lnN b (R - 1) R * lnN b C (C - 1)
theorem ckD_ok : ((List.range 5).all fun R => (List.range 5).all fun C => (List.range 5).all fun line => [true, false].all fun b => R == 0 || C == 0 || decide (lnN b R C ≤ line) || lnN b R C == 1 || ckD R C b line) = true := by decide +kernel
theorem ct_ok {R C line : Nat} {b : Bool} (hd : okD R C) (hl : line < lnN b R C) (h1 : ¬ lnN b R C = 1) : (∀ q, q < R * C → linN b C q ≠ line → rmN b C line (ctN b C line q) = q) ∧ ctN b C line (R * C) = lnN b (R - 1) R * lnN b C (C - 1) := by
  have h := ckD_ok
  have d1 := hd.1
  have d2 := hd.2.1
  have d3 := hd.2.2.1
  have d4 := hd.2.2.2.1
  have hll : lnN b R C ≤ 4 := by
    cases b
    · exact d4
    · exact d2
  rw [List.all_eq_true] at h
  have h2 := h R (List.mem_range.mpr (by omega))
  rw [List.all_eq_true] at h2
  have h3 := h2 C (List.mem_range.mpr (by omega))
  rw [List.all_eq_true] at h3
  have h4 := h3 line (List.mem_range.mpr (by omega))
  rw [List.all_eq_true] at h4
  have h5 := h4 b (by cases b <;> simp)
  simp only [Bool.or_eq_true, beq_iff_eq, decide_eq_true_eq] at h5
  rcases h5 with (((h5 | h5) | h5) | h5) | h5
  · omega
  · omega
  · omega
  · exact absurd h5 h1
  · unfold ckD at h5
    rw [Bool.and_eq_true, List.all_eq_true] at h5
    refine ⟨fun q hq hn => ?_, by simpa using h5.2⟩
    have h6 := h5.1 q (List.mem_range.mpr hq)
    simp only [Bool.or_eq_true, beq_iff_eq] at h6
    rcases h6 with h6 | h6
    · exact absurd h6 hn
    · exact h6
section LDROP
variable {G : sG} {d : Nat} {P : sQ} {w : sW} {s : xS} {a : Nat} {f : Nat → Nat} {v : Nat → Int32} {co : Nat → Nat} {se : Nat → Int64} {x y : Int32} {t kd k1 k2 c1 c2 : Nat}
theorem la_drop {b : Bool} {line : Nat} (l12 l16 l17 l18 l19 l20 l21 l22 l23 l24 l25 : Option Value) (h : jW G w s f v co se) (hf : jF s f) (ha : a < 3) (ht : t < 18) (hl : line < lnN b (lA s a).1 (lA s a).2.1) (hk1 : c1 ≤ k1) (hk2 : c2 ≤ k2) (K : ∀ w2 s2 f2 v2 co2 se2 j1 j2 (l12 l13 l14 l15 l16 l17 l18 l19 l20 l21 l22 l23 l24 l25 : Option Value), jW G w2 s2 f2 v2 co2 se2 → jF s2 f2 → c1 ≤ j1 → c2 ≤ j2 → wp G (d + 17) m_law P 1775 [some (.ref (gb G)), some (.ref (gB G)), some (.ref (gB G + 92)), some (.ref (gB G + 93)), some (.ref (gB G + 94)), some (.ref (gB G + 95)), some (.int (nI t)), some (.int (x)), some (.int (y)), some (.int (nI kd)), some (.int (nI a)), some (.int (nI (12 * a))), l12, l13, l14, l15, l16, l17, l18, l19, l20, l21, l22, l23, l24, l25] [] w2 (j1, j2)) : wp G (d + 17) m_law P 1004 [some (.ref (gb G)), some (.ref (gB G)), some (.ref (gB G + 92)), some (.ref (gB G + 93)), some (.ref (gB G + 94)), some (.ref (gB G + 95)), some (.int (nI t)), some (.int (x)), some (.int (y)), some (.int (nI kd)), some (.int (nI a)), some (.int (nI (12 * a))), l12, some (.int (nI (bN b))), some (.int (nI (lnN b (lA s a).1 (lA s a).2.1))), some (.int (nI line)), l16, l17, l18, l19, l20, l21, l22, l23, l24, l25] [] w (k1, k2) := by
  have hlv := h.lV hf ha
  obtain ⟨hp, _, hR, hC, hE, hd, h9, h999⟩ := id hlv
  have hR3 := (hf.2 a ha).2.2.2.1
  have d1 := hd.1
  have d2 := hd.2.1
  have d3 := hd.2.2.1
  have d4 := hd.2.2.2.1
  have hll : lnN b (lA s a).1 (lA s a).2.1 ≤ 4 := by
    cases b
    · exact d4
    · exact d2
  have ee := e_drop b hf.1 ha hl
  refine qL_law_1004 ?_
  refine qL_law_1005 ?_
  refine qL_law_1007 ?_
  first | refine nL_law_1008 ?_ | refine qL_law_1008 ?_
  first | refine fL_law_1009 (by assumption) (by omega) (by decide) ?_ | refine nL_law_1009 (by assumption) (by omega) (by decide) ?_
  rw [hC]
  refine qL_law_1010 ?_
  refine qL_law_1012 ?_
  refine qL_law_1014 ?_
  refine qL_law_1015 (Nat.le_of_ble_eq_true rfl) (l_many hlv ?_)
  refine qL_law_1018 ?_
  refine qL_law_1020 ?_
  refine qL_law_1021 ?_
  refine qL_law_1023 ?_
  refine qL_law_1025 ?_
  refine nL_law_1026 (by omega) (by omega) (fun h1026 => ?_) (fun h1026 => ?_)
  · have h1 : lnN b (lA s a).1 (lA s a).2.1 = 1 := by omega
    rw [if_pos h1] at ee
    refine qL_law_1109 ?_
    refine qL_law_1110 ?_
    refine qL_law_1112 ?_
    refine qL_law_1114 ?_
    refine qL_law_1116 (jW.ob h) (Nat.le_of_ble_eq_true rfl) (t_drop b h.1 hf.1 (fun w3 hF3 hc3 => ?_))
    rw [ee] at hc3
    rw [show (spDrop s (nI a) b (nI line)).1 = -5 by rw [ee]]
    have h3 := h.cl hF3 hc3
    refine qL_law_1119 ?_
    refine qL_law_1121 ?_
    refine nL_law_1122 (by omega) (by omega) (fun h1122 => ?_) (fun h1122 => by exfalso; omega)
    refine qL_law_1130 ?_
    refine qL_law_1132 (fun h1132 => ?_) (fun h1132 => absurd rfl h1132)
    refine qL_law_1137 ?_
    exact K w3 _ f v co se k1 k2 _ _ _ _ _ _ _ _ _ _ _ _ _ _ h3 hf hk1 hk2
  · have h1 : ¬ lnN b (lA s a).1 (lA s a).2.1 = 1 := by omega
    rw [if_neg h1] at ee
    obtain ⟨ct1, ct2⟩ := ct_ok hd hl h1
    have hcl : ctN b (lA s a).2.1 line ((lA s a).1 * (lA s a).2.1) ≤ (lA s a).1 * (lA s a).2.1 := cnB_le _ _
    have hX : okD (lnN b ((lA s a).1 - 1) (lA s a).1) (lnN b (lA s a).2.1 ((lA s a).2.1 - 1)) := hd.dr h1
    have hX9 : lnN b ((lA s a).1 - 1) (lA s a).1 * lnN b (lA s a).2.1 ((lA s a).2.1 - 1) ≤ 9 := by rw [← ct2]; omega
    have hX3 : lnN b ((lA s a).1 - 1) (lA s a).1 ≤ 3 := by
      cases b
      · exact hR3
      · show (lA s a).1 - 1 ≤ 3
        omega
    have FIN : ∀ w2 f2, jW G w2 s f2 v co se → f2 (12 * a) = lnN b ((lA s a).1 - 1) (lA s a).1 → f2 (12 * a + 1) = lnN b (lA s a).2.1 ((lA s a).2.1 - 1) → (∀ j, j < ctN b (lA s a).2.1 line ((lA s a).1 * (lA s a).2.1) → f2 (12 * a + 2 + j) = (lA s a).2.2 (rmN b (lA s a).2.1 line j)) → (∀ q, q < 12 * a ∨ 12 * a + 12 ≤ q → f2 q = f q) → wp G (d + 17) m_law P 1109 [some (.ref (gb G)), some (.ref (gB G)), some (.ref (gB G + 92)), some (.ref (gB G + 93)), some (.ref (gB G + 94)), some (.ref (gB G + 95)), some (.int (nI t)), some (.int (x)), some (.int (y)), some (.int (nI kd)), some (.int (nI a)), some (.int (nI (12 * a))), l12, some (.int (nI (bN b))), some (.int (nI (lnN b (lA s a).1 (lA s a).2.1))), some (.int (nI line)), some (.int (nI (lA s a).2.1)), some (.int (nI ((lA s a).1 * (lA s a).2.1))), some (.int (nI (ctN b (lA s a).2.1 line ((lA s a).1 * (lA s a).2.1)))), some (.int (nI ((lA s a).1 * (lA s a).2.1))), l20, l21, l22, l23, l24, l25] [] w2 (k1, k2) := by
      intro w2 f2 h2 m1 m2 m3 m4
      refine qL_law_1109 ?_
      refine qL_law_1110 ?_
      refine qL_law_1112 ?_
      refine qL_law_1114 ?_
      refine qL_law_1116 (jW.ob h2) (Nat.le_of_ble_eq_true rfl) (t_drop b h2.1 hf.1 (fun w3 hF3 hc3 => ?_))
      rw [ee] at hc3
      rw [show (spDrop s (nI a) b (nI line)).1 = nI (ctN b (lA s a).2.1 line ((lA s a).1 * (lA s a).2.1)) by rw [ee, ct2]]
      have h3 := h2.cl hF3 hc3
      refine qL_law_1119 ?_
      refine qL_law_1121 ?_
      refine nL_law_1122 (by omega) (by omega) (fun h1122 => by exfalso; omega) (fun h1122 => ?_)
      refine qL_law_1125 ?_
      refine qL_law_1127 ?_
      refine qL_law_1132 (fun h1132 => ?_) (fun h1132 => absurd rfl h1132)
      refine qL_law_1137 ?_
      refine K w3 _ f2 v co se k1 k2 _ _ _ _ _ _ _ _ _ _ _ _ _ _ h3 (hf.up ⟨hX, fun k hk => h999 _ (rm_lt hd hl (by omega) hk)⟩ m1 m2 (fun q hq => m3 q ?_) hX3 hX9 m4) hk1 hk2
      rw [ct2]
      exact hq
    have LP : ∀ m i w2 f2, i + m = (lA s a).1 * (lA s a).2.1 → jW G w2 s f2 v co se → (∀ j, j < ctN b (lA s a).2.1 line i → f2 (12 * a + 2 + j) = (lA s a).2.2 (rmN b (lA s a).2.1 line j)) → (∀ q, i ≤ q → q < (lA s a).1 * (lA s a).2.1 → f2 (12 * a + 2 + q) = (lA s a).2.2 q) → (∀ q, q < 12 * a + 2 ∨ 12 * a + 12 ≤ q → f2 q = f q) → wp G (d + 17) m_law P 1032 [some (.ref (gb G)), some (.ref (gB G)), some (.ref (gB G + 92)), some (.ref (gB G + 93)), some (.ref (gB G + 94)), some (.ref (gB G + 95)), some (.int (nI t)), some (.int (x)), some (.int (y)), some (.int (nI kd)), some (.int (nI a)), some (.int (nI (12 * a))), l12, some (.int (nI (bN b))), some (.int (nI (lnN b (lA s a).1 (lA s a).2.1))), some (.int (nI line)), some (.int (nI (lA s a).2.1)), some (.int (nI ((lA s a).1 * (lA s a).2.1))), some (.int (nI (ctN b (lA s a).2.1 line i))), some (.int (nI i)), l20, l21, l22, l23, l24, l25] [] w2 (k1, k2) := by
      intro m
      induction m with
      | zero =>
        intro i w2 f2 hi h2 q1 q2 q3
        have hp2 := h2.2.1
        have hR2 : f2 (12 * a) = (lA s a).1 := by rw [q3 _ (by omega)]; exact hR
        have hC2 : f2 (12 * a + 1) = (lA s a).2.1 := by rw [q3 _ (by omega)]; exact hC
        refine qL_law_1032 ?_
        refine qL_law_1034 ?_
        refine nL_law_1036 (by omega) (by omega) (fun h1036 => ?_) (fun h1036 => by exfalso; omega)
        rw [show i = (lA s a).1 * (lA s a).2.1 by omega] at q1 ⊢
        cases b with
        | false =>
          rw [show bN false = 0 from rfl] at *
          refine qL_law_1089 ?_
          refine qL_law_1090 ?_
          refine nL_law_1092 (by omega) (fun h1092 => ?_) (fun h1092 => by exfalso; omega)
          refine qL_law_1100 ?_
          refine qL_law_1102 ?_
          first | refine nL_law_1103 ?_ | refine qL_law_1103 ?_
          refine qL_law_1104 rfl rfl ?_
          first | refine fL_law_1105 (by assumption) (by omega) (by decide) ?_ | refine nL_law_1105 (by assumption) (by omega) (by decide) ?_
          rw [hC2]
          refine qL_law_1106 ?_
          first | refine nL_law_1107 (by omega) ?_ | refine qL_law_1107 ?_
          refine fL_law_1108 (by assumption) (by omega) (by decide) ?_
          generalize hw4 : s_up w2 (gB G + 92) _ = w4
          have hp4 : w4.1 (gB G + 92) = aN G 36 (updN f2 (12 * a + 1) ((lA s a).2.1 - 1)) := by rw [← hw4]; exact s_upS
          have o4 : ∀ q, updN f2 (12 * a + 1) ((lA s a).2.1 - 1) q = if q = 12 * a + 1 then (lA s a).2.1 - 1 else f2 q := fun _ => rfl
          refine FIN w4 _ (h2.arr (by rw [← hw4]; exact Fr.rf.up rfl) hp4) ?_ ?_ (fun j hj => ?_) (fun q hq => ?_)
          · rw [o4, if_neg (by omega)]; exact hR2
          · rw [o4, if_pos rfl]; rfl
          · rw [o4, if_neg (by omega)]; exact q1 j hj
          · rw [o4, if_neg (by omega)]; exact q3 q (by omega)
        | true =>
          rw [show bN true = 1 from rfl] at *
          refine qL_law_1089 ?_
          refine qL_law_1090 ?_
          refine nL_law_1092 (by omega) (fun h1092 => by exfalso; omega) (fun h1092 => ?_)
          refine qL_law_1095 ?_
          refine qL_law_1097 ?_
          refine qL_law_1104 rfl rfl ?_
          first | refine fL_law_1105 (by assumption) (by omega) (by decide) ?_ | refine nL_law_1105 (by assumption) (by omega) (by decide) ?_
          rw [hR2]
          refine qL_law_1106 ?_
          first | refine nL_law_1107 (by omega) ?_ | refine qL_law_1107 ?_
          refine fL_law_1108 (by assumption) (by omega) (by decide) ?_
          generalize hw4 : s_up w2 (gB G + 92) _ = w4
          have hp4 : w4.1 (gB G + 92) = aN G 36 (updN f2 (12 * a) ((lA s a).1 - 1)) := by rw [← hw4]; exact s_upS
          have o4 : ∀ q, updN f2 (12 * a) ((lA s a).1 - 1) q = if q = 12 * a then (lA s a).1 - 1 else f2 q := fun _ => rfl
          refine FIN w4 _ (h2.arr (by rw [← hw4]; exact Fr.rf.up rfl) hp4) ?_ ?_ (fun j hj => ?_) (fun q hq => ?_)
          · rw [o4, if_pos rfl]; rfl
          · rw [o4, if_neg (by omega)]; exact hC2
          · rw [o4, if_neg (by omega)]; exact q1 j hj
          · rw [o4, if_neg (by omega)]; exact q3 q (by omega)
      | succ m ih =>
        intro i w2 f2 hi h2 q1 q2 q3
        have hp2 := h2.2.1
        have hil : i < (lA s a).1 * (lA s a).2.1 := by omega
        have hct : ctN b (lA s a).2.1 line i ≤ i := cnB_le _ _
        have hlin := (lp_lt (b := b) hil).1
        have hs : ctN b (lA s a).2.1 line (i + 1) = ctN b (lA s a).2.1 line i + if (linN b (lA s a).2.1 i != line) = true then 1 else 0 := rfl
        have K1057 : wp G (d + 17) m_law P 1057 [some (.ref (gb G)), some (.ref (gB G)), some (.ref (gB G + 92)), some (.ref (gB G + 93)), some (.ref (gB G + 94)), some (.ref (gB G + 95)), some (.int (nI t)), some (.int (x)), some (.int (y)), some (.int (nI kd)), some (.int (nI a)), some (.int (nI (12 * a))), l12, some (.int (nI (bN b))), some (.int (nI (lnN b (lA s a).1 (lA s a).2.1))), some (.int (nI line)), some (.int (nI (lA s a).2.1)), some (.int (nI ((lA s a).1 * (lA s a).2.1))), some (.int (nI (ctN b (lA s a).2.1 line i))), some (.int (nI i)), l20, l21, l22, l23, l24, l25] [.int (nI (linN b (lA s a).2.1 i))] w2 (k1, k2) := by
          refine qL_law_1057 ?_
          refine nL_law_1059 (by omega) (by omega) (fun h1059 => ?_) (fun h1059 => ?_)
          · rw [show (linN b (lA s a).2.1 i != line) = false by simp [h1059]] at hs
            first | refine nL_law_1083 ?_ | refine qL_law_1083 ?_
            refine qL_law_1086 ?_
            have := ih (i + 1) w2 f2 (by omega) h2 (fun j hj => q1 j (by rw [hs] at hj; simpa using hj)) (fun q hq1 hq2 => q2 q (by omega) hq2) q3
            rw [hs] at this
            exact this
          · rw [show (linN b (lA s a).2.1 i != line) = true by simpa using h1059, if_pos rfl] at hs
            refine qL_law_1062 ?_
            refine qL_law_1063 ?_
            refine qL_law_1065 ?_
            first | refine nL_law_1066 ?_ | refine qL_law_1066 ?_
            refine qL_law_1067 ?_
            first | refine nL_law_1069 ?_ | refine qL_law_1069 ?_
            first | refine nL_law_1072 ?_ | refine qL_law_1072 ?_
            refine qL_law_1073 ?_
            refine qL_law_1074 ?_
            refine qL_law_1076 ?_
            first | refine nL_law_1077 ?_ | refine qL_law_1077 ?_
            refine qL_law_1078 ?_
            first | refine nL_law_1080 ?_ | refine qL_law_1080 ?_
            first | refine fL_law_1081 (by assumption) (by omega) (by decide) ?_ | refine nL_law_1081 (by assumption) (by omega) (by decide) ?_
            rw [q2 i (Nat.le_refl _) hil]
            refine fL_law_1082 (by assumption) (by omega) (by decide) ?_
            generalize hw4 : s_up w2 (gB G + 92) _ = w4
            have hp4 : w4.1 (gB G + 92) = aN G 36 (updN f2 (12 * a + 2 + ctN b (lA s a).2.1 line i) ((lA s a).2.2 i)) := by rw [← hw4]; exact s_upS
            have o4 : ∀ q, updN f2 (12 * a + 2 + ctN b (lA s a).2.1 line i) ((lA s a).2.2 i) q = if q = 12 * a + 2 + ctN b (lA s a).2.1 line i then (lA s a).2.2 i else f2 q := fun _ => rfl
            first | refine nL_law_1083 ?_ | refine qL_law_1083 ?_
            refine qL_law_1086 ?_
            have := ih (i + 1) w4 _ (by omega) (h2.arr (by rw [← hw4]; exact Fr.rf.up rfl) hp4) (fun j hj => ?_) (fun q hq1 hq2 => ?_) (fun q hq => ?_)
            · rw [hs] at this
              exact this
            · rw [o4]
              by_cases hj2 : j = ctN b (lA s a).2.1 line i
              · rw [if_pos (by omega), hj2, ct1 i hil h1059]
              · rw [if_neg (by omega)]
                exact q1 j (by omega)
            · rw [o4, if_neg (by omega)]
              exact q2 q (by omega) hq2
            · rw [o4, if_neg (by omega)]
              exact q3 q hq
        refine qL_law_1032 ?_
        refine qL_law_1034 ?_
        refine nL_law_1036 (by omega) (by omega) (fun h1036 => by exfalso; omega) (fun h1036 => ?_)
        cases b with
        | false =>
          rw [show bN false = 0 from rfl] at *
          refine qL_law_1039 ?_
          refine nL_law_1041 (by omega) (fun h1041 => ?_) (fun h1041 => by exfalso; omega)
          refine qL_law_1052 ?_
          refine qL_law_1054 ?_
          refine nL_law_1056 (by omega) (by omega) (by omega) ?_
          exact K1057
        | true =>
          rw [show bN true = 1 from rfl] at *
          refine qL_law_1039 ?_
          refine nL_law_1041 (by omega) (fun h1041 => by exfalso; omega) (fun h1041 => ?_)
          refine qL_law_1044 ?_
          refine qL_law_1046 ?_
          refine nL_law_1048 (by omega) (by omega) (by omega) ?_
          refine qL_law_1049 ?_
          exact K1057
    refine qL_law_1029 ?_
    refine qL_law_1030 ?_
    exact LP ((lA s a).1 * (lA s a).2.1) 0 w f (by omega) h (fun j hj => absurd hj (Nat.not_lt_zero j)) (fun q _ hq => hE q hq) (fun _ _ => rfl)
end LDROP
