/-! the law's look at one array: what is held -/
def jW (G : sG) (w : sW) (s : xS) (f : Nat → Nat) (v : Nat → Int32) (co : Nat → Nat) (se : Nat → Int64) : Prop := clAt G w (gB G) s ∧ w.1 (gB G + 92) = aN G 36 f ∧ w.1 (gB G + 93) = aI G 4 v ∧ w.1 (gB G + 94) = aN G 9 co ∧ w.1 (gB G + 95) = aJ G 8 se ∧ 96 ≤ w.2
def jF (s : xS) (f : Nat → Nat) : Prop := okS s ∧ ∀ a, a < 3 → f (12 * a) = (lA s a).1 ∧ f (12 * a + 1) = (lA s a).2.1 ∧ (∀ q, q < (lA s a).1 * (lA s a).2.1 → f (12 * a + 2 + q) = (lA s a).2.2 q) ∧ (lA s a).1 ≤ 3 ∧ (lA s a).1 * (lA s a).2.1 ≤ 9
theorem mnF_le {a : Nat → Nat} : ∀ n, mnF a n ≤ 999
  | 0 => Nat.le_refl _
  | n + 1 => Nat.le_trans (Nat.min_le_left _ _) (mnF_le n)
section SM1
variable {G : sG} {d : Nat} {P : sQ} {w : sW} {s : xS} {a : Nat} {f : Nat → Nat} {v : Nat → Int32} {co : Nat → Nat} {se : Nat → Int64} {x : Int32} {κ : Nat × Nat}
theorem jW.ob (h : jW G w s f v co se) : w.1 (gB G) = ob 8 [.ref (gB G + 1), .ref (gB G + 9), .ref (gB G + 59), .ref (gB G + 60), .ref (gB G + 61), .ref (gB G + 63), .ref (gB G + 65), .ref (gB G + 67), .ref (gB G + 70), .ref (gB G + 71), .ref (gB G + 75)] := h.1.1
theorem jW.lV (h : jW G w s f v co se) (hf : jF s f) (ha : a < 3) : lV G w (gB G + 92) f a (lA s a).1 (lA s a).2.1 (lA s a).2.2 := by
  obtain ⟨h1, h2, h3, h4, h5⟩ := hf.2 a ha
  exact ⟨h.2.1, ha, h1, h2, h3, (hf.1.1 a ha).1, h5, (hf.1.1 a ha).2⟩
theorem jW.cl {w' : sW} {s' : xS} (h : jW G w s f v co se) (hF : Fr w w' (sB (gB G))) (hc : clAt G w' (gB G) s') : jW G w' s' f v co se := by
  obtain ⟨h1, h2, h3, h4, h5, h6⟩ := h
  have o : ∀ k, 92 ≤ k → w'.1 (gB G + k) = w.1 (gB G + k) := fun k hk => hF.2 _ (fun z => by
    have := z.2
    omega)
  exact ⟨hc, by rw [o 92 (by omega)]; exact h2, by rw [o 93 (by omega)]; exact h3, by rw [o 94 (by omega)]; exact h4, by rw [o 95 (by omega)]; exact h5, by rw [hF.1]; exact h6⟩
/-- entries, the least and the greatest, how many unlike -/
theorem sm1 (l7 l8 l9 l10 l11 l12 l13 l14 l15 l16 l17 l18 l19 l20 l21 l22 l23 l24 l25 l26 l27 l28 l29 l30 : Option Value) (h : jW G w s f v co se) (hf : jF s f) (ha : a < 3) (K : ∀ (l12 l13 l14 : Option Value), wp G (d + 16) mL_same P 204 [some (.ref (gB G)), some (.int (nI a)), some (.int x), some (.ref (gB G + 92)), some (.ref (gB G + 93)), some (.ref (gB G + 94)), some (.ref (gB G + 95)), some (.int (nI (12 * a))), some (.int (nI ((lA s a).1 * (lA s a).2.1))), some (.int (nI (mnF (lA s a).2.2 ((lA s a).1 * (lA s a).2.1)))), some (.int (nI (mxF (lA s a).2.2 ((lA s a).1 * (lA s a).2.1)))), some (.int (nI (unlE (lA s a).2.2 ((lA s a).1 * (lA s a).2.1)))), l12, l13, l14, l15, l16, l17, l18, l19, l20, l21, l22, l23, l24, l25, l26, l27, l28, l29, l30] [] w κ) : wp G (d + 16) mL_same P 0 [some (.ref (gB G)), some (.int (nI a)), some (.int x), some (.ref (gB G + 92)), some (.ref (gB G + 93)), some (.ref (gB G + 94)), some (.ref (gB G + 95)), l7, l8, l9, l10, l11, l12, l13, l14, l15, l16, l17, l18, l19, l20, l21, l22, l23, l24, l25, l26, l27, l28, l29, l30] [] w κ := by
  have hlv := h.lV hf ha
  obtain ⟨hp, _, hR, hC, hE, hd, h9, h999⟩ := id hlv
  have d1 := hd.1
  have d3 := hd.2.2.1
  have d4 := hd.2.2.2.1
  refine qL_same_0 ?_
  refine qL_same_2 ?_
  first | refine nL_same_3 ?_ | refine qL_same_3 ?_
  refine qL_same_4 ?_
  refine qL_same_6 ?_
  refine qL_same_7 ?_
  refine qL_same_8 (Nat.le_of_ble_eq_true rfl) (l_many hlv ?_)
  refine qL_same_11 ?_
  refine qL_same_13 ?_
  refine qL_same_16 ?_
  refine qL_same_18 ?_
  refine qL_same_19 ?_
  refine qL_same_21 ?_
  refine qL_same_22 ?_
  refine qL_same_24 ?_
  refine qL_same_25 ?_
  have LM : ∀ m k (l13 l14 : Option Value), k + m = (lA s a).1 * (lA s a).2.1 → wp G (d + 16) mL_same P 27 [some (.ref (gB G)), some (.int (nI a)), some (.int x), some (.ref (gB G + 92)), some (.ref (gB G + 93)), some (.ref (gB G + 94)), some (.ref (gB G + 95)), some (.int (nI (12 * a))), some (.int (nI ((lA s a).1 * (lA s a).2.1))), some (.int (nI (mnF (lA s a).2.2 k))), some (.int (nI (mxF (lA s a).2.2 k))), some (.int (nI (unlE (lA s a).2.2 k))), some (.int (nI k)), l13, l14, l15, l16, l17, l18, l19, l20, l21, l22, l23, l24, l25, l26, l27, l28, l29, l30] [] w κ := by
    intro m
    induction m with
    | zero =>
      intro k l13 l14 hk
      refine qL_same_27 ?_
      refine qL_same_29 ?_
      refine nL_same_31 (by omega) (by omega) (fun h31 => ?_) (fun h31 => by exfalso; omega)
      rw [show k = (lA s a).1 * (lA s a).2.1 by omega]
      exact K _ _ _
    | succ m ih =>
      intro k l13 l14 hk
      have hkl : k < (lA s a).1 * (lA s a).2.1 := by omega
      have e0 := h999 k hkl
      have e1 : mnF (lA s a).2.2 k ≤ 999 := mnF_le k
      have e2 : mxF (lA s a).2.2 k ≤ 999 := mxF_le (fun j hj => h999 j (by omega))
      have k1 := dvlt hkl
      have k2 : k % (lA s a).2.1 < (lA s a).2.1 := Nat.mod_lt _ (by omega)
      refine qL_same_27 ?_
      refine qL_same_29 ?_
      refine nL_same_31 (by omega) (by omega) (fun h31 => by exfalso; omega) (fun h31 => ?_)
      refine qL_same_34 ?_
      refine qL_same_35 ?_
      refine qL_same_37 ?_
      refine qL_same_38 ?_
      have K161 : ∀ (l13 l14 : Option Value), wp G (d + 16) mL_same P 161 [some (.ref (gB G)), some (.int (nI a)), some (.int x), some (.ref (gB G + 92)), some (.ref (gB G + 93)), some (.ref (gB G + 94)), some (.ref (gB G + 95)), some (.int (nI (12 * a))), some (.int (nI ((lA s a).1 * (lA s a).2.1))), some (.int (nI (mnF (lA s a).2.2 (k + 1)))), some (.int (nI (mxF (lA s a).2.2 (k + 1)))), some (.int (nI (unlE (lA s a).2.2 (k + 1)))), some (.int (nI k)), l13, l14, l15, l16, l17, l18, l19, l20, l21, l22, l23, l24, l25, l26, l27, l28, l29, l30] [] w κ := by
        intro l13 l14
        refine qL_same_161 ?_
        refine qL_same_162 ?_
        refine qL_same_163 ?_
        refine qL_same_165 ?_
        refine qL_same_166 ?_
        refine qL_same_168 ?_
        first | refine nL_same_169 ?_ | refine qL_same_169 ?_
        first | refine fL_same_170 (by assumption) (by omega) (by decide) ?_ | refine nL_same_170 (by assumption) (by omega) (by decide) ?_
        rw [hC]
        refine nL_same_171 (by omega) (by omega) (by omega) ?_
        refine qL_same_172 ?_
        refine qL_same_174 ?_
        refine qL_same_175 ?_
        refine qL_same_177 ?_
        first | refine nL_same_178 ?_ | refine qL_same_178 ?_
        first | refine fL_same_179 (by assumption) (by omega) (by decide) ?_ | refine nL_same_179 (by assumption) (by omega) (by decide) ?_
        rw [hC]
        refine nL_same_180 (by omega) (by omega) (by omega) ?_
        refine qL_same_181 (jW.ob h) (Nat.le_of_ble_eq_true rfl) (t_entry h.1 hf.1 ?_)
        rw [e_entry hf.1 ha k1 k2, mdv]
        refine qL_same_184 ?_
        refine qL_same_185 ?_
        refine qL_same_187 ?_
        first | refine nL_same_188 ?_ | refine qL_same_188 ?_
        refine qL_same_189 ?_
        first | refine nL_same_191 ?_ | refine qL_same_191 ?_
        first | refine fL_same_192 (by assumption) (by omega) (by decide) ?_ | refine nL_same_192 (by assumption) (by omega) (by decide) ?_
        rw [hE k hkl]
        refine nL_same_193 (by omega) (by omega) (fun h193 => ?_) (fun h193 => by exfalso; omega)
        first | refine nL_same_198 ?_ | refine qL_same_198 ?_
        refine qL_same_201 ?_
        exact ih (k + 1) _ _ (by omega)
      have K131 : ∀ (l13 l14 : Option Value), wp G (d + 16) mL_same P 131 [some (.ref (gB G)), some (.int (nI a)), some (.int x), some (.ref (gB G + 92)), some (.ref (gB G + 93)), some (.ref (gB G + 94)), some (.ref (gB G + 95)), some (.int (nI (12 * a))), some (.int (nI ((lA s a).1 * (lA s a).2.1))), some (.int (nI (mnF (lA s a).2.2 (k + 1)))), some (.int (nI (mxF (lA s a).2.2 k))), some (.int (nI (unlE (lA s a).2.2 (k + 1)))), some (.int (nI k)), l13, l14, l15, l16, l17, l18, l19, l20, l21, l22, l23, l24, l25, l26, l27, l28, l29, l30] [] w κ := by
        intro l13 l14
        refine qL_same_131 ?_
        refine qL_same_132 ?_
        refine qL_same_134 ?_
        first | refine nL_same_135 ?_ | refine qL_same_135 ?_
        refine qL_same_136 ?_
        first | refine nL_same_138 ?_ | refine qL_same_138 ?_
        first | refine fL_same_139 (by assumption) (by omega) (by decide) ?_ | refine nL_same_139 (by assumption) (by omega) (by decide) ?_
        refine qL_same_140 ?_
        rw [hE k hkl]
        refine nL_same_142 (by omega) (by omega) (fun h142 => ?_) (fun h142 => ?_)
        · have e3 : mxF (lA s a).2.2 (k + 1) = mxF (lA s a).2.2 k := Nat.max_eq_left h142
          rw [← e3]
          refine qL_same_157 ?_
          refine qL_same_159 ?_
          exact K161 _ _
        · have e3 : mxF (lA s a).2.2 (k + 1) = (lA s a).2.2 k := Nat.max_eq_right (by omega)
          refine qL_same_145 ?_
          refine qL_same_146 ?_
          refine qL_same_148 ?_
          first | refine nL_same_149 ?_ | refine qL_same_149 ?_
          refine qL_same_150 ?_
          first | refine nL_same_152 ?_ | refine qL_same_152 ?_
          first | refine fL_same_153 (by assumption) (by omega) (by decide) ?_ | refine nL_same_153 (by assumption) (by omega) (by decide) ?_
          rw [hE k hkl, ← e3]
          refine qL_same_154 ?_
          refine qL_same_159 ?_
          exact K161 _ _
      have K101 : ∀ (l13 l14 : Option Value), wp G (d + 16) mL_same P 101 [some (.ref (gB G)), some (.int (nI a)), some (.int x), some (.ref (gB G + 92)), some (.ref (gB G + 93)), some (.ref (gB G + 94)), some (.ref (gB G + 95)), some (.int (nI (12 * a))), some (.int (nI ((lA s a).1 * (lA s a).2.1))), some (.int (nI (mnF (lA s a).2.2 k))), some (.int (nI (mxF (lA s a).2.2 k))), some (.int (nI (unlE (lA s a).2.2 (k + 1)))), some (.int (nI k)), l13, l14, l15, l16, l17, l18, l19, l20, l21, l22, l23, l24, l25, l26, l27, l28, l29, l30] [] w κ := by
        intro l13 l14
        refine qL_same_101 ?_
        refine qL_same_102 ?_
        refine qL_same_104 ?_
        first | refine nL_same_105 ?_ | refine qL_same_105 ?_
        refine qL_same_106 ?_
        first | refine nL_same_108 ?_ | refine qL_same_108 ?_
        first | refine fL_same_109 (by assumption) (by omega) (by decide) ?_ | refine nL_same_109 (by assumption) (by omega) (by decide) ?_
        refine qL_same_110 ?_
        rw [hE k hkl]
        refine nL_same_112 (by omega) (by omega) (fun h112 => ?_) (fun h112 => ?_)
        · have e3 : mnF (lA s a).2.2 (k + 1) = mnF (lA s a).2.2 k := Nat.min_eq_left h112
          rw [← e3]
          refine qL_same_127 ?_
          refine qL_same_129 ?_
          exact K131 _ _
        · have e3 : mnF (lA s a).2.2 (k + 1) = (lA s a).2.2 k := Nat.min_eq_right (by omega)
          refine qL_same_115 ?_
          refine qL_same_116 ?_
          refine qL_same_118 ?_
          first | refine nL_same_119 ?_ | refine qL_same_119 ?_
          refine qL_same_120 ?_
          first | refine nL_same_122 ?_ | refine qL_same_122 ?_
          first | refine fL_same_123 (by assumption) (by omega) (by decide) ?_ | refine nL_same_123 (by assumption) (by omega) (by decide) ?_
          rw [hE k hkl, ← e3]
          refine qL_same_124 ?_
          refine qL_same_129 ?_
          exact K131 _ _
      rw [show nI 1 = nI (bN ((List.range 0).all (fun i => (lA s a).2.2 i != (lA s a).2.2 k))) from rfl]
      have LI : ∀ m2 i, i + m2 = k → wp G (d + 16) mL_same P 40 [some (.ref (gB G)), some (.int (nI a)), some (.int x), some (.ref (gB G + 92)), some (.ref (gB G + 93)), some (.ref (gB G + 94)), some (.ref (gB G + 95)), some (.int (nI (12 * a))), some (.int (nI ((lA s a).1 * (lA s a).2.1))), some (.int (nI (mnF (lA s a).2.2 k))), some (.int (nI (mxF (lA s a).2.2 k))), some (.int (nI (unlE (lA s a).2.2 k))), some (.int (nI k)), some (.int (nI (bN ((List.range i).all (fun i => (lA s a).2.2 i != (lA s a).2.2 k))))), some (.int (nI i)), l15, l16, l17, l18, l19, l20, l21, l22, l23, l24, l25, l26, l27, l28, l29, l30] [] w κ := by
        intro m2
        induction m2 with
        | zero =>
          intro i hi
          rw [show i = k by omega]
          have hfr : freshN (lA s a).2.2 k = (List.range k).all (fun i => (lA s a).2.2 i != (lA s a).2.2 k) := rfl
          rw [← hfr]
          refine qL_same_40 ?_
          refine qL_same_42 ?_
          refine nL_same_44 (by omega) (by omega) (fun h44 => ?_) (fun h44 => by exfalso; omega)
          refine qL_same_86 ?_
          refine qL_same_88 ?_
          cases hh : freshN (lA s a).2.2 k with
          | true =>
            rw [show bN true = 1 from rfl]
            refine nL_same_90 (by omega) (fun h90 => by exfalso; omega) (fun h90 => ?_)
            refine qL_same_93 ?_
            refine qL_same_94 ?_
            first | refine nL_same_98 ?_ | refine qL_same_98 ?_
            refine qL_same_99 ?_
            rw [show unlE (lA s a).2.2 k + 1 = unlE (lA s a).2.2 (k + 1) by simp [unlE, hh]]
            exact K101 _ _
          | false =>
            rw [show bN false = 0 from rfl]
            refine nL_same_90 (by omega) (fun h90 => ?_) (fun h90 => by exfalso; omega)
            refine qL_same_97 ?_
            first | refine nL_same_98 ?_ | refine qL_same_98 ?_
            refine qL_same_99 ?_
            rw [show unlE (lA s a).2.2 k + 0 = unlE (lA s a).2.2 (k + 1) by simp [unlE, hh]]
            exact K101 _ _
        | succ m2 ih2 =>
          intro i hi
          have hil : i < (lA s a).1 * (lA s a).2.1 := by omega
          have e4 := h999 i hil
          have hs2 := ih2 (i + 1) (by omega)
          rw [List.range_succ, List.all_append] at hs2
          refine qL_same_40 ?_
          refine qL_same_42 ?_
          refine nL_same_44 (by omega) (by omega) (fun h44 => by exfalso; omega) (fun h44 => ?_)
          refine qL_same_47 ?_
          cases hh : (List.range i).all (fun i => (lA s a).2.2 i != (lA s a).2.2 k) with
          | false =>
            rw [hh] at hs2
            rw [show bN false = 0 from rfl]
            refine nL_same_49 (by omega) (fun h49 => ?_) (fun h49 => by exfalso; omega)
            refine qL_same_77 ?_
            refine qL_same_78 ?_
            first | refine nL_same_80 ?_ | refine qL_same_80 ?_
            refine qL_same_83 ?_
            exact hs2
          | true =>
            rw [hh] at hs2
            rw [show bN true = 1 from rfl]
            refine nL_same_49 (by omega) (fun h49 => by exfalso; omega) (fun h49 => ?_)
            refine qL_same_52 ?_
            refine qL_same_53 ?_
            refine qL_same_55 ?_
            first | refine nL_same_56 ?_ | refine qL_same_56 ?_
            refine qL_same_57 ?_
            first | refine nL_same_59 ?_ | refine qL_same_59 ?_
            first | refine fL_same_60 (by assumption) (by omega) (by decide) ?_ | refine nL_same_60 (by assumption) (by omega) (by decide) ?_
            refine qL_same_61 ?_
            refine qL_same_62 ?_
            refine qL_same_64 ?_
            first | refine nL_same_65 ?_ | refine qL_same_65 ?_
            refine qL_same_66 ?_
            first | refine nL_same_68 ?_ | refine qL_same_68 ?_
            first | refine fL_same_69 (by assumption) (by omega) (by decide) ?_ | refine nL_same_69 (by assumption) (by omega) (by decide) ?_
            rw [hE k hkl, hE i hil]
            refine nL_same_70 (by omega) (by omega) (fun h70 => ?_) (fun h70 => ?_)
            · refine qL_same_77 ?_
              refine qL_same_78 ?_
              first | refine nL_same_80 ?_ | refine qL_same_80 ?_
              refine qL_same_83 ?_
              simp only [List.all_cons, List.all_nil, h70, bne_self_eq_false, Bool.and_true, Bool.and_false] at hs2
              exact hs2
            · refine qL_same_73 ?_
              refine qL_same_74 ?_
              refine qL_same_78 ?_
              first | refine nL_same_80 ?_ | refine qL_same_80 ?_
              refine qL_same_83 ?_
              have hb : ((lA s a).2.2 i != (lA s a).2.2 k) = true := by simpa using h70
              simp only [List.all_cons, List.all_nil, hb, Bool.and_true] at hs2
              exact hs2
      exact LI k 0 (by omega)
  exact LM ((lA s a).1 * (lA s a).2.1) 0 _ _ (by omega)
/-- rows, columns, the greatest, the least, unlike entries; all entries -/
theorem sm2 (l9 l10 l11 l12 l13 l14 l15 l16 l17 l18 l19 l20 l21 l22 l23 l24 l25 l26 l27 l28 l29 l30 : Option Value) (h : jW G w s f v co se) (hf : jF s f) (ha : a < 3) (K : wp G (d + 16) mL_same P 292 [some (.ref (gB G)), some (.int (nI a)), some (.int x), some (.ref (gB G + 92)), some (.ref (gB G + 93)), some (.ref (gB G + 94)), some (.ref (gB G + 95)), some (.int (nI (12 * a))), some (.int (nI ((lA s a).1 * (lA s a).2.1))), some (.int (nI (mnF (lA s a).2.2 ((lA s a).1 * (lA s a).2.1)))), some (.int (nI (mxF (lA s a).2.2 ((lA s a).1 * (lA s a).2.1)))), some (.int (nI (unlE (lA s a).2.2 ((lA s a).1 * (lA s a).2.1)))), l12, l13, l14, l15, l16, l17, l18, l19, l20, l21, l22, l23, l24, l25, l26, l27, l28, l29, l30] [] w κ) : wp G (d + 16) mL_same P 204 [some (.ref (gB G)), some (.int (nI a)), some (.int x), some (.ref (gB G + 92)), some (.ref (gB G + 93)), some (.ref (gB G + 94)), some (.ref (gB G + 95)), some (.int (nI (12 * a))), some (.int (nI ((lA s a).1 * (lA s a).2.1))), some (.int (nI (mnF (lA s a).2.2 ((lA s a).1 * (lA s a).2.1)))), some (.int (nI (mxF (lA s a).2.2 ((lA s a).1 * (lA s a).2.1)))), some (.int (nI (unlE (lA s a).2.2 ((lA s a).1 * (lA s a).2.1)))), l12, l13, l14, l15, l16, l17, l18, l19, l20, l21, l22, l23, l24, l25, l26, l27, l28, l29, l30] [] w κ := by
  have hlv := h.lV hf ha
  obtain ⟨hp, _, hR, hC, hE, hd, h9, h999⟩ := id hlv
  have d1 := hd.2.1
  have d4 := hd.2.2.2.1
  have e1 : mnF (lA s a).2.2 ((lA s a).1 * (lA s a).2.1) ≤ 999 := mnF_le _
  have e2 : mxF (lA s a).2.2 ((lA s a).1 * (lA s a).2.1) ≤ 999 := mxF_le (fun j hj => h999 j (by omega))
  have e3 : unlE (lA s a).2.2 ((lA s a).1 * (lA s a).2.1) ≤ (lA s a).1 * (lA s a).2.1 := unlE_le _
  obtain ⟨a0, a1, a2, a3, a4⟩ := e_arrayOf hf.1 ha
  refine qL_same_204 ?_
  refine qL_same_205 ?_
  refine qL_same_206 ?_
  refine qL_same_207 (jW.ob h) (Nat.le_of_ble_eq_true rfl) (t_arrayOf h.1 hf.1 ?_)
  rw [a0]
  refine qL_same_210 ?_
  refine qL_same_211 ?_
  first | refine fL_same_213 (by assumption) (by omega) (by decide) ?_ | refine nL_same_213 (by assumption) (by omega) (by decide) ?_
  rw [hR]
  refine nL_same_214 (by omega) (by omega) (fun h214 => by exfalso; omega) (fun h214 => ?_)
  refine qL_same_217 ?_
  refine qL_same_218 ?_
  refine qL_same_219 ?_
  refine qL_same_220 (jW.ob h) (Nat.le_of_ble_eq_true rfl) (t_arrayOf h.1 hf.1 ?_)
  rw [a1]
  refine qL_same_223 ?_
  refine qL_same_224 ?_
  refine qL_same_226 ?_
  first | refine nL_same_227 ?_ | refine qL_same_227 ?_
  first | refine fL_same_228 (by assumption) (by omega) (by decide) ?_ | refine nL_same_228 (by assumption) (by omega) (by decide) ?_
  rw [hC]
  refine nL_same_229 (by omega) (by omega) (fun h229 => by exfalso; omega) (fun h229 => ?_)
  refine qL_same_232 ?_
  refine qL_same_233 ?_
  refine qL_same_234 ?_
  refine qL_same_235 (jW.ob h) (Nat.le_of_ble_eq_true rfl) (t_arrayOf h.1 hf.1 ?_)
  rw [a2]
  refine qL_same_238 ?_
  refine nL_same_240 (by omega) (by omega) (fun h240 => by exfalso; omega) (fun h240 => ?_)
  refine qL_same_243 ?_
  refine qL_same_244 ?_
  refine qL_same_245 ?_
  refine qL_same_246 (jW.ob h) (Nat.le_of_ble_eq_true rfl) (t_arrayOf h.1 hf.1 ?_)
  rw [a3]
  refine qL_same_249 ?_
  refine nL_same_251 (by omega) (by omega) (fun h251 => by exfalso; omega) (fun h251 => ?_)
  refine qL_same_254 ?_
  refine qL_same_255 ?_
  refine qL_same_256 ?_
  refine qL_same_257 (jW.ob h) (Nat.le_of_ble_eq_true rfl) (t_arrayOf h.1 hf.1 ?_)
  rw [a4]
  refine qL_same_260 ?_
  refine nL_same_262 (by omega) (by omega) (fun h262 => by exfalso; omega) (fun h262 => ?_)
  refine qL_same_265 ?_
  refine qL_same_266 ?_
  refine qL_same_267 (jW.ob h) (Nat.le_of_ble_eq_true rfl) (t_count h.1 ?_)
  rw [e_count]
  refine qL_same_270 ?_
  refine qL_same_271 ?_
  refine qL_same_272 (Nat.le_of_ble_eq_true rfl) (l_many (h.lV hf (show 0 < 3 by decide)) ?_)
  refine qL_same_275 ?_
  refine qL_same_276 ?_
  refine qL_same_277 (Nat.le_of_ble_eq_true rfl) (l_many (h.lV hf (show 1 < 3 by decide)) ?_)
  first | refine nL_same_280 ?_ | refine qL_same_280 ?_
  refine qL_same_281 ?_
  refine qL_same_282 ?_
  refine qL_same_283 (Nat.le_of_ble_eq_true rfl) (l_many (h.lV hf (show 2 < 3 by decide)) ?_)
  first | refine nL_same_286 ?_ | refine qL_same_286 ?_
  rw [show (lA s 0).1 * (lA s 0).2.1 + (lA s 1).1 * (lA s 1).2.1 + (lA s 2).1 * (lA s 2).2.1 = szS (lA s) 3 by simp [szS]]
  have z0 := (hf.2 0 (by decide)).2.2.2.2
  have z1 := (hf.2 1 (by decide)).2.2.2.2
  have z2 := (hf.2 2 (by decide)).2.2.2.2
  have z3 : szS (lA s) 3 ≤ 27 := by
    simp only [szS]
    omega
  refine nL_same_287 (by omega) (by omega) (fun h287 => ?_) (fun h287 => by exfalso; omega)
  exact K
end SM1
