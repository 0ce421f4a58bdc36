/-! the law's turn: behind the act -/
def cbz (s t : Nat × Nat) : Nat × Nat := if t.2 < s.2 then t else s
def rkZ (R C : Nat) (a : Nat → Nat) (m : Nat) : Nat := rkN 1 R C (updN a m 0)
theorem cbz_st {R C : Nat} {a : Nat → Nat} {m : Nat} {t : Nat × Nat} : cbz (bzF R C a (m + 1)) t = cbz (bzF R C a m) (if t.2 < rkZ R C a m then t else (m, rkZ R C a m)) := by
  have e : bzF R C a (m + 1) = if rkZ R C a m < (bzF R C a m).2 then (m, rkZ R C a m) else bzF R C a m := rfl
  rw [e]
  generalize bzF R C a m = s
  generalize rkZ R C a m = r
  unfold cbz
  by_cases h1 : r < s.2
  · rw [if_pos h1]
    by_cases h2 : t.2 < r
    · rw [if_pos h2, if_pos (by omega)]
    · rw [if_neg h2, if_pos h1]
  · rw [if_neg h1]
    by_cases h2 : t.2 < r
    · rw [if_pos h2]
    · rw [if_neg h2, if_neg h1, if_neg (by omega)]
theorem bzL13 {R C : Nat} {a : Nat → Nat} : ∀ m, (bzF R C a m).2 ≤ 13
  | 0 => Nat.le_refl _
  | m + 1 => by
    have h := bzL13 (R := R) (C := C) (a := a) m
    simp only [bzF]
    split
    · next h1 => exact Nat.le_trans (Nat.le_of_lt h1) h
    · exact h
theorem ffLn {U : Nat → Bool} {n : Nat} : ∀ m, (ffN U n m).1 ≤ n
  | 0 => Nat.le_refl _
  | m + 1 => by
    simp only [ffN]
    split
    · exact Nat.sub_le _ _
    · exact ffLn m
theorem rkZ_le {R C : Nat} {a : Nat → Nat} {m : Nat} (h : R * C ≤ 9) : rkZ R C a m ≤ 9 := Nat.le_trans (ffLn (R * C)) h
section LTAIL
variable {G : sG} {d : Nat} {P : sQ} {w : sW} {s : xS} {a : Nat} {f : Nat → Nat} {v : Nat → Int32} {co : Nat → Nat} {se : Nat → Int64} {x y : Int32} {t kd k1 k2 : Nat}
theorem lt1 (l12 l13 l14 l15 l16 l17 l18 l19 l20 l21 l22 l23 l24 l25 : Option Value) (h : jW G w s f v co se) (hf : jF s f) (ha : a < 3) (ht : t < 18) (hkd : kd < 11) {c1 c2 : Nat} (hk1 : 6 + c1 ≤ k1) (hk2 : 54 + c2 ≤ k2) (K : ∀ w2 f2 v2 co2 se2 j1 j2 (l16 : Option Value), jW G w2 s f2 v2 co2 se2 → jF s f2 → c1 ≤ j1 → c2 ≤ j2 → wp G (d + 17) m_law P 1834 [some (.ref (gb G)), some (.ref (gB G)), some (.ref (gB G + 92)), some (.ref (gB G + 93)), some (.ref (gB G + 94)), some (.ref (gB G + 95)), some (.int (nI t)), some (.int (x)), some (.int (y)), some (.int (nI kd)), some (.int (nI a)), some (.int (nI (12 * a))), l12, l13, l14, l15, l16, l17, l18, l19, l20, l21, l22, l23, l24, l25] [] w2 (j1, j2)) : wp G (d + 17) m_law P 1775 [some (.ref (gb G)), some (.ref (gB G)), some (.ref (gB G + 92)), some (.ref (gB G + 93)), some (.ref (gB G + 94)), some (.ref (gB G + 95)), some (.int (nI t)), some (.int (x)), some (.int (y)), some (.int (nI kd)), some (.int (nI a)), some (.int (nI (12 * a))), l12, l13, l14, l15, l16, l17, l18, l19, l20, l21, l22, l23, l24, l25] [] w (k1, k2) := by
  have LB : ∀ m b w2 f2 v2 co2 se2 j1 j2, b + m = 3 → jW G w2 s f2 v2 co2 se2 → jF s f2 → 2 * m + c1 ≤ j1 → 18 * m + c2 ≤ j2 → wp G (d + 17) m_law P 1778 [some (.ref (gb G)), some (.ref (gB G)), some (.ref (gB G + 92)), some (.ref (gB G + 93)), some (.ref (gB G + 94)), some (.ref (gB G + 95)), some (.int (nI t)), some (.int (x)), some (.int (y)), some (.int (nI kd)), some (.int (nI a)), some (.int (nI (12 * a))), l12, l13, l14, l15, some (.int (nI b)), l17, l18, l19, l20, l21, l22, l23, l24, l25] [] w2 (j1, j2) := by
    intro m
    induction m with
    | zero =>
      intro b w2 f2 v2 co2 se2 j1 j2 hb h2 hf2 g1 g2
      refine qL_law_1778 ?_
      refine qL_law_1780 ?_
      refine nL_law_1781 (by omega) (by omega) (fun h1781 => ?_) (fun h1781 => by exfalso; omega)
      exact K w2 f2 v2 co2 se2 j1 j2 _ h2 hf2 (by omega) (by omega)
    | succ m ih =>
      intro b w2 f2 v2 co2 se2 j1 j2 hb h2 hf2 g1 g2
      have KS : wp G (d + 17) m_law P 1804 [some (.ref (gb G)), some (.ref (gB G)), some (.ref (gB G + 92)), some (.ref (gB G + 93)), some (.ref (gB G + 94)), some (.ref (gB G + 95)), some (.int (nI t)), some (.int (x)), some (.int (y)), some (.int (nI kd)), some (.int (nI a)), some (.int (nI (12 * a))), l12, l13, l14, l15, some (.int (nI b)), l17, l18, l19, l20, l21, l22, l23, l24, l25] [] w2 (j1, j2) := by
        refine qL_law_1804 ?_
        refine qL_law_1805 ?_
        refine qL_law_1807 ?_
        refine qL_law_1809 ?_
        refine qL_law_1811 ?_
        first | refine nL_law_1812 ?_ | refine qL_law_1812 ?_
        refine qL_law_1813 ?_
        refine qL_law_1814 ?_
        refine qL_law_1815 ?_
        refine qL_law_1816 ?_
        refine qL_law_1818 ?_
        refine bL_law_1820 (κ1 := (2, 18)) (κ2 := (j1 - 2, j2 - 18)) (Nat.le_of_ble_eq_true rfl) ⟨show 2 + (j1 - 2) ≤ j1 by omega, show 18 + (j2 - 18) ≤ j2 by omega⟩ (l_same h2 hf2 (show b < 3 by omega) (fun w3 f3 v3 co3 se3 h3 hf3 => ?_))
        refine nL_law_1823 (by omega) (fun h1823 => ?_) (fun h1823 => by exfalso; omega)
        first | refine nL_law_1828 ?_ | refine qL_law_1828 ?_
        refine qL_law_1831 ?_
        exact ih (b + 1) w3 f3 v3 co3 se3 _ _ (by omega) h3 hf3 (by omega) (by omega)
      refine qL_law_1778 ?_
      refine qL_law_1780 ?_
      refine nL_law_1781 (by omega) (by omega) (fun h1781 => by exfalso; omega) (fun h1781 => ?_)
      refine qL_law_1784 ?_
      refine qL_law_1786 ?_
      refine nL_law_1788 (by omega) (by omega) (fun h1788 => ?_) (fun h1788 => ?_)
      · exact KS
      · refine qL_law_1791 ?_
        refine qL_law_1793 ?_
        refine nL_law_1794 (by omega) (by omega) (fun h1794 => ?_) (fun h1794 => ?_)
        · exact KS
        · refine qL_law_1797 ?_
          refine qL_law_1799 ?_
          refine nL_law_1801 (by omega) (by omega) (fun h1801 => ?_) (fun h1801 => ?_)
          · first | refine nL_law_1828 ?_ | refine qL_law_1828 ?_
            refine qL_law_1831 ?_
            exact ih (b + 1) w2 f2 v2 co2 se2 _ _ (by omega) h2 hf2 (by omega) (by omega)
          · exact KS
  refine qL_law_1775 ?_
  refine qL_law_1776 ?_
  exact LB 3 0 w f v co se k1 k2 rfl h hf hk1 hk2
theorem lV.upd {w' : sW} {R C i u : Nat} {E : Nat → Nat} (h : lV G w (gB G + 92) f a R C E) (hi : i < R * C) (hu : u ≤ 999) (hw : w'.1 (gB G + 92) = aN G 36 (updN f (12 * a + 2 + i) u)) : lV G w' (gB G + 92) (updN f (12 * a + 2 + i) u) a R C (updN E i u) := by
  obtain ⟨_, h1, h2, h3, h4, h5, h6, h7⟩ := h
  have o : ∀ q, updN f (12 * a + 2 + i) u q = if q = 12 * a + 2 + i then u else f q := fun _ => rfl
  refine ⟨hw, h1, by rw [o, if_neg (by omega)]; exact h2, by rw [o, if_neg (by omega)]; exact h3, fun q hq => ?_, h5, h6, fun q hq => ?_⟩
  · rw [o]
    show _ = if q = i then u else E q
    by_cases hqi : q = i
    · rw [if_pos (by omega), if_pos hqi]
    · rw [if_neg (by omega), if_neg hqi]
      exact h4 q hq
  · show (if q = i then u else E q) ≤ 999
    split
    · exact hu
    · exact h7 q hq
theorem lt2 (l12 l13 l14 l15 l16 l17 l18 l19 l20 l21 l22 l23 l24 l25 : Option Value) (h : jW G w s f v co se) (hf : jF s f) (ha : a < 3) (ht : t < 18) (hkd : kd < 11) (K : ∀ w2 v2 co2 se2 (l16 l17 l18 l19 l20 l21 l22 l23 l24 : Option Value), jW G w2 s f v2 co2 se2 → wp G (d + 17) m_law P 2118 [some (.ref (gb G)), some (.ref (gB G)), some (.ref (gB G + 92)), some (.ref (gB G + 93)), some (.ref (gB G + 94)), some (.ref (gB G + 95)), some (.int (nI t)), some (.int (x)), some (.int (y)), some (.int (nI kd)), some (.int (nI a)), some (.int (nI (12 * a))), l12, l13, l14, l15, l16, l17, l18, l19, l20, l21, l22, l23, l24, l25] [] w2 (k1, k2)) : wp G (d + 17) m_law P 1834 [some (.ref (gb G)), some (.ref (gB G)), some (.ref (gB G + 92)), some (.ref (gB G + 93)), some (.ref (gB G + 94)), some (.ref (gB G + 95)), some (.int (nI t)), some (.int (x)), some (.int (y)), some (.int (nI kd)), some (.int (nI a)), some (.int (nI (12 * a))), l12, l13, l14, l15, l16, l17, l18, l19, l20, l21, l22, l23, l24, l25] [] w (k1, k2) := by
  have hlv := h.lV hf ha
  obtain ⟨hp, _, hR, hC, hE, hd, h9, h999⟩ := id hlv
  have hR3 := (hf.2 a ha).2.2.2.1
  have d1 := hd.1
  have d3 := hd.2.2.1
  have d4 := hd.2.2.2.1
  have hn1 : 1 ≤ (lA s a).1 * (lA s a).2.1 := Nat.mul_pos d1 d3
  refine qL_law_1834 ?_
  refine qL_law_1836 ?_
  refine qL_law_1838 ?_
  refine qL_law_1839 ?_
  refine qL_law_1840 (Nat.le_of_ble_eq_true rfl) (l_low (by decide) (by decide) (fun ρ hρ => ?_))
  refine nL_law_1843 (by omega) (fun h1843 => ?_) (fun h1843 => ?_)
  · exact K w v co se _ _ _ _ _ _ _ _ _ h
  · refine qL_law_1846 ?_
    refine qL_law_1848 ?_
    refine qL_law_1849 (Nat.le_of_ble_eq_true rfl) (l_many hlv ?_)
    refine qL_law_1852 ?_
    refine qL_law_1854 ?_
    refine qL_law_1856 ?_
    refine qL_law_1857 ?_
    refine qL_law_1858 ?_
    refine qL_law_1860 (Nat.le_of_ble_eq_true rfl) (l_low hn1 (by omega) (fun p hpl => ?_))
    refine qL_law_1863 ?_
    refine qL_law_1865 ?_
    refine qL_law_1867 ?_
    refine qL_law_1869 ?_
    refine qL_law_1870 ?_
    refine qL_law_1872 (Nat.le_of_ble_eq_true rfl) (l_low (by decide) (by decide) (fun u hu => ?_))
    have hpC := dvlt hpl
    have hpm : p % (lA s a).2.1 < (lA s a).2.1 := Nat.mod_lt _ (by omega)
    -- the rank by covers, if an entry was another one
    have RK : ∀ i u w2 v2 co2 se2, i < (lA s a).1 * (lA s a).2.1 → u ≤ 999 → jW G w2 s f v2 co2 se2 → ∀ w3, w3 = s_up w2 (gB G + 92) (aN G 36 (updN f (12 * a + 2 + i) u)) → jW G w3 s (updN f (12 * a + 2 + i) u) v2 co2 se2 ∧ lV G w3 (gB G + 92) (updN f (12 * a + 2 + i) u) a (lA s a).1 (lA s a).2.1 (updN (lA s a).2.2 i u) := by
      intro i u w2 v2 co2 se2 hi hu h2 w3 hw3
      have hc : w3.1 (gB G + 92) = aN G 36 (updN f (12 * a + 2 + i) u) := by rw [hw3]; exact s_upS
      exact ⟨h2.arr (by rw [hw3]; exact Fr.rf.up rfl) hc, (h2.lV hf ha).upd hi hu hc⟩
    have BK : ∀ i u w2 v2 co2 se2, i < (lA s a).1 * (lA s a).2.1 → jW G w2 s (updN f (12 * a + 2 + i) u) v2 co2 se2 → jW G (s_up w2 (gB G + 92) (aN G 36 (updN (updN f (12 * a + 2 + i) u) (12 * a + 2 + i) ((lA s a).2.2 i)))) s f v2 co2 se2 := by
      intro i u w2 v2 co2 se2 hi h2
      rw [← hE i hi, updN_undo]
      exact h2.arr (Fr.rf.up rfl) s_upS
    have LZ : ∀ m w2 v2 co2 se2 tt (l19 l22 : Option Value), m ≤ (lA s a).1 * (lA s a).2.1 → jW G w2 s f v2 co2 se2 → cbz (bzF (lA s a).1 (lA s a).2.1 (lA s a).2.2 m) tt = bzF (lA s a).1 (lA s a).2.1 (lA s a).2.2 ((lA s a).1 * (lA s a).2.1) → tt.2 ≤ 99 → (m < (lA s a).1 * (lA s a).2.1 → tt.2 ≤ 9) → ∀ z, ((m = 0 → z = -1) ∧ ∀ i, m = i + 1 → z = nI i) → wp G (d + 17) m_law P 2022 [some (.ref (gb G)), some (.ref (gB G)), some (.ref (gB G + 92)), some (.ref (gB G + 93)), some (.ref (gB G + 94)), some (.ref (gB G + 95)), some (.int (nI t)), some (.int (x)), some (.int (y)), some (.int (nI kd)), some (.int (nI a)), some (.int (nI (12 * a))), l12, l13, l14, l15, some (.int (nI ((lA s a).1 * (lA s a).2.1))), some (.int (nI p)), some (.int (nI u)), l19, some (.int (nI tt.2)), some (.int (nI tt.1)), l22, some (.int (nI (bcN (nedN (lA s a).1 (lA s a).2.1 (updN (lA s a).2.2 p u) (lA s a).2.1)))), some (.int (z)), l25] [] w2 (k1, k2) := by
      intro m
      induction m with
      | zero =>
        intro w2 v2 co2 se2 tt l19 l22 hm h2 hcb ht9 htm z hz
        rw [hz.1 rfl]
        refine qL_law_2022 ?_
        refine qL_law_2024 (fun h2024 => ?_) (fun h2024 => absurd (by decide) h2024)
        refine qL_law_2105 ?_
        refine qL_law_2106 ?_
        refine qL_law_2108 (jW.ob h2) (Nat.le_of_ble_eq_true rfl) (t_bestZero h2.1 hf.1 (fun w3 hF3 hc3 => ?_))
        have h3 := h2.cl hF3 hc3
        have htt : tt.1 = (bzF (lA s a).1 (lA s a).2.1 (lA s a).2.2 ((lA s a).1 * (lA s a).2.1)).1 := by
          rw [← hcb]
          unfold cbz
          have hlt : tt.2 < (bzF (lA s a).1 (lA s a).2.1 (lA s a).2.2 0).2 := by
            have := htm (by omega)
            show tt.2 < 13
            omega
          rw [if_pos hlt]
        rw [e_bestZero ha, htt]
        refine qL_law_2111 ?_
        refine qL_law_2113 (fun h2113 => ?_) (fun h2113 => absurd rfl h2113)
        exact K w3 v2 co2 se2 _ _ _ _ _ _ _ _ _ h3
      | succ m ih =>
        intro w2 v2 co2 se2 tt l19 l22 hm h2 hcb ht9 htm z hz
        have hp2 := h2.2.1
        have hml : m < (lA s a).1 * (lA s a).2.1 := by omega
        have e9 := h999 m hml
        rw [hz.2 m rfl]
        refine qL_law_2022 ?_
        refine nL_law_2024 (by omega) (fun h2024 => by exfalso; omega) (fun h2024 => ?_)
        refine qL_law_2027 ?_
        refine qL_law_2028 ?_
        refine qL_law_2030 ?_
        first | refine nL_law_2031 ?_ | refine qL_law_2031 ?_
        refine qL_law_2032 ?_
        first | refine nL_law_2034 ?_ | refine qL_law_2034 ?_
        first | refine fL_law_2035 (by assumption) (by omega) (by decide) ?_ | refine nL_law_2035 (by assumption) (by omega) (by decide) ?_
        rw [hE m hml]
        refine qL_law_2036 ?_
        refine qL_law_2038 ?_
        refine qL_law_2039 ?_
        refine qL_law_2041 ?_
        first | refine nL_law_2042 ?_ | refine qL_law_2042 ?_
        refine qL_law_2043 ?_
        first | refine nL_law_2045 ?_ | refine qL_law_2045 ?_
        refine qL_law_2046 ?_
        refine fL_law_2047 (by assumption) (by omega) (by decide) ?_
        obtain ⟨h3, lv3⟩ := RK m 0 w2 v2 co2 se2 hml (by decide) h2 _ rfl
        generalize s_up w2 (gB G + 92) (aN G 36 (updN f (12 * a + 2 + m) 0)) = w3 at *
        refine qL_law_2048 ?_
        refine qL_law_2050 ?_
        refine qL_law_2051 ?_
        refine qL_law_2052 ?_
        refine qL_law_2054 (Nat.le_of_ble_eq_true rfl) (l_sets lv3 hR3 h3.2.2.1 h3.2.2.2.2.1 (by omega) (by omega) (by omega) (fun w4 v4 se4 hF4 hv4 hs4 hb4 => ?_))
        have h4 := h3.sets hF4 hv4 hs4
        refine qL_law_2057 rfl ?_
        refine qL_law_2058 ?_
        refine qL_law_2060 ?_
        refine qL_law_2061 ?_
        refine qL_law_2063 ?_
        refine qL_law_2065 (Nat.le_of_ble_eq_true rfl) (l_colors (lv3.fr hF4 (by omega)) hs4 hb4 h4.2.2.2.1 (by omega) (by omega) (fun w5 co5 hF5 hc5 _ => ?_))
        have h5 := h4.cols hF5 hc5
        have hp5 := h5.2.1
        refine qL_law_2068 ?_
        refine qL_law_2070 ?_
        refine qL_law_2071 ?_
        refine qL_law_2073 ?_
        first | refine nL_law_2074 ?_ | refine qL_law_2074 ?_
        refine qL_law_2075 ?_
        first | refine nL_law_2077 ?_ | refine qL_law_2077 ?_
        refine qL_law_2078 ?_
        refine fL_law_2080 (by assumption) (by omega) (by decide) ?_
        have h6 := BK m 0 w5 v4 co5 se4 hml h5
        generalize s_up w5 (gB G + 92) (aN G 36 (updN (updN f (12 * a + 2 + m) 0) (12 * a + 2 + m) ((lA s a).2.2 m))) = w6 at *
        have er : (ffN (untN (lA s a).1 (lA s a).2.1 (updN (lA s a).2.2 m 0)) ((lA s a).1 * (lA s a).2.1) ((lA s a).1 * (lA s a).2.1)).1 = rkZ (lA s a).1 (lA s a).2.1 (lA s a).2.2 m := rfl
        have rl := rkZ_le (a := (lA s a).2.2) (m := m) h9
        rw [er]
        rw [cbz_st] at hcb
        -- the next place
        have NX : ∀ tt2 (l19 l22 : Option Value), cbz (bzF (lA s a).1 (lA s a).2.1 (lA s a).2.2 m) tt2 = bzF (lA s a).1 (lA s a).2.1 (lA s a).2.2 ((lA s a).1 * (lA s a).2.1) → tt2.2 ≤ 9 → wp G (d + 17) m_law P 2099 [some (.ref (gb G)), some (.ref (gB G)), some (.ref (gB G + 92)), some (.ref (gB G + 93)), some (.ref (gB G + 94)), some (.ref (gB G + 95)), some (.int (nI t)), some (.int (x)), some (.int (y)), some (.int (nI kd)), some (.int (nI a)), some (.int (nI (12 * a))), l12, l13, l14, l15, some (.int (nI ((lA s a).1 * (lA s a).2.1))), some (.int (nI p)), some (.int (nI u)), l19, some (.int (nI tt2.2)), some (.int (nI tt2.1)), l22, some (.int (nI (bcN (nedN (lA s a).1 (lA s a).2.1 (updN (lA s a).2.2 p u) (lA s a).2.1)))), some (.int (nI m)), l25] [] w6 (k1, k2) := by
          intro tt2 l19 l22 hcb2 ht2
          cases m with
          | zero =>
            refine qL_law_2099 ?_
            refine qL_law_2102 ?_
            exact ih w6 v4 co5 se4 tt2 _ _ (by omega) h6 hcb2 (by omega) (fun _ => ht2) _ ⟨fun _ => by decide, fun i hi => by omega⟩
          | succ m =>
            refine nL_law_2099 ?_
            refine qL_law_2102 ?_
            exact ih w6 v4 co5 se4 tt2 _ _ (by omega) h6 hcb2 (by omega) (fun _ => ht2) _ ⟨fun q => by omega, fun i hi => by rw [show m = i by omega]⟩
        refine qL_law_2081 ?_
        refine qL_law_2083 ?_
        refine nL_law_2085 (by omega) (by omega) (fun h2085 => ?_) (fun h2085 => ?_)
        · rw [if_neg (by omega)] at hcb
          refine qL_law_2091 ?_
          refine qL_law_2093 ?_
          refine qL_law_2095 ?_
          refine qL_law_2097 ?_
          exact NX (m, rkZ (lA s a).1 (lA s a).2.1 (lA s a).2.2 m) _ _ hcb rl
        · rw [if_pos h2085] at hcb
          refine qL_law_2088 ?_
          exact NX tt _ _ hcb (by omega)
    refine qL_law_1875 ?_
    refine qL_law_1877 ?_
    refine qL_law_1878 ?_
    refine qL_law_1880 ?_
    first | refine nL_law_1881 ?_ | refine qL_law_1881 ?_
    refine qL_law_1882 ?_
    first | refine nL_law_1884 ?_ | refine qL_law_1884 ?_
    first | refine fL_law_1885 (by assumption) (by omega) (by decide) ?_ | refine nL_law_1885 (by assumption) (by omega) (by decide) ?_
    rw [hE p hpl]
    have ep := h999 p hpl
    refine qL_law_1886 ?_
    refine qL_law_1888 ?_
    refine qL_law_1890 ?_
    refine qL_law_1892 ?_
    refine qL_law_1893 ?_
    refine qL_law_1895 ?_
    refine qL_law_1896 ?_
    refine qL_law_1898 ?_
    first | refine nL_law_1899 ?_ | refine qL_law_1899 ?_
    refine qL_law_1900 ?_
    first | refine nL_law_1902 ?_ | refine qL_law_1902 ?_
    refine qL_law_1903 ?_
    refine fL_law_1905 (by assumption) (by omega) (by decide) ?_
    obtain ⟨h3, lv3⟩ := RK p u w v co se hpl (by omega) h _ rfl
    generalize s_up w (gB G + 92) (aN G 36 (updN f (12 * a + 2 + p) u)) = w3 at *
    refine qL_law_1906 ?_
    refine qL_law_1908 ?_
    refine qL_law_1909 ?_
    refine qL_law_1910 ?_
    refine qL_law_1912 (Nat.le_of_ble_eq_true rfl) (l_sets lv3 hR3 h3.2.2.1 h3.2.2.2.2.1 (by omega) (by omega) (by omega) (fun w4 v4 se4 hF4 hv4 hs4 hb4 => ?_))
    have h4 := h3.sets hF4 hv4 hs4
    refine qL_law_1915 rfl ?_
    refine qL_law_1916 ?_
    refine qL_law_1918 ?_
    refine qL_law_1919 ?_
    refine qL_law_1921 ?_
    refine qL_law_1923 (Nat.le_of_ble_eq_true rfl) (l_colors (lv3.fr hF4 (by omega)) hs4 hb4 h4.2.2.2.1 (by omega) (by omega) (fun w5 co5 hF5 hc5 _ => ?_))
    have h5 := h4.cols hF5 hc5
    have lv5 := (lv3.fr hF4 (by omega)).fr hF5 (by omega)
    have hp5 := h5.2.1
    have hl := nedN_lt (R := (lA s a).1) (a := updN (lA s a).2.2 p u) (C := (lA s a).2.1) d4 (lA s a).2.1
    refine qL_law_1926 ?_
    refine qL_law_1928 ?_
    refine qL_law_1930 ?_
    refine qL_law_1931 (Nat.le_of_ble_eq_true rfl) (l_stay lv5 ?_)
    refine qL_law_1934 (Nat.le_of_ble_eq_true rfl) (l_bits (by omega) ?_)
    refine qL_law_1937 ?_
    refine qL_law_1939 ?_
    refine qL_law_1940 ?_
    refine qL_law_1942 ?_
    first | refine nL_law_1943 ?_ | refine qL_law_1943 ?_
    refine qL_law_1944 ?_
    first | refine nL_law_1946 ?_ | refine qL_law_1946 ?_
    refine qL_law_1947 ?_
    refine fL_law_1949 (by assumption) (by omega) (by decide) ?_
    have h6 := BK p u w5 v4 co5 se4 hpl h5
    generalize s_up w5 (gB G + 92) (aN G 36 (updN (updN f (12 * a + 2 + p) u) (12 * a + 2 + p) ((lA s a).2.2 p))) = w6 at *
    have hp6 := h6.2.1
    refine qL_law_1950 ?_
    refine qL_law_1951 ?_
    refine qL_law_1953 ?_
    refine qL_law_1955 ?_
    refine qL_law_1956 ?_
    refine qL_law_1958 ?_
    first | refine nL_law_1959 ?_ | refine qL_law_1959 ?_
    first | refine fL_law_1960 (by assumption) (by omega) (by decide) ?_ | refine nL_law_1960 (by assumption) (by omega) (by decide) ?_
    rw [hC]
    refine nL_law_1961 (by omega) (by omega) (by omega) ?_
    refine qL_law_1962 ?_
    refine qL_law_1964 ?_
    refine qL_law_1965 ?_
    refine qL_law_1967 ?_
    first | refine nL_law_1968 ?_ | refine qL_law_1968 ?_
    first | refine fL_law_1969 (by assumption) (by omega) (by decide) ?_ | refine nL_law_1969 (by assumption) (by omega) (by decide) ?_
    rw [hC]
    refine nL_law_1970 (by omega) (by omega) (by omega) ?_
    refine qL_law_1971 ?_
    refine qL_law_1973 ?_
    refine qL_law_1974 (jW.ob h6) (Nat.le_of_ble_eq_true rfl) (t_ifSet h6.1 hf.1 (fun w7 hF7 hc7 => ?_))
    have h7 := h6.cl hF7 hc7
    have hp7 := h7.2.1
    rw [e_ifSet hf.1 ha hpC hpm (show u < 1000 by omega) (show 1 < 4 by decide), mdv]
    refine qL_law_1977 ?_
    refine qL_law_1979 (fun h1979 => absurd rfl h1979) (fun h1979 => ?_)
    refine qL_law_1982 ?_
    refine qL_law_1983 ?_
    refine qL_law_1985 ?_
    refine qL_law_1987 ?_
    refine qL_law_1988 ?_
    refine qL_law_1990 ?_
    first | refine nL_law_1991 ?_ | refine qL_law_1991 ?_
    first | refine fL_law_1992 (by assumption) (by omega) (by decide) ?_ | refine nL_law_1992 (by assumption) (by omega) (by decide) ?_
    rw [hC]
    refine nL_law_1993 (by omega) (by omega) (by omega) ?_
    refine qL_law_1994 ?_
    refine qL_law_1996 ?_
    refine qL_law_1997 ?_
    refine qL_law_1999 ?_
    first | refine nL_law_2000 ?_ | refine qL_law_2000 ?_
    first | refine fL_law_2001 (by assumption) (by omega) (by decide) ?_ | refine nL_law_2001 (by assumption) (by omega) (by decide) ?_
    rw [hC]
    refine nL_law_2002 (by omega) (by omega) (by omega) ?_
    refine qL_law_2003 ?_
    refine qL_law_2005 ?_
    refine qL_law_2006 (jW.ob h7) (Nat.le_of_ble_eq_true rfl) (t_ifSet h7.1 hf.1 (fun w8 hF8 hc8 => ?_))
    have h8 := h7.cl hF8 hc8
    rw [e_ifSet hf.1 ha hpC hpm (show u < 1000 by omega) (show 2 < 4 by decide), mdv]
    refine qL_law_2009 ?_
    refine qL_law_2011 (fun h2011 => ?_) (fun h2011 => absurd rfl h2011)
    refine qL_law_2016 ?_
    refine qL_law_2018 ?_
    first | refine nL_law_2019 (by omega) ?_ | refine qL_law_2019 ?_
    refine qL_law_2020 ?_
    refine LZ ((lA s a).1 * (lA s a).2.1) w8 v4 co5 se4 (0, 99) _ _ (Nat.le_refl _) h8 ?_ (by decide) (fun q => absurd q (Nat.lt_irrefl _)) _ ⟨fun q => by omega, fun i hi => by rw [hi]; rfl⟩
    unfold cbz
    have := bzL13 (R := (lA s a).1) (C := (lA s a).2.1) (a := (lA s a).2.2) ((lA s a).1 * (lA s a).2.1)
    rw [if_neg (by simp only; omega)]
end LTAIL
