/-! the law's look at one array: cones, turned over and back -/
section SM4
variable {G : sG} {d : Nat} {P : sQ} {w : sW} {s : xS} {a : Nat} {f : Nat → Nat} {v : Nat → Int32} {co : Nat → Nat} {se : Nat → Int64} {x : Int32} {κ : Nat × Nat}
theorem clAt.w1 {w' : sW} {B : Nat} (h : clAt G w B s) (he : w'.1 = w.1) : clAt G w' B s := by
  obtain ⟨g, n⟩ := w
  obtain ⟨g', n'⟩ := w'
  have he : g' = g := he
  subst he
  exact h
theorem jW.alloc {w' : sW} {f' : Nat → Nat} (h : jW G w s f v co se) (z : w'.2 = w.2 + 1) (o : ∀ q, q ≠ gB G + 92 → q ≠ gB G + w.2 → w'.1 q = w.1 q) (hp : w'.1 (gB G + 92) = aN G 36 f') : jW G w' s f' v co se := by
  obtain ⟨h1, h2, h3, h4, h5, h6⟩ := h
  have hc : clAt G (w'.1, w.2) (gB G) s := h1.fr (S := fun q => q = gB G + 92 ∨ q = gB G + w.2) ⟨rfl, fun q hq => o q (fun z => hq (Or.inl z)) (fun z => hq (Or.inr z))⟩ (fun q _ _ => by omega)
  exact ⟨hc.w1 rfl, hp, by rw [o _ (by omega) (by omega)]; exact h3, by rw [o _ (by omega) (by omega)]; exact h4, by rw [o _ (by omega) (by omega)]; exact h5, by omega⟩
theorem sm5 (l9 l10 l11 l12 l13 l14 l15 l16 l17 l18 l19 l20 l21 l22 l23 l24 l25 l26 l27 l28 l29 l30 : Option Value) (h : jW G w s f v co se) (hf : jF s f) (ha : a < 3) (K : ∀ w2 (l20 l21 l22 l23 l24 : Option Value), jW G w2 s f v co se → wp G (d + 16) mL_same P 893 [some (.ref (gB G)), some (.int (nI a)), some (.int x), some (.ref (gB G + 92)), some (.ref (gB G + 93)), some (.ref (gB G + 94)), some (.ref (gB G + 95)), some (.int (nI (12 * a))), some (.int (nI ((lA s a).1 * (lA s a).2.1))), l9, l10, l11, l12, l13, l14, l15, l16, l17, l18, l19, l20, l21, l22, l23, l24, l25, l26, l27, l28, l29, l30] [] w2 κ) : wp G (d + 16) mL_same P 711 [some (.ref (gB G)), some (.int (nI a)), some (.int x), some (.ref (gB G + 92)), some (.ref (gB G + 93)), some (.ref (gB G + 94)), some (.ref (gB G + 95)), some (.int (nI (12 * a))), some (.int (nI ((lA s a).1 * (lA s a).2.1))), l9, l10, l11, l12, l13, l14, l15, l16, l17, l18, l19, l20, l21, l22, l23, l24, l25, l26, l27, l28, l29, l30] [] w κ := by
  have hlv := h.lV hf ha
  obtain ⟨hp, _, hR, hC, hE, hd, h9, h999⟩ := id hlv
  have d2 := hd.2.1
  have d3 := hd.2.2.1
  have d4 := hd.2.2.2.1
  obtain ⟨pC1, pC2, pC3, pC4⟩ := pw4 d4
  refine qL_same_711 ?_
  refine qL_same_712 ?_
  refine qL_same_713 ?_
  refine qL_same_714 ?_
  refine qL_same_715 ?_
  refine qL_same_717 ?_
  first | refine nL_same_718 ?_ | refine qL_same_718 ?_
  first | refine fL_same_719 (by assumption) (by omega) (by decide) ?_ | refine nL_same_719 (by assumption) (by omega) (by decide) ?_
  rw [hC]
  refine qL_same_720 (Nat.le_of_ble_eq_true rfl) (l_low (by omega) (by omega) (fun c hc => ?_))
  have hpc := (pw4 (show c ≤ 4 by omega))
  obtain ⟨pc1, pc2, pc3, pc4⟩ := hpc
  refine qL_same_723 ?_
  refine qL_same_725 ?_
  refine qL_same_726 ?_
  refine qL_same_728 ?_
  refine qL_same_729 ?_
  refine qL_same_730 ?_
  refine qL_same_731 ?_
  refine qL_same_733 ?_
  first | refine nL_same_734 ?_ | refine qL_same_734 ?_
  first | refine fL_same_735 (by assumption) (by omega) (by decide) ?_ | refine nL_same_735 (by assumption) (by omega) (by decide) ?_
  rw [hC]
  refine nL_same_736 (by omega) (by omega) ?_
  rw [pC4]
  refine qL_same_737 (Nat.le_of_ble_eq_true rfl) (l_low (by omega) (by omega) (fun o hoo => ?_))
  refine qL_same_740 ?_
  refine qL_same_741 ?_
  refine nL_same_743 (by omega) (by omega) ?_
  refine qL_same_744 ?_
  refine qL_same_745 ?_
  refine qL_same_746 ?_
  rw [clr_nI _ (by omega) _ (by omega)]
  have ho1 : clr o c ≤ o := Nat.and_le_left
  have ho2 : (clr o c).testBit c = false := by rw [clr_bit (by omega) (by omega)]; simp
  generalize hoc : clr o c = o1 at *
  obtain ⟨b0, b1⟩ := e_cone hf.1 ha hc (show o1 < 2 ^ (lA s a).2.1 by omega) ho2
  obtain ⟨c0, c1⟩ := e_byCone (s := s) false ha
  have hl := nedN_lt (R := (lA s a).1) (a := (lA s a).2.2) (C := (lA s a).2.1) d4 (lA s a).2.1
  have hm : msdN (lA s a).1 (lA s a).2.1 (lA s a).2.2 c o1 < 2 ^ (lA s a).1 := mkB_lt _ _
  have hm2 : 2 ^ (lA s a).1 ≤ 2 ^ 4 := Nat.pow_le_pow_right (by decide) d2
  refine qL_same_747 ?_
  refine qL_same_749 ?_
  refine qL_same_750 ?_
  refine qL_same_752 ?_
  refine qL_same_754 ?_
  refine qL_same_755 (Nat.le_of_ble_eq_true rfl) (l_misses hlv hc (by omega) ?_)
  refine qL_same_758 ?_
  refine qL_same_760 ?_
  refine qL_same_761 ?_
  refine qL_same_762 (Nat.le_of_ble_eq_true rfl) (l_stay hlv ?_)
  refine qL_same_765 ?_
  refine qL_same_767 ?_
  refine qL_same_768 ?_
  refine qL_same_769 ?_
  refine qL_same_771 ?_
  refine qL_same_773 ?_
  refine qL_same_774 (jW.ob h) (Nat.le_of_ble_eq_true rfl) (t_cone h.1 hf.1 ?_)
  rw [b0]
  -- the factors
  have LF : ∀ m k w2, k + m = (lA s a).2.1 → jW G w2 s f v co se → wp G (d + 16) mL_same P 837 [some (.ref (gB G)), some (.int (nI a)), some (.int x), some (.ref (gB G + 92)), some (.ref (gB G + 93)), some (.ref (gB G + 94)), some (.ref (gB G + 95)), some (.int (nI (12 * a))), some (.int (nI ((lA s a).1 * (lA s a).2.1))), l9, l10, l11, l12, l13, l14, l15, l16, l17, l18, l19, some (.int (nI c)), some (.int (nI o1)), some (.int (nI (msdN (lA s a).1 (lA s a).2.1 (lA s a).2.2 c o1))), some (.int (nI (nedN (lA s a).1 (lA s a).2.1 (lA s a).2.2 (lA s a).2.1))), some (.int (nI k)), l25, l26, l27, l28, l29, l30] [] w2 κ := by
    intro m
    induction m with
    | zero =>
      intro k w2 hk h2
      have hp2 := h2.2.1
      refine qL_same_837 ?_
      refine qL_same_839 ?_
      refine qL_same_840 ?_
      refine qL_same_842 ?_
      first | refine nL_same_843 ?_ | refine qL_same_843 ?_
      first | refine fL_same_844 (by assumption) (by omega) (by decide) ?_ | refine nL_same_844 (by assumption) (by omega) (by decide) ?_
      rw [hC]
      refine nL_same_845 (by omega) (by omega) (fun h845 => ?_) (fun h845 => by exfalso; omega)
      exact K w2 _ _ _ _ _ h2
    | succ m ih =>
      intro k w2 hk h2
      have hp2 := h2.2.1
      have hlv2 := h2.lV hf ha
      refine qL_same_837 ?_
      refine qL_same_839 ?_
      refine qL_same_840 ?_
      refine qL_same_842 ?_
      first | refine nL_same_843 ?_ | refine qL_same_843 ?_
      first | refine fL_same_844 (by assumption) (by omega) (by decide) ?_ | refine nL_same_844 (by assumption) (by omega) (by decide) ?_
      rw [hC]
      refine nL_same_845 (by omega) (by omega) (fun h845 => by exfalso; omega) (fun h845 => ?_)
      refine qL_same_848 ?_
      refine qL_same_849 ?_
      refine qL_same_850 ?_
      refine qL_same_852 ?_
      refine qL_same_854 (jW.ob h2) (Nat.le_of_ble_eq_true rfl) (t_factor h2.1 hf.1 ?_)
      rw [e_factor hf.1 ha hc (by omega)]
      refine qL_same_857 ?_
      refine qL_same_859 ?_
      refine nL_same_861 (by omega) (by omega) (fun h861 => ?_) (fun h861 => ?_)
      · rw [if_neg (fun z => h861 z.symm)]
        refine qL_same_869 ?_
        refine qL_same_870 ?_
        refine qL_same_872 ?_
        refine qL_same_874 ?_
        refine qL_same_875 (Nat.le_of_ble_eq_true rfl) (l_factor hlv2 hc (by omega) ?_)
        refine qL_same_878 ?_
        refine qL_same_881 ?_
        refine qL_same_882 (fun h882 => ?_) (fun h882 => absurd rfl h882)
        first | refine nL_same_887 ?_ | refine qL_same_887 ?_
        refine qL_same_890 ?_
        exact ih (k + 1) w2 (by omega) h2
      · rw [if_pos h861.symm]
        refine qL_same_864 ?_
        refine qL_same_866 ?_
        refine qL_same_882 (fun h882 => ?_) (fun h882 => absurd rfl h882)
        first | refine nL_same_887 ?_ | refine qL_same_887 ?_
        refine qL_same_890 ?_
        exact ih (k + 1) w2 (by omega) h2
  have REST : wp G (d + 16) mL_same P 790 [some (.ref (gB G)), some (.int (nI a)), some (.int x), some (.ref (gB G + 92)), some (.ref (gB G + 93)), some (.ref (gB G + 94)), some (.ref (gB G + 95)), some (.int (nI (12 * a))), some (.int (nI ((lA s a).1 * (lA s a).2.1))), l9, l10, l11, l12, l13, l14, l15, l16, l17, l18, l19, some (.int (nI c)), some (.int (nI o1)), some (.int (nI (msdN (lA s a).1 (lA s a).2.1 (lA s a).2.2 c o1))), some (.int (nI (nedN (lA s a).1 (lA s a).2.1 (lA s a).2.2 (lA s a).2.1))), l24, l25, l26, l27, l28, l29, l30] [] w κ := by
    refine qL_same_790 ?_
    refine qL_same_791 ?_
    refine qL_same_792 ?_
    refine qL_same_794 ?_
    refine qL_same_796 ?_
    refine qL_same_797 (jW.ob h) (Nat.le_of_ble_eq_true rfl) (t_cone h.1 hf.1 ?_)
    rw [b1]
    refine qL_same_800 ?_
    refine qL_same_802 (fun h802 => absurd rfl h802) (fun h802 => ?_)
    refine qL_same_805 ?_
    refine qL_same_806 ?_
    refine qL_same_807 ?_
    refine qL_same_808 ?_
    refine qL_same_809 (jW.ob h) (Nat.le_of_ble_eq_true rfl) (t_byCone false h.1 hf.1 (fun w3 hF3 hc3 => ?_))
    have h3 := h.cl hF3 hc3
    rw [c0]
    refine qL_same_812 ?_
    refine qL_same_814 (Nat.le_of_ble_eq_true rfl) (l_bits (by omega) ?_)
    refine qL_same_817 (fun h817 => absurd rfl h817) (fun h817 => ?_)
    refine qL_same_820 ?_
    refine qL_same_821 ?_
    refine qL_same_822 ?_
    refine qL_same_823 ?_
    refine qL_same_824 (jW.ob h3) (Nat.le_of_ble_eq_true rfl) (t_byCone false h3.1 hf.1 (fun w4 hF4 hc4 => ?_))
    have h4 := h3.cl hF4 hc4
    rw [c1]
    refine qL_same_827 ?_
    refine qL_same_829 (fun h829 => ?_) (fun h829 => absurd rfl h829)
    refine qL_same_834 ?_
    refine qL_same_835 ?_
    exact LF (lA s a).2.1 0 w4 (by omega) h4
  refine qL_same_777 ?_
  refine nL_same_779 (by omega) (fun h779 => ?_) (fun h779 => ?_)
  · rw [if_neg h779]
    refine qL_same_786 ?_
    refine qL_same_787 (fun h787 => absurd rfl h787) (fun h787 => ?_)
    exact REST
  · rw [if_pos h779]
    refine qL_same_782 ?_
    refine qL_same_783 ?_
    refine qL_same_787 (fun h787 => absurd rfl h787) (fun h787 => ?_)
    exact REST
theorem sm6 (l9 l10 l11 l12 l13 l14 l15 l16 l17 l18 l19 l20 l21 l22 l23 l24 l25 l26 l27 l28 l29 l30 : Option Value) (h : jW G w s f v co se) (hf : jF s f) (ha : a < 3) (K : ∀ w2 f2 (l24 : Option Value), jW G w2 s f2 v co se → jF s f2 → wp G (d + 16) mL_same P 939 [some (.ref (gB G)), some (.int (nI a)), some (.int x), some (.ref (gB G + 92)), some (.ref (gB G + 93)), some (.ref (gB G + 94)), some (.ref (gB G + 95)), some (.int (nI (12 * a))), some (.int (nI ((lA s a).1 * (lA s a).2.1))), l9, l10, l11, l12, l13, l14, l15, l16, l17, l18, l19, l20, l21, l22, l23, l24, l25, l26, l27, l28, l29, l30] [] w2 (0, 0)) : wp G (d + 16) mL_same P 893 [some (.ref (gB G)), some (.int (nI a)), some (.int x), some (.ref (gB G + 92)), some (.ref (gB G + 93)), some (.ref (gB G + 94)), some (.ref (gB G + 95)), some (.int (nI (12 * a))), some (.int (nI ((lA s a).1 * (lA s a).2.1))), l9, l10, l11, l12, l13, l14, l15, l16, l17, l18, l19, l20, l21, l22, l23, l24, l25, l26, l27, l28, l29, l30] [] w (2, 18) := by
  have hlv := h.lV hf ha
  obtain ⟨_, _, hR, hC, hE, hd, h9, h999⟩ := id hlv
  have d2 := hd.2.1
  have hw := h.2.2.2.2.2
  refine qL_same_893 ?_
  refine qL_same_894 ?_
  refine bL_same_895 (κ1 := (1, 9)) (κ2 := (1, 9)) (Nat.le_of_ble_eq_true rfl) ⟨by decide, by decide⟩ (l_turn hlv (by omega) (fun w1 f1 z1 o1 lv1 k1 => ?_))
  have h1 := h.alloc z1 o1 lv1.1
  refine qL_same_898 ?_
  refine qL_same_899 ?_
  refine qL_same_900 (Nat.le_of_ble_eq_true rfl) (l_stay lv1 ?_)
  refine qL_same_903 ?_
  refine qL_same_905 ?_
  refine qL_same_906 ?_
  refine bL_same_907 (κ1 := (1, 9)) (κ2 := (0, 0)) (Nat.le_of_ble_eq_true rfl) ⟨by decide, by decide⟩ (l_turn lv1 (by omega) (fun w2 f2 z2 o2 lv2 k2 => ?_))
  have h2 := h1.alloc z2 o2 lv2.1
  have hf2 : jF s f2 := by
    refine ⟨hf.1, fun b hb => ?_⟩
    obtain ⟨g1, g2, g3, g4, g5⟩ := hf.2 b hb
    by_cases hba : b = a
    · subst hba
      obtain ⟨_, _, m1, m2, m3, _, _, _⟩ := lv2
      exact ⟨m1, m2, fun q hq => by rw [m3 q hq]; exact tu_tu hq, g4, g5⟩
    · have hout : ∀ q, 12 * b ≤ q → q < 12 * b + 12 → f2 q = f q := fun q q1 q2 => by rw [k2 q (by omega), k1 q (by omega)]
      exact ⟨by rw [hout _ (by omega) (by omega)]; exact g1, by rw [hout _ (by omega) (by omega)]; exact g2, fun q hq => by rw [hout _ (by omega) (by omega)]; exact g3 q hq, g4, g5⟩
  have hl := nedN_lt (R := (lA s a).2.1) (a := tuN (lA s a).1 (lA s a).2.1 (lA s a).2.2) (C := (lA s a).1) d2 (lA s a).1
  obtain ⟨c0, c1⟩ := e_byCone (s := s) true ha
  refine qL_same_910 ?_
  refine qL_same_911 ?_
  refine qL_same_912 ?_
  refine qL_same_913 ?_
  refine qL_same_914 (jW.ob h2) (Nat.le_of_ble_eq_true rfl) (t_byCone true h2.1 hf.1 (fun w3 hF3 hc3 => ?_))
  have h3 := h2.cl hF3 hc3
  rw [c0]
  refine qL_same_917 ?_
  refine qL_same_919 (Nat.le_of_ble_eq_true rfl) (l_bits (by omega) ?_)
  refine qL_same_922 (fun h922 => absurd rfl h922) (fun h922 => ?_)
  refine qL_same_925 ?_
  refine qL_same_926 ?_
  refine qL_same_927 ?_
  refine qL_same_928 ?_
  refine qL_same_929 (jW.ob h3) (Nat.le_of_ble_eq_true rfl) (t_byCone true h3.1 hf.1 (fun w4 hF4 hc4 => ?_))
  have h4 := h3.cl hF4 hc4
  rw [c1]
  refine qL_same_932 ?_
  refine qL_same_934 (fun h934 => ?_) (fun h934 => absurd rfl h934)
  exact K w4 f2 _ h4 hf2
end SM4
