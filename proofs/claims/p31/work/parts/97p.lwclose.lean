/-! the law's acts: shortest ways -/
section LCLOSE
variable {G : sG} {d : Nat} {P : sQ} {w : sW} {s : xS} {a : Nat} {f : Nat → Nat} {v : Nat → Int32} {co : Nat → Nat} {se : Nat → Int64} {x y : Int32} {t kd k1 k2 c1 c2 : Nat}
theorem la_close (l12 l13 l14 l15 l16 l17 l18 l19 l20 l21 l22 l23 l24 l25 : Option Value) (h : jW G w s f v co se) (hf : jF s f) (ha : a < 3) (ht : t < 18) (hk1 : c1 + 1 ≤ k1) (hk2 : c2 + 9 ≤ k2) (K : ∀ w2 s2 f2 v2 co2 se2 j1 j2 (l12 l13 l14 l15 l16 l17 l18 l19 l20 l21 l22 l23 l24 l25 : Option Value), jW G w2 s2 f2 v2 co2 se2 → jF s2 f2 → c1 ≤ j1 → c2 ≤ j2 → wp G (d + 17) m_law P 1775 [some (.ref (gb G)), some (.ref (gB G)), some (.ref (gB G + 92)), some (.ref (gB G + 93)), some (.ref (gB G + 94)), some (.ref (gB G + 95)), some (.int (nI t)), some (.int (x)), some (.int (y)), some (.int (nI kd)), some (.int (nI a)), some (.int (nI (12 * a))), l12, l13, l14, l15, l16, l17, l18, l19, l20, l21, l22, l23, l24, l25] [] w2 (j1, j2)) : wp G (d + 17) m_law P 1508 [some (.ref (gb G)), some (.ref (gB G)), some (.ref (gB G + 92)), some (.ref (gB G + 93)), some (.ref (gB G + 94)), some (.ref (gB G + 95)), some (.int (nI t)), some (.int (x)), some (.int (y)), some (.int (nI kd)), some (.int (nI a)), some (.int (nI (12 * a))), l12, l13, l14, l15, l16, l17, l18, l19, l20, l21, l22, l23, l24, l25] [] w (k1, k2) := by
  have hw96 := h.2.2.2.2.2
  obtain ⟨k1, rfl⟩ : ∃ j, k1 = j + 1 := ⟨k1 - 1, by omega⟩
  obtain ⟨k2, rfl⟩ : ∃ j, k2 = j + 9 := ⟨k2 - 9, by omega⟩
  obtain ⟨hp, _, hR, hC, hE, hd, h9, h999⟩ := h.lV hf ha
  have d1 := hd.1
  have d2 := hd.2.1
  have d3 := hd.2.2.1
  have d4 := hd.2.2.2.1
  have hR3 := (hf.2 a ha).2.2.2.1
  have ee := e_close (s := s) ha
  have hRR : 1 ≤ (lA s a).1 * (lA s a).1 := Nat.mul_pos d1 d1
  have hRR16 : (lA s a).1 * (lA s a).1 ≤ 4 * 4 := Nat.mul_le_mul d2 d2
  -- the two rows are there
  have ST : ∀ w1 T tt (l20 l21 l22 l23 l24 l25 : Option Value), jW G w1 s f v co se → T = gB G + w.2 → w1.1 T = aN G 9 tt → ∀ z : Bool, (z = true ↔ (lA s a).1 = (lA s a).2.1) → wp G (d + 17) m_law P 1543 [some (.ref (gb G)), some (.ref (gB G)), some (.ref (gB G + 92)), some (.ref (gB G + 93)), some (.ref (gB G + 94)), some (.ref (gB G + 95)), some (.int (nI t)), some (.int (x)), some (.int (y)), some (.int (nI kd)), some (.int (nI a)), some (.int (nI (12 * a))), l12, l13, l14, l15, some (.int (nI (bN z))), some (.int (nI 0)), some (.int (nI (lA s a).1)), some (.ref (T)), l20, l21, l22, l23, l24, l25] [] w1 (k1, k2) := by
    intro w1 T tt l20 l21 l22 l23 l24 l25 h1 hT t1 z hz
    have hT96 : gB G + 96 ≤ T := by omega
    have hp1 := h1.2.1
    by_cases hsq : (lA s a).1 = (lA s a).2.1
    · have hz1 := hz.mpr hsq
      subst hz1
      rw [show bN true = 1 from rfl]
      rw [if_pos hsq] at ee
      have hRR9 : (lA s a).1 * (lA s a).1 ≤ 9 := by
        have := h9
        rw [← hsq] at this
        exact this
      have hE2 : ∀ q, q < (lA s a).1 * (lA s a).1 → f (12 * a + 2 + q) = (lA s a).2.2 q := fun q hq => hE q (by rw [← hsq]; exact hq)
      have h992 : ∀ q, q < (lA s a).1 * (lA s a).1 → (lA s a).2.2 q ≤ 999 := fun q hq => h999 q (by rw [← hsq]; exact hq)
      -- the answer
      have FIN : ∀ w2 f2 (l20 l21 l22 l23 l24 l25 : Option Value), jW G w2 s f2 v co se → (∀ q, q < (lA s a).1 * (lA s a).1 → f2 (12 * a + 2 + q) = fwB (lA s a).1 (lA s a).1 (lA s a).2.2 q) → (∀ q, q < 12 * a + 2 ∨ 12 * a + 12 ≤ q → f2 q = f q) → wp G (d + 17) m_law P 1752 [some (.ref (gb G)), some (.ref (gB G)), some (.ref (gB G + 92)), some (.ref (gB G + 93)), some (.ref (gB G + 94)), some (.ref (gB G + 95)), some (.int (nI t)), some (.int (x)), some (.int (y)), some (.int (nI kd)), some (.int (nI a)), some (.int (nI (12 * a))), l12, l13, l14, l15, some (.int (nI 1)), some (.int (nI (unlN (fwB (lA s a).1 (lA s a).1 (lA s a).2.2) (lA s a).2.2 ((lA s a).1 * (lA s a).1)))), some (.int (nI (lA s a).1)), some (.ref (T)), l20, l21, l22, l23, l24, l25] [] w2 (k1, k2) := by
        intro w2 f2 l20 l21 l22 l23 l24 l25 h2 q1 q2
        refine qL_law_1752 ?_
        refine qL_law_1753 ?_
        refine qL_law_1755 (jW.ob h2) (Nat.le_of_ble_eq_true rfl) (t_close h2.1 hf.1 (fun w3 hF3 hc3 => ?_))
        rw [ee] at hc3
        rw [show (spClose s (nI a)).1 = nI (unlN (fwB (lA s a).1 (lA s a).1 (lA s a).2.2) (lA s a).2.2 ((lA s a).1 * (lA s a).1)) by rw [ee]]
        have h3 := h2.cl hF3 hc3
        have hX : okV ((lA s a).1, (lA s a).1, fwB (lA s a).1 (lA s a).1 (lA s a).2.2) := ⟨⟨d1, d2, d1, d2, show (lA s a).1 * (lA s a).1 ≤ 12 by omega⟩, fun q hq => Nat.le_trans ((fwI_all (n := (lA s a).1) (E := (lA s a).2.2) hR3 (lA s a).1 (Nat.le_refl _)).1 q hq) (h992 q hq)⟩
        refine qL_law_1758 ?_
        refine nL_law_1760 (by omega) (fun h1760 => by exfalso; omega) (fun h1760 => ?_)
        refine qL_law_1763 ?_
        refine qL_law_1765 ?_
        refine qL_law_1770 (fun h1770 => ?_) (fun h1770 => absurd rfl h1770)
        exact K w3 _ f2 v co se k1 k2 _ _ _ _ _ _ _ _ _ _ _ _ _ _ h3 (hf.up hX (by rw [q2 _ (by omega)]; exact hR) (by rw [q2 _ (by omega), hC]; exact hsq.symm) q1 hR3 hRR9 (fun q hq => q2 q (by omega))) (by omega) (by omega)
      -- how many are less
      have LL : ∀ m i w2 f2 tt (l21 l22 l23 l24 l25 : Option Value), i + m = (lA s a).1 * (lA s a).1 → jW G w2 s f2 v co se → w2.1 T = aN G 9 tt → (∀ q, q < (lA s a).1 * (lA s a).1 → tt q = (lA s a).2.2 q) → (∀ q, q < (lA s a).1 * (lA s a).1 → f2 (12 * a + 2 + q) = fwB (lA s a).1 (lA s a).1 (lA s a).2.2 q) → (∀ q, q < 12 * a + 2 ∨ 12 * a + 12 ≤ q → f2 q = f q) → wp G (d + 17) m_law P 1704 [some (.ref (gb G)), some (.ref (gB G)), some (.ref (gB G + 92)), some (.ref (gB G + 93)), some (.ref (gB G + 94)), some (.ref (gB G + 95)), some (.int (nI t)), some (.int (x)), some (.int (y)), some (.int (nI kd)), some (.int (nI a)), some (.int (nI (12 * a))), l12, l13, l14, l15, some (.int (nI 1)), some (.int (nI (unlN (fwB (lA s a).1 (lA s a).1 (lA s a).2.2) (lA s a).2.2 i))), some (.int (nI (lA s a).1)), some (.ref (T)), some (.int (nI i)), l21, l22, l23, l24, l25] [] w2 (k1, k2) := by
        intro m
        induction m with
        | zero =>
          intro i w2 f2 tt l21 l22 l23 l24 l25 hi h2 t2 htt q1 q2
          refine qL_law_1704 ?_
          refine qL_law_1706 ?_
          refine qL_law_1708 ?_
          first | refine nL_law_1710 ?_ | refine qL_law_1710 ?_
          refine nL_law_1711 (by omega) (by omega) (fun h1711 => ?_) (fun h1711 => by exfalso; omega)
          rw [show i = (lA s a).1 * (lA s a).1 by omega]
          exact FIN w2 f2 _ _ _ _ _ _ h2 q1 q2
        | succ m ih =>
          intro i w2 f2 tt l21 l22 l23 l24 l25 hi h2 t2 htt q1 q2
          have hp2 := h2.2.1
          have hil : i < (lA s a).1 * (lA s a).1 := by omega
          have x1 := (fwI_all (n := (lA s a).1) (E := (lA s a).2.2) hR3 (lA s a).1 (Nat.le_refl _)).1 i hil
          have x2 := h992 i hil
          have hN := ih (i + 1) w2 f2 tt l21 l22 l23 l24 l25 (by omega) h2 t2 htt q1 q2
          have hu : unlN (fwB (lA s a).1 (lA s a).1 (lA s a).2.2) (lA s a).2.2 (i + 1) = unlN (fwB (lA s a).1 (lA s a).1 (lA s a).2.2) (lA s a).2.2 i + if fwB (lA s a).1 (lA s a).1 (lA s a).2.2 i = (lA s a).2.2 i then 0 else 1 := rfl
          rw [hu] at hN
          refine qL_law_1704 ?_
          refine qL_law_1706 ?_
          refine qL_law_1708 ?_
          first | refine nL_law_1710 ?_ | refine qL_law_1710 ?_
          refine nL_law_1711 (by omega) (by omega) (fun h1711 => by exfalso; omega) (fun h1711 => ?_)
          refine qL_law_1714 ?_
          refine nL_law_1716 (by omega) (fun h1716 => by exfalso; omega) (fun h1716 => ?_)
          refine qL_law_1719 ?_
          refine qL_law_1721 ?_
          refine qL_law_1722 ?_
          refine qL_law_1724 ?_
          first | refine nL_law_1725 ?_ | refine qL_law_1725 ?_
          refine qL_law_1726 ?_
          first | refine nL_law_1728 ?_ | refine qL_law_1728 ?_
          first | refine fL_law_1729 (by assumption) (by omega) (by decide) ?_ | refine nL_law_1729 (by assumption) (by omega) (by decide) ?_
          rw [q1 i hil]
          refine qL_law_1730 ?_
          refine qL_law_1732 ?_
          refine fL_law_1734 t2 (by omega) (by decide) ?_
          rw [htt i hil]
          refine nL_law_1735 (by omega) (by omega) (fun h1735 => ?_) (fun h1735 => ?_)
          · rw [if_pos (by omega)] at hN
            refine qL_law_1742 ?_
            first | refine nL_law_1743 ?_ | refine qL_law_1743 ?_
            refine qL_law_1744 ?_
            first | refine nL_law_1746 ?_ | refine qL_law_1746 ?_
            refine qL_law_1749 ?_
            exact hN
          · rw [if_neg (by omega)] at hN
            refine qL_law_1738 ?_
            refine qL_law_1739 ?_
            first | refine nL_law_1743 ?_ | refine qL_law_1743 ?_
            refine qL_law_1744 ?_
            first | refine nL_law_1746 ?_ | refine qL_law_1746 ?_
            refine qL_law_1749 ?_
            exact hN
      -- the rounds
      have LT : ∀ m t2 w2 f2 g tt (l21 l22 l23 l24 l25 : Option Value), t2 + m = (lA s a).1 → jW G w2 s f2 v co se → w2.1 T = aN G 9 tt → (∀ q, q < (lA s a).1 * (lA s a).1 → tt q = (lA s a).2.2 q) → (∀ q, q < (lA s a).1 * (lA s a).1 → f2 (12 * a + 2 + q) = g q) → (∀ q, q < 12 * a + 2 ∨ 12 * a + 12 ≤ q → f2 q = f q) → upC (lA s a).1 (lA s a).2.2 t2 g → wp G (d + 17) m_law P 1584 [some (.ref (gb G)), some (.ref (gB G)), some (.ref (gB G + 92)), some (.ref (gB G + 93)), some (.ref (gB G + 94)), some (.ref (gB G + 95)), some (.int (nI t)), some (.int (x)), some (.int (y)), some (.int (nI kd)), some (.int (nI a)), some (.int (nI (12 * a))), l12, l13, l14, l15, some (.int (nI 1)), some (.int (nI 0)), some (.int (nI (lA s a).1)), some (.ref (T)), some (.int (nI t2)), l21, l22, l23, l24, l25] [] w2 (k1, k2) := by
        intro m
        induction m with
        | zero =>
          intro t2 w2 f2 g tt l21 l22 l23 l24 l25 hi h2 tT htt q1 q2 hup
          rw [show t2 = (lA s a).1 by omega] at hup
          have hg := upC_eq d1 hR3 hup
          refine qL_law_1584 ?_
          refine qL_law_1586 ?_
          refine nL_law_1588 (by omega) (by omega) (fun h1588 => ?_) (fun h1588 => by exfalso; omega)
          refine qL_law_1701 ?_
          refine qL_law_1702 ?_
          exact LL ((lA s a).1 * (lA s a).1) 0 w2 f2 tt _ _ _ _ _ (by omega) h2 tT htt (fun q hq => by rw [q1 q hq, hg q hq]) q2
        | succ m ih =>
          intro t2 w2 f2 g tt l21 l22 l23 l24 l25 hi h2 tT htt q1 q2 hup
          refine qL_law_1584 ?_
          refine qL_law_1586 ?_
          refine nL_law_1588 (by omega) (by omega) (fun h1588 => by exfalso; omega) (fun h1588 => ?_)
          refine qL_law_1591 ?_
          refine nL_law_1593 (by omega) (fun h1593 => by exfalso; omega) (fun h1593 => ?_)
          refine qL_law_1596 ?_
          refine qL_law_1597 ?_
          have LI : ∀ m2 i w3 f3 cur (l22 l23 l24 l25 : Option Value), i + m2 = (lA s a).1 * (lA s a).1 → jW G w3 s f3 v co se → w3.1 T = aN G 9 tt → (∀ q, q < (lA s a).1 * (lA s a).1 → f3 (12 * a + 2 + q) = cur q) → (∀ q, q < 12 * a + 2 ∨ 12 * a + 12 ≤ q → f3 q = f q) → rdC (lA s a).1 (lA s a).2.2 g (i * (lA s a).1) cur → wp G (d + 17) m_law P 1599 [some (.ref (gb G)), some (.ref (gB G)), some (.ref (gB G + 92)), some (.ref (gB G + 93)), some (.ref (gB G + 94)), some (.ref (gB G + 95)), some (.int (nI t)), some (.int (x)), some (.int (y)), some (.int (nI kd)), some (.int (nI a)), some (.int (nI (12 * a))), l12, l13, l14, l15, some (.int (nI 1)), some (.int (nI 0)), some (.int (nI (lA s a).1)), some (.ref (T)), some (.int (nI t2)), some (.int (nI i)), l22, l23, l24, l25] [] w3 (k1, k2) := by
            intro m2
            induction m2 with
            | zero =>
              intro i w3 f3 cur l22 l23 l24 l25 hi2 h3 tT3 p1 p2 hrd
              rw [show i = (lA s a).1 * (lA s a).1 by omega] at hrd
              refine qL_law_1599 ?_
              refine qL_law_1601 ?_
              refine qL_law_1603 ?_
              first | refine nL_law_1605 ?_ | refine qL_law_1605 ?_
              refine nL_law_1606 (by omega) (by omega) (fun h1606 => ?_) (fun h1606 => by exfalso; omega)
              first | refine nL_law_1695 ?_ | refine qL_law_1695 ?_
              refine qL_law_1698 ?_
              exact ih (t2 + 1) w3 f3 cur tt _ _ _ _ _ (by omega) h3 tT3 htt p1 p2 (upC_next hrd hup)
            | succ m2 ih2 =>
              intro i w3 f3 cur l22 l23 l24 l25 hi2 h3 tT3 p1 p2 hrd
              have hil : i < (lA s a).1 * (lA s a).1 := by omega
              have i1 := dvlt hil
              have i2 : i % (lA s a).1 < (lA s a).1 := Nat.mod_lt _ (by omega)
              refine qL_law_1599 ?_
              refine qL_law_1601 ?_
              refine qL_law_1603 ?_
              first | refine nL_law_1605 ?_ | refine qL_law_1605 ?_
              refine nL_law_1606 (by omega) (by omega) (fun h1606 => by exfalso; omega) (fun h1606 => ?_)
              refine qL_law_1609 ?_
              refine qL_law_1610 ?_
              have LM : ∀ m3 j w4 f4 cur (l23 l24 l25 : Option Value), j + m3 = (lA s a).1 → jW G w4 s f4 v co se → w4.1 T = aN G 9 tt → (∀ q, q < (lA s a).1 * (lA s a).1 → f4 (12 * a + 2 + q) = cur q) → (∀ q, q < 12 * a + 2 ∨ 12 * a + 12 ≤ q → f4 q = f q) → rdC (lA s a).1 (lA s a).2.2 g (i * (lA s a).1 + j) cur → wp G (d + 17) m_law P 1612 [some (.ref (gb G)), some (.ref (gB G)), some (.ref (gB G + 92)), some (.ref (gB G + 93)), some (.ref (gB G + 94)), some (.ref (gB G + 95)), some (.int (nI t)), some (.int (x)), some (.int (y)), some (.int (nI kd)), some (.int (nI a)), some (.int (nI (12 * a))), l12, l13, l14, l15, some (.int (nI 1)), some (.int (nI 0)), some (.int (nI (lA s a).1)), some (.ref (T)), some (.int (nI t2)), some (.int (nI i)), some (.int (nI j)), l23, l24, l25] [] w4 (k1, k2) := by
                intro m3
                induction m3 with
                | zero =>
                  intro j w4 f4 cur l23 l24 l25 hj h4 tT4 p1 p2 hrd
                  rw [show i * (lA s a).1 + j = (i + 1) * (lA s a).1 by rw [Nat.add_mul]; omega] at hrd
                  refine qL_law_1612 ?_
                  refine qL_law_1614 ?_
                  refine nL_law_1616 (by omega) (by omega) (fun h1616 => ?_) (fun h1616 => by exfalso; omega)
                  first | refine nL_law_1689 ?_ | refine qL_law_1689 ?_
                  refine qL_law_1692 ?_
                  exact ih2 (i + 1) w4 f4 cur _ _ _ _ (by omega) h4 tT4 p1 p2 hrd
                | succ m3 ih3 =>
                  intro j w4 f4 cur l23 l24 l25 hj h4 tT4 p1 p2 hrd
                  have hp4 := h4.2.1
                  have hjl : j < (lA s a).1 := by omega
                  have j1 := ml1 i1 hjl
                  have j2 := ml1 hjl i2
                  have b0 : ∀ q, q < (lA s a).1 * (lA s a).1 → cur q ≤ 999 := fun q hq => Nat.le_trans (hrd.1 q hq) (Nat.le_trans (hup.1 q hq) (h992 q hq))
                  have b1 := b0 _ j1
                  have b2 := b0 _ j2
                  have b3 := b0 i hil
                  have hst := rdC_step hR3 hil hjl hrd rfl
                  refine qL_law_1612 ?_
                  refine qL_law_1614 ?_
                  refine nL_law_1616 (by omega) (by omega) (fun h1616 => by exfalso; omega) (fun h1616 => ?_)
                  refine qL_law_1619 ?_
                  refine qL_law_1620 ?_
                  refine qL_law_1622 ?_
                  first | refine nL_law_1623 ?_ | refine qL_law_1623 ?_
                  refine qL_law_1624 ?_
                  refine qL_law_1626 ?_
                  refine nL_law_1628 (by omega) (by omega) (by omega) ?_
                  refine qL_law_1629 ?_
                  first | refine nL_law_1631 ?_ | refine qL_law_1631 ?_
                  first | refine nL_law_1632 ?_ | refine qL_law_1632 ?_
                  refine qL_law_1633 ?_
                  first | refine nL_law_1635 ?_ | refine qL_law_1635 ?_
                  first | refine fL_law_1636 (by assumption) (by omega) (by decide) ?_ | refine nL_law_1636 (by assumption) (by omega) (by decide) ?_
                  rw [show 12 * a + 2 + i / (lA s a).1 * (lA s a).1 + j = 12 * a + 2 + (i / (lA s a).1 * (lA s a).1 + j) by omega, p1 _ j1]
                  refine qL_law_1637 ?_
                  refine qL_law_1638 ?_
                  refine qL_law_1640 ?_
                  first | refine nL_law_1641 ?_ | refine qL_law_1641 ?_
                  refine qL_law_1642 ?_
                  refine qL_law_1644 ?_
                  first | refine nL_law_1646 ?_ | refine qL_law_1646 ?_
                  first | refine nL_law_1647 ?_ | refine qL_law_1647 ?_
                  refine qL_law_1648 ?_
                  refine qL_law_1650 ?_
                  refine nL_law_1652 (by omega) (by omega) (by omega) ?_
                  first | refine nL_law_1653 ?_ | refine qL_law_1653 ?_
                  first | refine fL_law_1654 (by assumption) (by omega) (by decide) ?_ | refine nL_law_1654 (by assumption) (by omega) (by decide) ?_
                  rw [show 12 * a + 2 + j * (lA s a).1 + i % (lA s a).1 = 12 * a + 2 + (j * (lA s a).1 + i % (lA s a).1) by omega, p1 _ j2]
                  first | refine nL_law_1655 ?_ | refine qL_law_1655 ?_
                  refine qL_law_1656 ?_
                  refine qL_law_1658 ?_
                  refine qL_law_1660 ?_
                  refine qL_law_1661 ?_
                  refine qL_law_1663 ?_
                  first | refine nL_law_1664 ?_ | refine qL_law_1664 ?_
                  refine qL_law_1665 ?_
                  first | refine nL_law_1667 ?_ | refine qL_law_1667 ?_
                  first | refine fL_law_1668 (by assumption) (by omega) (by decide) ?_ | refine nL_law_1668 (by assumption) (by omega) (by decide) ?_
                  rw [p1 i hil]
                  generalize hv : cur (i / (lA s a).1 * (lA s a).1 + j) + cur (j * (lA s a).1 + i % (lA s a).1) = vv at *
                  refine nL_law_1669 (by omega) (by omega) (fun h1669 => ?_) (fun h1669 => ?_)
                  · rw [if_neg (by omega)] at hst
                    first | refine nL_law_1683 ?_ | refine qL_law_1683 ?_
                    refine qL_law_1686 ?_
                    exact ih3 (j + 1) w4 f4 cur _ _ _ (by omega) h4 tT4 p1 p2 hst
                  · rw [if_pos h1669] at hst
                    refine qL_law_1672 ?_
                    refine qL_law_1673 ?_
                    refine qL_law_1675 ?_
                    first | refine nL_law_1676 ?_ | refine qL_law_1676 ?_
                    refine qL_law_1677 ?_
                    first | refine nL_law_1679 ?_ | refine qL_law_1679 ?_
                    refine qL_law_1680 ?_
                    refine fL_law_1682 (by assumption) (by omega) (by decide) ?_
                    generalize hw5 : s_up w4 (gB G + 92) _ = w5
                    have hp5 : w5.1 (gB G + 92) = aN G 36 (updN f4 (12 * a + 2 + i) vv) := by rw [← hw5]; exact s_upS
                    have o5 : ∀ q, updN f4 (12 * a + 2 + i) vv q = if q = 12 * a + 2 + i then vv else f4 q := fun _ => rfl
                    first | refine nL_law_1683 ?_ | refine qL_law_1683 ?_
                    refine qL_law_1686 ?_
                    refine ih3 (j + 1) w5 _ _ _ _ _ (by omega) (h4.arr (by rw [← hw5]; exact Fr.rf.up rfl) hp5) (by rw [← hw5, s_upN (by omega)]; exact tT4) (fun q hq => ?_) (fun q hq => ?_) hst
                    · rw [o5]
                      show _ = if q = i then vv else cur q
                      by_cases hqi : q = i
                      · rw [if_pos (by omega), if_pos hqi]
                      · rw [if_neg (by omega), if_neg hqi]
                        exact p1 q hq
                    · rw [o5, if_neg (by omega)]
                      exact p2 q hq
              exact LM (lA s a).1 0 w3 f3 cur _ _ _ (by omega) h3 tT3 p1 p2 hrd
          exact LI ((lA s a).1 * (lA s a).1) 0 w2 f2 g _ _ _ _ (by omega) h2 tT q1 q2 ⟨fun _ _ => Nat.le_refl _, fun r hr => by omega, hup.2.1⟩
      -- the copy
      have LC : ∀ m i w2 tt (l21 l22 l23 l24 l25 : Option Value), i + m = (lA s a).1 * (lA s a).1 → jW G w2 s f v co se → w2.1 T = aN G 9 tt → (∀ q, q < i → tt q = (lA s a).2.2 q) → wp G (d + 17) m_law P 1546 [some (.ref (gb G)), some (.ref (gB G)), some (.ref (gB G + 92)), some (.ref (gB G + 93)), some (.ref (gB G + 94)), some (.ref (gB G + 95)), some (.int (nI t)), some (.int (x)), some (.int (y)), some (.int (nI kd)), some (.int (nI a)), some (.int (nI (12 * a))), l12, l13, l14, l15, some (.int (nI 1)), some (.int (nI 0)), some (.int (nI (lA s a).1)), some (.ref (T)), some (.int (nI i)), l21, l22, l23, l24, l25] [] w2 (k1, k2) := by
        intro m
        induction m with
        | zero =>
          intro i w2 tt l21 l22 l23 l24 l25 hi h2 tT htt
          refine qL_law_1546 ?_
          refine qL_law_1548 ?_
          refine qL_law_1550 ?_
          first | refine nL_law_1552 ?_ | refine qL_law_1552 ?_
          refine nL_law_1553 (by omega) (by omega) (fun h1553 => ?_) (fun h1553 => by exfalso; omega)
          refine qL_law_1581 ?_
          refine qL_law_1582 ?_
          refine LT (lA s a).1 0 w2 f (lA s a).2.2 tt _ _ _ _ _ (by omega) h2 tT (fun q hq => htt q (by omega)) hE2 (fun _ _ => rfl) ⟨fun _ _ => Nat.le_refl _, fun i j hi hj => Or.inl (Nat.le_refl _), fun q => absurd q (by decide), fun q => absurd q (by decide)⟩
        | succ m ih =>
          intro i w2 tt l21 l22 l23 l24 l25 hi h2 tT htt
          have hp2 := h2.2.1
          refine qL_law_1546 ?_
          refine qL_law_1548 ?_
          refine qL_law_1550 ?_
          first | refine nL_law_1552 ?_ | refine qL_law_1552 ?_
          refine nL_law_1553 (by omega) (by omega) (fun h1553 => by exfalso; omega) (fun h1553 => ?_)
          refine qL_law_1556 ?_
          refine nL_law_1558 (by omega) (fun h1558 => by exfalso; omega) (fun h1558 => ?_)
          refine qL_law_1561 ?_
          refine qL_law_1563 ?_
          refine qL_law_1565 ?_
          refine qL_law_1566 ?_
          refine qL_law_1568 ?_
          first | refine nL_law_1569 ?_ | refine qL_law_1569 ?_
          refine qL_law_1570 ?_
          first | refine nL_law_1572 ?_ | refine qL_law_1572 ?_
          first | refine fL_law_1573 (by assumption) (by omega) (by decide) ?_ | refine nL_law_1573 (by assumption) (by omega) (by decide) ?_
          rw [hE2 i (by omega)]
          refine fL_law_1574 tT (by omega) (by decide) ?_
          generalize hw5 : s_up w2 T _ = w5
          have tT5 : w5.1 T = aN G 9 (updN tt i ((lA s a).2.2 i)) := by rw [← hw5]; exact s_upS
          first | refine nL_law_1575 ?_ | refine qL_law_1575 ?_
          refine qL_law_1578 ?_
          refine ih (i + 1) w5 _ _ _ _ _ _ (by omega) (h2.oth (by rw [← hw5]; exact Fr.rf.up hT96)) tT5 (fun q hq => ?_)
          show (if q = i then (lA s a).2.2 i else tt q) = _
          by_cases hqi : q = i
          · rw [if_pos hqi, hqi]
          · rw [if_neg hqi]
            exact htt q (by omega)
      refine qL_law_1543 ?_
      refine qL_law_1544 ?_
      exact LC ((lA s a).1 * (lA s a).1) 0 w1 tt _ _ _ _ _ (by omega) h1 t1 (fun q hq => absurd hq (Nat.not_lt_zero q))
    · have hz0 : z = false := by
        cases z with
        | false => rfl
        | true => exact absurd (hz.mp rfl) hsq
      subst hz0
      rw [show bN false = 0 from rfl]
      rw [if_neg hsq] at ee
      refine qL_law_1543 ?_
      refine qL_law_1544 ?_
      refine qL_law_1546 ?_
      refine qL_law_1548 ?_
      refine qL_law_1550 ?_
      first | refine nL_law_1552 ?_ | refine qL_law_1552 ?_
      refine nL_law_1553 (by omega) (by omega) (fun h1553 => by exfalso; omega) (fun h1553 => ?_)
      refine qL_law_1556 ?_
      refine nL_law_1558 (by omega) (fun h1558 => ?_) (fun h1558 => by exfalso; omega)
      refine qL_law_1581 ?_
      refine qL_law_1582 ?_
      refine qL_law_1584 ?_
      refine qL_law_1586 ?_
      refine nL_law_1588 (by omega) (by omega) (fun h1588 => by exfalso; omega) (fun h1588 => ?_)
      refine qL_law_1591 ?_
      refine nL_law_1593 (by omega) (fun h1593 => ?_) (fun h1593 => by exfalso; omega)
      refine qL_law_1701 ?_
      refine qL_law_1702 ?_
      refine qL_law_1704 ?_
      refine qL_law_1706 ?_
      refine qL_law_1708 ?_
      first | refine nL_law_1710 ?_ | refine qL_law_1710 ?_
      refine nL_law_1711 (by omega) (by omega) (fun h1711 => by exfalso; omega) (fun h1711 => ?_)
      refine qL_law_1714 ?_
      refine nL_law_1716 (by omega) (fun h1716 => ?_) (fun h1716 => by exfalso; omega)
      refine qL_law_1752 ?_
      refine qL_law_1753 ?_
      refine qL_law_1755 (jW.ob h1) (Nat.le_of_ble_eq_true rfl) (t_close h1.1 hf.1 (fun w3 hF3 hc3 => ?_))
      rw [ee] at hc3
      rw [show (spClose s (nI a)).1 = -5 by rw [ee]]
      have h3 := h1.cl hF3 hc3
      refine qL_law_1758 ?_
      refine nL_law_1760 (by omega) (fun h1760 => ?_) (fun h1760 => by exfalso; omega)
      refine qL_law_1768 ?_
      refine qL_law_1770 (fun h1770 => ?_) (fun h1770 => absurd rfl h1770)
      exact K w3 _ f v co se k1 k2 _ _ _ _ _ _ _ _ _ _ _ _ _ _ h3 hf (by omega) (by omega)
  have KN : ∀ z : Bool, (z = true ↔ (lA s a).1 = (lA s a).2.1) → wp G (d + 17) m_law P 1526 [some (.ref (gb G)), some (.ref (gB G)), some (.ref (gB G + 92)), some (.ref (gB G + 93)), some (.ref (gB G + 94)), some (.ref (gB G + 95)), some (.int (nI t)), some (.int (x)), some (.int (y)), some (.int (nI kd)), some (.int (nI a)), some (.int (nI (12 * a))), l12, l13, l14, l15, l16, l17, l18, l19, l20, l21, l22, l23, l24, l25] [.int (nI (bN z))] w (k1 + 1, k2 + 9) := by
    intro z hz
    refine qL_law_1526 ?_
    refine qL_law_1528 ?_
    refine qL_law_1529 ?_
    refine qL_law_1531 ?_
    refine qL_law_1532 ?_
    first | refine fL_law_1534 (by assumption) (by omega) (by decide) ?_ | refine nL_law_1534 (by assumption) (by omega) (by decide) ?_
    rw [hR]
    refine qL_law_1535 ?_
    refine qL_law_1537 ?_
    refine qL_law_1539 (by decide) ?_
    have t1 : (s_new w (gB G + w.2) (aI G 9 (fun _ => 0))).1 (gB G + w.2) = aN G 9 (fun _ => 0) := by
      simp only [s_new, if_true]
      rfl
    refine qL_law_1541 ?_
    exact ST _ _ _ _ _ _ _ _ _ (h.new (e := aI G 9 (fun _ => 0))) rfl t1 z hz
  refine qL_law_1508 ?_
  refine qL_law_1509 ?_
  first | refine fL_law_1511 (by assumption) (by omega) (by decide) ?_ | refine nL_law_1511 (by assumption) (by omega) (by decide) ?_
  refine qL_law_1512 ?_
  refine qL_law_1513 ?_
  refine qL_law_1515 ?_
  first | refine nL_law_1516 ?_ | refine qL_law_1516 ?_
  first | refine fL_law_1517 (by assumption) (by omega) (by decide) ?_ | refine nL_law_1517 (by assumption) (by omega) (by decide) ?_
  rw [hR, hC]
  refine nL_law_1518 (by omega) (by omega) (fun h1518 => ?_) (fun h1518 => ?_)
  · refine qL_law_1525 ?_
    exact KN false ⟨fun q => (by cases q), fun q => absurd q h1518⟩
  · refine qL_law_1521 ?_
    refine qL_law_1522 ?_
    exact KN true ⟨fun _ => h1518, fun _ => rfl⟩
end LCLOSE
