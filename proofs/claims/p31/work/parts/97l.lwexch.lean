/-! the law's acts: two rows or columns exchanged -/
def swP (b : Bool) (C n o : Nat) (E : Nat → Nat) (i : Nat) : Nat → Nat := fun q => if linN b C q = n ∧ posN b C q < i then E (plN b C o (posN b C q)) else if linN b C q = o ∧ posN b C q < i then E (plN b C n (posN b C q)) else E q
section LEXCH
variable {G : sG} {d : Nat} {P : sQ} {w : sW} {s : xS} {a : Nat} {f : Nat → Nat} {v : Nat → Int32} {co : Nat → Nat} {se : Nat → Int64} {x y : Int32} {t kd k1 k2 c1 c2 : Nat}
theorem la_exch {b : Bool} {line : Nat} (l12 l16 l17 l18 l19 l20 l21 l22 l23 l24 l25 : Option Value) (h : jW G w s f v co se) (hf : jF s f) (ha : a < 3) (ht : t < 18) (hl : line < lnN b (lA s a).1 (lA s a).2.1) (hk1 : c1 ≤ k1) (hk2 : c2 ≤ k2) (K : ∀ w2 s2 f2 v2 co2 se2 j1 j2 (l12 l13 l14 l15 l16 l17 l18 l19 l20 l21 l22 l23 l24 l25 : Option Value), jW G w2 s2 f2 v2 co2 se2 → jF s2 f2 → c1 ≤ j1 → c2 ≤ j2 → wp G (d + 17) m_law P 1775 [some (.ref (gb G)), some (.ref (gB G)), some (.ref (gB G + 92)), some (.ref (gB G + 93)), some (.ref (gB G + 94)), some (.ref (gB G + 95)), some (.int (nI t)), some (.int (x)), some (.int (y)), some (.int (nI kd)), some (.int (nI a)), some (.int (nI (12 * a))), l12, l13, l14, l15, l16, l17, l18, l19, l20, l21, l22, l23, l24, l25] [] w2 (j1, j2)) : wp G (d + 17) m_law P 797 [some (.ref (gb G)), some (.ref (gB G)), some (.ref (gB G + 92)), some (.ref (gB G + 93)), some (.ref (gB G + 94)), some (.ref (gB G + 95)), some (.int (nI t)), some (.int (x)), some (.int (y)), some (.int (nI kd)), some (.int (nI a)), some (.int (nI (12 * a))), l12, some (.int (nI (bN b))), some (.int (nI (lnN b (lA s a).1 (lA s a).2.1))), some (.int (nI line)), l16, l17, l18, l19, l20, l21, l22, l23, l24, l25] [] w (k1, k2) := by
  have hlv := h.lV hf ha
  obtain ⟨hp, _, hR, hC, hE, hd, h9, h999⟩ := id hlv
  have hR3 := (hf.2 a ha).2.2.2.1
  have d2 := hd.2.1
  have d3 := hd.2.2.1
  have d4 := hd.2.2.2.1
  have hll : lnN b (lA s a).1 (lA s a).2.1 ≤ 4 := by
    cases b
    · exact d4
    · exact d2
  have hml : lnN (!b) (lA s a).1 (lA s a).2.1 ≤ 4 := by
    cases b
    · exact d2
    · exact d4
  refine qL_law_797 ?_
  refine qL_law_799 ?_
  refine qL_law_801 (Nat.le_of_ble_eq_true rfl) (l_low (by omega) (by omega) (fun o ho => ?_))
  refine qL_law_804 ?_
  refine qL_law_806 ?_
  refine qL_law_807 ?_
  refine qL_law_809 ?_
  refine qL_law_810 ?_
  refine qL_law_812 ?_
  first | refine nL_law_813 ?_ | refine qL_law_813 ?_
  first | refine fL_law_814 (by assumption) (by omega) (by decide) ?_ | refine nL_law_814 (by assumption) (by omega) (by decide) ?_
  rw [hC]
  have ee := e_exchange b hf.1 ha hl ho
  -- the head of the loop
  have HD : ∀ w2 f2 i u (l20 l21 l22 : Option Value), w2.1 (gB G + 92) = aN G 36 f2 → f2 (12 * a) = (lA s a).1 → wp G (d + 17) m_law P 836 [some (.ref (gb G)), some (.ref (gB G)), some (.ref (gB G + 92)), some (.ref (gB G + 93)), some (.ref (gB G + 94)), some (.ref (gB G + 95)), some (.int (nI t)), some (.int (x)), some (.int (y)), some (.int (nI kd)), some (.int (nI a)), some (.int (nI (12 * a))), l12, some (.int (nI (bN b))), some (.int (nI (lnN b (lA s a).1 (lA s a).2.1))), some (.int (nI line)), some (.int (nI o)), some (.int (nI u)), some (.int (nI (lA s a).2.1)), some (.int (nI i)), l20, l21, l22, l23, l24, l25] [.int (nI (lnN (!b) (lA s a).1 (lA s a).2.1)), .int (nI i)] w2 (k1, k2) → wp G (d + 17) m_law P 820 [some (.ref (gb G)), some (.ref (gB G)), some (.ref (gB G + 92)), some (.ref (gB G + 93)), some (.ref (gB G + 94)), some (.ref (gB G + 95)), some (.int (nI t)), some (.int (x)), some (.int (y)), some (.int (nI kd)), some (.int (nI a)), some (.int (nI (12 * a))), l12, some (.int (nI (bN b))), some (.int (nI (lnN b (lA s a).1 (lA s a).2.1))), some (.int (nI line)), some (.int (nI o)), some (.int (nI u)), some (.int (nI (lA s a).2.1)), some (.int (nI i)), l20, l21, l22, l23, l24, l25] [] w2 (k1, k2) := by
    intro w2 f2 i u l20 l21 l22 hp2 hR2 k
    cases b with
    | false =>
      rw [show bN false = 0 from rfl] at *
      refine qL_law_820 ?_
      refine qL_law_822 ?_
      refine nL_law_824 (by omega) (fun h824 => ?_) (fun h824 => by exfalso; omega)
      refine qL_law_832 ?_
      refine qL_law_833 ?_
      first | refine fL_law_835 (by assumption) (by omega) (by decide) ?_ | refine nL_law_835 (by assumption) (by omega) (by decide) ?_
      rw [hR2]
      exact k
    | true =>
      rw [show bN true = 1 from rfl] at *
      refine qL_law_820 ?_
      refine qL_law_822 ?_
      refine nL_law_824 (by omega) (fun h824 => by exfalso; omega) (fun h824 => ?_)
      refine qL_law_827 ?_
      refine qL_law_829 ?_
      exact k
  refine qL_law_815 ?_
  refine qL_law_817 ?_
  refine qL_law_818 ?_
  by_cases hlo : line = o
  · rw [if_pos hlo] at ee
    subst hlo
    refine HD w f 0 0 _ _ _ hp hR ?_
    have FIN : wp G (d + 17) m_law P 955 [some (.ref (gb G)), some (.ref (gB G)), some (.ref (gB G + 92)), some (.ref (gB G + 93)), some (.ref (gB G + 94)), some (.ref (gB G + 95)), some (.int (nI t)), some (.int (x)), some (.int (y)), some (.int (nI kd)), some (.int (nI a)), some (.int (nI (12 * a))), l12, some (.int (nI (bN b))), some (.int (nI (lnN b (lA s a).1 (lA s a).2.1))), some (.int (nI line)), some (.int (nI line)), some (.int (nI 0)), some (.int (nI (lA s a).2.1)), some (.int (nI 0)), l20, l21, l22, l23, l24, l25] [] w (k1, k2) := by
      refine qL_law_955 ?_
      refine qL_law_956 ?_
      refine qL_law_958 ?_
      refine qL_law_960 ?_
      refine qL_law_962 ?_
      refine qL_law_964 (jW.ob h) (Nat.le_of_ble_eq_true rfl) (t_exchange b h.1 hf.1 (fun w3 hF3 hc3 => ?_))
      rw [ee] at hc3
      rw [show (spExchange s (nI a) b (nI line) (nI line)).1 = -2 by rw [ee]]
      have h3 := h.cl hF3 hc3
      refine qL_law_967 ?_
      refine qL_law_969 ?_
      refine qL_law_971 (fun h971 => absurd rfl h971) (fun h971 => ?_)
      refine qL_law_974 ?_
      refine qL_law_976 ?_
      refine qL_law_989 (fun h989 => ?_) (fun h989 => absurd rfl h989)
      refine qL_law_994 ?_
      exact K w3 _ f v co se k1 k2 _ _ _ _ _ _ _ _ _ _ _ _ _ _ h3 hf hk1 hk2
    refine nL_law_836 (by omega) (by omega) (fun h836 => ?_) (fun h836 => ?_)
    · exact FIN
    · refine qL_law_839 ?_
      refine qL_law_841 ?_
      refine qL_law_843 (fun h843 => ?_) (fun h843 => absurd rfl h843)
      exact FIN
  · rw [if_neg hlo] at ee
    have hPL : ∀ i, i < lnN (!b) (lA s a).1 (lA s a).2.1 → plN b (lA s a).2.1 line i < (lA s a).1 * (lA s a).2.1 ∧ plN b (lA s a).2.1 o i < (lA s a).1 * (lA s a).2.1 ∧ plN b (lA s a).2.1 line i ≠ plN b (lA s a).2.1 o i := fun i hi => ⟨plN_lt hd hl hi, plN_lt hd ho hi, fun z => by
      have e1 := linN_pl (b := b) (C := (lA s a).2.1) (R := (lA s a).1) hl hi
      rw [z, linN_pl ho hi] at e1
      exact hlo e1.symm⟩
    have FIN : ∀ w2 f2 (l20 l21 l22 : Option Value), jW G w2 s f2 v co se → (∀ q, q < (lA s a).1 * (lA s a).2.1 → f2 (12 * a + 2 + q) = swL b (lA s a).2.1 line o (lA s a).2.2 q) → (∀ q, q < 12 * a + 2 ∨ 12 * a + 12 ≤ q → f2 q = f q) → wp G (d + 17) m_law P 955 [some (.ref (gb G)), some (.ref (gB G)), some (.ref (gB G + 92)), some (.ref (gB G + 93)), some (.ref (gB G + 94)), some (.ref (gB G + 95)), some (.int (nI t)), some (.int (x)), some (.int (y)), some (.int (nI kd)), some (.int (nI a)), some (.int (nI (12 * a))), l12, some (.int (nI (bN b))), some (.int (nI (lnN b (lA s a).1 (lA s a).2.1))), some (.int (nI line)), some (.int (nI o)), some (.int (nI (bN (unL b (lA s a).2.1 line o (lA s a).2.2 (lnN (!b) (lA s a).1 (lA s a).2.1))))), some (.int (nI (lA s a).2.1)), some (.int (nI (lnN (!b) (lA s a).1 (lA s a).2.1))), l20, l21, l22, l23, l24, l25] [] w2 (k1, k2) := by
      intro w2 f2 l20 l21 l22 h2 q1 q2
      refine qL_law_955 ?_
      refine qL_law_956 ?_
      refine qL_law_958 ?_
      refine qL_law_960 ?_
      refine qL_law_962 ?_
      refine qL_law_964 (jW.ob h2) (Nat.le_of_ble_eq_true rfl) (t_exchange b h2.1 hf.1 (fun w3 hF3 hc3 => ?_))
      rw [ee] at hc3
      rw [show (spExchange s (nI a) b (nI line) (nI o)).1 = nI (tf (unL b (lA s a).2.1 line o (lA s a).2.2 (lnN (!b) (lA s a).1 (lA s a).2.1))) by rw [ee]]
      have h3 := h2.cl hF3 hc3
      have EN : wp G (d + 17) m_law P 994 [some (.ref (gb G)), some (.ref (gB G)), some (.ref (gB G + 92)), some (.ref (gB G + 93)), some (.ref (gB G + 94)), some (.ref (gB G + 95)), some (.int (nI t)), some (.int (x)), some (.int (y)), some (.int (nI kd)), some (.int (nI a)), some (.int (nI (12 * a))), l12, some (.int (nI (bN b))), some (.int (nI (lnN b (lA s a).1 (lA s a).2.1))), some (.int (nI line)), some (.int (nI o)), some (.int (nI (bN (unL b (lA s a).2.1 line o (lA s a).2.2 (lnN (!b) (lA s a).1 (lA s a).2.1))))), some (.int (nI (lA s a).2.1)), some (.int (nI (lnN (!b) (lA s a).1 (lA s a).2.1))), l20, l21, l22, l23, l24, l25] [] w3 (k1, k2) := by
        refine qL_law_994 ?_
        exact K w3 _ f2 v co se k1 k2 _ _ _ _ _ _ _ _ _ _ _ _ _ _ h3 (hf.up ⟨hd, swL_le hd h999 hl ho⟩ (by rw [q2 _ (by omega)]; exact hR) (by rw [q2 _ (by omega)]; exact hC) q1 hR3 h9 (fun q hq => q2 q (by omega))) hk1 hk2
      refine qL_law_967 ?_
      refine qL_law_969 ?_
      refine nL_law_971 (by omega) (by omega) (fun h971 => ?_) (fun h971 => by exfalso; omega)
      refine qL_law_979 ?_
      cases hu : unL b (lA s a).2.1 line o (lA s a).2.2 (lnN (!b) (lA s a).1 (lA s a).2.1) with
      | false =>
        rw [hu] at EN
        rw [show bN false = 0 from rfl] at *
        refine nL_law_981 (by omega) (fun h981 => ?_) (fun h981 => by exfalso; omega)
        refine qL_law_988 ?_
        refine qL_law_989 (fun h989 => ?_) (fun h989 => absurd rfl h989)
        exact EN
      | true =>
        rw [hu] at EN
        rw [show bN true = 1 from rfl] at *
        refine nL_law_981 (by omega) (fun h981 => by exfalso; omega) (fun h981 => ?_)
        refine qL_law_984 ?_
        refine qL_law_985 ?_
        refine qL_law_989 (fun h989 => ?_) (fun h989 => absurd rfl h989)
        exact EN
    have LP : ∀ m i w2 f2 (l20 l21 l22 : Option Value), i + m = lnN (!b) (lA s a).1 (lA s a).2.1 → jW G w2 s f2 v co se → (∀ q, q < (lA s a).1 * (lA s a).2.1 → f2 (12 * a + 2 + q) = swP b (lA s a).2.1 line o (lA s a).2.2 i q) → (∀ q, q < 12 * a + 2 ∨ 12 * a + 12 ≤ q → f2 q = f q) → wp G (d + 17) m_law P 820 [some (.ref (gb G)), some (.ref (gB G)), some (.ref (gB G + 92)), some (.ref (gB G + 93)), some (.ref (gB G + 94)), some (.ref (gB G + 95)), some (.int (nI t)), some (.int (x)), some (.int (y)), some (.int (nI kd)), some (.int (nI a)), some (.int (nI (12 * a))), l12, some (.int (nI (bN b))), some (.int (nI (lnN b (lA s a).1 (lA s a).2.1))), some (.int (nI line)), some (.int (nI o)), some (.int (nI (bN (unL b (lA s a).2.1 line o (lA s a).2.2 i)))), some (.int (nI (lA s a).2.1)), some (.int (nI i)), l20, l21, l22, l23, l24, l25] [] w2 (k1, k2) := by
      intro m
      induction m with
      | zero =>
        intro i w2 f2 l20 l21 l22 hi h2 q1 q2
        refine HD w2 f2 i _ _ _ _ h2.2.1 (by rw [q2 _ (by omega)]; exact hR) ?_
        refine nL_law_836 (by omega) (by omega) (fun h836 => ?_) (fun h836 => by exfalso; omega)
        rw [show i = lnN (!b) (lA s a).1 (lA s a).2.1 by omega] at q1 ⊢
        refine FIN w2 f2 _ _ _ h2 (fun q hq => ?_) q2
        rw [q1 q hq]
        have hpos := (lp_lt (b := b) hq).2
        unfold swP swL
        simp only [hpos, and_true]
      | succ m ih =>
        intro i w2 f2 l20 l21 l22 hi h2 q1 q2
        have hp2 := h2.2.1
        have hil : i < lnN (!b) (lA s a).1 (lA s a).2.1 := by omega
        obtain ⟨x1, x2, x3⟩ := hPL i hil
        have l1 := linN_pl (b := b) (C := (lA s a).2.1) (R := (lA s a).1) hl hil
        have l2 := linN_pl (b := b) (C := (lA s a).2.1) (R := (lA s a).1) ho hil
        have p1 := posN_pl (b := b) (C := (lA s a).2.1) (R := (lA s a).1) hl hil
        have p2 := posN_pl (b := b) (C := (lA s a).2.1) (R := (lA s a).1) ho hil
        have r1 : f2 (12 * a + 2 + plN b (lA s a).2.1 line i) = (lA s a).2.2 (plN b (lA s a).2.1 line i) := by
          rw [q1 _ x1]
          unfold swP
          rw [if_neg (by rw [p1]; omega), if_neg (by rw [p1]; omega)]
        have r2 : f2 (12 * a + 2 + plN b (lA s a).2.1 o i) = (lA s a).2.2 (plN b (lA s a).2.1 o i) := by
          rw [q1 _ x2]
          unfold swP
          rw [if_neg (by rw [p2]; omega), if_neg (by rw [p2]; omega)]
        have y1 := h999 _ x1
        have y2 := h999 _ x2
        -- behind the two places
        have K908 : wp G (d + 17) m_law P 908 [some (.ref (gb G)), some (.ref (gB G)), some (.ref (gB G + 92)), some (.ref (gB G + 93)), some (.ref (gB G + 94)), some (.ref (gB G + 95)), some (.int (nI t)), some (.int (x)), some (.int (y)), some (.int (nI kd)), some (.int (nI a)), some (.int (nI (12 * a))), l12, some (.int (nI (bN b))), some (.int (nI (lnN b (lA s a).1 (lA s a).2.1))), some (.int (nI line)), some (.int (nI o)), some (.int (nI (bN (unL b (lA s a).2.1 line o (lA s a).2.2 i)))), some (.int (nI (lA s a).2.1)), some (.int (nI i)), some (.int (nI (12 * a + 2 + plN b (lA s a).2.1 line i))), some (.int (nI (12 * a + 2 + plN b (lA s a).2.1 o i))), l22, l23, l24, l25] [] w2 (k1, k2) := by
          have K935 : wp G (d + 17) m_law P 935 [some (.ref (gb G)), some (.ref (gB G)), some (.ref (gB G + 92)), some (.ref (gB G + 93)), some (.ref (gB G + 94)), some (.ref (gB G + 95)), some (.int (nI t)), some (.int (x)), some (.int (y)), some (.int (nI kd)), some (.int (nI a)), some (.int (nI (12 * a))), l12, some (.int (nI (bN b))), some (.int (nI (lnN b (lA s a).1 (lA s a).2.1))), some (.int (nI line)), some (.int (nI o)), some (.int (nI (bN (unL b (lA s a).2.1 line o (lA s a).2.2 (i + 1))))), some (.int (nI (lA s a).2.1)), some (.int (nI i)), some (.int (nI (12 * a + 2 + plN b (lA s a).2.1 line i))), some (.int (nI (12 * a + 2 + plN b (lA s a).2.1 o i))), some (.int (nI ((lA s a).2.2 (plN b (lA s a).2.1 line i)))), l23, l24, l25] [] w2 (k1, k2) := by
            refine qL_law_935 ?_
            refine qL_law_936 ?_
            refine qL_law_938 ?_
            refine qL_law_939 ?_
            first | refine fL_law_941 (by assumption) (by omega) (by decide) ?_ | refine nL_law_941 (by assumption) (by omega) (by decide) ?_
            rw [r2]
            refine fL_law_942 (by assumption) (by omega) (by decide) ?_
            generalize hw4 : s_up w2 (gB G + 92) _ = w4
            have hp4 : w4.1 (gB G + 92) = aN G 36 (updN f2 (12 * a + 2 + plN b (lA s a).2.1 line i) ((lA s a).2.2 (plN b (lA s a).2.1 o i))) := by rw [← hw4]; exact s_upS
            have h4 := h2.arr (by rw [← hw4]; exact Fr.rf.up rfl) hp4
            refine qL_law_943 ?_
            refine qL_law_944 ?_
            refine qL_law_946 ?_
            refine fL_law_948 (by assumption) (by omega) (by decide) ?_
            generalize hw5 : s_up w4 (gB G + 92) _ = w5
            have hp5 : w5.1 (gB G + 92) = aN G 36 (updN (updN f2 (12 * a + 2 + plN b (lA s a).2.1 line i) ((lA s a).2.2 (plN b (lA s a).2.1 o i))) (12 * a + 2 + plN b (lA s a).2.1 o i) ((lA s a).2.2 (plN b (lA s a).2.1 line i))) := by rw [← hw5]; exact s_upS
            have h5 := h4.arr (by rw [← hw5]; exact Fr.rf.up rfl) hp5
            have o5 : ∀ q, updN (updN f2 (12 * a + 2 + plN b (lA s a).2.1 line i) ((lA s a).2.2 (plN b (lA s a).2.1 o i))) (12 * a + 2 + plN b (lA s a).2.1 o i) ((lA s a).2.2 (plN b (lA s a).2.1 line i)) q = if q = 12 * a + 2 + plN b (lA s a).2.1 o i then (lA s a).2.2 (plN b (lA s a).2.1 line i) else if q = 12 * a + 2 + plN b (lA s a).2.1 line i then (lA s a).2.2 (plN b (lA s a).2.1 o i) else f2 q := fun _ => rfl
            first | refine nL_law_949 ?_ | refine qL_law_949 ?_
            refine qL_law_952 ?_
            refine ih (i + 1) w5 _ _ _ _ (by omega) h5 (fun q hq => ?_) (fun q hq => ?_)
            · rw [o5]
              by_cases c1 : q = plN b (lA s a).2.1 o i
              · rw [if_pos (by omega), c1]
                unfold swP
                rw [if_neg (by rw [l2]; omega), if_pos ⟨l2, by rw [p2]; omega⟩, p2]
              · rw [if_neg (by omega)]
                by_cases c2 : q = plN b (lA s a).2.1 line i
                · rw [if_pos (by omega), c2]
                  unfold swP
                  rw [if_pos ⟨l1, by rw [p1]; omega⟩, p1]
                · rw [if_neg (by omega), q1 q hq]
                  have n1 : linN b (lA s a).2.1 q = line → posN b (lA s a).2.1 q ≠ i := fun z1 z2 => c2 (by rw [← pl_lp (b := b) (C := (lA s a).2.1) (k := q), z1, z2])
                  have n2 : linN b (lA s a).2.1 q = o → posN b (lA s a).2.1 q ≠ i := fun z1 z2 => c1 (by rw [← pl_lp (b := b) (C := (lA s a).2.1) (k := q), z1, z2])
                  unfold swP
                  by_cases d1 : linN b (lA s a).2.1 q = line
                  · have := n1 d1
                    simp only [d1, true_and, show (posN b (lA s a).2.1 q < i + 1) = (posN b (lA s a).2.1 q < i) from propext ⟨fun _ => by omega, fun _ => by omega⟩, hlo, false_and, if_false]
                  · by_cases d2 : linN b (lA s a).2.1 q = o
                    · have := n2 d2
                      simp only [d2, true_and, show (posN b (lA s a).2.1 q < i + 1) = (posN b (lA s a).2.1 q < i) from propext ⟨fun _ => by omega, fun _ => by omega⟩, Ne.symm hlo, false_and, if_false]
                    · simp only [d1, d2, false_and, if_false]
            · rw [o5, if_neg (by omega), if_neg (by omega)]
              exact q2 q hq
          refine qL_law_908 ?_
          refine qL_law_909 ?_
          first | refine fL_law_911 (by assumption) (by omega) (by decide) ?_ | refine nL_law_911 (by assumption) (by omega) (by decide) ?_
          rw [r1]
          refine qL_law_912 ?_
          refine qL_law_914 ?_
          have un : unL b (lA s a).2.1 line o (lA s a).2.2 (i + 1) = (unL b (lA s a).2.1 line o (lA s a).2.2 i || ((lA s a).2.2 (plN b (lA s a).2.1 line i) != (lA s a).2.2 (plN b (lA s a).2.1 o i))) := rfl
          cases hu : unL b (lA s a).2.1 line o (lA s a).2.2 i with
          | true =>
            rw [un, hu] at K935
            rw [show bN true = 1 from rfl] at *
            refine nL_law_916 (by omega) (fun h916 => ?_) (fun h916 => by exfalso; omega)
            refine qL_law_928 ?_
            refine qL_law_929 ?_
            refine qL_law_933 ?_
            exact K935
          | false =>
            rw [un, hu] at K935
            rw [show bN false = 0 from rfl] at *
            refine nL_law_916 (by omega) (fun h916 => by exfalso; omega) (fun h916 => ?_)
            refine qL_law_919 ?_
            refine qL_law_921 ?_
            refine qL_law_922 ?_
            first | refine fL_law_924 (by assumption) (by omega) (by decide) ?_ | refine nL_law_924 (by assumption) (by omega) (by decide) ?_
            rw [r2]
            refine nL_law_925 (by omega) (by omega) (fun h925 => ?_) (fun h925 => ?_)
            · rw [show (false || ((lA s a).2.2 (plN b (lA s a).2.1 line i) != (lA s a).2.2 (plN b (lA s a).2.1 o i))) = false by simp [h925]] at K935
              refine qL_law_932 ?_
              refine qL_law_933 ?_
              exact K935
            · rw [show (false || ((lA s a).2.2 (plN b (lA s a).2.1 line i) != (lA s a).2.2 (plN b (lA s a).2.1 o i))) = true by simpa using h925] at K935
              refine qL_law_928 ?_
              refine qL_law_929 ?_
              refine qL_law_933 ?_
              exact K935
        refine HD w2 f2 i _ _ _ _ hp2 (by rw [q2 _ (by omega)]; exact hR) ?_
        refine nL_law_836 (by omega) (by omega) (fun h836 => by exfalso; omega) (fun h836 => ?_)
        refine qL_law_839 ?_
        refine qL_law_841 ?_
        refine nL_law_843 (by omega) (by omega) (fun h843 => by exfalso; omega) (fun h843 => ?_)
        cases b with
        | false =>
          rw [show bN false = 0 from rfl] at *
          refine qL_law_846 ?_
          refine qL_law_848 ?_
          first | refine nL_law_849 ?_ | refine qL_law_849 ?_
          refine qL_law_850 ?_
          refine nL_law_852 (by omega) (fun h852 => ?_) (fun h852 => by exfalso; omega)
          refine qL_law_866 ?_
          refine qL_law_868 ?_
          first | refine nL_law_870 ?_ | refine qL_law_870 ?_
          refine qL_law_871 ?_
          first | refine nL_law_873 ?_ | refine qL_law_873 ?_
          first | refine nL_law_874 ?_ | refine qL_law_874 ?_
          refine qL_law_875 ?_
          refine qL_law_877 ?_
          refine qL_law_879 ?_
          first | refine nL_law_880 ?_ | refine qL_law_880 ?_
          refine qL_law_881 ?_
          refine nL_law_883 (by omega) (fun h883 => ?_) (fun h883 => by exfalso; omega)
          refine qL_law_897 ?_
          refine qL_law_899 ?_
          first | refine nL_law_901 ?_ | refine qL_law_901 ?_
          refine qL_law_902 ?_
          first | refine nL_law_904 ?_ | refine qL_law_904 ?_
          first | refine nL_law_905 ?_ | refine qL_law_905 ?_
          refine qL_law_906 ?_
          exact K908
        | true =>
          rw [show bN true = 1 from rfl] at *
          refine qL_law_846 ?_
          refine qL_law_848 ?_
          first | refine nL_law_849 ?_ | refine qL_law_849 ?_
          refine qL_law_850 ?_
          refine nL_law_852 (by omega) (fun h852 => by exfalso; omega) (fun h852 => ?_)
          refine qL_law_855 ?_
          refine qL_law_857 ?_
          first | refine nL_law_859 ?_ | refine qL_law_859 ?_
          refine qL_law_860 ?_
          first | refine nL_law_862 ?_ | refine qL_law_862 ?_
          refine qL_law_863 ?_
          first | refine nL_law_874 ?_ | refine qL_law_874 ?_
          refine qL_law_875 ?_
          refine qL_law_877 ?_
          refine qL_law_879 ?_
          first | refine nL_law_880 ?_ | refine qL_law_880 ?_
          refine qL_law_881 ?_
          refine nL_law_883 (by omega) (fun h883 => by exfalso; omega) (fun h883 => ?_)
          refine qL_law_886 ?_
          refine qL_law_888 ?_
          first | refine nL_law_890 ?_ | refine qL_law_890 ?_
          refine qL_law_891 ?_
          first | refine nL_law_893 ?_ | refine qL_law_893 ?_
          refine qL_law_894 ?_
          first | refine nL_law_905 ?_ | refine qL_law_905 ?_
          refine qL_law_906 ?_
          exact K908
    refine LP (lnN (!b) (lA s a).1 (lA s a).2.1) 0 w f _ _ _ (by omega) h (fun q hq => ?_) (fun _ _ => rfl)
    rw [hE q hq]
    simp [swP]
end LEXCH
