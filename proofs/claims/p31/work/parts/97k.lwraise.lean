/-! the law's acts: a row or a column raised -/
theorem ad_iZ {x : Nat} {z : Int} (h : 0 ≤ (x : Int) + z) : iZ ((x : Int) + z) = nI (adN x z) := by
  unfold adN
  rw [← iZ_n, Int.toNat_of_nonneg h]
def cRz (b : Bool) (C line : Nat) (z : Int) (E : Nat → Nat) (i : Nat) : Prop := ∀ q, q < i → linN b C q = line → 0 ≤ (E q : Int) + z ∧ (E q : Int) + z ≤ 999
theorem cRz_ok {b : Bool} {R C line : Nat} {z : Int} {E : Nat → Nat} (hd : okD R C) (hl : line < lnN b R C) : cRz b C line z E (R * C) ↔ okL b R C line z E := by
  constructor
  · intro h k hk
    exact h _ (plN_lt hd hl hk) (linN_pl hl hk)
  · intro h q hq hlq
    have h1 := h (posN b C q) (lp_lt (b := b) hq).2
    rw [← hlq, pl_lp] at h1
    exact h1
section LRAISE
variable {G : sG} {d : Nat} {P : sQ} {w : sW} {s : xS} {a : Nat} {f : Nat → Nat} {v : Nat → Int32} {co : Nat → Nat} {se : Nat → Int64} {x y : Int32} {t kd k1 k2 c1 c2 : Nat}
theorem la_sel {b : Bool} {i : Nat} (l12 l14 l15 l16 l17 l18 l20 l21 l22 l23 l24 l25 : Option Value) (hC0 : 0 < (lA s a).2.1) (hC4 : (lA s a).2.1 ≤ 4) (hi : i < 100) (hC : f (12 * a + 1) = (lA s a).2.1) (ha : a < 3) (hp : w.1 (gB G + 92) = aN G 36 f) (k : wp G (d + 17) m_law P 602 [some (.ref (gb G)), some (.ref (gB G)), some (.ref (gB G + 92)), some (.ref (gB G + 93)), some (.ref (gB G + 94)), some (.ref (gB G + 95)), some (.int (nI t)), some (.int (x)), some (.int (y)), some (.int (nI kd)), some (.int (nI a)), some (.int (nI (12 * a))), l12, some (.int (nI (bN b))), l14, l15, l16, l17, l18, some (.int (nI i)), l20, l21, l22, l23, l24, l25] [.int (nI (linN b (lA s a).2.1 i))] w (k1, k2)) : wp G (d + 17) m_law P 576 [some (.ref (gb G)), some (.ref (gB G)), some (.ref (gB G + 92)), some (.ref (gB G + 93)), some (.ref (gB G + 94)), some (.ref (gB G + 95)), some (.int (nI t)), some (.int (x)), some (.int (y)), some (.int (nI kd)), some (.int (nI a)), some (.int (nI (12 * a))), l12, some (.int (nI (bN b))), l14, l15, l16, l17, l18, some (.int (nI i)), l20, l21, l22, l23, l24, l25] [] w (k1, k2) := by
  cases b with
  | false =>
    rw [show bN false = 0 from rfl] at *
    refine qL_law_576 ?_
    refine nL_law_578 (by omega) (fun h578 => ?_) (fun h578 => by exfalso; omega)
    refine qL_law_593 ?_
    refine qL_law_595 ?_
    refine qL_law_596 ?_
    refine qL_law_598 ?_
    first | refine nL_law_599 ?_ | refine qL_law_599 ?_
    first | refine fL_law_600 (by assumption) (by omega) (by decide) ?_ | refine nL_law_600 (by assumption) (by omega) (by decide) ?_
    rw [hC]
    refine nL_law_601 (by omega) (by omega) (by omega) ?_
    exact k
  | true =>
    rw [show bN true = 1 from rfl] at *
    refine qL_law_576 ?_
    refine nL_law_578 (by omega) (fun h578 => by exfalso; omega) (fun h578 => ?_)
    refine qL_law_581 ?_
    refine qL_law_583 ?_
    refine qL_law_584 ?_
    refine qL_law_586 ?_
    first | refine nL_law_587 ?_ | refine qL_law_587 ?_
    first | refine fL_law_588 (by assumption) (by omega) (by decide) ?_ | refine nL_law_588 (by assumption) (by omega) (by decide) ?_
    rw [hC]
    refine nL_law_589 (by omega) (by omega) (by omega) ?_
    refine qL_law_590 ?_
    exact k
theorem la_sel2 {b : Bool} {i : Nat} (l12 l14 l15 l16 l17 l18 l20 l21 l22 l23 l24 l25 : Option Value) (hC0 : 0 < (lA s a).2.1) (hC4 : (lA s a).2.1 ≤ 4) (hi : i < 100) (hC : f (12 * a + 1) = (lA s a).2.1) (ha : a < 3) (hp : w.1 (gB G + 92) = aN G 36 f) (k : wp G (d + 17) m_law P 703 [some (.ref (gb G)), some (.ref (gB G)), some (.ref (gB G + 92)), some (.ref (gB G + 93)), some (.ref (gB G + 94)), some (.ref (gB G + 95)), some (.int (nI t)), some (.int (x)), some (.int (y)), some (.int (nI kd)), some (.int (nI a)), some (.int (nI (12 * a))), l12, some (.int (nI (bN b))), l14, l15, l16, l17, l18, some (.int (nI i)), l20, l21, l22, l23, l24, l25] [.int (nI (linN b (lA s a).2.1 i))] w (k1, k2)) : wp G (d + 17) m_law P 677 [some (.ref (gb G)), some (.ref (gB G)), some (.ref (gB G + 92)), some (.ref (gB G + 93)), some (.ref (gB G + 94)), some (.ref (gB G + 95)), some (.int (nI t)), some (.int (x)), some (.int (y)), some (.int (nI kd)), some (.int (nI a)), some (.int (nI (12 * a))), l12, some (.int (nI (bN b))), l14, l15, l16, l17, l18, some (.int (nI i)), l20, l21, l22, l23, l24, l25] [] w (k1, k2) := by
  cases b with
  | false =>
    rw [show bN false = 0 from rfl] at *
    refine qL_law_677 ?_
    refine nL_law_679 (by omega) (fun h679 => ?_) (fun h679 => by exfalso; omega)
    refine qL_law_694 ?_
    refine qL_law_696 ?_
    refine qL_law_697 ?_
    refine qL_law_699 ?_
    first | refine nL_law_700 ?_ | refine qL_law_700 ?_
    first | refine fL_law_701 (by assumption) (by omega) (by decide) ?_ | refine nL_law_701 (by assumption) (by omega) (by decide) ?_
    rw [hC]
    refine nL_law_702 (by omega) (by omega) (by omega) ?_
    exact k
  | true =>
    rw [show bN true = 1 from rfl] at *
    refine qL_law_677 ?_
    refine nL_law_679 (by omega) (fun h679 => by exfalso; omega) (fun h679 => ?_)
    refine qL_law_682 ?_
    refine qL_law_684 ?_
    refine qL_law_685 ?_
    refine qL_law_687 ?_
    first | refine nL_law_688 ?_ | refine qL_law_688 ?_
    first | refine fL_law_689 (by assumption) (by omega) (by decide) ?_ | refine nL_law_689 (by assumption) (by omega) (by decide) ?_
    rw [hC]
    refine nL_law_690 (by omega) (by omega) (by omega) ?_
    refine qL_law_691 ?_
    exact k
theorem la_raise {b : Bool} {line : Nat} (l12 l14 l16 l17 l18 l19 l20 l21 l22 l23 l24 l25 : Option Value) (h : jW G w s f v co se) (hf : jF s f) (ha : a < 3) (ht : t < 18) (hl : line < lnN b (lA s a).1 (lA s a).2.1) (hk1 : c1 ≤ k1) (hk2 : c2 ≤ k2) (K : ∀ w2 s2 f2 v2 co2 se2 j1 j2 (l12 l13 l14 l15 l16 l17 l18 l19 l20 l21 l22 l23 l24 l25 : Option Value), jW G w2 s2 f2 v2 co2 se2 → jF s2 f2 → c1 ≤ j1 → c2 ≤ j2 → wp G (d + 17) m_law P 1775 [some (.ref (gb G)), some (.ref (gB G)), some (.ref (gB G + 92)), some (.ref (gB G + 93)), some (.ref (gB G + 94)), some (.ref (gB G + 95)), some (.int (nI t)), some (.int (x)), some (.int (y)), some (.int (nI kd)), some (.int (nI a)), some (.int (nI (12 * a))), l12, l13, l14, l15, l16, l17, l18, l19, l20, l21, l22, l23, l24, l25] [] w2 (j1, j2)) : wp G (d + 17) m_law P 544 [some (.ref (gb G)), some (.ref (gB G)), some (.ref (gB G + 92)), some (.ref (gB G + 93)), some (.ref (gB G + 94)), some (.ref (gB G + 95)), some (.int (nI t)), some (.int (x)), some (.int (y)), some (.int (nI kd)), some (.int (nI a)), some (.int (nI (12 * a))), l12, some (.int (nI (bN b))), l14, some (.int (nI line)), l16, l17, l18, l19, l20, l21, l22, l23, l24, l25] [] w (k1, k2) := by
  have hlv := h.lV hf ha
  obtain ⟨hp, _, hR, hC, hE, hd, h9, h999⟩ := id hlv
  have hR3 := (hf.2 a ha).2.2.2.1
  have d3 := hd.2.2.1
  have d4 := hd.2.2.2.1
  have hll : lnN b (lA s a).1 (lA s a).2.1 ≤ 4 := by
    cases b
    · exact d4
    · exact hd.2.1
  have z1000 : zR 1000 := ⟨by decide, by decide⟩
  refine qL_law_544 ?_
  refine qL_law_546 ?_
  refine qL_law_548 (Nat.le_of_ble_eq_true rfl) (l_low (by decide) (by decide) (fun r hr => ?_))
  refine qL_law_551 ?_
  refine qL_law_553 ?_
  rw [nI_nI_sub]
  obtain ⟨z, hz⟩ : ∃ z : Int, z = (r : Int) - (9 : Nat) := ⟨_, rfl⟩
  rw [← hz]
  have hz1 : -9 ≤ z ∧ z ≤ 9 := ⟨by omega, by omega⟩
  have er := e_raise b hf.1 ha hl (show -999 ≤ z ∧ z ≤ 999 by omega)
  -- the second loop
  have LE : ∀ (st : Bool), (st = true ↔ okL b (lA s a).1 (lA s a).2.1 line z (lA s a).2.2) → wp G (d + 17) m_law P 661 [some (.ref (gb G)), some (.ref (gB G)), some (.ref (gB G + 92)), some (.ref (gB G + 93)), some (.ref (gB G + 94)), some (.ref (gB G + 95)), some (.int (nI t)), some (.int (x)), some (.int (y)), some (.int (nI kd)), some (.int (nI a)), some (.int (nI (12 * a))), l12, some (.int (nI (bN b))), l14, some (.int (nI line)), some (.int (iZ z)), some (.int (nI (bN st))), some (.int (nI 0)), some (.int (nI 0)), l20, l21, l22, l23, l24, l25] [] w (k1, k2) := by
    intro st hst
    obtain ⟨g, hg⟩ : ∃ g : Nat → Nat, g = fun q => if st = true then adL b (lA s a).2.1 line z (lA s a).2.2 q else (lA s a).2.2 q := ⟨_, rfl⟩
    have hg9 : ∀ q, q < (lA s a).1 * (lA s a).2.1 → g q ≤ 999 := fun q hq => by
      rw [hg]
      show (if st = true then adL b (lA s a).2.1 line z (lA s a).2.2 q else (lA s a).2.2 q) ≤ 999
      split
      · next hs => exact adL_le h999 (hst.mp hs) q hq
      · exact h999 q hq
    have FIN : ∀ w2 f2 (l12 l14 l20 l21 l22 l23 l24 l25 : Option Value), jW G w2 s f2 v co se → (∀ q, q < (lA s a).1 * (lA s a).2.1 → f2 (12 * a + 2 + q) = g q) → (∀ q, q < 12 * a + 2 ∨ 12 * a + 2 + (lA s a).1 * (lA s a).2.1 ≤ q → f2 q = f q) → wp G (d + 17) m_law P 758 [some (.ref (gb G)), some (.ref (gB G)), some (.ref (gB G + 92)), some (.ref (gB G + 93)), some (.ref (gB G + 94)), some (.ref (gB G + 95)), some (.int (nI t)), some (.int (x)), some (.int (y)), some (.int (nI kd)), some (.int (nI a)), some (.int (nI (12 * a))), l12, some (.int (nI (bN b))), l14, some (.int (nI line)), some (.int (iZ z)), some (.int (nI (bN st))), some (.int (nI (mxF g ((lA s a).1 * (lA s a).2.1)))), some (.int (nI ((lA s a).1 * (lA s a).2.1))), l20, l21, l22, l23, l24, l25] [] w2 (k1, k2) := by
      intro w2 f2 l12 l14 l20 l21 l22 l23 l24 l25 h2 hf2 ho2
      refine qL_law_758 ?_
      refine qL_law_759 ?_
      refine qL_law_761 ?_
      refine qL_law_763 ?_
      refine qL_law_765 ?_
      refine qL_law_767 (jW.ob h2) (Nat.le_of_ble_eq_true rfl) (t_raise b h2.1 hf.1 (fun w3 hF3 hc3 => ?_))
      cases st with
      | true =>
        have e1 := er.1 (hst.mp rfl)
        have hgE : g = adL b (lA s a).2.1 line z (lA s a).2.2 := by
          rw [hg]
          funext q
          exact if_pos rfl
        rw [e1] at hc3
        rw [show (spRaise s (nI a) b (nI line) (iZ z)).1 = nI (mxF g ((lA s a).1 * (lA s a).2.1)) by rw [e1, hgE]]
        have h3 := h2.cl hF3 hc3
        rw [show bN true = 1 from rfl]
        refine qL_law_770 ?_
        refine nL_law_772 (by omega) (fun h772 => by exfalso; omega) (fun h772 => ?_)
        refine qL_law_775 ?_
        refine qL_law_777 ?_
        refine qL_law_782 (fun h782 => ?_) (fun h782 => absurd rfl h782)
        refine qL_law_787 ?_
        exact K w3 _ f2 v co se k1 k2 _ _ _ _ _ _ _ _ _ _ _ _ _ _ h3 (hf.up ⟨hd, fun q hq => by rw [← hgE]; exact hg9 q hq⟩ (by rw [ho2 _ (by omega)]; exact hR) (by rw [ho2 _ (by omega)]; exact hC) (fun q hq => by rw [← hgE]; exact hf2 q hq) hR3 h9 (fun q hq => ho2 q (by omega))) hk1 hk2
      | false =>
        have e1 := er.2 (fun q => by
          have := hst.mpr q
          cases this)
        have hgE : g = (lA s a).2.2 := by
          rw [hg]
          funext q
          exact if_neg (by decide)
        have hff : f2 = f := by
          funext q
          by_cases hq : q < 12 * a + 2 ∨ 12 * a + 2 + (lA s a).1 * (lA s a).2.1 ≤ q
          · exact ho2 q hq
          · obtain ⟨j, hj⟩ : ∃ j, q = 12 * a + 2 + j := ⟨q - (12 * a + 2), by omega⟩
            rw [hj, hf2 j (by omega), hE j (by omega), hgE]
        subst hff
        rw [e1] at hc3
        rw [show (spRaise s (nI a) b (nI line) (iZ z)).1 = -5 by rw [e1]]
        have h3 := h2.cl hF3 hc3
        rw [show bN false = 0 from rfl]
        refine qL_law_770 ?_
        refine nL_law_772 (by omega) (fun h772 => ?_) (fun h772 => by exfalso; omega)
        refine qL_law_780 ?_
        refine qL_law_782 (fun h782 => ?_) (fun h782 => absurd rfl h782)
        refine qL_law_787 ?_
        exact K w3 _ _ v co se k1 k2 _ _ _ _ _ _ _ _ _ _ _ _ _ _ h3 hf hk1 hk2
    have L2 : ∀ m i w2 f2 (l12 l14 l20 l21 l22 l23 l24 l25 : Option Value), i + m = (lA s a).1 * (lA s a).2.1 → jW G w2 s f2 v co se → (∀ q, q < i → f2 (12 * a + 2 + q) = g q) → (∀ q, i ≤ q → q < (lA s a).1 * (lA s a).2.1 → f2 (12 * a + 2 + q) = (lA s a).2.2 q) → (∀ q, q < 12 * a + 2 ∨ 12 * a + 2 + (lA s a).1 * (lA s a).2.1 ≤ q → f2 q = f q) → wp G (d + 17) m_law P 661 [some (.ref (gb G)), some (.ref (gB G)), some (.ref (gB G + 92)), some (.ref (gB G + 93)), some (.ref (gB G + 94)), some (.ref (gB G + 95)), some (.int (nI t)), some (.int (x)), some (.int (y)), some (.int (nI kd)), some (.int (nI a)), some (.int (nI (12 * a))), l12, some (.int (nI (bN b))), l14, some (.int (nI line)), some (.int (iZ z)), some (.int (nI (bN st))), some (.int (nI (mxF g i))), some (.int (nI i)), l20, l21, l22, l23, l24, l25] [] w2 (k1, k2) := by
      intro m
      induction m with
      | zero =>
        intro i w2 f2 l12 l14 l20 l21 l22 l23 l24 l25 hi h2 q1 q2 q3
        have hp2 := h2.2.1
        have hlv2 : lV G w2 (gB G + 92) f2 a (lA s a).1 (lA s a).2.1 g := ⟨hp2, ha, by rw [q3 _ (by omega)]; exact hR, by rw [q3 _ (by omega)]; exact hC, fun q hq => q1 q (by omega), hd, h9, hg9⟩
        refine qL_law_661 ?_
        refine qL_law_663 ?_
        refine qL_law_665 ?_
        refine qL_law_666 (Nat.le_of_ble_eq_true rfl) (l_many hlv2 ?_)
        refine nL_law_669 (by omega) (by omega) (fun h669 => ?_) (fun h669 => by exfalso; omega)
        rw [show i = (lA s a).1 * (lA s a).2.1 by omega] at q1 ⊢
        exact FIN w2 f2 _ _ _ _ _ _ _ _ h2 q1 q3
      | succ m ih =>
        intro i w2 f2 l12 l14 l20 l21 l22 l23 l24 l25 hi h2 q1 q2 q3
        have hp2 := h2.2.1
        have hil : i < (lA s a).1 * (lA s a).2.1 := by omega
        have hC2 : f2 (12 * a + 1) = (lA s a).2.1 := by rw [q3 _ (by omega)]; exact hC
        have hlv2 : lV G w2 (gB G + 92) f2 a (lA s a).1 (lA s a).2.1 (fun q => f2 (12 * a + 2 + q)) := ⟨hp2, ha, by rw [q3 _ (by omega)]; exact hR, hC2, fun q hq => rfl, hd, h9, fun q hq => by
          by_cases hqi : q < i
          · show f2 (12 * a + 2 + q) ≤ 999
            rw [q1 q hqi]; exact hg9 q hq
          · show f2 (12 * a + 2 + q) ≤ 999
            rw [q2 q (by omega) hq]; exact h999 q hq⟩
        have hgi := hg9 i hil
        have hmx : mxF g i ≤ 999 := mxF_le (fun q hq => hg9 q (by omega))
        have hEi := h999 i hil
        have hlin := (lp_lt (b := b) hil).1
        have K722 : ∀ w3 f3, jW G w3 s f3 v co se → f3 (12 * a + 2 + i) = g i → (∀ q, q ≠ 12 * a + 2 + i → f3 q = f2 q) → wp G (d + 17) m_law P 722 [some (.ref (gb G)), some (.ref (gB G)), some (.ref (gB G + 92)), some (.ref (gB G + 93)), some (.ref (gB G + 94)), some (.ref (gB G + 95)), some (.int (nI t)), some (.int (x)), some (.int (y)), some (.int (nI kd)), some (.int (nI a)), some (.int (nI (12 * a))), l12, some (.int (nI (bN b))), l14, some (.int (nI line)), some (.int (iZ z)), some (.int (nI (bN st))), some (.int (nI (mxF g i))), some (.int (nI i)), l20, l21, l22, l23, l24, l25] [] w3 (k1, k2) := by
          intro w3 f3 h3 e3 o3
          have hp3 := h3.2.1
          have NX : wp G (d + 17) m_law P 661 [some (.ref (gb G)), some (.ref (gB G)), some (.ref (gB G + 92)), some (.ref (gB G + 93)), some (.ref (gB G + 94)), some (.ref (gB G + 95)), some (.int (nI t)), some (.int (x)), some (.int (y)), some (.int (nI kd)), some (.int (nI a)), some (.int (nI (12 * a))), l12, some (.int (nI (bN b))), l14, some (.int (nI line)), some (.int (iZ z)), some (.int (nI (bN st))), some (.int (nI (mxF g (i + 1)))), some (.int (nI (i + 1))), l20, l21, l22, l23, l24, l25] [] w3 (k1, k2) := by
            refine ih (i + 1) w3 f3 _ _ _ _ _ _ _ _ (by omega) h3 (fun q hq => ?_) (fun q hq1 hq2 => ?_) (fun q hq => ?_)
            · by_cases hqi : q = i
              · rw [hqi]; exact e3
              · rw [o3 _ (by omega)]; exact q1 q (by omega)
            · rw [o3 _ (by omega)]; exact q2 q (by omega) hq2
            · rw [o3 _ (by omega)]; exact q3 q hq
          refine qL_law_722 ?_
          refine qL_law_723 ?_
          refine qL_law_725 ?_
          first | refine nL_law_726 ?_ | refine qL_law_726 ?_
          refine qL_law_727 ?_
          first | refine nL_law_729 ?_ | refine qL_law_729 ?_
          first | refine fL_law_730 (by assumption) (by omega) (by decide) ?_ | refine nL_law_730 (by assumption) (by omega) (by decide) ?_
          refine qL_law_731 ?_
          rw [e3]
          refine nL_law_733 (by omega) (by omega) (fun h733 => ?_) (fun h733 => ?_)
          · have e4 : mxF g (i + 1) = mxF g i := Nat.max_eq_left h733
            rw [e4] at NX
            refine qL_law_748 ?_
            refine qL_law_750 ?_
            first | refine nL_law_752 ?_ | refine qL_law_752 ?_
            refine qL_law_755 ?_
            exact NX
          · have e4 : mxF g (i + 1) = g i := Nat.max_eq_right (by omega)
            rw [e4] at NX
            refine qL_law_736 ?_
            refine qL_law_737 ?_
            refine qL_law_739 ?_
            first | refine nL_law_740 ?_ | refine qL_law_740 ?_
            refine qL_law_741 ?_
            first | refine nL_law_743 ?_ | refine qL_law_743 ?_
            first | refine fL_law_744 (by assumption) (by omega) (by decide) ?_ | refine nL_law_744 (by assumption) (by omega) (by decide) ?_
            rw [e3]
            refine qL_law_745 ?_
            refine qL_law_750 ?_
            first | refine nL_law_752 ?_ | refine qL_law_752 ?_
            refine qL_law_755 ?_
            exact NX
        refine qL_law_661 ?_
        refine qL_law_663 ?_
        refine qL_law_665 ?_
        refine qL_law_666 (Nat.le_of_ble_eq_true rfl) (l_many hlv2 ?_)
        refine nL_law_669 (by omega) (by omega) (fun h669 => by exfalso; omega) (fun h669 => ?_)
        refine qL_law_672 ?_
        cases st with
        | false =>
          rw [show bN false = 0 from rfl] at *
          refine nL_law_674 (by omega) (fun h674 => ?_) (fun h674 => by exfalso; omega)
          refine K722 w2 f2 h2 ?_ (fun _ _ => rfl)
          rw [q2 i (Nat.le_refl _) hil, hg]
          exact (if_neg (by decide)).symm
        | true =>
          have hok := hst.mp rfl
          have hgA : ∀ q, g q = adL b (lA s a).2.1 line z (lA s a).2.2 q := fun q => by rw [hg]; exact if_pos rfl
          rw [show bN true = 1 from rfl] at *
          refine nL_law_674 (by omega) (fun h674 => by exfalso; omega) (fun h674 => ?_)
          refine la_sel2 _ _ _ _ _ _ _ _ _ _ _ _ (by omega) d4 (by omega) hC2 ha hp2 ?_
          refine qL_law_703 ?_
          refine nL_law_705 (by omega) (by omega) (fun h705 => ?_) (fun h705 => ?_)
          · refine K722 w2 f2 h2 ?_ (fun _ _ => rfl)
            rw [q2 i (Nat.le_refl _) hil, hgA]
            unfold adL
            rw [if_neg h705]
          · have hcr := (cRz_ok hd hl).mpr hok i hil h705
            refine qL_law_708 ?_
            refine qL_law_709 ?_
            refine qL_law_711 ?_
            first | refine nL_law_712 ?_ | refine qL_law_712 ?_
            refine qL_law_713 ?_
            first | refine nL_law_715 ?_ | refine qL_law_715 ?_
            refine qL_law_716 rfl rfl ?_
            first | refine fL_law_717 (by assumption) (by omega) (by decide) ?_ | refine nL_law_717 (by assumption) (by omega) (by decide) ?_
            refine qL_law_718 ?_
            rw [q2 i (Nat.le_refl _) hil]
            refine qL_law_720 ?_
            rw [nI_iZ_add, ad_iZ hcr.1]
            refine fL_law_721 (by assumption) (by omega) (by decide) ?_
            generalize hw4 : s_up w2 (gB G + 92) _ = w4
            have hp4 : w4.1 (gB G + 92) = aN G 36 (updN f2 (12 * a + 2 + i) (adN ((lA s a).2.2 i) z)) := by rw [← hw4]; exact s_upS
            refine K722 w4 _ (h2.arr (by rw [← hw4]; exact Fr.rf.up rfl) hp4) ?_ (fun q hq => if_neg hq)
            rw [hgA]
            unfold adL
            rw [if_pos h705]
            exact if_pos rfl
    exact L2 ((lA s a).1 * (lA s a).2.1) 0 w f _ _ _ _ _ _ _ _ (by omega) h (fun q hq => absurd hq (Nat.not_lt_zero q)) (fun q _ hq => hE q hq) (fun _ _ => rfl)
  -- the first loop
  have L1 : ∀ m i (st : Bool), i + m = (lA s a).1 * (lA s a).2.1 → (st = true ↔ cRz b (lA s a).2.1 line z (lA s a).2.2 i) → wp G (d + 17) m_law P 565 [some (.ref (gb G)), some (.ref (gB G)), some (.ref (gB G + 92)), some (.ref (gB G + 93)), some (.ref (gB G + 94)), some (.ref (gB G + 95)), some (.int (nI t)), some (.int (x)), some (.int (y)), some (.int (nI kd)), some (.int (nI a)), some (.int (nI (12 * a))), l12, some (.int (nI (bN b))), l14, some (.int (nI line)), some (.int (iZ z)), some (.int (nI (bN st))), some (.int (nI 0)), some (.int (nI i)), l20, l21, l22, l23, l24, l25] [] w (k1, k2) := by
    intro m
    induction m with
    | zero =>
      intro i st hi hst
      refine qL_law_565 ?_
      refine qL_law_567 ?_
      refine qL_law_569 ?_
      refine qL_law_570 (Nat.le_of_ble_eq_true rfl) (l_many hlv ?_)
      refine nL_law_573 (by omega) (by omega) (fun h573 => ?_) (fun h573 => by exfalso; omega)
      refine qL_law_658 ?_
      refine qL_law_659 ?_
      rw [show i = (lA s a).1 * (lA s a).2.1 by omega, cRz_ok hd hl] at hst
      exact LE st hst
    | succ m ih =>
      intro i st hi hst
      have hil : i < (lA s a).1 * (lA s a).2.1 := by omega
      have hlin := (lp_lt (b := b) hil).1
      have hEi := h999 i hil
      have hzr : zR (((lA s a).2.2 i : Int) + z) := ⟨by omega, by omega⟩
      have NX : ∀ st2 : Bool, (st2 = true ↔ cRz b (lA s a).2.1 line z (lA s a).2.2 (i + 1)) → wp G (d + 17) m_law P 652 [some (.ref (gb G)), some (.ref (gB G)), some (.ref (gB G + 92)), some (.ref (gB G + 93)), some (.ref (gB G + 94)), some (.ref (gB G + 95)), some (.int (nI t)), some (.int (x)), some (.int (y)), some (.int (nI kd)), some (.int (nI a)), some (.int (nI (12 * a))), l12, some (.int (nI (bN b))), l14, some (.int (nI line)), some (.int (iZ z)), some (.int (nI (bN st2))), some (.int (nI 0)), some (.int (nI i)), l20, l21, l22, l23, l24, l25] [] w (k1, k2) := by
        intro st2 h2
        first | refine nL_law_652 ?_ | refine qL_law_652 ?_
        refine qL_law_655 ?_
        exact ih (i + 1) st2 (by omega) h2
      refine qL_law_565 ?_
      refine qL_law_567 ?_
      refine qL_law_569 ?_
      refine qL_law_570 (Nat.le_of_ble_eq_true rfl) (l_many hlv ?_)
      refine nL_law_573 (by omega) (by omega) (fun h573 => by exfalso; omega) (fun h573 => ?_)
      refine la_sel _ _ _ _ _ _ _ _ _ _ _ _ (by omega) d4 (by omega) hC ha hp ?_
      refine qL_law_602 ?_
      refine nL_law_604 (by omega) (by omega) (fun h604 => ?_) (fun h604 => ?_)
      · refine NX st ?_
        rw [hst]
        constructor
        · intro q j hj hjl
          by_cases hji : j = i
          · rw [hji] at hjl; exact absurd hjl h604
          · exact q j (by omega) hjl
        · intro q j hj hjl
          exact q j (by omega) hjl
      · have hstep : cRz b (lA s a).2.1 line z (lA s a).2.2 (i + 1) ↔ cRz b (lA s a).2.1 line z (lA s a).2.2 i ∧ 0 ≤ ((lA s a).2.2 i : Int) + z ∧ ((lA s a).2.2 i : Int) + z ≤ 999 := by
          constructor
          · intro q
            exact ⟨fun j hj hjl => q j (by omega) hjl, q i (by omega) h604⟩
          · rintro ⟨q1, q2⟩ j hj hjl
            by_cases hji : j = i
            · rw [hji]; exact q2
            · exact q1 j (by omega) hjl
        have SET0 : ¬ cRz b (lA s a).2.1 line z (lA s a).2.2 (i + 1) → wp G (d + 17) m_law P 649 [some (.ref (gb G)), some (.ref (gB G)), some (.ref (gB G + 92)), some (.ref (gB G + 93)), some (.ref (gB G + 94)), some (.ref (gB G + 95)), some (.int (nI t)), some (.int (x)), some (.int (y)), some (.int (nI kd)), some (.int (nI a)), some (.int (nI (12 * a))), l12, some (.int (nI (bN b))), l14, some (.int (nI line)), some (.int (iZ z)), some (.int (nI (bN st))), some (.int (nI 0)), some (.int (nI i)), l20, l21, l22, l23, l24, l25] [] w (k1, k2) := by
          intro hn
          refine qL_law_649 ?_
          refine qL_law_650 ?_
          exact NX false ⟨fun q => (by cases q), fun q => absurd q hn⟩
        refine qL_law_607 ?_
        cases st with
        | false =>
          rw [show bN false = 0 from rfl] at *
          refine nL_law_609 (by omega) (fun h609 => ?_) (fun h609 => by exfalso; omega)
          refine SET0 (fun q => ?_)
          have := hst.mpr (hstep.mp q).1
          cases this
        | true =>
          have hc := hst.mp rfl
          rw [show bN true = 1 from rfl] at *
          refine nL_law_609 (by omega) (fun h609 => by exfalso; omega) (fun h609 => ?_)
          refine qL_law_612 ?_
          refine qL_law_613 ?_
          refine qL_law_615 ?_
          first | refine nL_law_616 ?_ | refine qL_law_616 ?_
          refine qL_law_617 ?_
          first | refine nL_law_619 ?_ | refine qL_law_619 ?_
          first | refine fL_law_620 (by assumption) (by omega) (by decide) ?_ | refine nL_law_620 (by assumption) (by omega) (by decide) ?_
          refine qL_law_621 ?_
          rw [hE i hil]
          refine qL_law_623 ?_
          rw [nI_iZ_add]
          refine zL_law_624 (by assumption) (fun h624 => ?_) (fun h624 => ?_)
          · refine SET0 (fun q => ?_)
            have := (hstep.mp q).2.1
            omega
          · refine qL_law_627 ?_
            refine qL_law_628 ?_
            refine qL_law_630 ?_
            first | refine nL_law_631 ?_ | refine qL_law_631 ?_
            refine qL_law_632 ?_
            first | refine nL_law_634 ?_ | refine qL_law_634 ?_
            first | refine fL_law_635 (by assumption) (by omega) (by decide) ?_ | refine nL_law_635 (by assumption) (by omega) (by decide) ?_
            refine qL_law_636 ?_
            rw [hE i hil]
            refine qL_law_638 ?_
            rw [nI_iZ_add]
            refine qL_law_639 ?_
            rw [show nI 1000 = iZ 1000 from nI_Z _]
            refine zL_law_642 (by assumption) (by assumption) (fun h642 => ?_) (fun h642 => ?_)
            · refine SET0 (fun q => ?_)
              have := (hstep.mp q).2.2
              omega
            · refine qL_law_645 ?_
              refine qL_law_646 ?_
              refine qL_law_650 ?_
              exact NX true ⟨fun _ => hstep.mpr ⟨hc, h624, by omega⟩, fun _ => rfl⟩
  refine qL_law_554 ?_
  refine qL_law_556 ?_
  refine qL_law_557 ?_
  refine qL_law_559 ?_
  refine qL_law_560 ?_
  refine qL_law_562 ?_
  refine qL_law_563 ?_
  exact L1 ((lA s a).1 * (lA s a).2.1) 0 true (by omega) ⟨fun _ q hq => absurd hq (Nat.not_lt_zero q), fun _ => rfl⟩
end LRAISE
