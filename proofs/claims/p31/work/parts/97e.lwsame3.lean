/-! the law's look at one array: covers -/
theorem and1_c (x : Int64) : x &&& 1 = if bitL x 0 = true then 1 else 0 := by
  apply Int64.toBitVec_inj.mp
  apply BitVec.eq_of_getLsbD_eq
  intro i hi
  show bitL (x &&& 1) i = bitL _ i
  rw [bitL_and, bitL_1 i hi]
  cases h : bitL x 0 with
  | false =>
    rw [if_neg (by decide), bitL_0]
    by_cases hi0 : i = 0
    · subst hi0; simp [h]
    · simp [hi0]
  | true =>
    rw [if_pos rfl, bitL_1 i hi]
    by_cases hi0 : i = 0
    · subst hi0; simp [h]
    · simp [hi0]
theorem and1_1 (x : Int64) : lg_cmp (x &&& 1) 1 = 0 ↔ bitL x 0 = true := by
  rw [and1_c]
  cases h : bitL x 0 with
  | false => decide
  | true => decide
theorem and1_i (x : Int64) : (x &&& 1).toInt32 = nI (bN (bitL x 0)) := by
  rw [and1_c]
  cases h : bitL x 0 with
  | false => decide
  | true => decide
theorem ffOK2 : ffOK := fun R C a hd _ => by
  have hf := unt_full (E := a) hd
  generalize untN R C a = U at *
  have h1 : 1 ≤ R * C := Nat.mul_pos hd.1 hd.2.2.1
  generalize R * C = n at *
  have L : ∀ m, 1 ≤ m → ∃ l, (ffN U n m).2 = some l := by
    intro m
    induction m with
    | zero => intro h; omega
    | succ m ih =>
      intro _
      simp only [ffN]
      split
      · next h => exact Option.isSome_iff_exists.mp h
      · next h =>
        by_cases hm : m = 0
        · subst hm
          exact absurd hf h
        · exact ih (by omega)
  exact L n h1
section SM3
variable {G : sG} {d : Nat} {P : sQ} {w : sW} {s : xS} {a : Nat} {f : Nat → Nat} {v : Nat → Int32} {co : Nat → Nat} {se : Nat → Int64} {x : Int32} {κ : Nat × Nat}
theorem jW.sets {w' : sW} {v' : Nat → Int32} {se' : Nat → Int64} (h : jW G w s f v co se) (hF : Fr w w' (fun q => q = gB G + 93 ∨ q = gB G + 95)) (hv : w'.1 (gB G + 93) = aI G 4 v') (hs : w'.1 (gB G + 95) = aJ G 8 se') : jW G w' s f v' co se' := by
  obtain ⟨h1, h2, h3, h4, h5, h6⟩ := h
  exact ⟨h1.fr hF (fun q _ _ => by omega), by rw [hF.2 _ (by omega)]; exact h2, hv, by rw [hF.2 _ (by omega)]; exact h4, hs, by rw [hF.1]; exact h6⟩
theorem jW.cols {w' : sW} {co' : Nat → Nat} (h : jW G w s f v co se) (hF : Fr w w' (fun q => q = gB G + 94)) (hc : w'.1 (gB G + 94) = aN G 9 co') : jW G w' s f v co' se := by
  obtain ⟨h1, h2, h3, h4, h5, h6⟩ := h
  exact ⟨h1.fr hF (fun q _ _ => by omega), by rw [hF.2 _ (by omega)]; exact h2, by rw [hF.2 _ (by omega)]; exact h3, hc, by rw [hF.2 _ (by omega)]; exact h5, by rw [hF.1]; exact h6⟩
theorem jW.arr {w' : sW} {f' : Nat → Nat} (h : jW G w s f v co se) (hF : Fr w w' (fun q => q = gB G + 92)) (hp : w'.1 (gB G + 92) = aN G 36 f') : jW G w' s f' v co se := by
  obtain ⟨h1, h2, h3, h4, h5, h6⟩ := h
  exact ⟨h1.fr hF (fun q _ _ => by omega), hp, by rw [hF.2 _ (by omega)]; exact h3, by rw [hF.2 _ (by omega)]; exact h4, by rw [hF.2 _ (by omega)]; exact h5, by rw [hF.1]; exact h6⟩
theorem sm4 (l9 l10 l11 l12 l13 l14 l15 l16 l17 l18 l19 l20 l21 l22 l23 l24 l25 l26 l27 l28 l29 l30 : Option Value) (h : jW G w s f v co se) (hf : jF s f) (ha : a < 3) (K : ∀ w2 v2 co2 se2 (l16 l17 l18 l19 : Option Value), jW G w2 s f v2 co2 se2 → wp G (d + 16) mL_same P 711 [some (.ref (gB G)), some (.int (nI a)), some (.int x), some (.ref (gB G + 92)), some (.ref (gB G + 93)), some (.ref (gB G + 94)), some (.ref (gB G + 95)), some (.int (nI (12 * a))), some (.int (nI ((lA s a).1 * (lA s a).2.1))), l9, l10, l11, l12, l13, l14, l15, l16, l17, l18, l19, l20, l21, l22, l23, l24, l25, l26, l27, l28, l29, l30] [] w2 κ) : wp G (d + 16) mL_same P 523 [some (.ref (gB G)), some (.int (nI a)), some (.int x), some (.ref (gB G + 92)), some (.ref (gB G + 93)), some (.ref (gB G + 94)), some (.ref (gB G + 95)), some (.int (nI (12 * a))), some (.int (nI ((lA s a).1 * (lA s a).2.1))), l9, l10, l11, l12, l13, l14, l15, l16, l17, l18, l19, l20, l21, l22, l23, l24, l25, l26, l27, l28, l29, l30] [] w κ := by
  have hlv := h.lV hf ha
  obtain ⟨_, _, hR, hC, hE, hd, h9, h999⟩ := id hlv
  have hR3 := (hf.2 a ha).2.2.2.1
  have p9 : 2 ^ ((lA s a).1 * (lA s a).2.1) ≤ 512 := Nat.pow_le_pow_right (n := 2) (by decide) h9
  have p1 : 1 * 2 ^ ((lA s a).1 * (lA s a).2.1) ≤ 512 := by rw [Nat.one_mul]; exact p9
  have p3 : 1 <<< ((lA s a).1 * (lA s a).2.1) = 2 ^ ((lA s a).1 * (lA s a).2.1) := Nat.one_shiftLeft _
  have p0 : 0 < 2 ^ ((lA s a).1 * (lA s a).2.1) := Nat.two_pow_pos _
  refine qL_same_523 ?_
  refine qL_same_524 ?_
  refine qL_same_525 ?_
  refine qL_same_527 ?_
  refine qL_same_529 (Nat.le_of_ble_eq_true rfl) (l_sets hlv hR3 h.2.2.1 h.2.2.2.2.1 (by omega) (by omega) (by omega) (fun w1 v1 se1 hF1 hv1 hs1 hb1 => ?_))
  have h1 := h.sets hF1 hv1 hs1
  refine qL_same_532 ?_
  refine qL_same_534 ?_
  refine qL_same_535 ?_
  refine qL_same_536 ?_
  refine qL_same_538 ?_
  refine qL_same_540 (Nat.le_of_ble_eq_true rfl) (l_colors (h1.lV hf ha) hs1 hb1 h1.2.2.2.1 (by omega) (by omega) (fun w2 co2 hF2 hc2 hco => ?_))
  have h2 := h1.cols hF2 hc2
  have hb : ∀ S, S < 2 ^ ((lA s a).1 * (lA s a).2.1) → bitL (se1 (S / 64)) (S % 64) = !untN (lA s a).1 (lA s a).2.1 (lA s a).2.2 S := fun S hS => by
    rw [hb1 S (by omega)]
    simp [hS]
  have hU1 := cnB_le (untN (lA s a).1 (lA s a).2.1 (lA s a).2.2) (2 ^ ((lA s a).1 * (lA s a).2.1))
  refine qL_same_543 ?_
  refine qL_same_545 ?_
  refine qL_same_546 ?_
  refine qL_same_548 ?_
  refine qL_same_549 ?_
  -- the first cover row
  have LC : ∀ m k w3, k + m = (lA s a).1 * (lA s a).2.1 → jW G w3 s f v1 co2 se1 → wp G (d + 16) mL_same P 607 [some (.ref (gB G)), some (.int (nI a)), some (.int x), some (.ref (gB G + 92)), some (.ref (gB G + 93)), some (.ref (gB G + 94)), some (.ref (gB G + 95)), some (.int (nI (12 * a))), some (.int (nI ((lA s a).1 * (lA s a).2.1))), l9, l10, l11, l12, l13, l14, l15, some (.int (nI (2 ^ ((lA s a).1 * (lA s a).2.1) - cnB (untN (lA s a).1 (lA s a).2.1 (lA s a).2.2) (2 ^ ((lA s a).1 * (lA s a).2.1))))), some (.int (nI (ffN (untN (lA s a).1 (lA s a).2.1 (lA s a).2.2) ((lA s a).1 * (lA s a).2.1) ((lA s a).1 * (lA s a).2.1)).1)), some (.int (nI (grS (untN (lA s a).1 (lA s a).2.1 (lA s a).2.2) (2 ^ ((lA s a).1 * (lA s a).2.1))))), some (.int (nI k)), l20, l21, l22, l23, l24, l25, l26, l27, l28, l29, l30] [] w3 κ := by
    intro m
    induction m with
    | zero =>
      intro k w3 hk h3
      have hs3 := h3.2.2.2.2.1
      refine qL_same_607 ?_
      refine qL_same_609 ?_
      refine nL_same_611 (by omega) (by omega) (fun h611 => ?_) (fun h611 => by exfalso; omega)
      refine qL_same_637 ?_
      refine qL_same_638 ?_
      refine qL_same_639 ?_
      refine qL_same_640 ?_
      refine qL_same_641 ?_
      refine nL_same_643 (by omega) (by omega) ?_
      rw [p3]
      refine qL_same_644 (Nat.le_of_ble_eq_true rfl) (l_low p0 (by omega) (fun S hS => ?_))
      obtain ⟨c0, c1, c2⟩ := e_byCovers (s := s) ha
      refine qL_same_647 ?_
      refine qL_same_649 ?_
      refine qL_same_650 ?_
      refine qL_same_651 ?_
      refine qL_same_653 (jW.ob h3) (Nat.le_of_ble_eq_true rfl) (t_canTouch h3.1 hf.1 (fun w4 hF4 hc4 => ?_))
      have h4 := h3.cl hF4 hc4
      have hs4 := h4.2.2.2.2.1
      rw [e_canTouch hf.1 ha hS]
      refine qL_same_656 ?_
      refine qL_same_658 ?_
      refine qL_same_660 ?_
      refine nL_same_662 (by omega) (by omega) (by omega) ?_
      refine nL_same_663 (by assumption) (by omega) (by decide) ?_
      refine qL_same_664 ?_
      refine qL_same_666 ?_
      refine nL_same_668 (by omega) (by omega) (by omega) ?_
      refine qL_same_669 ?_
      refine qL_same_670 ?_
      refine qL_same_671 ?_
      refine qL_same_672 ?_
      rw [and1_i, bitL_shr (by omega), Nat.zero_add, hb S hS]
      refine qL_same_673 (fun h673 => absurd rfl h673) (fun h673 => ?_)
      refine qL_same_676 ?_
      refine qL_same_677 ?_
      refine qL_same_678 ?_
      refine qL_same_679 (jW.ob h4) (Nat.le_of_ble_eq_true rfl) (t_byCovers h4.1 hf.1 (fun w5 hF5 hc5 => ?_))
      have h5 := h4.cl hF5 hc5
      rw [c0]
      refine qL_same_682 ?_
      refine qL_same_684 (fun h684 => absurd rfl h684) (fun h684 => ?_)
      refine qL_same_687 ?_
      refine qL_same_688 ?_
      refine qL_same_689 ?_
      refine qL_same_690 (jW.ob h5) (Nat.le_of_ble_eq_true rfl) (t_byCovers h5.1 hf.1 (fun w6 hF6 hc6 => ?_))
      have h6 := h5.cl hF6 hc6
      rw [c1]
      refine qL_same_693 ?_
      refine qL_same_695 (fun h695 => absurd rfl h695) (fun h695 => ?_)
      refine qL_same_698 ?_
      refine qL_same_699 ?_
      refine qL_same_700 ?_
      refine qL_same_701 (jW.ob h6) (Nat.le_of_ble_eq_true rfl) (t_byCovers h6.1 hf.1 (fun w7 hF7 hc7 => ?_))
      have h7 := h6.cl hF7 hc7
      rw [c2]
      refine qL_same_704 ?_
      refine qL_same_706 (fun h706 => ?_) (fun h706 => absurd rfl h706)
      exact K w7 v1 co2 se1 _ _ _ _ h7
    | succ m ih =>
      intro k w3 hk h3
      have hkl : k < (lA s a).1 * (lA s a).2.1 := by omega
      refine qL_same_607 ?_
      refine qL_same_609 ?_
      refine nL_same_611 (by omega) (by omega) (fun h611 => by exfalso; omega) (fun h611 => ?_)
      refine qL_same_614 ?_
      refine qL_same_615 ?_
      refine qL_same_616 ?_
      refine qL_same_618 (jW.ob h3) (Nat.le_of_ble_eq_true rfl) (t_cover ffOK2 h3.1 hf.1 (fun w4 hF4 hc4 => ?_))
      have h4 := h3.cl hF4 hc4
      have hc4 := h4.2.2.2.1
      rw [e_cover hf.1 ha hkl]
      refine qL_same_621 ?_
      refine qL_same_623 ?_
      first | refine fL_same_625 (by assumption) (by omega) (by decide) ?_ | refine nL_same_625 (by assumption) (by omega) (by decide) ?_
      rw [hco k hkl]
      refine qL_same_626 (fun h626 => ?_) (fun h626 => absurd rfl h626)
      first | refine nL_same_631 ?_ | refine qL_same_631 ?_
      refine qL_same_634 ?_
      exact ih (k + 1) w4 (by omega) h4
  have LG : ∀ m S, S + m = 2 ^ ((lA s a).1 * (lA s a).2.1) → wp G (d + 16) mL_same P 551 [some (.ref (gB G)), some (.int (nI a)), some (.int x), some (.ref (gB G + 92)), some (.ref (gB G + 93)), some (.ref (gB G + 94)), some (.ref (gB G + 95)), some (.int (nI (12 * a))), some (.int (nI ((lA s a).1 * (lA s a).2.1))), l9, l10, l11, l12, l13, l14, l15, some (.int (nI (2 ^ ((lA s a).1 * (lA s a).2.1) - cnB (untN (lA s a).1 (lA s a).2.1 (lA s a).2.2) (2 ^ ((lA s a).1 * (lA s a).2.1))))), some (.int (nI (ffN (untN (lA s a).1 (lA s a).2.1 (lA s a).2.2) ((lA s a).1 * (lA s a).2.1) ((lA s a).1 * (lA s a).2.1)).1)), some (.int (nI (grS (untN (lA s a).1 (lA s a).2.1 (lA s a).2.2) S))), some (.int (nI S)), l20, l21, l22, l23, l24, l25, l26, l27, l28, l29, l30] [] w2 κ := by
    intro m
    induction m with
    | zero =>
      intro S hS
      refine qL_same_551 ?_
      refine qL_same_553 ?_
      refine qL_same_554 ?_
      refine nL_same_556 (by omega) (by omega) ?_
      rw [p3]
      refine nL_same_557 (by omega) (by omega) (fun h557 => ?_) (fun h557 => by exfalso; omega)
      refine qL_same_604 ?_
      refine qL_same_605 ?_
      rw [show S = 2 ^ ((lA s a).1 * (lA s a).2.1) by omega]
      exact LC ((lA s a).1 * (lA s a).2.1) 0 w2 (by omega) h2
    | succ m ih =>
      intro S hS
      have hs2 := h2.2.2.2.2.1
      have g1 := grS_le (U := untN (lA s a).1 (lA s a).2.1 (lA s a).2.2) S
      have g2 := bcN_le S
      have hn := ih (S + 1) (by omega)
      simp only [grS] at hn
      refine qL_same_551 ?_
      refine qL_same_553 ?_
      refine qL_same_554 ?_
      refine nL_same_556 (by omega) (by omega) ?_
      rw [p3]
      refine nL_same_557 (by omega) (by omega) (fun h557 => by exfalso; omega) (fun h557 => ?_)
      refine qL_same_560 ?_
      refine qL_same_562 ?_
      refine qL_same_564 ?_
      refine nL_same_566 (by omega) (by omega) (by omega) ?_
      refine nL_same_567 (by assumption) (by omega) (by decide) ?_
      refine qL_same_568 ?_
      refine qL_same_570 ?_
      refine nL_same_572 (by omega) (by omega) (by omega) ?_
      refine qL_same_573 ?_
      refine qL_same_574 ?_
      refine qL_same_575 ?_
      refine qL_same_576 ?_
      refine qL_same_577 ?_
      refine qL_same_578 (fun h578 => ?_) (fun h578 => ?_)
      · have hU : untN (lA s a).1 (lA s a).2.1 (lA s a).2.2 S = true := by
          rw [and1_1, bitL_shr (by omega), Nat.zero_add, hb S (by omega)] at h578
          cases hh : untN (lA s a).1 (lA s a).2.1 (lA s a).2.2 S with
          | true => rfl
          | false => rw [hh] at h578; exact absurd rfl h578
        rw [if_neg (by rw [hU]; simp)] at hn
        first | refine nL_same_598 ?_ | refine qL_same_598 ?_
        refine qL_same_601 ?_
        exact hn
      · have hU : untN (lA s a).1 (lA s a).2.1 (lA s a).2.2 S = false := by
          rw [and1_1, bitL_shr (by omega), Nat.zero_add, hb S (by omega)] at h578
          cases hh : untN (lA s a).1 (lA s a).2.1 (lA s a).2.2 S with
          | false => rfl
          | true => rw [hh] at h578; exact absurd h578 (by decide)
        refine qL_same_581 ?_
        refine qL_same_583 (Nat.le_of_ble_eq_true rfl) (l_bits (by omega) ?_)
        refine qL_same_586 ?_
        refine nL_same_588 (by omega) (by omega) (fun h588 => ?_) (fun h588 => ?_)
        · rw [if_neg (by omega)] at hn
          first | refine nL_same_598 ?_ | refine qL_same_598 ?_
          refine qL_same_601 ?_
          exact hn
        · rw [if_pos ⟨h588, hU⟩] at hn
          refine qL_same_591 ?_
          refine qL_same_593 (Nat.le_of_ble_eq_true rfl) (l_bits (by omega) ?_)
          refine qL_same_596 ?_
          first | refine nL_same_598 ?_ | refine qL_same_598 ?_
          refine qL_same_601 ?_
          exact hn
  exact LG (2 ^ ((lA s a).1 * (lA s a).2.1)) 0 (by omega)
end SM3
