/-! the law's acts: an entry set, an array turned over -/
section LSET
variable {G : sG} {d : Nat} {P : sQ} {w : sW} {s : xS} {a : Nat} {f : Nat → Nat} {v : Nat → Int32} {co : Nat → Nat} {se : Nat → Int64} {x y : Int32} {t kd k1 k2 c1 c2 : Nat}
theorem jF.up {X : GV} {f' : Nat → Nat} (hf : jF s f) (hX : okV X) (h1 : f' (12 * a) = X.1) (h2 : f' (12 * a + 1) = X.2.1) (h3 : ∀ q, q < X.1 * X.2.1 → f' (12 * a + 2 + q) = X.2.2 q) (h4 : X.1 ≤ 3) (h5 : X.1 * X.2.1 ≤ 9) (hout : ∀ q, q < 12 * a ∨ 12 * a + 12 ≤ q → f' q = f q) : jF (upS (remS s) a X) f' := by
  refine ⟨hf.1.rem.up hX, fun b hb => ?_⟩
  by_cases hba : b = a
  · subst hba
    have e : lA (upS (remS s) b X) b = X := setAs
    rw [e]
    exact ⟨h1, h2, h3, h4, h5⟩
  · have e : lA (upS (remS s) a X) b = lA s b := if_neg hba
    rw [e]
    obtain ⟨g1, g2, g3, g4, g5⟩ := hf.2 b hb
    have o : ∀ q, 12 * b ≤ q → q < 12 * b + 12 → f' q = f q := fun q q1 q2 => hout q (by omega)
    exact ⟨by rw [o _ (by omega) (by omega)]; exact g1, by rw [o _ (by omega) (by omega)]; exact g2, fun q hq => by rw [o _ (by omega) (by omega)]; exact g3 q hq, g4, g5⟩
theorem la_set (l13 l14 l15 l16 l17 l18 l19 l20 l21 l22 l23 l24 l25 : Option Value) {k : Nat} (h : jW G w s f v co se) (hf : jF s f) (ha : a < 3) (ht : t < 18) (hk : k < (lA s a).1 * (lA s a).2.1) (hk1 : c1 ≤ k1) (hk2 : c2 ≤ k2) (K : ∀ w2 s2 f2 v2 co2 se2 j1 j2 (l12 l13 l14 l15 l16 l17 l18 l19 l20 l21 l22 l23 l24 l25 : Option Value), jW G w2 s2 f2 v2 co2 se2 → jF s2 f2 → c1 ≤ j1 → c2 ≤ j2 → wp G (d + 17) m_law P 1775 [some (.ref (gb G)), some (.ref (gB G)), some (.ref (gB G + 92)), some (.ref (gB G + 93)), some (.ref (gB G + 94)), some (.ref (gB G + 95)), some (.int (nI t)), some (.int (x)), some (.int (y)), some (.int (nI kd)), some (.int (nI a)), some (.int (nI (12 * a))), l12, l13, l14, l15, l16, l17, l18, l19, l20, l21, l22, l23, l24, l25] [] w2 (j1, j2)) : wp G (d + 17) m_law P 457 [some (.ref (gb G)), some (.ref (gB G)), some (.ref (gB G + 92)), some (.ref (gB G + 93)), some (.ref (gB G + 94)), some (.ref (gB G + 95)), some (.int (nI t)), some (.int (x)), some (.int (y)), some (.int (nI kd)), some (.int (nI a)), some (.int (nI (12 * a))), some (.int (nI k)), l13, l14, l15, l16, l17, l18, l19, l20, l21, l22, l23, l24, l25] [] w (k1, k2) := by
  have hlv := h.lV hf ha
  obtain ⟨hp, _, hR, hC, hE, hd, h9, h999⟩ := id hlv
  have hR3 := (hf.2 a ha).2.2.2.1
  have d3 := hd.2.2.1
  have d4 := hd.2.2.2.1
  have hkC := dvlt hk
  have hkm : k % (lA s a).2.1 < (lA s a).2.1 := Nat.mod_lt _ (by omega)
  have KV : ∀ u, u < 1000 → wp G (d + 17) m_law P 482 [some (.ref (gb G)), some (.ref (gB G)), some (.ref (gB G + 92)), some (.ref (gB G + 93)), some (.ref (gB G + 94)), some (.ref (gB G + 95)), some (.int (nI t)), some (.int (x)), some (.int (y)), some (.int (nI kd)), some (.int (nI a)), some (.int (nI (12 * a))), some (.int (nI k)), l13, l14, l15, l16, l17, l18, l19, l20, l21, l22, l23, l24, l25] [.int (nI u)] w (k1, k2) := by
    intro u hu
    have e1 := e_set hf.1 ha hkC hkm hu
    rw [mdv] at e1
    refine qL_law_482 ?_
    refine qL_law_484 ?_
    refine qL_law_485 ?_
    refine qL_law_487 ?_
    refine qL_law_489 ?_
    refine qL_law_490 ?_
    refine qL_law_492 ?_
    first | refine nL_law_493 ?_ | refine qL_law_493 ?_
    first | refine fL_law_494 (by assumption) (by omega) (by decide) ?_ | refine nL_law_494 (by assumption) (by omega) (by decide) ?_
    rw [hC]
    refine nL_law_495 (by omega) (by omega) (by omega) ?_
    refine qL_law_496 ?_
    refine qL_law_498 ?_
    refine qL_law_499 ?_
    refine qL_law_501 ?_
    first | refine nL_law_502 ?_ | refine qL_law_502 ?_
    first | refine fL_law_503 (by assumption) (by omega) (by decide) ?_ | refine nL_law_503 (by assumption) (by omega) (by decide) ?_
    rw [hC]
    refine nL_law_504 (by omega) (by omega) (by omega) ?_
    refine qL_law_505 ?_
    refine qL_law_507 (jW.ob h) (Nat.le_of_ble_eq_true rfl) (t_setE h.1 hf.1 (fun w3 hF3 hc3 => ?_))
    rw [e1] at hc3
    rw [show (spSet s (nI a) (nI (k / (lA s a).2.1)) (nI (k % (lA s a).2.1)) (nI u)).1 = nI ((lA s a).2.2 k) by rw [e1]]
    have h3 := h.cl hF3 hc3
    have hp3 := h3.2.1
    have hx := h999 k hk
    refine qL_law_510 ?_
    refine qL_law_511 ?_
    refine qL_law_513 ?_
    first | refine nL_law_514 ?_ | refine qL_law_514 ?_
    refine qL_law_515 ?_
    first | refine nL_law_517 ?_ | refine qL_law_517 ?_
    first | refine fL_law_518 (by assumption) (by omega) (by decide) ?_ | refine nL_law_518 (by assumption) (by omega) (by decide) ?_
    rw [hE k hk]
    refine qL_law_519 (fun h519 => ?_) (fun h519 => absurd rfl h519)
    refine qL_law_524 ?_
    refine qL_law_525 ?_
    refine qL_law_527 ?_
    first | refine nL_law_528 ?_ | refine qL_law_528 ?_
    refine qL_law_529 ?_
    first | refine nL_law_531 ?_ | refine qL_law_531 ?_
    refine qL_law_532 ?_
    refine fL_law_534 (by assumption) (by omega) (by decide) ?_
    generalize hw4 : s_up w3 (gB G + 92) _ = w4
    have hp4 : w4.1 (gB G + 92) = aN G 36 (updN f (12 * a + 2 + k) u) := by rw [← hw4]; exact s_upS
    have h4 := h3.arr (by rw [← hw4]; exact Fr.rf.up rfl) hp4
    have lv4 := hlv.upd (w' := w4) hk (show u ≤ 999 by omega) hp4
    obtain ⟨_, _, m1, m2, m3, _, _, m4⟩ := lv4
    refine qL_law_535 ?_
    refine K w4 _ _ v co se k1 k2 _ _ _ _ _ _ _ _ _ _ _ _ _ _ h4 (hf.up ⟨hd, m4⟩ m1 m2 m3 hR3 h9 (fun q hq => ?_)) hk1 hk2
    show (if q = 12 * a + 2 + k then u else f q) = f q
    rw [if_neg (by omega)]
  refine qL_law_457 ?_
  refine qL_law_459 ?_
  refine qL_law_461 ?_
  refine qL_law_463 ?_
  refine qL_law_464 ?_
  refine qL_law_465 (Nat.le_of_ble_eq_true rfl) (l_low (by decide) (by decide) (fun ρ hρ => ?_))
  refine nL_law_468 (by omega) (fun h468 => ?_) (fun h468 => ?_)
  · refine qL_law_477 ?_
    refine qL_law_479 (Nat.le_of_ble_eq_true rfl) (l_low (by decide) (by decide) (fun u hu => ?_))
    exact KV u (by omega)
  · refine qL_law_471 ?_
    refine qL_law_474 ?_
    refine qL_law_479 (Nat.le_of_ble_eq_true rfl) (l_low (by decide) (by decide) (fun u hu => ?_))
    exact KV u (by omega)
theorem la_turn (l12 l13 l14 l15 l16 l17 l18 l19 l20 l21 l22 l23 l24 l25 : Option Value) (h : jW G w s f v co se) (hf : jF s f) (ha : a < 3) (ht : t < 18) (hk1 : c1 + 1 ≤ k1) (hk2 : c2 + 9 ≤ k2) (K : ∀ w2 s2 f2 v2 co2 se2 j1 j2 (l12 l13 l14 l15 l16 l17 l18 l19 l20 l21 l22 l23 l24 l25 : Option Value), jW G w2 s2 f2 v2 co2 se2 → jF s2 f2 → c1 ≤ j1 → c2 ≤ j2 → wp G (d + 17) m_law P 1775 [some (.ref (gb G)), some (.ref (gB G)), some (.ref (gB G + 92)), some (.ref (gB G + 93)), some (.ref (gB G + 94)), some (.ref (gB G + 95)), some (.int (nI t)), some (.int (x)), some (.int (y)), some (.int (nI kd)), some (.int (nI a)), some (.int (nI (12 * a))), l12, l13, l14, l15, l16, l17, l18, l19, l20, l21, l22, l23, l24, l25] [] w2 (j1, j2)) : wp G (d + 17) m_law P 1147 [some (.ref (gb G)), some (.ref (gB G)), some (.ref (gB G + 92)), some (.ref (gB G + 93)), some (.ref (gB G + 94)), some (.ref (gB G + 95)), some (.int (nI t)), some (.int (x)), some (.int (y)), some (.int (nI kd)), some (.int (nI a)), some (.int (nI (12 * a))), l12, l13, l14, l15, l16, l17, l18, l19, l20, l21, l22, l23, l24, l25] [] w (k1, k2) := by
  have hlv := h.lV hf ha
  obtain ⟨hp, _, hR, hC, hE, hd, h9, h999⟩ := id hlv
  have hR3 := (hf.2 a ha).2.2.2.1
  have d3 := hd.2.2.1
  have d4 := hd.2.2.2.1
  have hw := h.2.2.2.2.2
  refine qL_law_1147 ?_
  refine qL_law_1148 ?_
  refine qL_law_1150 ?_
  first | refine nL_law_1151 ?_ | refine qL_law_1151 ?_
  first | refine fL_law_1152 (by assumption) (by omega) (by decide) ?_ | refine nL_law_1152 (by assumption) (by omega) (by decide) ?_
  refine qL_law_1153 ?_
  rw [hC]
  refine nL_law_1154 (by omega) (by omega) (fun h1154 => ?_) (fun h1154 => ?_)
  · exact K w s f v co se k1 k2 _ _ _ _ _ _ _ _ _ _ _ _ _ _ h hf (by omega) (by omega)
  · refine qL_law_1157 ?_
    refine qL_law_1159 ?_
    refine bL_law_1160 (κ1 := (1, 9)) (κ2 := (k1 - 1, k2 - 9)) (Nat.le_of_ble_eq_true rfl) ⟨show 1 + (k1 - 1) ≤ k1 by omega, show 9 + (k2 - 9) ≤ k2 by omega⟩ (l_turn hlv (by omega) (fun w1 f1 z1 o1 lv1 o2 => ?_))
    have h1 := h.alloc z1 o1 lv1.1
    obtain ⟨_, _, m1, m2, m3, m0, m5, m4⟩ := id lv1
    have e1 := e_turn (s := s) ha
    refine qL_law_1163 ?_
    refine qL_law_1164 ?_
    refine qL_law_1166 (jW.ob h1) (Nat.le_of_ble_eq_true rfl) (t_turn h1.1 hf.1 (fun w3 hF3 hc3 => ?_))
    rw [e1] at hc3
    rw [show (spTurn s (nI a)).1 = nI (lA s a).2.1 by rw [e1]]
    have h3 := h1.cl hF3 hc3
    have hp3 := h3.2.1
    refine qL_law_1169 ?_
    refine qL_law_1170 ?_
    first | refine fL_law_1172 (by assumption) (by omega) (by decide) ?_ | refine nL_law_1172 (by assumption) (by omega) (by decide) ?_
    rw [m1]
    refine qL_law_1173 (fun h1173 => ?_) (fun h1173 => absurd rfl h1173)
    exact K w3 _ f1 v co se _ _ _ _ _ _ _ _ _ _ _ _ _ _ _ _ h3 (hf.up ⟨m0, m4⟩ m1 m2 m3 (show (lA s a).2.1 ≤ 3 by omega) m5 o2) (by omega) (by omega)
end LSET
