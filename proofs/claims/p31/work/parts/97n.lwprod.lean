/-! the law's acts: products -/
section LPROD
variable {G : sG} {d : Nat} {P : sQ} {w : sW} {s : xS} {a : Nat} {f : Nat → Nat} {v : Nat → Int32} {co : Nat → Nat} {se : Nat → Int64} {x y : Int32} {t kd k1 k2 c1 c2 : Nat}
theorem jW.oth {w' : sW} (h : jW G w s f v co se) (hF : Fr w w' (fun q => gB G + 96 ≤ q)) : jW G w' s f v co se := by
  obtain ⟨h1, h2, h3, h4, h5, h6⟩ := h
  exact ⟨h1.fr hF (fun q _ _ => by omega), by rw [hF.2 _ (by omega)]; exact h2, by rw [hF.2 _ (by omega)]; exact h3, by rw [hF.2 _ (by omega)]; exact h4, by rw [hF.2 _ (by omega)]; exact h5, by rw [hF.1]; exact h6⟩
theorem jW.new {e : va_E} (h : jW G w s f v co se) : jW G (s_new w (gB G + w.2) e) s f v co se := by
  have hw := h.2.2.2.2.2
  refine h.alloc rfl (fun q _ q2 => ?_) ?_
  · simp only [s_new]
    rw [if_neg q2]
  · simp only [s_new]
    rw [if_neg (by omega)]
    exact h.2.1
theorem la_prod (l12 l13 l14 l15 l16 l17 l18 l19 l20 l21 l22 l23 l24 l25 : Option Value) (h : jW G w s f v co se) (hf : jF s f) (ha : a < 3) (ht : t < 18) (hk1 : c1 + 1 ≤ k1) (hk2 : c2 + 9 ≤ k2) (K0 : ∀ w2 j1 j2 (l12 l13 l14 l15 l16 l17 l18 l19 l20 l21 l22 l23 l24 l25 : Option Value), jW G w2 s f v co se → c1 ≤ j1 → c2 ≤ j2 → wp G (d + 17) m_law P 2118 [some (.ref (gb G)), some (.ref (gB G)), some (.ref (gB G + 92)), some (.ref (gB G + 93)), some (.ref (gB G + 94)), some (.ref (gB G + 95)), some (.int (nI t)), some (.int (x)), some (.int (y)), some (.int (nI kd)), some (.int (nI a)), some (.int (nI (12 * a))), l12, l13, l14, l15, l16, l17, l18, l19, l20, l21, l22, l23, l24, l25] [] w2 (j1, j2)) (K : ∀ w2 s2 f2 v2 co2 se2 j1 j2 (l12 l13 l14 l15 l16 l17 l18 l19 l20 l21 l22 l23 l24 l25 : Option Value), jW G w2 s2 f2 v2 co2 se2 → jF s2 f2 → c1 ≤ j1 → c2 ≤ j2 → wp G (d + 17) m_law P 1775 [some (.ref (gb G)), some (.ref (gB G)), some (.ref (gB G + 92)), some (.ref (gB G + 93)), some (.ref (gB G + 94)), some (.ref (gB G + 95)), some (.int (nI t)), some (.int (x)), some (.int (y)), some (.int (nI kd)), some (.int (nI a)), some (.int (nI (12 * a))), l12, l13, l14, l15, l16, l17, l18, l19, l20, l21, l22, l23, l24, l25] [] w2 (j1, j2)) : wp G (d + 17) m_law P 1185 [some (.ref (gb G)), some (.ref (gB G)), some (.ref (gB G + 92)), some (.ref (gB G + 93)), some (.ref (gB G + 94)), some (.ref (gB G + 95)), some (.int (nI t)), some (.int (x)), some (.int (y)), some (.int (nI kd)), some (.int (nI a)), some (.int (nI (12 * a))), l12, l13, l14, l15, l16, l17, l18, l19, l20, l21, l22, l23, l24, l25] [] w (k1, k2) := by
  have hw96 := h.2.2.2.2.2
  obtain ⟨k1, rfl⟩ : ∃ j, k1 = j + 1 := ⟨k1 - 1, by omega⟩
  obtain ⟨k2, rfl⟩ : ∃ j, k2 = j + 9 := ⟨k2 - 9, by omega⟩
  refine qL_law_1185 ?_
  refine qL_law_1187 ?_
  refine qL_law_1188 (Nat.le_of_ble_eq_true rfl) (l_low (by decide) (by decide) (fun b hb => ?_))
  refine qL_law_1191 ?_
  refine qL_law_1193 ?_
  refine qL_law_1195 ?_
  refine qL_law_1196 ?_
  refine qL_law_1197 ?_
  refine qL_law_1198 (Nat.le_of_ble_eq_true rfl) (l_low (by decide) (by decide) (fun to hto => ?_))
  refine qL_law_1201 ?_
  refine qL_law_1203 ?_
  refine qL_law_1205 (by decide) ?_
  have h1 := h.new (e := aI G 9 (fun _ => 0))
  have t1 : (s_new w (gB G + w.2) (aI G 9 (fun _ => 0))).1 (gB G + w.2) = aN G 9 (fun _ => 0) := by
    simp only [s_new, if_true]
    rfl
  obtain ⟨T, hT⟩ : ∃ T, T = gB G + w.2 := ⟨_, rfl⟩
  rw [← hT] at t1 ⊢
  have hT96 : gB G + 96 ≤ T := by omega
  rw [← hT] at h1
  generalize s_new w T (aI G 9 (fun _ => 0)) = w1 at *
  obtain ⟨hp, _, hR, hC, hE, hd, h9, h999⟩ := h1.lV hf ha
  obtain ⟨_, _, bR, bC, bE, bd, b9, b999⟩ := h1.lV hf hb
  have d1 := hd.1
  have d2 := hd.2.1
  have d3 := hd.2.2.1
  have d4 := hd.2.2.2.1
  have g2 := bd.2.1
  have g3 := bd.2.2.1
  have g4 := bd.2.2.2.1
  have hR3 := (hf.2 a ha).2.2.2.1
  have hRC : 1 ≤ (lA s a).1 * (lA s b).2.1 := Nat.mul_pos d1 g3
  have hRC16 : (lA s a).1 * (lA s b).2.1 ≤ 4 * 4 := Nat.mul_le_mul d2 g4
  have ee := e_product (s := s) ha hb hto
  refine qL_law_1207 ?_
  refine qL_law_1209 ?_
  refine qL_law_1210 ?_
  first | refine fL_law_1212 (by assumption) (by omega) (by decide) ?_ | refine nL_law_1212 (by assumption) (by omega) (by decide) ?_
  rw [hR]
  refine qL_law_1213 ?_
  refine qL_law_1215 ?_
  refine qL_law_1216 ?_
  refine qL_law_1218 ?_
  first | refine nL_law_1220 ?_ | refine qL_law_1220 ?_
  refine qL_law_1221 ?_
  first | refine nL_law_1222 ?_ | refine qL_law_1222 ?_
  first | refine fL_law_1223 (by assumption) (by omega) (by decide) ?_ | refine nL_law_1223 (by assumption) (by omega) (by decide) ?_
  rw [bC]
  refine qL_law_1224 ?_
  refine qL_law_1226 ?_
  refine qL_law_1227 ?_
  refine qL_law_1229 ?_
  first | refine nL_law_1230 ?_ | refine qL_law_1230 ?_
  first | refine fL_law_1231 (by assumption) (by omega) (by decide) ?_ | refine nL_law_1231 (by assumption) (by omega) (by decide) ?_
  refine qL_law_1232 ?_
  refine qL_law_1233 ?_
  refine qL_law_1235 ?_
  first | refine nL_law_1237 ?_ | refine qL_law_1237 ?_
  first | refine fL_law_1238 (by assumption) (by omega) (by decide) ?_ | refine nL_law_1238 (by assumption) (by omega) (by decide) ?_
  rw [hC, bR]
  by_cases hfit : (lA s a).2.1 = (lA s b).1
  · rw [if_pos hfit] at ee
    rw [← hfit]
    refine qL_law_1239 (fun h1239 => absurd rfl h1239) (fun h1239 => ?_)
    refine qL_law_1242 ?_
    refine qL_law_1243 ?_
    refine qL_law_1247 ?_
    refine qL_law_1249 ?_
    refine qL_law_1251 ?_
    first | refine nL_law_1253 ?_ | refine qL_law_1253 ?_
    refine qL_law_1254 ?_
    refine nL_law_1256 (by omega) (by omega) (fun h1256 => ?_) (fun h1256 => ?_)
    · refine qL_law_1262 ?_
      refine qL_law_1263 ?_
      refine qL_law_1265 ?_
      refine qL_law_1266 ?_
      -- the answer
      have FIN : ∀ w2 tt (l24 l25 : Option Value), jW G w2 s f v co se → w2.1 T = aN G 9 tt → (∀ i, i < (lA s a).1 * (lA s b).2.1 → tt i = prN (lA s a).2.1 (lA s b).2.1 (lA s a).2.2 (lA s b).2.2 i) → wp G (d + 17) m_law P 1393 [some (.ref (gb G)), some (.ref (gB G)), some (.ref (gB G + 92)), some (.ref (gB G + 93)), some (.ref (gB G + 94)), some (.ref (gB G + 95)), some (.int (nI t)), some (.int (x)), some (.int (y)), some (.int (nI kd)), some (.int (nI a)), some (.int (nI (12 * a))), l12, l13, l14, l15, some (.int (nI b)), some (.int (nI to)), some (.ref (T)), some (.int (nI (lA s a).1)), some (.int (nI (lA s b).2.1)), some (.int (nI 1)), some (.int (nI (mxF (prN (lA s a).2.1 (lA s b).2.1 (lA s a).2.2 (lA s b).2.2) ((lA s a).1 * (lA s b).2.1)))), some (.int (nI ((lA s a).1 * (lA s b).2.1))), l24, l25] [] w2 (k1, k2) := by
        intro w2 tt l24 l25 h2 t2 htt
        have hmx : mxF (prN (lA s a).2.1 (lA s b).2.1 (lA s a).2.2 (lA s b).2.2) ((lA s a).1 * (lA s b).2.1) ≤ 1999 := mxF_le (fun i _ => mnG_le)
        refine qL_law_1393 ?_
        refine qL_law_1394 ?_
        refine qL_law_1396 ?_
        refine qL_law_1398 ?_
        refine qL_law_1400 (jW.ob h2) (Nat.le_of_ble_eq_true rfl) (t_product h2.1 hf.1 (fun w3 hF3 hc3 => ?_))
        by_cases hbig : 999 < mxF (prN (lA s a).2.1 (lA s b).2.1 (lA s a).2.2 (lA s b).2.2) ((lA s a).1 * (lA s b).2.1)
        · rw [if_pos (Or.inr hbig)] at ee
          rw [ee] at hc3
          rw [show (spProduct s (nI a) (nI b) (nI to)).1 = -4 by rw [ee]]
          have h3 := h2.cl hF3 hc3
          refine qL_law_1403 ?_
          refine nL_law_1405 (by omega) (fun h1405 => ?_) (fun h1405 => by exfalso; omega)
          refine qL_law_1413 ?_
          refine qL_law_1415 ?_
          refine nL_law_1418 (by omega) (by omega) (fun h1418 => by exfalso; omega) (fun h1418 => ?_)
          refine qL_law_1421 ?_
          refine qL_law_1423 ?_
          refine qL_law_1431 (fun h1431 => ?_) (fun h1431 => absurd rfl h1431)
          refine qL_law_1436 ?_
          refine nL_law_1438 (by omega) (fun h1438 => by exfalso; omega) (fun h1438 => ?_)
          refine qL_law_1441 ?_
          refine qL_law_1443 ?_
          refine nL_law_1446 (by omega) (by omega) (fun h1446 => ?_) (fun h1446 => by exfalso; omega)
          refine qL_law_1505 ?_
          exact K w3 _ f v co se k1 k2 _ _ _ _ _ _ _ _ _ _ _ _ _ _ h3 hf (by omega) (by omega)
        · rw [if_neg (by rintro (q | q); omega; exact hbig q)] at ee
          rw [ee] at hc3
          rw [show (spProduct s (nI a) (nI b) (nI to)).1 = nI ((lA s a).1 * (lA s b).2.1) by rw [ee]]
          have h3 := h2.cl hF3 hc3
          have hp3 := h3.2.1
          have hX : okV ((lA s a).1, (lA s b).2.1, prN (lA s a).2.1 (lA s b).2.1 (lA s a).2.2 (lA s b).2.2) := ⟨⟨d1, d2, g3, g4, show (lA s a).1 * (lA s b).2.1 ≤ 12 by omega⟩, fun i hi => Nat.le_trans (le_mxF hi) (Nat.le_of_not_lt hbig)⟩
          refine qL_law_1403 ?_
          refine nL_law_1405 (by omega) (fun h1405 => ?_) (fun h1405 => by exfalso; omega)
          refine qL_law_1413 ?_
          refine qL_law_1415 ?_
          refine nL_law_1418 (by omega) (by omega) (fun h1418 => ?_) (fun h1418 => by exfalso; omega)
          refine qL_law_1426 ?_
          refine qL_law_1428 ?_
          first | refine nL_law_1430 ?_ | refine qL_law_1430 ?_
          refine qL_law_1431 (fun h1431 => ?_) (fun h1431 => absurd rfl h1431)
          refine qL_law_1436 ?_
          refine nL_law_1438 (by omega) (fun h1438 => by exfalso; omega) (fun h1438 => ?_)
          refine qL_law_1441 ?_
          refine qL_law_1443 ?_
          refine nL_law_1446 (by omega) (by omega) (fun h1446 => by exfalso; omega) (fun h1446 => ?_)
          refine qL_law_1449 ?_
          refine qL_law_1450 ?_
          refine qL_law_1452 ?_
          first | refine nL_law_1454 ?_ | refine qL_law_1454 ?_
          refine qL_law_1455 ?_
          refine fL_law_1457 (by assumption) (by omega) (by decide) ?_
          generalize hw4 : s_up w3 (gB G + 92) _ = w4
          have hp4 : w4.1 (gB G + 92) = aN G 36 (updN f (12 * to) (lA s a).1) := by rw [← hw4]; exact s_upS
          have h4 := h3.arr (by rw [← hw4]; exact Fr.rf.up rfl) hp4
          refine qL_law_1458 ?_
          refine qL_law_1459 ?_
          refine qL_law_1461 ?_
          first | refine nL_law_1463 ?_ | refine qL_law_1463 ?_
          refine qL_law_1464 ?_
          first | refine nL_law_1465 ?_ | refine qL_law_1465 ?_
          refine qL_law_1466 ?_
          refine fL_law_1468 (by assumption) (by omega) (by decide) ?_
          generalize hw5 : s_up w4 (gB G + 92) _ = w5
          have hp5 : w5.1 (gB G + 92) = aN G 36 (updN (updN f (12 * to) (lA s a).1) (12 * to + 1) (lA s b).2.1) := by rw [← hw5]; exact s_upS
          have h5 := h4.arr (by rw [← hw5]; exact Fr.rf.up rfl) hp5
          have t5 : w5.1 T = aN G 9 tt := by
            rw [← hw5, s_upN (by omega), ← hw4, s_upN (by omega), hF3.2 T (fun z => by
              have := z.2
              omega)]
            exact t2
          have o5 : ∀ q, updN (updN f (12 * to) (lA s a).1) (12 * to + 1) (lA s b).2.1 q = if q = 12 * to + 1 then (lA s b).2.1 else if q = 12 * to then (lA s a).1 else f q := fun _ => rfl
          generalize updN (updN f (12 * to) (lA s a).1) (12 * to + 1) (lA s b).2.1 = f5 at *
          refine qL_law_1469 ?_
          refine qL_law_1470 ?_
          have LW : ∀ m i w6 f6, i + m = (lA s a).1 * (lA s b).2.1 → jW G w6 (upS (remS s) to ((lA s a).1, (lA s b).2.1, prN (lA s a).2.1 (lA s b).2.1 (lA s a).2.2 (lA s b).2.2)) f6 v co se → w6.1 T = aN G 9 tt → (∀ q, q < i → f6 (12 * to + 2 + q) = prN (lA s a).2.1 (lA s b).2.1 (lA s a).2.2 (lA s b).2.2 q) → (∀ q, q < 12 * to + 2 ∨ 12 * to + 12 ≤ q → f6 q = f5 q) → wp G (d + 17) m_law P 1472 [some (.ref (gb G)), some (.ref (gB G)), some (.ref (gB G + 92)), some (.ref (gB G + 93)), some (.ref (gB G + 94)), some (.ref (gB G + 95)), some (.int (nI t)), some (.int (x)), some (.int (y)), some (.int (nI kd)), some (.int (nI a)), some (.int (nI (12 * a))), l12, l13, l14, l15, some (.int (nI b)), some (.int (nI to)), some (.ref (T)), some (.int (nI (lA s a).1)), some (.int (nI (lA s b).2.1)), some (.int (nI 1)), some (.int (nI (mxF (prN (lA s a).2.1 (lA s b).2.1 (lA s a).2.2 (lA s b).2.2) ((lA s a).1 * (lA s b).2.1)))), some (.int (nI i)), l24, l25] [] w6 (k1, k2) := by
            intro m
            induction m with
            | zero =>
              intro i w6 f6 hi h6 t6 q1 q2
              refine qL_law_1472 ?_
              refine qL_law_1474 ?_
              refine qL_law_1476 ?_
              first | refine nL_law_1478 ?_ | refine qL_law_1478 ?_
              refine nL_law_1479 (by omega) (by omega) (fun h1479 => ?_) (fun h1479 => by exfalso; omega)
              refine qL_law_1505 ?_
              refine K w6 _ f6 v co se k1 k2 _ _ _ _ _ _ _ _ _ _ _ _ _ _ h6 (jF.up hf hX ?_ ?_ (fun q hq => q1 q (by
                have hq : q < (lA s a).1 * (lA s b).2.1 := hq
                omega)) hR3 h1256 (fun q hq => ?_)) (by omega) (by omega)
              · rw [q2 _ (by omega), o5, if_neg (by omega), if_pos rfl]
              · rw [q2 _ (by omega), o5, if_pos rfl]
              · rw [q2 _ (by omega), o5, if_neg (by omega), if_neg (by omega)]
            | succ m ih =>
              intro i w6 f6 hi h6 t6 q1 q2
              have hp6 := h6.2.1
              refine qL_law_1472 ?_
              refine qL_law_1474 ?_
              refine qL_law_1476 ?_
              first | refine nL_law_1478 ?_ | refine qL_law_1478 ?_
              refine nL_law_1479 (by omega) (by omega) (fun h1479 => by exfalso; omega) (fun h1479 => ?_)
              refine qL_law_1482 ?_
              refine qL_law_1483 ?_
              refine qL_law_1485 ?_
              first | refine nL_law_1487 ?_ | refine qL_law_1487 ?_
              refine qL_law_1488 ?_
              first | refine nL_law_1489 ?_ | refine qL_law_1489 ?_
              refine qL_law_1490 ?_
              first | refine nL_law_1492 ?_ | refine qL_law_1492 ?_
              refine qL_law_1493 ?_
              refine qL_law_1495 ?_
              refine fL_law_1497 t6 (by omega) (by decide) ?_
              rw [htt i (by omega)]
              refine fL_law_1498 (by assumption) (by omega) (by decide) ?_
              generalize hw7 : s_up w6 (gB G + 92) _ = w7
              have hp7 : w7.1 (gB G + 92) = aN G 36 (updN f6 (12 * to + 2 + i) (prN (lA s a).2.1 (lA s b).2.1 (lA s a).2.2 (lA s b).2.2 i)) := by rw [← hw7]; exact s_upS
              have o7 : ∀ q, updN f6 (12 * to + 2 + i) (prN (lA s a).2.1 (lA s b).2.1 (lA s a).2.2 (lA s b).2.2 i) q = if q = 12 * to + 2 + i then prN (lA s a).2.1 (lA s b).2.1 (lA s a).2.2 (lA s b).2.2 i else f6 q := fun _ => rfl
              first | refine nL_law_1499 ?_ | refine qL_law_1499 ?_
              refine qL_law_1502 ?_
              refine ih (i + 1) w7 _ (by omega) (h6.arr (by rw [← hw7]; exact Fr.rf.up rfl) hp7) (by rw [← hw7, s_upN (by omega)]; exact t6) (fun q hq => ?_) (fun q hq => ?_)
              · rw [o7]
                by_cases hqi : q = i
                · rw [if_pos (by omega), hqi]
                · rw [if_neg (by omega)]
                  exact q1 q (by omega)
              · rw [o7, if_neg (by omega)]
                exact q2 q hq
          exact LW ((lA s a).1 * (lA s b).2.1) 0 w5 f5 (by omega) h5 t5 (fun q hq => absurd hq (Nat.not_lt_zero q)) (fun _ _ => rfl)
      have LP : ∀ m i w2 tt (l24 l25 : Option Value), i + m = (lA s a).1 * (lA s b).2.1 → jW G w2 s f v co se → w2.1 T = aN G 9 tt → (∀ q, q < i → tt q = prN (lA s a).2.1 (lA s b).2.1 (lA s a).2.2 (lA s b).2.2 q) → wp G (d + 17) m_law P 1268 [some (.ref (gb G)), some (.ref (gB G)), some (.ref (gB G + 92)), some (.ref (gB G + 93)), some (.ref (gB G + 94)), some (.ref (gB G + 95)), some (.int (nI t)), some (.int (x)), some (.int (y)), some (.int (nI kd)), some (.int (nI a)), some (.int (nI (12 * a))), l12, l13, l14, l15, some (.int (nI b)), some (.int (nI to)), some (.ref (T)), some (.int (nI (lA s a).1)), some (.int (nI (lA s b).2.1)), some (.int (nI 1)), some (.int (nI (mxF (prN (lA s a).2.1 (lA s b).2.1 (lA s a).2.2 (lA s b).2.2) i))), some (.int (nI i)), l24, l25] [] w2 (k1, k2) := by
        intro m
        induction m with
        | zero =>
          intro i w2 tt l24 l25 hi h2 t2 htt
          refine qL_law_1268 ?_
          refine qL_law_1270 ?_
          refine qL_law_1272 ?_
          first | refine nL_law_1274 ?_ | refine qL_law_1274 ?_
          refine nL_law_1275 (by omega) (by omega) (fun h1275 => ?_) (fun h1275 => by exfalso; omega)
          rw [show i = (lA s a).1 * (lA s b).2.1 by omega] at htt ⊢
          exact FIN w2 tt _ _ h2 t2 htt
        | succ m ih =>
          intro i w2 tt l24 l25 hi h2 t2 htt
          have hil : i < (lA s a).1 * (lA s b).2.1 := by omega
          have i1 := dvlt hil
          have i2 : i % (lA s b).2.1 < (lA s b).2.1 := Nat.mod_lt _ (by omega)
          obtain ⟨F, hFd⟩ : ∃ F : Nat → Nat, F = fun j => (lA s a).2.2 (i / (lA s b).2.1 * (lA s a).2.1 + j) + (lA s b).2.2 (j * (lA s b).2.1 + i % (lA s b).2.1) := ⟨_, rfl⟩
          have hpr : prN (lA s a).2.1 (lA s b).2.1 (lA s a).2.2 (lA s b).2.2 i = mnG F (lA s a).2.1 := by rw [hFd]; rfl
          have hF9 : ∀ j, j < (lA s a).2.1 → F j ≤ 1998 := fun j hj => by
            rw [hFd]
            have e1 := h999 _ (hd.in i1 hj)
            have e2 := b999 _ (bd.in (r := j) (by omega) i2)
            show (lA s a).2.2 (i / (lA s b).2.1 * (lA s a).2.1 + j) + (lA s b).2.2 (j * (lA s b).2.1 + i % (lA s b).2.1) ≤ 1998
            omega
          have hmx : mxF (prN (lA s a).2.1 (lA s b).2.1 (lA s a).2.2 (lA s b).2.2) i ≤ 1999 := mxF_le (fun i _ => mnG_le)
          have LM : ∀ m2 j w3 tt3 (l25 : Option Value), j + m2 = (lA s a).2.1 → jW G w3 s f v co se → w3.1 T = aN G 9 tt3 → (∀ q, q ≠ i → tt3 q = tt q) → ((j = 0 ∧ tt3 i = 9999) ∨ (1 ≤ j ∧ tt3 i = mnG F j)) → wp G (d + 17) m_law P 1294 [some (.ref (gb G)), some (.ref (gB G)), some (.ref (gB G + 92)), some (.ref (gB G + 93)), some (.ref (gB G + 94)), some (.ref (gB G + 95)), some (.int (nI t)), some (.int (x)), some (.int (y)), some (.int (nI kd)), some (.int (nI a)), some (.int (nI (12 * a))), l12, l13, l14, l15, some (.int (nI b)), some (.int (nI to)), some (.ref (T)), some (.int (nI (lA s a).1)), some (.int (nI (lA s b).2.1)), some (.int (nI 1)), some (.int (nI (mxF (prN (lA s a).2.1 (lA s b).2.1 (lA s a).2.2 (lA s b).2.2) i))), some (.int (nI i)), some (.int (nI j)), l25] [] w3 (k1, k2) := by
            intro m2
            induction m2 with
            | zero =>
              intro j w3 tt3 l25 hj h3 t3 q1 q2
              have hp3 := h3.2.1
              have e1 : tt3 i = prN (lA s a).2.1 (lA s b).2.1 (lA s a).2.2 (lA s b).2.2 i := by
                rw [hpr]
                rcases q2 with ⟨q2, _⟩ | ⟨_, q2⟩
                · omega
                · rw [q2, show j = (lA s a).2.1 by omega]
              have e2 : prN (lA s a).2.1 (lA s b).2.1 (lA s a).2.2 (lA s b).2.2 i ≤ 1999 := mnG_le
              have hN := ih (i + 1) w3 tt3 (some (.int (nI j))) l25 (by omega) h3 t3 (fun q hq => by
                by_cases hqi : q = i
                · rw [hqi]; exact e1
                · rw [q1 q hqi]; exact htt q (by omega))
              refine qL_law_1294 ?_
              refine qL_law_1296 ?_
              refine qL_law_1297 ?_
              refine qL_law_1299 ?_
              first | refine nL_law_1300 ?_ | refine qL_law_1300 ?_
              first | refine fL_law_1301 (by assumption) (by omega) (by decide) ?_ | refine nL_law_1301 (by assumption) (by omega) (by decide) ?_
              rw [hC]
              refine nL_law_1302 (by omega) (by omega) (fun h1302 => ?_) (fun h1302 => by exfalso; omega)
              refine qL_law_1365 ?_
              refine qL_law_1367 ?_
              refine fL_law_1369 t3 (by omega) (by decide) ?_
              rw [e1]
              refine qL_law_1370 ?_
              refine nL_law_1372 (by omega) (by omega) (fun h1372 => ?_) (fun h1372 => ?_)
              · rw [show mxF (prN (lA s a).2.1 (lA s b).2.1 (lA s a).2.2 (lA s b).2.2) (i + 1) = mxF (prN (lA s a).2.1 (lA s b).2.1 (lA s a).2.2 (lA s b).2.2) i from Nat.max_eq_left h1372] at hN
                refine qL_law_1383 ?_
                refine qL_law_1385 ?_
                first | refine nL_law_1387 ?_ | refine qL_law_1387 ?_
                refine qL_law_1390 ?_
                exact hN
              · rw [show mxF (prN (lA s a).2.1 (lA s b).2.1 (lA s a).2.2 (lA s b).2.2) (i + 1) = prN (lA s a).2.1 (lA s b).2.1 (lA s a).2.2 (lA s b).2.2 i from Nat.max_eq_right (by omega)] at hN
                refine qL_law_1375 ?_
                refine qL_law_1377 ?_
                refine fL_law_1379 t3 (by omega) (by decide) ?_
                rw [e1]
                refine qL_law_1380 ?_
                refine qL_law_1385 ?_
                first | refine nL_law_1387 ?_ | refine qL_law_1387 ?_
                refine qL_law_1390 ?_
                exact hN
            | succ m2 ih2 =>
              intro j w3 tt3 l25 hj h3 t3 q1 q2
              have hp3 := h3.2.1
              have hFj := hF9 j (by omega)
              have hmg : mnG F j ≤ 1999 := mnG_le
              have ht9 : tt3 i ≤ 9999 := by
                rcases q2 with ⟨_, q2⟩ | ⟨_, q2⟩ <;> omega
              have ST : ∀ u, u = mnG F (j + 1) → wp G (d + 17) m_law P 1358 [some (.ref (gb G)), some (.ref (gB G)), some (.ref (gB G + 92)), some (.ref (gB G + 93)), some (.ref (gB G + 94)), some (.ref (gB G + 95)), some (.int (nI t)), some (.int (x)), some (.int (y)), some (.int (nI kd)), some (.int (nI a)), some (.int (nI (12 * a))), l12, l13, l14, l15, some (.int (nI b)), some (.int (nI to)), some (.ref (T)), some (.int (nI (lA s a).1)), some (.int (nI (lA s b).2.1)), some (.int (nI 1)), some (.int (nI (mxF (prN (lA s a).2.1 (lA s b).2.1 (lA s a).2.2 (lA s b).2.2) i))), some (.int (nI i)), some (.int (nI j)), some (.int (nI (F j)))] [.int (nI u), .int (nI i), .ref T] w3 (k1, k2) := by
                intro u hu
                refine fL_law_1358 t3 (by omega) (by decide) ?_
                generalize hw4 : s_up w3 T _ = w4
                have t4 : w4.1 T = aN G 9 (updN tt3 i u) := by rw [← hw4]; exact s_upS
                first | refine nL_law_1359 ?_ | refine qL_law_1359 ?_
                refine qL_law_1362 ?_
                exact ih2 (j + 1) w4 _ _ (by omega) (h3.oth (by rw [← hw4]; exact Fr.rf.up hT96)) t4 (fun q hq => by
                  show (if q = i then u else tt3 q) = _
                  rw [if_neg hq]; exact q1 q hq) (Or.inr ⟨by omega, by
                  show (if i = i then u else tt3 i) = _
                  rw [if_pos rfl]; exact hu⟩)
              refine qL_law_1294 ?_
              refine qL_law_1296 ?_
              refine qL_law_1297 ?_
              refine qL_law_1299 ?_
              first | refine nL_law_1300 ?_ | refine qL_law_1300 ?_
              first | refine fL_law_1301 (by assumption) (by omega) (by decide) ?_ | refine nL_law_1301 (by assumption) (by omega) (by decide) ?_
              rw [hC]
              refine nL_law_1302 (by omega) (by omega) (fun h1302 => by exfalso; omega) (fun h1302 => ?_)
              refine qL_law_1305 ?_
              refine qL_law_1307 ?_
              refine qL_law_1309 ?_
              refine nL_law_1311 (by omega) (by omega) (by omega) ?_
              refine qL_law_1312 ?_
              refine qL_law_1314 ?_
              refine qL_law_1315 (Nat.le_of_ble_eq_true rfl) (l_at (h3.lV hf ha) i1 (by omega) ?_)
              refine qL_law_1318 ?_
              refine qL_law_1320 ?_
              refine qL_law_1322 ?_
              refine qL_law_1324 ?_
              refine nL_law_1326 (by omega) (by omega) (by omega) ?_
              refine qL_law_1327 ?_
              refine qL_law_1328 (Nat.le_of_ble_eq_true rfl) (l_at (h3.lV hf hb) (by omega) i2 ?_)
              first | refine nL_law_1331 ?_ | refine qL_law_1331 ?_
              rw [show (lA s a).2.2 (i / (lA s b).2.1 * (lA s a).2.1 + j) + (lA s b).2.2 (j * (lA s b).2.1 + i % (lA s b).2.1) = F j by rw [hFd]]
              refine qL_law_1332 ?_
              refine qL_law_1334 ?_
              refine qL_law_1336 ?_
              refine qL_law_1338 ?_
              refine qL_law_1340 ?_
              refine qL_law_1342 ?_
              refine fL_law_1344 t3 (by omega) (by decide) ?_
              refine nL_law_1345 (by omega) (by omega) (fun h1345 => ?_) (fun h1345 => ?_)
              · refine qL_law_1353 ?_
                refine qL_law_1355 ?_
                refine fL_law_1357 t3 (by omega) (by decide) ?_
                refine ST (tt3 i) ?_
                rcases q2 with ⟨_, q2⟩ | ⟨_, q2⟩
                · omega
                · rw [q2]
                  exact (Nat.min_eq_left (by omega)).symm
              · refine qL_law_1348 ?_
                refine qL_law_1350 ?_
                refine ST (F j) ?_
                show F j = min (mnG F j) (F j)
                rcases q2 with ⟨q3, q2⟩ | ⟨_, q2⟩
                · subst q3
                  exact (Nat.min_eq_right (show F 0 ≤ 1999 by omega)).symm
                · exact (Nat.min_eq_right (by omega)).symm
          refine qL_law_1268 ?_
          refine qL_law_1270 ?_
          refine qL_law_1272 ?_
          first | refine nL_law_1274 ?_ | refine qL_law_1274 ?_
          refine nL_law_1275 (by omega) (by omega) (fun h1275 => by exfalso; omega) (fun h1275 => ?_)
          refine qL_law_1278 ?_
          refine nL_law_1280 (by omega) (fun h1280 => by exfalso; omega) (fun h1280 => ?_)
          refine qL_law_1283 ?_
          refine qL_law_1285 ?_
          refine qL_law_1287 ?_
          refine fL_law_1290 t2 (by omega) (by decide) ?_
          generalize hw4 : s_up w2 T _ = w4
          have t4 : w4.1 T = aN G 9 (updN tt i 9999) := by rw [← hw4]; exact s_upS
          refine qL_law_1291 ?_
          refine qL_law_1292 ?_
          exact LM (lA s a).2.1 0 w4 _ _ (by omega) (h2.oth (by rw [← hw4]; exact Fr.rf.up hT96)) t4 (fun q hq => if_neg hq) (Or.inl ⟨rfl, if_pos rfl⟩)
      exact LP ((lA s a).1 * (lA s b).2.1) 0 w1 _ _ _ (by omega) h1 t1 (fun q hq => absurd hq (Nat.not_lt_zero q))
    · refine qL_law_1259 ?_
      exact K0 w1 k1 k2 _ _ _ _ _ _ _ _ _ _ _ _ _ _ h1 (by omega) (by omega)
  · rw [if_neg hfit] at ee
    refine nL_law_1239 (by omega) (by omega) (fun h1239 => ?_) (fun h1239 => by exfalso; omega)
    refine qL_law_1246 ?_
    refine qL_law_1247 ?_
    refine qL_law_1249 ?_
    refine qL_law_1251 ?_
    first | refine nL_law_1253 ?_ | refine qL_law_1253 ?_
    refine qL_law_1254 ?_
    refine nL_law_1256 (by omega) (by omega) (fun h1256 => ?_) (fun h1256 => ?_)
    · refine qL_law_1262 ?_
      refine qL_law_1263 ?_
      refine qL_law_1265 ?_
      refine qL_law_1266 ?_
      refine qL_law_1268 ?_
      refine qL_law_1270 ?_
      refine qL_law_1272 ?_
      first | refine nL_law_1274 ?_ | refine qL_law_1274 ?_
      refine nL_law_1275 (by omega) (by omega) (fun h1275 => by exfalso; omega) (fun h1275 => ?_)
      refine qL_law_1278 ?_
      refine nL_law_1280 (by omega) (fun h1280 => ?_) (fun h1280 => by exfalso; omega)
      refine qL_law_1393 ?_
      refine qL_law_1394 ?_
      refine qL_law_1396 ?_
      refine qL_law_1398 ?_
      refine qL_law_1400 (jW.ob h1) (Nat.le_of_ble_eq_true rfl) (t_product h1.1 hf.1 (fun w3 hF3 hc3 => ?_))
      rw [ee] at hc3
      rw [show (spProduct s (nI a) (nI b) (nI to)).1 = -5 by rw [ee]]
      have h3 := h1.cl hF3 hc3
      refine qL_law_1403 ?_
      refine nL_law_1405 (by omega) (fun h1405 => by exfalso; omega) (fun h1405 => ?_)
      refine qL_law_1408 ?_
      refine qL_law_1410 ?_
      refine qL_law_1431 (fun h1431 => ?_) (fun h1431 => absurd rfl h1431)
      refine qL_law_1436 ?_
      refine nL_law_1438 (by omega) (fun h1438 => ?_) (fun h1438 => by exfalso; omega)
      refine qL_law_1505 ?_
      exact K w3 _ f v co se k1 k2 _ _ _ _ _ _ _ _ _ _ _ _ _ _ h3 hf (by omega) (by omega)
    · refine qL_law_1259 ?_
      exact K0 w1 k1 k2 _ _ _ _ _ _ _ _ _ _ _ _ _ _ h1 (by omega) (by omega)
end LPROD
