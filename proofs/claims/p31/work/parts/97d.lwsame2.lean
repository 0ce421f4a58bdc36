/-! the law's look at one array: parts -/
def dsS (R C : Nat) (a : Nat → Nat) (r c : Nat) (t : P4) : P4 := if regB R C a r c = true then (if bcN r < t.1 then (t.1, t.2.1, t.2.2.1, t.2.2.2 + 1) else (bcN r, r, c, t.2.2.2 + 1)) else t
def cmb (s t : P4) : P4 := if s.1 < t.1 then (t.1, t.2.1, t.2.2.1, s.2.2.2 + t.2.2.2) else (s.1, s.2.1, s.2.2.1, s.2.2.2 + t.2.2.2)
theorem cmb_st {R C : Nat} {a : Nat → Nat} {r c : Nat} {s t : P4} : cmb (ptS R C a r c s) t = cmb s (dsS R C a r c t) := by
  obtain ⟨s1, s2, s3, s4⟩ := s
  obtain ⟨t1, t2, t3, t4⟩ := t
  unfold ptS dsS
  by_cases h : regB R C a r c = true
  · rw [if_pos h, if_pos h]
    generalize bcN r = b
    by_cases h1 : s1 < b
    · by_cases h2 : b < t1
      · simp [cmb, h1, h2, show s1 < t1 by omega]; omega
      · simp [cmb, h1, h2]; omega
    · by_cases h2 : b < t1
      · by_cases h3 : s1 < t1
        · simp [cmb, h1, h2, h3]; omega
        · simp [cmb, h1, h2, h3]; omega
      · simp [cmb, h1, h2, show ¬ s1 < t1 by omega]; omega
  · rw [if_neg h, if_neg h]
theorem cmb_0 {t : P4} (h : t.1 = 0 → t.2.1 = 0 ∧ t.2.2.1 = 0) : cmb (0, 0, 0, 0) t = t := by
  obtain ⟨t1, t2, t3, t4⟩ := t
  unfold cmb
  by_cases h1 : 0 < t1
  · simp [h1]
  · have h2 : t1 = 0 := by omega
    obtain ⟨h3, h4⟩ := h h2
    simp only at h3 h4
    simp [h2, h3, h4]
theorem lsN_le {R C : Nat} {a : Nat → Nat} (hd : okD R C) (ha : ∀ q, q < R * C → a q ≤ 999) {r c : Nat} : lsN (wysL R C a r c) ≤ 4000 := mnI_le (fun i _ => sv_le ha hd.2.1 i)
theorem pw4 : ∀ {n}, n ≤ 4 → 1 ≤ 2 ^ n ∧ 1 * 2 ^ n ≤ 16 ∧ 2 ^ n ≤ 16 ∧ 1 <<< n = 2 ^ n := by
  have h : ∀ n, n < 5 → 1 ≤ 2 ^ n ∧ 1 * 2 ^ n ≤ 16 ∧ 2 ^ n ≤ 16 ∧ 1 <<< n = 2 ^ n := by decide
  exact fun {n} hn => h n (by omega)
section SM2
variable {G : sG} {d : Nat} {P : sQ} {w : sW} {s : xS} {a : Nat} {f : Nat → Nat} {v : Nat → Int32} {co : Nat → Nat} {se : Nat → Int64} {x : Int32} {κ : Nat × Nat}
theorem sm3 (l9 l10 l11 l12 l13 l14 l15 l16 l17 l18 l19 l20 l21 l22 l23 l24 l25 l26 l27 l28 l29 l30 : Option Value) (h : jW G w s f v co se) (hf : jF s f) (ha : a < 3) (K : ∀ w2 (l12 l13 l14 l15 l16 l17 l18 : Option Value), jW G w2 s f v co se → wp G (d + 16) mL_same P 523 [some (.ref (gB G)), some (.int (nI a)), some (.int x), some (.ref (gB G + 92)), some (.ref (gB G + 93)), some (.ref (gB G + 94)), some (.ref (gB G + 95)), some (.int (nI (12 * a))), some (.int (nI ((lA s a).1 * (lA s a).2.1))), l9, l10, l11, l12, l13, l14, l15, l16, l17, l18, l19, l20, l21, l22, l23, l24, l25, l26, l27, l28, l29, l30] [] w2 κ) : wp G (d + 16) mL_same P 292 [some (.ref (gB G)), some (.int (nI a)), some (.int x), some (.ref (gB G + 92)), some (.ref (gB G + 93)), some (.ref (gB G + 94)), some (.ref (gB G + 95)), some (.int (nI (12 * a))), some (.int (nI ((lA s a).1 * (lA s a).2.1))), l9, l10, l11, l12, l13, l14, l15, l16, l17, l18, l19, l20, l21, l22, l23, l24, l25, l26, l27, l28, l29, l30] [] w κ := by
  obtain ⟨_, _, hR, hC, hE, hd, h9, h999⟩ := h.lV hf ha
  have d1 := hd.1
  have d2 := hd.2.1
  have d3 := hd.2.2.1
  have d4 := hd.2.2.2.1
  obtain ⟨pR1, pR2, pR3, pR4⟩ := pw4 d2
  obtain ⟨pC1, pC2, pC3, pC4⟩ := pw4 d4
  -- the four answers
  have FIN : ∀ w2 (l16 l17 l18 : Option Value), jW G w2 s f v co se → wp G (d + 16) mL_same P 477 [some (.ref (gB G)), some (.int (nI a)), some (.int x), some (.ref (gB G + 92)), some (.ref (gB G + 93)), some (.ref (gB G + 94)), some (.ref (gB G + 95)), some (.int (nI (12 * a))), some (.int (nI ((lA s a).1 * (lA s a).2.1))), l9, l10, l11, some (.int (nI (ptN (lA s a).1 (lA s a).2.1 (lA s a).2.2).1)), some (.int (nI (ptN (lA s a).1 (lA s a).2.1 (lA s a).2.2).2.1)), some (.int (nI (ptN (lA s a).1 (lA s a).2.1 (lA s a).2.2).2.2.1)), some (.int (nI (ptN (lA s a).1 (lA s a).2.1 (lA s a).2.2).2.2.2)), l16, l17, l18, l19, l20, l21, l22, l23, l24, l25, l26, l27, l28, l29, l30] [] w2 κ := by
    intro w2 l16 l17 l18 h2
    obtain ⟨b0, b1, b2, b3⟩ := e_byParts hf.1 ha
    refine qL_same_477 ?_
    refine qL_same_478 ?_
    refine qL_same_479 ?_
    refine qL_same_480 (jW.ob h2) (Nat.le_of_ble_eq_true rfl) (t_byParts h2.1 hf.1 (fun w3 hF3 hc3 => ?_))
    have h3 := h2.cl hF3 hc3
    rw [b0]
    refine qL_same_483 ?_
    refine qL_same_485 (fun h485 => absurd rfl h485) (fun h485 => ?_)
    refine qL_same_488 ?_
    refine qL_same_489 ?_
    refine qL_same_490 ?_
    refine qL_same_491 (jW.ob h3) (Nat.le_of_ble_eq_true rfl) (t_byParts h3.1 hf.1 (fun w4 hF4 hc4 => ?_))
    have h4 := h3.cl hF4 hc4
    rw [b1]
    refine qL_same_494 ?_
    refine qL_same_496 (fun h496 => absurd rfl h496) (fun h496 => ?_)
    refine qL_same_499 ?_
    refine qL_same_500 ?_
    refine qL_same_501 ?_
    refine qL_same_502 (jW.ob h4) (Nat.le_of_ble_eq_true rfl) (t_byParts h4.1 hf.1 (fun w5 hF5 hc5 => ?_))
    have h5 := h4.cl hF5 hc5
    rw [b2]
    refine qL_same_505 ?_
    refine qL_same_507 (fun h507 => absurd rfl h507) (fun h507 => ?_)
    refine qL_same_510 ?_
    refine qL_same_511 ?_
    refine qL_same_512 ?_
    refine qL_same_513 (jW.ob h5) (Nat.le_of_ble_eq_true rfl) (t_byParts h5.1 hf.1 (fun w6 hF6 hc6 => ?_))
    have h6 := h5.cl hF6 hc6
    rw [b3]
    refine qL_same_516 ?_
    refine qL_same_518 (fun h518 => ?_) (fun h518 => absurd rfl h518)
    exact K w6 _ _ _ _ _ _ _ h6
  have LR : ∀ r w2 t (l17 l18 : Option Value), r < 2 ^ (lA s a).1 → jW G w2 s f v co se → cmb (ptR (lA s a).1 (lA s a).2.1 (lA s a).2.2 r) t = ptN (lA s a).1 (lA s a).2.1 (lA s a).2.2 → (t.1 = 0 → t.2.1 = 0 ∧ t.2.2.1 = 0) → t.1 ≤ 12 → wp G (d + 16) mL_same P 314 [some (.ref (gB G)), some (.int (nI a)), some (.int x), some (.ref (gB G + 92)), some (.ref (gB G + 93)), some (.ref (gB G + 94)), some (.ref (gB G + 95)), some (.int (nI (12 * a))), some (.int (nI ((lA s a).1 * (lA s a).2.1))), l9, l10, l11, some (.int (nI t.1)), some (.int (nI t.2.1)), some (.int (nI t.2.2.1)), some (.int (nI t.2.2.2)), some (.int (nI r)), l17, l18, l19, l20, l21, l22, l23, l24, l25, l26, l27, l28, l29, l30] [] w2 κ := by
    intro r
    induction r with
    | zero =>
      intro w2 t l17 l18 hr h2 hc ht0 ht
      refine qL_same_314 ?_
      refine nL_same_316 (by omega) (fun h316 => ?_) (fun h316 => by exfalso; omega)
      rw [show ptR (lA s a).1 (lA s a).2.1 (lA s a).2.2 0 = (0, 0, 0, 0) from rfl, cmb_0 ht0] at hc
      rw [hc]
      exact FIN w2 _ _ _ h2
    | succ r ihr =>
      intro w2 t l17 l18 hr h2 hc ht0 ht
      have hp2 := h2.2.1
      refine qL_same_314 ?_
      refine nL_same_316 (by omega) (fun h316 => by exfalso; omega) (fun h316 => ?_)
      refine qL_same_319 ?_
      refine qL_same_320 ?_
      refine qL_same_321 ?_
      refine qL_same_323 ?_
      first | refine nL_same_324 ?_ | refine qL_same_324 ?_
      first | refine fL_same_325 (by assumption) (by omega) (by decide) ?_ | refine nL_same_325 (by assumption) (by omega) (by decide) ?_
      rw [hC]
      refine nL_same_326 (by omega) (by omega) ?_
      rw [pC4]
      refine qL_same_327 ?_
      first | refine nL_same_328 (by omega) ?_ | refine qL_same_328 ?_
      refine qL_same_329 ?_
      have LC : ∀ c w2 t (l18 : Option Value), c < 2 ^ (lA s a).2.1 → jW G w2 s f v co se → cmb (ptC (lA s a).1 (lA s a).2.1 (lA s a).2.2 (r + 1) (ptR (lA s a).1 (lA s a).2.1 (lA s a).2.2 r) c) t = ptN (lA s a).1 (lA s a).2.1 (lA s a).2.2 → (t.1 = 0 → t.2.1 = 0 ∧ t.2.2.1 = 0) → t.1 ≤ 12 → wp G (d + 16) mL_same P 331 [some (.ref (gB G)), some (.int (nI a)), some (.int x), some (.ref (gB G + 92)), some (.ref (gB G + 93)), some (.ref (gB G + 94)), some (.ref (gB G + 95)), some (.int (nI (12 * a))), some (.int (nI ((lA s a).1 * (lA s a).2.1))), l9, l10, l11, some (.int (nI t.1)), some (.int (nI t.2.1)), some (.int (nI t.2.2.1)), some (.int (nI t.2.2.2)), some (.int (nI (r + 1))), some (.int (nI c)), l18, l19, l20, l21, l22, l23, l24, l25, l26, l27, l28, l29, l30] [] w2 κ := by
        intro c
        induction c with
        | zero =>
          intro w2 t l18 hcl h2 hc ht0 ht
          refine qL_same_331 ?_
          refine nL_same_333 (by omega) (fun h333 => ?_) (fun h333 => by exfalso; omega)
          first | refine nL_same_471 ?_ | refine qL_same_471 ?_
          refine qL_same_474 ?_
          exact ihr w2 t _ _ (by omega) h2 hc ht0 ht
        | succ c ihc =>
          intro w2 t l18 hcl h2 hc ht0 ht
          have hc2 : cmb (ptC (lA s a).1 (lA s a).2.1 (lA s a).2.2 (r + 1) (ptR (lA s a).1 (lA s a).2.1 (lA s a).2.2 r) c) (dsS (lA s a).1 (lA s a).2.1 (lA s a).2.2 (r + 1) (c + 1) t) = ptN (lA s a).1 (lA s a).2.1 (lA s a).2.2 := by rw [← cmb_st]; exact hc
          have bl1 := bcN_le (r + 1)
          have bl2 := bcN_le (c + 1)
          have SK : ∀ w2 (l18 : Option Value), regB (lA s a).1 (lA s a).2.1 (lA s a).2.2 (r + 1) (c + 1) = false → jW G w2 s f v co se → wp G (d + 16) mL_same P 465 [some (.ref (gB G)), some (.int (nI a)), some (.int x), some (.ref (gB G + 92)), some (.ref (gB G + 93)), some (.ref (gB G + 94)), some (.ref (gB G + 95)), some (.int (nI (12 * a))), some (.int (nI ((lA s a).1 * (lA s a).2.1))), l9, l10, l11, some (.int (nI t.1)), some (.int (nI t.2.1)), some (.int (nI t.2.2.1)), some (.int (nI t.2.2.2)), some (.int (nI (r + 1))), some (.int (nI (c + 1))), l18, l19, l20, l21, l22, l23, l24, l25, l26, l27, l28, l29, l30] [] w2 κ := by
            intro w2 l18 hreg h2
            unfold dsS at hc2
            rw [if_neg (by rw [hreg]; decide)] at hc2
            first | refine nL_same_465 ?_ | refine qL_same_465 ?_
            refine qL_same_468 ?_
            exact ihc w2 t _ (by omega) h2 hc2 ht0 ht
          refine qL_same_331 ?_
          refine nL_same_333 (by omega) (fun h333 => by exfalso; omega) (fun h333 => ?_)
          refine qL_same_336 ?_
          refine qL_same_338 (Nat.le_of_ble_eq_true rfl) (l_bits (by omega) ?_)
          refine qL_same_341 ?_
          refine qL_same_343 (Nat.le_of_ble_eq_true rfl) (l_bits (by omega) ?_)
          refine nL_same_346 (by omega) (by omega) (fun h346 => ?_) (fun h346 => ?_)
          · have hlv := h2.lV hf ha
            refine qL_same_352 ?_
            refine qL_same_353 ?_
            refine qL_same_355 ?_
            refine qL_same_357 ?_
            refine qL_same_358 (Nat.le_of_ble_eq_true rfl) (l_ways hlv (by omega) hr hcl h346 ?_)
            have x1 : lsN (wysL (lA s a).1 (lA s a).2.1 (lA s a).2.2 (r + 1) (c + 1)) ≤ 4000 := lsN_le hd h999
            have x2 : wlN (wysL (lA s a).1 (lA s a).2.1 (lA s a).2.2 (r + 1) (c + 1)) ≤ 24 := by
              have y1 := cntE_le (f := sv (wysL (lA s a).1 (lA s a).2.1 (lA s a).2.2 (r + 1) (c + 1))) (v := lsN (wysL (lA s a).1 (lA s a).2.1 (lA s a).2.2 (r + 1) (c + 1))) (wysL (lA s a).1 (lA s a).2.1 (lA s a).2.2 (r + 1) (c + 1)).length
              have y2 := (cw_ok hd hr hcl (by omega) h346).2
              have y3 : (wysL (lA s a).1 (lA s a).2.1 (lA s a).2.2 (r + 1) (c + 1)).length = cwW (lA s a).1 (lA s a).2.1 (r + 1) (lA s a).1 (c + 1) := goW_len _ _ _ _ _ _ _ _
              unfold wlN
              omega
            obtain ⟨q0, q1⟩ := e_perm hf.1 ha (show 1 ≤ r + 1 by omega) hr hcl h346
            have hreg : regB (lA s a).1 (lA s a).2.1 (lA s a).2.2 (r + 1) (c + 1) = (wlN (wysL (lA s a).1 (lA s a).2.1 (lA s a).2.2 (r + 1) (c + 1)) == 1) := by
              unfold regB
              rw [h346]
              simp
            generalize hls : lsN (wysL (lA s a).1 (lA s a).2.1 (lA s a).2.2 (r + 1) (c + 1)) = ls at *
            generalize hwl : wlN (wysL (lA s a).1 (lA s a).2.1 (lA s a).2.2 (r + 1) (c + 1)) = wl at *
            have m1 : (wl * 10000 + ls) % 10000 = ls := by omega
            have m2 : (wl * 10000 + ls) / 10000 = wl := by omega
            have K421 : ∀ w3, jW G w3 s f v co se → wp G (d + 16) mL_same P 421 [some (.ref (gB G)), some (.int (nI a)), some (.int x), some (.ref (gB G + 92)), some (.ref (gB G + 93)), some (.ref (gB G + 94)), some (.ref (gB G + 95)), some (.int (nI (12 * a))), some (.int (nI ((lA s a).1 * (lA s a).2.1))), l9, l10, l11, some (.int (nI t.1)), some (.int (nI t.2.1)), some (.int (nI t.2.2.1)), some (.int (nI t.2.2.2)), some (.int (nI (r + 1))), some (.int (nI (c + 1))), some (.int (nI (wl * 10000 + ls))), l19, l20, l21, l22, l23, l24, l25, l26, l27, l28, l29, l30] [] w3 κ := by
              intro w3 h3
              refine qL_same_421 ?_
              refine qL_same_423 ?_
              refine nL_same_426 (by omega) (by omega) (by omega) ?_
              refine qL_same_427 ?_
              rw [m2]
              refine nL_same_428 (by omega) (by omega) (fun h428 => ?_) (fun h428 => ?_)
              · have hreg1 : regB (lA s a).1 (lA s a).2.1 (lA s a).2.2 (r + 1) (c + 1) = true := by rw [hreg, h428]; rfl
                first | refine nL_same_434 ?_ | refine qL_same_434 ?_
                refine qL_same_437 ?_
                refine qL_same_439 (Nat.le_of_ble_eq_true rfl) (l_bits (by omega) ?_)
                refine qL_same_442 ?_
                refine nL_same_444 (by omega) (by omega) (fun h444 => ?_) (fun h444 => ?_)
                · refine qL_same_450 ?_
                  refine qL_same_452 (Nat.le_of_ble_eq_true rfl) (l_bits (by omega) ?_)
                  refine qL_same_455 ?_
                  refine qL_same_457 ?_
                  refine qL_same_459 ?_
                  refine qL_same_461 ?_
                  refine qL_same_463 ?_
                  first | refine nL_same_465 ?_ | refine qL_same_465 ?_
                  refine qL_same_468 ?_
                  have e1 : dsS (lA s a).1 (lA s a).2.1 (lA s a).2.2 (r + 1) (c + 1) t = (bcN (r + 1), r + 1, c + 1, t.2.2.2 + 1) := by
                    unfold dsS
                    rw [if_pos hreg1, if_neg (by omega)]
                  rw [e1] at hc2
                  have hbp : 1 ≤ bcN (r + 1) := (pt_ok hd hr hcl (by omega) h346).1
                  exact ihc w3 (bcN (r + 1), r + 1, c + 1, t.2.2.2 + 1) _ (by omega) h3 hc2 (fun q => by
                    have q : bcN (r + 1) = 0 := q
                    omega) bl1
                · refine qL_same_447 ?_
                  first | refine nL_same_465 ?_ | refine qL_same_465 ?_
                  refine qL_same_468 ?_
                  have e1 : dsS (lA s a).1 (lA s a).2.1 (lA s a).2.2 (r + 1) (c + 1) t = (t.1, t.2.1, t.2.2.1, t.2.2.2 + 1) := by
                    unfold dsS
                    rw [if_pos hreg1, if_pos h444]
                  rw [e1] at hc2
                  exact ihc w3 (t.1, t.2.1, t.2.2.1, t.2.2.2 + 1) _ (by omega) h3 hc2 ht0 ht
              · refine qL_same_431 ?_
                exact SK w3 _ (by rw [hreg]; simpa using h428) h3
            refine qL_same_361 ?_
            refine qL_same_363 ?_
            refine qL_same_365 ?_
            first | refine nL_same_367 ?_ | refine qL_same_367 ?_
            refine qL_same_368 ?_
            first | refine nL_same_370 ?_ | refine qL_same_370 ?_
            refine qL_same_371 ?_
            refine qL_same_372 ?_
            refine qL_same_375 (Nat.le_of_ble_eq_true rfl) (l_low (by decide) (by decide) (fun ρ hρ => ?_))
            refine nL_same_378 (by omega) (by omega) (fun h378 => ?_) (fun h378 => ?_)
            · exact K421 w2 h2
            · refine qL_same_381 ?_
              refine qL_same_382 ?_
              refine qL_same_383 ?_
              refine qL_same_385 ?_
              refine qL_same_387 ?_
              refine qL_same_388 (jW.ob h2) (Nat.le_of_ble_eq_true rfl) (t_permanent h2.1 hf.1 (fun w3 hF3 hc3 => ?_))
              have h3 := h2.cl hF3 hc3
              rw [q0]
              refine qL_same_391 ?_
              refine qL_same_393 ?_
              refine nL_same_396 (by omega) (by omega) (by omega) ?_
              rw [m1]
              refine qL_same_397 (fun h397 => absurd rfl h397) (fun h397 => ?_)
              refine qL_same_400 ?_
              refine qL_same_401 ?_
              refine qL_same_402 ?_
              refine qL_same_404 ?_
              refine qL_same_406 ?_
              refine qL_same_407 (jW.ob h3) (Nat.le_of_ble_eq_true rfl) (t_permanent h3.1 hf.1 (fun w4 hF4 hc4 => ?_))
              have h4 := h3.cl hF4 hc4
              rw [q1]
              refine qL_same_410 ?_
              refine qL_same_412 ?_
              refine nL_same_415 (by omega) (by omega) (by omega) ?_
              rw [m2]
              refine qL_same_416 (fun h416 => ?_) (fun h416 => absurd rfl h416)
              exact K421 w4 h4
          · refine qL_same_349 ?_
            exact SK w2 _ (by unfold regB; simp [h346]) h2
      exact LC (2 ^ (lA s a).2.1 - 1) w2 t _ (by omega) h2 hc ht0 ht
  have hp2 := h.2.1
  refine qL_same_292 ?_
  refine qL_same_293 ?_
  refine qL_same_295 ?_
  refine qL_same_296 ?_
  refine qL_same_298 ?_
  refine qL_same_299 ?_
  refine qL_same_301 ?_
  refine qL_same_302 ?_
  refine qL_same_304 ?_
  refine qL_same_305 ?_
  refine qL_same_306 ?_
  first | refine fL_same_308 (by assumption) (by omega) (by decide) ?_ | refine nL_same_308 (by assumption) (by omega) (by decide) ?_
  rw [hR]
  refine nL_same_309 (by omega) (by omega) ?_
  rw [pR4]
  refine qL_same_310 ?_
  first | refine nL_same_311 (by omega) ?_ | refine qL_same_311 ?_
  refine qL_same_312 ?_
  exact LR (2 ^ (lA s a).1 - 1) w (0, 0, 0, 0) _ _ (by omega) h (by simp [cmb, ptN]) (fun _ => ⟨rfl, rfl⟩) (by decide)
end SM2
