/-! the law's acts: an array written as a text and loaded -/
section LLOAD
variable {G : sG} {d : Nat} {P : sQ} {w : sW} {s : xS} {a : Nat} {f : Nat → Nat} {v : Nat → Int32} {co : Nat → Nat} {se : Nat → Int64} {x y : Int32} {t kd k1 k2 c1 c2 : Nat}
theorem e_load {L : List Nat} {R C u : Nat} (ha : a < 3) (hd : okD R C) (hp : pdS (lc s) (ln s) L (some u) C (R * C - 1)) : (spLoad s (nI a)).1 = nI (R * C) ∧ (spLoad s (nI a)).2 = padS (upS (remS s) a (R, C, fun k => (L ++ [u]).getD k 0)) 0 := by
  obtain ⟨q1, q2, q3, q4, q5, q6, q7⟩ := pd_end hd hp
  have e : ldV (lc s) (ln s) = (R, C, fun k => (L ++ [u]).getD k 0) := by
    unfold ldV
    rw [q7, q4, q3]
  have hs : spLoad s (nI a) = (nI (R * C), padS (upS (remS s) a (R, C, fun k => (L ++ [u]).getD k 0)) 0) := by
    unfold spLoad
    simp only [nN_nI (show a < 2147483648 by omega)]
    have d5 := hd.2.2.2.2
    have d4 := hd.2.2.2.1
    have d2 := hd.2.1
    rw [cIf_t (inB_nI ha), if_pos q1, if_neg (by rw [q4, q6, q7]; omega), if_pos (by rw [q4, q5]), q7, q4, e]
  rw [hs]
  exact ⟨rfl, rfl⟩
theorem la_load (l12 l13 l14 l15 l16 l17 l18 l19 l20 l21 l22 l23 l24 l25 : Option Value) (h : jW G w s f v co se) (hf : jF s f) (ha : a < 3) (ht : t < 18) (hk1 : c1 ≤ k1) (hk2 : c2 ≤ k2) (K : ∀ w2 s2 f2 v2 co2 se2 j1 j2 (l12 l13 l14 l15 l16 l17 l18 l19 l20 l21 l22 l23 l24 l25 : Option Value), jW G w2 s2 f2 v2 co2 se2 → jF s2 f2 → c1 ≤ j1 → c2 ≤ j2 → wp G (d + 17) m_law P 1775 [some (.ref (gb G)), some (.ref (gB G)), some (.ref (gB G + 92)), some (.ref (gB G + 93)), some (.ref (gB G + 94)), some (.ref (gB G + 95)), some (.int (nI t)), some (.int (x)), some (.int (y)), some (.int (nI kd)), some (.int (nI a)), some (.int (nI (12 * a))), l12, l13, l14, l15, l16, l17, l18, l19, l20, l21, l22, l23, l24, l25] [] w2 (j1, j2)) : wp G (d + 17) m_law P 213 [some (.ref (gb G)), some (.ref (gB G)), some (.ref (gB G + 92)), some (.ref (gB G + 93)), some (.ref (gB G + 94)), some (.ref (gB G + 95)), some (.int (nI t)), some (.int (x)), some (.int (y)), some (.int (nI kd)), some (.int (nI a)), some (.int (nI (12 * a))), l12, l13, l14, l15, l16, l17, l18, l19, l20, l21, l22, l23, l24, l25] [] w (k1, k2) := by
  have hp := h.2.1
  -- from the first entry on
  have LX : ∀ R C W, 1 ≤ R → R ≤ 3 → 1 ≤ C → C ≤ 4 → R * C ≤ 9 → 1 ≤ W → W ≤ 1000 → wp G (d + 17) m_law P 267 [some (.ref (gb G)), some (.ref (gB G)), some (.ref (gB G + 92)), some (.ref (gB G + 93)), some (.ref (gB G + 94)), some (.ref (gB G + 95)), some (.int (nI t)), some (.int (x)), some (.int (y)), some (.int (nI kd)), some (.int (nI a)), some (.int (nI (12 * a))), l12, l13, l14, l15, some (.int (nI R)), some (.int (nI C)), some (.int (nI W)), l19, l20, l21, l22, l23, l24, l25] [] w (k1, k2) := by
    intro R C W r1 r3 g1 g4 rc9 w1 w2
    have hd : okD R C := ⟨r1, by omega, g1, g4, by omega⟩
    have hd1 : 1 ≤ R * C := Nat.mul_pos r1 g1
    -- the end
    have FIN : ∀ w3 s3 f3 L u (l20 l21 l22 l23 l24 l25 : Option Value), jW G w3 s3 f3 v co se → okS s3 → lA s3 = lA s → (∀ q, q < R * C → f3 (12 * a + 2 + q) = (L ++ [u]).getD q 0) → (∀ q, q < R * C → f3 (12 * a + 2 + q) ≤ 999) → f3 (12 * a) = R → f3 (12 * a + 1) = C → (∀ q, q < 12 * a ∨ 12 * a + 12 ≤ q → f3 q = f q) → pdS (lc s3) (ln s3) L (some u) C (R * C - 1) → wp G (d + 17) m_law P 432 [some (.ref (gb G)), some (.ref (gB G)), some (.ref (gB G + 92)), some (.ref (gB G + 93)), some (.ref (gB G + 94)), some (.ref (gB G + 95)), some (.int (nI t)), some (.int (x)), some (.int (y)), some (.int (nI kd)), some (.int (nI a)), some (.int (nI (12 * a))), l12, l13, l14, l15, some (.int (nI R)), some (.int (nI C)), some (.int (nI W)), some (.int (nI (R * C))), l20, l21, l22, l23, l24, l25] [] w3 (k1, k2) := by
      intro w3 s3 f3 L u l20 l21 l22 l23 l24 l25 h3 ho3 hA3 q1 q2 q3 q4 q5 hpd
      obtain ⟨e1, e2⟩ := e_load (s := s3) ha hd hpd
      have ho4 := ok_load (x := nI a) ho3
      refine qL_law_432 ?_
      refine qL_law_433 ?_
      refine qL_law_435 (jW.ob h3) (Nat.le_of_ble_eq_true rfl) (t_load h3.1 ho3 (fun w4 hF4 hc4 => ?_))
      rw [e2] at hc4 ho4
      rw [e1]
      have h4 := h3.cl hF4 hc4
      have hf3 : jF s3 f := ⟨ho3, fun b hb => by rw [hA3]; exact hf.2 b hb⟩
      have hX : okV (R, C, fun k => (L ++ [u]).getD k 0) := ⟨hd, fun q hq => by
        have := q2 q hq
        rw [q1 q hq] at this
        exact this⟩
      have hj := jF.up (f' := f3) hf3 hX q3 q4 q1 r3 rc9 q5
      refine qL_law_438 ?_
      refine qL_law_440 ?_
      first | refine nL_law_442 ?_ | refine qL_law_442 ?_
      refine qL_law_443 (fun h443 => ?_) (fun h443 => absurd rfl h443)
      refine qL_law_448 ?_
      exact K w4 _ f3 v co se k1 k2 _ _ _ _ _ _ _ _ _ _ _ _ _ _ h4 ⟨ho4, hj.2⟩ hk1 hk2
    have LP : ∀ m i w3 s3 f3 L (l20 l21 l22 l23 l24 l25 : Option Value), i + m = R * C → jW G w3 s3 f3 v co se → okS s3 → lA s3 = lA s → L.length = i → (∀ q, q < i → f3 (12 * a + 2 + q) = L.getD q 0) → (∀ q, q < i → f3 (12 * a + 2 + q) ≤ 999) → f3 (12 * a) = R → f3 (12 * a + 1) = C → (∀ q, q < 12 * a ∨ 12 * a + 12 ≤ q → f3 q = f q) → ln s3 ≤ 4 * i → (i = 0 → pdS (lc s3) (ln s3) [] none C 0) → (∀ L' u, L = L' ++ [u] → pdS (lc s3) (ln s3) L' (some u) C (i - 1)) → wp G (d + 17) m_law P 289 [some (.ref (gb G)), some (.ref (gB G)), some (.ref (gB G + 92)), some (.ref (gB G + 93)), some (.ref (gB G + 94)), some (.ref (gB G + 95)), some (.int (nI t)), some (.int (x)), some (.int (y)), some (.int (nI kd)), some (.int (nI a)), some (.int (nI (12 * a))), l12, l13, l14, l15, some (.int (nI R)), some (.int (nI C)), some (.int (nI W)), some (.int (nI i)), l20, l21, l22, l23, l24, l25] [] w3 (k1, k2) := by
      intro m
      induction m with
      | zero =>
        intro i w3 s3 f3 L l20 l21 l22 l23 l24 l25 hi h3 ho3 hA3 hL q1 q2 q3 q4 q5 hln hz hpd
        have hi2 : i = R * C := by omega
        obtain ⟨L', u, hLu⟩ : ∃ L' u, L = L' ++ [u] := by
          rcases List.eq_nil_or_concat L with hn | ⟨L', u, hn⟩
          · rw [hn] at hL
            simp at hL
            omega
          · exact ⟨L', u, by rw [hn, List.concat_eq_append]⟩
        have hp3 := hpd L' u hLu
        subst hLu
        rw [hi2] at q1 q2 hp3 ⊢
        refine qL_law_289 ?_
        refine qL_law_291 ?_
        refine qL_law_293 ?_
        first | refine nL_law_295 ?_ | refine qL_law_295 ?_
        refine nL_law_296 (by omega) (by omega) (fun h296 => ?_) (fun h296 => by exfalso; omega)
        exact FIN w3 s3 f3 L' u _ _ _ _ _ _ h3 ho3 hA3 q1 q2 q3 q4 q5 hp3
      | succ m ih =>
        intro i w3 s3 f3 L l20 l21 l22 l23 l24 l25 hi h3 ho3 hA3 hL q1 q2 q3 q4 q5 hln hz hpd
        have hil : i < R * C := by omega
        have hp3 := h3.2.1
        refine qL_law_289 ?_
        refine qL_law_291 ?_
        refine qL_law_293 ?_
        first | refine nL_law_295 ?_ | refine qL_law_295 ?_
        refine nL_law_296 (by omega) (by omega) (fun h296 => by exfalso; omega) (fun h296 => ?_)
        refine qL_law_299 ?_
        refine qL_law_301 ?_
        refine qL_law_302 ?_
        first | refine nL_law_304 ?_ | refine qL_law_304 ?_
        refine qL_law_305 ?_
        first | refine nL_law_306 ?_ | refine qL_law_306 ?_
        refine qL_law_307 ?_
        refine qL_law_308 ?_
        refine qL_law_310 (Nat.le_of_ble_eq_true rfl) (l_low w1 (by omega) (fun u hu => ?_))
        refine qL_law_313 ?_
        refine qL_law_315 ?_
        refine qL_law_316 ?_
        refine qL_law_318 ?_
        first | refine nL_law_319 ?_ | refine qL_law_319 ?_
        refine qL_law_320 ?_
        first | refine nL_law_322 ?_ | refine qL_law_322 ?_
        refine qL_law_323 ?_
        refine fL_law_325 (by assumption) (by omega) (by decide) ?_
        generalize hw4 : s_up w3 (gB G + 92) _ = w4
        have hp4 : w4.1 (gB G + 92) = aN G 36 (updN f3 (12 * a + 2 + i) u) := by rw [← hw4]; exact s_upS
        have o4 : ∀ q, updN f3 (12 * a + 2 + i) u q = if q = 12 * a + 2 + i then u else f3 q := fun _ => rfl
        have h4 := h3.arr (by rw [← hw4]; exact Fr.rf.up rfl) hp4
        generalize updN f3 (12 * a + 2 + i) u = f4 at *
        -- behind the number
        have K426 : ∀ w5 s5, jW G w5 s5 f4 v co se → okS s5 → lA s5 = lA s → ln s5 ≤ 4 * i + 4 → pdS (lc s5) (ln s5) L (some u) C i → wp G (d + 17) m_law P 426 [some (.ref (gb G)), some (.ref (gB G)), some (.ref (gB G + 92)), some (.ref (gB G + 93)), some (.ref (gB G + 94)), some (.ref (gB G + 95)), some (.int (nI t)), some (.int (x)), some (.int (y)), some (.int (nI kd)), some (.int (nI a)), some (.int (nI (12 * a))), l12, l13, l14, l15, some (.int (nI R)), some (.int (nI C)), some (.int (nI W)), some (.int (nI i)), some (.int (nI u)), l21, l22, l23, l24, l25] [] w5 (k1, k2) := by
          intro w5 s5 h5 ho5 hA5 hl5 hp5
          first | refine nL_law_426 ?_ | refine qL_law_426 ?_
          refine qL_law_429 ?_
          refine ih (i + 1) w5 s5 f4 (L ++ [u]) _ _ _ _ _ _ (by omega) h5 ho5 hA5 (by rw [List.length_append, hL]; rfl) (fun q hq => ?_) (fun q hq => ?_) (by rw [o4, if_neg (by omega)]; exact q3) (by rw [o4, if_neg (by omega)]; exact q4) (fun q hq => by rw [o4, if_neg (by omega)]; exact q5 q hq) (by omega) (fun z => by omega) (fun L' u' hL' => ?_)
          · rw [o4]
            by_cases hqi : q = i
            · rw [if_pos (by omega), hqi, ← hL]
              simp
            · rw [if_neg (by omega), q1 q (by omega), List.getD_eq_getElem?_getD, List.getD_eq_getElem?_getD, List.getElem?_append_left (by omega)]
          · rw [o4]
            by_cases hqi : q = i
            · rw [if_pos (by omega)]; omega
            · rw [if_neg (by omega)]; exact q2 q (by omega)
          · have hc := List.append_inj' hL' rfl
            have hc2 : u = u' := by
              have := hc.2
              simpa using this
            rw [← hc.1, ← hc2, show i + 1 - 1 = i by omega]
            exact hp5
        have K407 : ∀ w5 s5 o, jW G w5 s5 f4 v co se → okS s5 → lA s5 = lA s → ln s5 ≤ 4 * i + 3 → pdS (lc s5) (ln s5) L o C i → ((o = none ∧ u ≤ 9) ∨ ∃ y, o = some y ∧ ¬ y = 0 ∧ y * 10 + u % 10 = u) → wp G (d + 17) m_law P 407 [some (.ref (gb G)), some (.ref (gB G)), some (.ref (gB G + 92)), some (.ref (gB G + 93)), some (.ref (gB G + 94)), some (.ref (gB G + 95)), some (.int (nI t)), some (.int (x)), some (.int (y)), some (.int (nI kd)), some (.int (nI a)), some (.int (nI (12 * a))), l12, l13, l14, l15, some (.int (nI R)), some (.int (nI C)), some (.int (nI W)), some (.int (nI i)), some (.int (nI u)), l21, l22, l23, l24, l25] [] w5 (k1, k2) := by
          intro w5 s5 o h5 ho5 hA5 hl5 hp5 ho
          have hg : u % 10 < 10 := Nat.mod_lt _ (by decide)
          obtain ⟨z1, z2, z3⟩ := put_lc (s := s5) (ch := 48 + u % 10) (by omega) (by omega)
          refine qL_law_407 ?_
          refine qL_law_408 ?_
          refine qL_law_410 ?_
          refine qL_law_412 ?_
          refine nL_law_414 (by omega) (by omega) (by omega) ?_
          first | refine nL_law_415 ?_ | refine qL_law_415 ?_
          refine qL_law_416 ?_
          rw [i2l1 _ (by omega)]
          refine qL_law_417 (jW.ob h5) (Nat.le_of_ble_eq_true rfl) (putc h5 ho5 (by omega) (by omega) (by omega) (fun w6 h6 ho6 => ?_))
          refine qL_law_420 ?_
          refine nL_law_421 (by omega) (by omega) (fun h421 => ?_) (fun h421 => by exfalso; omega)
          refine K426 w6 _ h6 ho6 hA5 (by rw [z1]; omega) ?_
          rw [z1]
          refine pd_dig hp5 z3 z2 hg ?_
          rcases ho with ⟨o1, o2⟩ | ⟨y, o1, o2, o3⟩
          · exact Or.inl ⟨o1, by omega⟩
          · exact Or.inr ⟨y, o1, o2, by omega, by omega⟩
        have K380 : ∀ w5 s5 o, jW G w5 s5 f4 v co se → okS s5 → lA s5 = lA s → ln s5 ≤ 4 * i + 2 → pdS (lc s5) (ln s5) L o C i → ((o = none ∧ u ≤ 99) ∨ (o = some (u / 100) ∧ 99 < u)) → wp G (d + 17) m_law P 380 [some (.ref (gb G)), some (.ref (gB G)), some (.ref (gB G + 92)), some (.ref (gB G + 93)), some (.ref (gB G + 94)), some (.ref (gB G + 95)), some (.int (nI t)), some (.int (x)), some (.int (y)), some (.int (nI kd)), some (.int (nI a)), some (.int (nI (12 * a))), l12, l13, l14, l15, some (.int (nI R)), some (.int (nI C)), some (.int (nI W)), some (.int (nI i)), some (.int (nI u)), l21, l22, l23, l24, l25] [] w5 (k1, k2) := by
          intro w5 s5 o h5 ho5 hA5 hl5 hp5 ho
          refine qL_law_380 ?_
          refine qL_law_382 ?_
          refine nL_law_384 (by omega) (by omega) (fun h384 => ?_) (fun h384 => ?_)
          · refine K407 w5 s5 o h5 ho5 hA5 (by omega) hp5 (Or.inl ?_)
            rcases ho with ⟨o1, o2⟩ | ⟨o1, o2⟩
            · exact ⟨o1, by omega⟩
            · omega
          · obtain ⟨z1, z2, z3⟩ := put_lc (s := s5) (ch := 48 + u / 10 % 10) (by omega) (by omega)
            refine qL_law_387 ?_
            refine qL_law_388 ?_
            refine qL_law_390 ?_
            refine qL_law_392 ?_
            refine nL_law_394 (by omega) (by omega) (by omega) ?_
            refine qL_law_395 ?_
            refine nL_law_397 (by omega) (by omega) (by omega) ?_
            first | refine nL_law_398 ?_ | refine qL_law_398 ?_
            refine qL_law_399 ?_
            rw [i2l1 _ (by omega)]
            refine qL_law_400 (jW.ob h5) (Nat.le_of_ble_eq_true rfl) (putc h5 ho5 (by omega) (by omega) (by omega) (fun w6 h6 ho6 => ?_))
            refine qL_law_403 ?_
            refine nL_law_404 (by omega) (by omega) (fun h404 => by exfalso; omega) (fun h404 => ?_)
            refine K407 w6 _ (some (u / 10)) h6 ho6 hA5 (by rw [z1]; omega) ?_ (Or.inr ⟨u / 10, rfl, by omega, by omega⟩)
            rw [z1]
            refine pd_dig hp5 z3 z2 (by omega) ?_
            rcases ho with ⟨o1, o2⟩ | ⟨o1, o2⟩
            · exact Or.inl ⟨o1, by omega⟩
            · exact Or.inr ⟨u / 100, o1, by omega, by omega, by omega⟩
        have K356 : ∀ w5 s5, jW G w5 s5 f4 v co se → okS s5 → lA s5 = lA s → ln s5 ≤ 4 * i + 1 → pdS (lc s5) (ln s5) L none C i → wp G (d + 17) m_law P 356 [some (.ref (gb G)), some (.ref (gB G)), some (.ref (gB G + 92)), some (.ref (gB G + 93)), some (.ref (gB G + 94)), some (.ref (gB G + 95)), some (.int (nI t)), some (.int (x)), some (.int (y)), some (.int (nI kd)), some (.int (nI a)), some (.int (nI (12 * a))), l12, l13, l14, l15, some (.int (nI R)), some (.int (nI C)), some (.int (nI W)), some (.int (nI i)), some (.int (nI u)), l21, l22, l23, l24, l25] [] w5 (k1, k2) := by
          intro w5 s5 h5 ho5 hA5 hl5 hp5
          refine qL_law_356 ?_
          refine qL_law_358 ?_
          refine nL_law_360 (by omega) (by omega) (fun h360 => ?_) (fun h360 => ?_)
          · exact K380 w5 s5 none h5 ho5 hA5 (by omega) hp5 (Or.inl ⟨rfl, by omega⟩)
          · obtain ⟨z1, z2, z3⟩ := put_lc (s := s5) (ch := 48 + u / 100) (by omega) (by omega)
            refine qL_law_363 ?_
            refine qL_law_364 ?_
            refine qL_law_366 ?_
            refine qL_law_368 ?_
            refine nL_law_370 (by omega) (by omega) (by omega) ?_
            first | refine nL_law_371 ?_ | refine qL_law_371 ?_
            refine qL_law_372 ?_
            rw [i2l1 _ (by omega)]
            refine qL_law_373 (jW.ob h5) (Nat.le_of_ble_eq_true rfl) (putc h5 ho5 (by omega) (by omega) (by omega) (fun w6 h6 ho6 => ?_))
            refine qL_law_376 ?_
            refine nL_law_377 (by omega) (by omega) (fun h377 => by exfalso; omega) (fun h377 => ?_)
            refine K380 w6 _ (some (u / 100)) h6 ho6 hA5 (by rw [z1]; omega) ?_ (Or.inr ⟨rfl, h360⟩)
            rw [z1]
            exact pd_dig hp5 z3 z2 (by omega) (Or.inl ⟨rfl, rfl⟩)
        refine qL_law_326 ?_
        refine nL_law_328 (by omega) (fun h328 => ?_) (fun h328 => ?_)
        · have hi0 : i = 0 := by omega
          subst hi0
          have hL0 : L = [] := List.length_eq_zero_iff.mp hL
          refine K356 w4 s3 h4 ho3 hA3 (by omega) ?_
          rw [hL0]
          exact hz rfl
        · obtain ⟨L', uu, hLy⟩ : ∃ L' u, L = L' ++ [u] := by
            rcases List.eq_nil_or_concat L with hn | ⟨L', u, hn⟩
            · rw [hn] at hL
              simp at hL
              omega
            · exact ⟨L', u, by rw [hn, List.concat_eq_append]⟩
          have hp5 := hpd L' uu hLy
          have SEP : ∀ w6 ch, ch = (if i % C = 0 then 59 else 44) → jW G w6 (putS s3 ch) f4 v co se → okS (putS s3 ch) → wp G (d + 17) m_law P 352 [some (.ref (gb G)), some (.ref (gB G)), some (.ref (gB G + 92)), some (.ref (gB G + 93)), some (.ref (gB G + 94)), some (.ref (gB G + 95)), some (.int (nI t)), some (.int (x)), some (.int (y)), some (.int (nI kd)), some (.int (nI a)), some (.int (nI (12 * a))), l12, l13, l14, l15, some (.int (nI R)), some (.int (nI C)), some (.int (nI W)), some (.int (nI i)), some (.int (nI u)), l21, l22, l23, l24, l25] [.int (nI (ln s3 + 1))] w6 (k1, k2) := by
            intro w6 ch hch h6 ho6
            have hch2 : 33 ≤ ch ∧ ch ≤ 126 := by rw [hch]; split <;> omega
            obtain ⟨z1, z2, z3⟩ := put_lc (s := s3) (ch := ch) hch2.1 hch2.2
            refine qL_law_352 ?_
            refine nL_law_353 (by omega) (by omega) (fun h353 => by exfalso; omega) (fun h353 => ?_)
            refine K356 w6 _ h6 ho6 hA3 (by rw [z1]; omega) ?_
            rw [z1, hLy]
            have := pd_sep hp5 g1 z3 (by rw [z2, hch, show i - 1 + 1 = i by omega])
            rw [show i - 1 + 1 = i by omega] at this
            exact this
          have hmod : i % C < C := Nat.mod_lt _ (by omega)
          refine qL_law_331 ?_
          refine qL_law_332 ?_
          refine qL_law_334 ?_
          refine nL_law_336 (by omega) (by omega) (by omega) ?_
          refine nL_law_337 (by omega) (fun h337 => ?_) (fun h337 => ?_)
          · refine qL_law_346 ?_
            rw [show (44 : Int64) = lU 44 from rfl]
            refine qL_law_349 (jW.ob h4) (Nat.le_of_ble_eq_true rfl) (putc h4 ho3 (by omega) (by omega) (by omega) (fun w6 h6 ho6 => ?_))
            exact SEP w6 44 (by rw [if_neg h337]) h6 ho6
          · refine qL_law_340 ?_
            refine qL_law_343 ?_
            rw [show (59 : Int64) = lU 59 from rfl]
            refine qL_law_349 (jW.ob h4) (Nat.le_of_ble_eq_true rfl) (putc h4 ho3 (by omega) (by omega) (by omega) (fun w6 h6 ho6 => ?_))
            exact SEP w6 59 (by rw [if_pos h337]) h6 ho6
    refine qL_law_267 ?_
    refine qL_law_268 (jW.ob h) (Nat.le_of_ble_eq_true rfl) (t_wipe h.1 (fun w3 hF3 hc3 => ?_))
    have h3 := h.cl hF3 hc3
    have hp3 := h3.2.1
    refine qL_law_271 rfl ?_
    refine qL_law_272 ?_
    refine qL_law_273 ?_
    refine qL_law_275 ?_
    refine fL_law_277 (by assumption) (by omega) (by decide) ?_
    generalize hw4 : s_up w3 (gB G + 92) _ = w4
    have hp4 : w4.1 (gB G + 92) = aN G 36 (updN f (12 * a) R) := by rw [← hw4]; exact s_upS
    have h4 := h3.arr (by rw [← hw4]; exact Fr.rf.up rfl) hp4
    refine qL_law_278 ?_
    refine qL_law_279 ?_
    refine qL_law_281 ?_
    first | refine nL_law_282 ?_ | refine qL_law_282 ?_
    refine qL_law_283 ?_
    refine fL_law_285 (by assumption) (by omega) (by decide) ?_
    generalize hw5 : s_up w4 (gB G + 92) _ = w5
    have hp5 : w5.1 (gB G + 92) = aN G 36 (updN (updN f (12 * a) R) (12 * a + 1) C) := by rw [← hw5]; exact s_upS
    have h5 := h4.arr (by rw [← hw5]; exact Fr.rf.up rfl) hp5
    have o5 : ∀ q, updN (updN f (12 * a) R) (12 * a + 1) C q = if q = 12 * a + 1 then C else if q = 12 * a then R else f q := fun _ => rfl
    refine qL_law_286 ?_
    refine qL_law_287 ?_
    exact LP (R * C) 0 w5 (spWipe s) _ [] _ _ _ _ _ _ (by omega) h5 (ok_wipe hf.1) rfl rfl (fun q hq => absurd hq (Nat.not_lt_zero q)) (fun q hq => absurd hq (Nat.not_lt_zero q)) (by rw [o5, if_neg (by omega), if_pos rfl]) (by rw [o5, if_pos rfl]) (fun q hq => by rw [o5, if_neg (by omega), if_neg (by omega)]) (Nat.zero_le _) (fun _ => pd_0) (fun L' u hL' => by simp at hL')
  have LY : ∀ R C, 1 ≤ R → R ≤ 3 → 1 ≤ C → C ≤ 4 → R * C ≤ 9 → wp G (d + 17) m_law P 245 [some (.ref (gb G)), some (.ref (gB G)), some (.ref (gB G + 92)), some (.ref (gB G + 93)), some (.ref (gB G + 94)), some (.ref (gB G + 95)), some (.int (nI t)), some (.int (x)), some (.int (y)), some (.int (nI kd)), some (.int (nI a)), some (.int (nI (12 * a))), l12, l13, l14, l15, some (.int (nI R)), some (.int (nI C)), l18, l19, l20, l21, l22, l23, l24, l25] [] w (k1, k2) := by
    intro R C r1 r3 g1 g4 rc9
    refine qL_law_245 ?_
    refine qL_law_247 ?_
    refine qL_law_249 ?_
    refine qL_law_250 ?_
    refine qL_law_251 (Nat.le_of_ble_eq_true rfl) (l_low (by decide) (by decide) (fun ρ hρ => ?_))
    refine nL_law_254 (by omega) (fun h254 => ?_) (fun h254 => ?_)
    · refine qL_law_263 ?_
      refine qL_law_265 ?_
      exact LX R C 7 r1 r3 g1 g4 rc9 (by decide) (by decide)
    · refine qL_law_257 ?_
      refine qL_law_260 ?_
      refine qL_law_265 ?_
      exact LX R C 1000 r1 r3 g1 g4 rc9 (by decide) (by decide)
  refine qL_law_213 ?_
  refine qL_law_214 ?_
  refine qL_law_216 ?_
  refine qL_law_217 (Nat.le_of_ble_eq_true rfl) (l_low (by decide) (by decide) (fun r hr => ?_))
  first | refine nL_law_220 ?_ | refine qL_law_220 ?_
  refine qL_law_221 ?_
  refine qL_law_223 ?_
  refine qL_law_224 ?_
  refine qL_law_226 ?_
  refine qL_law_227 ?_
  refine qL_law_228 ?_
  refine qL_law_230 ?_
  refine nL_law_231 (by omega) (by omega) (fun h231 => ?_) (fun h231 => ?_)
  · refine qL_law_238 ?_
    refine qL_law_239 (Nat.le_of_ble_eq_true rfl) (l_low (by decide) (by decide) (fun g hg => ?_))
    first | refine nL_law_242 ?_ | refine qL_law_242 ?_
    refine qL_law_243 ?_
    refine LY (1 + r) (1 + g) (by omega) (by omega) (by omega) (by omega) ?_
    have : (1 + r) * (1 + g) ≤ 2 * 4 := Nat.mul_le_mul (by omega) (by omega)
    omega
  · refine qL_law_234 ?_
    refine qL_law_235 ?_
    refine qL_law_239 (Nat.le_of_ble_eq_true rfl) (l_low (by decide) (by decide) (fun g hg => ?_))
    first | refine nL_law_242 ?_ | refine qL_law_242 ?_
    refine qL_law_243 ?_
    refine LY (1 + r) (1 + g) (by omega) (by omega) (by omega) (by omega) ?_
    have : (1 + r) * (1 + g) ≤ 3 * 3 := Nat.mul_le_mul (by omega) (by omega)
    omega
end LLOAD
