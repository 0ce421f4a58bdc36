/-! the reference: canTouch, byCovers, cover, ranks, what if -/
theorem scM.tch {G : sG} {D : Nat} {w w' : sW} {S : Nat → Prop} (h : scM G w D) (hF : Fr w w' S) (hd : ∀ q, D + 6 ≤ q → q < D + 9 → ¬ S q) (h1 : ∃ f, w'.1 (D + 9) = aN G 4096 f) (h2 : ∃ f, w'.1 (D + 10) = aN G 4096 f) (h3 : ∃ f, w'.1 (D + 11) = aI G 16 f) (h4 : ∃ f, w'.1 (D + 12) = aN G 12 f) : scM G w' D := by
  obtain ⟨⟨f1, g1⟩, ⟨f2, g2⟩, ⟨f3, g3⟩, _⟩ := h
  exact ⟨⟨f1, by rw [hF.2 _ (hd _ (by omega) (by omega))]; exact g1⟩, ⟨f2, by rw [hF.2 _ (hd _ (by omega) (by omega))]; exact g2⟩, ⟨f3, by rw [hF.2 _ (hd _ (by omega) (by omega))]; exact g3⟩, h1, h2, h3, h4⟩
theorem cn_tf {U : Nat → Bool} (n : Nat) : n + 1 - cnB U (n + 1) = n - cnB U n + tf (!U n) := by
  have h := cnB_le U n
  simp only [cnB]
  cases hq : U n with
  | true => simp [tf]
  | false => simp [tf]; omega
section REFQ
variable {G : sG} {d D : Nat} {P : sQ} {w : sW} {v : M7} {st : Nat → Nat} {s : xS}
theorem m_canTouch {x y : Int32} (h : mdAt G w D s) (ho : okS s) (k : ∀ w', Fr w w' (sD D) → mdAt G w' D s → P (some (.int (spCanTouch s x y))) w') : wpM G (d + 4) yX10_canTouch (0, 0) [.ref D, .int x, .int y] w P := by
  obtain ⟨⟨v, o1, o2, o3⟩, ⟨st, p1, p2⟩, _, _, _, _, p7⟩ := id h
  have hok := p2.ok ho.1
  unfold spCanTouch at k
  refine eX10_canTouch ?_
  refine qX10_canTouch_0 ?_
  refine qX10_canTouch_1 (Nat.le_of_ble_eq_true rfl) (m_isArray (fun i hi hx => ?_) (fun hx => ?_))
  · subst hx
    obtain ⟨e1, e2, e3⟩ := p2 i hi
    have e1 : rR st i = _ := e1
    have e2 : rC st i = _ := e2
    have e3 : ∀ q, q < (lA s i).1 * (lA s i).2.1 → rE st i q = (lA s i).2.2 q := e3
    have hd : okD (rR st i) (rC st i) := (hok i hi).1
    have ha : ∀ q, q < rR st i * rC st i → rE st i q ≤ 999 := (hok i hi).2
    have hsz := hd.2.2.2.2
    have hp : 2 ^ (rR st i * rC st i) ≤ 4096 := Nat.pow_le_pow_right (n := 2) (by decide) hsz
    have hp0 := Nat.two_pow_pos (rR st i * rC st i)
    rw [nN_nI (by omega), cIf_t (inB_nI hi), ← untN_cong e3, ← e1, ← e2] at k
    refine nX10_canTouch_4 (by omega) (fun h4 => ?_) (fun h4 => by exfalso; omega)
    refine qX10_canTouch_9 ?_
    refine qX10_canTouch_10 ?_
    refine qX10_canTouch_11 ?_
    refine qX10_canTouch_12 ?_
    refine qX10_canTouch_13 ?_
    refine qX10_canTouch_14 (by assumption) (Nat.le_of_ble_eq_true rfl) (m_entriesOf o1 p1 hi ?_)
    refine nX10_canTouch_17 (by omega) (by omega) ?_
    rw [Nat.one_shiftLeft]
    refine qX10_canTouch_18 ?_
    first | refine nX10_canTouch_19 (by omega) ?_ | refine qX10_canTouch_19 ?_
    refine qX10_canTouch_20 (Nat.le_of_ble_eq_true rfl) (m_within0 (by omega) (fun S hS hy => ?_) (fun hno => ?_))
    · subst hy
      have hS : S < 2 ^ (rR st i * rC st i) := by omega
      rw [cIf_t (inB_nI hS), nN_nI (by omega)] at k
      refine nX10_canTouch_23 (by omega) (fun h23 => ?_) (fun h23 => by exfalso; omega)
      refine qX10_canTouch_29 ?_
      refine qX10_canTouch_30 ?_
      refine qX10_canTouch_31 ?_
      refine qX10_canTouch_32 (by assumption) (Nat.le_of_ble_eq_true rfl) (m_isTouchable o1 p1 p7.2.2.2.2.2.1 hi (hok i hi) (by omega) (fun w1 hF1 hst => ?_))
      rw [tch_eq hd ha hS]
      obtain ⟨_, _, _, ⟨f4, h4⟩, ⟨f5, h5⟩, _, f7, h7⟩ := id p7
      have kk := k w1 (hF1.mono (fun q hq => by unfold sD; omega)) (h.scr (hF1.mono (fun q hq => by omega)) ⟨v, (hF1.2 D (by omega)).trans o1, o2, o3⟩ (p7.tch hF1 (fun q a1 a2 => by omega) ⟨f4, by rw [hF1.2 _ (by omega)]; exact h4⟩ ⟨f5, by rw [hF1.2 _ (by omega)]; exact h5⟩ hst ⟨f7, by rw [hF1.2 _ (by omega)]; exact h7⟩))
      cases hu : untN (rR st i) (rC st i) (rE st i) S with
      | true =>
        rw [hu, if_pos rfl] at kk
        show wp G (d + 3) mX10_canTouch P 35 _ (.int (nI 0) :: []) w1 (0, 0)
        refine nX10_canTouch_35 (by omega) (fun h35 => ?_) (fun h35 => by exfalso; omega)
        refine qX10_canTouch_42 ?_
        refine qX10_canTouch_43 ?_
        exact kk
      | false =>
        rw [hu, if_neg (by decide)] at kk
        show wp G (d + 3) mX10_canTouch P 35 _ (.int (nI 1) :: []) w1 (0, 0)
        refine nX10_canTouch_35 (by omega) (fun h35 => by exfalso; omega) (fun h35 => ?_)
        refine qX10_canTouch_38 ?_
        refine qX10_canTouch_39 ?_
        refine qX10_canTouch_43 ?_
        exact kk
    · rw [cIf_f (fun e => hno (by rw [show 2 ^ (rR st i * rC st i) - 1 + 1 = 2 ^ (rR st i * rC st i) by omega]; exact e))] at k
      refine nX10_canTouch_23 (by omega) (fun h23 => by exfalso; omega) (fun h23 => ?_)
      refine qX10_canTouch_26 ?_
      refine qX10_canTouch_28 ?_
      exact k w Fr.rf h
  · rw [cIf_f hx] at k
    refine nX10_canTouch_4 (by omega) (fun h4 => by exfalso; omega) (fun h4 => ?_)
    refine qX10_canTouch_7 ?_
    refine qX10_canTouch_8 ?_
    exact k w Fr.rf h
theorem m_touchedMany {i : Nat} {U : Nat → Bool} {tc : Nat → Nat} (h : mO w D v) (hs : w.1 (D + 1) = aN G 42 st) (hi : i < 3) (hd : okD (rR st i) (rC st i)) (htc : w.1 (D + 9) = aN G 4096 tc) (hv : ∀ T, T < 2 ^ (rR st i * rC st i) → tc T = tf (!U T)) (k : P (some (.int (nI (2 ^ (rR st i * rC st i) - cnB U (2 ^ (rR st i * rC st i)))))) w) : wpM G (d + 3) yX10_touchedMany (0, 0) [.ref D, .int (nI i)] w P := by
  have hsz := hd.2.2.2.2
  have hp : 2 ^ (rR st i * rC st i) ≤ 4096 := Nat.pow_le_pow_right (n := 2) (by decide) hsz
  refine eX10_touchedMany ?_
  refine qX10_touchedMany_0 ?_
  refine qX10_touchedMany_1 ?_
  refine qX10_touchedMany_2 ?_
  refine qX10_touchedMany_3 ?_
  have L : ∀ m S, S + m = 2 ^ (rR st i * rC st i) → wp G (d + 2) mX10_touchedMany P 4 [some (.ref D), some (.int (nI i)), some (.int (nI (S - cnB U S))), some (.int (nI S))] [] w (0, 0) := by
    intro m
    induction m with
    | zero =>
      intro S hS
      refine qX10_touchedMany_4 ?_
      refine qX10_touchedMany_5 ?_
      refine qX10_touchedMany_6 ?_
      refine qX10_touchedMany_7 ?_
      refine qX10_touchedMany_8 (by assumption) (Nat.le_of_ble_eq_true rfl) (m_entriesOf h hs hi ?_)
      refine nX10_touchedMany_11 (by omega) (by omega) ?_
      rw [Nat.one_shiftLeft]
      refine nX10_touchedMany_12 (by omega) (by omega) (fun h12 => ?_) (fun h12 => by exfalso; omega)
      refine qX10_touchedMany_30 ?_
      refine qX10_touchedMany_31 ?_
      rw [show S = 2 ^ (rR st i * rC st i) by omega]
      exact k
    | succ m ih =>
      intro S hS
      have nx := ih (S + 1) (by omega)
      rw [cn_tf, ← hv S (by omega)] at nx
      refine qX10_touchedMany_4 ?_
      refine qX10_touchedMany_5 ?_
      refine qX10_touchedMany_6 ?_
      refine qX10_touchedMany_7 ?_
      refine qX10_touchedMany_8 (by assumption) (Nat.le_of_ble_eq_true rfl) (m_entriesOf h hs hi ?_)
      refine nX10_touchedMany_11 (by omega) (by omega) ?_
      rw [Nat.one_shiftLeft]
      refine nX10_touchedMany_12 (by omega) (by omega) (fun h12 => by exfalso; omega) (fun h12 => ?_)
      refine qX10_touchedMany_15 ?_
      refine qX10_touchedMany_16 ?_
      refine qX10_touchedMany_17 (by assumption) ?_
      refine qX10_touchedMany_20 ?_
      refine fX10_touchedMany_21 htc (by omega) (by decide) ?_
      first | refine nX10_touchedMany_22 ?_ | refine qX10_touchedMany_22 ?_
      refine qX10_touchedMany_23 ?_
      first | refine nX10_touchedMany_24 ?_ | refine qX10_touchedMany_24 ?_
      refine qX10_touchedMany_27 ?_
      exact nx
  exact L (2 ^ (rR st i * rC st i)) 0 (by omega)
theorem m_greatestTouched {i : Nat} {U : Nat → Bool} {tc : Nat → Nat} (h : mO w D v) (hs : w.1 (D + 1) = aN G 42 st) (hi : i < 3) (hd : okD (rR st i) (rC st i)) (htc : w.1 (D + 9) = aN G 4096 tc) (hv : ∀ T, T < 2 ^ (rR st i * rC st i) → tc T = tf (!U T)) (k : P (some (.int (nI (grS U (2 ^ (rR st i * rC st i)))))) w) : wpM G (d + 3) yX10_greatestTouched (0, 0) [.ref D, .int (nI i)] w P := by
  have hsz := hd.2.2.2.2
  have hp : 2 ^ (rR st i * rC st i) ≤ 4096 := Nat.pow_le_pow_right (n := 2) (by decide) hsz
  refine eX10_greatestTouched ?_
  refine qX10_greatestTouched_0 ?_
  refine qX10_greatestTouched_1 ?_
  refine qX10_greatestTouched_2 ?_
  refine qX10_greatestTouched_3 ?_
  have L : ∀ m S, S + m = 2 ^ (rR st i * rC st i) → wp G (d + 2) mX10_greatestTouched P 4 [some (.ref D), some (.int (nI i)), some (.int (nI (grS U S))), some (.int (nI S))] [] w (0, 0) := by
    intro m
    induction m with
    | zero =>
      intro S hS
      refine qX10_greatestTouched_4 ?_
      refine qX10_greatestTouched_5 ?_
      refine qX10_greatestTouched_6 ?_
      refine qX10_greatestTouched_7 ?_
      refine qX10_greatestTouched_8 (by assumption) (Nat.le_of_ble_eq_true rfl) (m_entriesOf h hs hi ?_)
      refine nX10_greatestTouched_11 (by omega) (by omega) ?_
      rw [Nat.one_shiftLeft]
      refine nX10_greatestTouched_12 (by omega) (by omega) (fun h12 => ?_) (fun h12 => by exfalso; omega)
      refine qX10_greatestTouched_48 ?_
      refine qX10_greatestTouched_49 ?_
      rw [show S = 2 ^ (rR st i * rC st i) by omega]
      exact k
    | succ m ih =>
      intro S hS
      have nx := ih (S + 1) (by omega)
      simp only [grS] at nx
      have hg := grS_le (U := U) S
      have hb := bcN_le S
      refine qX10_greatestTouched_4 ?_
      refine qX10_greatestTouched_5 ?_
      refine qX10_greatestTouched_6 ?_
      refine qX10_greatestTouched_7 ?_
      refine qX10_greatestTouched_8 (by assumption) (Nat.le_of_ble_eq_true rfl) (m_entriesOf h hs hi ?_)
      refine nX10_greatestTouched_11 (by omega) (by omega) ?_
      rw [Nat.one_shiftLeft]
      refine nX10_greatestTouched_12 (by omega) (by omega) (fun h12 => by exfalso; omega) (fun h12 => ?_)
      refine qX10_greatestTouched_15 ?_
      refine qX10_greatestTouched_16 (by assumption) ?_
      refine qX10_greatestTouched_19 ?_
      refine fX10_greatestTouched_20 htc (by omega) (by decide) ?_
      rw [hv S (by omega)]
      refine qX10_greatestTouched_21 ?_
      cases hu : U S with
      | true =>
        rw [if_neg (fun z => by rw [hu] at z; exact absurd z.2 (by decide))] at nx
        show wp G (d + 2) mX10_greatestTouched P 22 _ (.int (nI 1) :: .int (nI 0) :: []) w (0, 0)
        refine nX10_greatestTouched_22 (by omega) (by omega) (fun h22 => ?_) (fun h22 => by exfalso; omega)
        refine qX10_greatestTouched_40 ?_
        refine qX10_greatestTouched_41 ?_
        first | refine nX10_greatestTouched_42 ?_ | refine qX10_greatestTouched_42 ?_
        refine qX10_greatestTouched_45 ?_
        exact nx
      | false =>
        show wp G (d + 2) mX10_greatestTouched P 22 _ (.int (nI 1) :: .int (nI 1) :: []) w (0, 0)
        refine nX10_greatestTouched_22 (by omega) (by omega) (fun h22 => by exfalso; omega) (fun h22 => ?_)
        refine qX10_greatestTouched_25 ?_
        refine qX10_greatestTouched_26 (Nat.le_of_ble_eq_true rfl) (m_bits (by omega) ?_)
        refine qX10_greatestTouched_29 ?_
        refine nX10_greatestTouched_30 (by omega) (by omega) (fun h30 => ?_) (fun h30 => ?_)
        · rw [if_neg (fun z => by omega)] at nx
          refine qX10_greatestTouched_40 ?_
          refine qX10_greatestTouched_41 ?_
          first | refine nX10_greatestTouched_42 ?_ | refine qX10_greatestTouched_42 ?_
          refine qX10_greatestTouched_45 ?_
          exact nx
        · rw [if_pos ⟨h30, hu⟩] at nx
          refine qX10_greatestTouched_33 ?_
          refine qX10_greatestTouched_34 (Nat.le_of_ble_eq_true rfl) (m_bits (by omega) ?_)
          refine qX10_greatestTouched_37 ?_
          refine qX10_greatestTouched_41 ?_
          first | refine nX10_greatestTouched_42 ?_ | refine qX10_greatestTouched_42 ?_
          refine qX10_greatestTouched_45 ?_
          exact nx
  exact L (2 ^ (rR st i * rC st i)) 0 (by omega)
theorem m_byCovers {x y : Int32} (h : mdAt G w D s) (ho : okS s) (k : ∀ w', Fr w w' (sD D) → mdAt G w' D s → P (some (.int (spByCovers s x y))) w') : wpM G (d + 6) yX10_byCovers (0, 0) [.ref D, .int x, .int y] w P := by
  obtain ⟨⟨v, o1, o2, o3⟩, ⟨st, p1, p2⟩, _, _, _, _, p7⟩ := id h
  have hok := p2.ok ho.1
  unfold spByCovers at k
  refine eX10_byCovers ?_
  refine qX10_byCovers_0 ?_
  refine qX10_byCovers_1 (Nat.le_of_ble_eq_true rfl) (m_isArray (fun i hi hx => ?_) (fun hx => ?_))
  · subst hx
    obtain ⟨e1, e2, e3⟩ := p2 i hi
    have e1 : rR st i = _ := e1
    have e2 : rC st i = _ := e2
    have e3 : ∀ q, q < (lA s i).1 * (lA s i).2.1 → rE st i q = (lA s i).2.2 q := e3
    have hd : okD (rR st i) (rC st i) := (hok i hi).1
    rw [nN_nI (by omega), cIf_t (inB_nI hi), ← untN_cong e3, ← e1, ← e2] at k
    refine nX10_byCovers_4 (by omega) (fun h4 => ?_) (fun h4 => by exfalso; omega)
    refine qX10_byCovers_9 ?_
    refine qX10_byCovers_10 ?_
    refine qX10_byCovers_11 ?_
    refine qX10_byCovers_12 (Nat.le_of_ble_eq_true rfl) (m_within0 (by decide) (fun u hu hq => ?_) (fun hno => ?_))
    · subst hq
      have hu : u < 3 := hu
      rw [cIf_t (inB_nI hu)] at k
      refine nX10_byCovers_15 (by omega) (fun h15 => ?_) (fun h15 => by exfalso; omega)
      refine qX10_byCovers_21 ?_
      refine qX10_byCovers_22 ?_
      refine qX10_byCovers_23 (by assumption) (Nat.le_of_ble_eq_true rfl) (m_findFewest o1 p1 p7.2.2.2.1 p7.2.2.2.2.1 p7.2.2.2.2.2.1 hi (hok i hi) (fun w1 tc hF1 htc htcv hfw hst => ?_))
      have m1 : mO w1 D v := (hF1.2 D (by omega)).trans o1
      have q1 : w1.1 (D + 1) = aN G 42 st := by rw [hF1.2 _ (by omega)]; exact p1
      obtain ⟨_, _, _, _, _, _, f7, h7⟩ := id p7
      have kk := k w1 (hF1.mono (fun q hq => by unfold sD; omega)) (h.scr (hF1.mono (fun q hq => by omega)) ⟨v, m1, o2, o3⟩ (p7.tch hF1 (fun q a1 a2 => by omega) ⟨tc, htc⟩ hfw hst ⟨f7, by rw [hF1.2 _ (by omega)]; exact h7⟩))
      refine qX10_byCovers_26 ?_
      refine qX10_byCovers_27 ?_
      rcases (show u = 0 ∨ u = 1 ∨ u = 2 by omega) with rfl | rfl | rfl
      · rw [cIf_t rfl] at kk
        refine nX10_byCovers_28 (by omega) (fun h28 => by exfalso; omega) (fun h28 => ?_)
        refine qX10_byCovers_31 ?_
        refine qX10_byCovers_32 ?_
        refine qX10_byCovers_53 ?_
        exact kk
      · rw [cIf_f (by decide), cIf_t rfl] at kk
        refine nX10_byCovers_28 (by omega) (fun h28 => ?_) (fun h28 => by exfalso; omega)
        refine qX10_byCovers_35 ?_
        refine qX10_byCovers_36 ?_
        refine nX10_byCovers_37 (by omega) (by omega) (fun h37 => by exfalso; omega) (fun h37 => ?_)
        refine qX10_byCovers_40 ?_
        refine qX10_byCovers_41 ?_
        refine qX10_byCovers_42 (by assumption) (Nat.le_of_ble_eq_true rfl) (m_touchedMany m1 q1 hi hd htc htcv ?_)
        refine qX10_byCovers_45 ?_
        refine qX10_byCovers_53 ?_
        exact kk
      · rw [cIf_f (by decide), cIf_f (by decide)] at kk
        refine nX10_byCovers_28 (by omega) (fun h28 => ?_) (fun h28 => by exfalso; omega)
        refine qX10_byCovers_35 ?_
        refine qX10_byCovers_36 ?_
        refine nX10_byCovers_37 (by omega) (by omega) (fun h37 => ?_) (fun h37 => by exfalso; omega)
        refine qX10_byCovers_48 ?_
        refine qX10_byCovers_49 ?_
        refine qX10_byCovers_50 (by assumption) (Nat.le_of_ble_eq_true rfl) (m_greatestTouched m1 q1 hi hd htc htcv ?_)
        refine qX10_byCovers_53 ?_
        exact kk
    · rw [cIf_f hno] at k
      refine nX10_byCovers_15 (by omega) (fun h15 => by exfalso; omega) (fun h15 => ?_)
      refine qX10_byCovers_18 ?_
      refine qX10_byCovers_20 ?_
      exact k w Fr.rf h
  · rw [cIf_f hx] at k
    refine nX10_byCovers_4 (by omega) (fun h4 => by exfalso; omega) (fun h4 => ?_)
    refine qX10_byCovers_7 ?_
    refine qX10_byCovers_8 ?_
    exact k w Fr.rf h
theorem m_cover {x y : Int32} (h : mdAt G w D s) (ho : okS s) (k : ∀ w', Fr w w' (sD D) → mdAt G w' D s → P (some (.int (spCover s x y))) w') : wpM G (d + 6) yX10_cover (0, 0) [.ref D, .int x, .int y] w P := by
  obtain ⟨⟨v, o1, o2, o3⟩, ⟨st, p1, p2⟩, _, _, _, _, p7⟩ := id h
  have hok := p2.ok ho.1
  unfold spCover at k
  refine eX10_cover ?_
  refine qX10_cover_0 ?_
  refine qX10_cover_1 (Nat.le_of_ble_eq_true rfl) (m_isArray (fun i hi hx => ?_) (fun hx => ?_))
  · subst hx
    obtain ⟨e1, e2, e3⟩ := p2 i hi
    have e1 : rR st i = _ := e1
    have e2 : rC st i = _ := e2
    have e3 : ∀ q, q < (lA s i).1 * (lA s i).2.1 → rE st i q = (lA s i).2.2 q := e3
    have hd : okD (rR st i) (rC st i) := (hok i hi).1
    have hsz := hd.2.2.2.2
    have hn1 : 1 ≤ rR st i * rC st i := Nat.mul_le_mul hd.1 hd.2.2.1
    rw [nN_nI (by omega), ← untN_cong e3, ← e1, ← e2] at k
    refine nX10_cover_4 (by omega) (fun h4 => by exfalso; omega) (fun h4 => ?_)
    refine qX10_cover_7 ?_
    refine qX10_cover_8 ?_
    refine qX10_cover_9 ?_
    refine qX10_cover_10 ?_
    refine qX10_cover_11 (by assumption) (Nat.le_of_ble_eq_true rfl) (m_entriesOf o1 p1 hi ?_)
    refine qX10_cover_14 ?_
    first | refine nX10_cover_15 (by omega) ?_ | refine qX10_cover_15 ?_
    refine qX10_cover_16 (Nat.le_of_ble_eq_true rfl) (m_within0 (by omega) (fun c hc hy => ?_) (fun hno => ?_))
    · subst hy
      have hc : c < rR st i * rC st i := by omega
      rw [cIf_t ⟨inB_nI hi, inB_nI hc⟩, nN_nI (by omega)] at k
      obtain ⟨l, l1, l2, l3⟩ := ff_ok (a := rE st i) hd
      rw [l1] at k
      refine nX10_cover_19 (by omega) (fun h19 => ?_) (fun h19 => by exfalso; omega)
      refine qX10_cover_24 ?_
      refine qX10_cover_25 ?_
      refine qX10_cover_26 ?_
      refine qX10_cover_27 ?_
      refine qX10_cover_28 (by assumption) (Nat.le_of_ble_eq_true rfl) (m_findFewest o1 p1 p7.2.2.2.1 p7.2.2.2.2.1 p7.2.2.2.2.2.1 hi (hok i hi) (fun w1 tc hF1 htc htcv hfw hst => ?_))
      have m1 : mO w1 D v := (hF1.2 D (by omega)).trans o1
      have q1 : w1.1 (D + 1) = aN G 42 st := by rw [hF1.2 _ (by omega)]; exact p1
      obtain ⟨_, _, _, _, _, _, f7, h7⟩ := id p7
      refine qX10_cover_31 (by assumption) (Nat.le_of_ble_eq_true rfl) ((wpM_cast (show d + 2 + 3 = d + 5 from rfl) (m_findCover m1 q1 hi rfl hsz hn1 (by omega) htc htcv ⟨f7, by rw [hF1.2 _ (by omega)]; exact h7⟩ l2 (fun w2 nm hF2 hnm hnv hnb => ?_))))
      have m2 : mO w2 D v := (hF2.2 D (by omega)).trans m1
      have hF3 : Fr w w2 (fun q => q = D + 9 ∨ q = D + 10 ∨ q = D + 11 ∨ q = D + 12) := (hF1.mono (fun q hq => by omega)).tr hF2 (fun q hq => by omega)
      have hnc := hnv c hc
      refine qX10_cover_34 ?_
      refine qX10_cover_35 (by assumption) ?_
      refine qX10_cover_38 ?_
      refine fX10_cover_39 hnm (by omega) (by decide) ?_
      refine qX10_cover_40 ?_
      rw [hnc]
      refine k w2 (hF3.mono (fun q hq => by unfold sD; omega)) (h.scr (hF3.mono (fun q hq => by omega)) ⟨v, m2, o2, o3⟩ (p7.tch hF3 (fun q a1 a2 => by omega) ⟨tc, by rw [hF2.2 _ (by omega)]; exact htc⟩ ?_ ?_ ⟨nm, hnm⟩))
      · obtain ⟨f, hf⟩ := hfw
        exact ⟨f, by rw [hF2.2 _ (by omega)]; exact hf⟩
      · obtain ⟨f, hf⟩ := hst
        exact ⟨f, by rw [hF2.2 _ (by omega)]; exact hf⟩
    · rw [cIf_f (fun e => hno (by rw [show rR st i * rC st i - 1 + 1 = rR st i * rC st i by omega]; exact e.2))] at k
      refine nX10_cover_19 (by omega) (fun h19 => by exfalso; omega) (fun h19 => ?_)
      refine qX10_cover_22 ?_
      refine qX10_cover_23 ?_
      exact k w Fr.rf h
  · rw [cIf_f (fun e => hx e.1)] at k
    refine nX10_cover_4 (by omega) (fun h4 => ?_) (fun h4 => by exfalso; omega)
    refine qX10_cover_22 ?_
    refine qX10_cover_23 ?_
    exact k w Fr.rf h
def sR (D : Nat) : Nat → Prop := fun q => q = D ∨ q = D + 1 ∨ (D + 6 ≤ q ∧ q < D + 13)
theorem m_rankOf {i kd n m : Nat} {t : Nat → GV} (hkd : kd < 4) (h : mdO w D n m) (hs : stP G w (D + 1) t) (ht : okT t) (hsc : scM G w D) (hi : i < 3) (k : ∀ w', Fr w w' (sR D) → mdO w' D n m → stP G w' (D + 1) t → scM G w' D → P (some (.int (nI (rkN kd (t i).1 (t i).2.1 (t i).2.2)))) w') : wpM G (d + 7) yX10_rankOf (0, 0) [.ref D, .int (nI i), .int (nI kd)] w P := by
  obtain ⟨v, o1, o2, o3⟩ := h
  obtain ⟨st, p1, p2⟩ := id hs
  have hok := p2.ok ht
  obtain ⟨e1, e2, e3⟩ := p2 i hi
  have e1 : rR st i = _ := e1
  have e2 : rC st i = _ := e2
  have e3 : ∀ q, q < (t i).1 * (t i).2.1 → rE st i q = (t i).2.2 q := e3
  have g5 := (ht i hi).1
  have sb : ∀ (b : Bool) (w1 : sW), Fr w w1 (fun q => q = D + 1 ∨ q = D + 6) → stP G w1 (D + 1) t → (∃ f, w1.1 (D + 6) = aN G 48 f) → Fr w w1 (sR D) ∧ mdO w1 D n m ∧ scM G w1 D := by
    intro b w1 hF1 hs1 ht1
    obtain ⟨_, ⟨f2, h2⟩, ⟨f3, h3⟩, ⟨f4, h4⟩, ⟨f5, h5⟩, ⟨f6, h6⟩, f7, h7⟩ := hsc
    exact ⟨hF1.mono (fun q hq => by unfold sR; omega), ⟨v, (hF1.2 D (by omega)).trans o1, o2, o3⟩, ht1, ⟨f2, by rw [hF1.2 _ (by omega)]; exact h2⟩, ⟨f3, by rw [hF1.2 _ (by omega)]; exact h3⟩, ⟨f4, by rw [hF1.2 _ (by omega)]; exact h4⟩, ⟨f5, by rw [hF1.2 _ (by omega)]; exact h5⟩, ⟨f6, by rw [hF1.2 _ (by omega)]; exact h6⟩, f7, by rw [hF1.2 _ (by omega)]; exact h7⟩
  refine eX10_rankOf ?_
  refine qX10_rankOf_0 ?_
  rcases (show kd = 0 ∨ kd = 1 ∨ kd = 2 ∨ kd = 3 by omega) with rfl | rfl | rfl | rfl
  · refine qX10_rankOf_1_0 ?_
    refine qX10_rankOf_28 ?_
    refine qX10_rankOf_29 ?_
    refine qX10_rankOf_30 ?_
    refine qX10_rankOf_31 (by assumption) (Nat.le_of_ble_eq_true rfl) (m_regular (by decide) o1 p1 hsc.2.2.1 hi (hok i hi) (fun w1 r5 r6 r7 hF1 m1 hw1 => ?_))
    refine qX10_rankOf_34 ?_
    rw [e1, e2, ptN_cong e3]
    exact k w1 (hF1.mono (fun q hq => by unfold sR; omega)) ⟨_, m1, o2, o3⟩ (hs.fr hF1 (by omega)) (hsc.wys hF1 hw1)
  · refine qX10_rankOf_1_1 ?_
    refine qX10_rankOf_35 ?_
    refine qX10_rankOf_36 ?_
    refine qX10_rankOf_37 (by assumption) (Nat.le_of_ble_eq_true rfl) (m_findFewest o1 p1 hsc.2.2.2.1 hsc.2.2.2.2.1 hsc.2.2.2.2.2.1 hi (hok i hi) (fun w1 tc hF1 htc htcv hfw hst => ?_))
    refine qX10_rankOf_40 ?_
    obtain ⟨_, _, _, _, _, _, f7, h7⟩ := id hsc
    rw [e1, e2, untN_cong e3]
    exact k w1 (hF1.mono (fun q hq => by unfold sR; omega)) ⟨v, (hF1.2 D (by omega)).trans o1, o2, o3⟩ (hs.fr hF1 (by omega)) (hsc.tch hF1 (fun q a1 a2 => by omega) ⟨tc, htc⟩ hfw hst ⟨f7, by rw [hF1.2 _ (by omega)]; exact h7⟩)
  · refine qX10_rankOf_1_2 ?_
    refine qX10_rankOf_41 ?_
    refine qX10_rankOf_42 ?_
    refine qX10_rankOf_43 ?_
    refine qX10_rankOf_44 (by assumption) (Nat.le_of_ble_eq_true rfl) (m_stayingBy false o1 hs ht hsc.1 hi (fun w1 hF1 hs1 ht1 => ?_))
    have hm := nlN_lt (b := false) (a := (t i).2.2) g5
    obtain ⟨a1, a2, a3⟩ := sb false w1 hF1 hs1 ht1
    refine qX10_rankOf_47 (Nat.le_of_ble_eq_true rfl) (m_bits (by omega) ?_)
    refine qX10_rankOf_50 ?_
    exact k w1 a1 a2 hs1 a3
  · refine qX10_rankOf_1_d (by decide) ?_
    refine qX10_rankOf_51 ?_
    refine qX10_rankOf_52 ?_
    refine qX10_rankOf_53 ?_
    refine qX10_rankOf_54 (by assumption) (Nat.le_of_ble_eq_true rfl) (m_stayingBy true o1 hs ht hsc.1 hi (fun w1 hF1 hs1 ht1 => ?_))
    have hm := nlN_lt (b := true) (a := (t i).2.2) g5
    obtain ⟨a1, a2, a3⟩ := sb true w1 hF1 hs1 ht1
    refine qX10_rankOf_57 (Nat.le_of_ble_eq_true rfl) (m_bits (by omega) ?_)
    refine qX10_rankOf_60 ?_
    exact k w1 a1 a2 hs1 a3
theorem m_rankIf {i r c x kd n m : Nat} {t : Nat → GV} (hkd : kd < 4) (hx : x ≤ 999) (h : mdO w D n m) (hs : stP G w (D + 1) t) (ht : okT t) (hsc : scM G w D) (hi : i < 3) (hr : r < (t i).1) (hc : c < (t i).2.1) (k : ∀ w', Fr w w' (sR D) → mdO w' D n m → stP G w' (D + 1) t → scM G w' D → P (some (.int (nI (rkN kd (t i).1 (t i).2.1 (updN (t i).2.2 (r * (t i).2.1 + c) x))))) w') : wpM G (d + 8) yX10_rankIf (0, 0) [.ref D, .int (nI i), .int (nI r), .int (nI c), .int (nI x), .int (nI kd)] w P := by
  obtain ⟨v, o1, o2, o3⟩ := id h
  obtain ⟨st, p1, p2⟩ := id hs
  obtain ⟨e1, e2, e3⟩ := p2 i hi
  have e2 : rC st i = _ := e2
  have e3 : ∀ q, q < (t i).1 * (t i).2.1 → rE st i q = (t i).2.2 q := e3
  have g5 := (ht i hi).1
  have hin := g5.in hr hc
  have hin12 := g5.in12 hr hc
  have h12 := g5.2.2.2.2
  refine eX10_rankIf ?_
  refine qX10_rankIf_0 ?_
  refine qX10_rankIf_1 ?_
  refine qX10_rankIf_2 ?_
  refine qX10_rankIf_3 ?_
  refine qX10_rankIf_4 (by assumption) (Nat.le_of_ble_eq_true rfl) (m_at o1 p1 hi (by rw [e2]; exact hin12) ?_)
  rw [e2, e3 _ hin]
  refine qX10_rankIf_7 ?_
  refine qX10_rankIf_9 ?_
  refine qX10_rankIf_10 ?_
  refine qX10_rankIf_11 ?_
  refine qX10_rankIf_12 ?_
  refine qX10_rankIf_13 ?_
  refine qX10_rankIf_15 (by assumption) (Nat.le_of_ble_eq_true rfl) (m_lay o1 p1 hi (by rw [e2]; exact hin12) ?_)
  rw [e2]
  generalize hw1 : s_up w (D + 1) _ = w1
  have hF1 : Fr w w1 (fun q => q = D + 1) := by rw [← hw1]; exact Fr.rf.up rfl
  have q1 : w1.1 (D + 1) = aN G 42 (updN st (14 * i + 2 + (r * (t i).2.1 + c)) x) := by rw [← hw1]; exact s_upS
  have hV1 : stV (updN st (14 * i + 2 + (r * (t i).2.1 + c)) x) (setA t i ((t i).1, (t i).2.1, updN (t i).2.2 (r * (t i).2.1 + c) x)) := by
    refine stV.ent p2 ht hi (fun q hq => by rw [updN_n (by omega)]) (fun q hq => ?_)
    show updN st (14 * i + 2 + (r * (t i).2.1 + c)) x (14 * i + 2 + q) = updN (t i).2.2 (r * (t i).2.1 + c) x q
    by_cases hqq : q = r * (t i).2.1 + c
    · subst hqq; rw [updN_s, updN_s]
    · rw [updN_n (by omega), updN_n hqq]; exact e3 q hq
  have hok1 : okT (setA t i ((t i).1, (t i).2.1, updN (t i).2.2 (r * (t i).2.1 + c) x)) := ht.set ⟨g5, updN_le (ht i hi).2 hx⟩
  have hmd1 : mdO w1 D n m := ⟨v, (hF1.2 D (by omega)).trans o1, o2, o3⟩
  have m1 : mO w1 D v := (hF1.2 D (by omega)).trans o1
  refine qX10_rankIf_18 ?_
  refine qX10_rankIf_19 ?_
  refine qX10_rankIf_20 ?_
  refine qX10_rankIf_22 (by assumption) (Nat.le_of_ble_eq_true rfl) (m_rankOf hkd hmd1 ⟨_, q1, hV1⟩ hok1 (hsc.fr hF1 (fun q a1 a2 => by omega)) hi (fun w2 hF2 hmd2 hs2 hsc2 => ?_))
  rw [setAs]
  obtain ⟨v2, o4, o5, o6⟩ := id hmd2
  obtain ⟨st2, q2, hV2⟩ := hs2
  obtain ⟨f1, f2, f3⟩ := hV2 i hi
  rw [setAs] at f1 f2 f3
  have f2 : rC st2 i = (t i).2.1 := f2
  have f3 : ∀ q, q < (t i).1 * (t i).2.1 → rE st2 i q = updN (t i).2.2 (r * (t i).2.1 + c) x q := f3
  refine qX10_rankIf_25 ?_
  refine qX10_rankIf_27 ?_
  refine qX10_rankIf_28 ?_
  refine qX10_rankIf_29 ?_
  refine qX10_rankIf_30 ?_
  refine qX10_rankIf_31 ?_
  refine qX10_rankIf_33 (by assumption) (Nat.le_of_ble_eq_true rfl) (m_lay o4 q2 hi (by rw [f2]; exact hin12) ?_)
  rw [f2]
  generalize hw3 : s_up w2 (D + 1) _ = w3
  have hF3 : Fr w2 w3 (fun q => q = D + 1) := by rw [← hw3]; exact Fr.rf.up rfl
  have q3 : w3.1 (D + 1) = aN G 42 (updN st2 (14 * i + 2 + (r * (t i).2.1 + c)) ((t i).2.2 (r * (t i).2.1 + c))) := by rw [← hw3]; exact s_upS
  refine qX10_rankIf_36 ?_
  refine qX10_rankIf_38 ?_
  refine k w3 (((hF1.mono (fun q hq => by unfold sR; omega)).tr hF2 (fun q hq => hq)).tr hF3 (fun q hq => by unfold sR; omega)) ⟨v2, (hF3.2 D (by omega)).trans o4, o5, o6⟩ ⟨_, q3, ?_⟩ (hsc2.fr hF3 (fun q a1 a2 => by omega))
  have hV3 := stV.ent (a := (t i).2.2) (st' := updN st2 (14 * i + 2 + (r * (t i).2.1 + c)) ((t i).2.2 (r * (t i).2.1 + c))) hV2 hok1 hi (fun q hq => by rw [updN_n (by omega)]) (fun q hq => by
    rw [setAs] at hq
    have hq : q < (t i).1 * (t i).2.1 := hq
    show updN st2 (14 * i + 2 + (r * (t i).2.1 + c)) _ (14 * i + 2 + q) = (t i).2.2 q
    by_cases hqq : q = r * (t i).2.1 + c
    · subst hqq; rw [updN_s]
    · rw [updN_n (by omega)]
      have := f3 q hq
      rw [updN_n hqq] at this
      exact this)
  rw [setAs] at hV3
  exact hV3.sub (fun j hj => setA2 j ⟨rfl, rfl, fun q hq => rfl⟩)
theorem mdAt.rk {w' : sW} (h : mdAt G w D s) (hF : Fr w w' (sR D)) (h1 : mdO w' D (lH s).length (ln s)) (h2 : stP G w' (D + 1) (lA s)) (h3 : scM G w' D) : mdAt G w' D s := by
  obtain ⟨_, _, g3, g4, g5, g6, _⟩ := h
  exact ⟨h1, h2, g3.fr hF (by unfold sR; omega), g4.fr hF (by unfold sR; omega), g5.fr hF (by unfold sR; omega), g6.fr hF (by unfold sR; omega), h3⟩
theorem m_ifSet {x y z u q : Int32} (h : mdAt G w D s) (ho : okS s) (k : ∀ w', Fr w w' (sD D) → mdAt G w' D s → P (some (.int (spIfSet s x y z u q))) w') : wpM G (d + 9) yX10_ifSet (0, 0) [.ref D, .int x, .int y, .int z, .int u, .int q] w P := by
  obtain ⟨hmo, hst, _, _, _, _, p7⟩ := id h
  obtain ⟨v, o1, o2, o3⟩ := id hmo
  obtain ⟨st, p1, p2⟩ := id hst
  have hok := p2.ok ho.1
  unfold spIfSet at k
  refine eX10_ifSet ?_
  refine qX10_ifSet_0 ?_
  refine qX10_ifSet_1 ?_
  refine qX10_ifSet_2 ?_
  refine qX10_ifSet_3 ?_
  refine qX10_ifSet_4 (by assumption) (Nat.le_of_ble_eq_true rfl) (m_isEntry o1 p1 hok (fun i r c hi hr hc hx hy hz => ?_) (fun hno => ?_))
  · subst hx
    subst hy
    subst hz
    obtain ⟨e1, e2, _⟩ := p2 i hi
    have e1 : rR st i = _ := e1
    have e2 : rC st i = _ := e2
    have g5 := (ho.1 i hi).1
    rw [e1] at hr
    rw [e2] at hc
    have b1 := g5.2.1
    have b2 := g5.2.2.2.1
    rw [nN_nI (by omega), nN_nI (by omega), nN_nI (by omega), cIf_t ⟨inB_nI hi, inB_nI hr, inB_nI hc⟩] at k
    refine nX10_ifSet_7 (by omega) (fun h7 => ?_) (fun h7 => by exfalso; omega)
    refine qX10_ifSet_12 ?_
    refine qX10_ifSet_14 ?_
    refine qX10_ifSet_15 ?_
    refine qX10_ifSet_18 (Nat.le_of_ble_eq_true rfl) (m_within0 (by decide) (fun u hu hq => ?_) (fun hno => ?_))
    · subst hq
      have hu : u < 1000 := hu
      refine nX10_ifSet_21 (by omega) (fun h21 => by exfalso; omega) (fun h21 => ?_)
      refine qX10_ifSet_24 ?_
      refine qX10_ifSet_26 ?_
      refine qX10_ifSet_27 ?_
      refine qX10_ifSet_28 (Nat.le_of_ble_eq_true rfl) (m_within0 (by decide) (fun e he hq => ?_) (fun hno => ?_))
      · subst hq
        have he : e < 4 := he
        rw [cIf_t ⟨inB_nI hu, inB_nI he⟩, nN_nI (by omega), nN_nI (by omega)] at k
        refine nX10_ifSet_31 (by omega) (fun h31 => ?_) (fun h31 => by exfalso; omega)
        refine qX10_ifSet_37 ?_
        refine qX10_ifSet_38 ?_
        refine qX10_ifSet_39 ?_
        refine qX10_ifSet_40 ?_
        refine qX10_ifSet_41 ?_
        refine qX10_ifSet_43 ?_
        refine qX10_ifSet_45 (by assumption) (Nat.le_of_ble_eq_true rfl) (m_rankIf he (by omega) hmo hst ho.1 p7 hi hr hc (fun w1 hF1 hm1 hs1 hsc1 => ?_))
        refine qX10_ifSet_48 ?_
        exact k w1 (hF1.mono (fun q hq => by unfold sR at hq; unfold sD; omega)) (h.rk hF1 hm1 hs1 hsc1)
      · rw [cIf_f (fun z => hno z.2)] at k
        refine nX10_ifSet_31 (by omega) (fun h31 => by exfalso; omega) (fun h31 => ?_)
        refine qX10_ifSet_34 ?_
        refine qX10_ifSet_36 ?_
        exact k w Fr.rf h
    · rw [cIf_f (fun z => hno z.1)] at k
      refine nX10_ifSet_21 (by omega) (fun h21 => ?_) (fun h21 => by exfalso; omega)
      refine qX10_ifSet_34 ?_
      refine qX10_ifSet_36 ?_
      exact k w Fr.rf h
  · rw [cIf_f (fun e => hno ((ent_iff p2).mpr e))] at k
    refine nX10_ifSet_7 (by omega) (fun h7 => by exfalso; omega) (fun h7 => ?_)
    refine qX10_ifSet_10 ?_
    refine qX10_ifSet_11 ?_
    exact k w Fr.rf h
theorem m_bestZero {x : Int32} (h : mdAt G w D s) (ho : okS s) (k : ∀ w', Fr w w' (sD D) → mdAt G w' D s → P (some (.int (spBestZero s x))) w') : wpM G (d + 9) yX10_bestZero (0, 0) [.ref D, .int x] w P := by
  unfold spBestZero at k
  refine eX10_bestZero ?_
  refine qX10_bestZero_0 ?_
  refine qX10_bestZero_1 (Nat.le_of_ble_eq_true rfl) (m_isArray (fun i hi hx => ?_) (fun hx => ?_))
  · subst hx
    rw [nN_nI (by omega), cIf_t (inB_nI hi)] at k
    have g5 := (ho.1 i hi).1
    have b1 := g5.2.1
    have b2 := g5.2.2.2.1
    have b3 := g5.2.2.1
    have h12 := g5.2.2.2.2
    refine nX10_bestZero_4 (by omega) (fun h4 => ?_) (fun h4 => by exfalso; omega)
    refine qX10_bestZero_9 ?_
    refine qX10_bestZero_10 ?_
    refine qX10_bestZero_11 ?_
    refine qX10_bestZero_13 ?_
    refine qX10_bestZero_14 ?_
    refine qX10_bestZero_15 ?_
    have L : ∀ m j (w' : sW) (l5 : Option Value), j + m = (lA s i).1 * (lA s i).2.1 → Fr w w' (sR D) → mdAt G w' D s → wp G (d + 8) mX10_bestZero P 17 [some (.ref D), some (.int (nI i)), some (.int (nI (bzF (lA s i).1 (lA s i).2.1 (lA s i).2.2 j).1)), some (.int (nI (bzF (lA s i).1 (lA s i).2.1 (lA s i).2.2 j).2)), some (.int (nI j)), l5] [] w' (0, 0) := by
      intro m
      induction m with
      | zero =>
        intro j w' l5 hj hF hm
        obtain ⟨⟨v, o1, o2, o3⟩, ⟨st, p1, p2⟩, _⟩ := id hm
        obtain ⟨e1, e2, _⟩ := p2 i hi
        have e1 : rR st i = _ := e1
        have e2 : rC st i = _ := e2
        refine qX10_bestZero_17 ?_
        refine qX10_bestZero_19 ?_
        refine qX10_bestZero_20 ?_
        refine qX10_bestZero_21 (by assumption) (Nat.le_of_ble_eq_true rfl) (m_entriesOf o1 p1 hi ?_)
        rw [e1, e2]
        refine nX10_bestZero_24 (by omega) (by omega) (fun h24 => ?_) (fun h24 => by exfalso; omega)
        refine qX10_bestZero_84 ?_
        refine qX10_bestZero_85 ?_
        rw [show j = (lA s i).1 * (lA s i).2.1 by omega]
        exact k w' (hF.mono (fun q hq => by unfold sR at hq; unfold sD; omega)) hm
      | succ m ih =>
        intro j w' l5 hj hF hm
        obtain ⟨hmo, hst, _, _, _, _, p7⟩ := id hm
        obtain ⟨v, o1, o2, o3⟩ := id hmo
        obtain ⟨st, p1, p2⟩ := id hst
        obtain ⟨e1, e2, _⟩ := p2 i hi
        have e1 : rR st i = _ := e1
        have e2 : rC st i = _ := e2
        obtain ⟨c1, c2⟩ := dm_lt (show j < (lA s i).1 * (lA s i).2.1 by omega)
        have hbz := bzF_le (a := (lA s i).2.2) h12 j
        have hrk := rk1_le (R := (lA s i).1) (C := (lA s i).2.1) (a := updN (lA s i).2.2 j 0)
        have nx := fun w'' l5 hF2 hm2 => ih (j + 1) w'' l5 (by omega) hF2 hm2
        simp only [bzF] at nx
        refine qX10_bestZero_17 ?_
        refine qX10_bestZero_19 ?_
        refine qX10_bestZero_20 ?_
        refine qX10_bestZero_21 (by assumption) (Nat.le_of_ble_eq_true rfl) (m_entriesOf o1 p1 hi ?_)
        rw [e1, e2]
        refine nX10_bestZero_24 (by omega) (by omega) (fun h24 => by exfalso; omega) (fun h24 => ?_)
        refine qX10_bestZero_27 ?_
        refine qX10_bestZero_28 ?_
        refine qX10_bestZero_29 ?_
        refine qX10_bestZero_31 ?_
        refine qX10_bestZero_32 ?_
        refine qX10_bestZero_33 (by assumption) (Nat.le_of_ble_eq_true rfl) (m_columnsOf o1 p1 hi ?_)
        rw [e2]
        refine nX10_bestZero_36 (by omega) (by omega) (by omega) ?_
        refine qX10_bestZero_37 ?_
        refine qX10_bestZero_39 ?_
        refine qX10_bestZero_40 ?_
        refine qX10_bestZero_41 (by assumption) (Nat.le_of_ble_eq_true rfl) (m_columnsOf o1 p1 hi ?_)
        rw [e2]
        refine nX10_bestZero_44 (by omega) (by omega) (by omega) ?_
        refine qX10_bestZero_45 ?_
        refine qX10_bestZero_46 ?_
        refine qX10_bestZero_47 (by assumption) (Nat.le_of_ble_eq_true rfl) (m_rankIf (by decide) (by omega) hmo hst ho.1 p7 hi c1 c2 (fun w1 hF1 hm1 hs1 hsc1 => ?_))
        rw [dm_eq]
        have hm3 := hm.rk hF1 hm1 hs1 hsc1
        have hF3 := hF.tr hF1 (fun q hq => hq)
        refine qX10_bestZero_50 ?_
        refine qX10_bestZero_52 ?_
        refine qX10_bestZero_54 ?_
        refine nX10_bestZero_55 (by omega) (by omega) (fun h55 => ?_) (fun h55 => ?_)
        · rw [if_neg (by omega)] at nx
          refine qX10_bestZero_63 ?_
          refine qX10_bestZero_64 ?_
          refine qX10_bestZero_65 ?_
          refine qX10_bestZero_67 ?_
          refine nX10_bestZero_68 (by omega) (by omega) (fun h68 => ?_) (fun h68 => by exfalso; omega)
          refine qX10_bestZero_76 ?_
          refine qX10_bestZero_77 ?_
          first | refine nX10_bestZero_78 ?_ | refine qX10_bestZero_78 ?_
          refine qX10_bestZero_81 ?_
          exact nx w1 _ hF3 hm3
        · rw [if_pos h55] at nx
          refine qX10_bestZero_58 ?_
          refine qX10_bestZero_60 ?_
          refine qX10_bestZero_64 ?_
          refine qX10_bestZero_65 ?_
          refine qX10_bestZero_67 ?_
          refine nX10_bestZero_68 (by omega) (by omega) (fun h68 => by exfalso; omega) (fun h68 => ?_)
          refine qX10_bestZero_71 ?_
          refine qX10_bestZero_73 ?_
          refine qX10_bestZero_77 ?_
          first | refine nX10_bestZero_78 ?_ | refine qX10_bestZero_78 ?_
          refine qX10_bestZero_81 ?_
          exact nx w1 _ hF3 hm3
    exact L ((lA s i).1 * (lA s i).2.1) 0 w none (by omega) Fr.rf h
  · rw [cIf_f hx] at k
    refine nX10_bestZero_4 (by omega) (fun h4 => by exfalso; omega) (fun h4 => ?_)
    refine qX10_bestZero_7 ?_
    refine qX10_bestZero_8 ?_
    exact k w Fr.rf h
end REFQ
