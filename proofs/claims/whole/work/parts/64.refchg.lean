/-! the reference: arrays turned, products, shortest ways -/
theorem mdAt.stt {G : sG} {w w' : sW} {D : Nat} {s : xS} {t : Nat → GV} (h : mdAt G w D s) (hF : Fr w w' (fun q => q = D + 1 ∨ q = D + 6)) (hs : stP G w' (D + 1) t) (ht : ∃ f, w'.1 (D + 6) = aN G 48 f) : mdAt G w' D (t, lH s, lS s, lv s, ln s, lc s) := by
  obtain ⟨h1, h2, h3, h4, h5, h6, h7⟩ := h
  refine ⟨h1.fr hF (by omega), hs, h3.fr hF (by omega), h4.fr hF (by omega), h5.fr hF (by omega), h6.fr hF (by omega), ?_⟩
  obtain ⟨_, ⟨f2, g2⟩, ⟨f3, g3⟩, ⟨f4, g4⟩, ⟨f5, g5⟩, ⟨f6, g6⟩, f7, g7⟩ := h7
  exact ⟨ht, ⟨f2, by rw [hF.2 _ (by omega)]; exact g2⟩, ⟨f3, by rw [hF.2 _ (by omega)]; exact g3⟩, ⟨f4, by rw [hF.2 _ (by omega)]; exact g4⟩, ⟨f5, by rw [hF.2 _ (by omega)]; exact g5⟩, ⟨f6, by rw [hF.2 _ (by omega)]; exact g6⟩, f7, by rw [hF.2 _ (by omega)]; exact g7⟩
theorem stV.sub {st : Nat → Nat} {t u : Nat → GV} (h : stV st t) (he : ∀ i, i < 3 → eqA (t i) (u i)) : stV st u := fun i hi => (h i hi).tr (he i hi)
theorem tu_tu {R C : Nat} {a : Nat → Nat} {k : Nat} (hk : k < R * C) : tuN C R (tuN R C a) k = a k := by
  obtain ⟨h1, h2⟩ := dm_lt hk
  unfold tuN
  rw [dm_mod h1, dm_div h1, dm_eq]
theorem setA2 {t : Nat → GV} {i : Nat} {u v : GV} (j : Nat) (h : eqA v (t i)) : eqA (setA (setA t i u) i v j) (t j) := by
  unfold setA
  by_cases hj : j = i
  · subst hj; rw [if_pos rfl]; exact h
  · rw [if_neg hj, if_neg hj]; exact eqA.rf
theorem setAs {t : Nat → GV} {i : Nat} {u : GV} : setA t i u i = u := by unfold setA; rw [if_pos rfl]
theorem okT.set {t : Nat → GV} {i : Nat} {u : GV} (h : okT t) (hu : okV u) : okT (setA t i u) := fun j hj => by
  unfold setA
  split
  · exact hu
  · exact h j hj
theorem okV.tu {x : GV} (h : okV x) : okV (x.2.1, x.1, tuN x.1 x.2.1 x.2.2) := ⟨h.1.sw, tuN_le h.2⟩
section REFT
variable {G : sG} {d D : Nat} {P : sQ} {w : sW} {v : M7} {st : Nat → Nat} {s : xS}
theorem m_makeTurned {i : Nat} {td : Nat → Nat} (h : mO w D v) (hs : w.1 (D + 1) = aN G 42 st) (htd : w.1 (D + 6) = aN G 48 td) (hi : i < 3) (ho : okV (vwA st i)) (k : ∀ w' td', Fr w w' (fun q => q = D + 6) → w'.1 (D + 6) = aN G 48 td' → (∀ q, q < rC st i * rR st i → td' q = tuN (rR st i) (rC st i) (rE st i) q) → P none w') : wpM G (d + 3) yX10_makeTurned (0, 0) [.ref D, .int (nI i)] w P := by
  have hd : okD (rR st i) (rC st i) := ho.1
  have d1 := hd.2.1
  have d2 := hd.2.2.2.1
  refine eX10_makeTurned ?_
  refine qX10_makeTurned_0 ?_
  refine qX10_makeTurned_1 ?_
  have L : ∀ m r (w' : sW) (td' : Nat → Nat) (l3 : Option Value), r + m = rR st i → Fr w w' (fun q => q = D + 6) → w'.1 (D + 6) = aN G 48 td' → (∀ r' c', r' < r → c' < rC st i → td' (c' * rR st i + r') = rE st i (r' * rC st i + c')) → wp G (d + 2) mX10_makeTurned P 2 [some (.ref D), some (.int (nI i)), some (.int (nI r)), l3] [] w' (0, 0) := by
    intro m
    induction m with
    | zero =>
      intro r w' td' l3 hr hF ht hq
      have h1 : mO w' D v := (hF.2 D (by omega)).trans h
      have hs1 : w'.1 (D + 1) = aN G 42 st := by rw [hF.2 _ (by omega)]; exact hs
      refine qX10_makeTurned_2 ?_
      refine qX10_makeTurned_3 ?_
      refine qX10_makeTurned_4 ?_
      refine qX10_makeTurned_5 (by assumption) (Nat.le_of_ble_eq_true rfl) (m_rowsOf h1 hs1 hi ?_)
      refine nX10_makeTurned_8 (by omega) (by omega) (fun h8 => ?_) (fun h8 => by exfalso; omega)
      refine qX10_makeTurned_55 ?_
      refine k w' td' hF ht (fun q hq2 => ?_)
      obtain ⟨a1, a2⟩ := dm_lt hq2
      have := hq (q % rR st i) (q / rR st i) (by omega) a1
      rw [dm_eq] at this
      exact this
    | succ m ih =>
      intro r w' td' l3 hr hF ht hq
      have h1 : mO w' D v := (hF.2 D (by omega)).trans h
      have hs1 : w'.1 (D + 1) = aN G 42 st := by rw [hF.2 _ (by omega)]; exact hs
      refine qX10_makeTurned_2 ?_
      refine qX10_makeTurned_3 ?_
      refine qX10_makeTurned_4 ?_
      refine qX10_makeTurned_5 (by assumption) (Nat.le_of_ble_eq_true rfl) (m_rowsOf h1 hs1 hi ?_)
      refine nX10_makeTurned_8 (by omega) (by omega) (fun h8 => by exfalso; omega) (fun h8 => ?_)
      refine qX10_makeTurned_11 ?_
      refine qX10_makeTurned_12 ?_
      have L2 : ∀ p c (w' : sW) (td' : Nat → Nat), c + p = rC st i → Fr w w' (fun q => q = D + 6) → w'.1 (D + 6) = aN G 48 td' → (∀ r' c', (r' < r ∨ (r' = r ∧ c' < c)) → c' < rC st i → td' (c' * rR st i + r') = rE st i (r' * rC st i + c')) → wp G (d + 2) mX10_makeTurned P 13 [some (.ref D), some (.int (nI i)), some (.int (nI r)), some (.int (nI c))] [] w' (0, 0) := by
        intro p
        induction p with
        | zero =>
          intro c w' td' hc hF ht hq
          have h1 : mO w' D v := (hF.2 D (by omega)).trans h
          have hs1 : w'.1 (D + 1) = aN G 42 st := by rw [hF.2 _ (by omega)]; exact hs
          refine qX10_makeTurned_13 ?_
          refine qX10_makeTurned_14 ?_
          refine qX10_makeTurned_15 ?_
          refine qX10_makeTurned_16 (by assumption) (Nat.le_of_ble_eq_true rfl) (m_columnsOf h1 hs1 hi ?_)
          refine nX10_makeTurned_19 (by omega) (by omega) (fun h19 => ?_) (fun h19 => by exfalso; omega)
          first | refine nX10_makeTurned_49 ?_ | refine qX10_makeTurned_49 ?_
          refine qX10_makeTurned_52 ?_
          exact ih (r + 1) w' td' _ (by omega) hF ht (fun r' c' hr' hc' => hq r' c' (by omega) hc')
        | succ p ih2 =>
          intro c w' td' hc hF ht hq
          have h1 : mO w' D v := (hF.2 D (by omega)).trans h
          have hs1 : w'.1 (D + 1) = aN G 42 st := by rw [hF.2 _ (by omega)]; exact hs
          have hin := hd.sw.in12 (show c < rC st i by omega) (show r < rR st i by omega)
          refine qX10_makeTurned_13 ?_
          refine qX10_makeTurned_14 ?_
          refine qX10_makeTurned_15 ?_
          refine qX10_makeTurned_16 (by assumption) (Nat.le_of_ble_eq_true rfl) (m_columnsOf h1 hs1 hi ?_)
          refine nX10_makeTurned_19 (by omega) (by omega) (fun h19 => by exfalso; omega) (fun h19 => ?_)
          refine qX10_makeTurned_22 ?_
          refine qX10_makeTurned_23 (by assumption) ?_
          refine qX10_makeTurned_26 ?_
          refine qX10_makeTurned_27 ?_
          refine qX10_makeTurned_28 ?_
          refine qX10_makeTurned_29 (by assumption) (Nat.le_of_ble_eq_true rfl) (m_rowsOf h1 hs1 hi ?_)
          first | refine nX10_makeTurned_32 ?_ | refine qX10_makeTurned_32 ?_
          refine qX10_makeTurned_33 ?_
          first | refine nX10_makeTurned_34 ?_ | refine qX10_makeTurned_34 ?_
          refine qX10_makeTurned_35 ?_
          refine qX10_makeTurned_36 ?_
          refine qX10_makeTurned_37 ?_
          refine qX10_makeTurned_38 ?_
          refine qX10_makeTurned_39 (by assumption) (Nat.le_of_ble_eq_true rfl) (m_at h1 hs1 hi (hd.in12 (by omega) (by omega)) ?_)
          first | refine fX10_makeTurned_42 (by assumption) (by omega) (by decide) ?_ | refine nX10_makeTurned_42 (by assumption) (by omega) (by decide) ?_
          first | refine nX10_makeTurned_43 ?_ | refine qX10_makeTurned_43 ?_
          refine qX10_makeTurned_46 ?_
          refine ih2 (c + 1) _ (updN td' (c * rR st i + r) (rE st i (r * rC st i + c))) (by omega) (hF.up rfl) s_upS (fun r' c' hr' hc' => ?_)
          have hr2 : r' < rR st i := by omega
          by_cases hcc : c' * rR st i + r' = c * rR st i + r
          · have e1 : c' = c := by rw [← dm_div (r := c') hr2, hcc, dm_div (by omega)]
            have e2 : r' = r := by rw [← dm_mod (r := c') hr2, hcc, dm_mod (by omega)]
            subst e1
            subst e2
            rw [updN_s]
          · rw [updN_n hcc]
            refine hq r' c' ?_ hc'
            by_cases e2 : r' = r
            · subst e2
              exact Or.inr ⟨rfl, by
                rcases Nat.lt_or_ge c' c with z | z
                · exact z
                · exact absurd (by rw [show c' = c by omega]) hcc⟩
            · exact Or.inl (by omega)
      exact L2 (rC st i) 0 w' td' (by omega) hF ht (fun r' c' hr' hc' => hq r' c' (by omega) hc')
  exact L (rR st i) 0 w td none (by omega) Fr.rf htd (fun r' c' hr' _ => absurd hr' (Nat.not_lt_zero r'))
theorem m_turns {i : Nat} {t : Nat → GV} (h : mO w D v) (hs : stP G w (D + 1) t) (ht : okT t) (htd : ∃ f, w.1 (D + 6) = aN G 48 f) (hi : i < 3) (k : ∀ w', Fr w w' (fun q => q = D + 1 ∨ q = D + 6) → stP G w' (D + 1) (setA t i ((t i).2.1, (t i).1, tuN (t i).1 (t i).2.1 (t i).2.2)) → (∃ f, w'.1 (D + 6) = aN G 48 f) → P none w') : wpM G (d + 4) yX10_turns (0, 0) [.ref D, .int (nI i)] w P := by
  obtain ⟨st, p1, p2⟩ := hs
  obtain ⟨td, htd⟩ := htd
  obtain ⟨e1, e2, e3⟩ := p2 i hi
  have e1 : rR st i = _ := e1
  have e2 : rC st i = _ := e2
  have e3 : ∀ q, q < (t i).1 * (t i).2.1 → rE st i q = (t i).2.2 q := e3
  have hok := p2.ok ht
  have g5 := (ht i hi).1
  refine eX10_turns ?_
  refine qX10_turns_0 ?_
  refine qX10_turns_1 ?_
  refine qX10_turns_2 (by assumption) (Nat.le_of_ble_eq_true rfl) (m_makeTurned h p1 htd hi (hok i hi) (fun w1 td1 hF1 hs1 hq1 => ?_))
  have h1 : mO w1 D v := (hF1.2 D (by omega)).trans h
  have q1 : w1.1 (D + 1) = aN G 42 st := by rw [hF1.2 _ (by omega)]; exact p1
  refine qX10_turns_5 ?_
  refine qX10_turns_6 ?_
  refine qX10_turns_7 ?_
  refine qX10_turns_8 ?_
  refine qX10_turns_9 (by assumption) (Nat.le_of_ble_eq_true rfl) (m_columnsOf h1 q1 hi ?_)
  refine qX10_turns_12 ?_
  refine qX10_turns_13 ?_
  refine qX10_turns_14 (by assumption) (Nat.le_of_ble_eq_true rfl) (m_rowsOf h1 q1 hi ?_)
  have h12 : rC st i * rR st i ≤ 12 := by rw [e1, e2]; exact g5.sw.2.2.2.2
  refine qX10_turns_17 (by assumption) (Nat.le_of_ble_eq_true rfl) (m_becomes h1 q1 p2 ht hs1 hi h12 (fun w2 st2 hF2 q2 hV2 => ?_))
  refine qX10_turns_20 ?_
  refine k w2 ((hF1.mono (fun q hq => Or.inr hq)).tr hF2 (fun q hq => Or.inl hq)) ⟨st2, q2, hV2.sub (fun j hj => ?_)⟩ ⟨td1, by rw [hF2.2 _ (by omega)]; exact hs1⟩
  unfold setA
  by_cases hji : j = i
  · subst hji
    rw [if_pos rfl, if_pos rfl]
    refine ⟨e2, e1, fun q hq => ?_⟩
    have hq : q < (t j).2.1 * (t j).1 := hq
    show td1 q = _
    rw [hq1 q (by rw [e1, e2]; exact hq), e1, e2]
    exact tuN_cong e3 q hq
  · rw [if_neg hji, if_neg hji]
    exact eqA.rf
theorem m_turn {x : Int32} (h : mdAt G w D s) (ho : okS s) (k : ∀ w', Fr w w' (sD D) → mdAt G w' D (spTurn s x).2 → P (some (.int (spTurn s x).1)) w') : wpM G (d + 5) yX10_turn (0, 0) [.ref D, .int x] w P := by
  unfold spTurn at k
  refine eX10_turn ?_
  refine qX10_turn_0 ?_
  refine qX10_turn_1 (Nat.le_of_ble_eq_true rfl) (m_isArray (fun i hi hx => ?_) (fun hx => ?_))
  · subst hx
    rw [nN_nI (by omega), cIf_t (inB_nI hi)] at k
    obtain ⟨⟨v0, o0, _⟩, _⟩ := id h
    refine nX10_turn_4 (by omega) (fun h4 => ?_) (fun h4 => by exfalso; omega)
    refine qX10_turn_9 ?_
    refine qX10_turn_10 (by assumption) (Nat.le_of_ble_eq_true rfl) (m_record h ho (fun w1 hF1 hm => ?_))
    obtain ⟨⟨v1, o1, o2, o3⟩, p2, _, _, _, _, p7⟩ := id hm
    refine qX10_turn_13 ?_
    refine qX10_turn_14 ?_
    refine qX10_turn_15 (by assumption) (Nat.le_of_ble_eq_true rfl) (m_turns o1 p2 ho.1 p7.1 hi (fun w2 hF2 hs2 ht2 => ?_))
    have m2 : mO w2 D v1 := (hF2.2 D (by omega)).trans o1
    have hm2 := hm.stt hF2 hs2 ht2
    obtain ⟨st2, q1, q2⟩ := hs2
    obtain ⟨e1, _, _⟩ := q2 i hi
    rw [setAs] at e1
    have e1 : rR st2 i = (lA s i).2.1 := e1
    refine qX10_turn_18 ?_
    refine qX10_turn_19 ?_
    refine qX10_turn_20 (by assumption) (Nat.le_of_ble_eq_true rfl) (m_rowsOf m2 q1 hi ?_)
    refine qX10_turn_23 ?_
    rw [e1]
    exact k w2 ((hF1.mono (fun q hq => by unfold sD; omega)).tr hF2 (fun q hq => by unfold sD; omega)) hm2
  · rw [cIf_f hx] at k
    refine nX10_turn_4 (by omega) (fun h4 => by exfalso; omega) (fun h4 => ?_)
    refine qX10_turn_7 ?_
    refine qX10_turn_8 ?_
    exact k w Fr.rf h
theorem m_stayingBy {i : Nat} {t : Nat → GV} (b : Bool) (h : mO w D v) (hs : stP G w (D + 1) t) (ht : okT t) (htd : ∃ f, w.1 (D + 6) = aN G 48 f) (hi : i < 3) (k : ∀ w', Fr w w' (fun q => q = D + 1 ∨ q = D + 6) → stP G w' (D + 1) t → (∃ f, w'.1 (D + 6) = aN G 48 f) → P (some (.int (nI (nlN b (t i).1 (t i).2.1 (t i).2.2)))) w') : wpM G (d + 6) yX10_stayingBy (0, 0) [.ref D, .int (nI i), .int (nI (bN b))] w P := by
  have g5 := (ht i hi).1
  refine eX10_stayingBy ?_
  refine qX10_stayingBy_0 ?_
  cases b
  · refine nX10_stayingBy_1 (by decide) (fun h => absurd rfl h) (fun _ => ?_)
    obtain ⟨st, p1, p2⟩ := id hs
    obtain ⟨e1, e2, e3⟩ := p2 i hi
    have e1 : rR st i = _ := e1
    have e2 : rC st i = _ := e2
    have e3 : ∀ q, q < (t i).1 * (t i).2.1 → rE st i q = (t i).2.2 q := e3
    refine qX10_stayingBy_4 ?_
    refine qX10_stayingBy_5 ?_
    refine qX10_stayingBy_6 (by assumption) (Nat.le_of_ble_eq_true rfl) (m_staying h p1 hi (p2.ok ht i hi) ?_)
    refine qX10_stayingBy_9 ?_
    rw [e1, e2, nedN_cong g5 e3 _ (Nat.le_refl _)]
    exact k w Fr.rf hs htd
  · refine nX10_stayingBy_1 (by decide) (fun _ => ?_) (fun h => absurd h (by decide))
    refine qX10_stayingBy_10 ?_
    refine qX10_stayingBy_11 ?_
    refine qX10_stayingBy_12 (by assumption) (Nat.le_of_ble_eq_true rfl) (m_turns h hs ht htd hi (fun w1 hF1 hs1 ht1 => ?_))
    have h1 : mO w1 D v := (hF1.2 D (by omega)).trans h
    have hok1 : okT (setA t i ((t i).2.1, (t i).1, tuN (t i).1 (t i).2.1 (t i).2.2)) := ht.set (ht i hi).tu
    obtain ⟨st1, q1, q2⟩ := id hs1
    obtain ⟨e1, e2, e3⟩ := q2 i hi
    rw [setAs] at e1 e2 e3
    have e1 : rR st1 i = (t i).2.1 := e1
    have e2 : rC st1 i = (t i).1 := e2
    have e3 : ∀ q, q < (t i).2.1 * (t i).1 → rE st1 i q = tuN (t i).1 (t i).2.1 (t i).2.2 q := e3
    refine qX10_stayingBy_15 ?_
    refine qX10_stayingBy_16 ?_
    refine qX10_stayingBy_17 (by assumption) (Nat.le_of_ble_eq_true rfl) (m_staying h1 q1 hi (q2.ok hok1 i hi) ?_)
    refine qX10_stayingBy_20 ?_
    refine qX10_stayingBy_21 ?_
    refine qX10_stayingBy_22 ?_
    refine qX10_stayingBy_23 (by assumption) (Nat.le_of_ble_eq_true rfl) (m_turns h1 hs1 hok1 ht1 hi (fun w2 hF2 hs2 ht2 => ?_))
    refine qX10_stayingBy_26 ?_
    refine qX10_stayingBy_27 ?_
    rw [e1, e2, nedN_cong g5.sw e3 _ (Nat.le_refl _)]
    obtain ⟨st2, q3, q4⟩ := hs2
    refine k w2 (hF1.tr hF2 (fun q hq => hq)) ⟨st2, q3, q4.sub (fun j hj => setA2 j ?_)⟩ ht2
    rw [setAs]
    exact ⟨rfl, rfl, fun q hq => tu_tu hq⟩
theorem m_byCone {x z : Int32} (b : Bool) (h : mdAt G w D s) (ho : okS s) (k : ∀ w', Fr w w' (sD D) → mdAt G w' D s → P (some (.int (spByCone s x b z))) w') : wpM G (d + 7) yX10_byCone (0, 0) [.ref D, .int x, .int (nI (bN b)), .int z] w P := by
  obtain ⟨⟨v, o1, o2, o3⟩, p2, _, _, _, _, p7⟩ := id h
  unfold spByCone at k
  refine eX10_byCone ?_
  refine qX10_byCone_0 ?_
  refine qX10_byCone_1 (Nat.le_of_ble_eq_true rfl) (m_isArray (fun i hi hx => ?_) (fun hx => ?_))
  · subst hx
    rw [nN_nI (by omega), cIf_t (inB_nI hi)] at k
    have g5 := (ho.1 i hi).1
    refine nX10_byCone_4 (by omega) (fun h4 => ?_) (fun h4 => by exfalso; omega)
    refine qX10_byCone_9 ?_
    refine qX10_byCone_10 ?_
    refine qX10_byCone_11 ?_
    refine qX10_byCone_12 (Nat.le_of_ble_eq_true rfl) (m_within0 (by decide) (fun u hu hz => ?_) (fun hno => ?_))
    · subst hz
      have hu : u < 2 := hu
      rw [cIf_t (inB_nI hu)] at k
      refine nX10_byCone_15 (by omega) (fun h15 => ?_) (fun h15 => by exfalso; omega)
      refine qX10_byCone_21 ?_
      refine qX10_byCone_22 ?_
      refine qX10_byCone_23 ?_
      refine qX10_byCone_24 (by assumption) (Nat.le_of_ble_eq_true rfl) (m_stayingBy b o1 p2 ho.1 p7.1 hi (fun w1 hF1 hs1 ht1 => ?_))
      have hm := nlN_lt (b := b) (a := (lA s i).2.2) g5
      have kk := k w1 (hF1.mono (fun q hq => by unfold sD; omega)) (h.stt hF1 hs1 ht1)
      refine qX10_byCone_27 ?_
      refine qX10_byCone_29 ?_
      rcases (show u = 0 ∨ u = 1 by omega) with rfl | rfl
      · rw [cIf_f (by decide)] at kk
        refine nX10_byCone_30 (by omega) (fun h30 => by exfalso; omega) (fun h30 => ?_)
        refine qX10_byCone_33 ?_
        refine qX10_byCone_35 (Nat.le_of_ble_eq_true rfl) (m_bits (by omega) ?_)
        refine qX10_byCone_38 ?_
        refine qX10_byCone_43 ?_
        exact kk
      · rw [cIf_t rfl] at kk
        refine nX10_byCone_30 (by omega) (fun h30 => ?_) (fun h30 => by exfalso; omega)
        refine qX10_byCone_41 ?_
        refine qX10_byCone_43 ?_
        exact kk
    · rw [cIf_f hno] at k
      refine nX10_byCone_15 (by omega) (fun h15 => by exfalso; omega) (fun h15 => ?_)
      refine qX10_byCone_18 ?_
      refine qX10_byCone_20 ?_
      exact k w Fr.rf h
  · rw [cIf_f hx] at k
    refine nX10_byCone_4 (by omega) (fun h4 => by exfalso; omega) (fun h4 => ?_)
    refine qX10_byCone_7 ?_
    refine qX10_byCone_8 ?_
    exact k w Fr.rf h
theorem m_leastSum {i j r c : Nat} (h : mO w D v) (hs : w.1 (D + 1) = aN G 42 st) (hi : i < 3) (hj : j < 3) (ho : okV (vwA st i)) (ho2 : okV (vwA st j)) (hm : rC st i = rR st j) (hr : r < rR st i) (hc : c < rC st j) (k : P (some (.int (nI (mnG (fun q => rE st i (r * rC st i + q) + rE st j (q * rC st j + c)) (rC st i))))) w) : wpM G (d + 3) yX10_leastSum (0, 0) [.ref D, .int (nI i), .int (nI j), .int (nI r), .int (nI c)] w P := by
  have hd : okD (rR st i) (rC st i) := ho.1
  have hd2 : okD (rR st j) (rC st j) := ho2.1
  have ha : ∀ q, q < rR st i * rC st i → rE st i q ≤ 999 := ho.2
  have ha2 : ∀ q, q < rR st j * rC st j → rE st j q ≤ 999 := ho2.2
  have d2 := hd.2.2.2.1
  refine eX10_leastSum ?_
  refine qX10_leastSum_0 ?_
  refine qX10_leastSum_3 ?_
  refine qX10_leastSum_5 ?_
  refine qX10_leastSum_6 ?_
  have L : ∀ m q (l7 : Option Value), q + m = rC st i → wp G (d + 2) mX10_leastSum P 8 [some (.ref D), some (.int (nI i)), some (.int (nI j)), some (.int (nI r)), some (.int (nI c)), some (.int (nI (mnG (fun q => rE st i (r * rC st i + q) + rE st j (q * rC st j + c)) q))), some (.int (nI q)), l7] [] w (0, 0) := by
    intro m
    induction m with
    | zero =>
      intro q l7 hq
      refine qX10_leastSum_8 ?_
      refine qX10_leastSum_10 ?_
      refine qX10_leastSum_11 ?_
      refine qX10_leastSum_12 (by assumption) (Nat.le_of_ble_eq_true rfl) (m_columnsOf h hs hi ?_)
      refine nX10_leastSum_15 (by omega) (by omega) (fun h15 => ?_) (fun h15 => by exfalso; omega)
      refine qX10_leastSum_60 ?_
      refine qX10_leastSum_62 ?_
      rw [show q = rC st i by omega]
      exact k
    | succ m ih =>
      intro q l7 hq
      have hst := fun l7 => ih (q + 1) l7 (by omega)
      simp only [mnG] at hst
      have h1 := ha _ (hd.in hr (show q < rC st i by omega))
      have h2 := ha2 _ (hd2.in (show q < rR st j by omega) hc)
      have h3 := mnG_le (f := fun q => rE st i (r * rC st i + q) + rE st j (q * rC st j + c)) (n := q)
      refine qX10_leastSum_8 ?_
      refine qX10_leastSum_10 ?_
      refine qX10_leastSum_11 ?_
      refine qX10_leastSum_12 (by assumption) (Nat.le_of_ble_eq_true rfl) (m_columnsOf h hs hi ?_)
      refine nX10_leastSum_15 (by omega) (by omega) (fun h15 => by exfalso; omega) (fun h15 => ?_)
      refine qX10_leastSum_18 ?_
      refine qX10_leastSum_19 ?_
      refine qX10_leastSum_20 ?_
      refine qX10_leastSum_21 ?_
      refine qX10_leastSum_23 (by assumption) (Nat.le_of_ble_eq_true rfl) (m_at h hs hi (hd.in12 hr (by omega)) ?_)
      refine qX10_leastSum_26 ?_
      refine qX10_leastSum_27 ?_
      refine qX10_leastSum_28 ?_
      refine qX10_leastSum_30 ?_
      refine qX10_leastSum_32 (by assumption) (Nat.le_of_ble_eq_true rfl) (m_at h hs hj (hd2.in12 (by omega) hc) ?_)
      first | refine nX10_leastSum_35 ?_ | refine qX10_leastSum_35 ?_
      refine qX10_leastSum_36 ?_
      refine qX10_leastSum_38 ?_
      refine qX10_leastSum_40 ?_
      refine nX10_leastSum_42 (by omega) (by omega) (fun h42 => ?_) (fun h42 => ?_)
      · rw [Nat.min_eq_left h42] at hst
        refine qX10_leastSum_50 ?_
        refine qX10_leastSum_52 ?_
        first | refine nX10_leastSum_54 ?_ | refine qX10_leastSum_54 ?_
        refine qX10_leastSum_57 ?_
        exact hst _
      · rw [Nat.min_eq_right (Nat.le_of_lt h42)] at hst
        refine qX10_leastSum_45 ?_
        refine qX10_leastSum_47 ?_
        refine qX10_leastSum_52 ?_
        first | refine nX10_leastSum_54 ?_ | refine qX10_leastSum_54 ?_
        refine qX10_leastSum_57 ?_
        exact hst _
  exact L (rC st i) 0 none (by omega)
theorem mxF_big {f : Nat → Nat} {n : Nat} : 999 < mxF f n ↔ ∃ k, k < n ∧ 999 < f k := by
  constructor
  · intro h
    apply Classical.byContradiction
    intro hc
    have := mxF_le (B := 999) (a := f) (n := n) (fun k hk => Nat.le_of_not_lt (fun z => hc ⟨k, hk, z⟩))
    omega
  · intro ⟨k, hk, h⟩
    exact Nat.lt_of_lt_of_le h (le_mxF hk)
set_option maxHeartbeats 400000 in
theorem m_product {x y z : Int32} (h : mdAt G w D s) (ho : okS s) (k : ∀ w', Fr w w' (sD D) → mdAt G w' D (spProduct s x y z).2 → P (some (.int (spProduct s x y z).1)) w') : wpM G (d + 4) yX10_product (0, 0) [.ref D, .int x, .int y, .int z] w P := by
  obtain ⟨⟨v, o1, o2, o3⟩, ⟨st, p1, p2⟩, _, _, _, _, p7⟩ := id h
  have hok := p2.ok ho.1
  unfold spProduct at k
  refine eX10_product ?_
  refine qX10_product_0 ?_
  refine qX10_product_1 (Nat.le_of_ble_eq_true rfl) (m_isArray (fun i hi hx => ?_) (fun hx => ?_))
  · subst hx
    refine nX10_product_4 (by omega) (fun h4 => by exfalso; omega) (fun h4 => ?_)
    refine qX10_product_7 ?_
    refine qX10_product_8 (Nat.le_of_ble_eq_true rfl) (m_isArray (fun j hj hx => ?_) (fun hx => ?_))
    · subst hx
      refine nX10_product_11 (by omega) (fun h11 => by exfalso; omega) (fun h11 => ?_)
      refine qX10_product_14 ?_
      refine qX10_product_15 (Nat.le_of_ble_eq_true rfl) (m_isArray (fun t ht hx => ?_) (fun hx => ?_))
      · subst hx
        rw [cIf_t ⟨inB_nI hi, inB_nI hj, inB_nI ht⟩, nN_nI (by omega), nN_nI (by omega), nN_nI (by omega)] at k
        obtain ⟨e1, e2, e3⟩ := p2 i hi
        have e1 : rR st i = _ := e1
        have e2 : rC st i = _ := e2
        have e3 : ∀ q, q < (lA s i).1 * (lA s i).2.1 → rE st i q = (lA s i).2.2 q := e3
        obtain ⟨e4, e5, e6⟩ := p2 j hj
        have e4 : rR st j = _ := e4
        have e5 : rC st j = _ := e5
        have e6 : ∀ q, q < (lA s j).1 * (lA s j).2.1 → rE st j q = (lA s j).2.2 q := e6
        have g5 := (hok i hi).1
        have g6 := (hok j hj).1
        have b1 : rR st i ≤ 4 := g5.2.1
        have b2 : rC st i ≤ 4 := g5.2.2.2.1
        have b3 : rR st j ≤ 4 := g6.2.1
        have b4 : rC st j ≤ 4 := g6.2.2.2.1
        have b5 : 1 ≤ rC st j := g6.2.2.1
        have hm : rR st i * rC st j ≤ 4 * 4 := Nat.mul_le_mul b1 b4
        rw [← e2, ← e4] at k
        refine nX10_product_18 (by omega) (fun h18 => ?_) (fun h18 => by exfalso; omega)
        refine qX10_product_23 ?_
        refine qX10_product_24 ?_
        refine qX10_product_25 (by assumption) (Nat.le_of_ble_eq_true rfl) (m_columnsOf o1 p1 hi ?_)
        refine qX10_product_28 ?_
        refine qX10_product_29 ?_
        refine qX10_product_30 (by assumption) (Nat.le_of_ble_eq_true rfl) (m_rowsOf o1 p1 hj ?_)
        refine nX10_product_33 (by omega) (by omega) (fun h33 => ?_) (fun h33 => ?_)
        · rw [if_pos h33] at k
          rw [← e1, ← e5] at k
          refine qX10_product_39 ?_
          refine qX10_product_40 ?_
          refine qX10_product_41 (by assumption) (Nat.le_of_ble_eq_true rfl) (m_rowsOf o1 p1 hi ?_)
          refine qX10_product_44 ?_
          refine qX10_product_46 ?_
          refine qX10_product_47 ?_
          refine qX10_product_48 (by assumption) (Nat.le_of_ble_eq_true rfl) (m_columnsOf o1 p1 hj ?_)
          refine qX10_product_51 ?_
          refine qX10_product_53 ?_
          refine qX10_product_55 ?_
          first | refine nX10_product_57 ?_ | refine qX10_product_57 ?_
          refine qX10_product_58 ?_
          refine nX10_product_60 (by omega) (by omega) (fun h60 => ?_) (fun h60 => ?_)
          · have hpr : ∀ q, q < rR st i * rC st j → prN (rC st i) (rC st j) (rE st i) (rE st j) q = prN (rC st i) (rC st j) (lA s i).2.2 (lA s j).2.2 q := prN_cong (Ra := rR st i) (by rw [e1, e2]; exact e3) (by rw [h33, e4, e5]; exact e6)
            refine qX10_product_66 ?_
            refine qX10_product_67 ?_
            have L1 : ∀ m q (w' : sW) (td' : Nat → Nat), q + m = rR st i * rC st j → Fr w w' (fun q => q = D + 6) → w'.1 (D + 6) = aN G 48 td' → (∀ p, p < q → td' p = prN (rC st i) (rC st j) (rE st i) (rE st j) p) → wp G (d + 3) mX10_product P 69 [some (.ref D), some (.int (nI i)), some (.int (nI j)), some (.int (nI t)), some (.int (nI (rR st i))), some (.int (nI (rC st j))), some (.int (nI q))] [] w' (0, 0) := by
              intro m
              induction m with
              | zero =>
                intro q w' td' hq hF htd hpt
                refine qX10_product_69 ?_
                refine qX10_product_71 ?_
                refine qX10_product_73 ?_
                first | refine nX10_product_75 ?_ | refine qX10_product_75 ?_
                refine nX10_product_76 (by omega) (by omega) (fun h76 => ?_) (fun h76 => by exfalso; omega)
                refine qX10_product_108 ?_
                refine qX10_product_109 ?_
                have hqe : q = rR st i * rC st j := by omega
                subst hqe
                have hle : ∀ p, p < rR st i * rC st j → td' p ≤ 1999 := fun p hp => by rw [hpt p hp]; exact prN_le p
                have m1 : mO w' D v := (hF.2 D (by omega)).trans o1
                have hm1 : mdAt G w' D s := h.stt (hF.mono (fun q hq => Or.inr hq)) ⟨st, by rw [hF.2 _ (by omega)]; exact p1, p2⟩ ⟨td', htd⟩
                have hFs : Fr w w' (sD D) := hF.mono (fun q hq => by unfold sD; omega)
                have L2 : ∀ m q, q + m = rR st i * rC st j → (∀ p, p < q → td' p ≤ 999) → wp G (d + 3) mX10_product P 111 [some (.ref D), some (.int (nI i)), some (.int (nI j)), some (.int (nI t)), some (.int (nI (rR st i))), some (.int (nI (rC st j))), some (.int (nI q))] [] w' (0, 0) := by
                  intro m
                  induction m with
                  | zero =>
                    intro q hq hsm
                    refine qX10_product_111 ?_
                    refine qX10_product_113 ?_
                    refine qX10_product_115 ?_
                    first | refine nX10_product_117 ?_ | refine qX10_product_117 ?_
                    refine nX10_product_118 (by omega) (by omega) (fun h118 => ?_) (fun h118 => by exfalso; omega)
                    rw [if_neg (fun e => by
                      rcases e with e | e
                      · omega
                      · obtain ⟨p, hp1, hp2⟩ := mxF_big.mp e
                        have := hsm p (by omega)
                        rw [hpt p hp1, hpr p hp1] at this
                        omega)] at k
                    refine qX10_product_143 ?_
                    refine qX10_product_144 (by assumption) (Nat.le_of_ble_eq_true rfl) (m_record hm1 ho (fun w1 hF1 hm2 => ?_))
                    obtain ⟨⟨v1, o4, o5, o6⟩, ⟨st1, p3, p4⟩, _⟩ := id hm2
                    have htd1 : w1.1 (D + 6) = aN G 48 td' := by rw [hF1.2 _ (by omega)]; exact htd
                    refine qX10_product_147 ?_
                    refine qX10_product_148 ?_
                    refine qX10_product_149 ?_
                    refine qX10_product_151 ?_
                    refine qX10_product_153 (by assumption) (Nat.le_of_ble_eq_true rfl) (m_becomes o4 p3 p4 ho.1 htd1 ht h60 (fun w2 st2 hF2 q2 hV2 => ?_))
                    have hm3 := hm2.stt (hF2.mono (fun q hq => Or.inl hq)) ⟨st2, q2, hV2.sub (u := setA (lA s) t (rR st i, rC st j, prN (rC st i) (rC st j) (lA s i).2.2 (lA s j).2.2)) (fun j2 hj2 => by
                      unfold setA
                      by_cases hjt : j2 = t
                      · subst hjt
                        rw [if_pos rfl, if_pos rfl]
                        exact ⟨rfl, rfl, fun q hq => (hpt q hq).trans (hpr q hq)⟩
                      · rw [if_neg hjt, if_neg hjt]
                        exact eqA.rf)⟩ ⟨td', by rw [hF2.2 _ (by omega)]; exact htd1⟩
                    refine qX10_product_156 ?_
                    refine qX10_product_158 ?_
                    first | refine nX10_product_160 ?_ | refine qX10_product_160 ?_
                    refine qX10_product_161 ?_
                    exact k w2 ((hFs.tr hF1 (fun q hq => by unfold sD; omega)).tr hF2 (fun q hq => by unfold sD; omega)) hm3
                  | succ m ih =>
                    intro q hq hsm
                    have hq2 := hle q (by omega)
                    refine qX10_product_111 ?_
                    refine qX10_product_113 ?_
                    refine qX10_product_115 ?_
                    first | refine nX10_product_117 ?_ | refine qX10_product_117 ?_
                    refine nX10_product_118 (by omega) (by omega) (fun h118 => by exfalso; omega) (fun h118 => ?_)
                    refine qX10_product_121 ?_
                    refine qX10_product_122 (by assumption) ?_
                    refine qX10_product_125 ?_
                    first | refine fX10_product_127 (by assumption) (by omega) (by decide) ?_ | refine nX10_product_127 (by assumption) (by omega) (by decide) ?_
                    refine qX10_product_128 ?_
                    refine nX10_product_131 (by omega) (by omega) (fun h131 => ?_) (fun h131 => ?_)
                    · first | refine nX10_product_137 ?_ | refine qX10_product_137 ?_
                      refine qX10_product_140 ?_
                      exact ih (q + 1) (by omega) (fun p hp => by
                        by_cases hpq : p = q
                        · subst hpq; exact h131
                        · exact hsm p (by omega))
                    · rw [if_pos (Or.inr (mxF_big.mpr ⟨q, by omega, by rw [← hpr q (by omega), ← hpt q (by omega)]; exact h131⟩))] at k
                      refine qX10_product_134 ?_
                      refine qX10_product_136 ?_
                      exact k w' hFs hm1
                exact L2 (rR st i * rC st j) 0 (by omega) (fun p hp => absurd hp (Nat.not_lt_zero p))
              | succ m ih =>
                intro q w' td' hq hF htd hpt
                have m1 : mO w' D v := (hF.2 D (by omega)).trans o1
                have q1 : w'.1 (D + 1) = aN G 42 st := by rw [hF.2 _ (by omega)]; exact p1
                obtain ⟨c1, c2⟩ := dm_lt (show q < rR st i * rC st j by omega)
                refine qX10_product_69 ?_
                refine qX10_product_71 ?_
                refine qX10_product_73 ?_
                first | refine nX10_product_75 ?_ | refine qX10_product_75 ?_
                refine nX10_product_76 (by omega) (by omega) (fun h76 => by exfalso; omega) (fun h76 => ?_)
                refine qX10_product_79 ?_
                refine qX10_product_80 (by assumption) ?_
                refine qX10_product_83 ?_
                refine qX10_product_85 ?_
                refine qX10_product_86 ?_
                refine qX10_product_87 ?_
                refine qX10_product_88 ?_
                refine qX10_product_90 ?_
                refine nX10_product_92 (by omega) (by omega) (by omega) ?_
                refine qX10_product_93 ?_
                refine qX10_product_95 ?_
                refine nX10_product_97 (by omega) (by omega) (by omega) ?_
                refine qX10_product_98 (by assumption) (Nat.le_of_ble_eq_true rfl) (m_leastSum m1 q1 hi hj (hok i hi) (hok j hj) h33 c1 c2 ?_)
                first | refine fX10_product_101 (by assumption) (by omega) (by decide) ?_ | refine nX10_product_101 (by assumption) (by omega) (by decide) ?_
                first | refine nX10_product_102 ?_ | refine qX10_product_102 ?_
                refine qX10_product_105 ?_
                refine ih (q + 1) _ (updN td' q (prN (rC st i) (rC st j) (rE st i) (rE st j) q)) (by omega) (hF.up rfl) s_upS (fun p hp => ?_)
                by_cases hpq : p = q
                · subst hpq; rw [updN_s]
                · rw [updN_n hpq]; exact hpt p (by omega)
            obtain ⟨td0, htd0⟩ := p7.1
            exact L1 (rR st i * rC st j) 0 w td0 (by omega) Fr.rf htd0 (fun p hp => absurd hp (Nat.not_lt_zero p))
          · rw [if_pos (Or.inl h60)] at k
            refine qX10_product_63 ?_
            refine qX10_product_65 ?_
            exact k w Fr.rf h
        · rw [if_neg h33] at k
          refine qX10_product_36 ?_
          refine qX10_product_38 ?_
          exact k w Fr.rf h
      · rw [cIf_f (fun e => hx e.2.2)] at k
        refine nX10_product_18 (by omega) (fun h18 => by exfalso; omega) (fun h18 => ?_)
        refine qX10_product_21 ?_
        refine qX10_product_22 ?_
        exact k w Fr.rf h
    · rw [cIf_f (fun e => hx e.2.1)] at k
      refine nX10_product_11 (by omega) (fun h11 => ?_) (fun h11 => by exfalso; omega)
      refine qX10_product_21 ?_
      refine qX10_product_22 ?_
      exact k w Fr.rf h
  · rw [cIf_f (fun e => hx e.1)] at k
    refine nX10_product_4 (by omega) (fun h4 => ?_) (fun h4 => by exfalso; omega)
    refine qX10_product_21 ?_
    refine qX10_product_22 ?_
    exact k w Fr.rf h
end REFT
