/-! the reference: raise, exchange, drop -/
section REFV
variable {G : sG} {d D : Nat} {P : sQ} {w : sW} {v : M7} {st : Nat → Nat} {s : xS}
set_option maxHeartbeats 1000000 in
theorem m_raise {x z u : Int32} (b : Bool) (h : mdAt G w D s) (ho : okS s) (k : ∀ w', Fr w w' (sD D) → mdAt G w' D (spRaise s x b z u).2 → P (some (.int (spRaise s x b z u).1)) w') : wpM G (d + 4) yX10_raise (0, 0) [.ref D, .int x, .int (nI (bN b)), .int z, .int u] w P := by
  obtain ⟨⟨v, o1, o2, o3⟩, ⟨st, p1, p2⟩, _⟩ := id h
  have hok := p2.ok ho.1
  unfold spRaise at k
  refine eX10_raise ?_
  refine qX10_raise_0 ?_
  refine qX10_raise_1 ?_
  refine qX10_raise_2 ?_
  refine qX10_raise_3 ?_
  refine qX10_raise_4 (by assumption) (Nat.le_of_ble_eq_true rfl) (m_isLine b o1 p1 hok (fun i n hi hn hx hz => ?_) (fun hno => ?_))
  · subst hx
    subst hz
    obtain ⟨e1, e2, e3⟩ := p2 i hi
    have e1 : rR st i = _ := e1
    have e2 : rC st i = _ := e2
    have e3 : ∀ q, q < (lA s i).1 * (lA s i).2.1 → rE st i q = (lA s i).2.2 q := e3
    have g5 := (ho.1 i hi).1
    have ha := (ho.1 i hi).2
    have b1 := g5.2.1
    have b2 := g5.2.2.2.1
    have hn : n < lnN b (lA s i).1 (lA s i).2.1 := by rw [← e1, ← e2]; exact hn
    have bl : lnN b (lA s i).1 (lA s i).2.1 ≤ 4 := by cases b <;> assumption
    have bl2 : lnN (!b) (lA s i).1 (lA s i).2.1 ≤ 4 := by cases b <;> assumption
    rw [nN_nI (by omega), nN_nI (by omega), cIf_t ⟨inB_nI hi, inB_nI hn⟩] at k
    obtain ⟨q, hq, hv⟩ : ∃ q : Int, zR q ∧ u = iZ q := ⟨u.toInt, toI_zR u, iZ_toI u⟩
    have hvq : u.toInt = q := by rw [hv]; exact iZ_T hq.1 hq.2
    rw [hvq] at k
    subst hv
    have z1 : zR (-999) := ⟨by decide, by decide⟩
    have z2 : zR 999 := ⟨by decide, by decide⟩
    refine nX10_raise_7 (by omega) (fun h7 => ?_) (fun h7 => by exfalso; omega)
    refine qX10_raise_12 ?_
    refine qX10_raise_14 ?_
    refine qX10_raise_17 ?_
    refine qX10_raise_20 (Nat.le_of_ble_eq_true rfl) (m_within (fun h1 h2 => ?_) (fun hno => ?_))
    · rw [show (-999 : Int32) = iZ (-999) by decide, iZ_le z1 hq] at h1
      rw [show nI 999 = iZ 999 by decide, iZ_le hq z2] at h2
      rw [cIf_t ⟨h1, h2⟩] at k
      refine nX10_raise_23 (by omega) (fun h23 => ?_) (fun h23 => by exfalso; omega)
      refine qX10_raise_29 ?_
      refine qX10_raise_30 ?_
      refine qX10_raise_31 ?_
      have rest : wp G (d + 3) mX10_raise P 40 [some (.ref D), some (.int (nI i)), some (.int (nI (bN b))), some (.int (nI n)), some (.int (iZ q)), none, none] [.int (nI (bN (!b))), .int (nI i), .ref D] w (0, 0) := by
        refine qX10_raise_40 (by assumption) (Nat.le_of_ble_eq_true rfl) (m_lineMany (!b) o1 p1 hi ?_)
        rw [e1, e2]
        refine qX10_raise_43 ?_
        refine qX10_raise_45 ?_
        refine qX10_raise_46 ?_
        have L1 : ∀ m j, j + m = lnN (!b) (lA s i).1 (lA s i).2.1 → (∀ k, k < j → 0 ≤ ((lA s i).2.2 (plN b (lA s i).2.1 n k) : Int) + q ∧ ((lA s i).2.2 (plN b (lA s i).2.1 n k) : Int) + q ≤ 999) → wp G (d + 3) mX10_raise P 48 [some (.ref D), some (.int (nI i)), some (.int (nI (bN b))), some (.int (nI n)), some (.int (iZ q)), some (.int (nI (lnN (!b) (lA s i).1 (lA s i).2.1))), some (.int (nI j))] [] w (0, 0) := by
          intro m
          induction m with
          | zero =>
            intro j hj hall
            have hokl : okL b (lA s i).1 (lA s i).2.1 n q (lA s i).2.2 := fun k hk => hall k (by omega)
            rw [cIf_t hokl] at k
            refine qX10_raise_48 ?_
            refine qX10_raise_50 ?_
            refine nX10_raise_52 (by omega) (by omega) (fun h52 => ?_) (fun h52 => by exfalso; omega)
            refine qX10_raise_86 ?_
            refine qX10_raise_87 (by assumption) (Nat.le_of_ble_eq_true rfl) (m_record h ho (fun w1 hF1 hm1 => ?_))
            obtain ⟨⟨v1, o4, o5, o6⟩, ⟨st1, p3, p4⟩, _, _, _, _, p8⟩ := id hm1
            obtain ⟨f1, f2, f3⟩ := p4 i hi
            have f1 : rR st1 i = (lA s i).1 := f1
            have f2 : rC st1 i = (lA s i).2.1 := f2
            have f3 : ∀ q, q < (lA s i).1 * (lA s i).2.1 → rE st1 i q = (lA s i).2.2 q := f3
            refine qX10_raise_90 ?_
            refine qX10_raise_91 ?_
            have L2 : ∀ m j (w' : sW) (st2 : Nat → Nat), j + m = lnN (!b) (lA s i).1 (lA s i).2.1 → Fr w1 w' (fun q => q = D + 1) → w'.1 (D + 1) = aN G 42 st2 → (∀ x, x < 14 * i + 2 ∨ 14 * i + 14 ≤ x → st2 x = st1 x) → (∀ p, p < (lA s i).1 * (lA s i).2.1 → rE st2 i p = if posN b (lA s i).2.1 p < j then adL b (lA s i).2.1 n q (lA s i).2.2 p else (lA s i).2.2 p) → wp G (d + 3) mX10_raise P 93 [some (.ref D), some (.int (nI i)), some (.int (nI (bN b))), some (.int (nI n)), some (.int (iZ q)), some (.int (nI (lnN (!b) (lA s i).1 (lA s i).2.1))), some (.int (nI j))] [] w' (0, 0) := by
              intro m
              induction m with
              | zero =>
                intro j w' st2 hj hF hs2 hfix hent
                have m1 : mO w' D v1 := (hF.2 D (by omega)).trans o4
                have hent2 : ∀ p, p < (lA s i).1 * (lA s i).2.1 → rE st2 i p = adL b (lA s i).2.1 n q (lA s i).2.2 p := fun p hp => by
                  rw [hent p hp, if_pos (by have := (lp_lt (b := b) hp).2; omega)]
                have hV2 := stV.ent p4 ho.1 hi hfix hent2
                have hok2 : okV (vwA st2 i) := by
                  have h9 : okV ((lA s i).1, (lA s i).2.1, adL b (lA s i).2.1 n q (lA s i).2.2) := ⟨g5, adL_le ha hokl⟩
                  have := hV2 i hi
                  rw [setAs] at this
                  exact h9.eq this
                have g1 : rR st2 i = (lA s i).1 := (hfix (14 * i + 0) (by omega)).trans f1
                have g2 : rC st2 i = (lA s i).2.1 := (hfix (14 * i + 1) (by omega)).trans f2
                refine qX10_raise_93 ?_
                refine qX10_raise_95 ?_
                refine nX10_raise_97 (by omega) (by omega) (fun h97 => ?_) (fun h97 => by exfalso; omega)
                refine qX10_raise_127 ?_
                refine qX10_raise_128 ?_
                refine qX10_raise_129 (by assumption) (Nat.le_of_ble_eq_true rfl) (m_greatestOf m1 hs2 hi hok2 ?_)
                refine qX10_raise_132 ?_
                rw [g1, g2, mxF_cong hent2]
                exact k w' ((hF1.mono (fun q hq => by unfold sD; omega)).tr hF (fun q hq => by unfold sD; omega)) (hm1.stt (hF.mono (fun q hq => Or.inl hq)) ⟨st2, hs2, hV2⟩ (by obtain ⟨f, hf⟩ := p8.1; exact ⟨f, by rw [hF.2 _ (by omega)]; exact hf⟩))
              | succ m ih =>
                intro j w' st2 hj hF hs2 hfix hent
                have m1 : mO w' D v1 := (hF.2 D (by omega)).trans o4
                have g2 : rC st2 i = (lA s i).2.1 := (hfix (14 * i + 1) (by omega)).trans f2
                have hlt : j < lnN (!b) (lA s i).1 (lA s i).2.1 := by omega
                have ip := plN_lt (k := j) g5 hn hlt
                have h12 := g5.2.2.2.2
                have hva := hokl j hlt
                have hv1 : rE st2 i (plN b (lA s i).2.1 n j) = (lA s i).2.2 (plN b (lA s i).2.1 n j) := by
                  rw [hent _ ip, if_neg (by rw [posN_pl hn hlt]; omega)]
                refine qX10_raise_93 ?_
                refine qX10_raise_95 ?_
                refine nX10_raise_97 (by omega) (by omega) (fun h97 => by exfalso; omega) (fun h97 => ?_)
                refine qX10_raise_100 ?_
                refine qX10_raise_101 ?_
                refine qX10_raise_102 ?_
                refine qX10_raise_103 ?_
                refine qX10_raise_104 ?_
                refine qX10_raise_106 ?_
                refine qX10_raise_107 ?_
                refine qX10_raise_108 ?_
                refine qX10_raise_109 ?_
                refine qX10_raise_110 ?_
                refine qX10_raise_112 (by assumption) (Nat.le_of_ble_eq_true rfl) (m_inLine b m1 hs2 hi (by rw [g2]; omega) ?_)
                rw [g2, hv1]
                refine qX10_raise_115 ?_
                refine qX10_raise_117 ?_
                rw [adN_eq hva.1]
                refine qX10_raise_118 (by assumption) (Nat.le_of_ble_eq_true rfl) (m_layInLine b m1 hs2 hi (by rw [g2]; omega) ?_)
                rw [g2]
                first | refine nX10_raise_121 ?_ | refine qX10_raise_121 ?_
                refine qX10_raise_124 ?_
                refine ih (j + 1) _ _ (by omega) (hF.up rfl) s_upS (fun x hx => by rw [updN_n (by omega)]; exact hfix x hx) (fun p hp => ?_)
                show updN st2 (14 * i + 2 + plN b (lA s i).2.1 n j) _ (14 * i + 2 + p) = _
                by_cases hpq : p = plN b (lA s i).2.1 n j
                · subst hpq
                  rw [updN_s, if_pos (by rw [posN_pl hn hlt]; omega)]
                  unfold adL
                  rw [linN_pl hn hlt, if_pos rfl]
                · rw [updN_n (by omega)]
                  have hh := hent p hp
                  have hh : st2 (14 * i + 2 + p) = _ := hh
                  rw [hh]
                  by_cases c1 : posN b (lA s i).2.1 p < j
                  · rw [if_pos c1, if_pos (by omega)]
                  · rw [if_neg c1]
                    by_cases c2 : posN b (lA s i).2.1 p < j + 1
                    · rw [if_pos c2]
                      unfold adL
                      rw [if_neg (fun z => hpq (by rw [← z, show j = posN b (lA s i).2.1 p by omega]; exact pl_lp.symm))]
                    · rw [if_neg c2]
            exact L2 (lnN (!b) (lA s i).1 (lA s i).2.1) 0 w1 st1 (by omega) Fr.rf p3 (fun x _ => rfl) (fun p hp => by rw [if_neg (by omega)]; exact f3 p hp)
          | succ m ih =>
            intro j hj hall
            have hlt : j < lnN (!b) (lA s i).1 (lA s i).2.1 := by omega
            have ip := plN_lt (k := j) g5 hn hlt
            have h12 := g5.2.2.2.2
            have hx := ha _ ip
            refine qX10_raise_48 ?_
            refine qX10_raise_50 ?_
            refine nX10_raise_52 (by omega) (by omega) (fun h52 => by exfalso; omega) (fun h52 => ?_)
            refine qX10_raise_55 ?_
            refine qX10_raise_56 ?_
            refine qX10_raise_57 ?_
            refine qX10_raise_58 ?_
            refine qX10_raise_59 ?_
            refine qX10_raise_61 (by assumption) (Nat.le_of_ble_eq_true rfl) (m_inLine b o1 p1 hi (by rw [e2]; omega) ?_)
            rw [e2, e3 _ ip]
            refine qX10_raise_64 ?_
            refine qX10_raise_66 ?_
            refine qX10_raise_67 ?_
            refine qX10_raise_68 ?_
            refine qX10_raise_71 (Nat.le_of_ble_eq_true rfl) (m_within0 (by decide) (fun y hy hyv => ?_) (fun hno => ?_))
            · have := adN_ok hx h1 h2 hy hyv
              refine nX10_raise_74 (by omega) (fun h74 => ?_) (fun h74 => by exfalso; omega)
              first | refine nX10_raise_80 ?_ | refine qX10_raise_80 ?_
              refine qX10_raise_83 ?_
              exact ih (j + 1) (by omega) (fun p hp => by
                by_cases hpj : p = j
                · subst hpj; exact this
                · exact hall p (by omega))
            · rw [cIf_f (fun hokl => hno (by
                have hva := hokl j hlt
                rw [adN_eq hva.1]
                refine inB_nI ?_
                unfold adN
                omega))] at k
              refine nX10_raise_74 (by omega) (fun h74 => by exfalso; omega) (fun h74 => ?_)
              refine qX10_raise_77 ?_
              refine qX10_raise_79 ?_
              exact k w Fr.rf h
        exact L1 (lnN (!b) (lA s i).1 (lA s i).2.1) 0 (by omega) (fun p hp => absurd hp (Nat.not_lt_zero p))
      cases b
      · refine nX10_raise_32 (by decide) (fun h => absurd rfl h) (fun _ => ?_)
        refine qX10_raise_35 ?_
        refine qX10_raise_36 ?_
        exact rest
      · refine nX10_raise_32 (by decide) (fun _ => ?_) (fun h => absurd h (by decide))
        refine qX10_raise_39 ?_
        exact rest
    · rw [cIf_f (fun e => hno (by
        rw [show (-999 : Int32) = iZ (-999) by decide, iZ_le z1 hq, show nI 999 = iZ 999 by decide, iZ_le hq z2]
        exact e))] at k
      refine nX10_raise_23 (by omega) (fun h23 => by exfalso; omega) (fun h23 => ?_)
      refine qX10_raise_26 ?_
      refine qX10_raise_28 ?_
      exact k w Fr.rf h
  · rw [cIf_f (fun e => hno ((lin_iff b p2).mpr e))] at k
    refine nX10_raise_7 (by omega) (fun h7 => by exfalso; omega) (fun h7 => ?_)
    refine qX10_raise_10 ?_
    refine qX10_raise_11 ?_
    exact k w Fr.rf h
set_option maxHeartbeats 1000000 in
theorem m_exchange {x z u : Int32} (b : Bool) (h : mdAt G w D s) (ho : okS s) (k : ∀ w', Fr w w' (sD D) → mdAt G w' D (spExchange s x b z u).2 → P (some (.int (spExchange s x b z u).1)) w') : wpM G (d + 4) yX10_exchange (0, 0) [.ref D, .int x, .int (nI (bN b)), .int z, .int u] w P := by
  obtain ⟨⟨v, o1, o2, o3⟩, ⟨st, p1, p2⟩, _⟩ := id h
  have hok := p2.ok ho.1
  unfold spExchange at k
  refine eX10_exchange ?_
  refine qX10_exchange_0 ?_
  refine qX10_exchange_1 ?_
  refine qX10_exchange_2 ?_
  refine qX10_exchange_3 ?_
  refine qX10_exchange_4 (by assumption) (Nat.le_of_ble_eq_true rfl) (m_isLine b o1 p1 hok (fun i n hi hn hx hz => ?_) (fun hno => ?_))
  · subst hx
    subst hz
    refine nX10_exchange_7 (by omega) (fun h7 => by exfalso; omega) (fun h7 => ?_)
    refine qX10_exchange_10 ?_
    refine qX10_exchange_11 ?_
    refine qX10_exchange_12 ?_
    refine qX10_exchange_13 ?_
    refine qX10_exchange_15 (by assumption) (Nat.le_of_ble_eq_true rfl) (m_isLine b o1 p1 hok (fun i2 o hi2 hoo hx hz => ?_) (fun hno => ?_))
    · subst hz
      rw [nI_eq (by omega) (by omega)] at hx
      subst hx
      obtain ⟨e1, e2, e3⟩ := p2 i hi
      have e1 : rR st i = _ := e1
      have e2 : rC st i = _ := e2
      have g5 := (ho.1 i hi).1
      have ha := (ho.1 i hi).2
      have b1 := g5.2.1
      have b2 := g5.2.2.2.1
      have hn : n < lnN b (lA s i).1 (lA s i).2.1 := by rw [← e1, ← e2]; exact hn
      have hoo : o < lnN b (lA s i).1 (lA s i).2.1 := by rw [← e1, ← e2]; exact hoo
      have bl : lnN b (lA s i).1 (lA s i).2.1 ≤ 4 := by cases b <;> assumption
      have bl2 : lnN (!b) (lA s i).1 (lA s i).2.1 ≤ 4 := by cases b <;> assumption
      rw [nN_nI (by omega), nN_nI (by omega), nN_nI (by omega), cIf_t ⟨inB_nI hi, inB_nI hn, inB_nI hoo⟩] at k
      refine nX10_exchange_18 (by omega) (fun h18 => ?_) (fun h18 => by exfalso; omega)
      refine qX10_exchange_23 ?_
      refine qX10_exchange_24 ?_
      refine nX10_exchange_26 (by omega) (by omega) (fun h26 => ?_) (fun h26 => ?_)
      · rw [cIf_f (fun e => h26 (by rw [nI_eq (by omega) (by omega)] at e; exact e))] at k
        refine qX10_exchange_32 ?_
        refine qX10_exchange_33 (by assumption) (Nat.le_of_ble_eq_true rfl) (m_record h ho (fun w1 hF1 hm1 => ?_))
        obtain ⟨⟨v1, o4, o5, o6⟩, ⟨st1, p3, p4⟩, _, _, _, _, p8⟩ := id hm1
        obtain ⟨f1, f2, f3⟩ := p4 i hi
        have f1 : rR st1 i = (lA s i).1 := f1
        have f2 : rC st1 i = (lA s i).2.1 := f2
        have f3 : ∀ q, q < (lA s i).1 * (lA s i).2.1 → rE st1 i q = (lA s i).2.2 q := f3
        refine qX10_exchange_36 ?_
        refine qX10_exchange_37 ?_
        refine qX10_exchange_39 ?_
        refine qX10_exchange_40 ?_
        have key : ∀ j (l5 l7 l8 : Option Value) (w' : sW) (st2 : Nat → Nat), mO w' D v1 → w'.1 (D + 1) = aN G 42 st2 → rR st2 i = (lA s i).1 → rC st2 i = (lA s i).2.1 → wp G (d + 3) mX10_exchange P 58 [some (.ref D), some (.int (nI i)), some (.int (nI (bN b))), some (.int (nI n)), some (.int (nI o)), l5, some (.int (nI j)), l7, l8] [.int (nI (lnN (!b) (lA s i).1 (lA s i).2.1)), .int (nI j)] w' (0, 0) → wp G (d + 3) mX10_exchange P 42 [some (.ref D), some (.int (nI i)), some (.int (nI (bN b))), some (.int (nI n)), some (.int (nI o)), l5, some (.int (nI j)), l7, l8] [] w' (0, 0) := by
          intro j l5 l7 l8 w' st2 m1 hs2 g1 g2 kk
          rw [← g1, ← g2] at kk
          refine qX10_exchange_42 ?_
          refine qX10_exchange_44 ?_
          refine qX10_exchange_45 ?_
          refine qX10_exchange_46 ?_
          cases b
          · refine nX10_exchange_47 (by decide) (fun h => absurd rfl h) (fun _ => ?_)
            refine qX10_exchange_50 ?_
            refine qX10_exchange_51 ?_
            refine qX10_exchange_55 (by assumption) (Nat.le_of_ble_eq_true rfl) (m_lineMany true m1 hs2 hi ?_)
            exact kk
          · refine nX10_exchange_47 (by decide) (fun _ => ?_) (fun h => absurd h (by decide))
            refine qX10_exchange_54 ?_
            refine qX10_exchange_55 (by assumption) (Nat.le_of_ble_eq_true rfl) (m_lineMany false m1 hs2 hi ?_)
            exact kk
        have L : ∀ m j (w' : sW) (st2 : Nat → Nat) (l7 l8 : Option Value), j + m = lnN (!b) (lA s i).1 (lA s i).2.1 → Fr w1 w' (fun q => q = D + 1) → w'.1 (D + 1) = aN G 42 st2 → (∀ x, x < 14 * i + 2 ∨ 14 * i + 14 ≤ x → st2 x = st1 x) → (∀ p, p < (lA s i).1 * (lA s i).2.1 → rE st2 i p = if posN b (lA s i).2.1 p < j then swL b (lA s i).2.1 n o (lA s i).2.2 p else (lA s i).2.2 p) → wp G (d + 3) mX10_exchange P 42 [some (.ref D), some (.int (nI i)), some (.int (nI (bN b))), some (.int (nI n)), some (.int (nI o)), some (.int (nI (tf (unL b (lA s i).2.1 n o (lA s i).2.2 j)))), some (.int (nI j)), l7, l8] [] w' (0, 0) := by
          intro m
          induction m with
          | zero =>
            intro j w' st2 l7 l8 hj hF hs2 hfix hent
            have m1 : mO w' D v1 := (hF.2 D (by omega)).trans o4
            have g1 : rR st2 i = (lA s i).1 := (hfix (14 * i + 0) (by omega)).trans f1
            have g2 : rC st2 i = (lA s i).2.1 := (hfix (14 * i + 1) (by omega)).trans f2
            have hent2 : ∀ p, p < (lA s i).1 * (lA s i).2.1 → rE st2 i p = swL b (lA s i).2.1 n o (lA s i).2.2 p := fun p hp => by
              rw [hent p hp, if_pos (by have := (lp_lt (b := b) hp).2; omega)]
            refine key j _ _ _ w' st2 m1 hs2 g1 g2 ?_
            refine nX10_exchange_58 (by omega) (by omega) (fun h58 => ?_) (fun h58 => by exfalso; omega)
            refine qX10_exchange_128 ?_
            refine qX10_exchange_130 ?_
            rw [show j = lnN (!b) (lA s i).1 (lA s i).2.1 by omega]
            exact k w' ((hF1.mono (fun q hq => by unfold sD; omega)).tr hF (fun q hq => by unfold sD; omega)) (hm1.stt (hF.mono (fun q hq => Or.inl hq)) ⟨st2, hs2, stV.ent p4 ho.1 hi hfix hent2⟩ (by obtain ⟨f, hf⟩ := p8.1; exact ⟨f, by rw [hF.2 _ (by omega)]; exact hf⟩))
          | succ m ih =>
            intro j w' st2 l7 l8 hj hF hs2 hfix hent
            have m1 : mO w' D v1 := (hF.2 D (by omega)).trans o4
            have g1 : rR st2 i = (lA s i).1 := (hfix (14 * i + 0) (by omega)).trans f1
            have g2 : rC st2 i = (lA s i).2.1 := (hfix (14 * i + 1) (by omega)).trans f2
            have hlt : j < lnN (!b) (lA s i).1 (lA s i).2.1 := by omega
            have ip := plN_lt (k := j) g5 hn hlt
            have jp := plN_lt (k := j) g5 hoo hlt
            have hpo : plN b (lA s i).2.1 n j ≠ plN b (lA s i).2.1 o j := fun z => h26 (by rw [← linN_pl (R := (lA s i).1) hn hlt, z, linN_pl hoo hlt])
            have h12 := g5.2.2.2.2
            have hv1 : rE st2 i (plN b (lA s i).2.1 n j) = (lA s i).2.2 (plN b (lA s i).2.1 n j) := by
              rw [hent _ ip, if_neg (by rw [posN_pl hn hlt]; omega)]
            have hv2 : rE st2 i (plN b (lA s i).2.1 o j) = (lA s i).2.2 (plN b (lA s i).2.1 o j) := by
              rw [hent _ jp, if_neg (by rw [posN_pl hoo hlt]; omega)]
            have hx := ha _ ip
            have hy := ha _ jp
            refine key j _ _ _ w' st2 m1 hs2 g1 g2 ?_
            refine nX10_exchange_58 (by omega) (by omega) (fun h58 => by exfalso; omega) (fun h58 => ?_)
            refine qX10_exchange_61 ?_
            refine qX10_exchange_62 ?_
            refine qX10_exchange_63 ?_
            refine qX10_exchange_64 ?_
            refine qX10_exchange_65 ?_
            refine qX10_exchange_67 (by assumption) (Nat.le_of_ble_eq_true rfl) (m_inLine b m1 hs2 hi (by rw [g2]; omega) ?_)
            rw [g2, hv1]
            refine qX10_exchange_70 ?_
            refine qX10_exchange_72 ?_
            refine qX10_exchange_73 ?_
            refine qX10_exchange_74 ?_
            refine qX10_exchange_75 ?_
            refine qX10_exchange_77 ?_
            refine qX10_exchange_79 (by assumption) (Nat.le_of_ble_eq_true rfl) (m_inLine b m1 hs2 hi (by rw [g2]; omega) ?_)
            rw [g2, hv2]
            refine qX10_exchange_82 ?_
            refine qX10_exchange_84 ?_
            refine qX10_exchange_86 ?_
            have rest : ∀ f : Bool, f = unL b (lA s i).2.1 n o (lA s i).2.2 (j + 1) → wp G (d + 3) mX10_exchange P 97 [some (.ref D), some (.int (nI i)), some (.int (nI (bN b))), some (.int (nI n)), some (.int (nI o)), some (.int (nI (tf (unL b (lA s i).2.1 n o (lA s i).2.2 j)))), some (.int (nI j)), some (.int (nI ((lA s i).2.2 (plN b (lA s i).2.1 n j)))), some (.int (nI ((lA s i).2.2 (plN b (lA s i).2.1 o j))))] [.int (nI (tf f))] w' (0, 0) := by
              intro f hf
              refine qX10_exchange_97 ?_
              refine qX10_exchange_99 ?_
              refine qX10_exchange_100 ?_
              refine qX10_exchange_101 ?_
              refine qX10_exchange_102 ?_
              refine qX10_exchange_103 ?_
              refine qX10_exchange_105 ?_
              refine qX10_exchange_107 (by assumption) (Nat.le_of_ble_eq_true rfl) (m_layInLine b m1 hs2 hi (by rw [g2]; omega) ?_)
              rw [g2]
              generalize hw3 : s_up w' (D + 1) _ = w3
              have hF3 : Fr w' w3 (fun q => q = D + 1) := by rw [← hw3]; exact Fr.rf.up rfl
              have q3 : w3.1 (D + 1) = aN G 42 (updN st2 (14 * i + 2 + plN b (lA s i).2.1 n j) ((lA s i).2.2 (plN b (lA s i).2.1 o j))) := by rw [← hw3]; exact s_upS
              have m3 : mO w3 D v1 := (hF3.2 D (by omega)).trans m1
              have g3 : rC (updN st2 (14 * i + 2 + plN b (lA s i).2.1 n j) ((lA s i).2.2 (plN b (lA s i).2.1 o j))) i = (lA s i).2.1 := by
                unfold rC
                rw [updN_n (by omega)]
                exact g2
              refine qX10_exchange_110 ?_
              refine qX10_exchange_111 ?_
              refine qX10_exchange_112 ?_
              refine qX10_exchange_113 ?_
              refine qX10_exchange_115 ?_
              refine qX10_exchange_117 ?_
              refine qX10_exchange_119 (by assumption) (Nat.le_of_ble_eq_true rfl) (m_layInLine b m3 q3 hi (by rw [g3]; omega) ?_)
              rw [g3]
              first | refine nX10_exchange_122 ?_ | refine qX10_exchange_122 ?_
              refine qX10_exchange_125 ?_
              rw [hf]
              refine ih (j + 1) _ _ _ _ (by omega) ((hF.tr hF3 (fun q hq => hq)).up rfl) s_upS (fun x hx => by rw [updN_n (by omega), updN_n (by omega)]; exact hfix x hx) (fun p hp => ?_)
              show updN (updN st2 _ _) (14 * i + 2 + plN b (lA s i).2.1 o j) _ (14 * i + 2 + p) = _
              by_cases q1 : p = plN b (lA s i).2.1 o j
              · rw [q1, updN_s, if_pos (by rw [posN_pl hoo hlt]; omega)]
                simp only [swL]
                rw [linN_pl hoo hlt, if_neg (Ne.symm h26), if_pos rfl, posN_pl hoo hlt]
              · rw [updN_n (by omega)]
                by_cases q2 : p = plN b (lA s i).2.1 n j
                · rw [q2, updN_s, if_pos (by rw [posN_pl hn hlt]; omega)]
                  simp only [swL]
                  rw [linN_pl hn hlt, if_pos rfl, posN_pl hn hlt]
                · rw [updN_n (by omega)]
                  have hh : st2 (14 * i + 2 + p) = _ := hent p hp
                  rw [hh]
                  by_cases q3 : posN b (lA s i).2.1 p = j
                  · have l1 : linN b (lA s i).2.1 p ≠ n := fun z => q2 (by rw [← z, ← q3]; exact pl_lp.symm)
                    have l2 : linN b (lA s i).2.1 p ≠ o := fun z => q1 (by rw [← z, ← q3]; exact pl_lp.symm)
                    rw [if_neg (by omega), if_pos (by omega)]
                    simp only [swL]
                    rw [if_neg l1, if_neg l2]
                  · by_cases q4 : posN b (lA s i).2.1 p < j
                    · rw [if_pos q4, if_pos (by omega)]
                    · rw [if_neg q4, if_neg (by omega)]
            refine nX10_exchange_88 (by omega) (by omega) (fun h88 => ?_) (fun h88 => ?_)
            · refine qX10_exchange_96 ?_
              refine rest true ?_
              simp only [unL]
              rw [show ((lA s i).2.2 (plN b (lA s i).2.1 n j) != (lA s i).2.2 (plN b (lA s i).2.1 o j)) = true by rw [bne_iff_ne]; exact h88, Bool.or_true]
            · refine qX10_exchange_91 ?_
              refine qX10_exchange_93 ?_
              refine rest _ ?_
              simp only [unL]
              rw [show ((lA s i).2.2 (plN b (lA s i).2.1 n j) != (lA s i).2.2 (plN b (lA s i).2.1 o j)) = false by rw [bne_eq_false_iff_eq]; exact h88, Bool.or_false]
        exact L (lnN (!b) (lA s i).1 (lA s i).2.1) 0 w1 st1 _ _ (by omega) Fr.rf p3 (fun x _ => rfl) (fun p hp => by rw [if_neg (by omega)]; exact f3 p hp)
      · rw [cIf_t (by rw [h26])] at k
        refine qX10_exchange_29 ?_
        refine qX10_exchange_31 ?_
        exact k w Fr.rf h
    · rw [cIf_f (fun e => hno ((lin_iff b p2).mpr ⟨e.1, e.2.2⟩))] at k
      refine nX10_exchange_18 (by omega) (fun h18 => by exfalso; omega) (fun h18 => ?_)
      refine qX10_exchange_21 ?_
      refine qX10_exchange_22 ?_
      exact k w Fr.rf h
  · rw [cIf_f (fun e => hno ((lin_iff b p2).mpr ⟨e.1, e.2.1⟩))] at k
    refine nX10_exchange_7 (by omega) (fun h7 => ?_) (fun h7 => by exfalso; omega)
    refine qX10_exchange_21 ?_
    refine qX10_exchange_22 ?_
    exact k w Fr.rf h
end REFV
