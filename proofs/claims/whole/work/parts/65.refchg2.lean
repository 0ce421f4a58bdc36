/-! the reference: close, raise, exchange, drop -/
theorem unlN_less {a b : Nat → Nat} (h : ∀ k, a k ≤ b k) : ∀ n, unlN a b (n + 1) = unlN a b n + (if a n < b n then 1 else 0) := fun n => by
  have := h n
  simp only [unlN]
  by_cases hq : a n = b n
  · rw [if_pos hq, if_neg (by omega)]
  · rw [if_neg hq, if_pos (by omega)]
theorem fwS_dm {n b r c : Nat} {a : Nat → Nat} (hc : c < n) : fwS n b (r * n + c) a = updN a (r * n + c) (min (a (r * n + c)) (a (r * n + b) + a (b * n + c))) := by
  unfold fwS
  rw [dm_div hc, dm_mod hc]
section REFU
variable {G : sG} {d D : Nat} {P : sQ} {w : sW} {v : M7} {st : Nat → Nat} {s : xS}
theorem m_isSquare {i : Nat} (h : mO w D v) (hs : w.1 (D + 1) = aN G 42 st) (hi : i < 3) (ho : okV (vwA st i)) (kt : rR st i = rC st i → P (some (.int (nI 1))) w) (kf : ¬ rR st i = rC st i → P (some (.int (nI 0))) w) : wpM G (d + 2) yX10_isSquare (0, 0) [.ref D, .int (nI i)] w P := by
  have b1 : rR st i ≤ 4 := ho.1.2.1
  have b2 : rC st i ≤ 4 := ho.1.2.2.2.1
  refine eX10_isSquare ?_
  refine qX10_isSquare_0 ?_
  refine qX10_isSquare_1 ?_
  refine qX10_isSquare_2 (by assumption) (Nat.le_of_ble_eq_true rfl) (m_rowsOf h hs hi ?_)
  refine qX10_isSquare_5 ?_
  refine qX10_isSquare_6 ?_
  refine qX10_isSquare_7 (by assumption) (Nat.le_of_ble_eq_true rfl) (m_columnsOf h hs hi ?_)
  refine nX10_isSquare_10 (by omega) (by omega) (fun h10 => ?_) (fun h10 => ?_)
  · refine qX10_isSquare_17 ?_
    refine qX10_isSquare_18 rfl ?_
    exact kf h10
  · refine qX10_isSquare_13 ?_
    refine qX10_isSquare_14 ?_
    refine qX10_isSquare_18 rfl ?_
    exact kt h10
set_option maxHeartbeats 1000000 in
theorem m_close {x : Int32} (h : mdAt G w D s) (ho : okS s) (k : ∀ w', Fr w w' (sD D) → mdAt G w' D (spClose s x).2 → P (some (.int (spClose s x).1)) w') : wpM G (d + 4) yX10_close (0, 0) [.ref D, .int x] w P := by
  obtain ⟨⟨v, o1, o2, o3⟩, ⟨st, p1, p2⟩, _, _, _, _, p7⟩ := id h
  have hok := p2.ok ho.1
  unfold spClose at k
  refine eX10_close ?_
  refine qX10_close_0 ?_
  refine qX10_close_1 (Nat.le_of_ble_eq_true rfl) (m_isArray (fun i hi hx => ?_) (fun hx => ?_))
  · subst hx
    rw [nN_nI (by omega), cIf_t (inB_nI hi)] at k
    obtain ⟨e1, e2, _⟩ := p2 i hi
    have e1 : rR st i = _ := e1
    have e2 : rC st i = _ := e2
    rw [← e1, ← e2] at k
    refine nX10_close_4 (by omega) (fun h4 => ?_) (fun h4 => by exfalso; omega)
    refine qX10_close_9 ?_
    refine qX10_close_10 ?_
    refine qX10_close_11 (by assumption) (Nat.le_of_ble_eq_true rfl) (m_isSquare o1 p1 hi (hok i hi) (fun hq => ?_) (fun hq => ?_))
    · rw [if_pos hq] at k
      have g5 := (ho.1 i hi).1
      have b1 := g5.2.1
      have b0 := g5.1
      have hsq0 : (lA s i).1 = (lA s i).2.1 := by rw [← e1, ← e2]; exact hq
      refine nX10_close_14 (by omega) (fun h14 => ?_) (fun h14 => by exfalso; omega)
      refine qX10_close_20 ?_
      refine qX10_close_21 (by assumption) (Nat.le_of_ble_eq_true rfl) (m_record h ho (fun w1 hF1 hm1 => ?_))
      obtain ⟨⟨v1, o4, o5, o6⟩, ⟨st1, p3, p4⟩, _, _, _, _, p8⟩ := id hm1
      obtain ⟨f1, f2, f3⟩ := p4 i hi
      have f1 : rR st1 i = (lA s i).1 := f1
      have f2 : rC st1 i = (lA s i).2.1 := f2
      have f3 : ∀ q, q < (lA s i).1 * (lA s i).2.1 → rE st1 i q = (lA s i).2.2 q := f3
      rw [e1] at k
      generalize hn : (lA s i).1 = n at *
      rw [← hsq0] at f2 f3 g5
      have hd : okD n n := g5
      have h12 : n * n ≤ 12 := hd.2.2.2.2
      have f2' : rC st1 i = n := f2
      have ha : ∀ q, q < n * n → rE st1 i q ≤ 999 := fun q hq2 => by
        rw [f3 q hq2]
        exact (ho.1 i hi).2 q (by rw [hn, ← hsq0]; exact hq2)
      refine qX10_close_24 ?_
      refine qX10_close_25 ?_
      refine qX10_close_26 (by assumption) (Nat.le_of_ble_eq_true rfl) (m_rowsOf o4 p3 hi ?_)
      rw [f1]
      refine qX10_close_29 ?_
      refine qX10_close_30 ?_
      refine qX10_close_31 ?_
      have L1 : ∀ m q (w' : sW) (td : Nat → Nat), q + m = n * n → Fr w1 w' (fun q => q = D + 6) → w'.1 (D + 6) = aN G 48 td → (∀ p, p < q → td p = rE st1 i p) → wp G (d + 3) mX10_close P 32 [some (.ref D), some (.int (nI i)), some (.int (nI n)), some (.int (nI q)), none, none] [] w' (0, 0) := by
        intro m
        induction m with
        | zero =>
          intro q w' td hq hF htd hpt
          have hqe : q = n * n := by omega
          subst hqe
          refine qX10_close_32 ?_
          refine qX10_close_33 ?_
          refine qX10_close_34 ?_
          first | refine nX10_close_35 ?_ | refine qX10_close_35 ?_
          refine nX10_close_36 (by omega) (by omega) (fun h36 => ?_) (fun h36 => by exfalso; omega)
          refine qX10_close_62 ?_
          refine qX10_close_63 ?_
          have L2 : ∀ m b (w' : sW) (st2 : Nat → Nat) (l4 l5 : Option Value), b + m = n → Fr w1 w' (fun q => q = D + 1 ∨ q = D + 6) → w'.1 (D + 6) = aN G 48 td → w'.1 (D + 1) = aN G 42 st2 → (∀ x, x < 14 * i + 2 ∨ 14 * i + 14 ≤ x → st2 x = st1 x) → (∀ q, q < n * n → rE st2 i q = fwB n b (rE st1 i) q) → wp G (d + 3) mX10_close P 64 [some (.ref D), some (.int (nI i)), some (.int (nI n)), some (.int (nI b)), l4, l5] [] w' (0, 0) := by
            intro m
            induction m with
            | zero =>
              intro b w' st2 l4 l5 hb hF htd hst2 hfix hent
              have hbe : b = n := by omega
              subst hbe
              have m1 : mO w' D v1 := (hF.2 D (by omega)).trans o4
              have g1 : rR st2 i = b := (hfix (14 * i + 0) (by omega)).trans f1
              have g2 : rC st2 i = b := (hfix (14 * i + 1) (by omega)).trans f2'
              refine qX10_close_64 ?_
              refine qX10_close_65 ?_
              refine nX10_close_66 (by omega) (by omega) (fun h66 => ?_) (fun h66 => by exfalso; omega)
              refine qX10_close_148 ?_
              refine qX10_close_149 ?_
              refine qX10_close_150 ?_
              refine qX10_close_151 ?_
              have L4 : ∀ m q, q + m = b * b → wp G (d + 3) mX10_close P 153 [some (.ref D), some (.int (nI i)), some (.int (nI b)), some (.int (nI (unlN (fwB b b (rE st1 i)) (rE st1 i) q))), some (.int (nI q)), l5] [] w' (0, 0) := by
                intro m
                induction m with
                | zero =>
                  intro q hq
                  refine qX10_close_153 ?_
                  refine qX10_close_155 ?_
                  refine qX10_close_156 ?_
                  first | refine nX10_close_157 ?_ | refine qX10_close_157 ?_
                  refine nX10_close_158 (by omega) (by omega) (fun h158 => ?_) (fun h158 => by exfalso; omega)
                  refine qX10_close_198 ?_
                  refine qX10_close_199 ?_
                  rw [show q = b * b by omega]
                  have ec := fwB_cong f3 b (Nat.le_refl _)
                  rw [unlN_cong ec f3]
                  refine k w' ((hF1.mono (fun q hq => by unfold sD; omega)).tr hF (fun q hq => by unfold sD; omega)) (hm1.stt hF ⟨st2, hst2, ?_⟩ ⟨td, htd⟩)
                  have := stV.set (v := (b, b, fwB b b (lA s i).2.2)) p4 ho.1 hi (fun x hx => hfix x (by omega)) ⟨g1, g2, fun q hq => (hent q hq).trans (ec q hq)⟩
                  exact this
                | succ m ih =>
                  intro q hq
                  obtain ⟨c1, c2⟩ := dm_lt (show q < b * b by omega)
                  have hu := unlN_le (a := fwB b b (rE st1 i)) (b := rE st1 i) q
                  have hst := ih (q + 1) (by omega)
                  rw [unlN_less (a := fwB b b (rE st1 i)) (b := rE st1 i) (fun z => fwB_dec b z)] at hst
                  have hv := hent q (by omega)
                  have hle := fwB_le (n := b) ha b q (by omega)
                  have hle2 := ha q (by omega)
                  have htq := hpt q (by omega)
                  refine qX10_close_153 ?_
                  refine qX10_close_155 ?_
                  refine qX10_close_156 ?_
                  first | refine nX10_close_157 ?_ | refine qX10_close_157 ?_
                  refine nX10_close_158 (by omega) (by omega) (fun h158 => by exfalso; omega) (fun h158 => ?_)
                  refine qX10_close_161 ?_
                  refine qX10_close_162 ?_
                  refine qX10_close_163 ?_
                  refine qX10_close_164 ?_
                  refine qX10_close_166 ?_
                  refine nX10_close_167 (by omega) (by omega) (by omega) ?_
                  refine qX10_close_168 ?_
                  refine qX10_close_170 ?_
                  refine nX10_close_171 (by omega) (by omega) (by omega) ?_
                  have hin : q / b * rC st2 i + q % b < 12 := by rw [g2, dm_eq]; omega
                  refine qX10_close_172 (by assumption) (Nat.le_of_ble_eq_true rfl) (m_at m1 hst2 hi hin ?_)
                  rw [g2, dm_eq, hv]
                  refine qX10_close_175 ?_
                  refine qX10_close_176 (by assumption) ?_
                  refine qX10_close_179 ?_
                  refine fX10_close_181 htd (by omega) (by omega) ?_
                  rw [htq]
                  refine nX10_close_182 (by omega) (by omega) (fun h182 => ?_) (fun h182 => ?_)
                  · rw [if_neg (by omega)] at hst
                    refine qX10_close_189 ?_
                    first | refine nX10_close_190 ?_ | refine qX10_close_190 ?_
                    refine qX10_close_191 ?_
                    first | refine nX10_close_192 ?_ | refine qX10_close_192 ?_
                    refine qX10_close_195 ?_
                    exact hst
                  · rw [if_pos h182] at hst
                    refine qX10_close_185 ?_
                    refine qX10_close_186 ?_
                    first | refine nX10_close_190 ?_ | refine qX10_close_190 ?_
                    refine qX10_close_191 ?_
                    first | refine nX10_close_192 ?_ | refine qX10_close_192 ?_
                    refine qX10_close_195 ?_
                    exact hst
              exact L4 (b * b) 0 (by omega)
            | succ m ih =>
              intro b w' st2 l4 l5 hb hF htd hst2 hfix hent
              refine qX10_close_64 ?_
              refine qX10_close_65 ?_
              refine nX10_close_66 (by omega) (by omega) (fun h66 => by exfalso; omega) (fun h66 => ?_)
              refine qX10_close_69 ?_
              refine qX10_close_70 ?_
              have L3 : ∀ m q (w' : sW) (st2 : Nat → Nat) (l5 : Option Value), q + m = n * n → Fr w1 w' (fun q => q = D + 1 ∨ q = D + 6) → w'.1 (D + 6) = aN G 48 td → w'.1 (D + 1) = aN G 42 st2 → (∀ x, x < 14 * i + 2 ∨ 14 * i + 14 ≤ x → st2 x = st1 x) → (∀ p, p < n * n → rE st2 i p = fwK n b q (fwB n b (rE st1 i)) p) → wp G (d + 3) mX10_close P 72 [some (.ref D), some (.int (nI i)), some (.int (nI n)), some (.int (nI b)), some (.int (nI q)), l5] [] w' (0, 0) := by
                intro m
                induction m with
                | zero =>
                  intro q w' st2 l5 hq hF htd hst2 hfix hent
                  refine qX10_close_72 ?_
                  refine qX10_close_74 ?_
                  refine qX10_close_75 ?_
                  first | refine nX10_close_76 ?_ | refine qX10_close_76 ?_
                  refine nX10_close_77 (by omega) (by omega) (fun h77 => ?_) (fun h77 => by exfalso; omega)
                  first | refine nX10_close_142 ?_ | refine qX10_close_142 ?_
                  refine qX10_close_145 ?_
                  refine ih (b + 1) w' st2 _ _ (by omega) hF htd hst2 hfix (fun p hp => ?_)
                  rw [hent p hp, show q = n * n by omega]
                  rfl
                | succ m ih3 =>
                  intro q w' st2 l5 hq hF htd hst2 hfix hent
                  obtain ⟨c1, c2⟩ := dm_lt (show q < n * n by omega)
                  have m1 : mO w' D v1 := (hF.2 D (by omega)).trans o4
                  have g1 : rR st2 i = n := (hfix (14 * i + 0) (by omega)).trans f1
                  have g2 : rC st2 i = n := (hfix (14 * i + 1) (by omega)).trans f2'
                  have i1 := hd.in c1 (show b < n by omega)
                  have i2 := hd.in (show b < n by omega) c2
                  have hle : ∀ p, p < n * n → rE st2 i p ≤ 999 := fun p hp => by rw [hent p hp]; exact fwK_le (fwB_le ha b) q p hp
                  have l1 := hle _ i1
                  have l2 := hle _ i2
                  have l3 := hle q (by omega)
                  have hnx : ∀ p, p < n * n → fwK n b (q + 1) (fwB n b (rE st1 i)) p = updN (rE st2 i) q (min (rE st2 i q) (rE st2 i (q / n * n + b) + rE st2 i (b * n + q % n))) p := fun p hp => by
                    simp only [fwK, fwS]
                    rw [hent q (by omega), hent _ i1, hent _ i2]
                    by_cases hpq : p = q
                    · rw [hpq, updN_s, updN_s]
                    · rw [updN_n hpq, updN_n hpq, hent p hp]
                  refine qX10_close_72 ?_
                  refine qX10_close_74 ?_
                  refine qX10_close_75 ?_
                  first | refine nX10_close_76 ?_ | refine qX10_close_76 ?_
                  refine nX10_close_77 (by omega) (by omega) (fun h77 => by exfalso; omega) (fun h77 => ?_)
                  refine qX10_close_80 ?_
                  refine qX10_close_81 ?_
                  refine qX10_close_82 ?_
                  refine qX10_close_84 ?_
                  refine nX10_close_85 (by omega) (by omega) (by omega) ?_
                  refine qX10_close_86 ?_
                  refine qX10_close_87 (by assumption) (Nat.le_of_ble_eq_true rfl) (m_at m1 hst2 hi (by rw [g2]; omega) ?_)
                  rw [g2]
                  refine qX10_close_90 ?_
                  refine qX10_close_91 ?_
                  refine qX10_close_92 ?_
                  refine qX10_close_93 ?_
                  refine qX10_close_95 ?_
                  refine nX10_close_96 (by omega) (by omega) (by omega) ?_
                  refine qX10_close_97 (by assumption) (Nat.le_of_ble_eq_true rfl) (m_at m1 hst2 hi (by rw [g2]; omega) ?_)
                  rw [g2]
                  first | refine nX10_close_100 ?_ | refine qX10_close_100 ?_
                  refine qX10_close_101 ?_
                  refine qX10_close_103 ?_
                  refine qX10_close_105 ?_
                  refine qX10_close_106 ?_
                  refine qX10_close_107 ?_
                  refine qX10_close_109 ?_
                  refine nX10_close_110 (by omega) (by omega) (by omega) ?_
                  refine qX10_close_111 ?_
                  refine qX10_close_113 ?_
                  refine nX10_close_114 (by omega) (by omega) (by omega) ?_
                  refine qX10_close_115 (by assumption) (Nat.le_of_ble_eq_true rfl) (m_at m1 hst2 hi (by rw [g2, dm_eq]; omega) ?_)
                  rw [g2, dm_eq]
                  refine nX10_close_118 (by omega) (by omega) (fun h118 => ?_) (fun h118 => ?_)
                  · first | refine nX10_close_136 ?_ | refine qX10_close_136 ?_
                    refine qX10_close_139 ?_
                    refine ih3 (q + 1) w' st2 _ (by omega) hF htd hst2 hfix (fun p hp => ?_)
                    rw [hnx p hp]
                    by_cases hpq : p = q
                    · subst hpq; rw [updN_s, Nat.min_eq_left h118]
                    · rw [updN_n hpq]
                  · refine qX10_close_121 ?_
                    refine qX10_close_122 ?_
                    refine qX10_close_123 ?_
                    refine qX10_close_125 ?_
                    refine nX10_close_126 (by omega) (by omega) (by omega) ?_
                    refine qX10_close_127 ?_
                    refine qX10_close_129 ?_
                    refine nX10_close_130 (by omega) (by omega) (by omega) ?_
                    refine qX10_close_131 ?_
                    refine qX10_close_133 (by assumption) (Nat.le_of_ble_eq_true rfl) (m_lay m1 hst2 hi (by rw [g2, dm_eq]; omega) ?_)
                    rw [g2, dm_eq]
                    first | refine nX10_close_136 ?_ | refine qX10_close_136 ?_
                    refine qX10_close_139 ?_
                    refine ih3 (q + 1) _ _ _ (by omega) (hF.up (Or.inl rfl)) (by rw [s_upN (by omega)]; exact htd) s_upS (fun x hx => by rw [updN_n (by omega)]; exact hfix x hx) (fun p hp => ?_)
                    rw [hnx p hp]
                    show updN st2 (14 * i + 2 + q) _ (14 * i + 2 + p) = _
                    by_cases hpq : p = q
                    · subst hpq; rw [updN_s, updN_s, Nat.min_eq_right (Nat.le_of_lt h118)]
                    · rw [updN_n (by omega), updN_n hpq]; rfl
              exact L3 (n * n) 0 w' st2 _ (by omega) hF htd hst2 hfix hent
          have hF' : Fr w1 w' (fun q => q = D + 1 ∨ q = D + 6) := hF.mono (fun q hq => Or.inr hq)
          exact L2 n 0 w' st1 _ _ (by omega) hF' htd (by rw [hF.2 _ (by omega)]; exact p3) (fun x _ => rfl) (fun q _ => rfl)
        | succ m ih =>
          intro q w' td hq hF htd hpt
          obtain ⟨c1, c2⟩ := dm_lt (show q < n * n by omega)
          have m1 : mO w' D v1 := (hF.2 D (by omega)).trans o4
          have q1 : w'.1 (D + 1) = aN G 42 st1 := by rw [hF.2 _ (by omega)]; exact p3
          refine qX10_close_32 ?_
          refine qX10_close_33 ?_
          refine qX10_close_34 ?_
          first | refine nX10_close_35 ?_ | refine qX10_close_35 ?_
          refine nX10_close_36 (by omega) (by omega) (fun h36 => by exfalso; omega) (fun h36 => ?_)
          refine qX10_close_39 ?_
          refine qX10_close_40 (by assumption) ?_
          refine qX10_close_43 ?_
          refine qX10_close_44 ?_
          refine qX10_close_45 ?_
          refine qX10_close_46 ?_
          refine qX10_close_47 ?_
          refine nX10_close_48 (by omega) (by omega) (by omega) ?_
          refine qX10_close_49 ?_
          refine qX10_close_50 ?_
          refine nX10_close_51 (by omega) (by omega) (by omega) ?_
          refine qX10_close_52 (by assumption) (Nat.le_of_ble_eq_true rfl) (m_at m1 q1 hi (by rw [f2', dm_eq]; omega) ?_)
          rw [f2', dm_eq]
          first | refine fX10_close_55 (by assumption) (by omega) (by decide) ?_ | refine nX10_close_55 (by assumption) (by omega) (by decide) ?_
          first | refine nX10_close_56 ?_ | refine qX10_close_56 ?_
          refine qX10_close_59 ?_
          refine ih (q + 1) _ (updN td q (rE st1 i q)) (by omega) (hF.up rfl) s_upS (fun p hp => ?_)
          by_cases hpq : p = q
          · subst hpq; rw [updN_s]
          · rw [updN_n hpq]; exact hpt p (by omega)
      obtain ⟨td0, htd0⟩ := p8.1
      exact L1 (n * n) 0 w1 td0 (by omega) Fr.rf htd0 (fun p hp => absurd hp (Nat.not_lt_zero p))
    · rw [if_neg hq] at k
      refine nX10_close_14 (by omega) (fun h14 => by exfalso; omega) (fun h14 => ?_)
      refine qX10_close_17 ?_
      refine qX10_close_19 ?_
      exact k w Fr.rf h
  · rw [cIf_f hx] at k
    refine nX10_close_4 (by omega) (fun h4 => by exfalso; omega) (fun h4 => ?_)
    refine qX10_close_7 ?_
    refine qX10_close_8 ?_
    exact k w Fr.rf h
end REFU
