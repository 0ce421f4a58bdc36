/-! the reference: drop -/
def kpJ (b : Bool) (C n j : Nat) : Nat := kpN b C n (j / C) (j % C)
theorem kpJ_succ {b : Bool} {C n j : Nat} (hC : 1 ≤ C) (hn : b = false → n < C) : kpJ b C n (j + 1) = if lnN b (j / C) (j % C) = n then kpJ b C n j else kpJ b C n j + 1 := by
  have hc : j % C < C := Nat.mod_lt j (by omega)
  have hj := dm_eq j C
  have e : kpJ b C n (j + 1) = kpN b C n (j / C) (j % C + 1) := by
    unfold kpJ
    by_cases h : j % C + 1 < C
    · have h1 : (j + 1) / C = j / C := by
        have := dm_div (r := j / C) h
        rw [← Nat.add_assoc, hj] at this
        exact this
      have h2 : (j + 1) % C = j % C + 1 := by
        have := dm_mod (r := j / C) h
        rw [← Nat.add_assoc, hj] at this
        exact this
      rw [h1, h2]
    · have h0 : j + 1 = (j / C + 1) * C + 0 := by
        rw [Nat.succ_mul]
        omega
      have h1 : (j + 1) / C = j / C + 1 := by rw [h0]; exact dm_div (by omega)
      have h2 : (j + 1) % C = 0 := by rw [h0]; exact dm_mod (by omega)
      rw [h1, h2, show j % C + 1 = C by omega]
      exact (kp_row hC hn).symm
  rw [e]
  unfold kpJ
  split
  · next h => exact kp_skip hc h
  · next h => exact kp_keep hc h
theorem kpJ_le {b : Bool} {C n j : Nat} (hC : 1 ≤ C) : kpJ b C n j ≤ j := by
  have := kp_le (b := b) (n := n) (r := j / C) (c := j % C) hC
  rw [dm_eq] at this
  exact this
section REFW
variable {G : sG} {d D : Nat} {P : sQ} {w : sW} {v : M7} {st : Nat → Nat} {s : xS}
set_option maxHeartbeats 1000000 in
theorem m_drop {x z : Int32} (b : Bool) (h : mdAt G w D s) (ho : okS s) (k : ∀ w', Fr w w' (sD D) → mdAt G w' D (spDrop s x b z).2 → P (some (.int (spDrop s x b z).1)) w') : wpM G (d + 4) yX10_drop (0, 0) [.ref D, .int x, .int (nI (bN b)), .int z] w P := by
  obtain ⟨⟨v, o1, o2, o3⟩, ⟨st, p1, p2⟩, _⟩ := id h
  have hok := p2.ok ho.1
  unfold spDrop at k
  refine eX10_drop ?_
  refine qX10_drop_0 ?_
  refine qX10_drop_1 ?_
  refine qX10_drop_2 ?_
  refine qX10_drop_3 ?_
  refine qX10_drop_4 (by assumption) (Nat.le_of_ble_eq_true rfl) (m_isLine b o1 p1 hok (fun i n hi hn hx hz => ?_) (fun hno => ?_))
  · subst hx
    subst hz
    obtain ⟨e1, e2, _⟩ := p2 i hi
    have e1 : rR st i = _ := e1
    have e2 : rC st i = _ := e2
    have g5 := (ho.1 i hi).1
    have b1 := g5.2.1
    have b2 := g5.2.2.2.1
    have hn : n < lnN b (lA s i).1 (lA s i).2.1 := by rw [← e1, ← e2]; exact hn
    have bl : lnN b (lA s i).1 (lA s i).2.1 ≤ 4 := by cases b <;> assumption
    rw [nN_nI (by omega), nN_nI (by omega), cIf_t ⟨inB_nI hi, inB_nI hn⟩] at k
    refine nX10_drop_7 (by omega) (fun h7 => ?_) (fun h7 => by exfalso; omega)
    refine qX10_drop_12 ?_
    refine qX10_drop_13 ?_
    refine qX10_drop_14 ?_
    refine qX10_drop_15 (by assumption) (Nat.le_of_ble_eq_true rfl) (m_lineMany b o1 p1 hi ?_)
    rw [e1, e2]
    refine qX10_drop_18 ?_
    refine nX10_drop_19 (by omega) (by omega) (fun h19 => ?_) (fun h19 => ?_)
    · rw [if_neg h19] at k
      refine qX10_drop_25 ?_
      refine qX10_drop_26 (by assumption) (Nat.le_of_ble_eq_true rfl) (m_record h ho (fun w1 hF1 hm1 => ?_))
      obtain ⟨⟨v1, o4, o5, o6⟩, ⟨st1, p3, p4⟩, _, _, _, _, p8⟩ := id hm1
      obtain ⟨f1, f2, f3⟩ := p4 i hi
      have f1 : rR st1 i = (lA s i).1 := f1
      have f2 : rC st1 i = (lA s i).2.1 := f2
      have f3 : ∀ q, q < (lA s i).1 * (lA s i).2.1 → rE st1 i q = (lA s i).2.2 q := f3
      have h12 := g5.2.2.2.2
      have hC : 1 ≤ (lA s i).2.1 := g5.2.2.1
      have hR : 1 ≤ (lA s i).1 := g5.1
      have hnf : b = false → n < (lA s i).2.1 := fun z => by subst z; exact hn
      refine qX10_drop_29 ?_
      refine qX10_drop_30 ?_
      refine qX10_drop_31 (by assumption) (Nat.le_of_ble_eq_true rfl) (m_rowsOf o4 p3 hi ?_)
      rw [f1]
      refine qX10_drop_34 ?_
      refine qX10_drop_36 ?_
      refine qX10_drop_37 ?_
      refine qX10_drop_38 (by assumption) (Nat.le_of_ble_eq_true rfl) (m_columnsOf o4 p3 hi ?_)
      rw [f2]
      refine qX10_drop_41 ?_
      refine qX10_drop_43 ?_
      refine qX10_drop_44 ?_
      refine qX10_drop_46 ?_
      refine qX10_drop_47 ?_
      have L : ∀ m j (w' : sW) (td : Nat → Nat), j + m = (lA s i).1 * (lA s i).2.1 → Fr w1 w' (fun q => q = D + 6) → w'.1 (D + 6) = aN G 48 td → (∀ p, p < kpJ b (lA s i).2.1 n j → td p = (lA s i).2.2 (rmN b (lA s i).2.1 n p)) → wp G (d + 3) mX10_drop P 49 [some (.ref D), some (.int (nI i)), some (.int (nI (bN b))), some (.int (nI n)), some (.int (nI (lA s i).1)), some (.int (nI (lA s i).2.1)), some (.int (nI (kpJ b (lA s i).2.1 n j))), some (.int (nI j))] [] w' (0, 0) := by
        intro m
        induction m with
        | zero =>
          intro j w' td hj hF htd hpt
          have m1 : mO w' D v1 := (hF.2 D (by omega)).trans o4
          have q1 : w'.1 (D + 1) = aN G 42 st1 := by rw [hF.2 _ (by omega)]; exact p3
          have hje : j = (lA s i).1 * (lA s i).2.1 := by omega
          have hend : kpJ b (lA s i).2.1 n j = lnN b ((lA s i).1 - 1) (lA s i).1 * lnN b (lA s i).2.1 ((lA s i).2.1 - 1) := by
            unfold kpJ
            rw [hje, show (lA s i).1 * (lA s i).2.1 = (lA s i).1 * (lA s i).2.1 + 0 from rfl, dm_div (by omega), dm_mod (by omega), kp_end hR hn (fun _ => hC)]
            cases b <;> rfl
          rw [hend] at hpt
          have hle : lnN b ((lA s i).1 - 1) (lA s i).1 * lnN b (lA s i).2.1 ((lA s i).2.1 - 1) ≤ 12 := by
            rw [← hend]
            exact Nat.le_trans (kpJ_le hC) (by omega)
          have fin : ∀ w2 st2, Fr w' w2 (fun q => q = D + 1) → w2.1 (D + 1) = aN G 42 st2 → stV st2 (setA (lA s) i (lnN b ((lA s i).1 - 1) (lA s i).1, lnN b (lA s i).2.1 ((lA s i).2.1 - 1), td)) → wp G (d + 3) mX10_drop P 142 [some (.ref D), some (.int (nI i)), some (.int (nI (bN b))), some (.int (nI n)), some (.int (nI (lA s i).1)), some (.int (nI (lA s i).2.1)), some (.int (nI (kpJ b (lA s i).2.1 n j))), some (.int (nI j))] [] w2 (0, 0) := by
            intro w2 st2 hF2 q2 hV2
            rw [hend]
            refine qX10_drop_142 ?_
            refine qX10_drop_144 ?_
            refine k w2 (((hF1.mono (fun q hq => by unfold sD; omega)).tr hF (fun q hq => by unfold sD; omega)).tr hF2 (fun q hq => by unfold sD; omega)) (hm1.stt ((hF.mono (fun q hq => Or.inr hq)).tr hF2 (fun q hq => Or.inl hq)) ⟨st2, q2, hV2.sub (fun j2 hj2 => ?_)⟩ ⟨td, by rw [hF2.2 _ (by omega)]; exact htd⟩)
            unfold setA
            by_cases hjt : j2 = i
            · subst hjt
              rw [if_pos rfl, if_pos rfl]
              exact ⟨rfl, rfl, fun q hq => hpt q hq⟩
            · rw [if_neg hjt, if_neg hjt]
              exact eqA.rf
          refine qX10_drop_49 ?_
          refine qX10_drop_51 ?_
          refine qX10_drop_53 ?_
          first | refine nX10_drop_55 ?_ | refine qX10_drop_55 ?_
          refine nX10_drop_56 (by omega) (by omega) (fun h56 => ?_) (fun h56 => by exfalso; omega)
          refine qX10_drop_111 ?_
          refine qX10_drop_112 ?_
          refine qX10_drop_113 ?_
          cases b
          · refine nX10_drop_114 (by decide) (fun _ => ?_) (fun h => absurd rfl h)
            refine qX10_drop_124 ?_
            refine qX10_drop_126 ?_
            refine nX10_drop_127 (by decide) (fun _ => ?_) (fun h => absurd rfl h)
            refine qX10_drop_135 ?_
            refine qX10_drop_137 ?_
            first | refine nX10_drop_138 (by omega) ?_ | refine qX10_drop_138 ?_
            refine qX10_drop_139 (by assumption) (Nat.le_of_ble_eq_true rfl) (m_becomes m1 q1 p4 ho.1 htd hi hle (fun w2 st2 hF2 q2 hV2 => fin w2 st2 hF2 q2 hV2))
          · refine nX10_drop_114 (by decide) (fun h => absurd h (by decide)) (fun _ => ?_)
            refine qX10_drop_117 ?_
            refine qX10_drop_119 ?_
            first | refine nX10_drop_120 (by omega) ?_ | refine qX10_drop_120 ?_
            refine qX10_drop_121 ?_
            refine qX10_drop_126 ?_
            refine nX10_drop_127 (by decide) (fun h => absurd h (by decide)) (fun _ => ?_)
            refine qX10_drop_130 ?_
            refine qX10_drop_132 ?_
            refine qX10_drop_139 (by assumption) (Nat.le_of_ble_eq_true rfl) (m_becomes m1 q1 p4 ho.1 htd hi hle (fun w2 st2 hF2 q2 hV2 => fin w2 st2 hF2 q2 hV2))
        | succ m ih =>
          intro j w' td hj hF htd hpt
          have m1 : mO w' D v1 := (hF.2 D (by omega)).trans o4
          have q1 : w'.1 (D + 1) = aN G 42 st1 := by rw [hF.2 _ (by omega)]; exact p3
          have hlt : j < (lA s i).1 * (lA s i).2.1 := by omega
          obtain ⟨c1, c2⟩ := dm_lt hlt
          have hkl := kpJ_le (b := b) (n := n) (j := j) hC
          have hst := kpJ_succ (b := b) (j := j) hC hnf
          have rest : wp G (d + 3) mX10_drop P 76 [some (.ref D), some (.int (nI i)), some (.int (nI (bN b))), some (.int (nI n)), some (.int (nI (lA s i).1)), some (.int (nI (lA s i).2.1)), some (.int (nI (kpJ b (lA s i).2.1 n j))), some (.int (nI j))] [.int (nI (lnN b (j / (lA s i).2.1) (j % (lA s i).2.1)))] w' (0, 0) := by
            have hl4 : lnN b (j / (lA s i).2.1) (j % (lA s i).2.1) ≤ 4 := by
              cases b
              · show j % (lA s i).2.1 ≤ 4; omega
              · show j / (lA s i).2.1 ≤ 4; omega
            refine qX10_drop_76 ?_
            refine nX10_drop_77 (by omega) (by omega) (fun h77 => ?_) (fun h77 => ?_)
            · rw [if_pos h77] at hst
              first | refine nX10_drop_105 ?_ | refine qX10_drop_105 ?_
              refine qX10_drop_108 ?_
              rw [← hst]
              exact ih (j + 1) w' td (by omega) hF htd (fun p hp => hpt p (by rw [← hst]; exact hp))
            · rw [if_neg h77] at hst
              refine qX10_drop_80 ?_
              refine qX10_drop_81 (by assumption) ?_
              refine qX10_drop_84 ?_
              refine qX10_drop_86 ?_
              refine qX10_drop_87 ?_
              refine qX10_drop_88 ?_
              refine qX10_drop_90 ?_
              refine nX10_drop_92 (by omega) (by omega) (by omega) ?_
              refine qX10_drop_93 ?_
              refine qX10_drop_95 ?_
              refine nX10_drop_97 (by omega) (by omega) (by omega) ?_
              refine qX10_drop_98 (by assumption) (Nat.le_of_ble_eq_true rfl) (m_at m1 q1 hi (by rw [f2, dm_eq]; omega) ?_)
              rw [f2, dm_eq, f3 j hlt]
              first | refine fX10_drop_101 (by assumption) (by omega) (by decide) ?_ | refine nX10_drop_101 (by assumption) (by omega) (by decide) ?_
              first | refine nX10_drop_102 ?_ | refine qX10_drop_102 ?_
              first | refine nX10_drop_105 ?_ | refine qX10_drop_105 ?_
              refine qX10_drop_108 ?_
              rw [← hst]
              refine ih (j + 1) _ (updN td (kpJ b (lA s i).2.1 n j) ((lA s i).2.2 j)) (by omega) (hF.up rfl) s_upS (fun p hp => ?_)
              rw [hst] at hp
              by_cases hpk : p = kpJ b (lA s i).2.1 n j
              · subst hpk
                rw [updN_s]
                have hr := rm_kp (b := b) c2 hnf h77
                rw [dm_eq] at hr
                unfold kpJ
                rw [hr]
              · rw [updN_n hpk]
                exact hpt p (by omega)
          refine qX10_drop_49 ?_
          refine qX10_drop_51 ?_
          refine qX10_drop_53 ?_
          first | refine nX10_drop_55 ?_ | refine qX10_drop_55 ?_
          refine nX10_drop_56 (by omega) (by omega) (fun h56 => by exfalso; omega) (fun h56 => ?_)
          refine qX10_drop_59 ?_
          cases b
          · refine nX10_drop_60 (by decide) (fun _ => ?_) (fun h => absurd rfl h)
            refine qX10_drop_71 ?_
            refine qX10_drop_73 ?_
            refine nX10_drop_75 (by omega) (by omega) (by omega) ?_
            exact rest
          · refine nX10_drop_60 (by decide) (fun h => absurd h (by decide)) (fun _ => ?_)
            refine qX10_drop_63 ?_
            refine qX10_drop_65 ?_
            refine nX10_drop_67 (by omega) (by omega) (by omega) ?_
            refine qX10_drop_68 ?_
            exact rest
      obtain ⟨td0, htd0⟩ := p8.1
      have k0 : kpJ b (lA s i).2.1 n 0 = 0 := Nat.le_zero.mp (kpJ_le hC)
      have := L ((lA s i).1 * (lA s i).2.1) 0 w1 td0 (by omega) Fr.rf htd0 (fun p hp => by rw [k0] at hp; exact absurd hp (Nat.not_lt_zero p))
      rw [k0] at this
      exact this
    · rw [if_pos h19] at k
      refine qX10_drop_22 ?_
      refine qX10_drop_24 ?_
      exact k w Fr.rf h
  · rw [cIf_f (fun e => hno ((lin_iff b p2).mpr e))] at k
    refine nX10_drop_7 (by omega) (fun h7 => by exfalso; omega) (fun h7 => ?_)
    refine qX10_drop_10 ?_
    refine qX10_drop_11 ?_
    exact k w Fr.rf h
end REFW
