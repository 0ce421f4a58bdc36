/-! the law's cones -/
theorem le_gdF {F : Nat → Int} {i : Nat} : ∀ {n}, i < n → F i ≤ gdF F n
  | 0, h => absurd h (Nat.not_lt_zero i)
  | n + 1, h => by
    simp only [gdF]
    by_cases hi : i = n
    · subst hi; omega
    · have := le_gdF (F := F) (i := i) (n := n) (by omega)
      omega
section LCONE
variable {G : sG} {d : Nat} {P : sQ} {w : sW} {p a R C : Nat} {f E : Nat → Nat}
theorem l_factor {c q : Nat} (h : lV G w p f a R C E) (hc : c < C) (hq : q < C) (k : P (some (.int (iZ (fcZ R C E c q)))) w) : wpM G (d + 2) yL_factor (0, 0) [.int (nI a), .int (nI c), .int (nI q), .ref p] w P := by
  obtain ⟨hp, ha, hR, hC, hE, hd, h9, h999⟩ := id h
  have d1 := hd.1
  have d2 := hd.2.1
  have hx : ∀ i, i < R → E (i * C + c) ≤ 999 ∧ E (i * C + q) ≤ 999 := fun i hi => ⟨h999 _ (hd.in hi hc), h999 _ (hd.in hi hq)⟩
  refine eL_factor ?_
  refine qL_factor_0 ?_
  refine qL_factor_3 ?_
  refine qL_factor_5 ?_
  refine qL_factor_6 ?_
  rw [show (-9999 : Int32) = iZ (-9999) from by decide]
  have L : ∀ m i (z : Int), i + m = R → ((i = 0 ∧ z = -9999) ∨ (1 ≤ i ∧ z = gdF (fun r => (E (r * C + c) : Int) - E (r * C + q)) i)) → wp G (d + 1) mL_factor P 8 [some (.int (nI a)), some (.int (nI c)), some (.int (nI q)), some (.ref p), some (.int (iZ z)), some (.int (nI i))] [] w (0, 0) := by
    intro m
    induction m with
    | zero =>
      intro i z hi hz
      refine qL_factor_8 ?_
      refine qL_factor_10 ?_
      refine qL_factor_11 ?_
      refine qL_factor_13 ?_
      first | refine nL_factor_14 ?_ | refine qL_factor_14 ?_
      first | refine fL_factor_15 (by assumption) (by omega) (by decide) ?_ | refine nL_factor_15 (by assumption) (by omega) (by decide) ?_
      rw [hR]
      refine nL_factor_16 (by omega) (by omega) (fun h16 => ?_) (fun h16 => by exfalso; omega)
      refine qL_factor_71 ?_
      refine qL_factor_73 ?_
      rw [show z = fcZ R C E c q by
        rcases hz with ⟨h1, _⟩ | ⟨_, h2⟩
        · omega
        · rw [h2, show i = R by omega]; rfl]
      exact k
    | succ m ih =>
      intro i z hi hz
      obtain ⟨x1, x2⟩ := hx i (by omega)
      have hb := gdF_rng (f := fun r => (E (r * C + c) : Int) - E (r * C + q)) (n := i) (fun k hk => by
        have := hx k (by omega)
        omega)
      have hz1 : zR z := by
        rcases hz with ⟨_, h2⟩ | ⟨_, h2⟩
        · rw [h2]; exact ⟨by decide, by decide⟩
        · rw [h2]; exact ⟨by omega, by omega⟩
      have hz2 : zR ((E (i * C + c) : Int) - E (i * C + q)) := ⟨by omega, by omega⟩
      refine qL_factor_8 ?_
      refine qL_factor_10 ?_
      refine qL_factor_11 ?_
      refine qL_factor_13 ?_
      first | refine nL_factor_14 ?_ | refine qL_factor_14 ?_
      first | refine fL_factor_15 (by assumption) (by omega) (by decide) ?_ | refine nL_factor_15 (by assumption) (by omega) (by decide) ?_
      rw [hR]
      refine nL_factor_16 (by omega) (by omega) (fun h16 => by exfalso; omega) (fun h16 => ?_)
      refine qL_factor_19 ?_
      refine qL_factor_20 ?_
      refine qL_factor_22 ?_
      refine qL_factor_23 ?_
      refine qL_factor_24 (Nat.le_of_ble_eq_true rfl) (l_at h (by omega) hc ?_)
      refine qL_factor_27 ?_
      refine qL_factor_28 ?_
      refine qL_factor_30 ?_
      refine qL_factor_31 ?_
      refine qL_factor_32 (Nat.le_of_ble_eq_true rfl) (l_at h (by omega) hq ?_)
      refine qL_factor_35 ?_
      rw [nI_nI_sub]
      refine qL_factor_36 ?_
      refine zL_factor_38 (by assumption) (by assumption) (fun h38 => ?_) (fun h38 => ?_)
      · refine qL_factor_61 ?_
        refine qL_factor_63 ?_
        first | refine nL_factor_65 ?_ | refine qL_factor_65 ?_
        refine qL_factor_68 ?_
        refine ih (i + 1) z (by omega) (Or.inr ⟨by omega, ?_⟩)
        rcases hz with ⟨_, h2⟩ | ⟨_, h2⟩
        · omega
        · rw [h2] at h38
          simp only [gdF]
          omega
      · refine qL_factor_41 ?_
        refine qL_factor_42 ?_
        refine qL_factor_44 ?_
        refine qL_factor_45 ?_
        refine qL_factor_46 (Nat.le_of_ble_eq_true rfl) (l_at h (by omega) hc ?_)
        refine qL_factor_49 ?_
        refine qL_factor_50 ?_
        refine qL_factor_52 ?_
        refine qL_factor_53 ?_
        refine qL_factor_54 (Nat.le_of_ble_eq_true rfl) (l_at h (by omega) hq ?_)
        refine qL_factor_57 ?_
        rw [nI_nI_sub]
        refine qL_factor_58 ?_
        refine qL_factor_63 ?_
        first | refine nL_factor_65 ?_ | refine qL_factor_65 ?_
        refine qL_factor_68 ?_
        refine ih (i + 1) _ (by omega) (Or.inr ⟨by omega, ?_⟩)
        rcases hz with ⟨h1, h2⟩ | ⟨_, h2⟩
        · subst h1
          simp only [gdF]
          omega
        · rw [h2] at h38
          simp only [gdF]
          omega
  exact L R 0 _ (by omega) (Or.inl ⟨rfl, rfl⟩)
theorem l_misses {c o : Nat} (h : lV G w p f a R C E) (hc : c < C) (ho : o < 16) (k : P (some (.int (nI (msdN R C E c o)))) w) : wpM G (d + 3) yL_misses (0, 0) [.int (nI a), .int (nI c), .int (nI o), .ref p] w P := by
  obtain ⟨hp, ha, hR, hC, hE, hd, h9, h999⟩ := id h
  have d1 := hd.1
  have d2 := hd.2.1
  have d4 := hd.2.2.2.1
  have hpw : ∀ n, n < 5 → 1 <<< n ≤ 16 ∧ 1 ≤ 1 <<< n ∧ 1 * 2 ^ n ≤ 16 := by decide
  have hx : ∀ i c, i < R → c < C → E (i * C + c) ≤ 999 := fun i c hi hc => h999 _ (hd.in hi hc)
  refine eL_misses ?_
  refine qL_misses_0 ?_
  refine qL_misses_1 ?_
  refine qL_misses_3 ?_
  refine qL_misses_4 ?_
  rw [show nI 0 = nI (mkB (fun r => !rchB R C E c o r C) 0) from rfl]
  have L : ∀ m i (l6 l7 : Option Value), i + m = R → wp G (d + 2) mL_misses P 6 [some (.int (nI a)), some (.int (nI c)), some (.int (nI o)), some (.ref p), some (.int (nI (mkB (fun r => !rchB R C E c o r C) i))), some (.int (nI i)), l6, l7] [] w (0, 0) := by
    intro m
    induction m with
    | zero =>
      intro i l6 l7 hi
      refine qL_misses_6 ?_
      refine qL_misses_8 ?_
      refine qL_misses_9 ?_
      refine qL_misses_11 ?_
      first | refine nL_misses_12 ?_ | refine qL_misses_12 ?_
      first | refine fL_misses_13 (by assumption) (by omega) (by decide) ?_ | refine nL_misses_13 (by assumption) (by omega) (by decide) ?_
      rw [hR]
      refine nL_misses_14 (by omega) (by omega) (fun h14 => ?_) (fun h14 => by exfalso; omega)
      refine qL_misses_128 ?_
      refine qL_misses_130 ?_
      rw [show i = R by omega]
      exact k
    | succ m ih =>
      intro i l6 l7 hi
      have hic := hx i c (by omega) hc
      have hpi := hpw i (by omega)
      refine qL_misses_6 ?_
      refine qL_misses_8 ?_
      refine qL_misses_9 ?_
      refine qL_misses_11 ?_
      first | refine nL_misses_12 ?_ | refine qL_misses_12 ?_
      first | refine fL_misses_13 (by assumption) (by omega) (by decide) ?_ | refine nL_misses_13 (by assumption) (by omega) (by decide) ?_
      rw [hR]
      refine nL_misses_14 (by omega) (by omega) (fun h14 => by exfalso; omega) (fun h14 => ?_)
      refine qL_misses_17 ?_
      refine qL_misses_19 ?_
      refine qL_misses_21 ?_
      refine qL_misses_22 ?_
      rw [show nI 99999 = iZ 99999 from nI_Z _]
      have L2 : ∀ n j (z : Int), j + n = C → (E (i * C + c) : Int) ≤ z → z ≤ 99999 → (z = E (i * C + c) ↔ rchB R C E c o i j = true) → wp G (d + 2) mL_misses P 24 [some (.int (nI a)), some (.int (nI c)), some (.int (nI o)), some (.ref p), some (.int (nI (mkB (fun r => !rchB R C E c o r C) i))), some (.int (nI i)), some (.int (iZ z)), some (.int (nI j))] [] w (0, 0) := by
        intro n
        induction n with
        | zero =>
          intro j z hj z1 z2 z3
          refine qL_misses_24 ?_
          refine qL_misses_26 ?_
          refine qL_misses_27 ?_
          refine qL_misses_29 ?_
          first | refine nL_misses_30 ?_ | refine qL_misses_30 ?_
          refine qL_misses_31 ?_
          first | refine nL_misses_32 ?_ | refine qL_misses_32 ?_
          first | refine fL_misses_33 (by assumption) (by omega) (by decide) ?_ | refine nL_misses_33 (by assumption) (by omega) (by decide) ?_
          rw [hC]
          refine nL_misses_34 (by omega) (by omega) (fun h34 => ?_) (fun h34 => by exfalso; omega)
          refine qL_misses_96 ?_
          refine qL_misses_98 ?_
          refine qL_misses_100 ?_
          refine qL_misses_101 ?_
          refine qL_misses_103 ?_
          refine qL_misses_104 ?_
          refine qL_misses_105 (Nat.le_of_ble_eq_true rfl) (l_at h (by omega) hc ?_)
          rw [show j = C by omega] at z3
          refine qL_misses_108 (fun h108 => ?_) (fun h108 => ?_)
          · rw [iZ_eq_nI ⟨by omega, by omega⟩ (by omega)] at h108
            refine qL_misses_115 ?_
            refine qL_misses_116 ?_
            refine nL_misses_118 (by omega) (by omega) ?_
            first | refine nL_misses_119 ?_ | refine qL_misses_119 ?_
            refine qL_misses_120 ?_
            first | refine nL_misses_122 ?_ | refine qL_misses_122 ?_
            refine qL_misses_125 ?_
            have hr : rchB R C E c o i C = false := by
              cases hh : rchB R C E c o i C with
              | false => rfl
              | true => exact absurd (z3.mpr hh) h108
            rw [show mkB (fun r => !rchB R C E c o r C) i ||| 1 <<< i = mkB (fun r => !rchB R C E c o r C) (i + 1) by simp [mkB, hr]]
            exact ih (i + 1) _ _ (by omega)
          · rw [iZ_eq_nI ⟨by omega, by omega⟩ (by omega)] at h108
            refine qL_misses_111 ?_
            refine qL_misses_112 ?_
            first | refine nL_misses_119 ?_ | refine qL_misses_119 ?_
            refine qL_misses_120 ?_
            first | refine nL_misses_122 ?_ | refine qL_misses_122 ?_
            refine qL_misses_125 ?_
            have hr := z3.mp h108
            rw [show mkB (fun r => !rchB R C E c o r C) i ||| 0 = mkB (fun r => !rchB R C E c o r C) (i + 1) by simp [mkB, hr]]
            exact ih (i + 1) _ _ (by omega)
        | succ n ih2 =>
          intro j z hj z1 z2 z3
          have hij := hx i j (by omega) (by omega)
          have hf : -999 ≤ fcZ R C E c j ∧ fcZ R C E c j ≤ 999 := gdF_rng (fun r hr => by
            have := hx r c hr hc
            omega)
          have hg : (E (i * C + c) : Int) - E (i * C + j) ≤ fcZ R C E c j := le_gdF (F := fun r => (E (r * C + c) : Int) - E (r * C + j)) (by omega)
          have zz : zR z := ⟨by omega, by omega⟩
          have zv : zR (fcZ R C E c j + E (i * C + j)) := ⟨by omega, by omega⟩
          have ht1 := tbit1 o j
          refine qL_misses_24 ?_
          refine qL_misses_26 ?_
          refine qL_misses_27 ?_
          refine qL_misses_29 ?_
          first | refine nL_misses_30 ?_ | refine qL_misses_30 ?_
          refine qL_misses_31 ?_
          first | refine nL_misses_32 ?_ | refine qL_misses_32 ?_
          first | refine fL_misses_33 (by assumption) (by omega) (by decide) ?_ | refine nL_misses_33 (by assumption) (by omega) (by decide) ?_
          rw [hC]
          refine nL_misses_34 (by omega) (by omega) (fun h34 => by exfalso; omega) (fun h34 => ?_)
          refine qL_misses_37 ?_
          refine qL_misses_38 ?_
          refine nL_misses_40 (by omega) (by omega) ?_
          refine qL_misses_41 ?_
          first | refine nL_misses_42 ?_ | refine qL_misses_42 ?_
          refine qL_misses_43 ?_
          refine nL_misses_44 (by omega) (by omega) (fun h44 => ?_) (fun h44 => ?_)
          · have hb : o.testBit j = false := by
              cases hh : o.testBit j with
              | false => rfl
              | true => exact absurd ((tbit o j).mpr hh) h44
            first | refine nL_misses_90 ?_ | refine qL_misses_90 ?_
            refine qL_misses_93 ?_
            refine ih2 (j + 1) z (by omega) z1 z2 ?_
            simp only [rchB, hb, Bool.false_and, Bool.or_false]
            exact z3
          · have hb : o.testBit j = true := (tbit o j).mp h44
            refine qL_misses_47 ?_
            refine qL_misses_48 ?_
            refine qL_misses_49 ?_
            refine qL_misses_51 ?_
            refine qL_misses_52 (Nat.le_of_ble_eq_true rfl) (l_factor h hc (by omega) ?_)
            refine qL_misses_55 ?_
            refine qL_misses_56 ?_
            refine qL_misses_58 ?_
            refine qL_misses_60 ?_
            refine qL_misses_61 (Nat.le_of_ble_eq_true rfl) (l_at h (by omega) (by omega) ?_)
            refine qL_misses_64 ?_
            rw [iZ_nI_add]
            refine qL_misses_65 ?_
            refine zL_misses_67 (by assumption) (by assumption) (fun h67 => ?_) (fun h67 => ?_)
            · first | refine nL_misses_90 ?_ | refine qL_misses_90 ?_
              refine qL_misses_93 ?_
              refine ih2 (j + 1) z (by omega) z1 z2 ?_
              simp only [rchB, hb, Bool.true_and, Bool.or_eq_true, decide_eq_true_eq]
              constructor
              · intro q; exact Or.inl (z3.mp q)
              · rintro (q | q)
                · exact z3.mpr q
                · omega
            · refine qL_misses_70 ?_
              refine qL_misses_71 ?_
              refine qL_misses_72 ?_
              refine qL_misses_74 ?_
              refine qL_misses_75 (Nat.le_of_ble_eq_true rfl) (l_factor h hc (by omega) ?_)
              refine qL_misses_78 ?_
              refine qL_misses_79 ?_
              refine qL_misses_81 ?_
              refine qL_misses_83 ?_
              refine qL_misses_84 (Nat.le_of_ble_eq_true rfl) (l_at h (by omega) (by omega) ?_)
              refine qL_misses_87 ?_
              rw [iZ_nI_add]
              refine qL_misses_88 ?_
              first | refine nL_misses_90 ?_ | refine qL_misses_90 ?_
              refine qL_misses_93 ?_
              refine ih2 (j + 1) _ (by omega) (by omega) (by omega) ?_
              simp only [rchB, hb, Bool.true_and, Bool.or_eq_true, decide_eq_true_eq]
              constructor
              · intro q; exact Or.inr q
              · rintro (q | q)
                · have := z3.mpr q
                  omega
                · exact q
      exact L2 C 0 _ (by omega) (by omega) (by omega) (by
        constructor
        · intro q; omega
        · intro q; simp [rchB] at q)
  exact L R 0 _ _ (by omega)
theorem l_stay (h : lV G w p f a R C E) (k : P (some (.int (nI (nedN R C E C)))) w) : wpM G (d + 4) yL_stay (0, 0) [.int (nI a), .ref p] w P := by
  obtain ⟨hp, ha, hR, hC, hE, hd, h9, h999⟩ := id h
  have d1 := hd.1
  have d2 := hd.2.1
  have d3 := hd.2.2.1
  have d4 := hd.2.2.2.1
  have hpw : ∀ n, n < 5 → 1 <<< n ≤ 16 ∧ 1 ≤ 1 <<< n ∧ 1 * 2 ^ n ≤ 16 := by decide
  have hpC := hpw C (by omega)
  refine eL_stay ?_
  refine qL_stay_0 ?_
  refine qL_stay_1 ?_
  refine qL_stay_2 ?_
  refine qL_stay_4 ?_
  first | refine nL_stay_5 ?_ | refine qL_stay_5 ?_
  refine qL_stay_6 ?_
  first | refine nL_stay_7 ?_ | refine qL_stay_7 ?_
  first | refine fL_stay_8 (by assumption) (by omega) (by decide) ?_ | refine nL_stay_8 (by assumption) (by omega) (by decide) ?_
  rw [hC]
  refine nL_stay_9 (by omega) (by omega) ?_
  refine qL_stay_10 ?_
  first | refine nL_stay_11 (by omega) ?_ | refine qL_stay_11 ?_
  refine qL_stay_12 ?_
  refine qL_stay_13 ?_
  refine qL_stay_14 ?_
  rw [show nI (1 <<< C - 1) = nI (nedN R C E 0) from rfl]
  have L : ∀ m i, i + m = C → wp G (d + 3) mL_stay P 15 [some (.int (nI a)), some (.ref p), some (.int (nI (nedN R C E i))), some (.int (nI i))] [] w (0, 0) := by
    intro m
    induction m with
    | zero =>
      intro i hi
      refine qL_stay_15 ?_
      refine qL_stay_16 ?_
      refine qL_stay_17 ?_
      refine qL_stay_19 ?_
      first | refine nL_stay_20 ?_ | refine qL_stay_20 ?_
      refine qL_stay_21 ?_
      first | refine nL_stay_22 ?_ | refine qL_stay_22 ?_
      first | refine fL_stay_23 (by assumption) (by omega) (by decide) ?_ | refine nL_stay_23 (by assumption) (by omega) (by decide) ?_
      rw [hC]
      refine nL_stay_24 (by omega) (by omega) (fun h24 => ?_) (fun h24 => by exfalso; omega)
      refine qL_stay_57 ?_
      refine qL_stay_58 ?_
      rw [show i = C by omega]
      exact k
    | succ m ih =>
      intro i hi
      have hpi := hpw i (by omega)
      have hl := nedN_lt (R := R) (a := E) d4 i
      have hml : msdN R C E i (clr (nedN R C E i) i) < 2 ^ R := mkB_lt _ R
      have hp16 : 2 ^ R ≤ 16 := Nat.pow_le_pow_right (by decide) (show R ≤ 4 by omega)
      refine qL_stay_15 ?_
      refine qL_stay_16 ?_
      refine qL_stay_17 ?_
      refine qL_stay_19 ?_
      first | refine nL_stay_20 ?_ | refine qL_stay_20 ?_
      refine qL_stay_21 ?_
      first | refine nL_stay_22 ?_ | refine qL_stay_22 ?_
      first | refine fL_stay_23 (by assumption) (by omega) (by decide) ?_ | refine nL_stay_23 (by assumption) (by omega) (by decide) ?_
      rw [hC]
      refine nL_stay_24 (by omega) (by omega) (fun h24 => by exfalso; omega) (fun h24 => ?_)
      refine qL_stay_27 ?_
      refine qL_stay_28 ?_
      refine qL_stay_29 ?_
      refine qL_stay_30 ?_
      refine qL_stay_31 ?_
      refine nL_stay_32 (by omega) (by omega) ?_
      refine qL_stay_33 ?_
      refine qL_stay_34 ?_
      refine qL_stay_35 ?_
      rw [clr_nI _ hl _ (by omega)]
      refine qL_stay_36 ?_
      refine qL_stay_37 (Nat.le_of_ble_eq_true rfl) (l_misses h (by omega) (clr_lt hl) ?_)
      have hs := ih (i + 1) (by omega)
      simp only [nedN] at hs
      refine nL_stay_40 (by omega) (fun h40 => ?_) (fun h40 => ?_)
      · rw [if_neg h40] at hs
        first | refine nL_stay_51 ?_ | refine qL_stay_51 ?_
        refine qL_stay_54 ?_
        exact hs
      · rw [if_pos h40] at hs
        refine qL_stay_43 ?_
        refine qL_stay_44 ?_
        refine qL_stay_45 ?_
        refine nL_stay_46 (by omega) (by omega) ?_
        refine qL_stay_47 ?_
        refine qL_stay_48 ?_
        refine qL_stay_49 ?_
        rw [clr_nI _ hl _ (by omega)]
        refine qL_stay_50 ?_
        first | refine nL_stay_51 ?_ | refine qL_stay_51 ?_
        refine qL_stay_54 ?_
        exact hs
  exact L C 0 (by omega)
end LCONE
