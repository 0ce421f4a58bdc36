/-! the law's test of sets that can be touched, walked -/
theorem iZ_nI_sub (z : Int) (n : Nat) : iZ z - nI n = iZ (z - n) := by rw [nI_Z, iZ_sub]
section LTCH
variable {G : sG} {d : Nat} {P : sQ} {w : sW} {p a R C : Nat} {f E : Nat → Nat}
theorem l_touches {S pu : Nat} {v0 : Nat → Int32} (h : lV G w p f a R C E) (hR3 : R ≤ 3) (hS : S < 2 ^ (R * C)) (hu : w.1 pu = aI G 4 v0) (hne : p ≠ pu) (k : ∀ w' v', Fr w w' (fun q => q = pu) → w'.1 pu = aI G 4 v' → P (some (.int (nI (bN (!untN R C E S))))) w') : wpM G (d + 2) yL_touches (0, 0) [.int (nI a), .int (nI S), .ref p, .ref pu] w P := by
  obtain ⟨hp, ha, hR, hC, hE, hd, h9, h999⟩ := id h
  have d1 := hd.1
  have d2 := hd.2.1
  have d3 := hd.2.2.1
  have d4 := hd.2.2.2.1
  have hS12 : 2 ^ (R * C) ≤ 2 ^ 9 := Nat.pow_le_pow_right (by decide) h9
  have hSs : S < 2147483648 := by omega
  have hpu : ∀ w2 : sW, Fr w w2 (fun q => q = pu) → w2.1 p = aN G 36 f := fun w2 hF => by rw [hF.2 p hne]; exact hp
  refine eL_touches ?_
  refine qL_touches_0 ?_
  refine qL_touches_1 ?_
  refine qL_touches_3 ?_
  first | refine nL_touches_4 ?_ | refine qL_touches_4 ?_
  first | refine fL_touches_5 (by assumption) (by omega) (by decide) ?_ | refine nL_touches_5 (by assumption) (by omega) (by decide) ?_
  rw [hR]
  refine qL_touches_6 ?_
  refine qL_touches_8 ?_
  refine qL_touches_9 ?_
  refine qL_touches_11 ?_
  first | refine nL_touches_12 ?_ | refine qL_touches_12 ?_
  refine qL_touches_13 ?_
  first | refine nL_touches_14 ?_ | refine qL_touches_14 ?_
  first | refine fL_touches_15 (by assumption) (by omega) (by decide) ?_ | refine nL_touches_15 (by assumption) (by omega) (by decide) ?_
  rw [hC]
  refine qL_touches_16 ?_
  refine qL_touches_18 ?_
  refine qL_touches_19 ?_
  have Lt : ∀ m t w2 v u (l7 l8 l9 l10 : Option Value), t + m = R + 1 → Fr w w2 (fun q => q = pu) → w2.1 pu = aI G 4 v → (∀ j, j < R → v j = iZ (u j)) → upT R C E S t u → (∀ D, feas R C E S D → (∀ k, k < R → D k ≤ 0) → ∀ k, k < R → D k ≤ u k) → (∀ k, k < R → -30000 * (t : Int) ≤ u k) → (R < t → badS R C E S) → wp G (d + 1) mL_touches P 42 [some (.int (nI a)), some (.int (nI S)), some (.ref p), some (.ref pu), some (.int (nI R)), some (.int (nI C)), some (.int (nI t)), l7, l8, l9, l10] [] w2 (0, 0) := by
    intro m
    induction m with
    | zero =>
      intro t w2 v u l7 l8 l9 l10 ht hF hv hvu hup hlo hbd hbad
      have hb : untN R C E S = true := (unt_bad hd hS).mpr (hbad (by omega))
      have hk := k w2 v hF hv
      rw [hb] at hk
      refine qL_touches_42 ?_
      refine qL_touches_44 ?_
      refine nL_touches_46 (by omega) (by omega) (fun h46 => ?_) (fun h46 => by exfalso; omega)
      refine qL_touches_202 ?_
      refine qL_touches_203 rfl ?_
      exact hk
    | succ m ih =>
      intro t w2 v u l7 l8 l9 l10 ht hF hv hvu hup hlo hbd hbad
      refine qL_touches_42 ?_
      refine qL_touches_44 ?_
      refine nL_touches_46 (by omega) (by omega) (fun h46 => by exfalso; omega) (fun h46 => ?_)
      refine qL_touches_49 ?_
      refine qL_touches_50 ?_
      refine qL_touches_52 ?_
      refine qL_touches_53 ?_
      rw [show nI 1 = nI (bN true) from rfl]
      have Lp : ∀ m2 pp w3 v3 cur st (l9 l10 : Option Value), pp + m2 = R * C → Fr w w3 (fun q => q = pu) → w3.1 pu = aI G 4 v3 → (∀ j, j < R → v3 j = iZ (cur j)) → rdI R C E S u (pp * R) cur st → wp G (d + 1) mL_touches P 55 [some (.int (nI a)), some (.int (nI S)), some (.ref p), some (.ref pu), some (.int (nI R)), some (.int (nI C)), some (.int (nI t)), some (.int (nI (bN st))), some (.int (nI pp)), l9, l10] [] w3 (0, 0) := by
        intro m2
        induction m2 with
        | zero =>
          intro pp w3 v3 cur st l9 l10 hpp hF3 hv3 hvc hrd
          rw [show pp = R * C by omega] at hrd
          refine qL_touches_55 ?_
          refine qL_touches_57 ?_
          refine qL_touches_59 ?_
          first | refine nL_touches_61 ?_ | refine qL_touches_61 ?_
          refine nL_touches_62 (by omega) (by omega) (fun h62 => ?_) (fun h62 => by exfalso; omega)
          refine qL_touches_189 ?_
          cases st with
          | true =>
            have hg : untN R C E S = false := by
              cases hh : untN R C E S with
              | false => rfl
              | true => exact absurd ((unt_bad hd hS).mp hh) (rd_good hrd)
            have hk := k w3 v3 hF3 hv3
            rw [hg] at hk
            rw [show bN true = 1 from rfl]
            refine nL_touches_191 (by omega) (fun h191 => by exfalso; omega) (fun h191 => ?_)
            refine qL_touches_194 ?_
            refine qL_touches_195 rfl ?_
            exact hk
          | false =>
            rw [show bN false = 0 from rfl]
            refine nL_touches_191 (by omega) (fun h191 => ?_) (fun h191 => by exfalso; omega)
            first | refine nL_touches_196 ?_ | refine qL_touches_196 ?_
            refine qL_touches_199 ?_
            refine ih (t + 1) w3 v3 cur _ _ _ _ (by omega) hF3 hv3 hvc (up_next hrd hup) (fun D D1 D2 => hrd.2.2.1 D D1 (hlo D D1 D2)) (fun q hq => ?_) (fun hRt => ?_)
            · have h1 := hrd.2.2.2.2.2 _ hbd q hq
              have h2 : R * C * R ≤ 9 * 3 := Nat.mul_le_mul h9 hR3
              omega
            · apply Classical.byContradiction
              intro nb
              have := rd_end nb hd h999 hR3 hup (by omega) hlo hrd
              cases this
        | succ m2 ih2 =>
          intro pp w3 v3 cur st l9 l10 hpp hF3 hv3 hvc hrd
          have hpl : pp < R * C := by omega
          have ht1 := tbit1 S pp
          have hk0 := dvlt hpl
          have hk1 : pp % C < C := Nat.mod_lt _ (by omega)
          refine qL_touches_55 ?_
          refine qL_touches_57 ?_
          refine qL_touches_59 ?_
          first | refine nL_touches_61 ?_ | refine qL_touches_61 ?_
          refine nL_touches_62 (by omega) (by omega) (fun h62 => by exfalso; omega) (fun h62 => ?_)
          refine qL_touches_65 ?_
          refine qL_touches_66 ?_
          refine nL_touches_68 (by omega) (by omega) ?_
          refine qL_touches_69 ?_
          first | refine nL_touches_70 ?_ | refine qL_touches_70 ?_
          refine nL_touches_71 (by omega) (fun h71 => ?_) (fun h71 => ?_)
          · have hbit : S.testBit pp = true := (tbit S pp).mp (by omega)
            refine qL_touches_77 ?_
            refine qL_touches_78 ?_
            have Li : ∀ m3 i w4 v4 cur st (l10 : Option Value), i + m3 = R → Fr w w4 (fun q => q = pu) → w4.1 pu = aI G 4 v4 → (∀ j, j < R → v4 j = iZ (cur j)) → rdI R C E S u (pp * R + i) cur st → wp G (d + 1) mL_touches P 80 [some (.int (nI a)), some (.int (nI S)), some (.ref p), some (.ref pu), some (.int (nI R)), some (.int (nI C)), some (.int (nI t)), some (.int (nI (bN st))), some (.int (nI pp)), some (.int (nI i)), l10] [] w4 (0, 0) := by
              intro m3
              induction m3 with
              | zero =>
                intro i w4 v4 cur st l10 hi hF4 hv4 hvc hrd
                refine qL_touches_80 ?_
                refine qL_touches_82 ?_
                refine nL_touches_84 (by omega) (by omega) (fun h84 => ?_) (fun h84 => by exfalso; omega)
                first | refine nL_touches_183 ?_ | refine qL_touches_183 ?_
                refine qL_touches_186 ?_
                refine ih2 (pp + 1) w4 v4 cur st _ _ (by omega) hF4 hv4 hvc ?_
                rw [show (pp + 1) * R = pp * R + i by rw [Nat.add_mul]; omega]
                exact hrd
              | succ m3 ih3 =>
                intro i w4 v4 cur st l10 hi hF4 hv4 hvc hrd
                have hlt : t ≤ 4 := by omega
                have hbnd : ∀ k, k < R → -150000 ≤ cur k ∧ cur k ≤ 0 := fun q hq => by
                  have h1 := hrd.2.2.2.2.2 _ hbd q hq
                  have h2 : (pp * R + i) < R * C * R := ml1 hpl (by omega)
                  have h3 : R * C * R ≤ 9 * 3 := Nat.mul_le_mul h9 hR3
                  have h4 := hrd.1 q hq
                  have h5 := hup.1 q hq
                  omega
                have e1 := h999 pp hpl
                have e2 := h999 (i * C + pp % C) (ml1 (by omega) hk1)
                have b1 := hbnd i (by omega)
                have b2 := hbnd (pp / C) hk0
                have r1 : zR (cur (pp / C)) := ⟨by omega, by omega⟩
                have r2 : zR (cur i + (E pp : Int) - (E (i * C + pp % C) : Int)) := ⟨by omega, by omega⟩
                have hv4' : lV G w4 p f a R C E := h.fr hF4 hne
                have hst := rdI_step hpl hbit (by omega) h999 (by omega) rfl hrd
                generalize hto : cur i + (E pp : Int) - (E (i * C + pp % C) : Int) = to at r2 hst
                refine qL_touches_80 ?_
                refine qL_touches_82 ?_
                refine nL_touches_84 (by omega) (by omega) (fun h84 => by exfalso; omega) (fun h84 => ?_)
                refine qL_touches_87 ?_
                refine qL_touches_88 ?_
                refine nL_touches_90 hv4 (by omega) (by decide) ?_
                rw [hvc i (by omega)]
                refine qL_touches_91 ?_
                refine qL_touches_92 ?_
                refine qL_touches_94 ?_
                refine nL_touches_96 (by omega) (by omega) (by omega) ?_
                refine qL_touches_97 ?_
                refine qL_touches_99 ?_
                refine nL_touches_101 (by omega) (by omega) (by omega) ?_
                refine qL_touches_102 ?_
                refine qL_touches_103 (Nat.le_of_ble_eq_true rfl) (l_at hv4' hk0 hk1 ?_)
                rw [mdv]
                refine qL_touches_106 ?_
                rw [iZ_nI_add]
                refine qL_touches_107 ?_
                refine qL_touches_108 ?_
                refine qL_touches_110 ?_
                refine qL_touches_112 ?_
                refine nL_touches_114 (by omega) (by omega) (by omega) ?_
                refine qL_touches_115 ?_
                refine qL_touches_116 (Nat.le_of_ble_eq_true rfl) (l_at hv4' (by omega) hk1 ?_)
                refine qL_touches_119 ?_
                rw [iZ_nI_sub, hto]
                refine qL_touches_120 ?_
                have K : ∀ st', st' = (st && decide (cur (pp / C) ≤ to)) → wp G (d + 1) mL_touches P 146 [some (.int (nI a)), some (.int (nI S)), some (.ref p), some (.ref pu), some (.int (nI R)), some (.int (nI C)), some (.int (nI t)), some (.int (nI (bN st'))), some (.int (nI pp)), some (.int (nI i)), some (.int (iZ to))] [] w4 (0, 0) := by
                  intro st' hst'
                  rw [← hst'] at hst
                  have fin : ∀ x, x = (if cur (pp / C) < to then cur (pp / C) else to) → wp G (d + 1) mL_touches P 177 [some (.int (nI a)), some (.int (nI S)), some (.ref p), some (.ref pu), some (.int (nI R)), some (.int (nI C)), some (.int (nI t)), some (.int (nI (bN st'))), some (.int (nI pp)), some (.int (nI i)), some (.int (iZ to))] [] (s_up w4 pu (aI G 4 (upd v4 (pp / C) (iZ x)))) (0, 0) := by
                    intro x hx
                    rw [← hx] at hst
                    first | refine nL_touches_177 ?_ | refine qL_touches_177 ?_
                    refine qL_touches_180 ?_
                    refine ih3 (i + 1) _ (upd v4 (pp / C) (iZ x)) _ st' _ (by omega) (hF4.up rfl) s_upS (fun j hj => ?_) hst
                    show (if j = pp / C then iZ x else v4 j) = _
                    by_cases hjk : j = pp / C
                    · rw [if_pos hjk, hjk, updZ_s]
                    · rw [if_neg hjk, updZ_n hjk]
                      exact hvc j hj
                  refine qL_touches_146 ?_
                  refine qL_touches_147 ?_
                  refine qL_touches_149 ?_
                  refine nL_touches_151 (by omega) (by omega) (by omega) ?_
                  refine qL_touches_152 ?_
                  refine qL_touches_153 ?_
                  refine qL_touches_155 ?_
                  refine nL_touches_157 (by omega) (by omega) (by omega) ?_
                  refine nL_touches_158 hv4 (by omega) (by decide) ?_
                  rw [hvc _ hk0]
                  refine qL_touches_159 ?_
                  refine zL_touches_161 (by assumption) (by assumption) (fun h161 => ?_) (fun h161 => ?_)
                  · refine qL_touches_174 ?_
                    refine nL_touches_176 hv4 (by omega) (by decide) ?_
                    exact fin to (by rw [if_neg (by omega)])
                  · refine qL_touches_164 ?_
                    refine qL_touches_165 ?_
                    refine qL_touches_167 ?_
                    refine nL_touches_169 (by omega) (by omega) (by omega) ?_
                    refine nL_touches_170 hv4 (by omega) (by decide) ?_
                    rw [hvc _ hk0]
                    refine qL_touches_171 ?_
                    refine nL_touches_176 hv4 (by omega) (by decide) ?_
                    exact fin _ (by rw [if_pos h161])
                cases st with
                | false =>
                  rw [show bN false = 0 from rfl]
                  refine qL_touches_122 ?_
                  refine nL_touches_124 (by omega) (fun h124 => ?_) (fun h124 => by exfalso; omega)
                  refine qL_touches_143 ?_
                  refine qL_touches_144 ?_
                  exact K false (by simp)
                | true =>
                  rw [show bN true = 1 from rfl]
                  refine qL_touches_122 ?_
                  refine nL_touches_124 (by omega) (fun h124 => by exfalso; omega) (fun h124 => ?_)
                  refine qL_touches_127 ?_
                  refine qL_touches_128 ?_
                  refine qL_touches_130 ?_
                  refine nL_touches_132 (by omega) (by omega) (by omega) ?_
                  refine nL_touches_133 hv4 (by omega) (by decide) ?_
                  rw [hvc _ hk0]
                  refine qL_touches_134 ?_
                  refine zL_touches_136 (by assumption) (by assumption) (fun h136 => ?_) (fun h136 => ?_)
                  · refine qL_touches_143 ?_
                    refine qL_touches_144 ?_
                    exact K false (by simp; omega)
                  · refine qL_touches_139 ?_
                    refine qL_touches_140 ?_
                    refine qL_touches_144 ?_
                    exact K true (by simp; omega)
            exact Li R 0 w3 v3 cur st _ (by omega) hF3 hv3 hvc hrd
          · have hbit : S.testBit pp = false := (tbit0 S pp).mp h71
            refine qL_touches_74 ?_
            first | refine nL_touches_183 ?_ | refine qL_touches_183 ?_
            refine qL_touches_186 ?_
            exact ih2 (pp + 1) w3 v3 cur st _ _ (by omega) hF3 hv3 hvc (rdI_skip (by omega) hbit hrd)
      exact Lp (R * C) 0 w2 v u true _ _ (by omega) hF hv hvu (by rw [Nat.zero_mul]; exact rdI_0)
  have L0 : ∀ m i w2 v (l7 l8 l9 l10 : Option Value), i + m = R → Fr w w2 (fun q => q = pu) → w2.1 pu = aI G 4 v → (∀ j, j < i → v j = iZ 0) → wp G (d + 1) mL_touches P 21 [some (.int (nI a)), some (.int (nI S)), some (.ref p), some (.ref pu), some (.int (nI R)), some (.int (nI C)), some (.int (nI i)), l7, l8, l9, l10] [] w2 (0, 0) := by
    intro m
    induction m with
    | zero =>
      intro i w2 v l7 l8 l9 l10 hi hF hv hv0
      refine qL_touches_21 ?_
      refine qL_touches_23 ?_
      refine nL_touches_25 (by omega) (by omega) (fun h25 => ?_) (fun h25 => by exfalso; omega)
      refine qL_touches_39 ?_
      refine qL_touches_40 ?_
      refine Lt (R + 1) 0 w2 v (fun _ => 0) _ _ _ _ (by omega) hF hv (fun j hj => hv0 j (by omega)) ⟨fun _ _ => Int.le_refl _, fun q => absurd q (by decide), fun q => absurd q (by decide)⟩ (fun D _ D2 => D2) (fun _ _ => by decide) (fun q => by omega)
    | succ m ih =>
      intro i w2 v l7 l8 l9 l10 hi hF hv hv0
      refine qL_touches_21 ?_
      refine qL_touches_23 ?_
      refine nL_touches_25 (by omega) (by omega) (fun h25 => by exfalso; omega) (fun h25 => ?_)
      refine qL_touches_28 ?_
      refine qL_touches_29 ?_
      refine qL_touches_31 ?_
      refine nL_touches_32 hv (by omega) (by decide) ?_
      first | refine nL_touches_33 ?_ | refine qL_touches_33 ?_
      refine qL_touches_36 ?_
      refine ih (i + 1) _ _ _ _ _ _ (by omega) (hF.up rfl) s_upS (fun j hj => ?_)
      show (if j = i then nI 0 else v j) = _
      by_cases hji : j = i
      · rw [if_pos hji]; rfl
      · rw [if_neg hji]; exact hv0 j (by omega)
  exact L0 R 0 w v0 _ _ _ _ (by omega) Fr.rf hu (fun j hj => absurd hj (Nat.not_lt_zero j))
end LTCH
