/-! the law's first cover row -/
def pwN (co : Nat → Nat) (p : Nat) : Nat → Nat := fun q => mkB (fun i => decide (co i = q)) p
theorem pw_cong {co co' : Nat → Nat} {p : Nat} (h : ∀ i, i < p → co i = co' i) : pwN co p = pwN co' p := funext fun q => mkB_ext (fun i hi => by rw [h i hi])
theorem pw_succ {co : Nat → Nat} {p : Nat} : updN (pwN co p) (co p) (pwN co p (co p) ||| 1 <<< p) = pwN co (p + 1) := funext fun q => by
  unfold updN
  by_cases hq : q = co p
  · subst hq
    simp [pwN, mkB]
  · rw [if_neg hq]
    simp [pwN, mkB, Ne.symm hq]
theorem unt_full {R C : Nat} {E : Nat → Nat} (hd : okD R C) : (fiL (untN R C E) (R * C) (R * C)).isSome = true := by
  have hm : monU (R * C) (untN R C E) := fun S T hT hs h => unt_mono hd hT hs (Nat.lt_of_le_of_lt (sub_le hs) hT) h
  rw [fi_col hm (unt_0 hd)]
  refine ⟨fun i => i, fun i hi _ => hi, fun q hq => ?_⟩
  have he : mkB (fun i => (2 ^ (R * C) - 1).testBit i && decide (i = q)) (R * C) = 2 ^ q := by
    apply Nat.eq_of_testBit_eq
    intro j
    rw [mkB_bit, Nat.testBit_two_pow]
    by_cases hj : j = q
    · subst hj
      simp [hq, all_bit hq]
    · simp [hj, Ne.symm hj]
  show untN R C E (mkB (fun i => (2 ^ (R * C) - 1).testBit i && decide (i = q)) (R * C)) = false
  rw [he]
  exact unt_one hd hq
section LCOLS
variable {G : sG} {d : Nat} {P : sQ} {w : sW} {p a R C : Nat} {f E : Nat → Nat}
theorem l_colors {ps pc : Nat} {co0 : Nat → Nat} {se : Nat → Int64} (h : lV G w p f a R C E) (hs : w.1 ps = aJ G 8 se) (hb : ∀ S, S < 512 → bitL (se (S / 64)) (S % 64) = (decide (S < 2 ^ (R * C)) && !untN R C E S)) (hc0 : w.1 pc = aN G 9 co0) (n1 : p ≠ pc) (n2 : ps ≠ pc) (k : ∀ w' co', Fr w w' (fun q => q = pc) → w'.1 pc = aN G 9 co' → (∀ i, i < R * C → co' i = ((ffN (untN R C E) (R * C) (R * C)).2.getD []).getD i 0) → P (some (.int (nI (ffN (untN R C E) (R * C) (R * C)).1))) w') : wpM G (d + 2) yL_colors (0, 0) [.int (nI a), .ref p, .ref ps, .ref pc] w P := by
  have hd := h.2.2.2.2.2.1
  have h9 := h.2.2.2.2.2.2.1
  have hn1 : 1 ≤ R * C := Nat.mul_pos hd.1 hd.2.2.1
  generalize hn : R * C = n at *
  generalize hU : untN R C E = U at *
  have hfull : (fiL U n n).isSome = true := by rw [← hU, ← hn]; exact unt_full hd
  have hpw : ∀ n, n < 10 → 1 <<< n ≤ 512 ∧ 1 * 2 ^ n ≤ 512 := by decide
  have hm1 : ∀ n, n < 10 → ¬ ((-1 : Int32) = nI n) := by decide
  have hp2 : 2 ^ n ≤ 2 ^ 9 := Nat.pow_le_pow_right (by decide) h9
  refine eL_colors ?_
  refine qL_colors_0 ?_
  refine qL_colors_1 ?_
  refine qL_colors_2 (Nat.le_of_ble_eq_true rfl) (l_many h ?_)
  rw [hn]
  refine qL_colors_5 ?_
  refine qL_colors_7 ?_
  refine qL_colors_8 ?_
  have SR : ∀ r, r ≤ n → ∀ m pl q c w2 co (l7 l8 : Option Value), pl + m + 1 = n → q ≤ r → c = r - q → Fr w w2 (fun q => q = pc) → w2.1 pc = aN G 9 co → co pl = c → (∀ i, i < pl → co i ≤ r) →
      (∀ l w3 co3 (l7 l8 : Option Value), gS U (gT U r m (pl + 1)) (pwN co pl) r pl q = some l → Fr w w3 (fun q => q = pc) → w3.1 pc = aN G 9 co3 → (∀ i, i < pl → co3 i = co i) → (∀ i, i < m + 1 → co3 (pl + i) = l.getD i 0) → wp G (d + 1) mL_colors P 24 [some (.int (nI a)), some (.ref p), some (.ref ps), some (.ref pc), some (.int (nI n)), some (.int (nI r)), some (.int (nI n)), l7, l8] [] w3 (0, 0)) →
      (gS U (gT U r m (pl + 1)) (pwN co pl) r pl q = none → ∀ w3 co3 (l7 l8 : Option Value), Fr w w3 (fun q => q = pc) → w3.1 pc = aN G 9 co3 → (∀ i, i < pl → co3 i = co i) → wp G (d + 1) mL_colors P 45 [some (.int (nI a)), some (.ref p), some (.ref ps), some (.ref pc), some (.int (nI n)), some (.int (nI r)), some (.int (nI pl)), l7, l8] [] w3 (0, 0)) →
      wp G (d + 1) mL_colors P 24 [some (.int (nI a)), some (.ref p), some (.ref ps), some (.ref pc), some (.int (nI n)), some (.int (nI r)), some (.int (nI pl)), l7, l8] [] w2 (0, 0) := by
    intro r hr m
    induction m using Nat.strongRecOn with
    | ind m ihm =>
        intro pl q
        induction q with
        | zero =>
          intro c w2 co l7 l8 hpl hq hc hF hco hcp hcb hsome hnone
          refine qL_colors_24 ?_
          refine nL_colors_26 (by omega) (fun h26 => by exfalso; omega) (fun h26 => ?_)
          refine qL_colors_29 ?_
          refine qL_colors_31 ?_
          refine nL_colors_33 (by omega) (by omega) (fun h33 => by exfalso; omega) (fun h33 => ?_)
          refine qL_colors_36 ?_
          refine qL_colors_37 ?_
          first | refine fL_colors_39 (by assumption) (by omega) (by decide) ?_ | refine nL_colors_39 (by assumption) (by omega) (by decide) ?_
          rw [hcp]
          refine qL_colors_40 ?_
          refine nL_colors_42 (by omega) (by omega) (fun h42 => by exfalso; omega) (fun h42 => ?_)
          exact hnone rfl w2 co _ _ hF hco (fun _ _ => rfl)
        | succ q ihq =>
          intro c w2 co l7 l8 hpl hq hc hF hco hcp hcb hsome hnone
          subst hc
          have hsz : w2.1 ps = aJ G 8 se := by rw [hF.2 _ n2]; exact hs
          have hcb2 : ∀ i, i < pl + 1 → co i ≤ r := fun i hi => by
            by_cases hip : i = pl
            · rw [hip, hcp]; omega
            · exact hcb i (by omega)
          have hcp9 := hcb2 pl (by omega)
          -- the next number at this place
          have NX : gS U (gT U r m (pl + 1)) (pwN co pl) r pl (q + 1) = gS U (gT U r m (pl + 1)) (pwN co pl) r pl q → ∀ w3 co3 (l7 l8 : Option Value), Fr w w3 (fun q => q = pc) → w3.1 pc = aN G 9 co3 → (∀ i, i < pl → co3 i = co i) → co3 pl = r - (q + 1) + 1 → wp G (d + 1) mL_colors P 24 [some (.int (nI a)), some (.ref p), some (.ref ps), some (.ref pc), some (.int (nI n)), some (.int (nI r)), some (.int (nI pl)), l7, l8] [] w3 (0, 0) := by
            intro he w3 co3 l7 l8 hF3 hco3 ha3 hc3
            have hpc := pw_cong ha3
            rw [he] at hsome hnone
            refine ihq (r - (q + 1) + 1) w3 co3 l7 l8 hpl (by omega) (by omega) hF3 hco3 hc3 (fun i hi => by rw [ha3 i hi]; exact hcb i hi) ?_ ?_
            · rw [hpc]
              intro l w4 co4 l7 l8 g1 g2 g3 g4 g5
              exact hsome l w4 co4 l7 l8 g1 g2 g3 (fun i hi => by rw [g4 i hi, ha3 i hi]) g5
            · rw [hpc]
              intro g1 w4 co4 l7 l8 g2 g3 g4
              exact hnone g1 w4 co4 l7 l8 g2 g3 (fun i hi => by rw [g4 i hi, ha3 i hi])
          have LK : ∀ m3 kk (l7 l8 : Option Value), kk + m3 = pl + 1 → l7 = some (.int (nI (mkB (fun i => decide (co i = co pl)) kk))) → l8 = some (.int (nI kk)) → wp G (d + 1) mL_colors P 70 [some (.int (nI a)), some (.ref p), some (.ref ps), some (.ref pc), some (.int (nI n)), some (.int (nI r)), some (.int (nI pl)), l7, l8] [] w2 (0, 0) := by
            intro m3
            induction m3 with
            | zero =>
              intro kk l7 l8 hkk e7 e8
              rw [e7, e8, show kk = pl + 1 by omega]
              have hlt : mkB (fun i => decide (co i = co pl)) (pl + 1) < 2 ^ (pl + 1) := mkB_lt _ _
              have hlt2 : 2 ^ (pl + 1) ≤ 2 ^ n := Nat.pow_le_pow_right (by decide) (by omega)
              have hset : mkB (fun i => decide (co i = co pl)) (pl + 1) = pwN co pl (r - (q + 1)) ||| 1 <<< pl := by
                rw [← hcp]
                simp [pwN, mkB]
              refine qL_colors_70 ?_
              refine qL_colors_72 ?_
              refine nL_colors_74 (by omega) (by omega) (fun h74 => ?_) (fun h74 => by exfalso; omega)
              rw [hset] at hlt ⊢
              generalize hT : pwN co pl (r - (q + 1)) ||| 1 <<< pl = T at *
              have hbit : bitL (se (T / 64)) (T % 64) = !U T := by
                rw [hb T (by omega)]
                simp [show T < 2 ^ n by omega]
              refine qL_colors_107 ?_
              refine qL_colors_108 ?_
              refine qL_colors_110 ?_
              refine nL_colors_112 (by omega) (by omega) (by omega) ?_
              refine nL_colors_113 hsz (by omega) (by decide) ?_
              refine qL_colors_114 ?_
              refine qL_colors_116 ?_
              refine nL_colors_118 (by omega) (by omega) (by omega) ?_
              refine qL_colors_119 ?_
              refine qL_colors_120 ?_
              refine qL_colors_121 ?_
              refine qL_colors_122 ?_
              refine qL_colors_123 ?_
              refine qL_colors_124 (fun h124 => ?_) (fun h124 => ?_)
              · have hUT : U T = false := by
                  rw [and1_0, bitL_shr (by omega), Nat.zero_add, hbit] at h124
                  cases hh : U T with
                  | false => rfl
                  | true => rw [hh] at h124; exact absurd rfl h124
                have hu : updN (pwN co pl) (r - (q + 1)) T = pwN co (pl + 1) := by rw [← hT, ← hcp]; exact pw_succ
                have hgs : gS U (gT U r m (pl + 1)) (pwN co pl) r pl (q + 1) = if (gT U r m (pl + 1) (pwN co (pl + 1))).isSome = true then (gT U r m (pl + 1) (pwN co (pl + 1))).map (fun l => (r - (q + 1)) :: l) else gS U (gT U r m (pl + 1)) (pwN co pl) r pl q := by
                  simp only [gS]
                  rw [hT, hUT, hu]
                  simp
                by_cases hm0 : m = 0
                · subst hm0
                  first | refine nL_colors_138 ?_ | refine qL_colors_138 ?_
                  refine qL_colors_141 ?_
                  refine qL_colors_143 ?_
                  refine nL_colors_145 (by omega) (by omega) (fun h145 => ?_) (fun h145 => by exfalso; omega)
                  refine qL_colors_153 ?_
                  rw [show pl + 1 = n by omega]
                  refine hsome [r - (q + 1)] w2 co _ _ (by rw [hgs]; rfl) hF hco (fun _ _ => rfl) (fun i hi => ?_)
                  rw [show i = 0 by omega]
                  exact hcp
                · obtain ⟨m', rfl⟩ : ∃ m', m = m' + 1 := ⟨m - 1, by omega⟩
                  first | refine nL_colors_138 ?_ | refine qL_colors_138 ?_
                  refine qL_colors_141 ?_
                  refine qL_colors_143 ?_
                  refine nL_colors_145 (by omega) (by omega) (fun h145 => by exfalso; omega) (fun h145 => ?_)
                  refine qL_colors_148 ?_
                  refine qL_colors_149 ?_
                  refine qL_colors_151 ?_
                  refine fL_colors_152 (by assumption) (by omega) (by decide) ?_
                  generalize hw4 : s_up w2 pc _ = w4
                  have c4 : w4.1 pc = aN G 9 (updN co (pl + 1) 0) := by rw [← hw4]; exact s_upS
                  have F4 : Fr w w4 (fun q => q = pc) := by rw [← hw4]; exact hF.up rfl
                  have u4 : ∀ i, i < pl + 1 → updN co (pl + 1) 0 i = co i := fun i hi => by
                    show (if i = pl + 1 then _ else co i) = _
                    rw [if_neg (by omega)]
                  have pwc := pw_cong u4
                  refine qL_colors_153 ?_
                  refine ihm m' (by omega) (pl + 1) r 0 w4 _ _ _ (by omega) (Nat.le_refl _) (by omega) F4 c4 (by simp [updN]) (fun i hi => by rw [u4 i hi]; exact hcb2 i hi) ?_ ?_
                  · rw [pwc]
                    intro l w5 co5 l7 l8 g1 g2 g3 g4 g5
                    have g6 : gT U r (m' + 1) (pl + 1) (pwN co (pl + 1)) = some l := g1
                    refine hsome ((r - (q + 1)) :: l) w5 co5 _ _ (by rw [hgs, g6]; rfl) g2 g3 (fun i hi => by rw [g4 i (by omega), u4 i (by omega)]) (fun i hi => ?_)
                    cases i with
                    | zero =>
                      rw [Nat.add_zero, g4 pl (by omega), u4 pl (by omega)]
                      exact hcp
                    | succ j =>
                      rw [show pl + (j + 1) = pl + 1 + j by omega]
                      exact g5 j (by omega)
                  · rw [pwc]
                    intro g1 w5 co5 l7 l8 g2 g3 g4
                    have g6 : gT U r (m' + 1) (pl + 1) (pwN co (pl + 1)) = none := g1
                    have g7 := g4 pl (by omega)
                    rw [u4 pl (by omega), hcp] at g7
                    first | refine nL_colors_45 ?_ | refine qL_colors_45 ?_
                    refine qL_colors_48 ?_
                    refine nL_colors_50 (by omega) (fun h50 => by exfalso; omega) (fun h50 => ?_)
                    refine qL_colors_53 ?_
                    refine qL_colors_54 ?_
                    refine qL_colors_56 rfl rfl ?_
                    first | refine fL_colors_57 (by assumption) (by omega) (by decide) ?_ | refine nL_colors_57 (by assumption) (by omega) (by decide) ?_
                    refine qL_colors_58 ?_
                    first | refine nL_colors_59 ?_ | refine qL_colors_59 ?_
                    rw [g7]
                    refine fL_colors_60 (by assumption) (by omega) (by decide) ?_
                    generalize hw6 : s_up w5 pc _ = w6
                    have c6 : w6.1 pc = aN G 9 (updN co5 pl (r - (q + 1) + 1)) := by rw [← hw6]; exact s_upS
                    have F6 : Fr w w6 (fun q => q = pc) := by rw [← hw6]; exact g2.up rfl
                    refine qL_colors_61 ?_
                    refine NX (by rw [hgs, g6]; rfl) w6 _ _ _ F6 c6 (fun i hi => ?_) (by simp [updN])
                    show (if i = pl then _ else co5 i) = _
                    rw [if_neg (by omega), g4 i (by omega), u4 i (by omega)]
              · have hUT : U T = true := by
                  rw [and1_0, bitL_shr (by omega), Nat.zero_add, hbit] at h124
                  cases hh : U T with
                  | true => rfl
                  | false => rw [hh] at h124; exact absurd h124 (by decide)
                refine qL_colors_127 ?_
                refine qL_colors_128 ?_
                refine qL_colors_130 rfl rfl ?_
                first | refine fL_colors_131 (by assumption) (by omega) (by decide) ?_ | refine nL_colors_131 (by assumption) (by omega) (by decide) ?_
                refine qL_colors_132 ?_
                first | refine nL_colors_133 ?_ | refine qL_colors_133 ?_
                rw [hcp]
                refine fL_colors_134 (by assumption) (by omega) (by decide) ?_
                generalize hw4 : s_up w2 pc _ = w4
                have c4 : w4.1 pc = aN G 9 (updN co pl (r - (q + 1) + 1)) := by rw [← hw4]; exact s_upS
                have F4 : Fr w w4 (fun q => q = pc) := by rw [← hw4]; exact hF.up rfl
                refine qL_colors_135 ?_
                refine NX ?_ w4 _ _ _ F4 c4 (fun i hi => ?_) ?_
                · simp only [gS]
                  rw [hT, if_neg (by rw [hUT]; simp)]
                · show (if i = pl then _ else co i) = _
                  rw [if_neg (by omega)]
                · show (if pl = pl then _ else _) = _
                  rw [if_pos rfl]
            | succ m3 ihk =>
              intro kk l7 l8 hkk e7 e8
              have hck := hcb2 kk (by omega)
              have hpk := hpw kk (by omega)
              rw [e7, e8]
              refine qL_colors_70 ?_
              refine qL_colors_72 ?_
              refine nL_colors_74 (by omega) (by omega) (fun h74 => by exfalso; omega) (fun h74 => ?_)
              refine qL_colors_77 ?_
              refine qL_colors_79 ?_
              refine qL_colors_80 ?_
              first | refine fL_colors_82 (by assumption) (by omega) (by decide) ?_ | refine nL_colors_82 (by assumption) (by omega) (by decide) ?_
              refine qL_colors_83 ?_
              refine qL_colors_84 ?_
              first | refine fL_colors_86 (by assumption) (by omega) (by decide) ?_ | refine nL_colors_86 (by assumption) (by omega) (by decide) ?_
              refine nL_colors_87 (by omega) (by omega) (fun h87 => ?_) (fun h87 => ?_)
              · refine qL_colors_97 ?_
                first | refine nL_colors_98 ?_ | refine qL_colors_98 ?_
                refine qL_colors_99 ?_
                first | refine nL_colors_101 ?_ | refine qL_colors_101 ?_
                refine qL_colors_104 ?_
                refine ihk (kk + 1) _ _ (by omega) ?_ rfl
                simp [mkB, h87]
              · refine qL_colors_90 ?_
                refine qL_colors_91 ?_
                refine nL_colors_93 (by omega) (by omega) ?_
                refine qL_colors_94 ?_
                first | refine nL_colors_98 ?_ | refine qL_colors_98 ?_
                refine qL_colors_99 ?_
                first | refine nL_colors_101 ?_ | refine qL_colors_101 ?_
                refine qL_colors_104 ?_
                refine ihk (kk + 1) _ _ (by omega) ?_ rfl
                simp [mkB, h87]
          refine qL_colors_24 ?_
          refine nL_colors_26 (by omega) (fun h26 => by exfalso; omega) (fun h26 => ?_)
          refine qL_colors_29 ?_
          refine qL_colors_31 ?_
          refine nL_colors_33 (by omega) (by omega) (fun h33 => by exfalso; omega) (fun h33 => ?_)
          refine qL_colors_36 ?_
          refine qL_colors_37 ?_
          first | refine fL_colors_39 (by assumption) (by omega) (by decide) ?_ | refine nL_colors_39 (by assumption) (by omega) (by decide) ?_
          rw [hcp]
          refine qL_colors_40 ?_
          refine nL_colors_42 (by omega) (by omega) (fun h42 => ?_) (fun h42 => by exfalso; omega)
          refine qL_colors_64 ?_
          refine qL_colors_65 ?_
          refine qL_colors_67 ?_
          refine qL_colors_68 ?_
          exact LK (pl + 1) 0 _ _ (by omega) rfl rfl
  have LR : ∀ m r w2 co (l6 l7 l8 : Option Value), r + m = n + 1 → 1 ≤ r → Fr w w2 (fun q => q = pc) → w2.1 pc = aN G 9 co → (∀ r', r' < r → ¬ (fiL U n r').isSome = true) → wp G (d + 1) mL_colors P 10 [some (.int (nI a)), some (.ref p), some (.ref ps), some (.ref pc), some (.int (nI n)), some (.int (nI r)), l6, l7, l8] [] w2 (0, 0) := by
    intro m
    induction m with
    | zero =>
      intro r w2 co l6 l7 l8 hr h1 hF hco hno
      exact absurd hfull (hno n (by omega))
    | succ m ih =>
      intro r w2 co l6 l7 l8 hr h1 hF hco hno
      refine qL_colors_10 ?_
      refine qL_colors_12 ?_
      refine nL_colors_14 (by omega) (by omega) (fun h14 => by exfalso; omega) (fun h14 => ?_)
      refine qL_colors_17 ?_
      refine qL_colors_18 ?_
      refine qL_colors_20 ?_
      refine qL_colors_21 ?_
      refine qL_colors_22 ?_
      refine fL_colors_23 (by assumption) (by omega) (by decide) ?_
      generalize hw4 : s_up w2 pc _ = w4
      have c4 : w4.1 pc = aN G 9 (updN co 0 0) := by rw [← hw4]; exact s_upS
      have F4 : Fr w w4 (fun q => q = pc) := by rw [← hw4]; exact hF.up rfl
      have hfg : gS U (gT U r (n - 1) (0 + 1)) (pwN (updN co 0 0) 0) r 0 r = fiL U n r := by
        rw [fiL_gT, show n = n - 1 + 1 by omega]
        rfl
      refine SR r (by omega) (n - 1) 0 r 0 w4 _ _ _ (by omega) (Nat.le_refl _) (by omega) F4 c4 rfl (fun i hi => absurd hi (Nat.not_lt_zero i)) ?_ ?_
      · rw [hfg]
        intro l w5 co5 l7 l8 g1 g2 g3 g4 g5
        have hff := ffN_eq (U := U) h1 (by omega) (by rw [g1]; rfl) (fun q hq => hno q hq) n (Nat.le_refl _) (by omega)
        refine qL_colors_24 ?_
        refine nL_colors_26 (by omega) (fun h26 => by exfalso; omega) (fun h26 => ?_)
        refine qL_colors_29 ?_
        refine qL_colors_31 ?_
        refine nL_colors_33 (by omega) (by omega) (fun h33 => ?_) (fun h33 => by exfalso; omega)
        refine qL_colors_156 ?_
        refine qL_colors_158 ?_
        refine nL_colors_160 (by omega) (by omega) (fun h160 => by exfalso; omega) (fun h160 => ?_)
        refine qL_colors_163 ?_
        refine qL_colors_165 ?_
        have hk := k w5 co5 g2 g3
        rw [hff, g1] at hk
        exact hk (fun i hi => by
          have := g5 i (by omega)
          rw [Nat.zero_add] at this
          exact this)
      · rw [hfg]
        intro g1 w5 co5 l7 l8 g2 g3 g4
        refine qL_colors_45 ?_
        rw [show nI 0 + Int32.ofInt (-1) = (-1 : Int32) from by decide]
        refine qL_colors_48 ?_
        refine qL_colors_50 (fun h50 => ?_) (fun h50 => absurd (by decide) h50)
        refine qL_colors_24 ?_
        refine qL_colors_26 (fun h26 => ?_) (fun h26 => absurd (by decide) h26)
        refine qL_colors_156 ?_
        refine qL_colors_158 ?_
        refine qL_colors_160 (fun h160 => ?_) (fun h160 => absurd h160 (hm1 n (by omega)))
        first | refine nL_colors_166 ?_ | refine qL_colors_166 ?_
        refine qL_colors_169 ?_
        exact ih (r + 1) w5 co5 _ _ _ (by omega) (by omega) g2 g3 (fun r' hr' => by
          by_cases hrr : r' = r
          · rw [hrr, g1]; simp
          · exact hno r' (by omega))
  refine LR n 1 w co0 _ _ _ (by omega) (Nat.le_refl _) Fr.rf hc0 (fun r' hr' => ?_)
  rw [show r' = 0 by omega, fiL_gT, show n = n - 1 + 1 by omega]
  simp [gT, gS]
end LCOLS
