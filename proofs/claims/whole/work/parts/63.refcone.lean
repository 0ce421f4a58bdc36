/-! the reference: cones -/
theorem shr_bit (m k : Nat) : m >>> k &&& 1 = if m.testBit k = true then 1 else 0 := by
  rw [Nat.testBit_eq_decide_div_mod_eq, Nat.shiftRight_eq_div_pow, Nat.and_one_is_mod]
  by_cases h : m / 2 ^ k % 2 = 1
  · simp [h]
  · simp [h]
    omega
theorem shr_1 {m k : Nat} : m >>> k &&& 1 = 1 ↔ m.testBit k = true := by
  rw [shr_bit]
  by_cases h : m.testBit k = true
  · simp [h]
  · simp [h]
section REFC
variable {G : sG} {d D : Nat} {P : sQ} {w : sW} {v : M7} {st : Nat → Nat} {s : xS}
theorem m_factorOf {i c q : Nat} (h : mO w D v) (hs : w.1 (D + 1) = aN G 42 st) (hi : i < 3) (ho : okV (vwA st i)) (hc : c < rC st i) (hq : q < rC st i) (k : P (some (.int (iZ (fcZ (rR st i) (rC st i) (rE st i) c q)))) w) : wpM G (d + 3) yX10_factorOf (0, 0) [.ref D, .int (nI i), .int (nI c), .int (nI q)] w P := by
  have hd : okD (rR st i) (rC st i) := ho.1
  have ha : ∀ q, q < rR st i * rC st i → rE st i q ≤ 999 := ho.2
  have d1 := hd.2.1
  have ix : ∀ r, r < rR st i → rE st i (r * rC st i + c) ≤ 999 ∧ rE st i (r * rC st i + q) ≤ 999 := fun r hr => ⟨ha _ (hd.in hr hc), ha _ (hd.in hr hq)⟩
  refine eX10_factorOf ?_
  refine qX10_factorOf_0 ?_
  rw [show (-999 : Int32) = iZ (-999) by decide]
  refine qX10_factorOf_3 ?_
  refine qX10_factorOf_5 ?_
  refine qX10_factorOf_6 ?_
  have L : ∀ m r (l6 : Option Value), r + m = rR st i → wp G (d + 2) mX10_factorOf P 8 [some (.ref D), some (.int (nI i)), some (.int (nI c)), some (.int (nI q)), some (.int (iZ (gdF (fun r => (rE st i (r * rC st i + c) : Int) - rE st i (r * rC st i + q)) r))), some (.int (nI r)), l6] [] w (0, 0) := by
    intro m
    induction m with
    | zero =>
      intro r l6 hr
      refine qX10_factorOf_8 ?_
      refine qX10_factorOf_10 ?_
      refine qX10_factorOf_11 ?_
      refine qX10_factorOf_12 (by assumption) (Nat.le_of_ble_eq_true rfl) (m_rowsOf h hs hi ?_)
      refine nX10_factorOf_15 (by omega) (by omega) (fun h15 => ?_) (fun h15 => by exfalso; omega)
      refine qX10_factorOf_59 ?_
      refine qX10_factorOf_61 ?_
      rw [show r = rR st i by omega]
      exact k
    | succ m ih =>
      intro r l6 hr
      obtain ⟨i1, i2⟩ := ix r (by omega)
      have hb := gdF_rng (f := fun r => (rE st i (r * rC st i + c) : Int) - rE st i (r * rC st i + q)) (n := r) (fun k hk => by
        have := ix k (by omega)
        omega)
      have hst := fun l6 => ih (r + 1) l6 (by omega)
      simp only [gdF] at hst
      generalize gdF (fun r => (rE st i (r * rC st i + c) : Int) - rE st i (r * rC st i + q)) r = z at hb hst ⊢
      have z1 : zR z := ⟨by omega, by omega⟩
      have z2 : zR ((rE st i (r * rC st i + c) : Int) - rE st i (r * rC st i + q)) := ⟨by omega, by omega⟩
      refine qX10_factorOf_8 ?_
      refine qX10_factorOf_10 ?_
      refine qX10_factorOf_11 ?_
      refine qX10_factorOf_12 (by assumption) (Nat.le_of_ble_eq_true rfl) (m_rowsOf h hs hi ?_)
      refine nX10_factorOf_15 (by omega) (by omega) (fun h15 => by exfalso; omega) (fun h15 => ?_)
      refine qX10_factorOf_18 ?_
      refine qX10_factorOf_19 ?_
      refine qX10_factorOf_20 ?_
      refine qX10_factorOf_22 ?_
      refine qX10_factorOf_23 (by assumption) (Nat.le_of_ble_eq_true rfl) (m_at h hs hi (hd.in12 (by omega) hc) ?_)
      refine qX10_factorOf_26 ?_
      refine qX10_factorOf_27 ?_
      refine qX10_factorOf_28 ?_
      refine qX10_factorOf_30 ?_
      refine qX10_factorOf_31 (by assumption) (Nat.le_of_ble_eq_true rfl) (m_at h hs hi (hd.in12 (by omega) hq) ?_)
      refine qX10_factorOf_34 ?_
      rw [nI_nI_sub]
      refine qX10_factorOf_35 ?_
      refine qX10_factorOf_37 ?_
      refine qX10_factorOf_39 ?_
      refine zX10_factorOf_41 (by assumption) (by assumption) (fun h41 => ?_) (fun h41 => ?_)
      · rw [Int.max_eq_left h41] at hst
        refine qX10_factorOf_49 ?_
        refine qX10_factorOf_51 ?_
        first | refine nX10_factorOf_53 ?_ | refine qX10_factorOf_53 ?_
        refine qX10_factorOf_56 ?_
        exact hst _
      · rw [Int.max_eq_right (Int.le_of_lt h41)] at hst
        refine qX10_factorOf_44 ?_
        refine qX10_factorOf_46 ?_
        refine qX10_factorOf_51 ?_
        first | refine nX10_factorOf_53 ?_ | refine qX10_factorOf_53 ?_
        refine qX10_factorOf_56 ?_
        exact hst _
  exact L (rR st i) 0 none (by omega)
theorem m_missed {i c o : Nat} (h : mO w D v) (hs : w.1 (D + 1) = aN G 42 st) (hi : i < 3) (ho : okV (vwA st i)) (hc : c < rC st i) (hoo : o < 16) (k : P (some (.int (nI (msdN (rR st i) (rC st i) (rE st i) c o)))) w) : wpM G (d + 4) yX10_missed (0, 0) [.ref D, .int (nI i), .int (nI c), .int (nI o)] w P := by
  have hd : okD (rR st i) (rC st i) := ho.1
  have ha : ∀ q, q < rR st i * rC st i → rE st i q ≤ 999 := ho.2
  have d1 := hd.2.1
  have d2 := hd.2.2.2.1
  refine eX10_missed ?_
  refine qX10_missed_0 ?_
  refine qX10_missed_1 ?_
  refine qX10_missed_3 ?_
  refine qX10_missed_4 ?_
  have L : ∀ m r (l6 l7 : Option Value), r + m = rR st i → wp G (d + 3) mX10_missed P 6 [some (.ref D), some (.int (nI i)), some (.int (nI c)), some (.int (nI o)), some (.int (nI (mkB (fun r => !rchB (rR st i) (rC st i) (rE st i) c o r (rC st i)) r))), some (.int (nI r)), l6, l7] [] w (0, 0) := by
    intro m
    induction m with
    | zero =>
      intro r l6 l7 hr
      refine qX10_missed_6 ?_
      refine qX10_missed_8 ?_
      refine qX10_missed_9 ?_
      refine qX10_missed_10 (by assumption) (Nat.le_of_ble_eq_true rfl) (m_rowsOf h hs hi ?_)
      refine nX10_missed_13 (by omega) (by omega) (fun h13 => ?_) (fun h13 => by exfalso; omega)
      refine qX10_missed_113 ?_
      refine qX10_missed_115 ?_
      rw [show r = rR st i by omega]
      exact k
    | succ m ih =>
      intro r l6 l7 hr
      have hst := fun l6 l7 => ih (r + 1) l6 l7 (by omega)
      have hp5 : ∀ n, n < 4 → 1 * 2 ^ n ≤ 16 := by decide
      have hpr := hp5 r (by omega)
      simp only [mkB] at hst
      refine qX10_missed_6 ?_
      refine qX10_missed_8 ?_
      refine qX10_missed_9 ?_
      refine qX10_missed_10 (by assumption) (Nat.le_of_ble_eq_true rfl) (m_rowsOf h hs hi ?_)
      refine nX10_missed_13 (by omega) (by omega) (fun h13 => by exfalso; omega) (fun h13 => ?_)
      refine qX10_missed_16 ?_
      refine qX10_missed_17 ?_
      refine qX10_missed_19 ?_
      refine qX10_missed_20 ?_
      have L2 : ∀ p q, q + p = rC st i → wp G (d + 3) mX10_missed P 22 [some (.ref D), some (.int (nI i)), some (.int (nI c)), some (.int (nI o)), some (.int (nI (mkB (fun r => !rchB (rR st i) (rC st i) (rE st i) c o r (rC st i)) r))), some (.int (nI r)), some (.int (nI (tf (rchB (rR st i) (rC st i) (rE st i) c o r q)))), some (.int (nI q))] [] w (0, 0) := by
        intro p
        induction p with
        | zero =>
          intro q hq
          refine qX10_missed_22 ?_
          refine qX10_missed_24 ?_
          refine qX10_missed_25 ?_
          refine qX10_missed_26 (by assumption) (Nat.le_of_ble_eq_true rfl) (m_columnsOf h hs hi ?_)
          refine nX10_missed_29 (by omega) (by omega) (fun h29 => ?_) (fun h29 => by exfalso; omega)
          refine qX10_missed_89 ?_
          refine qX10_missed_91 ?_
          rw [show q = rC st i by omega]
          cases hb : rchB (rR st i) (rC st i) (rE st i) c o r (rC st i)
          · have hb2 : (!rchB (rR st i) (rC st i) (rE st i) c o r (rC st i)) = true := by rw [hb]; rfl
            rw [if_pos hb2] at hst
            show wp G (d + 3) mX10_missed P 93 _ (.int (nI 0) :: _) w (0, 0)
            refine nX10_missed_93 (by omega) (fun h93 => ?_) (fun h93 => by exfalso; omega)
            refine qX10_missed_100 ?_
            refine qX10_missed_101 ?_
            refine nX10_missed_103 (by omega) (by omega) ?_
            first | refine nX10_missed_104 ?_ | refine qX10_missed_104 ?_
            refine qX10_missed_105 ?_
            first | refine nX10_missed_107 ?_ | refine qX10_missed_107 ?_
            refine qX10_missed_110 ?_
            exact hst _ _
          · have hb2 : ¬ (!rchB (rR st i) (rC st i) (rE st i) c o r (rC st i)) = true := by rw [hb]; decide
            rw [if_neg hb2] at hst
            show wp G (d + 3) mX10_missed P 93 _ (.int (nI 1) :: _) w (0, 0)
            refine nX10_missed_93 (by omega) (fun h93 => by exfalso; omega) (fun h93 => ?_)
            refine qX10_missed_96 ?_
            refine qX10_missed_97 ?_
            first | refine nX10_missed_104 ?_ | refine qX10_missed_104 ?_
            refine qX10_missed_105 ?_
            first | refine nX10_missed_107 ?_ | refine qX10_missed_107 ?_
            refine qX10_missed_110 ?_
            exact hst _ _
        | succ p ih2 =>
          intro q hq
          have hst2 := ih2 (q + 1) (by omega)
          simp only [rchB] at hst2
          refine qX10_missed_22 ?_
          refine qX10_missed_24 ?_
          refine qX10_missed_25 ?_
          refine qX10_missed_26 (by assumption) (Nat.le_of_ble_eq_true rfl) (m_columnsOf h hs hi ?_)
          refine nX10_missed_29 (by omega) (by omega) (fun h29 => by exfalso; omega) (fun h29 => ?_)
          refine qX10_missed_32 ?_
          cases hb : rchB (rR st i) (rC st i) (rE st i) c o r q
          · rw [hb, Bool.false_or] at hst2
            show wp G (d + 3) mX10_missed P 34 _ (.int (nI 0) :: _) w (0, 0)
            refine nX10_missed_34 (by omega) (fun h34 => by exfalso; omega) (fun h34 => ?_)
            refine qX10_missed_37 ?_
            refine qX10_missed_38 ?_
            refine nX10_missed_40 (by omega) (by omega) ?_
            refine qX10_missed_41 ?_
            first | refine nX10_missed_42 ?_ | refine qX10_missed_42 ?_
            refine qX10_missed_43 ?_
            have hle : o >>> q &&& 1 ≤ 1 := Nat.and_le_right
            refine nX10_missed_44 (by omega) (by omega) (fun h44 => ?_) (fun h44 => ?_)
            · rw [shr_1] at h44
              rw [show o.testBit q = false by rw [Bool.not_eq_true] at h44; exact h44, Bool.false_and] at hst2
              refine qX10_missed_80 ?_
              refine qX10_missed_81 ?_
              first | refine nX10_missed_83 ?_ | refine qX10_missed_83 ?_
              refine qX10_missed_86 ?_
              exact hst2
            · rw [shr_1] at h44
              rw [h44, Bool.true_and] at hst2
              have hf : -999 ≤ fcZ (rR st i) (rC st i) (rE st i) c q ∧ fcZ (rR st i) (rC st i) (rE st i) c q ≤ 999 := gdF_rng (fun r hr => by
                have := ha _ (hd.in hr hc)
                omega)
              have h1 := ha _ (hd.in (show r < rR st i by omega) (show q < rC st i by omega))
              have h2 := ha _ (hd.in (show r < rR st i by omega) hc)
              refine qX10_missed_47 ?_
              refine qX10_missed_48 ?_
              refine qX10_missed_49 ?_
              refine qX10_missed_50 ?_
              refine qX10_missed_52 (by assumption) (Nat.le_of_ble_eq_true rfl) (m_factorOf h hs hi ho hc (by omega) ?_)
              refine qX10_missed_55 ?_
              refine qX10_missed_56 ?_
              refine qX10_missed_57 ?_
              refine qX10_missed_59 ?_
              refine qX10_missed_61 (by assumption) (Nat.le_of_ble_eq_true rfl) (m_at h hs hi (hd.in12 (by omega) (by omega)) ?_)
              refine qX10_missed_64 ?_
              rw [iZ_nI_add]
              refine qX10_missed_65 ?_
              refine qX10_missed_66 ?_
              refine qX10_missed_67 ?_
              refine qX10_missed_69 ?_
              refine qX10_missed_70 (by assumption) (Nat.le_of_ble_eq_true rfl) (m_at h hs hi (hd.in12 (by omega) hc) ?_)
              have hz : zR (fcZ (rR st i) (rC st i) (rE st i) c q + (rE st i (r * rC st i + q) : Int)) := ⟨by omega, by omega⟩
              refine qX10_missed_73 (fun h73 => ?_) (fun h73 => ?_)
              · have h73 : ¬ iZ (fcZ (rR st i) (rC st i) (rE st i) c q + (rE st i (r * rC st i + q) : Int)) = nI (rE st i (r * rC st i + c)) := h73
                rw [iZ_eq_nI hz (by omega)] at h73
                rw [decide_eq_false h73] at hst2
                refine qX10_missed_80 ?_
                refine qX10_missed_81 ?_
                first | refine nX10_missed_83 ?_ | refine qX10_missed_83 ?_
                refine qX10_missed_86 ?_
                exact hst2
              · have h73 : iZ (fcZ (rR st i) (rC st i) (rE st i) c q + (rE st i (r * rC st i + q) : Int)) = nI (rE st i (r * rC st i + c)) := h73
                rw [iZ_eq_nI hz (by omega)] at h73
                rw [decide_eq_true h73] at hst2
                refine qX10_missed_76 ?_
                refine qX10_missed_77 ?_
                refine qX10_missed_81 ?_
                first | refine nX10_missed_83 ?_ | refine qX10_missed_83 ?_
                refine qX10_missed_86 ?_
                exact hst2
          · rw [hb, Bool.true_or] at hst2
            show wp G (d + 3) mX10_missed P 34 _ (.int (nI 1) :: _) w (0, 0)
            refine nX10_missed_34 (by omega) (fun h34 => ?_) (fun h34 => by exfalso; omega)
            refine qX10_missed_76 ?_
            refine qX10_missed_77 ?_
            refine qX10_missed_81 ?_
            first | refine nX10_missed_83 ?_ | refine qX10_missed_83 ?_
            refine qX10_missed_86 ?_
            exact hst2
      exact L2 (rC st i) 0 (by omega)
  exact L (rR st i) 0 none none (by omega)
theorem m_staying {i : Nat} (h : mO w D v) (hs : w.1 (D + 1) = aN G 42 st) (hi : i < 3) (ho : okV (vwA st i)) (k : P (some (.int (nI (nedN (rR st i) (rC st i) (rE st i) (rC st i))))) w) : wpM G (d + 5) yX10_staying (0, 0) [.ref D, .int (nI i)] w P := by
  have hd : okD (rR st i) (rC st i) := ho.1
  have d2 := hd.2.2.2.1
  have d1 := hd.2.1
  have hp5 : ∀ n, n < 5 → 1 * 2 ^ n ≤ 16 ∧ 1 ≤ 1 <<< n := by decide
  obtain ⟨hpc, hpc2⟩ := hp5 (rC st i) (by omega)
  refine eX10_staying ?_
  refine qX10_staying_0 ?_
  refine qX10_staying_1 ?_
  refine qX10_staying_2 ?_
  refine qX10_staying_3 (by assumption) (Nat.le_of_ble_eq_true rfl) (m_columnsOf h hs hi ?_)
  refine nX10_staying_6 (by omega) (by omega) ?_
  refine qX10_staying_7 ?_
  first | refine nX10_staying_8 (by omega) ?_ | refine qX10_staying_8 ?_
  refine qX10_staying_9 ?_
  refine qX10_staying_10 ?_
  refine qX10_staying_11 ?_
  have L : ∀ m q (l4 : Option Value), q + m = rC st i → wp G (d + 4) mX10_staying P 12 [some (.ref D), some (.int (nI i)), some (.int (nI (nedN (rR st i) (rC st i) (rE st i) q))), some (.int (nI q)), l4] [] w (0, 0) := by
    intro m
    induction m with
    | zero =>
      intro q l4 hq
      refine qX10_staying_12 ?_
      refine qX10_staying_13 ?_
      refine qX10_staying_14 ?_
      refine qX10_staying_15 (by assumption) (Nat.le_of_ble_eq_true rfl) (m_columnsOf h hs hi ?_)
      refine nX10_staying_18 (by omega) (by omega) (fun h18 => ?_) (fun h18 => by exfalso; omega)
      refine qX10_staying_54 ?_
      refine qX10_staying_55 ?_
      rw [show q = rC st i by omega]
      exact k
    | succ m ih =>
      intro q l4 hq
      have hst := fun l4 => ih (q + 1) l4 (by omega)
      simp only [nedN] at hst
      have hn := nedN_lt (R := rR st i) (a := rE st i) d2 q
      obtain ⟨hpq, _⟩ := hp5 q (by omega)
      have hcl := clr_lt (k := q) hn
      have hm := mkB_lt (fun r => !rchB (rR st i) (rC st i) (rE st i) q (clr (nedN (rR st i) (rC st i) (rE st i) q) q) r (rC st i)) (rR st i)
      have hm2 : msdN (rR st i) (rC st i) (rE st i) q (clr (nedN (rR st i) (rC st i) (rE st i) q) q) < 2 ^ rR st i := hm
      have p1 : 2 ^ rR st i ≤ 16 := Nat.pow_le_pow_right (n := 2) (by decide) d1
      refine qX10_staying_12 ?_
      refine qX10_staying_13 ?_
      refine qX10_staying_14 ?_
      refine qX10_staying_15 (by assumption) (Nat.le_of_ble_eq_true rfl) (m_columnsOf h hs hi ?_)
      refine nX10_staying_18 (by omega) (by omega) (fun h18 => by exfalso; omega) (fun h18 => ?_)
      refine qX10_staying_21 ?_
      refine qX10_staying_22 ?_
      refine qX10_staying_23 ?_
      refine nX10_staying_24 (by omega) (by omega) ?_
      refine qX10_staying_25 ?_
      refine qX10_staying_26 ?_
      refine qX10_staying_27 ?_
      rw [clr_nI _ hn _ (by omega)]
      refine qX10_staying_28 ?_
      refine qX10_staying_30 ?_
      refine qX10_staying_31 ?_
      refine qX10_staying_32 ?_
      refine qX10_staying_33 ?_
      refine qX10_staying_35 (by assumption) (Nat.le_of_ble_eq_true rfl) (m_missed h hs hi ho (by omega) hcl ?_)
      refine nX10_staying_38 (by omega) (fun h38 => ?_) (fun h38 => ?_)
      · rw [if_neg h38] at hst
        refine qX10_staying_46 ?_
        refine qX10_staying_47 ?_
        first | refine nX10_staying_48 ?_ | refine qX10_staying_48 ?_
        refine qX10_staying_51 ?_
        exact hst _
      · rw [if_pos h38] at hst
        refine qX10_staying_41 ?_
        refine qX10_staying_43 ?_
        refine qX10_staying_47 ?_
        first | refine nX10_staying_48 ?_ | refine qX10_staying_48 ?_
        refine qX10_staying_51 ?_
        exact hst _
  exact L (rC st i) 0 none (by omega)
theorem m_cone {x y z u : Int32} (h : mdAt G w D s) (ho : okS s) (k : P (some (.int (spCone s x y z u))) w) : wpM G (d + 5) yX10_cone (0, 0) [.ref D, .int x, .int y, .int z, .int u] w P := by
  obtain ⟨⟨v, o1, o2, o3⟩, ⟨st, p1, p2⟩, _⟩ := h
  have hok := p2.ok ho.1
  unfold spCone at k
  refine eX10_cone ?_
  refine qX10_cone_0 ?_
  refine qX10_cone_1 (Nat.le_of_ble_eq_true rfl) (m_isArray (fun i hi hx => ?_) (fun hx => ?_))
  · subst hx
    obtain ⟨e1, e2, e3⟩ := p2 i hi
    have e1 : rR st i = _ := e1
    have e2 : rC st i = _ := e2
    have e3 : ∀ q, q < (lA s i).1 * (lA s i).2.1 → rE st i q = (lA s i).2.2 q := e3
    have g5 := (ho.1 i hi).1
    have b1 := g5.2.1
    have b2 := g5.2.2.2.1
    have b3 := g5.2.2.1
    rw [nN_nI (by omega)] at k
    have hp5 : ∀ n, n < 5 → 1 * 2 ^ n ≤ 16 ∧ 1 ≤ 1 <<< n ∧ 1 <<< n = 2 ^ n := by decide
    obtain ⟨hpc, hpc2, hpc3⟩ := hp5 (rC st i) (by omega)
    refine nX10_cone_4 (by omega) (fun h4 => by exfalso; omega) (fun h4 => ?_)
    refine qX10_cone_7 ?_
    refine qX10_cone_8 ?_
    refine qX10_cone_9 ?_
    refine qX10_cone_10 ?_
    refine qX10_cone_11 (by assumption) (Nat.le_of_ble_eq_true rfl) (m_columnsOf o1 p1 hi ?_)
    refine qX10_cone_14 ?_
    first | refine nX10_cone_15 (by omega) ?_ | refine qX10_cone_15 ?_
    refine qX10_cone_16 (Nat.le_of_ble_eq_true rfl) (m_within0 (by omega) (fun c hc hy => ?_) (fun hno => ?_))
    · subst hy
      have hc2 : c < (lA s i).2.1 := by omega
      rw [cIf_t ⟨inB_nI hi, inB_nI hc2⟩, nN_nI (by omega)] at k
      refine nX10_cone_19 (by omega) (fun h19 => ?_) (fun h19 => by exfalso; omega)
      refine qX10_cone_24 ?_
      refine qX10_cone_25 ?_
      refine qX10_cone_26 ?_
      refine qX10_cone_27 ?_
      refine qX10_cone_28 ?_
      refine qX10_cone_29 (by assumption) (Nat.le_of_ble_eq_true rfl) (m_columnsOf o1 p1 hi ?_)
      refine nX10_cone_32 (by omega) (by omega) ?_
      refine qX10_cone_33 ?_
      first | refine nX10_cone_34 (by omega) ?_ | refine qX10_cone_34 ?_
      refine qX10_cone_35 (Nat.le_of_ble_eq_true rfl) (m_within0 (by omega) (fun o ho2 hz => ?_) (fun hno => ?_))
      · subst hz
        have ho3 : o < 2 ^ (lA s i).2.1 := by rw [← e2]; omega
        have p2' : 2 ^ (lA s i).2.1 ≤ 16 := Nat.pow_le_pow_right (n := 2) (by decide) b2
        rw [nN_nI (by omega)] at k
        refine nX10_cone_38 (by omega) (fun h38 => by exfalso; omega) (fun h38 => ?_)
        refine qX10_cone_41 ?_
        refine qX10_cone_42 ?_
        refine nX10_cone_43 (by omega) (by omega) ?_
        refine qX10_cone_44 ?_
        first | refine nX10_cone_45 ?_ | refine qX10_cone_45 ?_
        refine qX10_cone_46 ?_
        have hle : o >>> c &&& 1 ≤ 1 := Nat.and_le_right
        refine nX10_cone_47 (by omega) (by omega) (fun h47 => ?_) (fun h47 => ?_)
        · rw [shr_1] at h47
          rw [cIf_f (fun e => by rw [h47] at e; exact absurd e.1.2 (by decide))] at k
          refine qX10_cone_60 ?_
          refine qX10_cone_62 ?_
          exact k
        · rw [shr_1, Bool.not_eq_true] at h47
          refine qX10_cone_50 ?_
          refine qX10_cone_52 ?_
          refine qX10_cone_53 ?_
          refine qX10_cone_54 (Nat.le_of_ble_eq_true rfl) (m_within0 (by decide) (fun u hu hq => ?_) (fun hno => ?_))
          · subst hq
            have hu : u < 2 := hu
            rw [cIf_t ⟨⟨inB_nI ho3, h47⟩, inB_nI hu⟩, ← msdN_cong g5 e3 hc2, ← e1, ← e2] at k
            have hm := mkB_lt (fun r => !rchB (rR st i) (rC st i) (rE st i) c o r (rC st i)) (rR st i)
            have hm2 : msdN (rR st i) (rC st i) (rE st i) c o < 2 ^ rR st i := hm
            have p1' : 2 ^ rR st i ≤ 16 := Nat.pow_le_pow_right (n := 2) (by decide) (show rR st i ≤ 4 by rw [e1]; exact b1)
            refine nX10_cone_57 (by omega) (fun h57 => ?_) (fun h57 => by exfalso; omega)
            refine qX10_cone_63 ?_
            refine qX10_cone_64 ?_
            refine qX10_cone_65 ?_
            refine qX10_cone_66 ?_
            refine qX10_cone_67 (by assumption) (Nat.le_of_ble_eq_true rfl) (m_missed o1 p1 hi (hok i hi) (by omega) (by omega) ?_)
            refine qX10_cone_70 ?_
            refine qX10_cone_72 ?_
            refine qX10_cone_74 ?_
            rcases (show u = 0 ∨ u = 1 by omega) with rfl | rfl
            · rw [cIf_f (by decide)] at k
              refine nX10_cone_75 (by omega) (by omega) (fun h75 => ?_) (fun h75 => by exfalso; omega)
              refine qX10_cone_83 ?_
              refine nX10_cone_85 (by omega) (fun h85 => ?_) (fun h85 => ?_)
              · rw [if_neg h85] at k
                refine qX10_cone_92 ?_
                refine qX10_cone_93 ?_
                exact k
              · rw [if_pos h85] at k
                refine qX10_cone_88 ?_
                refine qX10_cone_89 ?_
                refine qX10_cone_93 ?_
                exact k
            · rw [cIf_t rfl] at k
              refine nX10_cone_75 (by omega) (by omega) (fun h75 => by exfalso; omega) (fun h75 => ?_)
              refine qX10_cone_78 ?_
              refine qX10_cone_80 ?_
              refine qX10_cone_93 ?_
              exact k
          · rw [cIf_f (fun e => hno e.2)] at k
            refine nX10_cone_57 (by omega) (fun h57 => by exfalso; omega) (fun h57 => ?_)
            refine qX10_cone_60 ?_
            refine qX10_cone_62 ?_
            exact k
      · rw [cIf_f (fun e => hno (by rw [show 1 <<< rC st i - 1 + 1 = 2 ^ (lA s i).2.1 by rw [← e2]; omega]; exact e.1.1))] at k
        refine nX10_cone_38 (by omega) (fun h38 => ?_) (fun h38 => by exfalso; omega)
        refine qX10_cone_60 ?_
        refine qX10_cone_62 ?_
        exact k
    · rw [cIf_f (fun e => hno (by rw [show rC st i - 1 + 1 = (lA s i).2.1 by omega]; exact e.2))] at k
      refine nX10_cone_19 (by omega) (fun h19 => by exfalso; omega) (fun h19 => ?_)
      refine qX10_cone_22 ?_
      refine qX10_cone_23 ?_
      exact k
  · rw [cIf_f (fun e => hx e.1)] at k
    refine nX10_cone_4 (by omega) (fun h4 => ?_) (fun h4 => by exfalso; omega)
    refine qX10_cone_22 ?_
    refine qX10_cone_23 ?_
    exact k
theorem m_factor {x y z : Int32} (h : mdAt G w D s) (ho : okS s) (k : P (some (.int (spFactor s x y z))) w) : wpM G (d + 4) yX10_factor (0, 0) [.ref D, .int x, .int y, .int z] w P := by
  obtain ⟨⟨v, o1, o2, o3⟩, ⟨st, p1, p2⟩, _⟩ := h
  have hok := p2.ok ho.1
  unfold spFactor at k
  refine eX10_factor ?_
  refine qX10_factor_0 ?_
  refine qX10_factor_1 ?_
  refine qX10_factor_2 ?_
  refine qX10_factor_3 ?_
  refine qX10_factor_4 (by assumption) (Nat.le_of_ble_eq_true rfl) (m_isLine false o1 p1 hok (fun i c hi hc hx hy => ?_) (fun hno => ?_))
  · subst hx
    subst hy
    obtain ⟨e1, e2, e3⟩ := p2 i hi
    have e1 : rR st i = _ := e1
    have e2 : rC st i = _ := e2
    have e3 : ∀ q, q < (lA s i).1 * (lA s i).2.1 → rE st i q = (lA s i).2.2 q := e3
    have g5 := (ho.1 i hi).1
    have b2 := g5.2.2.2.1
    have hc : c < rC st i := hc
    have hc2 : c < (lA s i).2.1 := by omega
    refine nX10_factor_7 (by omega) (fun h7 => by exfalso; omega) (fun h7 => ?_)
    refine qX10_factor_10 ?_
    refine qX10_factor_11 ?_
    refine qX10_factor_12 ?_
    refine qX10_factor_13 ?_
    refine qX10_factor_14 (by assumption) (Nat.le_of_ble_eq_true rfl) (m_isLine false o1 p1 hok (fun j q hj hq hx hz => ?_) (fun hno => ?_))
    · subst hz
      rw [nI_eq (by omega) (by omega)] at hx
      subst hx
      have hq : q < rC st i := hq
      have hq2 : q < (lA s i).2.1 := by omega
      rw [nN_nI (by omega), nN_nI (by omega), nN_nI (by omega), cIf_t ⟨inB_nI hi, inB_nI hc2, inB_nI hq2⟩, ← fcZ_cong g5 e3 hc2 hq2, ← e1, ← e2] at k
      refine nX10_factor_17 (by omega) (fun h17 => ?_) (fun h17 => by exfalso; omega)
      refine qX10_factor_22 ?_
      refine qX10_factor_23 ?_
      refine nX10_factor_24 (by omega) (by omega) (fun h24 => ?_) (fun h24 => ?_)
      · rw [cIf_f (fun e => h24 (by rw [nI_eq (by omega) (by omega)] at e; exact e))] at k
        refine qX10_factor_32 ?_
        refine qX10_factor_33 ?_
        refine qX10_factor_34 ?_
        refine qX10_factor_35 ?_
        refine qX10_factor_36 (by assumption) (Nat.le_of_ble_eq_true rfl) (m_factorOf o1 p1 hi (hok i hi) hc hq ?_)
        refine qX10_factor_39 ?_
        refine qX10_factor_42 ?_
        refine qX10_factor_43 ?_
        exact k
      · rw [cIf_t (by rw [h24])] at k
        refine qX10_factor_27 ?_
        refine qX10_factor_29 ?_
        refine qX10_factor_43 ?_
        exact k
    · rw [cIf_f (fun e => hno ((lin_iff false p2).mpr ⟨e.1, e.2.2⟩))] at k
      refine nX10_factor_17 (by omega) (fun h17 => by exfalso; omega) (fun h17 => ?_)
      refine qX10_factor_20 ?_
      refine qX10_factor_21 ?_
      exact k
  · rw [cIf_f (fun e => hno ((lin_iff false p2).mpr ⟨e.1, e.2.1⟩))] at k
    refine nX10_factor_7 (by omega) (fun h7 => ?_) (fun h7 => by exfalso; omega)
    refine qX10_factor_20 ?_
    refine qX10_factor_21 ?_
    exact k
end REFC
