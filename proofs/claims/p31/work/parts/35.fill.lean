/-- numbers for the places from one on: the least that work; q numbers are left to try -/
def flS (U : Nat → Bool) (rec : (Nat → Nat) → Option (List Nat)) (pw : Nat → Nat) (kk pl : Nat) : Nat → Option (List Nat)
  | 0 => none
  | q + 1 => if U (pw (kk - (q + 1)) ||| 1 <<< pl) = false ∧ (rec (updN pw (kk - (q + 1)) (pw (kk - (q + 1)) ||| 1 <<< pl))).isSome = true then (rec (updN pw (kk - (q + 1)) (pw (kk - (q + 1)) ||| 1 <<< pl))).map (fun l => (kk - (q + 1)) :: l) else if pw (kk - (q + 1)) = 0 then none else flS U rec pw kk pl q
def flT (U : Nat → Bool) (kk : Nat) : Nat → Nat → (Nat → Nat) → Option (List Nat)
  | 0, _, _ => some []
  | m + 1, pl, pw => flS U (flT U kk m (pl + 1)) pw kk pl kk
theorem updN_undo (a : Nat → Nat) (k x : Nat) : updN (updN a k x) k (a k) = a := by
  funext j
  by_cases h : j = k
  · subst h; rw [updN_s]
  · rw [updN_n h, updN_n h]
section FILL
variable {G : sG} {v n : Nat} {U : Nat → Bool}
set_option maxHeartbeats 1000000 in
theorem t_fill {kk : Nat} (hkk : kk ≤ 12) (hn : n ≤ 12) : ∀ (m d : Nat) (P : sQ) (w : sW) (pl : Nat) (fr pw : Nat → Nat), pl + m = n → (∀ i, pw i < 4096) → cvAt G w v n U fr pw → (∀ l, flT U kk m pl pw = some l → ∀ w' fr' pw', Fr w w' (s4 v) → cvAt G w' v n U fr' pw' → (∀ i, pw' i < 4096) → (∀ i, i < pl → fr' i = fr i) → (∀ i, i < m → fr' (pl + i) = l.getD i 0) → P (some (.int (nI 1))) w') → (flT U kk m pl pw = none → ∀ w' fr', Fr w w' (s4 v) → cvAt G w' v n U fr' pw → (∀ i, i < pl → fr' i = fr i) → P (some (.int (nI 0))) w') → wpM G (d + (m + 2)) yX1_fill (0, 0) [.ref v, .int (nI pl), .int (nI kk)] w P := by
  have hp12 : ∀ n, n < 12 → 1 * 2 ^ n ≤ 4096 ∧ 1 <<< n < 2 ^ 12 := by decide
  intro m
  induction m with
  | zero =>
    intro d P w pl fr pw hp hpw hc kt kf
    obtain ⟨f, x1, x2, x3, x4, x5⟩ := id hc
    refine eX1_fill ?_
    refine qX1_fill_0 ?_
    refine qX1_fill_1 ?_
    refine qX1_fill_2 (by assumption) ?_
    refine nX1_fill_5 (by omega) (by omega) (fun h5 => by exfalso; omega) (fun h5 => ?_)
    refine qX1_fill_8 ?_
    refine qX1_fill_9 rfl ?_
    exact kt [] rfl w fr pw Fr.rf hc hpw (fun i _ => rfl) (fun i hi => absurd hi (Nat.not_lt_zero i))
  | succ m ih =>
    intro d P w pl fr pw hp hpw hc kt kf
    obtain ⟨f, x1, x2, x3, x4, x5⟩ := id hc
    obtain ⟨p1, p2⟩ := hp12 pl (by omega)
    refine eX1_fill ?_
    refine qX1_fill_0 ?_
    refine qX1_fill_1 ?_
    refine qX1_fill_2 (by assumption) ?_
    refine nX1_fill_5 (by omega) (by omega) (fun h5 => ?_) (fun h5 => by exfalso; omega)
    refine qX1_fill_10 ?_
    refine qX1_fill_11 ?_
    have Lp : ∀ q j (w' : sW) (fr' : Nat → Nat) (l4 : Option Value), j + q = kk → flT U kk (m + 1) pl pw = flS U (flT U kk m (pl + 1)) pw kk pl q → Fr w w' (s4 v) → cvAt G w' v n U fr' pw → (∀ i, i < pl → fr' i = fr i) → wp G (d + (m + 2)) mX1_fill P 12 [some (.ref v), some (.int (nI pl)), some (.int (nI kk)), some (.int (nI j)), l4] [] w' (0, 0) := by
      intro q
      induction q with
      | zero =>
        intro j w' fr' l4 hj he hF hcv hfr
        refine qX1_fill_12 ?_
        refine qX1_fill_13 ?_
        refine nX1_fill_14 (by omega) (by omega) (fun h14 => ?_) (fun h14 => by exfalso; omega)
        refine qX1_fill_91 ?_
        refine qX1_fill_92 rfl ?_
        exact kf (by rw [he]; rfl) w' fr' hF hcv hfr
      | succ q ih2 =>
        intro j w' fr' l4 hj he hF hcv hfr
        obtain ⟨f, y1, y2, y3, y4, y5⟩ := id hcv
        simp only [flS] at he
        rw [show kk - (q + 1) = j by omega] at he
        have b1 := hpw j
        have b2 : pw j ||| 1 <<< pl < 2 ^ 12 := Nat.or_lt_two_pow b1 p2
        refine qX1_fill_12 ?_
        refine qX1_fill_13 ?_
        refine nX1_fill_14 (by omega) (by omega) (fun h14 => by exfalso; omega) (fun h14 => ?_)
        refine qX1_fill_17 ?_
        refine qX1_fill_18 (by assumption) ?_
        refine qX1_fill_21 ?_
        first | refine fX1_fill_22 (by assumption) (by omega) (by decide) ?_ | refine nX1_fill_22 (by assumption) (by omega) (by decide) ?_
        refine qX1_fill_23 ?_
        refine qX1_fill_25 ?_
        refine qX1_fill_26 ?_
        refine qX1_fill_28 ?_
        refine qX1_fill_29 ?_
        refine nX1_fill_30 (by omega) (by omega) ?_
        first | refine nX1_fill_31 ?_ | refine qX1_fill_31 ?_
        -- when a number does not work
        have fail : ∀ (w'' : sW) (fr'' : Nat → Nat), ¬ (U (pw j ||| 1 <<< pl) = false ∧ (flT U kk m (pl + 1) (updN pw j (pw j ||| 1 <<< pl))).isSome = true) → Fr w w'' (s4 v) → cvAt G w'' v n U fr'' pw → (∀ i, i < pl → fr'' i = fr i) → wp G (d + (m + 2)) mX1_fill P 78 [some (.ref v), some (.int (nI pl)), some (.int (nI kk)), some (.int (nI j)), some (.int (nI (pw j)))] [] w'' (0, 0) := by
          intro w'' fr'' hno hF'' hcv'' hfr''
          rw [if_neg hno] at he
          refine qX1_fill_78 ?_
          refine nX1_fill_80 (by omega) (fun h80 => ?_) (fun h80 => ?_)
          · rw [if_neg (by omega)] at he
            first | refine nX1_fill_85 ?_ | refine qX1_fill_85 ?_
            refine qX1_fill_88 ?_
            exact ih2 (j + 1) w'' fr'' _ (by omega) he hF'' hcv'' hfr''
          · rw [if_pos (by omega)] at he
            refine qX1_fill_83 ?_
            refine qX1_fill_84 rfl ?_
            exact kf he w'' fr'' hF'' hcv'' hfr''
        refine qX1_fill_32 (by assumption) (Nat.le_of_ble_eq_true rfl) (t_canTouchAll hcv (by omega) (fun hU => ?_) (fun hU => ?_))
        · refine nX1_fill_35 (by omega) (fun h35 => by exfalso; omega) (fun h35 => ?_)
          refine qX1_fill_38 ?_
          refine qX1_fill_39 (by assumption) ?_
          refine qX1_fill_42 ?_
          refine qX1_fill_43 ?_
          refine qX1_fill_45 ?_
          refine qX1_fill_46 ?_
          refine nX1_fill_47 (by omega) (by omega) ?_
          first | refine nX1_fill_48 ?_ | refine qX1_fill_48 ?_
          first | refine fX1_fill_49 (by assumption) (by omega) (by decide) ?_ | refine nX1_fill_49 (by assumption) (by omega) (by decide) ?_
          generalize hw1 : s_up w' (v + 3) _ = w1
          have hF1 : Fr w' w1 (s4 v) := by rw [← hw1]; exact Fr.rf.up ⟨by omega, by omega⟩
          have hc1 : cvAt G w1 v n U fr' (updN pw j (pw j ||| 1 <<< pl)) := ⟨f, by rw [← hw1, s_upN (by omega)]; exact y1, by rw [← hw1, s_upN (by omega)]; exact y2, by rw [← hw1, s_upN (by omega)]; exact y3, by rw [← hw1]; exact s_upS, y5⟩
          obtain ⟨_, u1, u2, u3, u4, u5⟩ := id hc1
          refine qX1_fill_50 ?_
          refine qX1_fill_51 (by assumption) ?_
          refine qX1_fill_54 ?_
          refine qX1_fill_55 ?_
          first | refine fX1_fill_56 (by assumption) (by omega) (by decide) ?_ | refine nX1_fill_56 (by assumption) (by omega) (by decide) ?_
          generalize hw2 : s_up w1 (v + 2) _ = w2
          have hF2 : Fr w1 w2 (s4 v) := by rw [← hw2]; exact Fr.rf.up ⟨by omega, by omega⟩
          have hc2 : cvAt G w2 v n U (updN fr' pl j) (updN pw j (pw j ||| 1 <<< pl)) := ⟨_, by rw [← hw2, s_upN (by omega)]; exact u1, by rw [← hw2, s_upN (by omega)]; exact u2, by rw [← hw2]; exact s_upS, by rw [← hw2, s_upN (by omega)]; exact u4, u5⟩
          have hF02 : Fr w w2 (s4 v) := (hF.tr hF1 (fun q hq => hq)).tr hF2 (fun q hq => hq)
          have hpw2 : ∀ i, updN pw j (pw j ||| 1 <<< pl) i < 4096 := by
            intro i
            by_cases hi : i = j
            · subst hi; rw [updN_s]; exact b2
            · rw [updN_n hi]; exact hpw i
          refine qX1_fill_57 ?_
          refine qX1_fill_58 ?_
          refine qX1_fill_59 ?_
          first | refine nX1_fill_60 ?_ | refine qX1_fill_60 ?_
          refine qX1_fill_61 ?_
          refine qX1_fill_62 (Nat.le_of_ble_eq_true rfl) (ih d _ w2 (pl + 1) _ _ (by omega) hpw2 hc2 (fun l hl w3 fr3 pw3 hF3 hc3 hpw3 hf3 hg3 => ?_) (fun hl w3 fr3 hF3 hc3 hf3 => ?_))
          · refine nX1_fill_65 (by omega) (fun h65 => by exfalso; omega) (fun h65 => ?_)
            refine qX1_fill_68 ?_
            refine qX1_fill_69 rfl ?_
            rw [if_pos ⟨hU, by rw [hl]; rfl⟩, hl] at he
            refine kt (j :: l) he w3 fr3 pw3 (hF02.tr hF3 (fun q hq => hq)) hc3 hpw3 (fun i hi => ?_) (fun i hi => ?_)
            · rw [hf3 i (by omega), updN_n (by omega), hfr i hi]
            · cases i with
              | zero =>
                rw [Nat.add_zero, hf3 pl (by omega), updN_s]
                rfl
              | succ i =>
                rw [show pl + (i + 1) = pl + 1 + i by omega, hg3 i (by omega)]
                rfl
          · refine nX1_fill_65 (by omega) (fun h65 => ?_) (fun h65 => by exfalso; omega)
            obtain ⟨_, t1, t2, t3, t4, t5⟩ := id hc3
            refine qX1_fill_70 ?_
            refine qX1_fill_71 (by assumption) ?_
            refine qX1_fill_74 ?_
            refine qX1_fill_75 ?_
            first | refine fX1_fill_77 (by assumption) (by omega) (by decide) ?_ | refine nX1_fill_77 (by assumption) (by omega) (by decide) ?_
            refine fail _ fr3 (fun z => ?_) ((hF02.tr hF3 (fun q hq => hq)).up ⟨by omega, by omega⟩) ⟨_, by rw [s_upN (by omega)]; exact t1, by rw [s_upN (by omega)]; exact t2, by rw [s_upN (by omega)]; exact t3, ?_, t5⟩ (fun i hi => ?_)
            · rw [hl] at z
              exact absurd z.2 (by simp)
            · rw [updN_undo]
              exact s_upS
            · rw [hf3 i (by omega), updN_n (by omega), hfr i hi]
        · refine nX1_fill_35 (by omega) (fun h35 => ?_) (fun h35 => by exfalso; omega)
          refine fail w' fr' (fun z => ?_) hF hcv hfr
          rw [hU] at z
          exact absurd z.1 (by decide)
    exact Lp kk 0 w fr _ (by omega) rfl Fr.rf hc (fun i _ => rfl)
end FILL
