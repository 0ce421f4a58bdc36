/-- whether two lines are unlike, at the first i places -/
def unL (b : Bool) (C n o : Nat) (a : Nat → Nat) : Nat → Bool
  | 0 => false
  | i + 1 => unL b C n o a i || (a (plN b C n i) != a (plN b C o i))
def tf (b : Bool) : Nat := match b with
  | true => 1
  | false => 0
/-- how many are kept ahead of a place -/
def kpN (b : Bool) (C n r c : Nat) : Nat := match b with
  | true => if r < n then r * C + c else if r = n then n * C else (r - 1) * C + c
  | false => r * (C - 1) + (if c ≤ n then c else c - 1)
section GRID5
variable {G : sG} {d : Nat} {P : sQ} {w : sW} {g e R C : Nat} {a : Nat → Nat}
set_option maxHeartbeats 2000000 in
theorem t_swapLines (b : Bool) {n o : Nat} (h : gAt G w g e R C a) (hd : okD R C) (ha : ∀ k, k < R * C → a k ≤ 999) (hn : n < lnN b R C) (ho : o < lnN b R C) (hno : n ≠ o) (k : ∀ w' a', Fr w w' (sGE g e) → gAt G w' g e R C a' → (∀ k, k < R * C → a' k = swL b C n o a k) → P (some (.int (nI (tf (unL b C n o a (lnN (!b) R C)))))) w') : wpM G (d + 3) yX2_swapLines (0, 0) [.ref g, .int (nI (bN b)), .int (nI n), .int (nI o)] w P := by
  have hsz := hd.2.2.2.2
  have d1 := hd.2.1
  have d2 := hd.2.2.2.1
  have dl : lnN (!b) R C ≤ 4 := by cases b <;> assumption
  refine eX2_swapLines ?_
  refine qX2_swapLines_0 ?_
  refine qX2_swapLines_1 ?_
  refine qX2_swapLines_3 ?_
  refine qX2_swapLines_4 ?_
  have key : ∀ i (l4 l6 l7 l8 : Option Value) (w' : sW) (a' : Nat → Nat), gAt G w' g e R C a' → wp G (d + 2) mX2_swapLines P 21 [some (.ref g), some (.int (nI (bN b))), some (.int (nI n)), some (.int (nI o)), l4, some (.int (nI i)), l6, l7, l8] [.int (nI (lnN (!b) R C)), .int (nI i)] w' (0, 0) → wp G (d + 2) mX2_swapLines P 6 [some (.ref g), some (.int (nI (bN b))), some (.int (nI n)), some (.int (nI o)), l4, some (.int (nI i)), l6, l7, l8] [] w' (0, 0) := by
    intro i l4 l6 l7 l8 w' a' hw kk
    obtain ⟨z1, z2⟩ := id hw
    refine qX2_swapLines_6 ?_
    refine qX2_swapLines_8 ?_
    refine qX2_swapLines_9 ?_
    cases b
    · refine nX2_swapLines_10 (by decide) (fun h => absurd rfl h) (fun _ => ?_)
      refine qX2_swapLines_13 ?_
      refine qX2_swapLines_14 ?_
      refine qX2_swapLines_18 (by assumption) (Nat.le_of_ble_eq_true rfl) (t_lines true hw ?_)
      exact kk
    · refine nX2_swapLines_10 (by decide) (fun _ => ?_) (fun h => absurd h (by decide))
      refine qX2_swapLines_17 ?_
      refine qX2_swapLines_18 (by assumption) (Nat.le_of_ble_eq_true rfl) (t_lines false hw ?_)
      exact kk
  have L : ∀ m i (l6 l7 l8 : Option Value) (w' : sW) (a' : Nat → Nat), i + m = lnN (!b) R C → Fr w w' (sGE g e) → gAt G w' g e R C a' → (∀ k, k < R * C → a' k = if posN b C k < i then swL b C n o a k else a k) → wp G (d + 2) mX2_swapLines P 6 [some (.ref g), some (.int (nI (bN b))), some (.int (nI n)), some (.int (nI o)), some (.int (nI (tf (unL b C n o a i)))), some (.int (nI i)), l6, l7, l8] [] w' (0, 0) := by
    intro m
    induction m with
    | zero =>
      intro i l6 l7 l8 w' a' hi hF hw hq
      refine key i _ _ _ _ w' a' hw ?_
      refine nX2_swapLines_21 (by omega) (by omega) (fun h21 => ?_) (fun h21 => by exfalso; omega)
      refine qX2_swapLines_106 ?_
      have hfin := k w' a' hF hw (fun k hk => by
        rw [hq k hk, if_pos (by have := (lp_lt (b := b) hk).2; omega)])
      rw [show i = lnN (!b) R C by omega]
      generalize unL b C n o a (lnN (!b) R C) = f at hfin ⊢
      cases f
      · refine qX2_swapLines_108 rfl ?_
        exact hfin
      · refine qX2_swapLines_108 rfl ?_
        exact hfin
    | succ m ih =>
      intro i l6 l7 l8 w' a' hi hF hw hq
      have hlt : i < lnN (!b) R C := by omega
      have ip := plN_lt (k := i) hd hn hlt
      have jp := plN_lt (k := i) hd ho hlt
      have hpo : plN b C n i ≠ plN b C o i := fun z => hno (by rw [← linN_pl (R := R) hn hlt, z, linN_pl ho hlt])
      obtain ⟨z1, z2⟩ := id hw
      have v1 : a' (plN b C n i) = a (plN b C n i) := by
        rw [hq _ ip, if_neg (by rw [posN_pl hn hlt]; omega)]
      have v2 : a' (plN b C o i) = a (plN b C o i) := by
        rw [hq _ jp, if_neg (by rw [posN_pl ho hlt]; omega)]
      have b1 := ha _ ip
      have b2 := ha _ jp
      refine key i _ _ _ _ w' a' hw ?_
      refine nX2_swapLines_21 (by omega) (by omega) (fun h21 => by exfalso; omega) (fun h21 => ?_)
      refine qX2_swapLines_24 ?_
      refine qX2_swapLines_25 ?_
      refine qX2_swapLines_26 ?_
      refine qX2_swapLines_27 ?_
      refine qX2_swapLines_29 (by assumption) (Nat.le_of_ble_eq_true rfl) (t_placeInLine b hw ?_)
      refine qX2_swapLines_32 ?_
      refine qX2_swapLines_34 ?_
      refine qX2_swapLines_35 ?_
      refine qX2_swapLines_36 ?_
      refine qX2_swapLines_37 ?_
      refine qX2_swapLines_39 (by assumption) (Nat.le_of_ble_eq_true rfl) (t_placeInLine b hw ?_)
      refine qX2_swapLines_42 ?_
      refine qX2_swapLines_44 ?_
      refine qX2_swapLines_45 (by assumption) ?_
      refine qX2_swapLines_48 ?_
      first | refine fX2_swapLines_50 (by assumption) (by omega) (by decide) ?_ | refine nX2_swapLines_50 (by assumption) (by omega) (by decide) ?_
      refine qX2_swapLines_51 ?_
      rw [v1]
      have rest : ∀ u : Bool, u = unL b C n o a (i + 1) → wp G (d + 2) mX2_swapLines P 75 [some (.ref g), some (.int (nI (bN b))), some (.int (nI n)), some (.int (nI o)), some (.int (nI (tf (unL b C n o a i)))), some (.int (nI i)), some (.int (nI (plN b C n i))), some (.int (nI (plN b C o i))), some (.int (nI (a (plN b C n i))))] [.int (nI (tf u))] w' (0, 0) := by
        intro u hu
        refine qX2_swapLines_75 ?_
        refine qX2_swapLines_77 ?_
        refine qX2_swapLines_78 (by assumption) ?_
        refine qX2_swapLines_81 ?_
        refine qX2_swapLines_83 ?_
        refine qX2_swapLines_84 (by assumption) ?_
        refine qX2_swapLines_87 ?_
        first | refine fX2_swapLines_89 (by assumption) (by omega) (by decide) ?_ | refine nX2_swapLines_89 (by assumption) (by omega) (by decide) ?_
        rw [v2]
        first | refine fX2_swapLines_90 (by assumption) (by omega) (by decide) ?_ | refine nX2_swapLines_90 (by assumption) (by omega) (by decide) ?_
        have hw2 := hw.upE (a' := updN a' (plN b C n i) (a (plN b C o i)))
        obtain ⟨y1, y2⟩ := id hw2
        refine qX2_swapLines_91 ?_
        refine qX2_swapLines_92 (by assumption) ?_
        refine qX2_swapLines_95 ?_
        refine qX2_swapLines_97 ?_
        first | refine fX2_swapLines_99 (by assumption) (by omega) (by decide) ?_ | refine nX2_swapLines_99 (by assumption) (by omega) (by decide) ?_
        first | refine nX2_swapLines_100 ?_ | refine qX2_swapLines_100 ?_
        refine qX2_swapLines_103 ?_
        rw [hu]
        refine ih (i + 1) _ _ _ _ _ (by omega) ((hF.up (Or.inr rfl)).up (Or.inr rfl)) hw2.upE (fun k hk => ?_)
        by_cases q1 : k = plN b C o i
        · rw [q1, updN_s, if_pos (by rw [posN_pl ho hlt]; omega)]
          simp only [swL]
          rw [linN_pl ho hlt, if_neg (Ne.symm hno), if_pos rfl, posN_pl ho hlt]
        · rw [updN_n q1]
          by_cases q2 : k = plN b C n i
          · rw [q2, updN_s, if_pos (by rw [posN_pl hn hlt]; omega)]
            simp only [swL]
            rw [linN_pl hn hlt, if_pos rfl, posN_pl hn hlt]
          · rw [updN_n q2, hq k hk]
            by_cases q3 : posN b C k = i
            · have l1 : linN b C k ≠ n := fun z => q2 (by rw [← z, ← q3]; exact pl_lp.symm)
              have l2 : linN b C k ≠ o := fun z => q1 (by rw [← z, ← q3]; exact pl_lp.symm)
              rw [if_neg (by omega), if_pos (by omega)]
              simp only [swL]
              rw [if_neg l1, if_neg l2]
            · by_cases q4 : posN b C k < i
              · rw [if_pos q4, if_pos (by omega)]
              · rw [if_neg q4, if_neg (by omega)]
      refine qX2_swapLines_53 ?_
      have hu : unL b C n o a (i + 1) = (unL b C n o a i || (a (plN b C n i) != a (plN b C o i))) := rfl
      generalize hf : unL b C n o a i = f at rest hu ⊢
      cases f
      · refine nX2_swapLines_55 (by decide) (fun h => absurd rfl h) (fun _ => ?_)
        refine qX2_swapLines_58 ?_
        refine qX2_swapLines_60 ?_
        refine qX2_swapLines_61 (by assumption) ?_
        refine qX2_swapLines_64 ?_
        first | refine fX2_swapLines_66 (by assumption) (by omega) (by decide) ?_ | refine nX2_swapLines_66 (by assumption) (by omega) (by decide) ?_
        rw [v2]
        refine nX2_swapLines_67 (by omega) (by omega) (fun h67 => ?_) (fun h67 => ?_)
        · refine qX2_swapLines_74 ?_
          exact rest false (by rw [hu, h67]; simp)
        · refine qX2_swapLines_70 ?_
          refine qX2_swapLines_71 ?_
          exact rest true (by rw [hu]; simp [h67])
      · refine nX2_swapLines_55 (by decide) (fun _ => ?_) (fun h => absurd h (by decide))
        refine qX2_swapLines_70 ?_
        refine qX2_swapLines_71 ?_
        exact rest true (by rw [hu]; simp)
  exact L (lnN (!b) R C) 0 _ _ _ w a (by omega) Fr.rf h (fun k hk => by rw [if_neg (Nat.not_lt_zero _)])
theorem kp_row {b : Bool} {C n r : Nat} (hC : 1 ≤ C) (hn : b = false → n < C) : kpN b C n r C = kpN b C n (r + 1) 0 := by
  cases b
  · have hn := hn rfl
    simp only [kpN]
    rw [if_neg (by omega), if_pos (Nat.zero_le n), Nat.add_zero, Nat.succ_mul]
  · simp only [kpN]
    by_cases h1 : r < n
    · rw [if_pos h1]
      by_cases h2 : r + 1 < n
      · rw [if_pos h2, Nat.succ_mul, Nat.add_zero]
      · rw [if_neg h2, if_pos (by omega), show n = r + 1 by omega, Nat.succ_mul]
    · rw [if_neg h1, if_neg (show ¬ r + 1 < n by omega), if_neg (show ¬ r + 1 = n by omega)]
      by_cases h2 : r = n
      · rw [if_pos h2, h2, Nat.add_sub_cancel, Nat.add_zero]
      · rw [if_neg h2, Nat.add_sub_cancel, Nat.add_zero, ← Nat.succ_mul, show Nat.succ (r - 1) = r by omega]
theorem kp_skip {b : Bool} {C n r c : Nat} (hc : c < C) (h : lnN b r c = n) : kpN b C n r (c + 1) = kpN b C n r c := by
  cases b
  · simp only [lnN] at h
    simp only [kpN]
    rw [if_neg (by omega), if_pos (by omega), Nat.add_sub_cancel]
  · simp only [lnN] at h
    simp only [kpN]
    rw [if_neg (by omega), if_pos h, if_neg (by omega), if_pos h]
theorem kp_keep {b : Bool} {C n r c : Nat} (hc : c < C) (h : lnN b r c ≠ n) : kpN b C n r (c + 1) = kpN b C n r c + 1 := by
  cases b
  · simp only [lnN] at h
    simp only [kpN]
    by_cases h1 : c < n
    · rw [if_pos (by omega), if_pos (by omega)]; omega
    · rw [if_neg (by omega), if_neg (by omega)]; omega
  · simp only [lnN] at h
    simp only [kpN]
    by_cases h1 : r < n
    · rw [if_pos h1, if_pos h1]; omega
    · rw [if_neg h1, if_neg h, if_neg h1, if_neg h]; omega
theorem kp_le {b : Bool} {C n r c : Nat} (hC : 1 ≤ C) : kpN b C n r c ≤ r * C + c := by
  cases b
  · simp only [kpN]
    have h1 : r * (C - 1) ≤ r * C := Nat.mul_le_mul_left r (by omega)
    split <;> omega
  · simp only [kpN]
    have h1 : (r - 1) * C ≤ r * C := Nat.mul_le_mul_right C (by omega)
    split
    · omega
    · split
      · next h2 h3 => rw [h3]; omega
      · omega
theorem rm_kp {b : Bool} {C n r c : Nat} (hc : c < C) (hn : b = false → n < C) (h : lnN b r c ≠ n) : rmN b C n (kpN b C n r c) = r * C + c := by
  cases b
  · simp only [lnN] at h
    have hn := hn rfl
    by_cases h1 : c ≤ n
    · have hk : kpN false C n r c = r * (C - 1) + c := by simp only [kpN]; rw [if_pos h1]
      rw [hk]
      simp only [rmN]
      rw [dm_div (by omega), dm_mod (by omega), if_pos (by omega)]
    · have hk : kpN false C n r c = r * (C - 1) + (c - 1) := by simp only [kpN]; rw [if_neg h1]
      rw [hk]
      simp only [rmN]
      rw [dm_div (by omega), dm_mod (by omega), if_neg (by omega)]
      omega
  · simp only [lnN] at h
    by_cases h1 : r < n
    · have hk : kpN true C n r c = r * C + c := by simp only [kpN]; rw [if_pos h1]
      rw [hk]
      simp only [rmN]
      rw [dm_div hc, if_pos h1]
    · have hk : kpN true C n r c = (r - 1) * C + c := by simp only [kpN]; rw [if_neg h1, if_neg h]
      rw [hk]
      simp only [rmN]
      rw [dm_div hc, if_neg (by omega)]
      have h2 : r = r - 1 + 1 := by omega
      have h3 : (r - 1 + 1) * C = (r - 1) * C + C := Nat.succ_mul _ _
      rw [← h2] at h3
      omega
theorem kp_end {b : Bool} {R C n : Nat} (hR : 1 ≤ R) (hn : n < lnN b R C) (hC : b = false → 1 ≤ C) : kpN b C n R 0 = lnN b ((R - 1) * C) (R * (C - 1)) := by
  cases b
  · simp only [kpN]
    rw [if_pos (Nat.zero_le n), Nat.add_zero]
    rfl
  · have hn : n < R := hn
    simp only [kpN]
    rw [if_neg (by omega), if_neg (by omega), Nat.add_zero]
    rfl
set_option maxHeartbeats 2000000 in
theorem t_removeLine (b : Bool) {n : Nat} (h : gAt G w g e R C a) (hd : okD R C) (ha : ∀ k, k < R * C → a k ≤ 999) (hn : n < lnN b R C) (h2 : 2 ≤ lnN b R C) (k : ∀ w' a', Fr w w' (sGE g e) → gAt G w' g e (lnN b (R - 1) R) (lnN b C (C - 1)) a' → (∀ k, k < (lnN b (R - 1) R) * (lnN b C (C - 1)) → a' k = a (rmN b C n k)) → P none w') : wpM G (d + 3) yX2_removeLine (0, 0) [.ref g, .int (nI (bN b)), .int (nI n)] w P := by
  have hsz := hd.2.2.2.2
  have d0 := hd.1
  have d1 := hd.2.1
  have d3 := hd.2.2.1
  have d2 := hd.2.2.2.1
  have dn : n < 4 := by cases b <;> simp only [lnN] at hn <;> omega
  refine eX2_removeLine ?_
  refine qX2_removeLine_0 ?_
  refine qX2_removeLine_1 ?_
  refine qX2_removeLine_2 ?_
  refine qX2_removeLine_3 ?_
  have L1 : ∀ m r (l5 : Option Value) (w' : sW) (a' : Nat → Nat), r + m = R → Fr w w' (sGE g e) → gAt G w' g e R C a' → (∀ k, k < R * C → r * C ≤ k → a' k = a k) → (∀ k, k < kpN b C n r 0 → a' k = a (rmN b C n k)) → wp G (d + 2) mX2_removeLine P 5 [some (.ref g), some (.int (nI (bN b))), some (.int (nI n)), some (.int (nI (kpN b C n r 0))), some (.int (nI r)), l5] [] w' (0, 0) := by
    intro m
    induction m with
    | zero =>
      intro r l5 w' a' hr hF hw hq1 hq2
      have hrR : r = R := by omega
      subst hrR
      obtain ⟨z1, z2⟩ := id hw
      refine qX2_removeLine_5 ?_
      refine qX2_removeLine_7 ?_
      refine qX2_removeLine_8 (by assumption) ?_
      refine nX2_removeLine_11 (by omega) (by omega) (fun h11 => ?_) (fun h11 => by exfalso; omega)
      refine qX2_removeLine_70 ?_
      refine qX2_removeLine_71 ?_
      cases b
      · refine nX2_removeLine_72 (by decide) (fun _ => ?_) (fun h => absurd rfl h)
        refine qX2_removeLine_84 ?_
        refine qX2_removeLine_85 (by assumption) ?_
        refine qX2_removeLine_88 ?_
        refine nX2_removeLine_89 (by decide) (fun _ => ?_) (fun h => absurd rfl h)
        refine qX2_removeLine_99 ?_
        refine qX2_removeLine_100 (by assumption) ?_
        refine qX2_removeLine_103 ?_
        first | refine nX2_removeLine_104 (by omega) ?_ | refine qX2_removeLine_104 ?_
        refine qX2_removeLine_105 (by assumption) (Nat.le_of_ble_eq_true rfl) (t_reshape z1 ?_)
        refine qX2_removeLine_108 ?_
        refine k _ a' (hF.up (Or.inl rfl)) hw.upG (fun k hk => hq2 k ?_)
        rw [kp_end (by omega) hn (fun _ => by omega)]
        exact hk
      · refine nX2_removeLine_72 (by decide) (fun h => absurd h (by decide)) (fun _ => ?_)
        refine qX2_removeLine_75 ?_
        refine qX2_removeLine_76 (by assumption) ?_
        refine qX2_removeLine_79 ?_
        first | refine nX2_removeLine_80 (by omega) ?_ | refine qX2_removeLine_80 ?_
        refine qX2_removeLine_81 ?_
        refine qX2_removeLine_88 ?_
        refine nX2_removeLine_89 (by decide) (fun h => absurd h (by decide)) (fun _ => ?_)
        refine qX2_removeLine_92 ?_
        refine qX2_removeLine_93 (by assumption) ?_
        refine qX2_removeLine_96 ?_
        refine qX2_removeLine_105 (by assumption) (Nat.le_of_ble_eq_true rfl) (t_reshape z1 ?_)
        refine qX2_removeLine_108 ?_
        refine k _ a' (hF.up (Or.inl rfl)) hw.upG (fun k hk => hq2 k ?_)
        rw [kp_end (by omega) hn (fun h => by cases h)]
        exact hk
    | succ m ih =>
      intro r l5 w' a' hr hF hw hq1 hq2
      obtain ⟨z1, z2⟩ := id hw
      refine qX2_removeLine_5 ?_
      refine qX2_removeLine_7 ?_
      refine qX2_removeLine_8 (by assumption) ?_
      refine nX2_removeLine_11 (by omega) (by omega) (fun h11 => by exfalso; omega) (fun h11 => ?_)
      refine qX2_removeLine_14 ?_
      refine qX2_removeLine_15 ?_
      have L2 : ∀ p c (w' : sW) (a' : Nat → Nat), c + p = C → Fr w w' (sGE g e) → gAt G w' g e R C a' → (∀ k, k < R * C → r * C + c ≤ k → a' k = a k) → (∀ k, k < kpN b C n r c → a' k = a (rmN b C n k)) → wp G (d + 2) mX2_removeLine P 17 [some (.ref g), some (.int (nI (bN b))), some (.int (nI n)), some (.int (nI (kpN b C n r c))), some (.int (nI r)), some (.int (nI c))] [] w' (0, 0) := by
        intro p
        induction p with
        | zero =>
          intro c w' a' hc hF hw hq1 hq2
          have hcC : c = C := by omega
          subst hcC
          obtain ⟨z1, z2⟩ := id hw
          refine qX2_removeLine_17 ?_
          refine qX2_removeLine_19 ?_
          refine qX2_removeLine_20 (by assumption) ?_
          refine nX2_removeLine_23 (by omega) (by omega) (fun h23 => ?_) (fun h23 => by exfalso; omega)
          rw [kp_row (by omega) (fun hb => by rw [hb] at hn; exact hn)] at hq2 ⊢
          first | refine nX2_removeLine_64 ?_ | refine qX2_removeLine_64 ?_
          refine qX2_removeLine_67 ?_
          exact ih (r + 1) _ w' a' (by omega) hF hw (by rw [Nat.succ_mul]; exact hq1) hq2
        | succ p ih2 =>
          intro c w' a' hc hF hw hq1 hq2
          obtain ⟨z1, z2⟩ := id hw
          have i1 : r * C + c < R * C := hd.in (by omega) (by omega)
          have kl := kp_le (b := b) (n := n) (r := r) (c := c) d3
          refine qX2_removeLine_17 ?_
          refine qX2_removeLine_19 ?_
          refine qX2_removeLine_20 (by assumption) ?_
          refine nX2_removeLine_23 (by omega) (by omega) (fun h23 => by exfalso; omega) (fun h23 => ?_)
          refine qX2_removeLine_26 ?_
          have rest : wp G (d + 2) mX2_removeLine P 38 [some (.ref g), some (.int (nI (bN b))), some (.int (nI n)), some (.int (nI (kpN b C n r c))), some (.int (nI r)), some (.int (nI c))] [.int (nI n), .int (nI (lnN b r c))] w' (0, 0) := by
            have hs4 : lnN b r c < 5 := by cases b <;> simp only [lnN] <;> omega
            refine nX2_removeLine_38 (by omega) (by omega) (fun h38 => ?_) (fun h38 => ?_)
            · first | refine nX2_removeLine_58 ?_ | refine qX2_removeLine_58 ?_
              refine qX2_removeLine_61 ?_
              rw [← kp_skip (b := b) (by omega) h38] at hq2 ⊢
              exact ih2 (c + 1) w' a' (by omega) hF hw (fun k hk hk2 => hq1 k hk (by omega)) hq2
            · refine qX2_removeLine_41 ?_
              refine qX2_removeLine_42 (by assumption) ?_
              refine qX2_removeLine_45 ?_
              refine qX2_removeLine_46 ?_
              refine qX2_removeLine_47 ?_
              refine qX2_removeLine_49 ?_
              refine qX2_removeLine_51 (by assumption) (Nat.le_of_ble_eq_true rfl) (t_at hw (by omega) ?_)
              rw [hq1 _ i1 (Nat.le_refl _)]
              first | refine fX2_removeLine_54 (by assumption) (by omega) (by decide) ?_ | refine nX2_removeLine_54 (by assumption) (by omega) (by decide) ?_
              first | refine nX2_removeLine_55 ?_ | refine qX2_removeLine_55 ?_
              rw [← kp_keep (b := b) (by omega) h38]
              first | refine nX2_removeLine_58 ?_ | refine qX2_removeLine_58 ?_
              refine qX2_removeLine_61 ?_
              refine ih2 (c + 1) _ _ (by omega) (hF.up (Or.inr rfl)) hw.upE (fun k hk hk2 => ?_) (fun k hk => ?_)
              · rw [updN_n (by omega)]
                exact hq1 k hk (by omega)
              · rw [kp_keep (b := b) (by omega) h38] at hk
                by_cases hk2 : k = kpN b C n r c
                · rw [hk2, updN_s, rm_kp (b := b) (by omega) (fun hb => by rw [hb] at hn; exact hn) h38]
                · rw [updN_n hk2]
                  exact hq2 k (by omega)
          cases b
          · refine nX2_removeLine_27 (by decide) (fun _ => ?_) (fun h => absurd rfl h)
            refine qX2_removeLine_35 ?_
            refine qX2_removeLine_37 ?_
            exact rest
          · refine nX2_removeLine_27 (by decide) (fun h => absurd h (by decide)) (fun _ => ?_)
            refine qX2_removeLine_30 ?_
            refine qX2_removeLine_32 ?_
            refine qX2_removeLine_37 ?_
            exact rest
      exact L2 C 0 w' a' (by omega) hF hw (by rw [Nat.add_zero]; exact hq1) hq2
  have h0 : kpN b C n 0 0 = 0 := by
    have := kp_le (b := b) (n := n) (r := 0) (c := 0) d3
    omega
  have := L1 R 0 none w a (by omega) Fr.rf h (fun k hk _ => rfl) (fun k hk => by rw [h0] at hk; exact absurd hk (Nat.not_lt_zero k))
  rw [h0] at this
  exact this
end GRID5
