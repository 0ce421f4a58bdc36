def mxL (l : List Nat) : Nat := l.foldl max 0
def mnL (l : List Nat) : Nat := l.foldl min 80
theorem mxL_app (l : List Nat) (x : Nat) : mxL (l ++ [x]) = max (mxL l) x := by simp [mxL, List.foldl_append]
theorem mnL_app (l : List Nat) (x : Nat) : mnL (l ++ [x]) = min (mnL l) x := by simp [mnL, List.foldl_append]
theorem msr_bd (c : Nat → Nat) : ∀ k, (msr c k).1.sum + (msr c k).2 ≤ k ∧ (msr c k).1.length ≤ k ∧ mxL (msr c k).1 ≤ k ∧ mnL (msr c k).1 ≤ 80
  | 0 => by simp [msr, mxL, mnL]
  | k + 1 => by
    obtain ⟨h1, h2, h3, h4⟩ := msr_bd c k
    simp only [msr]
    split
    · simp only [List.sum_append, List.sum_cons, List.sum_nil, List.length_append, List.length_cons, List.length_nil, mxL_app, mnL_app]
      omega
    · split
      · dsimp only
        omega
      · omega
theorem rdv_len (c : Nat → Nat) (k : Nat) : (rdv c k).1.length ≤ (rdv c (k + 1)).1.length := by
  simp only [rdv]
  split
  · exact Nat.le_refl _
  · simp
theorem rdv_mono (c : Nat → Nat) {k n : Nat} (h : k ≤ n) : (rdv c k).1.length ≤ (rdv c n).1.length := by
  induction n with
  | zero => rw [show k = 0 by omega]; exact Nat.le_refl _
  | succ n ih =>
    by_cases hk : k = n + 1
    · rw [hk]; exact Nat.le_refl _
    · exact Nat.le_trans (ih (by omega)) (rdv_len c n)
def wdN (v : Option Nat) (c : Nat) : Nat := match v with
  | none => c - 48
  | some x => if x = 0 then 1000 else x * 10 + (c - 48)
section PAD2
variable {G : sG} {d : Nat} {P : sQ} {w : sW} {p n : Nat} {c : Nat → Nat} {v2 v3 v4 v5 : Int32}
theorem t_withDigit {v : Option Nat} {x : Nat} (hx : isDg x = true) (hv : ∀ y, v = some y → y ≤ 999) (k : P (some (.int (nI (wdN v x)))) w) : wpM G (d + 1) yX4_withDigit (0, 0) [.int (oI v), .int (nI x)] w P := by
  have h1 : 48 ≤ x ∧ x ≤ 57 := by simpa [isDg] using hx
  refine eX4_withDigit ?_
  refine qX4_withDigit_0 ?_
  cases v with
  | none =>
    refine qX4_withDigit_1 (fun _ => ?_) (fun h => absurd h (by decide))
    refine qX4_withDigit_8 ?_
    refine qX4_withDigit_9 ?_
    refine qX4_withDigit_10 (Nat.le_of_ble_eq_true rfl) ?_
    rw [show (if oI none < nI 0 then nI 0 else oI none) = nI 0 by decide]
    refine qX4_withDigit_13 ?_
    first | refine nX4_withDigit_15 ?_ | refine qX4_withDigit_15 ?_
    refine qX4_withDigit_16 ?_
    refine qX4_withDigit_17 ?_
    first | refine nX4_withDigit_19 (by omega) ?_ | refine qX4_withDigit_19 ?_
    first | refine nX4_withDigit_20 ?_ | refine qX4_withDigit_20 ?_
    refine qX4_withDigit_21 ?_
    rw [show 0 * 10 + (x - 48) = wdN none x by simp [wdN]]
    exact k
  | some y =>
    have hy := hv y rfl
    show wp G d mX4_withDigit P 1 [some (.int (nI y)), some (.int (nI x))] [.int (nI y)] w (0, 0)
    have key : y ≠ 0 → wp G d mX4_withDigit P 8 [some (.int (nI y)), some (.int (nI x))] [] w (0, 0) := by
      intro hy0
      refine qX4_withDigit_8 ?_
      refine qX4_withDigit_9 ?_
      refine nX4_withDigit_10 (by omega) (by omega) (Nat.le_of_ble_eq_true rfl) ?_
      refine qX4_withDigit_13 ?_
      first | refine nX4_withDigit_15 ?_ | refine qX4_withDigit_15 ?_
      refine qX4_withDigit_16 ?_
      refine qX4_withDigit_17 ?_
      first | refine nX4_withDigit_19 (by omega) ?_ | refine qX4_withDigit_19 ?_
      first | refine nX4_withDigit_20 ?_ | refine qX4_withDigit_20 ?_
      refine qX4_withDigit_21 ?_
      rw [show max y 0 * 10 + (x - 48) = wdN (some y) x by simp [wdN, hy0]]
      exact k
    refine nX4_withDigit_1 (by omega) (fun h1_1 => ?_) (fun h1_1 => ?_)
    · exact key h1_1
    · refine qX4_withDigit_4 ?_
      refine qX4_withDigit_7 ?_
      rw [show wdN (some y) x = 1000 by simp [wdN, h1_1]] at k
      exact k
theorem t_firstFault (h : pAt G w p n c v2 v3 v4 v5) (hn : n ≤ 80) (hc : ∀ k, c k < 256) (k : P (some (.int (fI (fF c n 0 none)))) w) : wpM G (d + 2) yX4_firstFault (0, 0) [.ref p] w P := by
  obtain ⟨x1, x2⟩ := id h
  refine eX4_firstFault ?_
  refine qX4_firstFault_0 ?_
  refine qX4_firstFault_1 ?_
  refine qX4_firstFault_2 ?_
  refine qX4_firstFault_3 ?_
  have L : ∀ m i v (l3 : Option Value), i + m = n → (∀ y, v = some y → y ≤ 999) → fF c n 0 none = fF c m i v → wp G (d + 1) mX4_firstFault P 4 [some (.ref p), some (.int (oI v)), some (.int (nI i)), l3] [] w (0, 0) := by
    intro m
    induction m with
    | zero =>
      intro i v l3 hi hv he
      have hin : i = n := by omega
      subst hin
      rw [he] at k
      refine qX4_firstFault_4 ?_
      refine qX4_firstFault_5 ?_
      refine qX4_firstFault_6 (by assumption) ?_
      refine nX4_firstFault_9 (by omega) (by omega) (fun h9 => ?_) (fun h9 => by exfalso; omega)
      refine qX4_firstFault_71 ?_
      refine qX4_firstFault_72 ?_
      cases v with
      | none =>
        refine qX4_firstFault_73 (fun h => absurd rfl h) (fun _ => ?_)
        refine qX4_firstFault_76 ?_
        refine qX4_firstFault_77 (by assumption) ?_
        refine qX4_firstFault_80 ?_
        refine qX4_firstFault_85 ?_
        exact k
      | some y =>
        have hy := hv y rfl
        refine qX4_firstFault_73 (fun _ => ?_) (fun h => ?_)
        · refine qX4_firstFault_83 ?_
          refine qX4_firstFault_85 ?_
          exact k
        · exfalso
          have h2 : nI y = iZ (-1) := h
          rw [nI_Z, iZ_eq ⟨by omega, by omega⟩ ⟨by omega, by omega⟩] at h2
          omega
    | succ m ih =>
      intro i v l3 hi hv he
      have hci := hc i
      simp only [fF] at he
      refine qX4_firstFault_4 ?_
      refine qX4_firstFault_5 ?_
      refine qX4_firstFault_6 (by assumption) ?_
      refine nX4_firstFault_9 (by omega) (by omega) (fun h9 => by exfalso; omega) (fun h9 => ?_)
      refine qX4_firstFault_12 ?_
      refine qX4_firstFault_13 (by assumption) ?_
      refine qX4_firstFault_16 ?_
      refine nX4_firstFault_17 x2 (by omega) (by decide) ?_
      show wp G (d + 1) mX4_firstFault P 18 [some (.ref p), some (.int (oI v)), some (.int (nI i)), l3] [.int (nI (c i))] w (0, 0)
      refine qX4_firstFault_18 ?_
      refine qX4_firstFault_19 ?_
      refine qX4_firstFault_20 (Nat.le_of_ble_eq_true rfl) (t_isDigit (by omega) (fun hd => ?_) (fun hd => ?_))
      · rw [if_pos hd] at he
        refine nX4_firstFault_23 (by omega) (fun h23 => by exfalso; omega) (fun h23 => ?_)
        refine qX4_firstFault_26 ?_
        refine qX4_firstFault_27 ?_
        refine qX4_firstFault_28 (Nat.le_of_ble_eq_true rfl) (t_withDigit hd hv ?_)
        have hd2 : 48 ≤ c i ∧ c i ≤ 57 := by simpa [isDg] using hd
        have hw : wdN v (c i) ≤ 20000 := by
          cases v with
          | none => simp only [wdN]; omega
          | some y =>
            have := hv y rfl
            simp only [wdN]
            split <;> omega
        refine qX4_firstFault_31 ?_
        refine qX4_firstFault_32 ?_
        refine qX4_firstFault_33 ?_
        refine nX4_firstFault_36 (by omega) (by omega) (fun h36 => ?_) (fun h36 => ?_)
        · first | refine nX4_firstFault_65 ?_ | refine qX4_firstFault_65 ?_
          refine qX4_firstFault_68 ?_
          refine ih (i + 1) (some (wdN v (c i))) _ (by omega) (fun y hy => by cases hy; exact h36) ?_
          rw [he]
          cases v with
          | none => rfl
          | some y =>
            simp only [wdN] at h36 ⊢
            by_cases hy : y = 0
            · rw [if_pos hy] at h36; omega
            · rw [if_neg hy] at h36 ⊢
              rw [if_neg (by omega)]
        · refine qX4_firstFault_39 ?_
          refine qX4_firstFault_40 ?_
          have hk : fF c n 0 none = some i := by
            rw [he]
            cases v with
            | none => simp only [wdN] at h36; omega
            | some y =>
              simp only [wdN] at h36
              by_cases hy : y = 0
              · simp [hy]
              · rw [if_neg hy] at h36
                simp only
                rw [if_pos (Or.inr h36)]
          rw [hk] at k
          exact k
      · rw [if_neg (by rw [hd]; decide)] at he
        refine nX4_firstFault_23 (by omega) (fun h23 => ?_) (fun h23 => by exfalso; omega)
        refine qX4_firstFault_41 ?_
        refine qX4_firstFault_42 ?_
        cases v with
        | none =>
          refine qX4_firstFault_43 (fun _ => ?_) (fun h => absurd rfl h)
          refine qX4_firstFault_63 ?_
          refine qX4_firstFault_64 ?_
          rw [he] at k
          exact k
        | some y =>
          have hy := hv y rfl
          refine qX4_firstFault_43 (fun h => ?_) (fun _ => ?_)
          · exfalso
            have h2 : nI y = iZ (-1) := h
            rw [nI_Z, iZ_eq ⟨by omega, by omega⟩ ⟨by omega, by omega⟩] at h2
            omega
          · refine qX4_firstFault_46 ?_
            refine qX4_firstFault_47 ?_
            refine nX4_firstFault_49 (by omega) (by omega) (fun h49 => ?_) (fun h49 => ?_)
            · simp only at he
              rw [if_pos (Or.inl h49)] at he
              refine qX4_firstFault_58 ?_
              refine qX4_firstFault_59 ?_
              refine qX4_firstFault_60 ?_
              first | refine nX4_firstFault_65 ?_ | refine qX4_firstFault_65 ?_
              refine qX4_firstFault_68 ?_
              exact ih (i + 1) none _ (by omega) (fun y hy => by cases hy) he
            · refine qX4_firstFault_52 ?_
              refine qX4_firstFault_53 ?_
              refine nX4_firstFault_55 (by omega) (by omega) (fun h55 => ?_) (fun h55 => ?_)
              · refine qX4_firstFault_63 ?_
                refine qX4_firstFault_64 ?_
                simp only at he
                rw [if_neg (by omega)] at he
                rw [he] at k
                exact k
              · simp only at he
                rw [if_pos (Or.inr h55)] at he
                refine qX4_firstFault_58 ?_
                refine qX4_firstFault_59 ?_
                refine qX4_firstFault_60 ?_
                first | refine nX4_firstFault_65 ?_ | refine qX4_firstFault_65 ?_
                refine qX4_firstFault_68 ?_
                exact ih (i + 1) none _ (by omega) (fun y hy => by cases hy) he
  exact L n 0 none _ (by omega) (fun y hy => by cases hy) rfl
theorem t_measure (h : pAt G w p n c v2 v3 v4 v5) (hn : n ≤ 80) (hc : ∀ k, c k < 256) (k : ∀ w', Fr w w' (fun q => q = p) → pAt G w' p n c (nI (lnS c n).length) (nI (lnS c n).sum) (nI (mxL (lnS c n))) (nI (mnL (lnS c n))) → P none w') : wpM G (d + 1) yX4_measure (0, 0) [.ref p] w P := by
  obtain ⟨x1, x2⟩ := id h
  refine eX4_measure ?_
  refine qX4_measure_0 ?_
  refine qX4_measure_1 ?_
  refine qX4_measure_2 (by assumption) ?_
  generalize hw1 : s_up w p (ob 3 [.ref (p + 1), .int (nI n), .int (nI 0), .int v3, .int v4, .int v5]) = w1
  have y1 : w1.1 p = ob 3 [.ref (p + 1), .int (nI n), .int (nI 0), .int v3, .int v4, .int v5] := by rw [← hw1]; exact s_upS
  refine qX4_measure_5 ?_
  refine qX4_measure_6 ?_
  refine qX4_measure_7 (by assumption) ?_
  generalize hw2 : s_up w1 p (ob 3 [.ref (p + 1), .int (nI n), .int (nI 0), .int (nI 0), .int v4, .int v5]) = w2
  have y2 : w2.1 p = ob 3 [.ref (p + 1), .int (nI n), .int (nI 0), .int (nI 0), .int v4, .int v5] := by rw [← hw2]; exact s_upS
  refine qX4_measure_10 ?_
  refine qX4_measure_11 ?_
  refine qX4_measure_12 (by assumption) ?_
  generalize hw3 : s_up w2 p (ob 3 [.ref (p + 1), .int (nI n), .int (nI 0), .int (nI 0), .int (nI 0), .int v5]) = w3
  have y3 : w3.1 p = ob 3 [.ref (p + 1), .int (nI n), .int (nI 0), .int (nI 0), .int (nI 0), .int v5] := by rw [← hw3]; exact s_upS
  refine qX4_measure_15 ?_
  refine qX4_measure_16 ?_
  refine qX4_measure_18 (by assumption) ?_
  refine qX4_measure_21 ?_
  refine qX4_measure_22 ?_
  refine qX4_measure_23 ?_
  refine qX4_measure_24 ?_
  generalize hw4 : s_up w3 p (ob 3 [.ref (p + 1), .int (nI n), .int (nI 0), .int (nI 0), .int (nI 0), .int (nI 80)]) = w4
  have hF4 : Fr w w4 (fun q => q = p) := by
    rw [← hw4, ← hw3, ← hw2, ← hw1]
    exact ((((Fr.rf (S := fun q => q = p)).up rfl).up rfl).up rfl).up rfl
  have hp4 : pAt G w4 p n c (nI 0) (nI 0) (nI 0) (nI 80) := ⟨by rw [← hw4]; exact s_upS, by rw [hF4.2 _ (by omega)]; exact x2⟩
  have key : ∀ (m i : Nat) (l : List Nat) (q : Nat) (w' : sW), i + m = n → msr c i = (l, q) → Fr w w' (fun q => q = p) → pAt G w' p n c (nI l.length) (nI l.sum) (nI (mxL l)) (nI (mnL l)) → wp G d mX4_measure P 25 [some (.ref p), some (.int (nI (q + 1))), some (.int (nI i))] [] w' (0, 0) := by
    have close : ∀ (i : Nat) (l : List Nat) (q : Nat) (w' : sW), i ≤ n → l.sum + q ≤ i ∧ l.length ≤ i ∧ mxL l ≤ i ∧ mnL l ≤ 80 → Fr w w' (fun q => q = p) → pAt G w' p n c (nI l.length) (nI l.sum) (nI (mxL l)) (nI (mnL l)) → (∀ w'', Fr w w'' (fun q => q = p) → pAt G w'' p n c (nI (l ++ [q + 1]).length) (nI (l ++ [q + 1]).sum) (nI (mxL (l ++ [q + 1]))) (nI (mnL (l ++ [q + 1]))) → wp G d mX4_measure P 25 [some (.ref p), some (.int (nI 1)), some (.int (nI (i + 1)))] [] w'' (0, 0)) → wp G d mX4_measure P 52 [some (.ref p), some (.int (nI (q + 1))), some (.int (nI i))] [] w' (0, 0) := by
      intro i l q w' hi hb hF hw kk
      obtain ⟨z1, z2⟩ := id hw
      obtain ⟨b1, b2, b3, b4⟩ := hb
      refine qX4_measure_52 ?_
      refine qX4_measure_53 rfl ?_
      refine qX4_measure_54 (by assumption) ?_
      refine qX4_measure_57 ?_
      first | refine nX4_measure_58 ?_ | refine qX4_measure_58 ?_
      refine qX4_measure_59 (by assumption) ?_
      generalize hw1 : s_up w' p (ob 3 [.ref (p + 1), .int (nI n), .int (nI (l.length + 1)), .int (nI l.sum), .int (nI (mxL l)), .int (nI (mnL l))]) = w1
      have y1 : w1.1 p = ob 3 [.ref (p + 1), .int (nI n), .int (nI (l.length + 1)), .int (nI l.sum), .int (nI (mxL l)), .int (nI (mnL l))] := by rw [← hw1]; exact s_upS
      refine qX4_measure_62 ?_
      refine qX4_measure_63 rfl ?_
      refine qX4_measure_64 (by assumption) ?_
      refine qX4_measure_67 ?_
      first | refine nX4_measure_68 ?_ | refine qX4_measure_68 ?_
      refine qX4_measure_69 (by assumption) ?_
      generalize hw2 : s_up w1 p (ob 3 [.ref (p + 1), .int (nI n), .int (nI (l.length + 1)), .int (nI (l.sum + (q + 1))), .int (nI (mxL l)), .int (nI (mnL l))]) = w2
      have y2 : w2.1 p = ob 3 [.ref (p + 1), .int (nI n), .int (nI (l.length + 1)), .int (nI (l.sum + (q + 1))), .int (nI (mxL l)), .int (nI (mnL l))] := by rw [← hw2]; exact s_upS
      refine qX4_measure_72 ?_
      refine qX4_measure_73 ?_
      refine qX4_measure_74 (by assumption) ?_
      refine qX4_measure_77 ?_
      refine nX4_measure_78 (by omega) (by omega) (Nat.le_of_ble_eq_true rfl) ?_
      refine qX4_measure_81 (by assumption) ?_
      generalize hw3 : s_up w2 p (ob 3 [.ref (p + 1), .int (nI n), .int (nI (l.length + 1)), .int (nI (l.sum + (q + 1))), .int (nI (max (mxL l) (q + 1))), .int (nI (mnL l))]) = w3
      have y3 : w3.1 p = ob 3 [.ref (p + 1), .int (nI n), .int (nI (l.length + 1)), .int (nI (l.sum + (q + 1))), .int (nI (max (mxL l) (q + 1))), .int (nI (mnL l))] := by rw [← hw3]; exact s_upS
      refine qX4_measure_84 ?_
      refine qX4_measure_85 ?_
      refine qX4_measure_86 (by assumption) ?_
      refine qX4_measure_89 ?_
      refine nX4_measure_90 (by omega) (by omega) (Nat.le_of_ble_eq_true rfl) ?_
      refine qX4_measure_93 (by assumption) ?_
      refine qX4_measure_96 ?_
      refine qX4_measure_97 ?_
      refine qX4_measure_98 ?_
      first | refine nX4_measure_115 ?_ | refine qX4_measure_115 ?_
      refine qX4_measure_118 ?_
      have hF4 : Fr w (s_up w3 p (ob 3 [.ref (p + 1), .int (nI n), .int (nI (l.length + 1)), .int (nI (l.sum + (q + 1))), .int (nI (max (mxL l) (q + 1))), .int (nI (min (mnL l) (q + 1)))])) (fun q => q = p) := by
        rw [← hw3, ← hw2, ← hw1]
        exact (((hF.up rfl).up rfl).up rfl).up rfl
      refine kk _ hF4 ⟨?_, by rw [hF4.2 _ (by omega)]; exact x2⟩
      rw [s_upS, mxL_app, mnL_app]
      simp
    intro m
    induction m with
    | zero =>
      intro i l q w' hi hm hF hw
      have hin : i = n := by omega
      subst hin
      obtain ⟨z1, z2⟩ := id hw
      have hb := msr_bd c i
      rw [hm] at hb
      refine qX4_measure_25 ?_
      refine qX4_measure_26 ?_
      refine qX4_measure_27 (by assumption) ?_
      refine nX4_measure_30 (by omega) (by omega) (fun h30 => by exfalso; omega) (fun h30 => ?_)
      refine qX4_measure_33 ?_
      refine qX4_measure_34 ?_
      refine qX4_measure_35 (by assumption) ?_
      refine nX4_measure_38 (by omega) (by omega) (fun h38 => ?_) (fun h38 => by exfalso; omega)
      refine close i l q w' (Nat.le_refl _) hb hF hw (fun w'' hF' hw' => ?_)
      obtain ⟨u1, u2⟩ := id hw'
      refine qX4_measure_25 ?_
      refine qX4_measure_26 ?_
      refine qX4_measure_27 (by assumption) ?_
      refine nX4_measure_30 (by omega) (by omega) (fun h30 => ?_) (fun h30 => by exfalso; omega)
      refine qX4_measure_121 ?_
      refine k w'' hF' ?_
      simp only [lnS, hm]
      exact hw'
    | succ m ih =>
      intro i l q w' hi hm hF hw
      obtain ⟨z1, z2⟩ := id hw
      have hb := msr_bd c i
      have hci := hc i
      rw [hm] at hb
      refine qX4_measure_25 ?_
      refine qX4_measure_26 ?_
      refine qX4_measure_27 (by assumption) ?_
      refine nX4_measure_30 (by omega) (by omega) (fun h30 => by exfalso; omega) (fun h30 => ?_)
      refine qX4_measure_33 ?_
      refine qX4_measure_34 ?_
      refine qX4_measure_35 (by assumption) ?_
      refine nX4_measure_38 (by omega) (by omega) (fun h38 => by exfalso; omega) (fun h38 => ?_)
      refine qX4_measure_41 ?_
      refine qX4_measure_42 (by assumption) ?_
      refine qX4_measure_45 ?_
      refine nX4_measure_46 z2 (by omega) (by decide) ?_
      show wp G d mX4_measure P 47 [some (.ref p), some (.int (nI (q + 1))), some (.int (nI i))] [.int (nI (c i))] w' (0, 0)
      refine qX4_measure_47 ?_
      refine nX4_measure_49 (by omega) (by omega) (fun h49 => ?_) (fun h49 => ?_)
      · refine qX4_measure_101 ?_
        refine qX4_measure_102 (by assumption) ?_
        refine qX4_measure_105 ?_
        refine nX4_measure_106 z2 (by omega) (by decide) ?_
        show wp G d mX4_measure P 107 [some (.ref p), some (.int (nI (q + 1))), some (.int (nI i))] [.int (nI (c i))] w' (0, 0)
        refine qX4_measure_107 ?_
        refine nX4_measure_109 (by omega) (by omega) (fun h109 => ?_) (fun h109 => ?_)
        · first | refine nX4_measure_115 ?_ | refine qX4_measure_115 ?_
          refine qX4_measure_118 ?_
          exact ih (i + 1) l q w' (by omega) (by simp only [msr]; rw [if_neg h49, if_neg h109, hm]) hF hw
        · first | refine nX4_measure_112 ?_ | refine qX4_measure_112 ?_
          first | refine nX4_measure_115 ?_ | refine qX4_measure_115 ?_
          refine qX4_measure_118 ?_
          exact ih (i + 1) l (q + 1) w' (by omega) (by simp only [msr]; rw [if_neg h49, if_pos h109, hm]) hF hw
      · refine close i l q w' (by omega) hb hF hw (fun w'' hF' hw' => ?_)
        exact ih (i + 1) (l ++ [q + 1]) 0 w'' (by omega) (by simp only [msr]; rw [if_pos h49, hm]) hF' hw'
  exact key n 0 [] 0 w4 (by omega) rfl hF4 hp4
theorem t_readInto {g e R0 C0 r q : Nat} {a0 : Nat → Nat} (h : pAt G w p n c (nI r) v3 (nI q) v5) (hg : gAt G w g e R0 C0 a0) (hn : n ≤ 80) (hc : ∀ k, c k < 256) (hl : (vlS c n).length ≤ 12) (hd1 : e ≠ p + 1) (hd2 : g ≠ p) (k : ∀ w' a', Fr w w' (sGE g e) → gAt G w' g e r q a' → (∀ j, j < (vlS c n).length → a' j = (vlS c n).getD j 0) → P none w') : wpM G (d + 2) yX4_readInto (0, 0) [.ref p, .ref g] w P := by
  obtain ⟨x1, x2⟩ := id h
  obtain ⟨g1, g2⟩ := id hg
  have hd3 : g ≠ p + 1 := fun z => by rw [z, x2] at g1; cases g1
  have hd4 : e ≠ p := fun z => by rw [z, x1] at g2; cases g2
  refine eX4_readInto ?_
  refine qX4_readInto_0 ?_
  refine qX4_readInto_1 ?_
  refine qX4_readInto_2 (by assumption) ?_
  refine qX4_readInto_5 ?_
  refine qX4_readInto_6 (by assumption) ?_
  refine qX4_readInto_9 (by assumption) (Nat.le_of_ble_eq_true rfl) (t_reshape g1 ?_)
  have hg' := hg.upG (R' := r) (C' := q)
  refine qX4_readInto_12 ?_
  refine qX4_readInto_13 ?_
  refine qX4_readInto_14 ?_
  refine qX4_readInto_15 ?_
  refine qX4_readInto_16 ?_
  refine qX4_readInto_17 ?_
  have hl1 : (rdv c n).1.length + 1 ≤ 12 := by simpa [vlS] using hl
  have key : ∀ (m i : Nat) (V : List Nat) (v : Nat) (w' : sW) (a' : Nat → Nat), i + m = n → rdv c i = (V, v) → Fr w w' (sGE g e) → gAt G w' g e r q a' → (∀ j, j < V.length → a' j = V.getD j 0) → wp G (d + 1) mX4_readInto P 19 [some (.ref p), some (.ref g), some (.int (nI V.length)), some (.int (nI v)), some (.int (nI i))] [] w' (0, 0) := by
    have close : ∀ (i : Nat) (V : List Nat) (v : Nat) (w' : sW) (a' : Nat → Nat), V.length + 1 ≤ 12 → Fr w w' (sGE g e) → gAt G w' g e r q a' → (∀ j, j < V.length → a' j = V.getD j 0) → (∀ w'' a'', Fr w w'' (sGE g e) → gAt G w'' g e r q a'' → (∀ j, j < (V ++ [v]).length → a'' j = (V ++ [v]).getD j 0) → wp G (d + 1) mX4_readInto P 19 [some (.ref p), some (.ref g), some (.int (nI (V ++ [v]).length)), some (.int (nI 0)), some (.int (nI (i + 1)))] [] w'' (0, 0)) → wp G (d + 1) mX4_readInto P 69 [some (.ref p), some (.ref g), some (.int (nI V.length)), some (.int (nI v)), some (.int (nI i))] [] w' (0, 0) := by
      intro i V v w' a' hV hF hw hq kk
      obtain ⟨z1, z2⟩ := id hw
      refine qX4_readInto_69 ?_
      refine qX4_readInto_70 ?_
      refine nX4_readInto_72 (by omega) (by omega) (fun h72 => by exfalso; omega) (fun h72 => ?_)
      refine qX4_readInto_75 ?_
      refine qX4_readInto_76 (by assumption) ?_
      refine qX4_readInto_79 ?_
      refine qX4_readInto_80 ?_
      first | refine fX4_readInto_81 (by assumption) (by omega) (by decide) ?_ | refine nX4_readInto_81 (by assumption) (by omega) (by decide) ?_
      first | refine nX4_readInto_82 ?_ | refine qX4_readInto_82 ?_
      refine qX4_readInto_85 ?_
      refine qX4_readInto_86 ?_
      first | refine nX4_readInto_87 ?_ | refine qX4_readInto_87 ?_
      refine qX4_readInto_90 ?_
      rw [show V.length + 1 = (V ++ [v]).length by simp]
      refine kk _ _ (hF.up (Or.inr rfl)) hw.upE (fun j hj => ?_)
      have hj2 : j < V.length + 1 := by simpa using hj
      by_cases hj3 : j = V.length
      · subst hj3
        rw [updN_s]
        simp [List.getD_eq_getElem?_getD]
      · rw [updN_n hj3, hq j (by omega)]
        simp only [List.getD_eq_getElem?_getD]
        rw [List.getElem?_append_left (by omega)]
    intro m
    induction m with
    | zero =>
      intro i V v w' a' hi hr hF hw hq
      have hin : i = n := by omega
      subst hin
      have hp : pAt G w' p i c (nI r) v3 (nI q) v5 := h.fr hF (fun z => z.elim (fun z => hd2 z.symm) (fun z => hd4 z.symm)) (fun z => z.elim (fun z => hd3 z.symm) (fun z => hd1 z.symm))
      obtain ⟨z1, z2⟩ := id hp
      rw [hr] at hl1
      refine qX4_readInto_19 ?_
      refine qX4_readInto_21 ?_
      refine qX4_readInto_22 (by assumption) ?_
      refine nX4_readInto_25 (by omega) (by omega) (fun h25 => by exfalso; omega) (fun h25 => ?_)
      refine qX4_readInto_28 ?_
      refine qX4_readInto_30 ?_
      refine qX4_readInto_31 (by assumption) ?_
      refine nX4_readInto_34 (by omega) (by omega) (fun h34 => ?_) (fun h34 => by exfalso; omega)
      refine close i V v w' a' hl1 hF hw hq (fun w'' a'' hF' hw' hq' => ?_)
      have hp' : pAt G w'' p i c (nI r) v3 (nI q) v5 := h.fr hF' (fun z => z.elim (fun z => hd2 z.symm) (fun z => hd4 z.symm)) (fun z => z.elim (fun z => hd3 z.symm) (fun z => hd1 z.symm))
      obtain ⟨u1, u2⟩ := id hp'
      refine qX4_readInto_19 ?_
      refine qX4_readInto_21 ?_
      refine qX4_readInto_22 (by assumption) ?_
      refine nX4_readInto_25 (by omega) (by omega) (fun h25 => ?_) (fun h25 => by exfalso; omega)
      refine qX4_readInto_93 ?_
      refine k w'' a'' hF' hw' ?_
      simp only [vlS, hr]
      exact hq'
    | succ m ih =>
      intro i V v w' a' hi hr hF hw hq
      have hp : pAt G w' p n c (nI r) v3 (nI q) v5 := h.fr hF (fun z => z.elim (fun z => hd2 z.symm) (fun z => hd4 z.symm)) (fun z => z.elim (fun z => hd3 z.symm) (fun z => hd1 z.symm))
      obtain ⟨z1, z2⟩ := id hp
      have hci := hc i
      have hmo := rdv_mono c (show i ≤ n by omega)
      rw [hr] at hmo
      refine qX4_readInto_19 ?_
      refine qX4_readInto_21 ?_
      refine qX4_readInto_22 (by assumption) ?_
      refine nX4_readInto_25 (by omega) (by omega) (fun h25 => by exfalso; omega) (fun h25 => ?_)
      refine qX4_readInto_28 ?_
      refine qX4_readInto_30 ?_
      refine qX4_readInto_31 (by assumption) ?_
      refine nX4_readInto_34 (by omega) (by omega) (fun h34 => by exfalso; omega) (fun h34 => ?_)
      refine qX4_readInto_37 ?_
      refine qX4_readInto_38 (by assumption) ?_
      refine qX4_readInto_41 ?_
      refine nX4_readInto_43 z2 (by omega) (by decide) ?_
      show wp G (d + 1) mX4_readInto P 44 [some (.ref p), some (.ref g), some (.int (nI V.length)), some (.int (nI v)), some (.int (nI i))] [.int (nI (c i))] w' (0, 0)
      refine qX4_readInto_44 (Nat.le_of_ble_eq_true rfl) (t_isDigit (by omega) (fun hd => ?_) (fun hd => ?_))
      · have hd2 : 48 ≤ c i ∧ c i ≤ 57 := by simpa [isDg] using hd
        refine nX4_readInto_47 (by omega) (fun h47 => by exfalso; omega) (fun h47 => ?_)
        refine qX4_readInto_50 ?_
        refine qX4_readInto_51 ?_
        first | refine nX4_readInto_53 ?_ | refine qX4_readInto_53 ?_
        refine qX4_readInto_54 ?_
        refine qX4_readInto_55 (by assumption) ?_
        refine qX4_readInto_58 ?_
        refine nX4_readInto_60 z2 (by omega) (by decide) ?_
        show wp G (d + 1) mX4_readInto P 61 [some (.ref p), some (.ref g), some (.int (nI V.length)), some (.int (nI v)), some (.int (nI i))] [.int (nI (c i)), .int (nI (v * 10))] w' (0, 0)
        refine qX4_readInto_61 ?_
        first | refine nX4_readInto_63 (by omega) ?_ | refine qX4_readInto_63 ?_
        first | refine nX4_readInto_64 ?_ | refine qX4_readInto_64 ?_
        refine qX4_readInto_65 ?_
        refine qX4_readInto_66 ?_
        first | refine nX4_readInto_87 ?_ | refine qX4_readInto_87 ?_
        refine qX4_readInto_90 ?_
        exact ih (i + 1) V (v * 10 + (c i - 48)) w' a' (by omega) (by simp only [rdv]; rw [if_pos hd, hr]) hF hw hq
      · refine nX4_readInto_47 (by omega) (fun h47 => ?_) (fun h47 => by exfalso; omega)
        refine close i V v w' a' (by dsimp only at hmo; omega) hF hw hq (fun w'' a'' hF' hw' hq' => ?_)
        exact ih (i + 1) (V ++ [v]) 0 w'' a'' (by omega) (by simp only [rdv]; rw [if_neg (by rw [hd]; decide), hr]) hF' hw' hq'
  exact key n 0 [] 0 _ a0 (by omega) rfl (Fr.rf.up (Or.inl rfl)) hg' (fun j hj => absurd hj (Nat.not_lt_zero j))
end PAD2
