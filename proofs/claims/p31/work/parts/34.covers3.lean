theorem goW_pl {R C : Nat} {a : Nat → Nat} (rows : Nat) : ∀ m, m ≤ R → ∀ cols sum pl, pl < 2 ^ (R * C) → ∀ x ∈ goW R C a rows m cols sum pl, x.2 < 2 ^ (R * C)
  | 0, _, _, _, pl, hp => by
    intro x hx
    simp only [goW, List.mem_singleton] at hx
    rw [hx]
    exact hp
  | m + 1, hm, cols, sum, pl, hp => by
    intro x hx
    simp only [goW] at hx
    split at hx
    · exact goW_pl rows m (by omega) cols sum pl hp x hx
    · rw [List.mem_flatMap] at hx
      obtain ⟨c, hc, hx⟩ := hx
      rw [List.mem_range] at hc
      split at hx
      · refine goW_pl rows m (by omega) _ _ _ ?_ x hx
        refine Nat.or_lt_two_pow hp ?_
        rw [Nat.one_shiftLeft]
        refine Nat.pow_lt_pow_right (by decide) ?_
        have h1 : (R - (m + 1) + 1) * C ≤ R * C := Nat.mul_le_mul_right C (by omega)
        rw [Nat.succ_mul] at h1
        omega
      · simp at hx
theorem pv_lt {R C : Nat} {a : Nat → Nat} {r c : Nat} (i : Nat) : pv (wysL R C a r c) i < 2 ^ (R * C) := by
  have h := goW_pl (R := R) (C := C) (a := a) r R (Nat.le_refl R) c 0 0 (Nat.two_pow_pos _)
  simp only [pv, wysL, List.getD_eq_getElem?_getD]
  cases hq : (goW R C a r R c 0 0)[i]? with
  | none => exact Nat.two_pow_pos _
  | some x => exact h x (List.mem_of_getElem? hq)
/-- the sets that are marked: by a part, by the parts of some rows, by all parts -/
def u0S (R C : Nat) (a : Nat → Nat) (r c : Nat) (U : Nat → Bool) : Nat → Bool := fun S => U S || (bcN r == bcN c && mkO (wysL R C a r c) (wysL R C a r c).length S)
def u0C (R C : Nat) (a : Nat → Nat) (r : Nat) (U : Nat → Bool) : Nat → Nat → Bool
  | 0 => U
  | n + 1 => u0S R C a r (n + 1) (u0C R C a r U n)
def u0R (R C : Nat) (a : Nat → Nat) : Nat → Nat → Bool
  | 0 => fun _ => false
  | n + 1 => u0C R C a (n + 1) (u0R R C a n) (2 ^ C - 1)
def untN (R C : Nat) (a : Nat → Nat) : Nat → Bool := clo (u0R R C a (2 ^ R - 1)) (R * C)
/-- the most members of a set that is not marked -/
def grS (U : Nat → Bool) : Nat → Nat
  | 0 => 0
  | n + 1 => if grS U n < bcN n ∧ U n = false then bcN n else grS U n
theorem grS_le {U : Nat → Bool} : ∀ n, grS U n ≤ 12
  | 0 => by simp [grS]
  | n + 1 => by
    simp only [grS]
    have := bcN_le n
    split
    · exact this
    · exact grS_le n
section COVERS3
variable {G : sG} {d : Nat} {P : sQ} {w : sW} {g e R C : Nat} {a : Nat → Nat} {v n y : Nat} {U : Nat → Bool} {fr pw : Nat → Nat}
set_option maxHeartbeats 1000000 in
theorem t_cstudy {L : List (Nat × Nat)} (hd : okD R C) (ha : ∀ k, k < R * C → a k ≤ 999) (h : gAt G w g e R C a) (hw : wyAt G w y L) (hc : cvAt G w v n U fr pw) (hy : y + 3 ≤ g ∨ g < y) (hy2 : y + 3 ≤ e ∨ e < y) (hyv : v + 4 ≤ y ∨ y + 3 ≤ v) (hvg : g < v ∨ v + 4 ≤ g) (hve : e < v ∨ v + 4 ≤ e) (k : ∀ w' L', Fr w w' (fun q => s3 y q ∨ s4 v q) → wyAt G w' y L' → cvAt G w' v (R * C) (untN R C a) fr pw → P none w') : wpM G (d + 12) yX1_study (0, 0) [.ref v, .ref g, .ref y] w P := by
  have d1 := hd.2.1
  have d2 := hd.2.2.2.1
  have d3 := hd.2.2.2.2
  have hp5 : ∀ n, n < 5 → 1 <<< n = 2 ^ n ∧ 1 * 2 ^ n ≤ 16 ∧ 1 ≤ 2 ^ n := by decide
  obtain ⟨qR1, qR2, qR3⟩ := hp5 R (by omega)
  obtain ⟨qC1, qC2, qC3⟩ := hp5 C (by omega)
  have h12 : 2 ^ (R * C) ≤ 4096 := Nat.pow_le_pow_right (n := 2) (by decide) (show R * C ≤ 12 by omega)
  obtain ⟨f0, x1, x2, x3, x4, x5⟩ := id hc
  refine eX1_study ?_
  obtain ⟨z1, z2⟩ := id h
  refine qX1_study_0 ?_
  refine qX1_study_1 ?_
  refine qX1_study_2 (by assumption) (Nat.le_of_ble_eq_true rfl) (t_size h ?_)
  refine qX1_study_5 (by assumption) ?_
  refine qX1_study_8 ?_
  refine qX1_study_9 ?_
  generalize hw1 : s_up w v _ = w1
  have hF1 : Fr w w1 (s4 v) := by rw [← hw1]; exact Fr.rf.up ⟨by omega, by omega⟩
  have hF1' : Fr w w1 (fun q => s3 y q ∨ s4 v q) := hF1.mono (fun q hq => Or.inr hq)
  have hc1 : cvAt G w1 v (R * C) (fun S => if S / 64 < 0 then false else U S) fr pw := ⟨f0, by rw [← hw1]; exact s_upS, by rw [← hw1, s_upN (by omega)]; exact x2, by rw [← hw1, s_upN (by omega)]; exact x3, by rw [← hw1, s_upN (by omega)]; exact x4, fun i t hi ht => (x5 i t hi ht).trans (if_neg (Nat.not_lt_zero _)).symm⟩
  have gF : ∀ w', Fr w w' (fun q => s3 y q ∨ s4 v q) → gAt G w' g e R C a := fun w' hF => h.fr hF (fun z => by
    rcases z with z | z
    · have := z.1; have := z.2; omega
    · have := z.1; have := z.2; omega) (fun z => by
    rcases z with z | z
    · have := z.1; have := z.2; omega
    · have := z.1; have := z.2; omega)
  have hwy1 : wyAt G w1 y L := hw.fr hF1 (fun q a1 a2 z => by have := z.1; have := z.2; omega)
  have L1 : ∀ m i (w' : sW) (L' : List (Nat × Nat)) (l4 : Option Value), i + m = 2 ^ R - 1 → Fr w w' (fun q => s3 y q ∨ s4 v q) → wyAt G w' y L' → cvAt G w' v (R * C) (u0R R C a i) fr pw → wp G (d + 11) mX1_study P 31 [some (.ref v), some (.ref g), some (.ref y), some (.int (nI (i + 1))), l4] [] w' (0, 0) := by
    intro m
    induction m with
    | zero =>
      intro i w' L' l4 hi hF hwy hcv
      have hg := gF w' hF
      obtain ⟨x1, x2⟩ := id hg
      refine qX1_study_31 ?_
      refine qX1_study_32 ?_
      refine qX1_study_33 ?_
      refine qX1_study_34 (by assumption) ?_
      refine nX1_study_37 (by omega) (by omega) ?_
      rw [qR1]
      refine nX1_study_38 (by omega) (by omega) (fun h38 => ?_) (fun h38 => by exfalso; omega)
      refine qX1_study_90 ?_
      obtain ⟨f9, m1, m2⟩ := id hcv
      refine qX1_study_91 (by assumption) (Nat.le_of_ble_eq_true rfl) (t_markSupersets hcv d3 (fun w'' hF' hcv' => ?_))
      refine qX1_study_94 ?_
      exact k w'' L' (hF.tr hF' (fun q hq => Or.inr hq)) (hwy.fr hF' (fun q a1 a2 z => by have := z.1; have := z.2; omega)) (by unfold untN; rw [show 2 ^ R - 1 = i by omega]; exact hcv')
    | succ m ih =>
      intro i w' L' l4 hi hF hwy hcv
      have hg := gF w' hF
      obtain ⟨x1, x2⟩ := id hg
      refine qX1_study_31 ?_
      refine qX1_study_32 ?_
      refine qX1_study_33 ?_
      refine qX1_study_34 (by assumption) ?_
      refine nX1_study_37 (by omega) (by omega) ?_
      rw [qR1]
      refine nX1_study_38 (by omega) (by omega) (fun h38 => by exfalso; omega) (fun h38 => ?_)
      refine qX1_study_41 ?_
      refine qX1_study_42 ?_
      have L2 : ∀ n j (w' : sW) (L' : List (Nat × Nat)), j + n = 2 ^ C - 1 → Fr w w' (fun q => s3 y q ∨ s4 v q) → wyAt G w' y L' → cvAt G w' v (R * C) (u0C R C a (i + 1) (u0R R C a i) j) fr pw → wp G (d + 11) mX1_study P 44 [some (.ref v), some (.ref g), some (.ref y), some (.int (nI (i + 1))), some (.int (nI (j + 1)))] [] w' (0, 0) := by
        intro n
        induction n with
        | zero =>
          intro j w' L' hj hF hwy hcv
          have hg := gF w' hF
          obtain ⟨x1, x2⟩ := id hg
          refine qX1_study_44 ?_
          refine qX1_study_46 ?_
          refine qX1_study_47 ?_
          refine qX1_study_48 (by assumption) ?_
          refine nX1_study_51 (by omega) (by omega) ?_
          rw [qC1]
          refine nX1_study_52 (by omega) (by omega) (fun h52 => ?_) (fun h52 => by exfalso; omega)
          first | refine nX1_study_84 ?_ | refine qX1_study_84 ?_
          refine qX1_study_87 ?_
          refine ih (i + 1) w' L' _ (by omega) hF hwy ?_
          simp only [u0R]
          rw [show 2 ^ C - 1 = j by omega]
          exact hcv
        | succ n ih2 =>
          intro j w' L' hj hF hwy hcv
          have hg := gF w' hF
          obtain ⟨x1, x2⟩ := id hg
          refine qX1_study_44 ?_
          refine qX1_study_46 ?_
          refine qX1_study_47 ?_
          refine qX1_study_48 (by assumption) ?_
          refine nX1_study_51 (by omega) (by omega) ?_
          rw [qC1]
          refine nX1_study_52 (by omega) (by omega) (fun h52 => by exfalso; omega) (fun h52 => ?_)
          refine qX1_study_55 ?_
          refine qX1_study_56 ?_
          refine qX1_study_57 ?_
          refine qX1_study_59 (Nat.le_of_ble_eq_true rfl) (t_isPart hg hd (fun r c q1 q2 q3 q4 q5 q6 => ?_) (fun hno => ?_))
          · rw [nI_eq (by omega) (by omega)] at q4 q5
            subst q4
            subst q5
            refine nX1_study_62 (by omega) (fun h62 => by exfalso; omega) (fun h62 => ?_)
            refine qX1_study_65 ?_
            refine qX1_study_66 ?_
            refine qX1_study_67 ?_
            refine qX1_study_68 ?_
            obtain ⟨f8, f9, m1, m2⟩ := id hwy
            refine qX1_study_70 (by assumption) (Nat.le_of_ble_eq_true rfl) (t_gather hd hg hwy hy hy2 q1 q2 q3 q6 (fun w'' hF' hwy' => ?_))
            refine qX1_study_73 ?_
            refine qX1_study_74 ?_
            have hcv' := hcv.fr hF' (fun q a1 a2 z => by have := z.1; have := z.2; omega)
            obtain ⟨f7, m3, m4⟩ := id hcv'
            refine qX1_study_75 (by assumption) (Nat.le_of_ble_eq_true rfl) (t_markLesser hcv' hwy' (by rw [wysL, goW_len]; exact (cw_ok hd q2 q3 q1 q6).1) (fun i => sv_le ha d1 i) (fun i _ => Nat.lt_of_lt_of_le (pv_lt i) h12) (by omega) (fun w3 hF3 hcv3 => ?_))
            first | refine nX1_study_78 ?_ | refine qX1_study_78 ?_
            refine qX1_study_81 ?_
            refine ih2 (j + 1) w3 _ (by omega) ((hF.tr hF' (fun q hq => Or.inl hq)).tr hF3 (fun q hq => Or.inr hq)) (hwy'.fr hF3 (fun q a1 a2 z => by have := z.1; have := z.2; omega)) (hcv3.ext (fun S _ => ?_))
            simp only [u0C, u0S]
            rw [q6]
            simp
          · refine nX1_study_62 (by omega) (fun h62 => ?_) (fun h62 => by exfalso; omega)
            first | refine nX1_study_78 ?_ | refine qX1_study_78 ?_
            refine qX1_study_81 ?_
            refine ih2 (j + 1) w' L' (by omega) hF hwy (hcv.ext (fun S _ => ?_))
            simp only [u0C, u0S]
            have : (bcN (i + 1) == bcN (j + 1)) = false := by
              rw [beq_eq_false_iff_ne]
              exact fun hb => hno ⟨i + 1, j + 1, by omega, by omega, by omega, rfl, rfl, hb⟩
            rw [this]
            simp
      exact L2 (2 ^ C - 1) 0 w' L' (by omega) hF hwy hcv
  have L0 : ∀ m i (w' : sW) (l4 : Option Value), i + m = 64 → Fr w w' (fun q => s3 y q ∨ s4 v q) → wyAt G w' y L → cvAt G w' v (R * C) (fun S => if S / 64 < i then false else U S) fr pw → wp G (d + 11) mX1_study P 10 [some (.ref v), some (.ref g), some (.ref y), some (.int (nI i)), l4] [] w' (0, 0) := by
    intro m
    induction m with
    | zero =>
      intro i w' l4 hi hF hwy hcv
      refine qX1_study_10 ?_
      refine qX1_study_11 ?_
      refine nX1_study_13 (by omega) (by omega) (fun h13 => ?_) (fun h13 => by exfalso; omega)
      refine qX1_study_29 ?_
      refine qX1_study_30 ?_
      exact L1 (2 ^ R - 1) 0 w' L l4 (by omega) hF hwy (hcv.ext (fun S hS => by rw [if_pos (by omega)]; rfl))
    | succ m ih =>
      intro i w' l4 hi hF hwy hcv
      obtain ⟨f, x1, x2, x3, x4, x5⟩ := id hcv
      refine qX1_study_10 ?_
      refine qX1_study_11 ?_
      refine nX1_study_13 (by omega) (by omega) (fun h13 => by exfalso; omega) (fun h13 => ?_)
      refine qX1_study_16 ?_
      refine qX1_study_17 (by assumption) ?_
      refine qX1_study_20 ?_
      refine qX1_study_21 ?_
      refine nX1_study_22 (by assumption) (by omega) (by decide) ?_
      first | refine nX1_study_23 ?_ | refine qX1_study_23 ?_
      refine qX1_study_26 ?_
      refine ih (i + 1) _ l4 (by omega) (hF.up (Or.inr ⟨by omega, by omega⟩)) (hwy.fr ((Fr.rf (S := s4 v)).up ⟨by omega, by omega⟩) (fun q a1 a2 z => by have := z.1; have := z.2; omega)) ⟨_, by rw [s_upN (by omega)]; exact x1, s_upS, by rw [s_upN (by omega)]; exact x3, by rw [s_upN (by omega)]; exact x4, fun j t hj ht => ?_⟩
      show _ = (if (j * 64 + t) / 64 < i + 1 then false else U (j * 64 + t))
      have x6 : bitL (f j) t = (if (j * 64 + t) / 64 < i then false else U (j * 64 + t)) := x5 j t hj ht
      by_cases hji : j = i
      · subst hji
        rw [pk_uLs, bitL_0, if_pos (by omega)]
      · rw [pk_uLn hji, x6]
        by_cases h1 : j < i
        · rw [if_pos (by omega), if_pos (by omega)]
        · rw [if_neg (by omega), if_neg (by omega)]
  exact L0 64 0 w1 _ (by omega) hF1' hwy1 hc1
theorem t_greatestSet (hc : cvAt G w v n U fr pw) (hn : n ≤ 12) (k : P (some (.int (nI (grS U (2 ^ n))))) w) : wpM G (d + 2) yX1_greatestSet (0, 0) [.ref v] w P := by
  obtain ⟨f, x1, x2, x3, x4, x5⟩ := id hc
  have hp12 : ∀ n, n < 13 → 1 <<< n = 2 ^ n ∧ 1 * 2 ^ n ≤ 4096 := by decide
  obtain ⟨s1, s2⟩ := hp12 n (by omega)
  refine eX1_greatestSet ?_
  refine qX1_greatestSet_0 ?_
  refine qX1_greatestSet_1 ?_
  refine qX1_greatestSet_2 ?_
  refine qX1_greatestSet_3 ?_
  have Lp : ∀ m i, i + m = 2 ^ n → wp G (d + 1) mX1_greatestSet P 4 [some (.ref v), some (.int (nI (grS U i))), some (.int (nI i))] [] w (0, 0) := by
    intro m
    induction m with
    | zero =>
      intro i hi
      refine qX1_greatestSet_4 ?_
      refine qX1_greatestSet_5 ?_
      refine qX1_greatestSet_6 ?_
      refine qX1_greatestSet_7 (by assumption) ?_
      refine nX1_greatestSet_10 (by omega) (by omega) ?_
      rw [s1]
      refine nX1_greatestSet_11 (by omega) (by omega) (fun h11 => ?_) (fun h11 => by exfalso; omega)
      refine qX1_greatestSet_41 ?_
      refine qX1_greatestSet_42 ?_
      rw [show 2 ^ n = i by omega] at k
      exact k
    | succ m ih =>
      intro i hi
      have b1 := grS_le (U := U) i
      have b2 := bcN_le i
      refine qX1_greatestSet_4 ?_
      refine qX1_greatestSet_5 ?_
      refine qX1_greatestSet_6 ?_
      refine qX1_greatestSet_7 (by assumption) ?_
      refine nX1_greatestSet_10 (by omega) (by omega) ?_
      rw [s1]
      refine nX1_greatestSet_11 (by omega) (by omega) (fun h11 => by exfalso; omega) (fun h11 => ?_)
      refine qX1_greatestSet_14 ?_
      refine qX1_greatestSet_15 (Nat.le_of_ble_eq_true rfl) (t_bitCount (by omega) ?_)
      refine qX1_greatestSet_18 ?_
      refine nX1_greatestSet_19 (by omega) (by omega) (fun h19 => ?_) (fun h19 => ?_)
      · first | refine nX1_greatestSet_35 ?_ | refine qX1_greatestSet_35 ?_
        refine qX1_greatestSet_38 ?_
        have := ih (i + 1) (by omega)
        simp only [grS] at this
        rw [if_neg (by omega)] at this
        exact this
      · refine qX1_greatestSet_22 ?_
        refine qX1_greatestSet_23 ?_
        refine qX1_greatestSet_24 (by assumption) (Nat.le_of_ble_eq_true rfl) (t_canTouchAll hc (by omega) (fun hU => ?_) (fun hU => ?_))
        · refine nX1_greatestSet_27 (by omega) (fun h27 => by exfalso; omega) (fun h27 => ?_)
          refine qX1_greatestSet_30 ?_
          refine qX1_greatestSet_31 (Nat.le_of_ble_eq_true rfl) (t_bitCount (by omega) ?_)
          refine qX1_greatestSet_34 ?_
          first | refine nX1_greatestSet_35 ?_ | refine qX1_greatestSet_35 ?_
          refine qX1_greatestSet_38 ?_
          have := ih (i + 1) (by omega)
          simp only [grS] at this
          rw [if_pos ⟨by omega, hU⟩] at this
          exact this
        · refine nX1_greatestSet_27 (by omega) (fun h27 => ?_) (fun h27 => by exfalso; omega)
          first | refine nX1_greatestSet_35 ?_ | refine qX1_greatestSet_35 ?_
          refine qX1_greatestSet_38 ?_
          have := ih (i + 1) (by omega)
          simp only [grS] at this
          rw [if_neg (fun z => by rw [hU] at z; exact absurd z.2 (by decide))] at this
          exact this
  exact Lp (2 ^ n) 0 (by omega)
end COVERS3
