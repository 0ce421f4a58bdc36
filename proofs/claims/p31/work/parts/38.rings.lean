abbrev P3 : Type := Nat × Nat × Nat
def rgAt (w : sW) (p : Nat) (s : P3) : Prop := w.1 p = ob 5 [.int (nI s.1), .int (nI s.2.1), .int (nI s.2.2)] ∧ s.2.1 ≤ 8000 ∧ s.2.2 ≤ 4
/-- a ring is taken where its mean is less, or it is as little and the ring shorter -/
def rgK (s : P3) (x : Nat × Nat) : P3 := if s.2.2 = 0 ∨ x.1 * s.2.2 < s.2.1 * x.2 ∨ (x.1 * s.2.2 = s.2.1 * x.2 ∧ x.2 < s.2.2) then (s.1 + 1, x.1, x.2) else (s.1 + 1, s.2.1, s.2.2)
def rgW (n : Nat) (a : Nat → Nat) (st : Nat) : Nat → Nat → Nat → Nat → Nat → List (Nat × Nat)
  | 0, last, _, sum, len => [(sum + a (last * n + st), len)]
  | m + 1, last, nums, sum, len => (sum + a (last * n + st), len) :: (List.range n).flatMap (fun x => if st < x ∧ nums.testBit x = false then rgW n a st m x (nums ||| 1 <<< x) (sum + a (last * n + x)) (len + 1) else [])
def rgL (n : Nat) (a : Nat → Nat) : List (Nat × Nat) := (List.range n).flatMap (fun st => rgW n a st (n - 1) st (1 <<< st) 0 1)
def rgN (n : Nat) (a : Nat → Nat) : P3 := (rgL n a).foldl rgK (0, 0, 0)
section RINGS
variable {G : sG} {d : Nat} {P : sQ} {w : sW} {g e R C : Nat} {a : Nat → Nat} {p : Nat} {s : P3}
theorem t_rkeep {x y : Nat} (h : rgAt w p s) (hx : x ≤ 8000) (hy : y ≤ 4) (k : ∀ w', Fr w w' (fun q => q = p) → rgAt w' p (rgK s (x, y)) → P none w') : wpM G (d + 1) yX6_keep (0, 0) [.ref p, .int (nI x), .int (nI y)] w P := by
  obtain ⟨h1, h2, h3⟩ := h
  have m1 : x * s.2.2 ≤ 8000 * 4 := Nat.mul_le_mul hx h3
  have m2 : s.2.1 * y ≤ 8000 * 4 := Nat.mul_le_mul h2 hy
  have k' : ∀ w', Fr w w' (fun q => q = p) → rgAt w' p (if s.2.2 = 0 ∨ x * s.2.2 < s.2.1 * y ∨ (x * s.2.2 = s.2.1 * y ∧ y < s.2.2) then (s.1 + 1, x, y) else (s.1 + 1, s.2.1, s.2.2)) → P none w' := k
  refine eX6_keep ?_
  refine qX6_keep_0 ?_
  refine qX6_keep_1 rfl ?_
  refine qX6_keep_2 (by assumption) ?_
  refine qX6_keep_5 ?_
  first | refine nX6_keep_6 ?_ | refine qX6_keep_6 ?_
  refine qX6_keep_7 (by assumption) ?_
  generalize hw1 : s_up w p _ = w1
  have z1 : w1.1 p = ob 5 [.int (nI (s.1 + 1)), .int (nI s.2.1), .int (nI s.2.2)] := by rw [← hw1]; exact s_upS
  have hF1 : Fr w w1 (fun q => q = p) := by rw [← hw1]; exact Fr.rf.up rfl
  refine qX6_keep_10 ?_
  refine qX6_keep_11 ?_
  refine qX6_keep_12 (by assumption) ?_
  first | refine nX6_keep_15 ?_ | refine qX6_keep_15 ?_
  refine qX6_keep_16 ?_
  refine qX6_keep_17 (by assumption) ?_
  refine qX6_keep_20 ?_
  first | refine nX6_keep_21 ?_ | refine qX6_keep_21 ?_
  refine qX6_keep_22 ?_
  rw [nI_nI_sub]
  generalize x * s.2.2 = A at *
  generalize s.2.1 * y = B at *
  have hz : zR ((A : Int) - B) := by constructor <;> omega
  refine qX6_keep_23 ?_
  refine qX6_keep_24 ?_
  refine qX6_keep_25 (by assumption) ?_
  have take : (s.2.2 = 0 ∨ A < B ∨ (A = B ∧ y < s.2.2)) → wp G d mX6_keep P 47 [some (.ref p), some (.int (nI x)), some (.int (nI y)), some (.int (iZ ((A : Int) - B)))] [] w1 (0, 0) := by
    intro hc
    rw [if_pos hc] at k'
    refine qX6_keep_47 ?_
    refine qX6_keep_48 ?_
    refine qX6_keep_49 (by assumption) ?_
    generalize hw2 : s_up w1 p _ = w2
    have z2 : w2.1 p = ob 5 [.int (nI (s.1 + 1)), .int (nI x), .int (nI s.2.2)] := by rw [← hw2]; exact s_upS
    refine qX6_keep_52 ?_
    refine qX6_keep_53 ?_
    refine qX6_keep_54 (by assumption) ?_
    refine qX6_keep_57 ?_
    refine k' _ ?_ ⟨s_upS, hx, hy⟩
    rw [← hw2]
    exact (hF1.up rfl).up rfl
  have leave : ¬ (s.2.2 = 0 ∨ A < B ∨ (A = B ∧ y < s.2.2)) → wp G d mX6_keep P 57 [some (.ref p), some (.int (nI x)), some (.int (nI y)), some (.int (iZ ((A : Int) - B)))] [] w1 (0, 0) := by
    intro hc
    rw [if_neg hc] at k'
    refine qX6_keep_57 ?_
    exact k' _ hF1 ⟨z1, h2, h3⟩
  refine nX6_keep_28 (by omega) (fun h28 => ?_) (fun h28 => ?_)
  · exact take (Or.inl h28)
  · refine qX6_keep_31 ?_
    refine zX6_keep_32 (by assumption) (fun h32 => ?_) (fun h32 => ?_)
    · exact take (Or.inr (Or.inl (by omega)))
    · refine qX6_keep_35 ?_
      refine zX6_keep_36 (by assumption) (fun h36 => ?_) (fun h36 => ?_)
      · exact leave (by omega)
      · refine qX6_keep_39 ?_
        refine qX6_keep_40 ?_
        refine qX6_keep_41 (by assumption) ?_
        refine nX6_keep_44 (by omega) (by omega) (fun h44 => ?_) (fun h44 => ?_)
        · exact leave (by omega)
        · exact take (Or.inr (Or.inr ⟨by omega, by omega⟩))
theorem or_lt16 {nums x : Nat} (h : nums < 16) (hx : x < 4) : nums ||| 1 <<< x < 16 := by
  refine Nat.or_lt_two_pow (n := 4) h ?_
  rw [Nat.one_shiftLeft]
  exact Nat.pow_lt_pow_right (by decide) hx
set_option maxHeartbeats 1000000 in
theorem t_rgoOn {n : Nat} (hd : okD n n) (ha : ∀ k, k < n * n → a k ≤ 999) (hpg : g ≠ p) (hpe : e ≠ p) {st : Nat} (hst : st < n) : ∀ (m d : Nat) (P : sQ) (w : sW) (last nums sum len : Nat) (s : P3), len + m = n → last < n → nums < 16 → sum + 999 * m ≤ 7000 → gAt G w g e n n a → rgAt w p s → (∀ w', Fr w w' (fun q => q = p) → rgAt w' p ((rgW n a st m last nums sum len).foldl rgK s) → P none w') → wpM G (d + (m + 3)) yX6_goOn (0, 0) [.ref p, .ref g, .int (nI st), .int (nI last), .int (nI nums), .int (nI sum), .int (nI len)] w P := by
  have d1 := hd.2.1
  have hp : ∀ n, n < 5 → 1 * 2 ^ n ≤ 16 := by decide
  intro m
  induction m with
  | zero =>
    intro d P w last nums sum len s hl hla hnu hsu h hr k
    have hin := hd.in12 (r := last) (c := st) hla hst
    have hav := ha (last * n + st) (ix_lt hla hst)
    obtain ⟨x1, x2⟩ := id h
    obtain ⟨y1, y2, y3⟩ := id hr
    refine eX6_goOn ?_
    refine qX6_goOn_0 ?_
    refine qX6_goOn_1 ?_
    refine qX6_goOn_3 ?_
    refine qX6_goOn_4 ?_
    refine qX6_goOn_5 ?_
    refine qX6_goOn_6 (by assumption) (Nat.le_of_ble_eq_true rfl) (t_at (d := d) h (by omega) ?_)
    first | refine nX6_goOn_9 ?_ | refine qX6_goOn_9 ?_
    refine qX6_goOn_10 ?_
    refine qX6_goOn_12 (by assumption) (Nat.le_of_ble_eq_true rfl) (t_rkeep (d := d + 1) hr (by omega) (by omega) (fun w' hF hr' => ?_))
    have hg : gAt G w' g e n n a := h.fr hF hpg hpe
    obtain ⟨x1, x2⟩ := id hg
    refine qX6_goOn_15 ?_
    refine qX6_goOn_16 ?_
    first | refine nX6_goOn_17 ?_ | refine qX6_goOn_17 ?_
    refine qX6_goOn_18 ?_
    refine qX6_goOn_20 ?_
    refine qX6_goOn_22 ?_
    refine qX6_goOn_23 (by assumption) ?_
    refine nX6_goOn_26 (by omega) (by omega) (fun h26 => ?_) (fun h26 => ?_)
    · refine qX6_goOn_83 ?_
      exact k w' hF hr'
    · refine qX6_goOn_29 ?_
      refine qX6_goOn_31 ?_
      refine qX6_goOn_32 (by assumption) ?_
      refine nX6_goOn_35 (by omega) (by omega) (fun h35 => ?_) (fun h35 => by exfalso; omega)
      refine qX6_goOn_83 ?_
      exact k w' hF hr'
  | succ m ih =>
    intro d P w last nums sum len s hl hla hnu hsu h hr k
    have hin := hd.in12 (r := last) (c := st) hla hst
    have hav := ha (last * n + st) (ix_lt hla hst)
    obtain ⟨x1, x2⟩ := id h
    obtain ⟨y1, y2, y3⟩ := id hr
    simp only [rgW, List.foldl_cons] at k
    refine eX6_goOn ?_
    refine qX6_goOn_0 ?_
    refine qX6_goOn_1 ?_
    refine qX6_goOn_3 ?_
    refine qX6_goOn_4 ?_
    refine qX6_goOn_5 ?_
    refine qX6_goOn_6 (by assumption) (Nat.le_of_ble_eq_true rfl) (t_at (d := d + m + 1) h (by omega) ?_)
    first | refine nX6_goOn_9 ?_ | refine qX6_goOn_9 ?_
    refine qX6_goOn_10 ?_
    refine qX6_goOn_12 (by assumption) (Nat.le_of_ble_eq_true rfl) (t_rkeep (d := d + m + 2) hr (by omega) (by omega) (fun w' hF hr' => ?_))
    refine qX6_goOn_15 ?_
    refine qX6_goOn_16 ?_
    first | refine nX6_goOn_17 ?_ | refine qX6_goOn_17 ?_
    refine qX6_goOn_18 ?_
    have Lp : ∀ q x (w' : sW), x + q = n → st + 1 ≤ x → Fr w w' (fun q => q = p) → rgAt w' p (((List.range x).flatMap (fun x => if st < x ∧ nums.testBit x = false then rgW n a st m x (nums ||| 1 <<< x) (sum + a (last * n + x)) (len + 1) else [])).foldl rgK (rgK s (sum + a (last * n + st), len))) → wp G (d + (m + 3)) mX6_goOn P 20 [some (.ref p), some (.ref g), some (.int (nI st)), some (.int (nI last)), some (.int (nI nums)), some (.int (nI sum)), some (.int (nI len)), some (.int (nI x))] [] w' (0, 0) := by
      intro q
      induction q with
      | zero =>
        intro x w' hx hsx hF hr'
        have hg : gAt G w' g e n n a := h.fr hF hpg hpe
        obtain ⟨x1, x2⟩ := id hg
        refine qX6_goOn_20 ?_
        refine qX6_goOn_22 ?_
        refine qX6_goOn_23 (by assumption) ?_
        refine nX6_goOn_26 (by omega) (by omega) (fun h26 => ?_) (fun h26 => by exfalso; omega)
        refine qX6_goOn_83 ?_
        rw [show x = n by omega] at hr'
        exact k w' hF hr'
      | succ q ih2 =>
        intro x w' hx hsx hF hr'
        have hg : gAt G w' g e n n a := h.fr hF hpg hpe
        obtain ⟨x1, x2⟩ := id hg
        have hin2 := hd.in12 (r := last) (c := x) hla (by omega)
        have hav2 := ha (last * n + x) (ix_lt hla (by omega))
        have hpx := hp x (by omega)
        have hle : nums &&& 1 <<< x ≤ nums := Nat.and_le_left
        have step : ∀ w'', Fr w w'' (fun q => q = p) → rgAt w'' p ((if st < x ∧ nums.testBit x = false then rgW n a st m x (nums ||| 1 <<< x) (sum + a (last * n + x)) (len + 1) else []).foldl rgK (((List.range x).flatMap (fun x => if st < x ∧ nums.testBit x = false then rgW n a st m x (nums ||| 1 <<< x) (sum + a (last * n + x)) (len + 1) else [])).foldl rgK (rgK s (sum + a (last * n + st), len)))) → wp G (d + (m + 3)) mX6_goOn P 77 [some (.ref p), some (.ref g), some (.int (nI st)), some (.int (nI last)), some (.int (nI nums)), some (.int (nI sum)), some (.int (nI len)), some (.int (nI x))] [] w'' (0, 0) := by
          intro w'' hF'' hr''
          first | refine nX6_goOn_77 ?_ | refine qX6_goOn_77 ?_
          refine qX6_goOn_80 ?_
          refine ih2 (x + 1) w'' (by omega) (by omega) hF'' ?_
          rw [List.range_succ, List.flatMap_append, List.foldl_append]
          simpa using hr''
        refine qX6_goOn_20 ?_
        refine qX6_goOn_22 ?_
        refine qX6_goOn_23 (by assumption) ?_
        refine nX6_goOn_26 (by omega) (by omega) (fun h26 => by exfalso; omega) (fun h26 => ?_)
        refine qX6_goOn_29 ?_
        refine qX6_goOn_31 ?_
        refine qX6_goOn_32 (by assumption) ?_
        refine nX6_goOn_35 (by omega) (by omega) (fun h35 => by exfalso; omega) (fun h35 => ?_)
        refine qX6_goOn_38 ?_
        refine qX6_goOn_40 ?_
        refine qX6_goOn_41 ?_
        refine nX6_goOn_43 (by omega) (by omega) ?_
        first | refine nX6_goOn_44 ?_ | refine qX6_goOn_44 ?_
        refine nX6_goOn_45 (by omega) (fun h45 => ?_) (fun h45 => ?_)
        · refine step w' hF ?_
          rw [if_neg (fun z => h45 ((and_bit nums x).mpr z.2))]
          exact hr'
        · rw [and_bit] at h45
          refine qX6_goOn_48 ?_
          refine qX6_goOn_49 ?_
          refine qX6_goOn_50 ?_
          refine qX6_goOn_51 ?_
          refine qX6_goOn_53 ?_
          refine qX6_goOn_55 ?_
          refine qX6_goOn_56 ?_
          refine nX6_goOn_58 (by omega) (by omega) ?_
          first | refine nX6_goOn_59 ?_ | refine qX6_goOn_59 ?_
          refine qX6_goOn_60 ?_
          refine qX6_goOn_62 ?_
          refine qX6_goOn_63 ?_
          refine qX6_goOn_64 ?_
          refine qX6_goOn_66 (by assumption) (Nat.le_of_ble_eq_true rfl) (t_at (d := d + m + 1) hg (by omega) ?_)
          first | refine nX6_goOn_69 ?_ | refine qX6_goOn_69 ?_
          refine qX6_goOn_70 ?_
          refine qX6_goOn_72 ?_
          first | refine nX6_goOn_73 ?_ | refine qX6_goOn_73 ?_
          refine qX6_goOn_74 (Nat.le_of_ble_eq_true rfl) (ih d _ w' x (nums ||| 1 <<< x) (sum + a (last * n + x)) (len + 1) _ (by omega) (by omega) (or_lt16 hnu (by omega)) (by omega) hg hr' (fun w'' hF'' hr'' => ?_))
          refine step w'' (hF.tr hF'' (fun q hq => hq)) ?_
          rw [if_pos ⟨by omega, h45⟩]
          exact hr''
    refine Lp (n - (st + 1)) (st + 1) w' (by omega) (Nat.le_refl _) hF ?_
    have : (List.range (st + 1)).flatMap (fun x => if st < x ∧ nums.testBit x = false then rgW n a st m x (nums ||| 1 <<< x) (sum + a (last * n + x)) (len + 1) else []) = [] := by
      rw [List.flatMap_eq_nil_iff]
      intro x hx
      rw [List.mem_range] at hx
      rw [if_neg (by omega)]
    rw [this]
    exact hr'
theorem t_rstudy {n : Nat} (hd : okD n n) (ha : ∀ k, k < n * n → a k ≤ 999) (hpg : g ≠ p) (hpe : e ≠ p) (h : gAt G w g e n n a) (hr : rgAt w p s) (k : ∀ w', Fr w w' (fun q => q = p) → rgAt w' p (rgN n a) → P none w') : wpM G (d + 8) yX6_study (0, 0) [.ref p, .ref g] w P := by
  have d1 := hd.2.1
  have d3 := hd.2.2.2.2
  have hp : ∀ n, n < 5 → 1 * 2 ^ n ≤ 16 := by decide
  obtain ⟨y1, y2, y3⟩ := id hr
  refine eX6_study ?_
  refine qX6_study_0 ?_
  refine qX6_study_1 ?_
  refine qX6_study_2 (by assumption) ?_
  generalize hw1 : s_up w p _ = w1
  have z1 : w1.1 p = ob 5 [.int (nI 0), .int (nI s.2.1), .int (nI s.2.2)] := by rw [← hw1]; exact s_upS
  refine qX6_study_5 ?_
  refine qX6_study_6 ?_
  refine qX6_study_7 (by assumption) ?_
  generalize hw2 : s_up w1 p _ = w2
  have z2 : w2.1 p = ob 5 [.int (nI 0), .int (nI 0), .int (nI s.2.2)] := by rw [← hw2]; exact s_upS
  refine qX6_study_10 ?_
  refine qX6_study_11 ?_
  refine qX6_study_12 (by assumption) ?_
  generalize hw3 : s_up w2 p _ = w3
  have z3 : rgAt w3 p (0, 0, 0) := by rw [← hw3]; exact ⟨s_upS, by decide, by decide⟩
  have hF3 : Fr w w3 (fun q => q = p) := by
    rw [← hw3, ← hw2, ← hw1]
    exact (((Fr.rf (S := fun q => q = p)).up rfl).up rfl).up rfl
  refine qX6_study_15 ?_
  refine qX6_study_16 ?_
  have Lp : ∀ m i (w' : sW), i + m = n → Fr w w' (fun q => q = p) → rgAt w' p (((List.range i).flatMap (fun st => rgW n a st (n - 1) st (1 <<< st) 0 1)).foldl rgK (0, 0, 0)) → wp G (d + 7) mX6_study P 17 [some (.ref p), some (.ref g), some (.int (nI i))] [] w' (0, 0) := by
    intro m
    induction m with
    | zero =>
      intro i w' hi hF hr'
      have hg : gAt G w' g e n n a := h.fr hF hpg hpe
      obtain ⟨x1, x2⟩ := id hg
      refine qX6_study_17 ?_
      refine qX6_study_18 ?_
      refine qX6_study_19 (by assumption) ?_
      refine nX6_study_22 (by omega) (by omega) (fun h22 => ?_) (fun h22 => by exfalso; omega)
      refine qX6_study_43 ?_
      rw [show i = n by omega] at hr'
      exact k w' hF hr'
    | succ m ih =>
      intro i w' hi hF hr'
      have hg : gAt G w' g e n n a := h.fr hF hpg hpe
      obtain ⟨x1, x2⟩ := id hg
      have hpi := hp i (by omega)
      have hsl : 1 <<< i < 16 := by
        rw [Nat.one_shiftLeft]
        exact Nat.pow_lt_pow_right (a := 2) (by decide) (show i < 4 by omega)
      refine qX6_study_17 ?_
      refine qX6_study_18 ?_
      refine qX6_study_19 (by assumption) ?_
      refine nX6_study_22 (by omega) (by omega) (fun h22 => by exfalso; omega) (fun h22 => ?_)
      refine qX6_study_25 ?_
      refine qX6_study_26 ?_
      refine qX6_study_27 ?_
      refine qX6_study_28 ?_
      refine qX6_study_29 ?_
      refine qX6_study_30 ?_
      refine nX6_study_31 (by omega) (by omega) ?_
      refine qX6_study_32 ?_
      refine qX6_study_33 ?_
      refine qX6_study_34 (Nat.le_of_ble_eq_true rfl) (wpM_cast (d1 := d + (5 - n) + ((n - 1) + 3)) (by omega) (t_rgoOn hd ha hpg hpe (st := i) (by omega) (n - 1) (d + (5 - n)) _ w' i (1 <<< i) 0 1 _ (by omega) (by omega) hsl (by omega) hg hr' (fun w'' hF'' hr'' => ?_)))
      first | refine nX6_study_37 ?_ | refine qX6_study_37 ?_
      refine qX6_study_40 ?_
      refine ih (i + 1) w'' (by omega) (hF.tr hF'' (fun q hq => hq)) ?_
      rw [List.range_succ, List.flatMap_append, List.foldl_append]
      simpa using hr''
  exact Lp n 0 w3 (by omega) hF3 z3
end RINGS
