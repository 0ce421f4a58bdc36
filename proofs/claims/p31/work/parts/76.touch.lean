/-! which sets cannot be touched: by rings of two and three -/
theorem or_addN : ∀ n x y, x < 2 ^ n → x &&& y = 0 → x ||| y = x + y
  | 0, x, y, hx, _ => by
    have : x = 0 := by omega
    subst this
    simp
  | n + 1, x, y, hx, h => by
    have h2 : x / 2 &&& y / 2 = 0 := by rw [← Nat.and_div_two, h]
    have ih := or_addN n (x / 2) (y / 2) (by rw [Nat.pow_succ] at hx; omega) h2
    have e1 : (x ||| y) / 2 = x / 2 ||| y / 2 := Nat.or_div_two
    have e2 : (x ||| y) % 2 = 1 ↔ x % 2 = 1 ∨ y % 2 = 1 := Nat.or_mod_two_eq_one
    have e3 : (x &&& y) % 2 = 1 ↔ x % 2 = 1 ∧ y % 2 = 1 := Nat.and_mod_two_eq_one
    rw [h] at e3
    omega
theorem or_add {x y : Nat} (h : x &&& y = 0) : x ||| y = x + y := or_addN x x y Nat.lt_two_pow_self h
theorem clo_iff {U : Nat → Bool} : ∀ n S, clo U n S = true ↔ ∃ T, U T = true ∧ (∀ b, T.testBit b = true → S.testBit b = true) ∧ ∀ b, n ≤ b → T.testBit b = S.testBit b
  | 0, S => by
    constructor
    · intro h
      exact ⟨S, h, fun b hb => hb, fun b _ => rfl⟩
    · rintro ⟨T, h1, _, h3⟩
      have : T = S := Nat.eq_of_testBit_eq (fun b => h3 b (Nat.zero_le b))
      rw [← this]
      exact h1
  | n + 1, S => by
    have e : clo U (n + 1) S = (clo U n S || (S.testBit n && clo U n (S - 2 ^ n))) := rfl
    rw [e, Bool.or_eq_true, Bool.and_eq_true, clo_iff n S]
    have sub : S.testBit n = true → ∀ b, (S - 2 ^ n).testBit b = (S.testBit b && !decide (b = n)) := by
      intro hb b
      have h1 : S - 2 ^ n = S ^^^ 2 ^ n := by
        have h2 : 2 ^ n ≤ S := Nat.ge_two_pow_of_testBit hb
        have h3 : (S ^^^ 2 ^ n) &&& 2 ^ n = 0 := by
          apply Nat.eq_of_testBit_eq
          intro j
          rw [Nat.testBit_and, Nat.testBit_xor, Nat.testBit_two_pow]
          by_cases hj : n = j
          · subst hj; simp [hb]
          · simp [hj]
        have h4 : (S ^^^ 2 ^ n) ||| 2 ^ n = S := by
          apply Nat.eq_of_testBit_eq
          intro j
          rw [Nat.testBit_or, Nat.testBit_xor, Nat.testBit_two_pow]
          by_cases hj : n = j
          · subst hj; simp [hb]
          · simp [hj]
        have h5 : (S ^^^ 2 ^ n) + 2 ^ n = S := by
          exact (or_add h3).symm.trans h4
        omega
      rw [h1, Nat.testBit_xor, Nat.testBit_two_pow]
      by_cases hj : n = b
      · subst hj; simp [hb]
      · simp [hj, Ne.symm hj]
    constructor
    · rintro (⟨T, h1, h2, h3⟩ | ⟨hb, h⟩)
      · exact ⟨T, h1, h2, fun b hb => h3 b (by omega)⟩
      · obtain ⟨T, h1, h2, h3⟩ := (clo_iff n _).mp h
        refine ⟨T, h1, fun b hb2 => ?_, fun b hb2 => ?_⟩
        · have := h2 b hb2
          rw [sub hb, Bool.and_eq_true] at this
          exact this.1
        · rw [h3 b (by omega), sub hb, decide_eq_false (by omega)]
          simp
    · rintro ⟨T, h1, h2, h3⟩
      by_cases hT : T.testBit n = S.testBit n
      · exact Or.inl ⟨T, h1, h2, fun b hb => by
          by_cases hbn : b = n
          · rw [hbn]; exact hT
          · exact h3 b (by omega)⟩
      · have hS : S.testBit n = true := by
          cases hq : S.testBit n with
          | true => rfl
          | false =>
            rw [hq] at hT
            have : T.testBit n = true := by
              cases hq2 : T.testBit n with
              | true => rfl
              | false => exact absurd hq2 hT
            have := h2 n this
            rw [hq] at this
            exact absurd this (by decide)
        have hTn : T.testBit n = false := by
          rw [hS] at hT
          cases hq2 : T.testBit n with
          | true => exact absurd hq2 hT
          | false => rfl
        refine Or.inr ⟨hS, (clo_iff n _).mpr ⟨T, h1, fun b hb => ?_, fun b hb => ?_⟩⟩
        · rw [sub hS, h2 b hb]
          have : b ≠ n := fun z => by rw [z, hTn] at hb; exact absurd hb (by decide)
          simp [this]
        · rw [sub hS]
          by_cases hbn : b = n
          · subst hbn
            simp [hTn]
          · rw [h3 b (by omega)]
            simp [hbn]
def orP (l : List Nat) : Nat := l.foldr (fun i x => 1 <<< i ||| x) 0
theorem orP_bit (l : List Nat) (b : Nat) : (orP l).testBit b = true ↔ b ∈ l := by
  induction l with
  | nil => simp [orP]
  | cons y l ih =>
    have e : orP (y :: l) = 1 <<< y ||| orP l := rfl
    rw [e, Nat.testBit_or, Bool.or_eq_true, ih, Nat.one_shiftLeft, Nat.testBit_two_pow, List.mem_cons, decide_eq_true_eq]
    constructor
    · rintro (h | h)
      · exact Or.inl h.symm
      · exact Or.inr h
    · rintro (h | h)
      · exact Or.inl h.symm
      · exact Or.inr h
theorem goW_P2 {R C : Nat} {a : Nat → Nat} (rows : Nat) : ∀ m cols sum pl, goW R C a rows m cols sum pl = (goP R C rows m cols).map (fun l => (sum + sumA a l, pl ||| orP l))
  | 0, cols, sum, pl => by simp [goW, goP, sumA, orP]
  | m + 1, cols, sum, pl => by
    simp only [goW, goP]
    split
    · exact goW_P2 rows m cols sum pl
    · rw [List.map_flatMap]
      rw [List.flatMap_def, List.flatMap_def]
      congr 1
      apply List.map_congr_left
      intro c _
      split
      · rw [goW_P2 rows m, List.map_map]
        apply List.map_congr_left
        intro l _
        have e : orP (((R - (m + 1)) * C + c) :: l) = 1 <<< ((R - (m + 1)) * C + c) ||| orP l := rfl
        simp only [Function.comp, sumA, List.map_cons, List.sum_cons, e, Nat.or_assoc, Nat.add_assoc]
      · rfl
theorem u0S_iff {R C : Nat} {a : Nat → Nat} {r c : Nat} {U : Nat → Bool} {S : Nat} : u0S R C a r c U S = true ↔ U S = true ∨ (bcN r = bcN c ∧ ∃ p ∈ goP R C r R c, ∃ q ∈ goP R C r R c, sumA a p < sumA a q ∧ orP p = S) := by
  unfold u0S
  rw [Bool.or_eq_true, Bool.and_eq_true, beq_iff_eq]
  have e : wysL R C a r c = (goP R C r R c).map (fun l => (sumA a l, orP l)) := by
    unfold wysL
    rw [goW_P2]
    apply List.map_congr_left
    intro l _
    simp
  constructor
  · rintro (h | ⟨h1, h2⟩)
    · exact Or.inl h
    · refine Or.inr ⟨h1, ?_⟩
      unfold mkO at h2
      rw [List.any_eq_true] at h2
      obtain ⟨i, hi, h3⟩ := h2
      rw [List.mem_range] at hi
      rw [Bool.and_eq_true, decide_eq_true_eq, beq_iff_eq] at h3
      obtain ⟨h3, h4⟩ := h3
      have hlen : (wysL R C a r c).length = (goP R C r R c).length := by rw [e, List.length_map]
      obtain ⟨n, hn⟩ : ∃ n, (wysL R C a r c).length = n + 1 := ⟨(wysL R C a r c).length - 1, by omega⟩
      obtain ⟨j, j1, j2, _⟩ := mxI_mem (f := sv (wysL R C a r c)) (n := n)
      have hg : gsN (wysL R C a r c) = sv (wysL R C a r c) j := by
        unfold gsN
        rw [hn]
        exact j2
      have get : ∀ i (hi : i < (goP R C r R c).length), sv (wysL R C a r c) i = sumA a ((goP R C r R c)[i]) ∧ pv (wysL R C a r c) i = orP ((goP R C r R c)[i]) := by
        intro i hi
        rw [e]
        simp only [sv, pv, List.getD_eq_getElem?_getD, List.getElem?_map, List.getElem?_eq_getElem hi]
        exact ⟨rfl, rfl⟩
      have hi2 : i < (goP R C r R c).length := by rw [← hlen]; exact hi
      have hj2 : j < (goP R C r R c).length := by rw [← hlen, hn]; exact j1
      refine ⟨_, List.getElem_mem hi2, _, List.getElem_mem hj2, ?_, ?_⟩
      · rw [← (get i hi2).1, ← (get j hj2).1, ← hg]
        exact h3
      · rw [← (get i hi2).2]
        exact h4
  · rintro (h | ⟨h1, p, hp, q, hq, h2, h3⟩)
    · exact Or.inl h
    · refine Or.inr ⟨h1, ?_⟩
      unfold mkO
      rw [List.any_eq_true]
      have hlen : (wysL R C a r c).length = (goP R C r R c).length := by rw [e, List.length_map]
      obtain ⟨i, hi, rfl⟩ := List.getElem_of_mem hp
      obtain ⟨j, hj, rfl⟩ := List.getElem_of_mem hq
      have get : ∀ i (hi : i < (goP R C r R c).length), sv (wysL R C a r c) i = sumA a ((goP R C r R c)[i]) ∧ pv (wysL R C a r c) i = orP ((goP R C r R c)[i]) := by
        intro i hi
        rw [e]
        simp only [sv, pv, List.getD_eq_getElem?_getD, List.getElem?_map, List.getElem?_eq_getElem hi]
        exact ⟨rfl, rfl⟩
      obtain ⟨n, hn⟩ : ∃ n, (wysL R C a r c).length = n + 1 := ⟨(wysL R C a r c).length - 1, by omega⟩
      obtain ⟨_, _, _, j3⟩ := mxI_mem (f := sv (wysL R C a r c)) (n := n)
      refine ⟨i, by rw [List.mem_range, hlen]; exact hi, ?_⟩
      rw [Bool.and_eq_true, decide_eq_true_eq, beq_iff_eq]
      refine ⟨?_, by rw [(get i hi).2]; exact h3⟩
      have h4 := j3 j (by rw [← hn, hlen]; exact hj)
      unfold gsN
      rw [hn, (get i hi).1]
      rw [(get j hj).1] at h4
      omega
/-- a part whose way inside a set has a lesser sum than another -/
def lessR (R C : Nat) (a : Nat → Nat) (r c T : Nat) : Prop := bcN r = bcN c ∧ ∃ p ∈ goP R C r R c, ∃ q ∈ goP R C r R c, sumA a p < sumA a q ∧ orP p = T
theorem u0C_iff {R C : Nat} {a : Nat → Nat} {r : Nat} {U : Nat → Bool} {S : Nat} : ∀ n, u0C R C a r U n S = true ↔ U S = true ∨ ∃ c, 1 ≤ c ∧ c ≤ n ∧ lessR R C a r c S
  | 0 => by
    constructor
    · intro h; exact Or.inl h
    · rintro (h | ⟨c, h1, h2, _⟩)
      · exact h
      · omega
  | n + 1 => by
    have e : u0C R C a r U (n + 1) = u0S R C a r (n + 1) (u0C R C a r U n) := rfl
    rw [e, u0S_iff, u0C_iff n]
    constructor
    · rintro ((h | ⟨c, h1, h2, h3⟩) | h)
      · exact Or.inl h
      · exact Or.inr ⟨c, h1, by omega, h3⟩
      · exact Or.inr ⟨n + 1, by omega, Nat.le_refl _, h⟩
    · rintro (h | ⟨c, h1, h2, h3⟩)
      · exact Or.inl (Or.inl h)
      · by_cases hc : c = n + 1
        · subst hc; exact Or.inr h3
        · exact Or.inl (Or.inr ⟨c, h1, by omega, h3⟩)
theorem u0R_iff {R C : Nat} {a : Nat → Nat} {S : Nat} : ∀ n, u0R R C a n S = true ↔ ∃ r, 1 ≤ r ∧ r ≤ n ∧ ∃ c, 1 ≤ c ∧ c ≤ 2 ^ C - 1 ∧ lessR R C a r c S
  | 0 => by
    constructor
    · intro h; exact absurd h (by simp [u0R])
    · rintro ⟨r, h1, h2, _⟩; omega
  | n + 1 => by
    have e : u0R R C a (n + 1) = u0C R C a (n + 1) (u0R R C a n) (2 ^ C - 1) := rfl
    rw [e, u0C_iff, u0R_iff n]
    constructor
    · rintro (⟨r, h1, h2, h3⟩ | h)
      · exact ⟨r, h1, by omega, h3⟩
      · exact ⟨n + 1, by omega, Nat.le_refl _, h⟩
    · rintro ⟨r, h1, h2, h3⟩
      by_cases hr : r = n + 1
      · subst hr; exact Or.inr h3
      · exact Or.inl ⟨r, h1, by omega, h3⟩
theorem untN_iff {R C : Nat} {a : Nat → Nat} {S : Nat} (hS : S < 2 ^ (R * C)) : untN R C a S = true ↔ ∃ r c, 1 ≤ r ∧ r < 2 ^ R ∧ 1 ≤ c ∧ c < 2 ^ C ∧ bcN r = bcN c ∧ ∃ p ∈ goP R C r R c, ∃ q ∈ goP R C r R c, sumA a p < sumA a q ∧ ∀ x ∈ p, S.testBit x = true := by
  have pR : 1 ≤ 2 ^ R := Nat.one_le_two_pow
  have pC : 1 ≤ 2 ^ C := Nat.one_le_two_pow
  unfold untN
  rw [clo_iff]
  constructor
  · rintro ⟨T, h1, h2, _⟩
    obtain ⟨r, r1, r2, c, c1, c2, hb, p, hp, q, hq, hlt, he⟩ := (u0R_iff _).mp h1
    refine ⟨r, c, r1, by omega, c1, by omega, hb, p, hp, q, hq, hlt, fun x hx => h2 x ?_⟩
    rw [← he, orP_bit]
    exact hx
  · rintro ⟨r, c, r1, r2, c1, c2, hb, p, hp, q, hq, hlt, hx⟩
    have hsub : ∀ b, (orP p).testBit b = true → S.testBit b = true := fun b hb2 => hx b ((orP_bit p b).mp hb2)
    refine ⟨orP p, (u0R_iff _).mpr ⟨r, r1, by omega, c, c1, by omega, hb, p, hp, q, hq, hlt, rfl⟩, hsub, fun b hb2 => ?_⟩
    have hSb : S.testBit b = false := Nat.testBit_lt_two_pow (Nat.lt_of_lt_of_le hS (Nat.pow_le_pow_right (by decide) hb2))
    rw [hSb]
    cases hq2 : (orP p).testBit b with
    | false => rfl
    | true => rw [hsub b hq2] at hSb; exact absurd hSb (by decide)
