/-! a set that has a ring of two or three places with too little -/
def bad2 (C : Nat) (a : Nat → Nat) (S i k j l : Nat) : Prop := i ≠ k ∧ j ≠ l ∧ S.testBit (i * C + j) = true ∧ S.testBit (k * C + l) = true ∧ a (i * C + j) + a (k * C + l) < a (i * C + l) + a (k * C + j)
def bad3 (C : Nat) (a : Nat → Nat) (S i k m j l h : Nat) : Prop := i ≠ k ∧ k ≠ m ∧ i ≠ m ∧ j ≠ l ∧ l ≠ h ∧ j ≠ h ∧ S.testBit (i * C + j) = true ∧ S.testBit (k * C + l) = true ∧ S.testBit (m * C + h) = true ∧ a (i * C + j) + a (k * C + l) + a (m * C + h) < a (i * C + l) + a (k * C + h) + a (m * C + j)
def badS (R C : Nat) (a : Nat → Nat) (S : Nat) : Prop := (∃ i k j l, i < R ∧ k < R ∧ j < C ∧ l < C ∧ bad2 C a S i k j l) ∨ (∃ i k m j l h, i < R ∧ k < R ∧ m < R ∧ j < C ∧ l < C ∧ h < C ∧ bad3 C a S i k m j l h)
/-- two ways are alike but for a ring -/
def rest2 (P Q p q : List Nat) : Bool := (P ++ p.filter (fun x => !P.elem x)).isPerm p && (Q ++ p.filter (fun x => !P.elem x)).isPerm q
def un2 (R C : Nat) (f : List Nat → List Nat → Bool) : Bool := (List.range R).any fun i => (List.range R).any fun k => (List.range C).any fun j => (List.range C).any fun l => i != k && j != l && f [i * C + j, k * C + l] [i * C + l, k * C + j]
def un3 (R C : Nat) (f : List Nat → List Nat → Bool) : Bool := (List.range R).any fun i => (List.range R).any fun k => (List.range R).any fun m => i != k && k != m && i != m && (List.range C).any fun j => (List.range C).any fun l => (List.range C).any fun h => j != l && l != h && j != h && f [i * C + j, k * C + l, m * C + h] [i * C + l, k * C + h, m * C + j]
def ckA (R C : Nat) : Bool := (List.range (2 ^ R)).all fun r => (List.range (2 ^ C)).all fun c => r == 0 || bcN r != bcN c || (goP R C r R c).all fun p => (goP R C r R c).all fun q => p == q || un2 R C (fun P Q => rest2 P Q p q) || un3 R C (fun P Q => rest2 P Q p q)
def msR (C : Nat) (l : List Nat) : Nat := orP (l.map (fun x => x / C))
def msC (C : Nat) (l : List Nat) : Nat := orP (l.map (fun x => x % C))
/-- a ring's two ways are ways of one part -/
def inW (R C : Nat) (P Q : List Nat) : Bool := decide (1 ≤ msR C P) && decide (msR C P < 2 ^ R) && decide (1 ≤ msC C P) && decide (msC C P < 2 ^ C) && bcN (msR C P) == bcN (msC C P) && (goP R C (msR C P) R (msC C P)).any (fun p => p.isPerm P) && (goP R C (msR C P) R (msC C P)).any (fun q => q.isPerm Q)
def ckB (R C : Nat) : Bool := !un2 R C (fun P Q => !inW R C P Q) && !un3 R C (fun P Q => !inW R C P Q)
theorem ckA_ok : ((List.range 5).all fun R => (List.range 5).all fun C => R == 0 || C == 0 || decide (12 < R * C) || ckA R C) = true := by decide +kernel
theorem ckB_ok : ((List.range 5).all fun R => (List.range 5).all fun C => R == 0 || C == 0 || decide (12 < R * C) || ckB R C) = true := by decide +kernel
theorem un2_iff {R C : Nat} {f : List Nat → List Nat → Bool} : un2 R C f = true ↔ ∃ i k j l, i < R ∧ k < R ∧ j < C ∧ l < C ∧ i ≠ k ∧ j ≠ l ∧ f [i * C + j, k * C + l] [i * C + l, k * C + j] = true := by
  unfold un2
  simp only [List.any_eq_true, List.mem_range, Bool.and_eq_true, bne_iff_ne]
  constructor
  · rintro ⟨i, hi, k, hk, j, hj, l, hl, ⟨h1, h2⟩, h3⟩
    exact ⟨i, k, j, l, hi, hk, hj, hl, h1, h2, h3⟩
  · rintro ⟨i, k, j, l, hi, hk, hj, hl, h1, h2, h3⟩
    exact ⟨i, hi, k, hk, j, hj, l, hl, ⟨h1, h2⟩, h3⟩
theorem un3_iff {R C : Nat} {f : List Nat → List Nat → Bool} : un3 R C f = true ↔ ∃ i k m j l h, i < R ∧ k < R ∧ m < R ∧ j < C ∧ l < C ∧ h < C ∧ i ≠ k ∧ k ≠ m ∧ i ≠ m ∧ j ≠ l ∧ l ≠ h ∧ j ≠ h ∧ f [i * C + j, k * C + l, m * C + h] [i * C + l, k * C + h, m * C + j] = true := by
  unfold un3
  simp only [List.any_eq_true, List.mem_range, Bool.and_eq_true, bne_iff_ne]
  constructor
  · rintro ⟨i, hi, k, hk, m, hm, ⟨⟨h1, h2⟩, h3⟩, j, hj, l, hl, h, hh, ⟨⟨h4, h5⟩, h6⟩, h7⟩
    exact ⟨i, k, m, j, l, h, hi, hk, hm, hj, hl, hh, h1, h2, h3, h4, h5, h6, h7⟩
  · rintro ⟨i, k, m, j, l, h, hi, hk, hm, hj, hl, hh, h1, h2, h3, h4, h5, h6, h7⟩
    exact ⟨i, hi, k, hk, m, hm, ⟨⟨h1, h2⟩, h3⟩, j, hj, l, hl, h, hh, ⟨⟨h4, h5⟩, h6⟩, h7⟩
theorem sumA_perm {a : Nat → Nat} {l l' : List Nat} (h : l.Perm l') : sumA a l = sumA a l' := (h.map a).sum_nat
theorem sumA_app {a : Nat → Nat} {l l' : List Nat} : sumA a (l ++ l') = sumA a l + sumA a l' := by simp [sumA]
theorem rest2_lt {a : Nat → Nat} {P Q p q : List Nat} {S : Nat} (h : rest2 P Q p q = true) (hlt : sumA a p < sumA a q) (hS : ∀ x ∈ p, S.testBit x = true) : sumA a P < sumA a Q ∧ ∀ x ∈ P, S.testBit x = true := by
  unfold rest2 at h
  rw [Bool.and_eq_true, List.isPerm_iff, List.isPerm_iff] at h
  obtain ⟨h1, h2⟩ := h
  have e1 := sumA_perm (a := a) h1
  have e2 := sumA_perm (a := a) h2
  rw [sumA_app] at e1 e2
  refine ⟨by omega, fun x hx => hS x (h1.mem_iff.mp (List.mem_append_left _ hx))⟩
theorem unt_bad {R C : Nat} {a : Nat → Nat} {S : Nat} (hd : okD R C) (hS : S < 2 ^ (R * C)) : untN R C a S = true ↔ badS R C a S := by
  obtain ⟨d0, d1, d0', d2, d3⟩ := hd
  have hA := ckA_ok
  have hB := ckB_ok
  simp only [List.all_eq_true, List.mem_range, Bool.or_eq_true, decide_eq_true_eq, beq_iff_eq] at hA hB
  have hA : ckA R C = true := by
    rcases hA R (by omega) C (by omega) with ((h | h) | h) | h
    · omega
    · omega
    · omega
    · exact h
  have hB : ckB R C = true := by
    rcases hB R (by omega) C (by omega) with ((h | h) | h) | h
    · omega
    · omega
    · omega
    · exact h
  rw [untN_iff hS]
  constructor
  · rintro ⟨r, c, r1, r2, c1, c2, hb, p, hp, q, hq, hlt, hx⟩
    simp only [ckA, List.all_eq_true, List.mem_range, Bool.or_eq_true, beq_iff_eq, bne_iff_ne] at hA
    rcases hA r r2 c c2 with (h | h) | h
    · omega
    · exact absurd hb h
    · rcases h p hp q hq with (h | h) | h
      · rw [h] at hlt; omega
      · obtain ⟨i, k, j, l, hi, hk, hj, hl, n1, n2, hr⟩ := un2_iff.mp h
        obtain ⟨g1, g2⟩ := rest2_lt hr hlt hx
        refine Or.inl ⟨i, k, j, l, hi, hk, hj, hl, n1, n2, g2 _ (by simp), g2 _ (by simp), ?_⟩
        simp only [sumA, List.map_cons, List.map_nil, List.sum_cons, List.sum_nil] at g1
        omega
      · obtain ⟨i, k, m, j, l, hh, hi, hk, hm, hj, hl, hhh, n1, n2, n3, n4, n5, n6, hr⟩ := un3_iff.mp h
        obtain ⟨g1, g2⟩ := rest2_lt hr hlt hx
        refine Or.inr ⟨i, k, m, j, l, hh, hi, hk, hm, hj, hl, hhh, n1, n2, n3, n4, n5, n6, g2 _ (by simp), g2 _ (by simp), g2 _ (by simp), ?_⟩
        simp only [sumA, List.map_cons, List.map_nil, List.sum_cons, List.sum_nil] at g1
        omega
  · simp only [ckB, Bool.and_eq_true, Bool.not_eq_true'] at hB
    obtain ⟨hB2, hB3⟩ := hB
    have use : ∀ P Q : List Nat, inW R C P Q = true → sumA a P < sumA a Q → (∀ x ∈ P, S.testBit x = true) → ∃ r c, 1 ≤ r ∧ r < 2 ^ R ∧ 1 ≤ c ∧ c < 2 ^ C ∧ bcN r = bcN c ∧ ∃ p ∈ goP R C r R c, ∃ q ∈ goP R C r R c, sumA a p < sumA a q ∧ ∀ x ∈ p, S.testBit x = true := by
      intro P Q hw hlt hx
      unfold inW at hw
      simp only [Bool.and_eq_true, decide_eq_true_eq, beq_iff_eq, List.any_eq_true, List.isPerm_iff] at hw
      obtain ⟨⟨⟨⟨⟨⟨w1, w2⟩, w3⟩, w4⟩, w5⟩, p, hp, hpp⟩, q, hq, hqq⟩ := hw
      exact ⟨_, _, w1, w2, w3, w4, w5, p, hp, q, hq, by rw [sumA_perm hpp, sumA_perm hqq]; exact hlt, fun x hx2 => hx x (hpp.mem_iff.mp hx2)⟩
    rintro (⟨i, k, j, l, hi, hk, hj, hl, n1, n2, t1, t2, hlt⟩ | ⟨i, k, m, j, l, hh, hi, hk, hm, hj, hl, hhh, n1, n2, n3, n4, n5, n6, t1, t2, t3, hlt⟩)
    · refine use [i * C + j, k * C + l] [i * C + l, k * C + j] ?_ (by simp only [sumA, List.map_cons, List.map_nil, List.sum_cons, List.sum_nil]; omega) (fun x hx => ?_)
      · cases hq : inW R C [i * C + j, k * C + l] [i * C + l, k * C + j] with
        | true => rfl
        | false =>
          have := (un2_iff (f := fun P Q => !inW R C P Q)).mpr ⟨i, k, j, l, hi, hk, hj, hl, n1, n2, (by rw [hq]; rfl : (!inW R C [i * C + j, k * C + l] [i * C + l, k * C + j]) = true)⟩
          rw [this] at hB2
          exact absurd hB2 (by decide)
      · simp only [List.mem_cons, List.not_mem_nil, or_false] at hx
        rcases hx with rfl | rfl <;> assumption
    · refine use [i * C + j, k * C + l, m * C + hh] [i * C + l, k * C + hh, m * C + j] ?_ (by simp only [sumA, List.map_cons, List.map_nil, List.sum_cons, List.sum_nil]; omega) (fun x hx => ?_)
      · cases hq : inW R C [i * C + j, k * C + l, m * C + hh] [i * C + l, k * C + hh, m * C + j] with
        | true => rfl
        | false =>
          have := (un3_iff (f := fun P Q => !inW R C P Q)).mpr ⟨i, k, m, j, l, hh, hi, hk, hm, hj, hl, hhh, n1, n2, n3, n4, n5, n6, (by rw [hq]; rfl : (!inW R C [i * C + j, k * C + l, m * C + hh] [i * C + l, k * C + hh, m * C + j]) = true)⟩
          rw [this] at hB3
          exact absurd hB3 (by decide)
      · simp only [List.mem_cons, List.not_mem_nil, or_false] at hx
        rcases hx with rfl | rfl | rfl <;> assumption
theorem bad_mono {R C : Nat} {a : Nat → Nat} {S T : Nat} (h : badS R C a S) (hs : ∀ x, S.testBit x = true → T.testBit x = true) : badS R C a T := by
  rcases h with ⟨i, k, j, l, hi, hk, hj, hl, n1, n2, t1, t2, hlt⟩ | ⟨i, k, m, j, l, hh, hi, hk, hm, hj, hl, hhh, n1, n2, n3, n4, n5, n6, t1, t2, t3, hlt⟩
  · exact Or.inl ⟨i, k, j, l, hi, hk, hj, hl, n1, n2, hs _ t1, hs _ t2, hlt⟩
  · exact Or.inr ⟨i, k, m, j, l, hh, hi, hk, hm, hj, hl, hhh, n1, n2, n3, n4, n5, n6, hs _ t1, hs _ t2, hs _ t3, hlt⟩
theorem bad_one {R C : Nat} {a : Nat → Nat} {x : Nat} : ¬ badS R C a (2 ^ x) := by
  rintro (⟨i, k, j, l, hi, hk, hj, hl, n1, n2, t1, t2, hlt⟩ | ⟨i, k, m, j, l, hh, hi, hk, hm, hj, hl, hhh, n1, n2, n3, n4, n5, n6, t1, t2, t3, hlt⟩)
  · rw [Nat.testBit_two_pow, decide_eq_true_eq] at t1 t2
    exact n1 (by rw [← dm_div (r := i) hj, ← t1, t2, dm_div hl])
  · rw [Nat.testBit_two_pow, decide_eq_true_eq] at t1 t2
    exact n1 (by rw [← dm_div (r := i) hj, ← t1, t2, dm_div hl])
theorem bad_0 {R C : Nat} {a : Nat → Nat} : ¬ badS R C a 0 := by
  rintro (⟨i, k, j, l, hi, hk, hj, hl, n1, n2, t1, t2, hlt⟩ | ⟨i, k, m, j, l, hh, hi, hk, hm, hj, hl, hhh, n1, n2, n3, n4, n5, n6, t1, t2, t3, hlt⟩)
  · simp at t1
  · simp at t1
theorem unt_mono {R C : Nat} {a : Nat → Nat} {S T : Nat} (hd : okD R C) (hT : T < 2 ^ (R * C)) (hs : ∀ x, S.testBit x = true → T.testBit x = true) (hS : S < 2 ^ (R * C)) (h : untN R C a T = false) : untN R C a S = false := by
  cases hq : untN R C a S with
  | false => rfl
  | true =>
    have := (unt_bad hd hT).mpr (bad_mono ((unt_bad hd hS).mp hq) hs)
    rw [this] at h
    exact absurd h (by decide)
theorem unt_one {R C : Nat} {a : Nat → Nat} {x : Nat} (hd : okD R C) (hx : x < R * C) : untN R C a (2 ^ x) = false := by
  cases hq : untN R C a (2 ^ x) with
  | false => rfl
  | true => exact absurd ((unt_bad hd (Nat.pow_lt_pow_right (by decide) hx)).mp hq) bad_one
theorem unt_0 {R C : Nat} {a : Nat → Nat} (hd : okD R C) : untN R C a 0 = false := by
  cases hq : untN R C a 0 with
  | false => rfl
  | true => exact absurd ((unt_bad hd (Nat.two_pow_pos _)).mp hq) bad_0
