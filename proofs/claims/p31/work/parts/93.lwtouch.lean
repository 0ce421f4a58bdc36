/-! the law's test of sets that can be touched: numbers of rows that sink, pure -/
theorem int_min {Q : Int → Prop} {B : Int} (hb : ∀ x, Q x → B ≤ x) : ∀ (n : Nat) (x : Int), Q x → x ≤ B + n → ∃ y, Q y ∧ ∀ z, Q z → y ≤ z := by
  intro n
  induction n with
  | zero =>
    intro x hx hn
    exact ⟨x, hx, fun z hz => by
      have := hb z hz
      omega⟩
  | succ n ih =>
    intro x hx hn
    by_cases h : ∃ z, Q z ∧ z < x
    · obtain ⟨z, h1, h2⟩ := h
      exact ih z h1 (by omega)
    · exact ⟨x, hx, fun z hz => Int.not_lt.mp (fun q => h ⟨z, hz, q⟩)⟩
def feas (R C : Nat) (E : Nat → Nat) (S : Nat) (D : Nat → Int) : Prop := ∀ p, p < R * C → S.testBit p = true → ∀ i, i < R → D (p / C) ≤ D i + (E p : Int) - (E (i * C + p % C) : Int)
def rdI (R C : Nat) (E : Nat → Nat) (S : Nat) (u0 : Nat → Int) (b : Nat) (cur : Nat → Int) (st : Bool) : Prop := (∀ k, k < R → cur k ≤ u0 k) ∧ (∀ q, q < b → S.testBit (q / R) = true → cur (q / R / C) ≤ u0 (q % R) + (E (q / R) : Int) - (E (q % R * C + q / R % C) : Int)) ∧ (∀ D, feas R C E S D → (∀ k, k < R → D k ≤ u0 k) → ∀ k, k < R → D k ≤ cur k) ∧ (st = true → ∀ k, k < R → cur k = u0 k) ∧ (st = false → ∃ k, k < R ∧ cur k < u0 k) ∧ ∀ m : Int, (∀ k, k < R → m ≤ u0 k) → ∀ k, k < R → m - 999 * (b : Int) ≤ cur k
def upT (R C : Nat) (E : Nat → Nat) (S t : Nat) (u : Nat → Int) : Prop := (∀ k, k < R → u k ≤ 0) ∧ (1 ≤ t → ∀ i k x, i < R → k < R → eg C E S i k x → u k ≤ x) ∧ (2 ≤ t → ∀ i m k x y, i < R → m < R → k < R → eg C E S i m x → eg C E S m k y → u k ≤ x + y)
section TPURE
variable {R C : Nat} {E : Nat → Nat} {S : Nat}
theorem rdI_0 {u0 : Nat → Int} : rdI R C E S u0 0 u0 true := by
  refine ⟨fun _ _ => Int.le_refl _, fun q hq => absurd hq (Nat.not_lt_zero q), fun _ _ h => h, fun _ _ _ => rfl, fun h => (by cases h), fun m h k hk => ?_⟩
  have := h k hk
  omega
theorem rdI_skip {u0 cur : Nat → Int} {st : Bool} {p : Nat} (hR : 0 < R) (hS : S.testBit p = false) (h : rdI R C E S u0 (p * R) cur st) : rdI R C E S u0 ((p + 1) * R) cur st := by
  obtain ⟨h1, h2, h3, h4, h5, h6⟩ := h
  refine ⟨h1, fun q hq ht => ?_, h3, h4, h5, fun m hm k hk => ?_⟩
  · by_cases hq1 : q < p * R
    · exact h2 q hq1 ht
    · exfalso
      have h7 : q / R = p := by
        rw [show q = p * R + (q - p * R) by omega]
        refine dv1 ?_
        rw [Nat.add_mul] at hq
        omega
      rw [h7, hS] at ht
      cases ht
  · have := h6 m hm k hk
    have h8 : p * R ≤ (p + 1) * R := Nat.mul_le_mul_right R (Nat.le_succ p)
    omega
theorem rdI_step {u0 cur : Nat → Int} {st : Bool} {p i : Nat} {to : Int} (hp : p < R * C) (hS : S.testBit p = true) (hi : i < R) (ha : ∀ q, q < R * C → E q ≤ 999) (hC : 0 < C) (hto : to = cur i + (E p : Int) - (E (i * C + p % C) : Int)) (h : rdI R C E S u0 (p * R + i) cur st) : rdI R C E S u0 (p * R + (i + 1)) (updZ cur (p / C) (if cur (p / C) < to then cur (p / C) else to)) (st && decide (cur (p / C) ≤ to)) := by
  obtain ⟨h1, h2, h3, h4, h5, h6⟩ := h
  have hk := dvlt hp
  have e1 := ha p hp
  have e2 := ha (i * C + p % C) (ml1 hi (Nat.mod_lt _ hC))
  have hmin : (if cur (p / C) < to then cur (p / C) else to) ≤ cur (p / C) ∧ (if cur (p / C) < to then cur (p / C) else to) ≤ to ∧ ((if cur (p / C) < to then cur (p / C) else to) = cur (p / C) ∨ (if cur (p / C) < to then cur (p / C) else to) = to) := by
    split
    · exact ⟨Int.le_refl _, by omega, Or.inl rfl⟩
    · exact ⟨by omega, Int.le_refl _, Or.inr rfl⟩
  generalize (if cur (p / C) < to then cur (p / C) else to) = mn at hmin ⊢
  obtain ⟨m1, m2, m3⟩ := hmin
  have hle : ∀ k, updZ cur (p / C) mn k ≤ cur k := fun k => by
    by_cases hkk : k = p / C
    · rw [hkk, updZ_s]; exact m1
    · rw [updZ_n hkk]; exact Int.le_refl _
  refine ⟨fun k hk => Int.le_trans (hle k) (h1 k hk), fun q hq ht => ?_, fun D hD hD0 k hk2 => ?_, fun hst k hk2 => ?_, fun hst => ?_, fun m hm k hk2 => ?_⟩
  · by_cases hq1 : q < p * R + i
    · exact Int.le_trans (hle _) (h2 q hq1 ht)
    · have hq2 : q = p * R + i := by omega
      rw [hq2, dv1 hi, md1 hi, updZ_s]
      have := h1 i hi
      omega
  · have d1 := h3 D hD hD0
    have d2 := hD p hp hS i hi
    have d3 := d1 i hi
    by_cases hkk : k = p / C
    · rw [hkk, updZ_s]
      have d4 := d1 _ hk
      omega
    · rw [updZ_n hkk]; exact d1 k hk2
  · rw [Bool.and_eq_true, decide_eq_true_eq] at hst
    by_cases hkk : k = p / C
    · rw [hkk, updZ_s]
      have := h4 hst.1 _ hk
      omega
    · rw [updZ_n hkk]; exact h4 hst.1 k hk2
  · cases hs : st with
    | false =>
      obtain ⟨k, k1, k2⟩ := h5 hs
      exact ⟨k, k1, Int.lt_of_le_of_lt (hle k) k2⟩
    | true =>
      rw [hs, Bool.true_and, decide_eq_false_iff_not] at hst
      refine ⟨p / C, hk, ?_⟩
      rw [updZ_s]
      have := h1 _ hk
      omega
  · have d1 := h6 m hm i hi
    have d2 := h6 m hm k hk2
    by_cases hkk : k = p / C
    · rw [hkk, updZ_s]
      rw [hkk] at d2
      omega
    · rw [updZ_n hkk]; omega
theorem rd_eg {u0 cur : Nat → Int} {st : Bool} {i k : Nat} {x : Int} (h : rdI R C E S u0 (R * C * R) cur st) (hi : i < R) (hk : k < R) (he : eg C E S i k x) : cur k ≤ u0 i + x := by
  obtain ⟨j, hj, ht, rfl⟩ := he
  have h2 := h.2.1 ((k * C + j) * R + i) (ml1 (ml1 hk hj) hi) (by rw [dv1 hi]; exact ht)
  rw [dv1 hi, dv1 hj, md1 hi, md1 hj] at h2
  omega
theorem up_next {u0 cur : Nat → Int} {st : Bool} {t : Nat} (h : rdI R C E S u0 (R * C * R) cur st) (hu : upT R C E S t u0) : upT R C E S (t + 1) cur := by
  obtain ⟨u1, u2, u3⟩ := hu
  refine ⟨fun k hk => Int.le_trans (h.1 k hk) (u1 k hk), fun _ i k x hi hk he => ?_, fun ht i m k x y hi hm hk h1 h2 => ?_⟩
  · have := rd_eg h hi hk he
    have := u1 i hi
    omega
  · have := rd_eg h hm hk h2
    have := u2 (by omega) i m x hi hm h1
    omega
theorem up2 {u : Nat → Int} {t i m k : Nat} {x y : Int} (hu : upT R C E S t u) (ht : R ≤ t) (hi : i < R) (hm : m < R) (hk : k < R) (h1 : eg C E S i m x) (h2 : eg C E S m k y) : u k ≤ x + y := by
  by_cases hR : R = 1
  · have e1 : i = m := by omega
    have e2 : k = m := by omega
    subst e1
    subst e2
    have a1 := eg1 h1
    have a2 := eg1 h2
    have := hu.1 k hk
    omega
  · exact hu.2.2 (by omega) i m k x y hi hm hk h1 h2
theorem wk_up {u : Nat → Int} {t i k : Nat} {x : Int} (nb : ¬ badS R C E S) (hR : R ≤ 3) (hu : upT R C E S t u) (ht : R ≤ t) (hi : i < R) (hk : k < R) (h : wk R C E S i k x) : u k ≤ x := by
  have u1 := hu.1 k hk
  rcases h with ⟨_, h0⟩ | ⟨y, h1, h2⟩ | ⟨m, y, z, hm, h1, h2, h3⟩ | ⟨m, p, y, z, v, hm, hp, h1, h2, h3, h4⟩
  · omega
  · have := hu.2.1 (by omega) i k y hi hk h1
    omega
  · have := up2 hu ht hi hm hk h1 h2
    omega
  · by_cases c1 : i = m
    · subst c1
      have := eg1 h1
      have := up2 hu ht hi hp hk h2 h3
      omega
    · by_cases c2 : m = p
      · subst c2
        have := eg1 h2
        have := up2 hu ht hi hm hk h1 h3
        omega
      · by_cases c3 : p = k
        · subst c3
          have := eg1 h3
          have := up2 hu ht hi hm hk h1 h2
          omega
        · by_cases c4 : i = p
          · subst c4
            have := eg2 nb hi hm h1 h2
            have := hu.2.1 (by omega) i k v hi hk h3
            omega
          · by_cases c5 : m = k
            · subst c5
              have := eg2 nb hm hp h2 h3
              have := hu.2.1 (by omega) i m y hi hm h1
              omega
            · by_cases c6 : i = k
              · subst c6
                have := eg3 nb hi hm hp h1 h2 h3
                omega
              · omega
theorem pot {R C : Nat} {E : Nat → Nat} {S : Nat} (nb : ¬ badS R C E S) (hd : okD R C) (ha : ∀ q, q < R * C → E q ≤ 999) : ∃ D : Nat → Int, feas R C E S D ∧ (∀ k, k < R → D k ≤ 0) ∧ ∀ k, k < R → ∃ i, i < R ∧ wk R C E S i k (D k) := by
  have h1 : ∀ k, ∃ y, k < R → ((∃ i, i < R ∧ wk R C E S i k y) ∧ ∀ z, (∃ i, i < R ∧ wk R C E S i k z) → y ≤ z) := fun k => by
    by_cases hk : k < R
    · obtain ⟨y, y1, y2⟩ := int_min (Q := fun z => ∃ i, i < R ∧ wk R C E S i k z) (B := -2997) (fun z ⟨i, hi, hz⟩ => wk_lo hd ha hi hk hz) 2997 0 ⟨k, hk, Or.inl ⟨rfl, Int.le_refl _⟩⟩ (by omega)
      exact ⟨y, fun _ => ⟨y1, y2⟩⟩
    · exact ⟨0, fun q => absurd q hk⟩
  refine ⟨fun k => Classical.choose (h1 k), ?_, ?_, fun k hk => (Classical.choose_spec (h1 k) hk).1⟩
  · intro p hp ht i hi
    have hk := dvlt hp
    have hC : 0 < C := hd.2.2.1
    obtain ⟨i', hi', hw⟩ := (Classical.choose_spec (h1 i) hi).1
    have he : eg C E S i (p / C) ((E p : Int) - E (i * C + p % C)) := ⟨p % C, Nat.mod_lt _ hC, by rw [mdv]; exact ht, by rw [mdv]⟩
    have := (Classical.choose_spec (h1 (p / C)) hk).2 _ ⟨i', hi', wk_ext nb hd hi' hi hk hw he⟩
    show Classical.choose (h1 (p / C)) ≤ Classical.choose (h1 i) + (E p : Int) - (E (i * C + p % C) : Int)
    omega
  · intro k hk
    exact (Classical.choose_spec (h1 k) hk).2 _ ⟨k, hk, Or.inl ⟨rfl, Int.le_refl _⟩⟩
theorem rd_end {u cur : Nat → Int} {st : Bool} {t : Nat} (nb : ¬ badS R C E S) (hd : okD R C) (ha : ∀ q, q < R * C → E q ≤ 999) (hR : R ≤ 3) (hu : upT R C E S t u) (ht : R ≤ t) (hlo : ∀ D, feas R C E S D → (∀ k, k < R → D k ≤ 0) → ∀ k, k < R → D k ≤ u k) (h : rdI R C E S u (R * C * R) cur st) : st = true := by
  obtain ⟨D, D1, D2, D3⟩ := pot nb hd ha
  cases hs : st with
  | true => rfl
  | false =>
    obtain ⟨k, k1, k2⟩ := h.2.2.2.2.1 hs
    have h1 := h.2.2.1 D D1 (hlo D D1 D2) k k1
    obtain ⟨i, hi, hw⟩ := D3 k k1
    have h2 := wk_up nb hR hu ht hi k1 hw
    omega
theorem rd_good {u cur : Nat → Int} (h : rdI R C E S u (R * C * R) cur true) : ¬ badS R C E S := by
  have he : ∀ i k x, i < R → k < R → eg C E S i k x → u k ≤ u i + x := fun i k x hi hk hx => by
    have h1 := rd_eg h hi hk hx
    rw [h.2.2.2.1 rfl k hk] at h1
    exact h1
  rintro (⟨i, k, j, l, hi, hk, hj, hl, _, _, b1, b2, b3⟩ | ⟨i, k, m, j, l, x, hi, hk, hm, hj, hl, hx, _, _, _, _, _, _, b1, b2, b3, b4⟩)
  · have a1 := he k i _ hk hi (eg_mk hj b1)
    have a2 := he i k _ hi hk (eg_mk hl b2)
    omega
  · have a1 := he m i _ hm hi (eg_mk hj b1)
    have a2 := he i k _ hi hk (eg_mk hl b2)
    have a3 := he k m _ hk hm (eg_mk hx b3)
    omega
end TPURE
