theorem iZ_nI_add (z : Int) (n : Nat) : iZ z + nI n = iZ (z + n) := by rw [nI_Z, iZ_add]
theorem nI_iZ_add (n : Nat) (z : Int) : nI n + iZ z = iZ (n + z) := by rw [nI_Z, iZ_add]
theorem nI_nI_sub (a b : Nat) : nI a - nI b = iZ ((a : Int) - b) := by rw [nI_Z, nI_Z, iZ_sub]
theorem iZ_eq_nI {z : Int} {n : Nat} (h : zR z) (hn : n < 2147483648) : iZ z = nI n ↔ z = n := by
  rw [nI_Z, iZ_eq h ⟨by omega, by omega⟩]
theorem and_bit (m k : Nat) : m &&& 1 <<< k = 0 ↔ m.testBit k = false := by
  rw [Nat.one_shiftLeft]
  constructor
  · intro h
    have h2 : (m &&& 2 ^ k).testBit k = false := by rw [h]; simp
    rw [Nat.testBit_and, Nat.testBit_two_pow_self, Bool.and_true] at h2
    exact h2
  · intro h
    apply Nat.eq_of_testBit_eq
    intro j
    rw [Nat.testBit_and, Nat.testBit_two_pow]
    by_cases hj : k = j
    · subst hj; simp [h]
    · simp [hj]
/-- a set by its members -/
def mkB (p : Nat → Bool) : Nat → Nat
  | 0 => 0
  | n + 1 => mkB p n ||| (if p n = true then 1 <<< n else 0)
theorem mkB_bit (p : Nat → Bool) (j : Nat) : ∀ n, (mkB p n).testBit j = (decide (j < n) && p j)
  | 0 => by simp [mkB]
  | n + 1 => by
    simp only [mkB, Nat.testBit_or, mkB_bit p j n]
    by_cases hj : j = n
    · subst hj
      cases hp : p j <;> simp [Nat.one_shiftLeft, Nat.testBit_two_pow_self]
    · have h1 : (if p n = true then 1 <<< n else 0).testBit j = false := by
        split
        · rw [Nat.one_shiftLeft, Nat.testBit_two_pow_of_ne (Ne.symm hj)]
        · simp
      rw [h1, Bool.or_false]
      have h2 : decide (j < n) = decide (j < n + 1) := by
        by_cases h : j < n
        · simp [h]; omega
        · simp [h]; omega
      rw [h2]
theorem mkB_lt (p : Nat → Bool) : ∀ n, mkB p n < 2 ^ n
  | 0 => by simp [mkB]
  | n + 1 => by
    simp only [mkB]
    apply Nat.or_lt_two_pow
    · exact Nat.lt_trans (mkB_lt p n) (Nat.pow_lt_pow_right (by decide) (by omega))
    · split
      · rw [Nat.one_shiftLeft]; exact Nat.pow_lt_pow_right (by decide) (by omega)
      · exact Nat.two_pow_pos _
theorem mkB_ext {p q : Nat → Bool} {n : Nat} (h : ∀ k, k < n → p k = q k) : mkB p n = mkB q n := by
  apply Nat.eq_of_testBit_eq
  intro j
  rw [mkB_bit, mkB_bit]
  by_cases hj : j < n
  · rw [h j hj]
  · simp [hj]
theorem mkB_full : ∀ n, n < 5 → mkB (fun _ => true) n = 1 <<< n - 1 := by decide +kernel
/-- without a member -/
def clr (m k : Nat) : Nat := m &&& (15 ^^^ 1 <<< k)
theorem clr_nI : ∀ m, m < 16 → ∀ k, k < 4 → nI m &&& (nI (1 <<< k) ^^^ (-1)) = nI (clr m k) := by decide +kernel
theorem clr_bit {m k j : Nat} (hm : m < 16) (hk : k < 4) : (clr m k).testBit j = (m.testBit j && !decide (j = k)) := by
  simp only [clr, Nat.testBit_and, Nat.testBit_xor]
  by_cases hj : j < 4
  · have h15 : ∀ j, j < 4 → (15 : Nat).testBit j = true := by decide
    rw [h15 j hj, Nat.one_shiftLeft]
    by_cases hjk : j = k
    · subst hjk; simp [Nat.testBit_two_pow_self]
    · rw [Nat.testBit_two_pow_of_ne (Ne.symm hjk)]; simp [hjk]
  · have : m.testBit j = false := Nat.testBit_lt_two_pow (Nat.lt_of_lt_of_le hm (Nat.pow_le_pow_right (n := 2) (by decide) (show 4 ≤ j by omega)))
    rw [this]; simp
theorem clr_lt {m k : Nat} (hm : m < 16) : clr m k < 16 := Nat.lt_of_le_of_lt Nat.and_le_left hm
theorem clr_mkB {p : Nat → Bool} {n k : Nat} (hn : n ≤ 4) (hk : k < 4) : clr (mkB p n) k = mkB (fun j => p j && !decide (j = k)) n := by
  have hm : mkB p n < 16 := Nat.lt_of_lt_of_le (mkB_lt p n) (Nat.pow_le_pow_right (by decide) hn)
  apply Nat.eq_of_testBit_eq
  intro j
  rw [clr_bit hm hk, mkB_bit, mkB_bit, Bool.and_assoc]
/-- the greatest of differences -/
def gdF (f : Nat → Int) : Nat → Int
  | 0 => -999
  | n + 1 => max (gdF f n) (f n)
theorem gdF_rng {f : Nat → Int} {n : Nat} (h : ∀ k, k < n → f k ≤ 999) : -999 ≤ gdF f n ∧ gdF f n ≤ 999 := by
  induction n with
  | zero => simp [gdF]
  | succ n ih =>
    have := ih (fun k hk => h k (by omega))
    have := h n (by omega)
    simp only [gdF]
    omega
/-- f(k) of a column c -/
def fcZ (R C : Nat) (a : Nat → Nat) (c k : Nat) : Int := gdF (fun r => (a (r * C + c) : Int) - a (r * C + k)) R
/-- whether a row is reached by one of the first n others -/
def rchB (R C : Nat) (a : Nat → Nat) (c o r : Nat) : Nat → Bool
  | 0 => false
  | n + 1 => rchB R C a c o r n || (o.testBit n && decide (fcZ R C a c n + a (r * C + n) = a (r * C + c)))
/-- the rows that are missed -/
def msdN (R C : Nat) (a : Nat → Nat) (c o : Nat) : Nat := mkB (fun r => !rchB R C a c o r C) R
/-- the columns that do not go, behind the first n -/
def nedN (R C : Nat) (a : Nat → Nat) : Nat → Nat
  | 0 => 1 <<< C - 1
  | n + 1 => if msdN R C a n (clr (nedN R C a n) n) = 0 then clr (nedN R C a n) n else nedN R C a n
section CONES
variable {G : sG} {d : Nat} {P : sQ} {w : sW} {g e R C : Nat} {a : Nat → Nat}
theorem t_greatestDifference {c q : Nat} (h : gAt G w g e R C a) (hd : okD R C) (ha : ∀ k, k < R * C → a k ≤ 999) (hc : c < C) (hq : q < C) (k : P (some (.int (iZ (fcZ R C a c q)))) w) : wpM G (d + 3) yX0_greatestDifference (0, 0) [.ref g, .int (nI c), .int (nI q)] w P := by
  obtain ⟨x1, x2⟩ := id h
  have hsz := hd.2.2.2.2
  have d0 := hd.1
  have d1 := hd.2.1
  have ix : ∀ r, r < R → a (r * C + c) ≤ 999 ∧ a (r * C + q) ≤ 999 ∧ r * C + c < 12 ∧ r * C + q < 12 := fun r hr => ⟨ha _ (hd.in hr hc), ha _ (hd.in hr hq), hd.in12 hr hc, hd.in12 hr hq⟩
  obtain ⟨i1, i2, i3, i4⟩ := ix 0 (by omega)
  refine eX0_greatestDifference ?_
  refine qX0_greatestDifference_0 ?_
  refine qX0_greatestDifference_1 ?_
  refine qX0_greatestDifference_2 ?_
  refine qX0_greatestDifference_3 (by assumption) (Nat.le_of_ble_eq_true rfl) (t_at h (by omega) ?_)
  refine qX0_greatestDifference_6 ?_
  refine qX0_greatestDifference_7 ?_
  refine qX0_greatestDifference_8 ?_
  refine qX0_greatestDifference_9 (by assumption) (Nat.le_of_ble_eq_true rfl) (t_at h (by omega) ?_)
  refine qX0_greatestDifference_12 ?_
  rw [nI_nI_sub]
  refine qX0_greatestDifference_13 ?_
  refine qX0_greatestDifference_14 ?_
  refine qX0_greatestDifference_15 ?_
  have L : ∀ m r z, r + m = R → 1 ≤ r → z = gdF (fun r => (a (r * C + c) : Int) - a (r * C + q)) r → wp G (d + 2) mX0_greatestDifference P 17 [some (.ref g), some (.int (nI c)), some (.int (nI q)), some (.int (iZ z)), some (.int (nI r))] [] w (0, 0) := by
    intro m
    induction m with
    | zero =>
      intro r z hr h1 hz
      refine qX0_greatestDifference_17 ?_
      refine qX0_greatestDifference_19 ?_
      refine qX0_greatestDifference_20 (by assumption) ?_
      refine nX0_greatestDifference_23 (by omega) (by omega) (fun h23 => ?_) (fun h23 => by exfalso; omega)
      refine qX0_greatestDifference_52 ?_
      refine qX0_greatestDifference_53 ?_
      rw [hz, show r = R by omega]
      exact k
    | succ m ih =>
      intro r z hr h1 hz
      obtain ⟨i1, i2, i3, i4⟩ := ix r (by omega)
      have hb := gdF_rng (f := fun r => (a (r * C + c) : Int) - a (r * C + q)) (n := r) (fun k hk => by
        have := ix k (by omega)
        omega)
      rw [← hz] at hb
      have z1 : zR z := ⟨by omega, by omega⟩
      have z2 : zR ((a (r * C + c) : Int) - a (r * C + q)) := ⟨by omega, by omega⟩
      refine qX0_greatestDifference_17 ?_
      refine qX0_greatestDifference_19 ?_
      refine qX0_greatestDifference_20 (by assumption) ?_
      refine nX0_greatestDifference_23 (by omega) (by omega) (fun h23 => by exfalso; omega) (fun h23 => ?_)
      refine qX0_greatestDifference_26 ?_
      refine qX0_greatestDifference_27 ?_
      refine qX0_greatestDifference_28 ?_
      refine qX0_greatestDifference_30 ?_
      refine qX0_greatestDifference_31 (by assumption) (Nat.le_of_ble_eq_true rfl) (t_at h (by omega) ?_)
      refine qX0_greatestDifference_34 ?_
      refine qX0_greatestDifference_35 ?_
      refine qX0_greatestDifference_37 ?_
      refine qX0_greatestDifference_38 (by assumption) (Nat.le_of_ble_eq_true rfl) (t_at h (by omega) ?_)
      refine qX0_greatestDifference_41 ?_
      rw [nI_nI_sub]
      refine zX0_greatestDifference_42 (by assumption) (by assumption) (Nat.le_of_ble_eq_true rfl) ?_
      refine qX0_greatestDifference_45 ?_
      first | refine nX0_greatestDifference_46 ?_ | refine qX0_greatestDifference_46 ?_
      refine qX0_greatestDifference_49 ?_
      exact ih (r + 1) _ (by omega) (by omega) (by rw [hz]; rfl)
  refine L (R - 1) 1 _ (by omega) (Nat.le_refl 1) ?_
  simp only [gdF]
  omega
theorem t_missedRows {c o : Nat} (h : gAt G w g e R C a) (hd : okD R C) (ha : ∀ k, k < R * C → a k ≤ 999) (hc : c < C) (ho : o < 16) (k : P (some (.int (nI (msdN R C a c o)))) w) : wpM G (d + 4) yX0_missedRows (0, 0) [.ref g, .int (nI c), .int (nI o)] w P := by
  obtain ⟨x1, x2⟩ := id h
  have hsz := hd.2.2.2.2
  have d1 := hd.2.1
  have d2 := hd.2.2.2.1
  have hp : ∀ n, n < 5 → 1 <<< n ≤ 16 ∧ 1 ≤ 1 <<< n ∧ 1 * 2 ^ n ≤ 16 := by decide
  refine eX0_missedRows ?_
  refine qX0_missedRows_0 ?_
  refine qX0_missedRows_1 ?_
  refine qX0_missedRows_2 (by assumption) ?_
  have hpR := hp R (by omega)
  refine nX0_missedRows_5 (by omega) (by omega) ?_
  refine qX0_missedRows_6 ?_
  first | refine nX0_missedRows_7 (by omega) ?_ | refine qX0_missedRows_7 ?_
  refine qX0_missedRows_8 ?_
  refine qX0_missedRows_9 ?_
  refine qX0_missedRows_10 ?_
  rw [← mkB_full R (by omega)]
  have L : ∀ m i (l5 l6 : Option Value), i + m = C → wp G (d + 3) mX0_missedRows P 12 [some (.ref g), some (.int (nI c)), some (.int (nI o)), some (.int (nI (mkB (fun r => !rchB R C a c o r i) R))), some (.int (nI i)), l5, l6] [] w (0, 0) := by
    intro m
    induction m with
    | zero =>
      intro i l5 l6 hi
      refine qX0_missedRows_12 ?_
      refine qX0_missedRows_14 ?_
      refine qX0_missedRows_15 (by assumption) ?_
      refine nX0_missedRows_18 (by omega) (by omega) (fun h18 => ?_) (fun h18 => by exfalso; omega)
      refine qX0_missedRows_93 ?_
      refine qX0_missedRows_94 ?_
      rw [show i = C by omega]
      exact k
    | succ m ih =>
      intro i l5 l6 hi
      have hpi := hp i (by omega)
      refine qX0_missedRows_12 ?_
      refine qX0_missedRows_14 ?_
      refine qX0_missedRows_15 (by assumption) ?_
      refine nX0_missedRows_18 (by omega) (by omega) (fun h18 => by exfalso; omega) (fun h18 => ?_)
      refine qX0_missedRows_21 ?_
      refine qX0_missedRows_22 ?_
      refine qX0_missedRows_23 ?_
      refine nX0_missedRows_25 (by omega) (by omega) ?_
      first | refine nX0_missedRows_26 ?_ | refine qX0_missedRows_26 ?_
      have hle : o &&& 1 <<< i ≤ o := Nat.and_le_left
      refine nX0_missedRows_27 (by omega) (fun h27 => ?_) (fun h27 => ?_)
      · rw [and_bit] at h27
        first | refine nX0_missedRows_87 ?_ | refine qX0_missedRows_87 ?_
        refine qX0_missedRows_90 ?_
        rw [show mkB (fun r => !rchB R C a c o r i) R = mkB (fun r => !rchB R C a c o r (i + 1)) R from mkB_ext (fun r hr => by simp [rchB, h27])]
        exact ih (i + 1) _ _ (by omega)
      · have hbit : o.testBit i = true := by
          cases hq : o.testBit i with
          | true => rfl
          | false => exact absurd ((and_bit o i).mpr hq) h27
        refine qX0_missedRows_30 ?_
        refine qX0_missedRows_31 ?_
        refine qX0_missedRows_32 ?_
        refine qX0_missedRows_34 (Nat.le_of_ble_eq_true rfl) (t_greatestDifference h hd ha hc (by omega) ?_)
        refine qX0_missedRows_37 ?_
        refine qX0_missedRows_39 ?_
        refine qX0_missedRows_40 ?_
        have hf : -999 ≤ fcZ R C a c i ∧ fcZ R C a c i ≤ 999 := gdF_rng (fun r hr => by
          have := ha _ (hd.in hr hc)
          omega)
        have L2 : ∀ p r, r + p = R → wp G (d + 3) mX0_missedRows P 42 [some (.ref g), some (.int (nI c)), some (.int (nI o)), some (.int (nI (mkB (fun s => !rchB R C a c o s i && !(decide (s < r) && decide (fcZ R C a c i + a (s * C + i) = a (s * C + c)))) R))), some (.int (nI i)), some (.int (iZ (fcZ R C a c i))), some (.int (nI r))] [] w (0, 0) := by
          intro p
          induction p with
          | zero =>
            intro r hr
            refine qX0_missedRows_42 ?_
            refine qX0_missedRows_44 ?_
            refine qX0_missedRows_45 (by assumption) ?_
            refine nX0_missedRows_48 (by omega) (by omega) (fun h48 => ?_) (fun h48 => by exfalso; omega)
            first | refine nX0_missedRows_87 ?_ | refine qX0_missedRows_87 ?_
            refine qX0_missedRows_90 ?_
            rw [show mkB (fun s => !rchB R C a c o s i && !(decide (s < r) && decide (fcZ R C a c i + a (s * C + i) = a (s * C + c)))) R = mkB (fun s => !rchB R C a c o s (i + 1)) R from mkB_ext (fun s hs => by simp [rchB, hbit, show s < r by omega])]
            exact ih (i + 1) _ _ (by omega)
          | succ p ih2 =>
            intro r hr
            have i1 := ha _ (hd.in (r := r) (c := i) (by omega) (by omega))
            have i2 := ha _ (hd.in (r := r) (c := c) (by omega) hc)
            have j1 := hd.in12 (r := r) (c := i) (by omega) (by omega)
            have j2 := hd.in12 (r := r) (c := c) (by omega) hc
            have hpr := hp r (by omega)
            refine qX0_missedRows_42 ?_
            refine qX0_missedRows_44 ?_
            refine qX0_missedRows_45 (by assumption) ?_
            refine nX0_missedRows_48 (by omega) (by omega) (fun h48 => by exfalso; omega) (fun h48 => ?_)
            refine qX0_missedRows_51 ?_
            refine qX0_missedRows_53 ?_
            refine qX0_missedRows_54 ?_
            refine qX0_missedRows_56 ?_
            refine qX0_missedRows_58 (by assumption) (Nat.le_of_ble_eq_true rfl) (t_at h (by omega) ?_)
            refine qX0_missedRows_61 ?_
            rw [iZ_nI_add]
            refine qX0_missedRows_62 ?_
            refine qX0_missedRows_63 ?_
            refine qX0_missedRows_65 ?_
            refine qX0_missedRows_66 (by assumption) (Nat.le_of_ble_eq_true rfl) (t_at h (by omega) ?_)
            have hm16 : ∀ p : Nat → Bool, mkB p R < 16 := fun p => Nat.lt_of_lt_of_le (mkB_lt p R) (Nat.pow_le_pow_right (by decide) (show R ≤ 4 by omega))
            refine qX0_missedRows_69 (fun hne => ?_) (fun heq => ?_)
            · rw [iZ_eq_nI ⟨by omega, by omega⟩ (by omega)] at hne
              first | refine nX0_missedRows_81 ?_ | refine qX0_missedRows_81 ?_
              refine qX0_missedRows_84 ?_
              rw [show mkB (fun s => !rchB R C a c o s i && !(decide (s < r) && decide (fcZ R C a c i + a (s * C + i) = a (s * C + c)))) R = mkB (fun s => !rchB R C a c o s i && !(decide (s < r + 1) && decide (fcZ R C a c i + a (s * C + i) = a (s * C + c)))) R from mkB_ext (fun s hs => by
                by_cases hsr : s = r
                · subst hsr; simp [hne]
                · simp [show (s < r + 1) = (s < r) from propext ⟨fun _ => by omega, fun _ => by omega⟩])]
              exact ih2 (r + 1) (by omega)
            · rw [iZ_eq_nI ⟨by omega, by omega⟩ (by omega)] at heq
              refine qX0_missedRows_72 ?_
              refine qX0_missedRows_73 ?_
              refine qX0_missedRows_74 ?_
              refine nX0_missedRows_76 (by omega) (by omega) ?_
              refine qX0_missedRows_77 ?_
              refine qX0_missedRows_78 ?_
              refine qX0_missedRows_79 ?_
              rw [clr_nI _ (hm16 _) _ (by omega), clr_mkB (by omega) (by omega)]
              refine qX0_missedRows_80 ?_
              first | refine nX0_missedRows_81 ?_ | refine qX0_missedRows_81 ?_
              refine qX0_missedRows_84 ?_
              rw [show mkB (fun j => (!rchB R C a c o j i && !(decide (j < r) && decide (fcZ R C a c i + a (j * C + i) = a (j * C + c)))) && !decide (j = r)) R = mkB (fun s => !rchB R C a c o s i && !(decide (s < r + 1) && decide (fcZ R C a c i + a (s * C + i) = a (s * C + c)))) R from mkB_ext (fun s hs => by
                by_cases hsr : s = r
                · subst hsr; simp [heq]
                · simp [hsr, show (s < r + 1) = (s < r) from propext ⟨fun _ => by omega, fun _ => by omega⟩])]
              exact ih2 (r + 1) (by omega)
        have := L2 R 0 (by omega)
        rw [show mkB (fun s => !rchB R C a c o s i && !(decide (s < 0) && decide (fcZ R C a c i + a (s * C + i) = a (s * C + c)))) R = mkB (fun r => !rchB R C a c o r i) R from mkB_ext (fun s hs => by simp)] at this
        exact this
  have := L C 0 none none (by omega)
  rw [show mkB (fun r => !rchB R C a c o r 0) R = mkB (fun _ => true) R from mkB_ext (fun s hs => by simp [rchB])] at this
  exact this
theorem nedN_lt {R C : Nat} {a : Nat → Nat} (hC : C ≤ 4) : ∀ n, nedN R C a n < 16
  | 0 => by
    have : ∀ C, C ≤ 4 → 1 <<< C - 1 < 16 := by decide
    exact this C hC
  | n + 1 => by
    simp only [nedN]
    split
    · exact clr_lt (nedN_lt hC n)
    · exact nedN_lt hC n
theorem t_neededColumns (h : gAt G w g e R C a) (hd : okD R C) (ha : ∀ k, k < R * C → a k ≤ 999) (k : P (some (.int (nI (nedN R C a C)))) w) : wpM G (d + 5) yX0_neededColumns (0, 0) [.ref g] w P := by
  obtain ⟨x1, x2⟩ := id h
  have hsz := hd.2.2.2.2
  have d1 := hd.2.1
  have d2 := hd.2.2.2.1
  have hp : ∀ n, n < 5 → 1 <<< n ≤ 16 ∧ 1 ≤ 1 <<< n ∧ 1 * 2 ^ n ≤ 16 := by decide
  have hpC := hp C (by omega)
  refine eX0_neededColumns ?_
  refine qX0_neededColumns_0 ?_
  refine qX0_neededColumns_1 ?_
  refine qX0_neededColumns_2 (by assumption) ?_
  refine nX0_neededColumns_5 (by omega) (by omega) ?_
  refine qX0_neededColumns_6 ?_
  first | refine nX0_neededColumns_7 (by omega) ?_ | refine qX0_neededColumns_7 ?_
  refine qX0_neededColumns_8 ?_
  refine qX0_neededColumns_9 ?_
  refine qX0_neededColumns_10 ?_
  have L : ∀ m i (l3 : Option Value), i + m = C → wp G (d + 4) mX0_neededColumns P 11 [some (.ref g), some (.int (nI (nedN R C a i))), some (.int (nI i)), l3] [] w (0, 0) := by
    intro m
    induction m with
    | zero =>
      intro i l3 hi
      refine qX0_neededColumns_11 ?_
      refine qX0_neededColumns_12 ?_
      refine qX0_neededColumns_13 (by assumption) ?_
      refine nX0_neededColumns_16 (by omega) (by omega) (fun h16 => ?_) (fun h16 => by exfalso; omega)
      refine qX0_neededColumns_44 ?_
      refine qX0_neededColumns_45 ?_
      rw [show i = C by omega]
      exact k
    | succ m ih =>
      intro i l3 hi
      have hpi := hp i (by omega)
      have hl := nedN_lt (R := R) (a := a) d2 i
      refine qX0_neededColumns_11 ?_
      refine qX0_neededColumns_12 ?_
      refine qX0_neededColumns_13 (by assumption) ?_
      refine nX0_neededColumns_16 (by omega) (by omega) (fun h16 => by exfalso; omega) (fun h16 => ?_)
      refine qX0_neededColumns_19 ?_
      refine qX0_neededColumns_20 ?_
      refine qX0_neededColumns_21 ?_
      refine nX0_neededColumns_22 (by omega) (by omega) ?_
      refine qX0_neededColumns_23 ?_
      refine qX0_neededColumns_24 ?_
      refine qX0_neededColumns_25 ?_
      rw [clr_nI _ hl _ (by omega)]
      refine qX0_neededColumns_26 ?_
      refine qX0_neededColumns_27 ?_
      refine qX0_neededColumns_28 ?_
      refine qX0_neededColumns_29 ?_
      refine qX0_neededColumns_30 (Nat.le_of_ble_eq_true rfl) (t_missedRows h hd ha (by omega) (clr_lt hl) ?_)
      have hml : msdN R C a i (clr (nedN R C a i) i) < 2 ^ R := mkB_lt _ R
      have hp16 : 2 ^ R ≤ 16 := Nat.pow_le_pow_right (by decide) (show R ≤ 4 by omega)
      refine nX0_neededColumns_33 (by omega) (fun h33 => ?_) (fun h33 => ?_)
      · first | refine nX0_neededColumns_38 ?_ | refine qX0_neededColumns_38 ?_
        refine qX0_neededColumns_41 ?_
        have := ih (i + 1) (some (.int (nI (clr (nedN R C a i) i)))) (by omega)
        simp only [nedN] at this
        rw [if_neg h33] at this
        exact this
      · refine qX0_neededColumns_36 ?_
        refine qX0_neededColumns_37 ?_
        first | refine nX0_neededColumns_38 ?_ | refine qX0_neededColumns_38 ?_
        refine qX0_neededColumns_41 ?_
        have := ih (i + 1) (some (.int (nI (clr (nedN R C a i) i)))) (by omega)
        simp only [nedN] at this
        rw [if_pos h33] at this
        exact this
  exact L C 0 _ (by omega)
end CONES
