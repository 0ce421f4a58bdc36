def lnN (b : Bool) (R C : Nat) : Nat := match b with
  | true => R
  | false => C
def plN (b : Bool) (C n k : Nat) : Nat := match b with
  | true => n * C + k
  | false => k * C + n
def bN (b : Bool) : Nat := match b with
  | true => 1
  | false => 0
theorem dm_div {r c C : Nat} (h : c < C) : (r * C + c) / C = r := by
  rw [Nat.mul_comm, Nat.mul_add_div (by omega), Nat.div_eq_of_lt h, Nat.add_zero]
theorem dm_mod {r c C : Nat} (h : c < C) : (r * C + c) % C = c := by
  rw [Nat.mul_comm, Nat.mul_add_mod, Nat.mod_eq_of_lt h]
theorem dm_eq (k C : Nat) : k / C * C + k % C = k := by rw [Nat.mul_comm]; exact Nat.div_add_mod k C
theorem dm_lt {k R C : Nat} (h : k < R * C) : k / C < R ∧ k % C < C := by
  have hC : 0 < C := by
    rcases Nat.eq_zero_or_pos C with z | z
    · rw [z] at h; omega
    · exact z
  exact ⟨Nat.div_lt_of_lt_mul (by rw [Nat.mul_comm]; exact h), Nat.mod_lt k hC⟩
theorem updN_s {a : Nat → Nat} {k x : Nat} : updN a k x k = x := by simp [updN]
theorem updN_n {a : Nat → Nat} {k x j : Nat} (h : j ≠ k) : updN a k x j = a j := by simp [updN, h]
def mnG (f : Nat → Nat) : Nat → Nat
  | 0 => 1999
  | n + 1 => min (mnG f n) (f n)
/-- the array turned over -/
def tuN (R C : Nat) (a : Nat → Nat) : Nat → Nat := fun k => a (k % R * C + k / R)
/-- the product -/
def prN (Ca Cb : Nat) (a b : Nat → Nat) : Nat → Nat := fun k => mnG (fun i => a (k / Cb * Ca + i) + b (i * Cb + k % Cb)) Ca
section GRID2
variable {G : sG} {d : Nat} {P : sQ} {w : sW} {g e R C : Nat} {a : Nat → Nat}
theorem t_isValue {x : Int32} (ht : ∀ i, i < 1000 → x = nI i → P (some (.int (nI 1))) w) (hf : ¬ inB x 1000 → P (some (.int (nI 0))) w) : wpM G (d + 1) yX9_isValue (0, 0) [.int x] w P := by
  refine eX9_isValue ?_
  refine qX9_isValue_0 ?_
  refine qX9_isValue_1 (fun h1 => ?_) (fun h1 => ?_)
  · refine qX9_isValue_15 ?_
    refine qX9_isValue_16 rfl ?_
    exact hf (inB_lt0 (by decide) h1)
  · refine qX9_isValue_4 ?_
    refine qX9_isValue_5 ?_
    refine qX9_isValue_8 (fun h8 => ?_) (fun h8 => ?_)
    · refine qX9_isValue_15 ?_
      refine qX9_isValue_16 rfl ?_
      refine hf (fun ⟨i, h2, h3⟩ => ?_)
      rw [h3, nI_ltI (by decide) (by omega)] at h8
      omega
    · refine qX9_isValue_11 ?_
      refine qX9_isValue_12 ?_
      refine qX9_isValue_16 rfl ?_
      obtain ⟨j, hj, hx⟩ := nI_of h1
      rw [hx, nI_ltI (by decide) (by omega)] at h8
      exact ht j (by omega) hx
theorem t_isSet {x : Int32} {n : Nat} (hn : n < 20) (ht : ∀ i, i < 2 ^ n → x = nI i → P (some (.int (nI 1))) w) (hf : ¬ inB x (2 ^ n) → P (some (.int (nI 0))) w) : wpM G (d + 1) yX9_isSet (0, 0) [.int x, .int (nI n)] w P := by
  have hp : 2 ^ n ≤ 2 ^ 20 := Nat.pow_le_pow_right (by decide) (by omega)
  have hs : (1 : Nat) <<< n = 2 ^ n := Nat.one_shiftLeft n
  refine eX9_isSet ?_
  refine qX9_isSet_0 ?_
  refine qX9_isSet_1 (fun h1 => ?_) (fun h1 => ?_)
  · refine qX9_isSet_15 ?_
    refine qX9_isSet_16 rfl ?_
    exact hf (inB_lt0 (by omega) h1)
  · refine qX9_isSet_4 ?_
    refine qX9_isSet_5 ?_
    refine qX9_isSet_6 ?_
    refine nX9_isSet_7 (by omega) (by omega) ?_
    rw [hs]
    refine qX9_isSet_8 (fun h8 => ?_) (fun h8 => ?_)
    · refine qX9_isSet_15 ?_
      refine qX9_isSet_16 rfl ?_
      exact hf (inB_ge (by omega) h8)
    · refine qX9_isSet_11 ?_
      refine qX9_isSet_12 ?_
      refine qX9_isSet_16 rfl ?_
      obtain ⟨i, hi, hx⟩ := inB_of (by omega) h1 h8
      exact ht i hi hx
theorem t_has {x y : Int32} (h : gAt G w g e R C a) (hR : R < 100) (hC : C < 100) (ht : ∀ r c, r < R → c < C → x = nI r → y = nI c → P (some (.int (nI 1))) w) (hf : ¬ (inB x R ∧ inB y C) → P (some (.int (nI 0))) w) : wpM G (d + 1) yX2_has (0, 0) [.ref g, .int x, .int y] w P := by
  obtain ⟨hg, he⟩ := id h
  refine eX2_has ?_
  refine qX2_has_0 ?_
  refine qX2_has_1 (fun h1 => ?_) (fun h1 => ?_)
  · refine qX2_has_28 ?_
    refine qX2_has_29 rfl ?_
    exact hf (fun z => inB_lt0 (by omega) h1 z.1)
  · refine qX2_has_4 ?_
    refine qX2_has_5 ?_
    refine qX2_has_6 (by assumption) ?_
    refine qX2_has_9 (fun h9 => ?_) (fun h9 => ?_)
    · refine qX2_has_28 ?_
      refine qX2_has_29 rfl ?_
      exact hf (fun z => inB_ge (by omega) h9 z.1)
    · refine qX2_has_12 ?_
      refine qX2_has_13 (fun h13 => ?_) (fun h13 => ?_)
      · refine qX2_has_28 ?_
        refine qX2_has_29 rfl ?_
        exact hf (fun z => inB_lt0 (by omega) h13 z.2)
      · refine qX2_has_16 ?_
        refine qX2_has_17 ?_
        refine qX2_has_18 (by assumption) ?_
        refine qX2_has_21 (fun h21 => ?_) (fun h21 => ?_)
        · refine qX2_has_28 ?_
          refine qX2_has_29 rfl ?_
          exact hf (fun z => inB_ge (by omega) h21 z.2)
        · refine qX2_has_24 ?_
          refine qX2_has_25 ?_
          refine qX2_has_29 rfl ?_
          obtain ⟨i, hi, hx⟩ := inB_of (by omega) h1 h9
          obtain ⟨j, hj, hy⟩ := inB_of (by omega) h13 h21
          exact ht i j hi hj hx hy
theorem t_lines (b : Bool) (h : gAt G w g e R C a) (k : P (some (.int (nI (lnN b R C)))) w) : wpM G (d + 1) yX2_lines (0, 0) [.ref g, .int (nI (bN b))] w P := by
  obtain ⟨hg, he⟩ := id h
  refine eX2_lines ?_
  refine qX2_lines_0 ?_
  cases b
  · refine nX2_lines_1 (by decide) (fun _ => ?_) (fun h => absurd rfl h)
    refine qX2_lines_11 ?_
    refine qX2_lines_12 (by assumption) ?_
    refine qX2_lines_15 ?_
    exact k
  · refine nX2_lines_1 (by decide) (fun h => absurd h (by decide)) (fun _ => ?_)
    refine qX2_lines_4 ?_
    refine qX2_lines_5 (by assumption) ?_
    refine qX2_lines_8 ?_
    refine qX2_lines_15 ?_
    exact k
theorem t_hasLine (b : Bool) {x : Int32} (h : gAt G w g e R C a) (hR : R < 100) (hC : C < 100) (ht : ∀ i, i < lnN b R C → x = nI i → P (some (.int (nI 1))) w) (hf : ¬ inB x (lnN b R C) → P (some (.int (nI 0))) w) : wpM G (d + 2) yX2_hasLine (0, 0) [.ref g, .int (nI (bN b)), .int x] w P := by
  obtain ⟨hg, he⟩ := id h
  have hl : lnN b R C < 100 := by cases b <;> assumption
  refine eX2_hasLine ?_
  refine qX2_hasLine_0 ?_
  refine qX2_hasLine_1 (fun h1 => ?_) (fun h1 => ?_)
  · refine qX2_hasLine_17 ?_
    refine qX2_hasLine_18 rfl ?_
    exact hf (inB_lt0 (by omega) h1)
  · refine qX2_hasLine_4 ?_
    refine qX2_hasLine_5 ?_
    refine qX2_hasLine_6 ?_
    refine qX2_hasLine_7 (by assumption) (Nat.le_of_ble_eq_true rfl) (t_lines b h ?_)
    refine qX2_hasLine_10 (fun h10 => ?_) (fun h10 => ?_)
    · refine qX2_hasLine_17 ?_
      refine qX2_hasLine_18 rfl ?_
      exact hf (inB_ge (by omega) h10)
    · refine qX2_hasLine_13 ?_
      refine qX2_hasLine_14 ?_
      refine qX2_hasLine_18 rfl ?_
      obtain ⟨i, hi, hx⟩ := inB_of (by omega) h1 h10
      exact ht i hi hx
theorem t_placeInLine (b : Bool) {n k : Nat} (h : gAt G w g e R C a) (kk : P (some (.int (nI (plN b C n k)))) w) : wpM G (d + 2) yX2_placeInLine (0, 0) [.ref g, .int (nI (bN b)), .int (nI n), .int (nI k)] w P := by
  obtain ⟨hg, he⟩ := id h
  refine eX2_placeInLine ?_
  refine qX2_placeInLine_0 ?_
  cases b
  · refine nX2_placeInLine_1 (by decide) (fun _ => ?_) (fun h => absurd rfl h)
    refine qX2_placeInLine_13 ?_
    refine qX2_placeInLine_14 ?_
    refine qX2_placeInLine_15 ?_
    refine qX2_placeInLine_16 (by assumption) (Nat.le_of_ble_eq_true rfl) (t_place h ?_)
    refine qX2_placeInLine_19 ?_
    exact kk
  · refine nX2_placeInLine_1 (by decide) (fun h => absurd h (by decide)) (fun _ => ?_)
    refine qX2_placeInLine_4 ?_
    refine qX2_placeInLine_5 ?_
    refine qX2_placeInLine_6 ?_
    refine qX2_placeInLine_7 (by assumption) (Nat.le_of_ble_eq_true rfl) (t_place h ?_)
    refine qX2_placeInLine_10 ?_
    refine qX2_placeInLine_19 ?_
    exact kk
theorem t_least (h : gAt G w g e R C a) (ha : ∀ k, k < R * C → a k ≤ 999) (hd : okD R C) (k : P (some (.int (nI (mnF a (R * C))))) w) : wpM G (d + 2) yX2_least (0, 0) [.ref g] w P := by
  obtain ⟨hg, he⟩ := id h
  obtain ⟨d1, d2, d3, d4, d5⟩ := hd
  have hp : 1 ≤ R * C := Nat.mul_le_mul d1 d3
  refine eX2_least ?_
  refine qX2_least_0 ?_
  refine qX2_least_1 (by assumption) ?_
  refine qX2_least_4 ?_
  first | refine fX2_least_5 (by assumption) (by omega) (by decide) ?_ | refine nX2_least_5 (by assumption) (by omega) (by decide) ?_
  refine qX2_least_6 ?_
  refine qX2_least_7 ?_
  refine qX2_least_8 ?_
  have loop : ∀ n j m, j + n = R * C → 1 ≤ j → m = mnF a j → m ≤ 999 → wp G (d + 1) mX2_least P 9 [some (.ref g), some (.int (nI m)), some (.int (nI j))] [] w (0, 0) := by
    intro n
    induction n with
    | zero =>
      intro j m hj h1 hm hm2
      refine qX2_least_9 ?_
      refine qX2_least_10 ?_
      refine qX2_least_11 (by assumption) (Nat.le_of_ble_eq_true rfl) (t_size h ?_)
      refine nX2_least_14 (by omega) (by omega) (fun h14 => ?_) (fun h14 => by exfalso; omega)
      refine qX2_least_34 ?_
      refine qX2_least_35 ?_
      rw [hm, show j = R * C by omega]
      exact k
    | succ n ih =>
      intro j m hj h1 hm hm2
      have hj2 : j < 12 := by omega
      have ha2 := ha j (by omega)
      refine qX2_least_9 ?_
      refine qX2_least_10 ?_
      refine qX2_least_11 (by assumption) (Nat.le_of_ble_eq_true rfl) (t_size h ?_)
      refine nX2_least_14 (by omega) (by omega) (fun h14 => by exfalso; omega) (fun h14 => ?_)
      refine qX2_least_17 ?_
      refine qX2_least_18 ?_
      refine qX2_least_19 (by assumption) ?_
      refine qX2_least_22 ?_
      first | refine fX2_least_23 (by assumption) (by omega) (by decide) ?_ | refine nX2_least_23 (by assumption) (by omega) (by decide) ?_
      refine nX2_least_24 (by omega) (by omega) (Nat.le_of_ble_eq_true rfl) ?_
      refine qX2_least_27 ?_
      first | refine nX2_least_28 ?_ | refine qX2_least_28 ?_
      refine qX2_least_31 ?_
      exact ih (j + 1) _ (by omega) (by omega) (by rw [hm]; rfl) (by omega)
  have h0 := ha 0 (by omega)
  exact loop (R * C - 1) 1 (a 0) (by omega) (Nat.le_refl 1) (by simp only [mnF]; omega) h0
def unlN (a b : Nat → Nat) : Nat → Nat
  | 0 => 0
  | n + 1 => unlN a b n + (if a n = b n then 0 else 1)
theorem unlN_le {a b : Nat → Nat} : ∀ n, unlN a b n ≤ n
  | 0 => Nat.le_refl 0
  | n + 1 => by
    have := unlN_le (a := a) (b := b) n
    simp only [unlN]
    split <;> omega
theorem t_unlikeIn {g2 e2 R2 C2 : Nat} {b : Nat → Nat} (h : gAt G w g e R C a) (h2 : gAt G w g2 e2 R2 C2 b) (ha : ∀ k, k < R * C → a k ≤ 999) (hb : ∀ k, k < R * C → b k ≤ 999) (hd : okD R C) (k : P (some (.int (nI (unlN a b (R * C))))) w) : wpM G (d + 2) yX2_unlikeIn (0, 0) [.ref g, .ref g2] w P := by
  obtain ⟨hg, he⟩ := id h
  obtain ⟨hg2, he2⟩ := id h2
  obtain ⟨d1, d2, d3, d4, d5⟩ := hd
  refine eX2_unlikeIn ?_
  refine qX2_unlikeIn_0 ?_
  refine qX2_unlikeIn_1 ?_
  refine qX2_unlikeIn_2 ?_
  refine qX2_unlikeIn_3 ?_
  have loop : ∀ n j m, j + n = R * C → m = unlN a b j → wp G (d + 1) mX2_unlikeIn P 4 [some (.ref g), some (.ref g2), some (.int (nI m)), some (.int (nI j))] [] w (0, 0) := by
    intro n
    induction n with
    | zero =>
      intro j m hj hm
      refine qX2_unlikeIn_4 ?_
      refine qX2_unlikeIn_5 ?_
      refine qX2_unlikeIn_6 (by assumption) (Nat.le_of_ble_eq_true rfl) (t_size h ?_)
      refine nX2_unlikeIn_9 (by omega) (by omega) (fun h9 => ?_) (fun h9 => by exfalso; omega)
      refine qX2_unlikeIn_36 ?_
      refine qX2_unlikeIn_37 ?_
      rw [hm, show j = R * C by omega]
      exact k
    | succ n ih =>
      intro j m hj hm
      have hm2 := unlN_le (a := a) (b := b) j
      have ha2 := ha j (by omega)
      have hb2 := hb j (by omega)
      refine qX2_unlikeIn_4 ?_
      refine qX2_unlikeIn_5 ?_
      refine qX2_unlikeIn_6 (by assumption) (Nat.le_of_ble_eq_true rfl) (t_size h ?_)
      refine nX2_unlikeIn_9 (by omega) (by omega) (fun h9 => by exfalso; omega) (fun h9 => ?_)
      refine qX2_unlikeIn_12 ?_
      refine qX2_unlikeIn_13 (by assumption) ?_
      refine qX2_unlikeIn_16 ?_
      first | refine fX2_unlikeIn_17 (by assumption) (by omega) (by decide) ?_ | refine nX2_unlikeIn_17 (by assumption) (by omega) (by decide) ?_
      refine qX2_unlikeIn_18 ?_
      refine qX2_unlikeIn_19 (by assumption) ?_
      refine qX2_unlikeIn_22 ?_
      first | refine fX2_unlikeIn_23 (by assumption) (by omega) (by decide) ?_ | refine nX2_unlikeIn_23 (by assumption) (by omega) (by decide) ?_
      refine nX2_unlikeIn_24 (by omega) (by omega) (fun h24 => ?_) (fun h24 => ?_)
      · first | refine nX2_unlikeIn_30 ?_ | refine qX2_unlikeIn_30 ?_
        refine qX2_unlikeIn_33 ?_
        exact ih (j + 1) _ (by omega) (by rw [hm]; simp only [unlN]; rw [if_pos h24]; rfl)
      · first | refine nX2_unlikeIn_27 ?_ | refine qX2_unlikeIn_27 ?_
        first | refine nX2_unlikeIn_30 ?_ | refine qX2_unlikeIn_30 ?_
        refine qX2_unlikeIn_33 ?_
        exact ih (j + 1) _ (by omega) (by rw [hm]; simp only [unlN]; rw [if_neg h24])
  exact loop (R * C) 0 0 (by omega) rfl
/-- how many unlike ones stand ahead -/
def freshN (a : Nat → Nat) (k : Nat) : Bool := (List.range k).all (fun i => a i != a k)
def unlE (a : Nat → Nat) : Nat → Nat
  | 0 => 0
  | n + 1 => unlE a n + (if freshN a n then 1 else 0)
theorem unlE_le {a : Nat → Nat} : ∀ n, unlE a n ≤ n
  | 0 => Nat.le_refl 0
  | n + 1 => by
    have := unlE_le (a := a) n
    simp only [unlE]
    split <;> omega
theorem freshN_t {a : Nat → Nat} {k : Nat} (h : ∀ i, i < k → a i ≠ a k) : freshN a k = true := by
  simp only [freshN, List.all_eq_true, List.mem_range, bne_iff_ne]
  exact h
theorem freshN_f {a : Nat → Nat} {k i : Nat} (hi : i < k) (h : a i = a k) : freshN a k = false := by
  cases hq : freshN a k with
  | false => rfl
  | true =>
    simp only [freshN, List.all_eq_true, List.mem_range, bne_iff_ne] at hq
    exact absurd h (hq i hi)
theorem t_unlikeEntries (h : gAt G w g e R C a) (ha : ∀ k, k < R * C → a k ≤ 999) (hd : okD R C) (k : P (some (.int (nI (unlE a (R * C))))) w) : wpM G (d + 2) yX2_unlikeEntries (0, 0) [.ref g] w P := by
  obtain ⟨hg, he⟩ := id h
  obtain ⟨d1, d2, d3, d4, d5⟩ := hd
  refine eX2_unlikeEntries ?_
  refine qX2_unlikeEntries_0 ?_
  refine qX2_unlikeEntries_1 ?_
  refine qX2_unlikeEntries_2 ?_
  refine qX2_unlikeEntries_3 ?_
  have loop : ∀ n j m (l3 : Option Value), j + n = R * C → m = unlE a j → wp G (d + 1) mX2_unlikeEntries P 4 [some (.ref g), some (.int (nI m)), some (.int (nI j)), l3] [] w (0, 0) := by
    intro n
    induction n with
    | zero =>
      intro j m l3 hj hm
      refine qX2_unlikeEntries_4 ?_
      refine qX2_unlikeEntries_5 ?_
      refine qX2_unlikeEntries_6 (by assumption) (Nat.le_of_ble_eq_true rfl) (t_size h ?_)
      refine nX2_unlikeEntries_9 (by omega) (by omega) (fun h9 => ?_) (fun h9 => by exfalso; omega)
      refine qX2_unlikeEntries_54 ?_
      refine qX2_unlikeEntries_55 ?_
      rw [hm, show j = R * C by omega]
      exact k
    | succ n ih =>
      intro j m l3 hj hm
      have hm2 := unlE_le (a := a) j
      have ha2 := ha j (by omega)
      refine qX2_unlikeEntries_4 ?_
      refine qX2_unlikeEntries_5 ?_
      refine qX2_unlikeEntries_6 (by assumption) (Nat.le_of_ble_eq_true rfl) (t_size h ?_)
      refine nX2_unlikeEntries_9 (by omega) (by omega) (fun h9 => by exfalso; omega) (fun h9 => ?_)
      refine qX2_unlikeEntries_12 ?_
      refine qX2_unlikeEntries_13 ?_
      have inner : ∀ p i, i + p = j → (∀ q, q < i → a q ≠ a j) → wp G (d + 1) mX2_unlikeEntries P 14 [some (.ref g), some (.int (nI m)), some (.int (nI j)), some (.int (nI i))] [] w (0, 0) := by
        intro p
        induction p with
        | zero =>
          intro i hi hq
          have hij : i = j := by omega
          refine qX2_unlikeEntries_14 ?_
          refine qX2_unlikeEntries_15 ?_
          refine nX2_unlikeEntries_16 (by omega) (by omega) (fun h16 => ?_) (fun h16 => by exfalso; omega)
          refine qX2_unlikeEntries_40 ?_
          refine qX2_unlikeEntries_41 ?_
          refine nX2_unlikeEntries_42 (by omega) (by omega) (fun h42 => by exfalso; omega) (fun h42 => ?_)
          first | refine nX2_unlikeEntries_45 ?_ | refine qX2_unlikeEntries_45 ?_
          first | refine nX2_unlikeEntries_48 ?_ | refine qX2_unlikeEntries_48 ?_
          refine qX2_unlikeEntries_51 ?_
          exact ih (j + 1) _ _ (by omega) (by rw [hm]; simp only [unlE]; rw [if_pos (freshN_t (by rw [← hij]; rw [hij]; exact fun q hq2 => hq q (by omega)))])
        | succ p ih2 =>
          intro i hi hq
          have ha3 := ha i (by omega)
          refine qX2_unlikeEntries_14 ?_
          refine qX2_unlikeEntries_15 ?_
          refine nX2_unlikeEntries_16 (by omega) (by omega) (fun h16 => by exfalso; omega) (fun h16 => ?_)
          refine qX2_unlikeEntries_19 ?_
          refine qX2_unlikeEntries_20 (by assumption) ?_
          refine qX2_unlikeEntries_23 ?_
          first | refine fX2_unlikeEntries_24 (by assumption) (by omega) (by decide) ?_ | refine nX2_unlikeEntries_24 (by assumption) (by omega) (by decide) ?_
          refine qX2_unlikeEntries_25 ?_
          refine qX2_unlikeEntries_26 (by assumption) ?_
          refine qX2_unlikeEntries_29 ?_
          first | refine fX2_unlikeEntries_30 (by assumption) (by omega) (by decide) ?_ | refine nX2_unlikeEntries_30 (by assumption) (by omega) (by decide) ?_
          refine nX2_unlikeEntries_31 (by omega) (by omega) (fun h31 => ?_) (fun h31 => ?_)
          · refine qX2_unlikeEntries_40 ?_
            refine qX2_unlikeEntries_41 ?_
            refine nX2_unlikeEntries_42 (by omega) (by omega) (fun h42 => ?_) (fun h42 => by exfalso; omega)
            first | refine nX2_unlikeEntries_48 ?_ | refine qX2_unlikeEntries_48 ?_
            refine qX2_unlikeEntries_51 ?_
            exact ih (j + 1) _ _ (by omega) (by rw [hm]; simp only [unlE]; rw [freshN_f (i := i) (by omega) h31]; rfl)
          · first | refine nX2_unlikeEntries_34 ?_ | refine qX2_unlikeEntries_34 ?_
            refine qX2_unlikeEntries_37 ?_
            exact ih2 (i + 1) (by omega) (fun q hq2 => by
              by_cases hqi : q = i
              · rw [hqi]; exact h31
              · exact hq q (by omega))
      exact inner j 0 (by omega) (fun q hq => absurd hq (Nat.not_lt_zero q))
  exact loop (R * C) 0 0 _ (by omega) rfl
end GRID2
