/-- how many members -/
def bcF (m : Nat) : Nat → Nat
  | 0 => 0
  | n + 1 => bcF m n + (m >>> n &&& 1)
def bcN (m : Nat) : Nat := bcF m 12
def bcI (x : Int32) : Int32 :=
  let x1 := x - ((x.toUInt32 >>> ((nI 1).toUInt32 &&& Int32.toUInt32 31)).toInt32 &&& nI 1431655765)
  let x2 := (x1 &&& nI 858993459) + ((x1.toUInt32 >>> ((nI 2).toUInt32 &&& Int32.toUInt32 31)).toInt32 &&& nI 858993459)
  let x3 := (x2 + (x2.toUInt32 >>> ((nI 4).toUInt32 &&& Int32.toUInt32 31)).toInt32) &&& nI 252645135
  let x4 := x3 + (x3.toUInt32 >>> ((nI 8).toUInt32 &&& Int32.toUInt32 31)).toInt32
  let x5 := x4 + (x4.toUInt32 >>> ((nI 16).toUInt32 &&& Int32.toUInt32 31)).toInt32
  x5 &&& nI 63
theorem bcI_ok2 : ∀ i, i < 64 → ∀ j, j < 64 → bcI (nI (i * 64 + j)) = nI (bcN (i * 64 + j)) := by decide +kernel
theorem bcI_ok (m : Nat) (h : m < 4096) : bcI (nI m) = nI (bcN m) := by
  have := bcI_ok2 (m / 64) (by omega) (m % 64) (Nat.mod_lt _ (by decide))
  rw [show m / 64 * 64 + m % 64 = m by omega] at this
  exact this
theorem bcN_le : ∀ m, bcN m ≤ 12 := by
  intro m
  have h : ∀ n, bcF m n ≤ n := by
    intro n
    induction n with
    | zero => exact Nat.le_refl 0
    | succ n ih =>
      have : m >>> n &&& 1 ≤ 1 := Nat.and_le_right
      simp only [bcF]
      omega
  exact h 12
/-- whether two ints are a part: a set of rows, and of as many columns -/
def isPt (R C : Nat) (x y : Int32) : Prop := ∃ r c, 1 ≤ r ∧ r < 2 ^ R ∧ c < 2 ^ C ∧ x = nI r ∧ y = nI c ∧ bcN r = bcN c
/-- the ways on from a row: m rows are left, with the columns that are left -/
def goW (R C : Nat) (a : Nat → Nat) (rows : Nat) : Nat → Nat → Nat → Nat → List (Nat × Nat)
  | 0, _, sum, pl => [(sum, pl)]
  | m + 1, cols, sum, pl => if rows.testBit (R - (m + 1)) = false then goW R C a rows m cols sum pl else (List.range C).flatMap (fun c => if cols.testBit c = true then goW R C a rows m (clr cols c) (sum + a ((R - (m + 1)) * C + c)) (pl ||| 1 <<< ((R - (m + 1)) * C + c)) else [])
/-- how many -/
def cwW (R C : Nat) (rows : Nat) : Nat → Nat → Nat
  | 0, _ => 1
  | m + 1, cols => if rows.testBit (R - (m + 1)) = false then cwW R C rows m cols else ((List.range C).map (fun c => if cols.testBit c = true then cwW R C rows m (clr cols c) else 0)).sum
theorem goW_len (R C : Nat) (a : Nat → Nat) (rows : Nat) : ∀ m cols sum pl, (goW R C a rows m cols sum pl).length = cwW R C rows m cols
  | 0, _, _, _ => rfl
  | m + 1, cols, sum, pl => by
    simp only [goW, cwW]
    split
    · exact goW_len R C a rows m cols sum pl
    · rw [List.length_flatMap]
      congr 1
      apply List.map_congr_left
      intro c _
      split
      · exact goW_len R C a rows m _ _ _
      · rfl
theorem goW_sum (R C : Nat) (a : Nat → Nat) (ha : ∀ k, a k ≤ 999) (rows : Nat) : ∀ m cols sum pl, ∀ x ∈ goW R C a rows m cols sum pl, x.1 ≤ sum + 999 * m
  | 0, _, _, _ => by simp [goW]
  | m + 1, cols, sum, pl => by
    intro x hx
    simp only [goW] at hx
    split at hx
    · have := goW_sum R C a ha rows m cols sum pl x hx
      omega
    · rw [List.mem_flatMap] at hx
      obtain ⟨c, _, hx⟩ := hx
      split at hx
      · have := goW_sum R C a ha rows m _ _ _ x hx
        have := ha ((R - (m + 1)) * C + c)
        omega
      · simp at hx
/-- the ways as they are kept -/
def wyAt (G : sG) (w : sW) (v : Nat) (L : List (Nat × Nat)) : Prop := ∃ s q : Nat → Nat, w.1 v = ob 7 [.ref (v + 1), .ref (v + 2), .int (nI L.length)] ∧ w.1 (v + 1) = aN G 24 s ∧ w.1 (v + 2) = aN G 24 q ∧ L.length ≤ 24 ∧ ∀ i, i < L.length → s i = (L.getD i (0, 0)).1 ∧ q i = (L.getD i (0, 0)).2
def s3 (v : Nat) : Nat → Prop := fun q => v ≤ q ∧ q < v + 3
theorem wyAt.fr {G : sG} {w w' : sW} {S : Nat → Prop} {v : Nat} {L : List (Nat × Nat)} (h : wyAt G w v L) (hF : Fr w w' S) (hd : ∀ q, v ≤ q → q < v + 3 → ¬ S q) : wyAt G w' v L := by
  obtain ⟨s, q, h1, h2, h3, h4⟩ := h
  exact ⟨s, q, by rw [hF.2 _ (hd _ (by omega) (by omega))]; exact h1, by rw [hF.2 _ (hd _ (by omega) (by omega))]; exact h2, by rw [hF.2 _ (hd _ (by omega) (by omega))]; exact h3, h4⟩
section WAYS
variable {G : sG} {d : Nat} {P : sQ} {w : sW} {g e R C : Nat} {a : Nat → Nat}
theorem t_bitCount {m : Nat} (hm : m < 4096) (k : P (some (.int (nI (bcN m)))) w) : wpM G (d + 1) yJ6_bitCount_0f7a4 (0, 0) [.int (nI m)] w P := by
  refine eJ6_bitCount_0f7a4 ?_
  refine qJ6_bitCount_0f7a4_0 ?_
  refine qJ6_bitCount_0f7a4_1 ?_
  refine qJ6_bitCount_0f7a4_2 ?_
  refine qJ6_bitCount_0f7a4_3 ?_
  refine qJ6_bitCount_0f7a4_4 ?_
  refine qJ6_bitCount_0f7a4_7 ?_
  refine qJ6_bitCount_0f7a4_8 ?_
  refine qJ6_bitCount_0f7a4_9 ?_
  refine qJ6_bitCount_0f7a4_10 ?_
  refine qJ6_bitCount_0f7a4_11 ?_
  refine qJ6_bitCount_0f7a4_14 ?_
  refine qJ6_bitCount_0f7a4_15 ?_
  refine qJ6_bitCount_0f7a4_16 ?_
  refine qJ6_bitCount_0f7a4_17 ?_
  refine qJ6_bitCount_0f7a4_18 ?_
  refine qJ6_bitCount_0f7a4_21 ?_
  refine qJ6_bitCount_0f7a4_22 ?_
  refine qJ6_bitCount_0f7a4_23 ?_
  refine qJ6_bitCount_0f7a4_24 ?_
  refine qJ6_bitCount_0f7a4_25 ?_
  refine qJ6_bitCount_0f7a4_26 ?_
  refine qJ6_bitCount_0f7a4_27 ?_
  refine qJ6_bitCount_0f7a4_28 ?_
  refine qJ6_bitCount_0f7a4_29 ?_
  refine qJ6_bitCount_0f7a4_32 ?_
  refine qJ6_bitCount_0f7a4_33 ?_
  refine qJ6_bitCount_0f7a4_34 ?_
  refine qJ6_bitCount_0f7a4_35 ?_
  refine qJ6_bitCount_0f7a4_36 ?_
  refine qJ6_bitCount_0f7a4_38 ?_
  refine qJ6_bitCount_0f7a4_39 ?_
  refine qJ6_bitCount_0f7a4_40 ?_
  refine qJ6_bitCount_0f7a4_41 ?_
  refine qJ6_bitCount_0f7a4_42 ?_
  refine qJ6_bitCount_0f7a4_43 ?_
  refine qJ6_bitCount_0f7a4_45 ?_
  refine qJ6_bitCount_0f7a4_46 ?_
  refine qJ6_bitCount_0f7a4_47 ?_
  refine qJ6_bitCount_0f7a4_48 ?_
  refine qJ6_bitCount_0f7a4_49 ?_
  refine qJ6_bitCount_0f7a4_51 ?_
  refine qJ6_bitCount_0f7a4_52 ?_
  rw [← bcI_ok m hm] at k
  exact k
theorem t_isPart {x y : Int32} (h : gAt G w g e R C a) (hd : okD R C) (ht : ∀ r c, 1 ≤ r → r < 2 ^ R → c < 2 ^ C → x = nI r → y = nI c → bcN r = bcN c → P (some (.int (nI 1))) w) (hf : ¬ isPt R C x y → P (some (.int (nI 0))) w) : wpM G (d + 2) yX9_isPart (0, 0) [.ref g, .int x, .int y] w P := by
  obtain ⟨x1, x2⟩ := id h
  have d1 := hd.2.1
  have d2 := hd.2.2.2.1
  have pR : 2 ^ R ≤ 16 := Nat.pow_le_pow_right (n := 2) (by decide) (show R ≤ 4 by omega)
  have pC : 2 ^ C ≤ 16 := Nat.pow_le_pow_right (n := 2) (by decide) (show C ≤ 4 by omega)
  refine eX9_isPart ?_
  refine qX9_isPart_0 ?_
  refine qX9_isPart_1 (fun h1 => ?_) (fun h1 => ?_)
  · refine qX9_isPart_41 ?_
    refine qX9_isPart_42 rfl ?_
    refine hf (fun ⟨r, c, q1, q2, q3, q4, q5, q6⟩ => ?_)
    rw [q4, show (0 : Int32) = nI 0 from rfl, nI_eq (by omega) (by omega)] at h1
    omega
  · refine qX9_isPart_4 ?_
    refine qX9_isPart_5 ?_
    refine qX9_isPart_6 (by assumption) ?_
    refine qX9_isPart_9 (Nat.le_of_ble_eq_true rfl) (t_isSet (by omega) (fun r hr hx => ?_) (fun hx => ?_))
    · refine nX9_isPart_12 (by omega) (fun h12 => by exfalso; omega) (fun h12 => ?_)
      refine qX9_isPart_15 ?_
      refine qX9_isPart_16 ?_
      refine qX9_isPart_17 (by assumption) ?_
      refine qX9_isPart_20 (Nat.le_of_ble_eq_true rfl) (t_isSet (by omega) (fun c hc hy => ?_) (fun hy => ?_))
      · refine nX9_isPart_23 (by omega) (fun h23 => by exfalso; omega) (fun h23 => ?_)
        subst hx
        subst hy
        refine qX9_isPart_26 ?_
        refine qX9_isPart_27 (Nat.le_of_ble_eq_true rfl) (t_bitCount (by omega) ?_)
        refine qX9_isPart_30 ?_
        refine qX9_isPart_31 (Nat.le_of_ble_eq_true rfl) (t_bitCount (by omega) ?_)
        have b1 := bcN_le r
        have b2 := bcN_le c
        refine nX9_isPart_34 (by omega) (by omega) (fun h34 => ?_) (fun h34 => ?_)
        · refine qX9_isPart_41 ?_
          refine qX9_isPart_42 rfl ?_
          refine hf (fun ⟨r2, c2, q1, q2, q3, q4, q5, q6⟩ => h34 ?_)
          rw [nI_eq (by omega) (by omega)] at q4 q5
          rw [q4, q5]
          exact q6
        · refine qX9_isPart_37 ?_
          refine qX9_isPart_38 ?_
          refine qX9_isPart_42 rfl ?_
          refine ht r c ?_ hr hc rfl rfl h34
          rcases Nat.eq_zero_or_pos r with z | z
          · subst z; exact absurd rfl h1
          · exact z
      · refine nX9_isPart_23 (by omega) (fun h23 => ?_) (fun h23 => by exfalso; omega)
        refine qX9_isPart_41 ?_
        refine qX9_isPart_42 rfl ?_
        exact hf (fun ⟨r, c, q1, q2, q3, q4, q5, q6⟩ => hy ⟨c, q3, q5⟩)
    · refine nX9_isPart_12 (by omega) (fun h12 => ?_) (fun h12 => by exfalso; omega)
      refine qX9_isPart_41 ?_
      refine qX9_isPart_42 rfl ?_
      exact hf (fun ⟨r, c, q1, q2, q3, q4, q5, q6⟩ => hx ⟨r, q2, q4⟩)
theorem t_wkeep {v s p : Nat} {L : List (Nat × Nat)} (h : wyAt G w v L) (hl : L.length < 24) (k : ∀ w', Fr w w' (s3 v) → wyAt G w' v (L ++ [(s, p)]) → P none w') : wpM G (d + 1) yX8_keep (0, 0) [.ref v, .int (nI s), .int (nI p)] w P := by
  obtain ⟨f, q, x1, x2, x3, x4, x5⟩ := id h
  refine eX8_keep ?_
  refine qX8_keep_0 ?_
  refine qX8_keep_1 (by assumption) ?_
  refine qX8_keep_4 ?_
  refine nX8_keep_6 (by omega) (by omega) (fun h6 => by exfalso; omega) (fun h6 => ?_)
  refine qX8_keep_9 ?_
  refine qX8_keep_10 (by assumption) ?_
  refine qX8_keep_13 ?_
  refine qX8_keep_14 (by assumption) ?_
  refine qX8_keep_17 ?_
  first | refine fX8_keep_18 (by assumption) (by omega) (by decide) ?_ | refine nX8_keep_18 (by assumption) (by omega) (by decide) ?_
  generalize hw1 : s_up w (v + 1) (aN G 24 (updN f L.length s)) = w1
  have hF1 : Fr w w1 (s3 v) := by rw [← hw1]; exact Fr.rf.up ⟨by omega, by omega⟩
  have y1 : w1.1 v = ob 7 [.ref (v + 1), .ref (v + 2), .int (nI L.length)] := by rw [← hw1, s_upN (by omega)]; exact x1
  have y2 : w1.1 (v + 1) = aN G 24 (updN f L.length s) := by rw [← hw1]; exact s_upS
  have y3 : w1.1 (v + 2) = aN G 24 q := by rw [← hw1, s_upN (by omega)]; exact x3
  refine qX8_keep_19 ?_
  refine qX8_keep_20 (by assumption) ?_
  refine qX8_keep_23 ?_
  refine qX8_keep_24 (by assumption) ?_
  refine qX8_keep_27 ?_
  first | refine fX8_keep_28 (by assumption) (by omega) (by decide) ?_ | refine nX8_keep_28 (by assumption) (by omega) (by decide) ?_
  generalize hw2 : s_up w1 (v + 2) (aN G 24 (updN q L.length p)) = w2
  have hF2 : Fr w w2 (s3 v) := by rw [← hw2]; exact hF1.up ⟨by omega, by omega⟩
  have z1 : w2.1 v = ob 7 [.ref (v + 1), .ref (v + 2), .int (nI L.length)] := by rw [← hw2, s_upN (by omega)]; exact y1
  have z2 : w2.1 (v + 1) = aN G 24 (updN f L.length s) := by rw [← hw2, s_upN (by omega)]; exact y2
  have z3 : w2.1 (v + 2) = aN G 24 (updN q L.length p) := by rw [← hw2]; exact s_upS
  refine qX8_keep_29 ?_
  refine qX8_keep_30 rfl ?_
  refine qX8_keep_31 (by assumption) ?_
  refine qX8_keep_34 ?_
  first | refine nX8_keep_35 ?_ | refine qX8_keep_35 ?_
  refine qX8_keep_36 (by assumption) ?_
  refine qX8_keep_39 ?_
  refine k _ (hF2.up ⟨by omega, by omega⟩) ⟨updN f L.length s, updN q L.length p, ?_, ?_, ?_, by simp; omega, fun i hi => ?_⟩
  · rw [s_upS]; simp
  · rw [s_upN (by omega)]; exact z2
  · rw [s_upN (by omega)]; exact z3
  · by_cases hil : i = L.length
    · subst hil
      rw [updN_s, updN_s]
      simp [List.getD_eq_getElem?_getD]
    · rw [updN_n hil, updN_n hil]
      have hi2 : i < L.length + 1 := by simpa using hi
      have := x5 i (by omega)
      simp only [List.getD_eq_getElem?_getD] at this ⊢
      rw [List.getElem?_append_left (by omega)]
      exact this
theorem t_wgoOn {v rows : Nat} (hd : okD R C) (hR : rows < 16) (hv : v + 3 ≤ g ∨ g < v) (hv2 : v + 3 ≤ e ∨ e < v) : ∀ (m d : Nat) (P : sQ) (w : sW) (row cols sum pl : Nat) (L : List (Nat × Nat)), row + m = R → cols < 16 → gAt G w g e R C a → wyAt G w v L → L.length + cwW R C rows m cols ≤ 24 → (∀ w', Fr w w' (s3 v) → wyAt G w' v (L ++ goW R C a rows m cols sum pl) → P none w') → wpM G (d + (m + 3)) yX8_goOn (0, 0) [.ref v, .ref g, .int (nI row), .int (nI rows), .int (nI cols), .int (nI sum), .int (nI pl)] w P := by
  have d1 := hd.2.1
  have d2 := hd.2.2.2.1
  have hsz := hd.2.2.2.2
  have hp : ∀ n, n < 5 → 1 * 2 ^ n ≤ 16 := by decide
  have hp12 : ∀ n, n < 12 → 1 * 2 ^ n ≤ 4096 := by decide
  intro m
  induction m with
  | zero =>
    intro d P w row cols sum pl L hr hc h hw hl k
    obtain ⟨x1, x2⟩ := id h
    refine eX8_goOn ?_
    refine qX8_goOn_0 ?_
    refine qX8_goOn_1 ?_
    refine qX8_goOn_2 (by assumption) ?_
    refine nX8_goOn_5 (by omega) (by omega) (fun h5 => by exfalso; omega) (fun h5 => ?_)
    refine qX8_goOn_8 ?_
    refine qX8_goOn_9 ?_
    refine qX8_goOn_11 ?_
    obtain ⟨f, q, y1, y2⟩ := id hw
    simp only [cwW] at hl
    refine qX8_goOn_13 (by assumption) (Nat.le_of_ble_eq_true rfl) (t_wkeep hw (by omega) (fun w' hF hw' => ?_))
    refine qX8_goOn_16 ?_
    refine qX8_goOn_113 ?_
    exact k w' hF hw'
  | succ m ih =>
    intro d P w row cols sum pl L hr hc h hw hl k
    obtain ⟨x1, x2⟩ := id h
    have hrow : row = R - (m + 1) := by omega
    have hpr := hp row (by omega)
    refine eX8_goOn ?_
    refine qX8_goOn_0 ?_
    refine qX8_goOn_1 ?_
    refine qX8_goOn_2 (by assumption) ?_
    refine nX8_goOn_5 (by omega) (by omega) (fun h5 => ?_) (fun h5 => by exfalso; omega)
    refine qX8_goOn_19 ?_
    refine qX8_goOn_20 ?_
    refine qX8_goOn_21 ?_
    refine nX8_goOn_22 (by omega) (by omega) ?_
    first | refine nX8_goOn_23 ?_ | refine qX8_goOn_23 ?_
    have hle : rows &&& 1 <<< row ≤ rows := Nat.and_le_left
    simp only [goW, cwW] at k hl
    rw [← hrow] at k hl
    refine nX8_goOn_24 (by omega) (fun h24 => ?_) (fun h24 => ?_)
    · have hb : ¬ rows.testBit row = false := fun z => h24 ((and_bit rows row).mpr z)
      rw [if_neg hb] at k hl
      refine qX8_goOn_45 ?_
      refine qX8_goOn_46 ?_
      have loop : ∀ n c (w' : sW) (l7 : Option Value), c + n = C → Fr w w' (s3 v) → wyAt G w' v (L ++ (List.range c).flatMap (fun c => if cols.testBit c = true then goW R C a rows m (clr cols c) (sum + a (row * C + c)) (pl ||| 1 <<< (row * C + c)) else [])) → wp G (d + (m + 3)) mX8_goOn P 48 [some (.ref v), some (.ref g), some (.int (nI row)), some (.int (nI rows)), some (.int (nI cols)), some (.int (nI sum)), some (.int (nI pl)), some (.int (nI c))] [] w' (0, 0) := by
        intro n
        induction n with
        | zero =>
          intro c w' l7 hcn hF hw'
          have hg : gAt G w' g e R C a := h.fr hF (fun z => by have := z.1; have := z.2; omega) (fun z => by have := z.1; have := z.2; omega)
          obtain ⟨z1, z2⟩ := id hg
          refine qX8_goOn_48 ?_
          refine qX8_goOn_50 ?_
          refine qX8_goOn_51 (by assumption) ?_
          refine nX8_goOn_54 (by omega) (by omega) (fun h54 => ?_) (fun h54 => by exfalso; omega)
          refine qX8_goOn_113 ?_
          exact k w' hF (by rw [show c = C by omega] at hw'; exact hw')
        | succ n ih2 =>
          intro c w' l7 hcn hF hw'
          have hg : gAt G w' g e R C a := h.fr hF (fun z => by have := z.1; have := z.2; omega) (fun z => by have := z.1; have := z.2; omega)
          obtain ⟨z1, z2⟩ := id hg
          have hpc := hp c (by omega)
          have hin := hd.in12 (r := row) (c := c) (by omega) (by omega)
          have hp2 := hp12 _ hin
          refine qX8_goOn_48 ?_
          refine qX8_goOn_50 ?_
          refine qX8_goOn_51 (by assumption) ?_
          refine nX8_goOn_54 (by omega) (by omega) (fun h54 => by exfalso; omega) (fun h54 => ?_)
          refine qX8_goOn_57 ?_
          refine qX8_goOn_59 ?_
          refine qX8_goOn_60 ?_
          refine nX8_goOn_62 (by omega) (by omega) ?_
          first | refine nX8_goOn_63 ?_ | refine qX8_goOn_63 ?_
          have hle : cols &&& 1 <<< c ≤ cols := Nat.and_le_left
          have step : ∀ (w'' : sW), Fr w w'' (s3 v) → wyAt G w'' v ((L ++ (List.range c).flatMap (fun c => if cols.testBit c = true then goW R C a rows m (clr cols c) (sum + a (row * C + c)) (pl ||| 1 <<< (row * C + c)) else [])) ++ (if cols.testBit c = true then goW R C a rows m (clr cols c) (sum + a (row * C + c)) (pl ||| 1 <<< (row * C + c)) else [])) → wp G (d + (m + 3)) mX8_goOn P 107 [some (.ref v), some (.ref g), some (.int (nI row)), some (.int (nI rows)), some (.int (nI cols)), some (.int (nI sum)), some (.int (nI pl)), some (.int (nI c))] [] w'' (0, 0) := by
            intro w'' hF' hw''
            first | refine nX8_goOn_107 ?_ | refine qX8_goOn_107 ?_
            refine qX8_goOn_110 ?_
            refine ih2 (c + 1) w'' l7 (by omega) hF' ?_
            rw [List.range_succ, List.flatMap_append, ← List.append_assoc]
            simpa using hw''
          refine nX8_goOn_64 (by omega) (fun h64 => ?_) (fun h64 => ?_)
          · rw [and_bit] at h64
            refine step w' hF ?_
            rw [if_neg (by rw [h64]; decide), List.append_nil]
            exact hw'
          · have hb2 : cols.testBit c = true := by
              cases hq : cols.testBit c with
              | true => rfl
              | false => exact absurd ((and_bit cols c).mpr hq) h64
            refine qX8_goOn_67 ?_
            refine qX8_goOn_68 ?_
            refine qX8_goOn_69 ?_
            refine qX8_goOn_70 ?_
            first | refine nX8_goOn_71 ?_ | refine qX8_goOn_71 ?_
            refine qX8_goOn_72 ?_
            refine qX8_goOn_73 ?_
            refine qX8_goOn_75 ?_
            refine qX8_goOn_76 ?_
            refine nX8_goOn_78 (by omega) (by omega) ?_
            refine qX8_goOn_79 ?_
            refine qX8_goOn_80 ?_
            refine qX8_goOn_81 ?_
            rw [clr_nI _ hc _ (by omega)]
            refine qX8_goOn_82 ?_
            refine qX8_goOn_84 ?_
            refine qX8_goOn_85 ?_
            refine qX8_goOn_86 ?_
            refine qX8_goOn_88 (by assumption) (Nat.le_of_ble_eq_true rfl) (t_at (d := d + m + 1) hg (by omega) ?_)
            first | refine nX8_goOn_91 ?_ | refine qX8_goOn_91 ?_
            refine qX8_goOn_92 ?_
            refine qX8_goOn_94 ?_
            refine qX8_goOn_95 ?_
            refine qX8_goOn_96 ?_
            refine qX8_goOn_97 ?_
            refine qX8_goOn_99 (by assumption) (Nat.le_of_ble_eq_true rfl) (t_place (d := d + m + 2) hg ?_)
            refine nX8_goOn_102 (by omega) (by omega) ?_
            first | refine nX8_goOn_103 ?_ | refine qX8_goOn_103 ?_
            have hlen : (L ++ (List.range c).flatMap (fun c => if cols.testBit c = true then goW R C a rows m (clr cols c) (sum + a (row * C + c)) (pl ||| 1 <<< (row * C + c)) else [])).length + cwW R C rows m (clr cols c) ≤ 24 := by
              have e1 : ∀ n, ((List.range n).flatMap (fun c => if cols.testBit c = true then goW R C a rows m (clr cols c) (sum + a (row * C + c)) (pl ||| 1 <<< (row * C + c)) else [])).length = ((List.range n).map (fun c => if cols.testBit c = true then cwW R C rows m (clr cols c) else 0)).sum := by
                intro n
                rw [List.length_flatMap]
                congr 1
                apply List.map_congr_left
                intro c _
                split
                · exact goW_len R C a rows m _ _ _
                · rfl
              have e2 : ∀ p, c + 1 ≤ p → ((List.range c).map (fun c => if cols.testBit c = true then cwW R C rows m (clr cols c) else 0)).sum + cwW R C rows m (clr cols c) ≤ ((List.range p).map (fun c => if cols.testBit c = true then cwW R C rows m (clr cols c) else 0)).sum := by
                intro p hp
                induction p with
                | zero => omega
                | succ p ihp =>
                  by_cases hq : c + 1 ≤ p
                  · have := ihp hq
                    rw [List.range_succ, List.map_append, List.sum_append]
                    omega
                  · rw [show p = c by omega, List.range_succ, List.map_append, List.sum_append]
                    simp [hb2]
              have e3 := e2 C (by omega)
              rw [List.length_append, e1]
              omega
            refine qX8_goOn_104 (Nat.le_of_ble_eq_true rfl) (ih d _ _ _ _ _ _ _ (by omega) (clr_lt hc) hg hw' hlen (fun w'' hF' hw'' => ?_))
            refine step w'' (hF.tr hF' (fun q hq => hq)) ?_
            rw [if_pos hb2]
            exact hw''
      exact loop C 0 w none (by omega) Fr.rf (by simpa using hw)
    · rw [and_bit] at h24
      rw [if_pos h24] at k hl
      refine qX8_goOn_27 ?_
      refine qX8_goOn_28 ?_
      refine qX8_goOn_29 ?_
      refine qX8_goOn_30 ?_
      first | refine nX8_goOn_31 ?_ | refine qX8_goOn_31 ?_
      refine qX8_goOn_32 ?_
      refine qX8_goOn_33 ?_
      refine qX8_goOn_35 ?_
      refine qX8_goOn_37 ?_
      refine qX8_goOn_39 (Nat.le_of_ble_eq_true rfl) (ih d _ _ _ _ _ _ _ (by omega) hc h hw hl (fun w' hF hw' => ?_))
      refine qX8_goOn_42 ?_
      refine qX8_goOn_113 ?_
      exact k w' hF hw'
end WAYS
