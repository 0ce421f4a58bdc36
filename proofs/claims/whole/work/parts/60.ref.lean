/-! the reference: its object, its rows; the small methods -/
abbrev M7 : Type := Nat × Nat × Int32 × Int32 × Int32 × Int32 × Int32
/-- recorded, padLength, toldMany, toldRows, permanentSum, permanentWays, greatestSum -/
abbrev mO (w : sW) (D : Nat) (v : M7) : Prop := w.1 D = ob 9 [.ref (D + 1), .ref (D + 2), .int (nI v.1), .ref (D + 3), .ref (D + 4), .ref (D + 5), .int (nI v.2.1), .ref (D + 6), .int v.2.2.1, .ref (D + 7), .int v.2.2.2.1, .ref (D + 8), .int v.2.2.2.2.1, .int v.2.2.2.2.2.1, .int v.2.2.2.2.2.2, .ref (D + 9), .ref (D + 10), .ref (D + 11), .ref (D + 12)]
def rR (st : Nat → Nat) (i : Nat) : Nat := st (14 * i + 0)
def rC (st : Nat → Nat) (i : Nat) : Nat := st (14 * i + 1)
def rE (st : Nat → Nat) (i : Nat) : Nat → Nat := fun k => st (14 * i + 2 + k)
def vwA (st : Nat → Nat) (i : Nat) : GV := (rR st i, rC st i, rE st i)
def stV (st : Nat → Nat) (t : Nat → GV) : Prop := ∀ i, i < 3 → eqA (vwA st i) (t i)
def okR (st : Nat → Nat) : Prop := ∀ i, i < 3 → okV (vwA st i)
theorem stV.ok {st : Nat → Nat} {t : Nat → GV} (h : stV st t) (ht : okT t) : okR st := fun i hi => (ht i hi).eq (h i hi)
theorem i_cmp {x y : Int32} : x ≤ y ↔ ¬ y < x := by
  rw [Int32.le_iff_toInt_le, Int32.lt_iff_toInt_lt]
  omega
section REF
variable {G : sG} {d D : Nat} {P : sQ} {w : sW} {v : M7} {st : Nat → Nat}
theorem m_within {x lo hi : Int32} (kt : lo ≤ x → x ≤ hi → P (some (.int (nI 1))) w) (kf : ¬ (lo ≤ x ∧ x ≤ hi) → P (some (.int (nI 0))) w) : wpM G (d + 1) yX10_within (0, 0) [.int x, .int lo, .int hi] w P := by
  refine eX10_within ?_
  refine qX10_within_0 ?_
  refine qX10_within_1 ?_
  refine qX10_within_2 (fun h2 => ?_) (fun h2 => ?_)
  · refine qX10_within_14 ?_
    refine qX10_within_15 rfl ?_
    exact kf (fun z => i_cmp.mp z.1 h2)
  · refine qX10_within_5 ?_
    refine qX10_within_6 ?_
    refine qX10_within_7 (fun h7 => ?_) (fun h7 => ?_)
    · refine qX10_within_14 ?_
      refine qX10_within_15 rfl ?_
      exact kf (fun z => i_cmp.mp z.2 h7)
    · refine qX10_within_10 ?_
      refine qX10_within_11 ?_
      refine qX10_within_15 rfl ?_
      exact kt (i_cmp.mpr h2) (i_cmp.mpr h7)
/-- from 0 to a natural number -/
theorem m_within0 {x : Int32} {n : Nat} (hn : n < 2147483647) (kt : ∀ i, i < n + 1 → x = nI i → P (some (.int (nI 1))) w) (kf : ¬ inB x (n + 1) → P (some (.int (nI 0))) w) : wpM G (d + 1) yX10_within (0, 0) [.int x, .int (nI 0), .int (nI n)] w P := by
  refine m_within (fun h1 h2 => ?_) (fun h => ?_)
  · obtain ⟨i, hi, hx⟩ := inB_le hn (i_cmp.mp h1) h2
    exact kt i hi hx
  · refine kf (fun z => h ?_)
    obtain ⟨i, hi, rfl⟩ := z
    exact ⟨(nI_leI (by decide) (by omega)).mpr (Nat.zero_le _), (nI_leI (by omega) (by omega)).mpr (by omega)⟩
theorem m_isArray {x : Int32} (kt : ∀ i, i < 3 → x = nI i → P (some (.int (nI 1))) w) (kf : ¬ inB x 3 → P (some (.int (nI 0))) w) : wpM G (d + 2) yX10_isArray (0, 0) [.int x] w P := by
  refine eX10_isArray ?_
  refine qX10_isArray_0 ?_
  refine qX10_isArray_1 ?_
  refine qX10_isArray_2 ?_
  refine qX10_isArray_3 (Nat.le_of_ble_eq_true rfl) (m_within0 (by decide) (fun i hi hx => ?_) (fun hx => ?_))
  · refine qX10_isArray_6 rfl ?_
    exact kt i hi hx
  · refine qX10_isArray_6 rfl ?_
    exact kf hx
theorem m_rowsOf {i : Nat} (h : mO w D v) (hs : w.1 (D + 1) = aN G 42 st) (hi : i < 3) (k : P (some (.int (nI (rR st i)))) w) : wpM G (d + 1) yX10_rowsOf (0, 0) [.ref D, .int (nI i)] w P := by
  refine eX10_rowsOf ?_
  refine qX10_rowsOf_0 ?_
  refine qX10_rowsOf_1 (by assumption) ?_
  refine qX10_rowsOf_4 ?_
  refine qX10_rowsOf_6 ?_
  first | refine nX10_rowsOf_7 ?_ | refine qX10_rowsOf_7 ?_
  refine qX10_rowsOf_8 ?_
  first | refine nX10_rowsOf_9 ?_ | refine qX10_rowsOf_9 ?_
  first | refine fX10_rowsOf_10 (by assumption) (by omega) (by decide) ?_ | refine nX10_rowsOf_10 (by assumption) (by omega) (by decide) ?_
  refine qX10_rowsOf_11 ?_
  exact k
theorem m_columnsOf {i : Nat} (h : mO w D v) (hs : w.1 (D + 1) = aN G 42 st) (hi : i < 3) (k : P (some (.int (nI (rC st i)))) w) : wpM G (d + 1) yX10_columnsOf (0, 0) [.ref D, .int (nI i)] w P := by
  refine eX10_columnsOf ?_
  refine qX10_columnsOf_0 ?_
  refine qX10_columnsOf_1 (by assumption) ?_
  refine qX10_columnsOf_4 ?_
  refine qX10_columnsOf_6 ?_
  first | refine nX10_columnsOf_7 ?_ | refine qX10_columnsOf_7 ?_
  refine qX10_columnsOf_8 ?_
  first | refine nX10_columnsOf_9 ?_ | refine qX10_columnsOf_9 ?_
  first | refine fX10_columnsOf_10 (by assumption) (by omega) (by decide) ?_ | refine nX10_columnsOf_10 (by assumption) (by omega) (by decide) ?_
  refine qX10_columnsOf_11 ?_
  exact k
theorem m_entriesOf {i : Nat} (h : mO w D v) (hs : w.1 (D + 1) = aN G 42 st) (hi : i < 3) (k : P (some (.int (nI (rR st i * rC st i)))) w) : wpM G (d + 2) yX10_entriesOf (0, 0) [.ref D, .int (nI i)] w P := by
  refine eX10_entriesOf ?_
  refine qX10_entriesOf_0 ?_
  refine qX10_entriesOf_1 ?_
  refine qX10_entriesOf_2 (by assumption) (Nat.le_of_ble_eq_true rfl) (m_rowsOf h hs hi ?_)
  refine qX10_entriesOf_5 ?_
  refine qX10_entriesOf_6 ?_
  refine qX10_entriesOf_7 (by assumption) (Nat.le_of_ble_eq_true rfl) (m_columnsOf h hs hi ?_)
  first | refine nX10_entriesOf_10 ?_ | refine qX10_entriesOf_10 ?_
  refine qX10_entriesOf_11 ?_
  exact k
theorem m_at {i r c : Nat} (h : mO w D v) (hs : w.1 (D + 1) = aN G 42 st) (hi : i < 3) (hin : r * rC st i + c < 12) (k : P (some (.int (nI (rE st i (r * rC st i + c))))) w) : wpM G (d + 2) yX10_at (0, 0) [.ref D, .int (nI i), .int (nI r), .int (nI c)] w P := by
  refine eX10_at ?_
  refine qX10_at_0 ?_
  refine qX10_at_1 (by assumption) ?_
  refine qX10_at_4 ?_
  refine qX10_at_6 ?_
  first | refine nX10_at_7 ?_ | refine qX10_at_7 ?_
  refine qX10_at_8 ?_
  first | refine nX10_at_9 ?_ | refine qX10_at_9 ?_
  refine qX10_at_10 ?_
  refine qX10_at_11 ?_
  refine qX10_at_12 ?_
  refine qX10_at_13 (by assumption) (Nat.le_of_ble_eq_true rfl) (m_columnsOf h hs hi ?_)
  first | refine nX10_at_16 ?_ | refine qX10_at_16 ?_
  first | refine nX10_at_17 ?_ | refine qX10_at_17 ?_
  refine qX10_at_18 ?_
  first | refine nX10_at_19 ?_ | refine qX10_at_19 ?_
  first | refine fX10_at_20 (by assumption) (by omega) (by decide) ?_ | refine nX10_at_20 (by assumption) (by omega) (by decide) ?_
  refine qX10_at_21 ?_
  rw [Nat.add_assoc (14 * i + 2)]
  exact k
theorem m_lay {i r c x : Nat} (h : mO w D v) (hs : w.1 (D + 1) = aN G 42 st) (hi : i < 3) (hin : r * rC st i + c < 12) (k : P none (s_up w (D + 1) (aN G 42 (updN st (14 * i + 2 + (r * rC st i + c)) x)))) : wpM G (d + 2) yX10_lay (0, 0) [.ref D, .int (nI i), .int (nI r), .int (nI c), .int (nI x)] w P := by
  refine eX10_lay ?_
  refine qX10_lay_0 ?_
  refine qX10_lay_1 (by assumption) ?_
  refine qX10_lay_4 ?_
  refine qX10_lay_6 ?_
  first | refine nX10_lay_7 ?_ | refine qX10_lay_7 ?_
  refine qX10_lay_8 ?_
  first | refine nX10_lay_9 ?_ | refine qX10_lay_9 ?_
  refine qX10_lay_10 ?_
  refine qX10_lay_11 ?_
  refine qX10_lay_12 ?_
  refine qX10_lay_13 (by assumption) (Nat.le_of_ble_eq_true rfl) (m_columnsOf h hs hi ?_)
  first | refine nX10_lay_16 ?_ | refine qX10_lay_16 ?_
  first | refine nX10_lay_17 ?_ | refine qX10_lay_17 ?_
  refine qX10_lay_18 ?_
  first | refine nX10_lay_19 ?_ | refine qX10_lay_19 ?_
  refine qX10_lay_20 ?_
  first | refine fX10_lay_22 (by assumption) (by omega) (by decide) ?_ | refine nX10_lay_22 (by assumption) (by omega) (by decide) ?_
  refine qX10_lay_23 ?_
  rw [Nat.add_assoc (14 * i + 2)]
  exact k
theorem m_isEntry {x y z : Int32} (h : mO w D v) (hs : w.1 (D + 1) = aN G 42 st) (ho : okR st) (kt : ∀ i r c, i < 3 → r < rR st i → c < rC st i → x = nI i → y = nI r → z = nI c → P (some (.int (nI 1))) w) (kf : ¬ (inB x 3 ∧ inB y (rR st (nN x)) ∧ inB z (rC st (nN x))) → P (some (.int (nI 0))) w) : wpM G (d + 3) yX10_isEntry (0, 0) [.ref D, .int x, .int y, .int z] w P := by
  refine eX10_isEntry ?_
  refine qX10_isEntry_0 ?_
  refine qX10_isEntry_1 (Nat.le_of_ble_eq_true rfl) (m_isArray (fun i hi hx => ?_) (fun hx => ?_))
  · subst hx
    obtain ⟨o1, o2, o3, o4, o5⟩ := (ho i hi).1
    have o1 : 1 ≤ rR st i := o1
    have o2 : rR st i ≤ 4 := o2
    have o3 : 1 ≤ rC st i := o3
    have o4 : rC st i ≤ 4 := o4
    rw [nN_nI (by omega)] at kf
    refine nX10_isEntry_4 (by omega) (fun h4 => by exfalso; omega) (fun h4 => ?_)
    refine qX10_isEntry_7 ?_
    refine qX10_isEntry_8 ?_
    refine qX10_isEntry_9 ?_
    refine qX10_isEntry_10 ?_
    refine qX10_isEntry_11 (by assumption) (Nat.le_of_ble_eq_true rfl) (m_rowsOf h hs hi ?_)
    refine qX10_isEntry_14 ?_
    first | refine nX10_isEntry_15 (by omega) ?_ | refine qX10_isEntry_15 ?_
    refine qX10_isEntry_16 (Nat.le_of_ble_eq_true rfl) (m_within0 (by omega) (fun r hr hy => ?_) (fun hy => ?_))
    · refine nX10_isEntry_19 (by omega) (fun h19 => by exfalso; omega) (fun h19 => ?_)
      refine qX10_isEntry_22 ?_
      refine qX10_isEntry_23 ?_
      refine qX10_isEntry_24 ?_
      refine qX10_isEntry_25 ?_
      refine qX10_isEntry_26 (by assumption) (Nat.le_of_ble_eq_true rfl) (m_columnsOf h hs hi ?_)
      refine qX10_isEntry_29 ?_
      first | refine nX10_isEntry_30 (by omega) ?_ | refine qX10_isEntry_30 ?_
      refine qX10_isEntry_31 (Nat.le_of_ble_eq_true rfl) (m_within0 (by omega) (fun c hc hz => ?_) (fun hz => ?_))
      · refine nX10_isEntry_34 (by omega) (fun h34 => by exfalso; omega) (fun h34 => ?_)
        refine qX10_isEntry_37 ?_
        refine qX10_isEntry_38 ?_
        refine qX10_isEntry_42 rfl ?_
        exact kt i r c hi (by omega) (by omega) rfl hy hz
      · refine nX10_isEntry_34 (by omega) (fun h34 => ?_) (fun h34 => by exfalso; omega)
        refine qX10_isEntry_41 ?_
        refine qX10_isEntry_42 rfl ?_
        refine kf (fun e => hz ?_)
        rw [show rC st i - 1 + 1 = rC st i by omega]
        exact e.2.2
    · refine nX10_isEntry_19 (by omega) (fun h19 => ?_) (fun h19 => by exfalso; omega)
      refine qX10_isEntry_41 ?_
      refine qX10_isEntry_42 rfl ?_
      refine kf (fun e => hy ?_)
      rw [show rR st i - 1 + 1 = rR st i by omega]
      exact e.2.1
  · refine nX10_isEntry_4 (by omega) (fun h4 => ?_) (fun h4 => by exfalso; omega)
    refine qX10_isEntry_41 ?_
    refine qX10_isEntry_42 rfl ?_
    exact kf (fun e => hx e.1)
theorem m_lineMany {i : Nat} (b : Bool) (h : mO w D v) (hs : w.1 (D + 1) = aN G 42 st) (hi : i < 3) (k : P (some (.int (nI (lnN b (rR st i) (rC st i))))) w) : wpM G (d + 2) yX10_lineMany (0, 0) [.ref D, .int (nI i), .int (nI (bN b))] w P := by
  refine eX10_lineMany ?_
  refine qX10_lineMany_0 ?_
  cases b
  · refine nX10_lineMany_1 (by decide) (fun _ => ?_) (fun h => absurd rfl h)
    refine qX10_lineMany_12 ?_
    refine qX10_lineMany_13 ?_
    refine qX10_lineMany_14 (by assumption) (Nat.le_of_ble_eq_true rfl) (m_columnsOf h hs hi ?_)
    refine qX10_lineMany_17 ?_
    exact k
  · refine nX10_lineMany_1 (by decide) (fun h => absurd h (by decide)) (fun _ => ?_)
    refine qX10_lineMany_4 ?_
    refine qX10_lineMany_5 ?_
    refine qX10_lineMany_6 (by assumption) (Nat.le_of_ble_eq_true rfl) (m_rowsOf h hs hi ?_)
    refine qX10_lineMany_9 ?_
    refine qX10_lineMany_17 ?_
    exact k
theorem m_isLine {x y : Int32} (b : Bool) (h : mO w D v) (hs : w.1 (D + 1) = aN G 42 st) (ho : okR st) (kt : ∀ i n, i < 3 → n < lnN b (rR st i) (rC st i) → x = nI i → y = nI n → P (some (.int (nI 1))) w) (kf : ¬ (inB x 3 ∧ inB y (lnN b (rR st (nN x)) (rC st (nN x)))) → P (some (.int (nI 0))) w) : wpM G (d + 3) yX10_isLine (0, 0) [.ref D, .int x, .int (nI (bN b)), .int y] w P := by
  refine eX10_isLine ?_
  refine qX10_isLine_0 ?_
  refine qX10_isLine_1 (Nat.le_of_ble_eq_true rfl) (m_isArray (fun i hi hx => ?_) (fun hx => ?_))
  · subst hx
    obtain ⟨o1, o2, o3, o4, o5⟩ := (ho i hi).1
    have ob : 1 ≤ lnN b (rR st i) (rC st i) ∧ lnN b (rR st i) (rC st i) ≤ 4 := by cases b; exact ⟨o3, o4⟩; exact ⟨o1, o2⟩
    rw [nN_nI (by omega)] at kf
    refine nX10_isLine_4 (by omega) (fun h4 => by exfalso; omega) (fun h4 => ?_)
    refine qX10_isLine_7 ?_
    refine qX10_isLine_8 ?_
    refine qX10_isLine_9 ?_
    refine qX10_isLine_10 ?_
    refine qX10_isLine_11 ?_
    refine qX10_isLine_12 (by assumption) (Nat.le_of_ble_eq_true rfl) (m_lineMany b h hs hi ?_)
    refine qX10_isLine_15 ?_
    first | refine nX10_isLine_16 (by omega) ?_ | refine qX10_isLine_16 ?_
    refine qX10_isLine_17 (Nat.le_of_ble_eq_true rfl) (m_within0 (by omega) (fun n hn hy => ?_) (fun hy => ?_))
    · refine nX10_isLine_20 (by omega) (fun h20 => by exfalso; omega) (fun h20 => ?_)
      refine qX10_isLine_23 ?_
      refine qX10_isLine_24 ?_
      refine qX10_isLine_28 rfl ?_
      exact kt i n hi (by omega) rfl hy
    · refine nX10_isLine_20 (by omega) (fun h20 => ?_) (fun h20 => by exfalso; omega)
      refine qX10_isLine_27 ?_
      refine qX10_isLine_28 rfl ?_
      refine kf (fun e => hy ?_)
      rw [show lnN b (rR st i) (rC st i) - 1 + 1 = lnN b (rR st i) (rC st i) by omega]
      exact e.2
  · refine nX10_isLine_4 (by omega) (fun h4 => ?_) (fun h4 => by exfalso; omega)
    refine qX10_isLine_27 ?_
    refine qX10_isLine_28 rfl ?_
    exact kf (fun e => hx e.1)
theorem m_inLine {i n q : Nat} (b : Bool) (h : mO w D v) (hs : w.1 (D + 1) = aN G 42 st) (hi : i < 3) (hin : plN b (rC st i) n q < 12) (k : P (some (.int (nI (rE st i (plN b (rC st i) n q))))) w) : wpM G (d + 3) yX10_inLine (0, 0) [.ref D, .int (nI i), .int (nI (bN b)), .int (nI n), .int (nI q)] w P := by
  refine eX10_inLine ?_
  refine qX10_inLine_0 ?_
  cases b
  · refine nX10_inLine_1 (by decide) (fun _ => ?_) (fun h => absurd rfl h)
    refine qX10_inLine_15 ?_
    refine qX10_inLine_16 ?_
    refine qX10_inLine_17 ?_
    refine qX10_inLine_19 ?_
    refine qX10_inLine_20 (by assumption) (Nat.le_of_ble_eq_true rfl) (m_at h hs hi hin ?_)
    refine qX10_inLine_23 ?_
    exact k
  · refine nX10_inLine_1 (by decide) (fun h => absurd h (by decide)) (fun _ => ?_)
    refine qX10_inLine_4 ?_
    refine qX10_inLine_5 ?_
    refine qX10_inLine_6 ?_
    refine qX10_inLine_7 ?_
    refine qX10_inLine_9 (by assumption) (Nat.le_of_ble_eq_true rfl) (m_at h hs hi hin ?_)
    refine qX10_inLine_12 ?_
    refine qX10_inLine_23 ?_
    exact k
theorem m_layInLine {i n q x : Nat} (b : Bool) (h : mO w D v) (hs : w.1 (D + 1) = aN G 42 st) (hi : i < 3) (hin : plN b (rC st i) n q < 12) (k : P none (s_up w (D + 1) (aN G 42 (updN st (14 * i + 2 + plN b (rC st i) n q) x)))) : wpM G (d + 3) yX10_layInLine (0, 0) [.ref D, .int (nI i), .int (nI (bN b)), .int (nI n), .int (nI q), .int (nI x)] w P := by
  refine eX10_layInLine ?_
  refine qX10_layInLine_0 ?_
  cases b
  · refine nX10_layInLine_1 (by decide) (fun _ => ?_) (fun h => absurd rfl h)
    refine qX10_layInLine_17 ?_
    refine qX10_layInLine_18 ?_
    refine qX10_layInLine_19 ?_
    refine qX10_layInLine_21 ?_
    refine qX10_layInLine_22 ?_
    refine qX10_layInLine_24 (by assumption) (Nat.le_of_ble_eq_true rfl) (m_lay h hs hi hin ?_)
    refine qX10_layInLine_27 ?_
    exact k
  · refine nX10_layInLine_1 (by decide) (fun h => absurd h (by decide)) (fun _ => ?_)
    refine qX10_layInLine_4 ?_
    refine qX10_layInLine_5 ?_
    refine qX10_layInLine_6 ?_
    refine qX10_layInLine_7 ?_
    refine qX10_layInLine_9 ?_
    refine qX10_layInLine_11 (by assumption) (Nat.le_of_ble_eq_true rfl) (m_lay h hs hi hin ?_)
    refine qX10_layInLine_14 ?_
    refine qX10_layInLine_27 ?_
    exact k
theorem m_bits {m : Nat} (hm : m < 4096) (k : P (some (.int (nI (bcN m)))) w) : wpM G (d + 1) yX10_bits (0, 0) [.int (nI m)] w P := by
  refine eX10_bits ?_
  refine qX10_bits_0 ?_
  refine qX10_bits_1 ?_
  refine qX10_bits_2 ?_
  refine qX10_bits_3 ?_
  have L : ∀ n i, i + n = 12 → wp G d mX10_bits P 4 [some (.int (nI m)), some (.int (nI (bcF m i))), some (.int (nI i))] [] w (0, 0) := by
    intro n
    induction n with
    | zero =>
      intro i hi
      have : i = 12 := by omega
      subst this
      refine qX10_bits_4 ?_
      refine qX10_bits_5 ?_
      refine nX10_bits_7 (by omega) (by omega) (fun h7 => ?_) (fun h7 => by exfalso; omega)
      refine qX10_bits_24 ?_
      refine qX10_bits_25 ?_
      exact k
    | succ n ih =>
      intro i hi
      refine qX10_bits_4 ?_
      refine qX10_bits_5 ?_
      refine nX10_bits_7 (by omega) (by omega) (fun h7 => by exfalso; omega) (fun h7 => ?_)
      refine qX10_bits_10 ?_
      refine qX10_bits_11 ?_
      refine qX10_bits_12 ?_
      refine nX10_bits_13 (by omega) (by omega) ?_
      refine qX10_bits_14 ?_
      first | refine nX10_bits_15 ?_ | refine qX10_bits_15 ?_
      first | refine nX10_bits_16 ?_ | refine qX10_bits_16 ?_
      refine qX10_bits_17 ?_
      first | refine nX10_bits_18 ?_ | refine qX10_bits_18 ?_
      refine qX10_bits_21 ?_
      exact ih (i + 1) (by omega)
  exact L 12 0 rfl
theorem m_greatestOf {i : Nat} (h : mO w D v) (hs : w.1 (D + 1) = aN G 42 st) (hi : i < 3) (ho : okV (vwA st i)) (k : P (some (.int (nI (mxF (rE st i) (rR st i * rC st i))))) w) : wpM G (d + 3) yX10_greatestOf (0, 0) [.ref D, .int (nI i)] w P := by
  have hsz : rR st i * rC st i ≤ 12 := ho.1.2.2.2.2
  have ha : ∀ q, q < rR st i * rC st i → rE st i q ≤ 999 := ho.2
  refine eX10_greatestOf ?_
  refine qX10_greatestOf_0 ?_
  refine qX10_greatestOf_1 ?_
  refine qX10_greatestOf_2 ?_
  refine qX10_greatestOf_3 ?_
  have L : ∀ n j (l4 : Option Value), j + n = rR st i * rC st i → wp G (d + 2) mX10_greatestOf P 4 [some (.ref D), some (.int (nI i)), some (.int (nI (mxF (rE st i) j))), some (.int (nI j)), l4] [] w (0, 0) := by
    intro n
    induction n with
    | zero =>
      intro j l4 hj
      refine qX10_greatestOf_4 ?_
      refine qX10_greatestOf_5 ?_
      refine qX10_greatestOf_6 ?_
      refine qX10_greatestOf_7 (by assumption) (Nat.le_of_ble_eq_true rfl) (m_entriesOf h hs hi ?_)
      refine nX10_greatestOf_10 (by omega) (by omega) (fun h10 => ?_) (fun h10 => by exfalso; omega)
      refine qX10_greatestOf_47 ?_
      refine qX10_greatestOf_48 ?_
      rw [show j = rR st i * rC st i by omega]
      exact k
    | succ n ih =>
      intro j l4 hj
      have h1 := ha j (by omega)
      have h2 := mxF_le (B := 999) (n := j) (fun q hq => ha q (by omega))
      have h1' : st (14 * i + 2 + j) ≤ 999 := h1
      refine qX10_greatestOf_4 ?_
      refine qX10_greatestOf_5 ?_
      refine qX10_greatestOf_6 ?_
      refine qX10_greatestOf_7 (by assumption) (Nat.le_of_ble_eq_true rfl) (m_entriesOf h hs hi ?_)
      refine nX10_greatestOf_10 (by omega) (by omega) (fun h10 => by exfalso; omega) (fun h10 => ?_)
      refine qX10_greatestOf_13 ?_
      refine qX10_greatestOf_14 (by assumption) ?_
      refine qX10_greatestOf_17 ?_
      refine qX10_greatestOf_19 ?_
      first | refine nX10_greatestOf_20 ?_ | refine qX10_greatestOf_20 ?_
      refine qX10_greatestOf_21 ?_
      first | refine nX10_greatestOf_22 ?_ | refine qX10_greatestOf_22 ?_
      refine qX10_greatestOf_23 ?_
      first | refine nX10_greatestOf_24 ?_ | refine qX10_greatestOf_24 ?_
      first | refine fX10_greatestOf_25 (by assumption) (by omega) (by decide) ?_ | refine nX10_greatestOf_25 (by assumption) (by omega) (by decide) ?_
      refine qX10_greatestOf_26 ?_
      refine qX10_greatestOf_28 ?_
      refine qX10_greatestOf_30 ?_
      refine nX10_greatestOf_31 (by omega) (by omega) (fun h31 => ?_) (fun h31 => ?_)
      · refine qX10_greatestOf_39 ?_
        refine qX10_greatestOf_40 ?_
        first | refine nX10_greatestOf_41 ?_ | refine qX10_greatestOf_41 ?_
        refine qX10_greatestOf_44 ?_
        have := ih (j + 1) (some (.int (nI (st (14 * i + 2 + j))))) (by omega)
        simp only [mxF] at this
        rw [Nat.max_eq_left (show rE st i j ≤ mxF (rE st i) j from h31)] at this
        exact this
      · refine qX10_greatestOf_34 ?_
        refine qX10_greatestOf_36 ?_
        refine qX10_greatestOf_40 ?_
        first | refine nX10_greatestOf_41 ?_ | refine qX10_greatestOf_41 ?_
        refine qX10_greatestOf_44 ?_
        have := ih (j + 1) (some (.int (nI (st (14 * i + 2 + j))))) (by omega)
        simp only [mxF] at this
        rw [Nat.max_eq_right (Nat.le_of_lt (show mxF (rE st i) j < rE st i j from h31))] at this
        exact this
  exact L (rR st i * rC st i) 0 none (by omega)
theorem m_leastOf {i : Nat} (h : mO w D v) (hs : w.1 (D + 1) = aN G 42 st) (hi : i < 3) (ho : okV (vwA st i)) (k : P (some (.int (nI (mnF (rE st i) (rR st i * rC st i))))) w) : wpM G (d + 3) yX10_leastOf (0, 0) [.ref D, .int (nI i)] w P := by
  have hsz : rR st i * rC st i ≤ 12 := ho.1.2.2.2.2
  have ha : ∀ q, q < rR st i * rC st i → rE st i q ≤ 999 := ho.2
  refine eX10_leastOf ?_
  refine qX10_leastOf_0 ?_
  refine qX10_leastOf_3 ?_
  refine qX10_leastOf_4 ?_
  refine qX10_leastOf_5 ?_
  have L : ∀ n j (l4 : Option Value), j + n = rR st i * rC st i → mnF (rE st i) j ≤ 999 → wp G (d + 2) mX10_leastOf P 6 [some (.ref D), some (.int (nI i)), some (.int (nI (mnF (rE st i) j))), some (.int (nI j)), l4] [] w (0, 0) := by
    intro n
    induction n with
    | zero =>
      intro j l4 hj h2
      refine qX10_leastOf_6 ?_
      refine qX10_leastOf_7 ?_
      refine qX10_leastOf_8 ?_
      refine qX10_leastOf_9 (by assumption) (Nat.le_of_ble_eq_true rfl) (m_entriesOf h hs hi ?_)
      refine nX10_leastOf_12 (by omega) (by omega) (fun h12 => ?_) (fun h12 => by exfalso; omega)
      refine qX10_leastOf_49 ?_
      refine qX10_leastOf_50 ?_
      rw [show j = rR st i * rC st i by omega]
      exact k
    | succ n ih =>
      intro j l4 hj h2
      have h1 := ha j (by omega)
      have h1' : st (14 * i + 2 + j) ≤ 999 := h1
      have := ih (j + 1) (some (.int (nI (st (14 * i + 2 + j))))) (by omega) (by simp only [mnF]; omega)
      simp only [mnF] at this
      refine qX10_leastOf_6 ?_
      refine qX10_leastOf_7 ?_
      refine qX10_leastOf_8 ?_
      refine qX10_leastOf_9 (by assumption) (Nat.le_of_ble_eq_true rfl) (m_entriesOf h hs hi ?_)
      refine nX10_leastOf_12 (by omega) (by omega) (fun h12 => by exfalso; omega) (fun h12 => ?_)
      refine qX10_leastOf_15 ?_
      refine qX10_leastOf_16 (by assumption) ?_
      refine qX10_leastOf_19 ?_
      refine qX10_leastOf_21 ?_
      first | refine nX10_leastOf_22 ?_ | refine qX10_leastOf_22 ?_
      refine qX10_leastOf_23 ?_
      first | refine nX10_leastOf_24 ?_ | refine qX10_leastOf_24 ?_
      refine qX10_leastOf_25 ?_
      first | refine nX10_leastOf_26 ?_ | refine qX10_leastOf_26 ?_
      first | refine fX10_leastOf_27 (by assumption) (by omega) (by decide) ?_ | refine nX10_leastOf_27 (by assumption) (by omega) (by decide) ?_
      refine qX10_leastOf_28 ?_
      refine qX10_leastOf_30 ?_
      refine qX10_leastOf_32 ?_
      refine nX10_leastOf_33 (by omega) (by omega) (fun h33 => ?_) (fun h33 => ?_)
      · refine qX10_leastOf_41 ?_
        refine qX10_leastOf_42 ?_
        first | refine nX10_leastOf_43 ?_ | refine qX10_leastOf_43 ?_
        refine qX10_leastOf_46 ?_
        rw [Nat.min_eq_left (show mnF (rE st i) j ≤ rE st i j from h33)] at this
        exact this
      · refine qX10_leastOf_36 ?_
        refine qX10_leastOf_38 ?_
        refine qX10_leastOf_42 ?_
        first | refine nX10_leastOf_43 ?_ | refine qX10_leastOf_43 ?_
        refine qX10_leastOf_46 ?_
        rw [Nat.min_eq_right (Nat.le_of_lt (show rE st i j < mnF (rE st i) j from h33))] at this
        exact this
  exact L (rR st i * rC st i) 0 none (by omega) (Nat.le_refl 999)
end REF
