/-! longs by their bits -/
def lU (u : Nat) : Int64 := Int64.ofNat u
def uL (x : Int64) : Nat := x.toBitVec.toNat
theorem uL_lt (x : Int64) : uL x < 2 ^ 64 := x.toBitVec.isLt
theorem lU_uL (x : Int64) : lU (uL x) = x := by
  apply Int64.toBitVec_inj.mp
  simp [lU, uL, Int64.toBitVec_ofNat']
theorem uL_lU {u : Nat} (h : u < 2 ^ 64) : uL (lU u) = u := by
  simp [lU, uL, Int64.toBitVec_ofNat']
  omega
theorem lU_and (u : Nat) : (lU u &&& 255).toInt32 = nI (u % 256) := by
  apply Int32.toBitVec_inj.mp
  apply BitVec.eq_of_toNat_eq
  have h1 : (Int64.toBitVec 255) = 255#64 := rfl
  simp only [Int64.toBitVec_toInt32, Int64.toBitVec_and, lU, Int64.toBitVec_ofNat', h1, nI, Int32.toBitVec_ofNat']
  rw [BitVec.signExtend_eq_setWidth_of_le _ (by decide)]
  simp only [BitVec.toNat_setWidth, BitVec.toNat_and, BitVec.toNat_ofNat]
  rw [show 255 % 2 ^ 64 = 2 ^ 8 - 1 from rfl, Nat.and_two_pow_sub_one_eq_mod]
  omega
theorem lU_shr {u k : Nat} (h : u < 2 ^ 64) (hk : k < 64) : ((lU u).toUInt64 >>> ((nI k).toInt64.toUInt64 &&& Int64.toUInt64 63)).toInt64 = lU (u / 2 ^ k) := by
  have h0 : ∀ k, k < 64 → ((nI k).toInt64.toUInt64 &&& Int64.toUInt64 63).toNat % 64 = k := by decide +kernel
  apply Int64.toBitVec_inj.mp
  apply BitVec.eq_of_toNat_eq
  have h1 : ((lU u).toUInt64 >>> ((nI k).toInt64.toUInt64 &&& Int64.toUInt64 63)).toNat = u / 2 ^ k := by
    rw [UInt64.toNat_shiftRight, h0 k hk, Nat.shiftRight_eq_div_pow]
    congr 1
    show (lU u).toBitVec.toNat = u
    exact uL_lU h
  have h2 : u / 2 ^ k < 2 ^ 64 := Nat.lt_of_le_of_lt (Nat.div_le_self _ _) h
  show ((lU u).toUInt64 >>> ((nI k).toInt64.toUInt64 &&& Int64.toUInt64 63)).toNat = uL (lU (u / 2 ^ k))
  rw [h1, uL_lU h2]
theorem lU_cmp0 {u : Nat} (h : u < 2 ^ 64) : lg_cmp (lU u) 0 = 0 ↔ u = 0 := by
  unfold lg_cmp
  constructor
  · intro q
    split at q
    · cases q
    · split at q
      · next q1 =>
        have : uL (lU u) = uL 0 := by rw [q1]
        rw [uL_lU h] at this
        exact this
      · cases q
  · intro q
    subst q
    decide
/-- how many bytes there are, and whether they are fine -/
def nB : Nat → Nat → Nat
  | 0, _ => 0
  | n + 1, u => if u = 0 then 0 else nB n (u / 256) + 1
def vB : Nat → Nat → Bool
  | 0, _ => true
  | n + 1, u => u == 0 || (decide (33 ≤ u % 256) && decide (u % 256 ≤ 126) && vB n (u / 256))
/-- the pad: an object and its characters -/
def pAt (G : sG) (w : sW) (p n : Nat) (c : Nat → Nat) (v2 v3 v4 v5 : Int32) : Prop := w.1 p = ob 3 [.ref (p + 1), .int (nI n), .int v2, .int v3, .int v4, .int v5] ∧ w.1 (p + 1) = aC G 80 (nF c)
theorem pAt.fr {G : sG} {w w' : sW} {S : Nat → Prop} {p n : Nat} {c : Nat → Nat} {v2 v3 v4 v5 : Int32} (h : pAt G w p n c v2 v3 v4 v5) (hF : Fr w w' S) (h1 : ¬ S p) (h2 : ¬ S (p + 1)) : pAt G w' p n c v2 v3 v4 v5 := ⟨by rw [hF.2 _ h1]; exact h.1, by rw [hF.2 _ h2]; exact h.2⟩
def oI (v : Option Nat) : Int32 := match v with
  | none => -1
  | some v => nI v
def isDg (c : Nat) : Bool := decide (48 ≤ c) && decide (c ≤ 57)
/-- the fault: from the place k on, with so many characters behind it, the number so far -/
def fF (c : Nat → Nat) : Nat → Nat → Option Nat → Option Nat
  | 0, k, v => match v with
    | none => some k
    | some _ => none
  | m + 1, k, v => if isDg (c k) then (match v with
      | none => fF c m (k + 1) (some (c k - 48))
      | some x => if x = 0 ∨ 999 < x * 10 + (c k - 48) then some k else fF c m (k + 1) (some (x * 10 + (c k - 48))))
    else (match v with
      | none => some k
      | some _ => if c k = 44 ∨ c k = 59 then fF c m (k + 1) none else some k)
def fI (v : Option Nat) : Int32 := match v with
  | none => -6
  | some k => nI k
/-- rows that are closed, with their lengths, and the commas of the row that is open -/
def msr (c : Nat → Nat) : Nat → List Nat × Nat
  | 0 => ([], 0)
  | k + 1 => if c k = 59 then ((msr c k).1 ++ [(msr c k).2 + 1], 0) else if c k = 44 then ((msr c k).1, (msr c k).2 + 1) else msr c k
def lnS (c : Nat → Nat) (n : Nat) : List Nat := (msr c n).1 ++ [(msr c n).2 + 1]
/-- numbers that are read, and the one that is open -/
def rdv (c : Nat → Nat) : Nat → List Nat × Nat
  | 0 => ([], 0)
  | k + 1 => if isDg (c k) then ((rdv c k).1, (rdv c k).2 * 10 + (c k - 48)) else ((rdv c k).1 ++ [(rdv c k).2], 0)
def vlS (c : Nat → Nat) (n : Nat) : List Nat := (rdv c n).1 ++ [(rdv c n).2]
theorem nar_char {n : Nat} (h : n < 65536) : vp_nar .char (nI n) = nI n := by
  unfold vp_nar
  rw [(pk_charN h).1]
theorem i2c_n {n : Nat} (h : n < 65536) : ((nI n).toUInt32 % 65536).toInt32 = nI n := by
  rw [pk_char, pk_tn (by omega), Nat.mod_eq_of_lt h]
section PAD
variable {G : sG} {d : Nat} {P : sQ} {w : sW} {p n : Nat} {c : Nat → Nat} {v2 v3 v4 v5 : Int32}
theorem t_charactersIn {u : Nat} (hu : u < 2 ^ 64) (k : P (some (.int (nI (if vB 8 u = true then nB 8 u else 0)))) w) : wpM G (d + 1) yX4_charactersIn (0, 0) [.long (lU u)] w P := by
  refine eX4_charactersIn ?_
  refine qX4_charactersIn_0 ?_
  refine qX4_charactersIn_1 rfl ?_
  refine qX4_charactersIn_2 ?_
  refine qX4_charactersIn_3 rfl ?_
  have L : ∀ m f r (l5 : Option Value), f + m = 8 → r < 2 ^ 64 → r < 256 ^ m → ((if vB 8 u = true then nB 8 u else 0) = if vB m r = true then f + nB m r else 0) → wp G d mX4_charactersIn P 4 [some (.long (lU u)), none, some (.int (nI f)), some (.long (lU r)), none, l5] [] w (0, 0) := by
    intro m
    induction m with
    | zero =>
      intro f r l5 hf hr hr2 he
      have hr0 : r = 0 := by omega
      subst hr0
      refine qX4_charactersIn_4 ?_
      refine qX4_charactersIn_5 ?_
      refine qX4_charactersIn_6 ?_
      refine qX4_charactersIn_7 (fun _ => ?_) (fun h => absurd ((lU_cmp0 (by decide)).mpr rfl) h)
      refine qX4_charactersIn_51 ?_
      refine qX4_charactersIn_52 ?_
      rw [he] at k
      exact k
    | succ m ih =>
      intro f r l5 hf hr hr2 he
      refine qX4_charactersIn_4 ?_
      refine qX4_charactersIn_5 ?_
      refine qX4_charactersIn_6 ?_
      refine qX4_charactersIn_7 (fun h => ?_) (fun h => ?_)
      · have hr0 : r = 0 := (lU_cmp0 hr).mp h
        subst hr0
        refine qX4_charactersIn_51 ?_
        refine qX4_charactersIn_52 ?_
        rw [he] at k
        exact k
      · have hr0 : r ≠ 0 := fun z => h ((lU_cmp0 hr).mpr z)
        have hm := Nat.mod_lt r (show 256 > 0 by decide)
        refine qX4_charactersIn_10 ?_
        refine qX4_charactersIn_11 ?_
        refine nX4_charactersIn_13 (by omega) (by omega) (fun h13 => by exfalso; omega) (fun h13 => ?_)
        refine qX4_charactersIn_16 ?_
        refine qX4_charactersIn_17 ?_
        refine qX4_charactersIn_20 ?_
        refine qX4_charactersIn_21 ?_
        rw [lU_and]
        refine qX4_charactersIn_22 rfl ?_
        refine qX4_charactersIn_24 ?_
        refine qX4_charactersIn_26 ?_
        have e1 : vB (m + 1) r = (decide (33 ≤ r % 256) && decide (r % 256 ≤ 126) && vB m (r / 256)) := by simp [vB, hr0]
        have e2 : nB (m + 1) r = nB m (r / 256) + 1 := by simp [nB, hr0]
        refine nX4_charactersIn_28 (by omega) (by omega) (fun h28 => ?_) (fun h28 => ?_)
        · refine qX4_charactersIn_38 ?_
          refine qX4_charactersIn_39 ?_
          rw [he, e1, if_neg (by simp; omega)] at k
          exact k
        · refine qX4_charactersIn_31 ?_
          refine qX4_charactersIn_33 ?_
          refine nX4_charactersIn_35 (by omega) (by omega) (fun h35 => ?_) (fun h35 => ?_)
          · first | refine nX4_charactersIn_40 rfl ?_ | refine qX4_charactersIn_40 rfl ?_
            refine qX4_charactersIn_43 ?_
            refine qX4_charactersIn_44 ?_
            refine qX4_charactersIn_46 ?_
            rw [lU_shr hr (by decide), show (2 : Nat) ^ 8 = 256 from rfl]
            refine qX4_charactersIn_47 rfl ?_
            refine qX4_charactersIn_48 ?_
            refine ih (f + 1) (r / 256) _ (by omega) (by omega) (by rw [Nat.pow_succ] at hr2; omega) ?_
            rw [he, e1, e2]
            simp only [h28, h35, decide_true, Bool.true_and]
            split <;> omega
          · refine qX4_charactersIn_38 ?_
            refine qX4_charactersIn_39 ?_
            rw [he, e1, if_neg (by simp; omega)] at k
            exact k
  exact L 8 0 u _ rfl hu hu (by simp)
theorem t_append {u m : Nat} (h : pAt G w p n c v2 v3 v4 v5) (hu : u < 2 ^ 64) (hm : m ≤ 8) (hn : n + m ≤ 80) (k : ∀ w' c', Fr w w' (fun q => q = p ∨ q = p + 1) → pAt G w' p (n + m) c' v2 v3 v4 v5 → (∀ j, c' j = if n ≤ j ∧ j < n + m then u / 2 ^ (8 * (m - 1 - (j - n))) % 256 else c j) → P none w') : wpM G (d + 1) yX4_append (0, 0) [.ref p, .long (lU u), .int (nI m)] w P := by
  refine eX4_append ?_
  refine qX4_append_0 ?_
  refine qX4_append_1 rfl ?_
  have L : ∀ q i (w' : sW) (c' : Nat → Nat), i + q = m → Fr w w' (fun q => q = p ∨ q = p + 1) → pAt G w' p n c' v2 v3 v4 v5 → (∀ j, c' j = if n ≤ j ∧ j < n + i then u / 2 ^ (8 * (m - 1 - (j - n))) % 256 else c j) → wp G d mX4_append P 3 [some (.ref p), some (.long (lU u)), none, some (.int (nI m)), some (.int (nI i))] [] w' (0, 0) := by
    intro q
    induction q with
    | zero =>
      intro i w' c' hi hF hw hq
      have him : i = m := by omega
      subst him
      obtain ⟨x1, x2⟩ := id hw
      refine qX4_append_3 ?_
      refine qX4_append_5 ?_
      refine nX4_append_6 (by omega) (by omega) (fun h6 => ?_) (fun h6 => by exfalso; omega)
      refine qX4_append_44 ?_
      refine qX4_append_45 rfl ?_
      refine qX4_append_46 (by assumption) ?_
      refine qX4_append_49 ?_
      first | refine nX4_append_50 ?_ | refine qX4_append_50 ?_
      refine qX4_append_51 (by assumption) ?_
      refine qX4_append_54 ?_
      exact k _ c' (hF.up (Or.inl rfl)) ⟨s_upS, by rw [s_upN (by omega)]; exact x2⟩ hq
    | succ q ih =>
      intro i w' c' hi hF hw hq
      obtain ⟨x1, x2⟩ := id hw
      refine qX4_append_3 ?_
      refine qX4_append_5 ?_
      refine nX4_append_6 (by omega) (by omega) (fun h6 => by exfalso; omega) (fun h6 => ?_)
      refine qX4_append_9 ?_
      refine qX4_append_10 (by assumption) ?_
      refine qX4_append_13 ?_
      refine qX4_append_14 (by assumption) ?_
      refine qX4_append_17 ?_
      first | refine nX4_append_19 ?_ | refine qX4_append_19 ?_
      refine qX4_append_20 ?_
      refine qX4_append_21 ?_
      refine qX4_append_23 ?_
      refine qX4_append_24 ?_
      first | refine nX4_append_25 (by omega) ?_ | refine qX4_append_25 ?_
      refine qX4_append_26 ?_
      first | refine nX4_append_28 (by omega) ?_ | refine qX4_append_28 ?_
      first | refine nX4_append_29 ?_ | refine qX4_append_29 ?_
      refine qX4_append_30 ?_
      rw [lU_shr hu (by omega)]
      refine qX4_append_31 ?_
      refine qX4_append_34 ?_
      refine qX4_append_35 ?_
      rw [lU_and]
      have hlt : u / 2 ^ (8 * (m - 1 - i)) % 256 < 256 := Nat.mod_lt _ (by decide)
      refine qX4_append_36 ?_
      rw [i2c_n (by omega)]
      refine nX4_append_37 (by assumption) (by omega) (by decide) ?_
      rw [nar_char (by omega), nF_upd]
      refine nX4_append_38 rfl ?_
      refine qX4_append_41 ?_
      refine ih (i + 1) _ _ (by omega) (hF.up (Or.inr rfl)) ⟨by rw [s_upN (by omega)]; exact x1, s_upS⟩ (fun j => ?_)
      by_cases hj : j = n + i
      · rw [hj, updN_s, if_pos (by omega), show n + i - n = i by omega]
      · rw [updN_n hj, hq j]
        by_cases h1 : n ≤ j ∧ j < n + i
        · rw [if_pos h1, if_pos (by omega)]
        · rw [if_neg h1, if_neg (by omega)]
  exact L m 0 w c (by omega) Fr.rf h (fun j => by rw [if_neg (by omega)])
theorem t_isDigit {v : Nat} (hv : v < 65536) (ht : isDg v = true → P (some (.int (nI 1))) w) (hf : isDg v = false → P (some (.int (nI 0))) w) : wpM G (d + 1) yX4_isDigit (0, 0) [.int (nI v)] w P := by
  refine eX4_isDigit ?_
  refine qX4_isDigit_0 ?_
  refine qX4_isDigit_1 ?_
  refine nX4_isDigit_3 (by omega) (by omega) (fun h3 => ?_) (fun h3 => ?_)
  · refine qX4_isDigit_16 ?_
    refine qX4_isDigit_17 rfl ?_
    exact hf (by simp [isDg]; omega)
  · refine qX4_isDigit_6 ?_
    refine qX4_isDigit_7 ?_
    refine nX4_isDigit_9 (by omega) (by omega) (fun h9 => ?_) (fun h9 => ?_)
    · refine qX4_isDigit_16 ?_
      refine qX4_isDigit_17 rfl ?_
      exact hf (by simp [isDg]; omega)
    · refine qX4_isDigit_12 ?_
      refine qX4_isDigit_13 ?_
      refine qX4_isDigit_17 rfl ?_
      exact ht (by simp [isDg]; omega)
end PAD
