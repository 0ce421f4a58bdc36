/-- how many below a number -/
def cnB (g : Nat → Bool) : Nat → Nat
  | 0 => 0
  | n + 1 => cnB g n + (if g n = true then 1 else 0)
theorem cnB_add (g : Nat → Bool) (s : Nat) : ∀ k, cnB g (s + k) = cnB g s + cnB (fun t => g (s + t)) k
  | 0 => rfl
  | k + 1 => by
    rw [← Nat.add_assoc]
    simp only [cnB]
    rw [cnB_add g s k, Nat.add_assoc]
theorem cnB_cong {g g' : Nat → Bool} : ∀ {n}, (∀ t, t < n → g t = g' t) → cnB g n = cnB g' n
  | 0, _ => rfl
  | n + 1, h => by
    simp only [cnB]
    rw [cnB_cong (fun t ht => h t (by omega)), h n (by omega)]
theorem cnB_le (g : Nat → Bool) : ∀ n, cnB g n ≤ n
  | 0 => Nat.le_refl 0
  | n + 1 => by
    have := cnB_le g n
    simp only [cnB]
    split <;> omega
theorem cnB_mono (g : Nat → Bool) (s : Nat) : ∀ k, cnB g s ≤ cnB g (s + k) := fun k => by rw [cnB_add]; exact Nat.le_add_right _ _
theorem cnB_zero {g : Nat → Bool} : ∀ {n}, (∀ t, t < n → g t = false) → cnB g n = 0
  | 0, _ => rfl
  | n + 1, h => by
    simp only [cnB]
    rw [cnB_zero (fun t ht => h t (by omega)), h n (by omega)]
    rfl
def pop8 (b : Nat) : Nat := cnB (Nat.testBit b) 8
def mk8 (c : Nat) : Nat → Nat
  | 0 => 0
  | k + 1 => c + 256 * mk8 c k
def en8 : Nat → Nat → Nat
  | 0, _ => 0
  | k + 1, X => pop8 (X % 256) + 256 * en8 k (X / 256)
def sm8 : Nat → Nat → Nat
  | 0, _ => 0
  | k + 1, X => pop8 (X % 256) + sm8 k (X / 256)
theorem sm8_cnB : ∀ k X, sm8 k X = cnB (Nat.testBit X) (8 * k)
  | 0, _ => rfl
  | k + 1, X => by
    simp only [sm8]
    rw [sm8_cnB k, show 8 * (k + 1) = 8 + 8 * k by omega, cnB_add]
    congr 1
    · refine cnB_cong (fun t ht => ?_)
      have := Nat.testBit_mod_two_pow X 8 t
      rw [show (2 : Nat) ^ 8 = 256 from rfl] at this
      rw [this]
      simp [ht]
    · refine cnB_cong (fun t ht => ?_)
      have : (X / 2 ^ 8).testBit t = X.testBit (t + 8) := Nat.testBit_div_two_pow X t
      rw [show (2 : Nat) ^ 8 = 256 from rfl] at this
      rw [this]
      congr 1
      omega
theorem and_dig {a A m M : Nat} (ha : a < 256) (hm : m < 256) : (a + 256 * A) &&& (m + 256 * M) = (a &&& m) + 256 * (A &&& M) := by
  have h1 := Nat.and_mod_two_pow (a := a + 256 * A) (b := m + 256 * M) (n := 8)
  have h2 := Nat.and_div_two_pow (a := a + 256 * A) (b := m + 256 * M) (n := 8)
  rw [show (2 : Nat) ^ 8 = 256 from rfl] at h1 h2
  rw [show (a + 256 * A) % 256 = a by omega, show (m + 256 * M) % 256 = m by omega] at h1
  rw [show (a + 256 * A) / 256 = A by omega, show (m + 256 * M) / 256 = M by omega] at h2
  omega
def f1 (k X : Nat) : Nat := X - (X / 2 &&& mk8 85 k)
def f2 (k X : Nat) : Nat := (X &&& mk8 51 k) + (X / 4 &&& mk8 51 k)
def f3 (k X : Nat) : Nat := (X + X / 16) &&& mk8 15 k
theorem c1 : ∀ y, y < 2 → ∀ b, b < 256 → (b / 2 + y * 128) &&& 85 = b / 2 &&& 85 := by decide +kernel
theorem c2 : ∀ y, y < 4 → ∀ b, b < 256 → (b / 4 + y * 64) &&& 51 = b / 4 &&& 51 := by decide +kernel
def s1b (b : Nat) : Nat := b - (b / 2 &&& 85)
def s2b (b : Nat) : Nat := (b &&& 51) + (b / 4 &&& 51)
def s3b (b : Nat) : Nat := (b + b / 16) % 16
theorem c3 : ∀ b, b < 256 → s2b (s1b b) < 256 ∧ s2b (s1b b) % 16 ≤ 4 ∧ s2b (s1b b) / 16 ≤ 4 ∧ s3b (s2b (s1b b)) = pop8 b := by decide +kernel
theorem s1b_lt {b : Nat} (h : b < 256) : s1b b < 256 := Nat.lt_of_le_of_lt (Nat.sub_le _ _) h
theorem f1_s {k b Y : Nat} (hb : b < 256) : f1 (k + 1) (b + 256 * Y) = s1b b + 256 * f1 k Y := by
  unfold f1 s1b
  rw [show (b + 256 * Y) / 2 = (b / 2 + Y % 2 * 128) + 256 * (Y / 2) by omega]
  simp only [mk8]
  rw [and_dig (by omega) (by decide), c1 _ (by omega) b hb]
  have h1 : b / 2 &&& 85 ≤ b / 2 := Nat.and_le_left
  have h2 : Y / 2 &&& mk8 85 k ≤ Y / 2 := Nat.and_le_left
  omega
theorem f2_s {k b Y : Nat} (hb : b < 256) : f2 (k + 1) (b + 256 * Y) = s2b b + 256 * f2 k Y := by
  unfold f2 s2b
  rw [show (b + 256 * Y) / 4 = (b / 4 + Y % 4 * 64) + 256 * (Y / 4) by omega]
  simp only [mk8]
  rw [and_dig hb (by decide), and_dig (by omega) (by decide), c2 _ (by omega) b hb]
  omega
theorem f3_s {k b Y : Nat} (h1 : b % 16 + b / 16 ≤ 15) (h2 : b / 16 + Y % 16 ≤ 15) (hb : b < 256) : f3 (k + 1) (b + 256 * Y) = s3b b + 256 * f3 k Y := by
  unfold f3 s3b
  rw [show (b + 256 * Y) + (b + 256 * Y) / 16 = (b + b / 16 + 16 * (Y % 16)) + 256 * (Y + Y / 16) by omega]
  simp only [mk8]
  rw [and_dig (by omega) (by decide)]
  congr 1
  have := Nat.and_two_pow_sub_one_eq_mod (b + b / 16 + 16 * (Y % 16)) 4
  rw [show (2 : Nat) ^ 4 - 1 = 15 from rfl, show (2 : Nat) ^ 4 = 16 from rfl] at this
  rw [this]
  omega
theorem f2_16 : ∀ k X, f2 k (f1 k X) % 16 ≤ 4
  | 0, X => by simp [f2, mk8]
  | k + 1, X => by
    rw [show X = X % 256 + 256 * (X / 256) by omega, f1_s (by omega), f2_s (s1b_lt (by omega))]
    have := (c3 (X % 256) (by omega)).2.1
    omega
theorem f123 : ∀ k X, f3 k (f2 k (f1 k X)) = en8 k X
  | 0, X => by simp [f3, mk8, en8]
  | k + 1, X => by
    simp only [en8]
    rw [← f123 k (X / 256)]
    obtain ⟨q1, q2, q3, q4⟩ := c3 (X % 256) (by omega)
    have q5 := f2_16 k (X / 256)
    have h1 : f1 (k + 1) X = s1b (X % 256) + 256 * f1 k (X / 256) := by
      have := f1_s (k := k) (b := X % 256) (Y := X / 256) (by omega)
      rw [show X % 256 + 256 * (X / 256) = X by omega] at this
      exact this
    rw [h1, f2_s (s1b_lt (by omega)), f3_s (by omega) (by omega) q1, q4]
theorem pop8_le (b : Nat) : pop8 b ≤ 8 := cnB_le _ 8
theorem fin8 (X : Nat) : let e := en8 8 X; let e1 := e + e / 256; let e2 := e1 + e1 / 65536; let e3 := e2 + e2 / 4294967296; e3 % 128 = sm8 8 X ∧ e < 2 ^ 60 ∧ e1 < 2 ^ 61 ∧ e2 < 2 ^ 62 ∧ e3 < 2 ^ 63 := by
  intro e e1 e2 e3
  have h0 := pop8_le (X % 256)
  have h1 := pop8_le (X / 256 % 256)
  have h2 := pop8_le (X / 256 / 256 % 256)
  have h3 := pop8_le (X / 256 / 256 / 256 % 256)
  have h4 := pop8_le (X / 256 / 256 / 256 / 256 % 256)
  have h5 := pop8_le (X / 256 / 256 / 256 / 256 / 256 % 256)
  have h6 := pop8_le (X / 256 / 256 / 256 / 256 / 256 / 256 % 256)
  have h7 := pop8_le (X / 256 / 256 / 256 / 256 / 256 / 256 / 256 % 256)
  have he : e = en8 8 X := rfl
  have he1 : e1 = e + e / 256 := rfl
  have he2 : e2 = e1 + e1 / 65536 := rfl
  have he3 : e3 = e2 + e2 / 4294967296 := rfl
  clear_value e e1 e2 e3
  simp only [en8] at he
  simp only [sm8]
  generalize pop8 (X % 256) = p0 at *
  generalize pop8 (X / 256 % 256) = p1 at *
  generalize pop8 (X / 256 / 256 % 256) = p2 at *
  generalize pop8 (X / 256 / 256 / 256 % 256) = p3 at *
  generalize pop8 (X / 256 / 256 / 256 / 256 % 256) = p4 at *
  generalize pop8 (X / 256 / 256 / 256 / 256 / 256 % 256) = p5 at *
  generalize pop8 (X / 256 / 256 / 256 / 256 / 256 / 256 % 256) = p6 at *
  generalize pop8 (X / 256 / 256 / 256 / 256 / 256 / 256 / 256 % 256) = p7 at *
  have g1 : e / 256 = p1 + 256 * (p2 + 256 * (p3 + 256 * (p4 + 256 * (p5 + 256 * (p6 + 256 * p7))))) := by omega
  have g2 : e1 = (p0 + p1) + 256 * ((p1 + p2) + 256 * ((p2 + p3) + 256 * ((p3 + p4) + 256 * ((p4 + p5) + 256 * ((p5 + p6) + 256 * ((p6 + p7) + 256 * p7)))))) := by omega
  have g3 : e1 / 65536 = (p2 + p3) + 256 * ((p3 + p4) + 256 * ((p4 + p5) + 256 * ((p5 + p6) + 256 * ((p6 + p7) + 256 * p7)))) := by omega
  have g4 : e2 = (p0 + p1 + p2 + p3) + 256 * ((p1 + p2 + p3 + p4) + 256 * ((p2 + p3 + p4 + p5) + 256 * ((p3 + p4 + p5 + p6) + 256 * ((p4 + p5 + p6 + p7) + 256 * ((p5 + p6 + p7) + 256 * ((p6 + p7) + 256 * p7)))))) := by omega
  have g5 : e2 / 4294967296 = (p4 + p5 + p6 + p7) + 256 * ((p5 + p6 + p7) + 256 * ((p6 + p7) + 256 * p7)) := by omega
  refine ⟨?_, ?_, ?_, ?_, ?_⟩
  · omega
  · omega
  · omega
  · omega
  · omega
/-- longs as words -/
def wN (x : Int64) : Nat := x.toBitVec.toNat
def lsh (x : Int64) (k : Nat) : Int64 := (x.toUInt64 >>> ((nI k).toInt64.toUInt64 &&& Int64.toUInt64 63)).toInt64
theorem wN_lt (x : Int64) : wN x < 2 ^ 64 := x.toBitVec.isLt
theorem wN_and (x y : Int64) : wN (x &&& y) = wN x &&& wN y := rfl
theorem wN_sh (x : Int64) {k : Nat} (hk : k < 64) : wN (lsh x k) = wN x / 2 ^ k := by
  unfold lsh
  show (x.toUInt64 >>> ((nI k).toInt64.toUInt64 &&& Int64.toUInt64 63)).toNat = _
  rw [UInt64.toNat_shiftRight, um63 k hk, Nat.shiftRight_eq_div_pow]
  rfl
theorem wN_add (x y : Int64) (h : wN x + wN y < 2 ^ 64) : wN (x + y) = wN x + wN y := by
  show (x.toUInt64 + y.toUInt64).toNat = _
  rw [UInt64.toNat_add]
  exact Nat.mod_eq_of_lt h
theorem wN_sub (x y : Int64) (h : wN y ≤ wN x) : wN (x - y) = wN x - wN y := by
  show (x.toUInt64 - y.toUInt64).toNat = _
  exact UInt64.toNat_sub_of_le _ _ h
theorem l127 (x : Int64) : x.toInt32 &&& nI 127 = nI (wN x % 128) := by
  apply Int32.toBitVec_inj.mp
  apply BitVec.eq_of_toNat_eq
  have h1 : (x.toInt32 &&& nI 127).toBitVec.toNat = x.toInt32.toBitVec.toNat &&& 127 := rfl
  have h2 : x.toInt32.toBitVec.toNat = wN x % 2 ^ 32 := by
    rw [Int64.toBitVec_toInt32, BitVec.signExtend_eq_setWidth_of_le _ (by decide)]
    exact BitVec.toNat_setWidth _ _
  have h3 : (nI (wN x % 128)).toBitVec.toNat = wN x % 128 % 2 ^ 32 := by
    show (BitVec.ofNat 32 (wN x % 128)).toNat = _
    exact BitVec.toNat_ofNat _ _
  rw [h1, h2, h3]
  have := Nat.and_two_pow_sub_one_eq_mod (wN x % 2 ^ 32) 7
  rw [show (2 : Nat) ^ 7 - 1 = 127 from rfl] at this
  rw [this]
  omega
def bcL (x : Int64) : Int32 :=
  let x1 := x - (lsh x 1 &&& 6148914691236517205)
  let x2 := (x1 &&& 3689348814741910323) + (lsh x1 2 &&& 3689348814741910323)
  let x3 := (x2 + lsh x2 4) &&& 1085102592571150095
  let x4 := x3 + lsh x3 8
  let x5 := x4 + lsh x4 16
  let x6 := x5 + lsh x5 32
  x6.toInt32 &&& nI 127
theorem mk_85 : wN 6148914691236517205 = mk8 85 8 := by decide +kernel
theorem mk_51 : wN 3689348814741910323 = mk8 51 8 := by decide +kernel
theorem mk_15 : wN 1085102592571150095 = mk8 15 8 := by decide +kernel
theorem bcL_ok (x : Int64) : bcL x = nI (cnB (bitL x) 64) := by
  obtain ⟨x1, k1⟩ : ∃ x1, x1 = x - (lsh x 1 &&& 6148914691236517205) := ⟨_, rfl⟩
  obtain ⟨x2, k2⟩ : ∃ x2, x2 = (x1 &&& 3689348814741910323) + (lsh x1 2 &&& 3689348814741910323) := ⟨_, rfl⟩
  obtain ⟨x3, k3⟩ : ∃ x3, x3 = (x2 + lsh x2 4) &&& 1085102592571150095 := ⟨_, rfl⟩
  obtain ⟨x4, k4⟩ : ∃ x4, x4 = x3 + lsh x3 8 := ⟨_, rfl⟩
  obtain ⟨x5, k5⟩ : ∃ x5, x5 = x4 + lsh x4 16 := ⟨_, rfl⟩
  obtain ⟨x6, k6⟩ : ∃ x6, x6 = x5 + lsh x5 32 := ⟨_, rfl⟩
  have k7 : bcL x = x6.toInt32 &&& nI 127 := by rw [k6, k5, k4, k3, k2, k1]; rfl
  rw [k7]
  have e1 : wN x1 = f1 8 (wN x) := by
    rw [k1]
    show wN (x - (lsh x 1 &&& 6148914691236517205)) = _
    have h : wN (lsh x 1 &&& 6148914691236517205) = wN x / 2 &&& mk8 85 8 := by
      rw [wN_and, wN_sh x (by decide), mk_85]
    rw [wN_sub _ _ (by rw [h]; exact Nat.le_trans Nat.and_le_left (Nat.div_le_self _ _)), h]
    rfl
  have m51 : mk8 51 8 < 2 ^ 62 := by decide +kernel
  have e2 : wN x2 = f2 8 (wN x1) := by
    rw [k2]
    show wN ((x1 &&& 3689348814741910323) + (lsh x1 2 &&& 3689348814741910323)) = _
    have h1 : wN (x1 &&& 3689348814741910323) = wN x1 &&& mk8 51 8 := by rw [wN_and, mk_51]
    have h2 : wN (lsh x1 2 &&& 3689348814741910323) = wN x1 / 4 &&& mk8 51 8 := by rw [wN_and, wN_sh x1 (by decide), mk_51]
    have b1 : wN x1 &&& mk8 51 8 ≤ mk8 51 8 := Nat.and_le_right
    have b2 : wN x1 / 4 &&& mk8 51 8 ≤ mk8 51 8 := Nat.and_le_right
    rw [wN_add _ _ (by rw [h1, h2]; omega), h1, h2]
    rfl
  have b2 : wN x2 < 2 ^ 63 := by
    have b1 : wN x1 &&& mk8 51 8 ≤ mk8 51 8 := Nat.and_le_right
    have b2 : wN x1 / 4 &&& mk8 51 8 ≤ mk8 51 8 := Nat.and_le_right
    rw [e2]
    unfold f2
    omega
  have e3 : wN x3 = f3 8 (wN x2) := by
    rw [k3]
    show wN ((x2 + lsh x2 4) &&& 1085102592571150095) = _
    have h2 : wN (lsh x2 4) = wN x2 / 16 := wN_sh x2 (by decide)
    rw [wN_and, wN_add _ _ (by rw [h2]; omega), h2, mk_15]
    rfl
  rw [e2, e1, f123] at e3
  obtain ⟨g1, g2, g3, g4, g5⟩ := fin8 (wN x)
  rw [← e3] at g1 g2 g3 g4 g5
  have h4 : wN (lsh x3 8) = wN x3 / 256 := wN_sh x3 (by decide)
  have e4 : wN x4 = wN x3 + wN x3 / 256 := by
    rw [k4]
    show wN (x3 + lsh x3 8) = _
    rw [wN_add _ _ (by rw [h4]; omega), h4]
  rw [← e4] at g1 g3 g4 g5
  have h5 : wN (lsh x4 16) = wN x4 / 65536 := wN_sh x4 (by decide)
  have e5 : wN x5 = wN x4 + wN x4 / 65536 := by
    rw [k5]
    show wN (x4 + lsh x4 16) = _
    rw [wN_add _ _ (by rw [h5]; omega), h5]
  rw [← e5] at g1 g4 g5
  have h6 : wN (lsh x5 32) = wN x5 / 4294967296 := wN_sh x5 (by decide)
  have e6 : wN x6 = wN x5 + wN x5 / 4294967296 := by
    rw [k6]
    show wN (x5 + lsh x5 32) = _
    rw [wN_add _ _ (by rw [h6]; omega), h6]
  rw [← e6] at g1 g5
  rw [l127, g1, sm8_cnB]
  rfl
section POP
variable {G : sG} {d : Nat} {P : sQ} {w : sW} {v n : Nat} {U : Nat → Bool} {fr pw : Nat → Nat}
theorem t_bitCountL {x : Int64} (k : P (some (.int (nI (cnB (bitL x) 64)))) w) : wpM G (d + 1) yJ13_bitCount_95d88 (0, 0) [.long x] w P := by
  refine eJ13_bitCount_95d88 ?_
  refine qJ13_bitCount_95d88_0 ?_
  refine qJ13_bitCount_95d88_1 ?_
  refine qJ13_bitCount_95d88_2 ?_
  refine qJ13_bitCount_95d88_3 ?_
  refine qJ13_bitCount_95d88_4 ?_
  refine qJ13_bitCount_95d88_7 ?_
  refine qJ13_bitCount_95d88_8 ?_
  refine qJ13_bitCount_95d88_9 rfl ?_
  refine qJ13_bitCount_95d88_10 ?_
  refine qJ13_bitCount_95d88_11 ?_
  refine qJ13_bitCount_95d88_14 ?_
  refine qJ13_bitCount_95d88_15 ?_
  refine qJ13_bitCount_95d88_16 ?_
  refine qJ13_bitCount_95d88_17 ?_
  refine qJ13_bitCount_95d88_18 ?_
  refine qJ13_bitCount_95d88_21 ?_
  refine qJ13_bitCount_95d88_22 ?_
  refine qJ13_bitCount_95d88_23 rfl ?_
  refine qJ13_bitCount_95d88_24 ?_
  refine qJ13_bitCount_95d88_25 ?_
  refine qJ13_bitCount_95d88_26 ?_
  refine qJ13_bitCount_95d88_27 ?_
  refine qJ13_bitCount_95d88_28 ?_
  refine qJ13_bitCount_95d88_29 ?_
  refine qJ13_bitCount_95d88_32 ?_
  refine qJ13_bitCount_95d88_33 rfl ?_
  refine qJ13_bitCount_95d88_34 ?_
  refine qJ13_bitCount_95d88_35 ?_
  refine qJ13_bitCount_95d88_36 ?_
  refine qJ13_bitCount_95d88_38 ?_
  refine qJ13_bitCount_95d88_39 ?_
  refine qJ13_bitCount_95d88_40 rfl ?_
  refine qJ13_bitCount_95d88_41 ?_
  refine qJ13_bitCount_95d88_42 ?_
  refine qJ13_bitCount_95d88_43 ?_
  refine qJ13_bitCount_95d88_45 ?_
  refine qJ13_bitCount_95d88_46 ?_
  refine qJ13_bitCount_95d88_47 rfl ?_
  refine qJ13_bitCount_95d88_48 ?_
  refine qJ13_bitCount_95d88_49 ?_
  refine qJ13_bitCount_95d88_50 ?_
  refine qJ13_bitCount_95d88_52 ?_
  refine qJ13_bitCount_95d88_53 ?_
  refine qJ13_bitCount_95d88_54 rfl ?_
  refine qJ13_bitCount_95d88_55 ?_
  refine qJ13_bitCount_95d88_56 ?_
  refine qJ13_bitCount_95d88_57 ?_
  refine qJ13_bitCount_95d88_59 ?_
  refine qJ13_bitCount_95d88_60 ?_
  rw [← bcL_ok x] at k
  exact k
theorem t_touchableSets (hc : cvAt G w v n U fr pw) (hn : n ≤ 12) (hU : ∀ S, 2 ^ n ≤ S → S < 4096 → U S = false) (k : P (some (.int (nI (2 ^ n - cnB U (2 ^ n))))) w) : wpM G (d + 2) yX1_touchableSets (0, 0) [.ref v] w P := by
  obtain ⟨f, x1, x2, x3, x4, x5⟩ := id hc
  have hp12 : ∀ n, n < 13 → 1 <<< n = 2 ^ n ∧ 1 * 2 ^ n ≤ 4096 := by decide
  obtain ⟨s1, s2⟩ := hp12 n (by omega)
  have hle : ∀ i, i ≤ 4096 → cnB U i ≤ cnB U (2 ^ n) := by
    intro i hi
    by_cases h : i ≤ 2 ^ n
    · have := cnB_mono U i (2 ^ n - i)
      rw [show i + (2 ^ n - i) = 2 ^ n by omega] at this
      exact this
    · have := cnB_add U (2 ^ n) (i - 2 ^ n)
      have hz : cnB (fun t => U (2 ^ n + t)) (i - 2 ^ n) = 0 := cnB_zero (fun t ht => hU _ (by omega) (by omega))
      rw [show 2 ^ n + (i - 2 ^ n) = i by omega, hz] at this
      omega
  have hn2 := cnB_le U (2 ^ n)
  refine eX1_touchableSets ?_
  refine qX1_touchableSets_0 ?_
  refine qX1_touchableSets_1 ?_
  refine qX1_touchableSets_2 (by assumption) ?_
  refine nX1_touchableSets_5 (by omega) (by omega) ?_
  rw [s1]
  refine qX1_touchableSets_6 ?_
  refine qX1_touchableSets_7 ?_
  refine qX1_touchableSets_8 ?_
  have Lp : ∀ m i, i + m = 64 → wp G (d + 1) mX1_touchableSets P 9 [some (.ref v), some (.int (nI (2 ^ n - cnB U (i * 64)))), some (.int (nI i))] [] w (0, 0) := by
    intro m
    induction m with
    | zero =>
      intro i hi
      refine qX1_touchableSets_9 ?_
      refine qX1_touchableSets_10 ?_
      refine nX1_touchableSets_12 (by omega) (by omega) (fun h12 => ?_) (fun h12 => by exfalso; omega)
      refine qX1_touchableSets_33 ?_
      refine qX1_touchableSets_34 ?_
      have h1 := hle (i * 64) (by omega)
      have h2 := cnB_mono U (2 ^ n) (i * 64 - 2 ^ n)
      rw [show 2 ^ n + (i * 64 - 2 ^ n) = i * 64 by omega] at h2
      rw [show cnB U (i * 64) = cnB U (2 ^ n) by omega]
      exact k
    | succ m ih =>
      intro i hi
      have h1 := hle (i * 64) (by omega)
      have h2 := hle (i * 64 + 64) (by omega)
      have h3 : cnB U (i * 64 + 64) = cnB U (i * 64) + cnB (bitL (f i)) 64 := by
        rw [cnB_add]
        congr 1
        exact cnB_cong (fun t ht => (x5 i t (by omega) ht).symm)
      refine qX1_touchableSets_9 ?_
      refine qX1_touchableSets_10 ?_
      refine nX1_touchableSets_12 (by omega) (by omega) (fun h12 => by exfalso; omega) (fun h12 => ?_)
      refine qX1_touchableSets_15 ?_
      refine qX1_touchableSets_16 ?_
      refine qX1_touchableSets_17 (by assumption) ?_
      refine qX1_touchableSets_20 ?_
      refine nX1_touchableSets_21 (by assumption) (by omega) (by decide) ?_
      refine qX1_touchableSets_22 (Nat.le_of_ble_eq_true rfl) (t_bitCountL ?_)
      first | refine nX1_touchableSets_25 (by omega) ?_ | refine qX1_touchableSets_25 ?_
      refine qX1_touchableSets_26 ?_
      first | refine nX1_touchableSets_27 ?_ | refine qX1_touchableSets_27 ?_
      refine qX1_touchableSets_30 ?_
      have := ih (i + 1) (by omega)
      rw [show (i + 1) * 64 = i * 64 + 64 by omega, h3] at this
      rw [show 2 ^ n - cnB U (i * 64) - cnB (bitL (f i)) 64 = 2 ^ n - (cnB U (i * 64) + cnB (bitL (f i)) 64) by omega]
      exact this
  exact Lp 64 0 (by omega)
end POP
