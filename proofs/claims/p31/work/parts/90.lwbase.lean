/-! the law's small methods -/
theorem and31 (v : Int32) : ∃ m, m < 2147483648 ∧ v &&& nI 2147483647 = nI m := by
  refine ⟨(v &&& nI 2147483647).toBitVec.toNat, ?_, ?_⟩
  · have h1 : (v &&& nI 2147483647).toBitVec.toNat = v.toBitVec.toNat &&& 2147483647 := rfl
    rw [h1]
    exact Nat.lt_of_le_of_lt Nat.and_le_right (by decide)
  · apply Int32.toBitVec_inj.mp
    apply BitVec.eq_of_toNat_eq
    have h3 : ∀ m, (nI m).toBitVec.toNat = m % 2 ^ 32 := fun m => by
      show (BitVec.ofNat 32 m).toNat = _
      exact BitVec.toNat_ofNat _ _
    rw [h3, Nat.mod_eq_of_lt (v &&& nI 2147483647).toBitVec.isLt]
theorem tbit (o j : Nat) : o >>> j &&& 1 = 1 ↔ o.testBit j = true := by
  rw [Nat.and_one_is_mod, Nat.shiftRight_eq_div_pow, Nat.testBit_eq_decide_div_mod_eq, decide_eq_true_eq]
theorem tbit0 (o j : Nat) : o >>> j &&& 1 = 0 ↔ o.testBit j = false := by
  rw [Nat.and_one_is_mod, Nat.shiftRight_eq_div_pow, Nat.testBit_eq_decide_div_mod_eq, decide_eq_false_iff_not]
  omega
theorem tbit1 (o j : Nat) : o >>> j &&& 1 ≤ 1 := Nat.and_le_right
def bitsC (x : Nat) : Bool := x == 0 || (bcN (x &&& (x - 1)) + 1 == bcN x && decide (x &&& (x - 1) < 4096))
theorem bitsC_ok2 : ∀ i, i < 64 → ∀ j, j < 64 → bitsC (i * 64 + j) = true := by decide +kernel
theorem bitsC_ok {x : Nat} (h : x < 4096) (h0 : ¬ x = 0) : bcN (x &&& (x - 1)) + 1 = bcN x ∧ x &&& (x - 1) < 4096 := by
  have := bitsC_ok2 (x / 64) (by omega) (x % 64) (by omega)
  rw [show x / 64 * 64 + x % 64 = x by omega] at this
  simpa [bitsC, h0] using this
/-- the law's array shows a grid -/
def lV (G : sG) (w : sW) (p : Nat) (f : Nat → Nat) (a R C : Nat) (E : Nat → Nat) : Prop := w.1 p = aN G 36 f ∧ a < 3 ∧ f (12 * a) = R ∧ f (12 * a + 1) = C ∧ (∀ q, q < R * C → f (12 * a + 2 + q) = E q) ∧ okD R C ∧ R * C ≤ 9 ∧ ∀ q, q < R * C → E q ≤ 999
section LBASE
variable {G : sG} {d : Nat} {P : sQ} {w : sW} {p a R C : Nat} {f E : Nat → Nat}
theorem lV.fr {w' : sW} {S : Nat → Prop} (h : lV G w p f a R C E) (hF : Fr w w' S) (hp : ¬ S p) : lV G w' p f a R C E := ⟨by rw [hF.2 _ hp]; exact h.1, h.2⟩
theorem l_cell {i : Nat} (hL : gL G ≤ 260) (hi : i < 1000) (k : ∀ v, P (some (.int v)) w) : wpM G (d + 1) yL_cell (0, 0) [.ref (gb G), .int (nI i)] w P := by
  refine eL_cell ?_
  refine qL_cell_0 ?_
  refine qL_cell_1 ?_
  refine qL_cell_2 ?_
  refine nL_cell_3 (by omega) (by omega) (fun h3 => ?_) (fun h3 => ?_)
  · refine qL_cell_12 ?_
    refine qL_cell_14 ?_
    refine qL_cell_15 ?_
    first | refine nL_cell_16 ?_ | refine qL_cell_16 ?_
    first | refine nL_cell_17 ?_ | refine qL_cell_17 ?_
    refine qL_cell_18 ?_
    first | refine nL_cell_20 ?_ | refine qL_cell_20 ?_
    refine qL_cell_21 ?_
    exact k _
  · refine qL_cell_6 ?_
    refine qL_cell_7 ?_
    refine qL_cell_8 (by omega) (by omega) ?_
    refine qL_cell_9 ?_
    refine qL_cell_21 ?_
    exact k _
theorem l_low {v : Int32} {n : Nat} (h0 : 0 < n) (hn : n < 2147483648) (k : ∀ r, r < n → P (some (.int (nI r))) w) : wpM G (d + 1) yL_low (0, 0) [.int v, .int (nI n)] w P := by
  obtain ⟨m, hm, he⟩ := and31 v
  refine eL_low ?_
  refine qL_low_0 ?_
  refine qL_low_1 ?_
  refine qL_low_3 ?_
  rw [he]
  refine qL_low_4 ?_
  refine nL_low_5 (by omega) (by omega) (by omega) ?_
  refine qL_low_6 ?_
  exact k _ (Nat.mod_lt _ h0)
theorem l_at {i j : Nat} (h : lV G w p f a R C E) (hi : i < R) (hj : j < C) (k : P (some (.int (nI (E (i * C + j))))) w) : wpM G (d + 1) yL_at (0, 0) [.int (nI a), .int (nI i), .int (nI j), .ref p] w P := by
  obtain ⟨hp, ha, hR, hC, hE, hd, h9, h999⟩ := id h
  have hin := hd.in hi hj
  refine eL_at ?_
  refine qL_at_0 ?_
  refine qL_at_1 ?_
  refine qL_at_3 ?_
  first | refine nL_at_4 ?_ | refine qL_at_4 ?_
  refine qL_at_5 ?_
  first | refine nL_at_6 ?_ | refine qL_at_6 ?_
  refine qL_at_7 ?_
  refine qL_at_8 ?_
  refine qL_at_9 ?_
  refine qL_at_11 ?_
  first | refine nL_at_12 ?_ | refine qL_at_12 ?_
  refine qL_at_13 ?_
  first | refine nL_at_14 ?_ | refine qL_at_14 ?_
  first | refine fL_at_15 (by assumption) (by omega) (by decide) ?_ | refine nL_at_15 (by assumption) (by omega) (by decide) ?_
  rw [hC]
  first | refine nL_at_16 ?_ | refine qL_at_16 ?_
  first | refine nL_at_17 ?_ | refine qL_at_17 ?_
  refine qL_at_18 ?_
  first | refine nL_at_19 ?_ | refine qL_at_19 ?_
  first | refine fL_at_20 (by assumption) (by omega) (by decide) ?_ | refine nL_at_20 (by assumption) (by omega) (by decide) ?_
  refine qL_at_21 ?_
  rw [show 12 * a + 2 + i * C + j = 12 * a + 2 + (i * C + j) by omega, hE _ hin]
  exact k
theorem l_many (h : lV G w p f a R C E) (k : P (some (.int (nI (R * C)))) w) : wpM G (d + 1) yL_many (0, 0) [.int (nI a), .ref p] w P := by
  obtain ⟨hp, ha, hR, hC, hE, hd, h9, h999⟩ := id h
  refine eL_many ?_
  refine qL_many_0 ?_
  refine qL_many_1 ?_
  refine qL_many_3 ?_
  first | refine nL_many_4 ?_ | refine qL_many_4 ?_
  first | refine fL_many_5 (by assumption) (by omega) (by decide) ?_ | refine nL_many_5 (by assumption) (by omega) (by decide) ?_
  refine qL_many_6 ?_
  refine qL_many_7 ?_
  refine qL_many_9 ?_
  first | refine nL_many_10 ?_ | refine qL_many_10 ?_
  refine qL_many_11 ?_
  first | refine nL_many_12 ?_ | refine qL_many_12 ?_
  first | refine fL_many_13 (by assumption) (by omega) (by decide) ?_ | refine nL_many_13 (by assumption) (by omega) (by decide) ?_
  first | refine nL_many_14 ?_ | refine qL_many_14 ?_
  refine qL_many_15 ?_
  rw [hR, hC]
  exact k
theorem l_bits {v : Nat} (hv : v < 4096) (k : P (some (.int (nI (bcN v)))) w) : wpM G (d + 1) yL_bits (0, 0) [.int (nI v)] w P := by
  refine eL_bits ?_
  refine qL_bits_0 ?_
  refine qL_bits_1 ?_
  refine qL_bits_2 ?_
  refine qL_bits_3 ?_
  have L : ∀ m x n, m = bcN x → x < 4096 → n + bcN x = bcN v → wp G d mL_bits P 4 [some (.int (nI v)), some (.int (nI n)), some (.int (nI x))] [] w (0, 0) := by
    intro m
    induction m with
    | zero =>
      intro x n hm hx hn
      have hx0 : x = 0 := Classical.byContradiction fun h0 => by
        have := (bitsC_ok hx h0).1
        omega
      subst hx0
      refine qL_bits_4 ?_
      refine nL_bits_5 (by omega) (fun h5 => ?_) (fun h5 => by exfalso; omega)
      refine qL_bits_20 ?_
      refine qL_bits_21 ?_
      rw [show n = bcN v by omega]
      exact k
    | succ m ih =>
      intro x n hm hx hn
      have h0 : ¬ x = 0 := fun z => by
        rw [z, show bcN 0 = 0 from rfl] at hm
        omega
      obtain ⟨b1, b2⟩ := bitsC_ok hx h0
      refine qL_bits_4 ?_
      refine nL_bits_5 (by omega) (fun h5 => by exfalso; omega) (fun h5 => ?_)
      first | refine nL_bits_8 ?_ | refine qL_bits_8 ?_
      refine qL_bits_11 ?_
      refine qL_bits_12 ?_
      refine qL_bits_13 ?_
      first | refine nL_bits_14 (by omega) ?_ | refine qL_bits_14 ?_
      first | refine nL_bits_15 ?_ | refine qL_bits_15 ?_
      refine qL_bits_16 ?_
      refine qL_bits_17 ?_
      exact ih _ _ (by omega) b2 (by omega)
  exact L _ v 0 rfl hv (by omega)
end LBASE
