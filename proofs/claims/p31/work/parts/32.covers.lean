/-! bits of longs -/
def bitL (x : Int64) (t : Nat) : Bool := x.toBitVec.getLsbD t
theorem bitL_or (x y : Int64) (t : Nat) : bitL (x ||| y) t = (bitL x t || bitL y t) := by
  simp [bitL]
theorem bitL_and (x y : Int64) (t : Nat) : bitL (x &&& y) t = (bitL x t && bitL y t) := by
  simp [bitL]
theorem sm63 : ∀ k, k < 64 → (((nI k).toInt64 &&& 63).toBitVec.smod 64).toNat = k := by decide +kernel
theorem um63 : ∀ k, k < 64 → ((nI k).toInt64.toUInt64 &&& Int64.toUInt64 63).toNat % 64 = k := by decide +kernel
theorem bitL_shl {x : Int64} {k t : Nat} (hk : k < 64) (ht : t < 64) : bitL (x <<< ((nI k).toInt64 &&& 63)) t = (decide (k ≤ t) && bitL x (t - k)) := by
  unfold bitL
  rw [Int64.toBitVec_shiftLeft, BitVec.shiftLeft_eq', sm63 k hk, BitVec.getLsbD_shiftLeft]
  by_cases h : t < k
  · simp [h, show ¬ k ≤ t by omega]
  · simp [h, ht, show k ≤ t by omega]
theorem bitL_shr {x : Int64} {k t : Nat} (hk : k < 64) : bitL ((x.toUInt64 >>> ((nI k).toInt64.toUInt64 &&& Int64.toUInt64 63)).toInt64) t = bitL x (t + k) := by
  unfold bitL
  have h : ((x.toUInt64 >>> ((nI k).toInt64.toUInt64 &&& Int64.toUInt64 63)).toInt64).toBitVec = x.toBitVec >>> k := by
    apply BitVec.eq_of_toNat_eq
    show (x.toUInt64 >>> ((nI k).toInt64.toUInt64 &&& Int64.toUInt64 63)).toNat = _
    rw [UInt64.toNat_shiftRight, um63 k hk, BitVec.toNat_ushiftRight]
    rfl
  rw [h, BitVec.getLsbD_ushiftRight, Nat.add_comm]
theorem bitL_1 : ∀ t, t < 64 → bitL 1 t = decide (t = 0) := by decide +kernel
theorem bitL_wW : ∀ p, p < 6 → ∀ t, t < 64 → bitL (wW p) t = !t.testBit p := by decide +kernel
theorem bitL_0 (t : Nat) : bitL 0 t = false := by simp [bitL]
theorem and1_0 (x : Int64) : lg_cmp (x &&& 1) 0 = 0 ↔ bitL x 0 = false := by
  have h0 : x &&& 1 = 0 ↔ bitL x 0 = false := by
    constructor
    · intro h
      have h2 : bitL (x &&& 1) 0 = false := by rw [h]; exact bitL_0 0
      rw [bitL_and, bitL_1 0 (by decide)] at h2
      simpa using h2
    · intro h
      apply Int64.toBitVec_inj.mp
      apply BitVec.eq_of_getLsbD_eq
      intro i hi
      show bitL (x &&& 1) i = bitL 0 i
      rw [bitL_and, bitL_0, bitL_1 i hi]
      by_cases hi0 : i = 0
      · subst hi0; simp [h]
      · simp [hi0]
  rw [← h0]
  unfold lg_cmp
  constructor
  · intro q
    split at q
    · cases q
    · split at q
      · next q1 => exact q1
      · cases q
  · intro q
    rw [q]
    decide
/-- sets that are marked, in words -/
def wdAt (f : Nat → Int64) (U : Nat → Bool) : Prop := ∀ i t, i < 64 → t < 64 → bitL (f i) t = U (i * 64 + t)
def cvAt (G : sG) (w : sW) (v n : Nat) (U : Nat → Bool) (fr pw : Nat → Nat) : Prop := ∃ f : Nat → Int64, w.1 v = ob 0 [.ref (v + 1), .ref (v + 2), .ref (v + 3), .int (nI n)] ∧ w.1 (v + 1) = aJ G 64 f ∧ w.1 (v + 2) = aN G 12 fr ∧ w.1 (v + 3) = aN G 12 pw ∧ wdAt f U
def s4 (v : Nat) : Nat → Prop := fun q => v ≤ q ∧ q < v + 4
theorem cvAt.fr {G : sG} {w w' : sW} {S : Nat → Prop} {v n : Nat} {U : Nat → Bool} {fr pw : Nat → Nat} (h : cvAt G w v n U fr pw) (hF : Fr w w' S) (hd : ∀ q, v ≤ q → q < v + 4 → ¬ S q) : cvAt G w' v n U fr pw := by
  obtain ⟨f, h1, h2, h3, h4, h5⟩ := h
  exact ⟨f, by rw [hF.2 _ (hd _ (by omega) (by omega))]; exact h1, by rw [hF.2 _ (hd _ (by omega) (by omega))]; exact h2, by rw [hF.2 _ (hd _ (by omega) (by omega))]; exact h3, by rw [hF.2 _ (hd _ (by omega) (by omega))]; exact h4, h5⟩
theorem cvAt.ext {G : sG} {w : sW} {v n : Nat} {U U' : Nat → Bool} {fr pw : Nat → Nat} (h : cvAt G w v n U fr pw) (he : ∀ S, S < 4096 → U S = U' S) : cvAt G w v n U' fr pw := by
  obtain ⟨f, h1, h2, h3, h4, h5⟩ := h
  exact ⟨f, h1, h2, h3, h4, fun i t hi ht => by rw [h5 i t hi ht]; exact he _ (by omega)⟩
theorem shr6 (s : Nat) : s >>> 6 = s / 64 := by rw [Nat.shiftRight_eq_div_pow]
theorem and63 (s : Nat) : s &&& 63 = s % 64 := Nat.and_two_pow_sub_one_eq_mod s 6
/-- the sets above a set, over a place -/
def stL (U : Nat → Bool) (p : Nat) : Nat → Bool := fun S => U S || (S.testBit p && U (S - 2 ^ p))
def clo (U : Nat → Bool) : Nat → Nat → Bool
  | 0 => U
  | n + 1 => stL (clo U n) n
section COVERS
variable {G : sG} {d : Nat} {P : sQ} {w : sW} {v n : Nat} {U : Nat → Bool} {fr pw : Nat → Nat}
theorem t_canTouchAll {S : Nat} (h : cvAt G w v n U fr pw) (hS : S < 4096) (kt : U S = false → P (some (.int (nI 1))) w) (kf : U S = true → P (some (.int (nI 0))) w) : wpM G (d + 1) yX1_canTouchAll (0, 0) [.ref v, .int (nI S)] w P := by
  obtain ⟨f, x1, x2, x3, x4, x5⟩ := id h
  have hb : bitL ((f (S / 64)).toUInt64 >>> ((nI (S % 64)).toInt64.toUInt64 &&& Int64.toUInt64 63)).toInt64 0 = U S := by
    rw [bitL_shr (by omega), Nat.zero_add, x5 _ _ (by omega) (by omega)]
    congr 1
    omega
  refine eX1_canTouchAll ?_
  refine qX1_canTouchAll_0 ?_
  refine qX1_canTouchAll_1 (by assumption) ?_
  refine qX1_canTouchAll_4 ?_
  refine qX1_canTouchAll_5 ?_
  refine nX1_canTouchAll_7 (by omega) (by omega) ?_
  rw [shr6]
  refine nX1_canTouchAll_8 (by assumption) (by omega) (by decide) ?_
  refine qX1_canTouchAll_9 ?_
  refine qX1_canTouchAll_10 ?_
  first | refine nX1_canTouchAll_12 ?_ | refine qX1_canTouchAll_12 ?_
  rw [and63]
  refine qX1_canTouchAll_13 ?_
  refine qX1_canTouchAll_14 ?_
  refine qX1_canTouchAll_15 ?_
  refine qX1_canTouchAll_16 ?_
  refine qX1_canTouchAll_17 ?_
  refine qX1_canTouchAll_18 (fun hne => ?_) (fun heq => ?_)
  · rw [and1_0, hb] at hne
    refine qX1_canTouchAll_25 ?_
    refine qX1_canTouchAll_26 rfl ?_
    exact kf (by simpa using hne)
  · rw [and1_0, hb] at heq
    refine qX1_canTouchAll_21 ?_
    refine qX1_canTouchAll_22 ?_
    refine qX1_canTouchAll_26 rfl ?_
    exact kt heq
/-- marks of a part's ways -/
def mkO (L : List (Nat × Nat)) (m : Nat) (S : Nat) : Bool := (List.range m).any (fun i => decide (sv L i < gsN L) && pv L i == S)
theorem mkO_succ (L : List (Nat × Nat)) (m S : Nat) : mkO L (m + 1) S = (mkO L m S || (decide (sv L m < gsN L) && pv L m == S)) := by
  simp [mkO, List.range_succ, List.any_append]
theorem t_markLesser {y : Nat} {L : List (Nat × Nat)} (h : cvAt G w v n U fr pw) (hw : wyAt G w y L) (h1 : 1 ≤ L.length) (hs : ∀ i, sv L i ≤ 4000) (hp : ∀ i, i < L.length → pv L i < 4096) (hd : y + 3 ≤ v ∨ v + 4 ≤ y) (k : ∀ w', Fr w w' (s4 v) → cvAt G w' v n (fun S => U S || mkO L L.length S) fr pw → P none w') : wpM G (d + 2) yX1_markLesser (0, 0) [.ref v, .ref y] w P := by
  refine eX1_markLesser ?_
  refine qX1_markLesser_0 ?_
  obtain ⟨s, q, y1, y2, y3, y4, y5⟩ := id hw
  refine qX1_markLesser_1 (by assumption) (Nat.le_of_ble_eq_true rfl) (t_greatestSum hw h1 hs ?_)
  refine qX1_markLesser_4 ?_
  refine qX1_markLesser_5 ?_
  refine qX1_markLesser_6 ?_
  have hg : gsN L ≤ 4000 := mxI_le (fun j _ => hs j)
  have Lp : ∀ m i (w' : sW) (l4 : Option Value), i + m = L.length → Fr w w' (s4 v) → cvAt G w' v n (fun S => U S || mkO L i S) fr pw → wp G (d + 1) mX1_markLesser P 7 [some (.ref v), some (.ref y), some (.int (nI (gsN L))), some (.int (nI i)), l4] [] w' (0, 0) := by
    intro m
    induction m with
    | zero =>
      intro i w' l4 hi hF hc
      have hil : i = L.length := by omega
      subst hil
      have hw' : wyAt G w' y L := hw.fr hF (fun q a1 a2 z => by have := z.1; have := z.2; omega)
      obtain ⟨s, q, y1, y2, y3, y4, y5⟩ := id hw'
      refine qX1_markLesser_7 ?_
      refine qX1_markLesser_8 ?_
      refine qX1_markLesser_9 (by assumption) ?_
      refine nX1_markLesser_12 (by omega) (by omega) (fun h12 => ?_) (fun h12 => by exfalso; omega)
      refine qX1_markLesser_59 ?_
      exact k w' hF hc
    | succ m ih =>
      intro i w' l4 hi hF hc
      have hw' : wyAt G w' y L := hw.fr hF (fun q a1 a2 z => by have := z.1; have := z.2; omega)
      obtain ⟨s, q, y1, y2, y3, y4, y5⟩ := id hw'
      obtain ⟨f, x1, x2, x3, x4, x5⟩ := id hc
      obtain ⟨e1, e2⟩ := y5 i (by omega)
      have e1 : s i = sv L i := e1
      have e2 : q i = pv L i := e2
      have b1 := hs i
      have b2 := hp i (by omega)
      refine qX1_markLesser_7 ?_
      refine qX1_markLesser_8 ?_
      refine qX1_markLesser_9 (by assumption) ?_
      refine nX1_markLesser_12 (by omega) (by omega) (fun h12 => by exfalso; omega) (fun h12 => ?_)
      refine qX1_markLesser_15 ?_
      refine qX1_markLesser_16 (by assumption) ?_
      refine qX1_markLesser_19 ?_
      first | refine fX1_markLesser_20 (by assumption) (by omega) (by decide) ?_ | refine nX1_markLesser_20 (by assumption) (by omega) (by decide) ?_
      rw [e1]
      refine qX1_markLesser_21 ?_
      refine nX1_markLesser_22 (by omega) (by omega) (fun h22 => ?_) (fun h22 => ?_)
      · first | refine nX1_markLesser_53 ?_ | refine qX1_markLesser_53 ?_
        refine qX1_markLesser_56 ?_
        refine ih (i + 1) w' _ (by omega) hF (hc.ext (fun S _ => ?_))
        rw [mkO_succ]
        simp [show ¬ sv L i < gsN L by omega]
      · refine qX1_markLesser_25 ?_
        refine qX1_markLesser_26 (by assumption) ?_
        refine qX1_markLesser_29 ?_
        first | refine fX1_markLesser_30 (by assumption) (by omega) (by decide) ?_ | refine nX1_markLesser_30 (by assumption) (by omega) (by decide) ?_
        rw [e2]
        refine qX1_markLesser_31 ?_
        refine qX1_markLesser_33 ?_
        refine qX1_markLesser_34 (by assumption) ?_
        refine qX1_markLesser_37 ?_
        refine qX1_markLesser_39 ?_
        refine nX1_markLesser_41 (by omega) (by omega) ?_
        rw [shr6]
        refine qX1_markLesser_42 rfl rfl ?_
        refine nX1_markLesser_43 (by assumption) (by omega) (by decide) ?_
        refine qX1_markLesser_44 ?_
        refine qX1_markLesser_45 ?_
        refine qX1_markLesser_47 ?_
        first | refine nX1_markLesser_49 ?_ | refine qX1_markLesser_49 ?_
        rw [and63]
        refine qX1_markLesser_50 ?_
        refine qX1_markLesser_51 ?_
        refine nX1_markLesser_52 (by assumption) (by omega) (by decide) ?_
        first | refine nX1_markLesser_53 ?_ | refine qX1_markLesser_53 ?_
        refine qX1_markLesser_56 ?_
        refine ih (i + 1) _ _ (by omega) (hF.up ⟨by omega, by omega⟩) ⟨_, by rw [s_upN (by omega)]; exact x1, s_upS, by rw [s_upN (by omega)]; exact x3, by rw [s_upN (by omega)]; exact x4, fun j t hj ht => ?_⟩
        show _ = (U (j * 64 + t) || mkO L (i + 1) (j * 64 + t))
        have x6 : bitL (f j) t = (U (j * 64 + t) || mkO L i (j * 64 + t)) := x5 j t hj ht
        rw [mkO_succ]
        by_cases hji : j = pv L i / 64
        · subst hji
          rw [show vp_updL f (pv L i / 64) (f (pv L i / 64) ||| 1 <<< ((nI (pv L i % 64)).toInt64 &&& 63)) (pv L i / 64) = (f (pv L i / 64) ||| 1 <<< ((nI (pv L i % 64)).toInt64 &&& 63)) from pk_uLs, bitL_or, x6, bitL_shl (by omega) ht]
          by_cases ht2 : t = pv L i % 64
          · subst ht2
            rw [Nat.sub_self, bitL_1 0 (by decide)]
            have h2 : (pv L i == pv L i / 64 * 64 + pv L i % 64) = true := by
              rw [beq_iff_eq]; omega
            rw [h2]
            simp [show sv L i < gsN L by omega]
          · have : (decide (pv L i % 64 ≤ t) && bitL 1 (t - pv L i % 64)) = false := by
              rw [bitL_1 _ (by omega)]
              simp
              omega
            rw [this]
            have h2 : (pv L i == pv L i / 64 * 64 + t) = false := by
              rw [beq_eq_false_iff_ne]; omega
            rw [h2]
            simp
        · rw [pk_uLn hji, x6]
          have h2 : (pv L i == j * 64 + t) = false := by
            rw [beq_eq_false_iff_ne]; omega
          rw [h2]
          simp
  exact Lp L.length 0 w _ (by omega) Fr.rf (h.ext (fun S _ => by simp [mkO]))
end COVERS
