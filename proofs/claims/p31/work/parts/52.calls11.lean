/-! the calls that use covers -/
theorem u0S_hi {R C : Nat} {a : Nat → Nat} {r c : Nat} {U : Nat → Bool} (h : ∀ S, 2 ^ (R * C) ≤ S → U S = false) : ∀ S, 2 ^ (R * C) ≤ S → u0S R C a r c U S = false := by
  intro S hS
  unfold u0S mkO
  rw [h S hS, Bool.false_or, Bool.and_eq_false_iff]
  refine Or.inr ?_
  rw [List.any_eq_false]
  intro i _
  have := pv_lt (R := R) (C := C) (a := a) (r := r) (c := c) i
  simp only [Bool.and_eq_true, decide_eq_true_eq, beq_iff_eq, not_and]
  intro _
  omega
theorem u0C_hi {R C : Nat} {a : Nat → Nat} {r : Nat} {U : Nat → Bool} (h : ∀ S, 2 ^ (R * C) ≤ S → U S = false) : ∀ n S, 2 ^ (R * C) ≤ S → u0C R C a r U n S = false
  | 0 => h
  | n + 1 => by
    simp only [u0C]
    exact u0S_hi (u0C_hi h n)
theorem u0R_hi {R C : Nat} {a : Nat → Nat} : ∀ n S, 2 ^ (R * C) ≤ S → u0R R C a n S = false
  | 0 => fun _ _ => rfl
  | n + 1 => by
    simp only [u0R]
    exact u0C_hi (u0R_hi n) _
theorem sub_bit_ge {S p n : Nat} (hp : p < n) (hb : S.testBit p = true) (h : 2 ^ n ≤ S) : 2 ^ n ≤ S - 2 ^ p := by
  have h1 : 2 ^ p ≤ S := Nat.ge_two_pow_of_testBit hb
  have h2 : 2 ^ n = 2 ^ (n - p - 1) * 2 * 2 ^ p := by
    rw [← Nat.pow_succ, ← Nat.pow_add]
    congr 1
    omega
  have h3 : S / 2 ^ p % 2 = 1 := by
    rw [Nat.testBit_eq_decide_div_mod_eq, decide_eq_true_eq] at hb
    exact hb
  have h4 := Nat.div_add_mod S (2 ^ p)
  have h5 : 2 ^ (n - p - 1) * 2 ≤ S / 2 ^ p := by
    rw [Nat.le_div_iff_mul_le (Nat.two_pow_pos p), ← h2]
    exact h
  generalize 2 ^ p = q at *
  generalize 2 ^ (n - p - 1) = t at *
  generalize S / q = u at *
  have h6 : t * 2 * q ≤ (u - 1) * q := Nat.mul_le_mul_right q (by omega)
  rw [Nat.sub_mul, Nat.one_mul, Nat.mul_comm u q] at h6
  omega
theorem clo_hi2 {U : Nat → Bool} {m : Nat} (h : ∀ S, 2 ^ m ≤ S → U S = false) : ∀ n, n ≤ m → ∀ S, 2 ^ m ≤ S → clo U n S = false
  | 0, _, S, hS => h S hS
  | n + 1, hn, S, hS => by
    rw [clo_hi, clo_hi2 h n (by omega) S hS, Bool.false_or, Bool.and_eq_false_iff]
    by_cases hb : S.testBit n = true
    · exact Or.inr (clo_hi2 h n (by omega) _ (sub_bit_ge (by omega) hb hS))
    · exact Or.inl (by rw [Bool.not_eq_true] at hb; exact hb)
theorem untN_hi {R C : Nat} {a : Nat → Nat} {S : Nat} (hS : 2 ^ (R * C) ≤ S) : untN R C a S = false := clo_hi2 (u0R_hi _) _ (Nat.le_refl _) S hS
/-- some cover row is found -/
def ffOK : Prop := ∀ (R C : Nat) (a : Nat → Nat), okD R C → (∀ k, k < R * C → a k ≤ 999) → ∃ l, (ffN (untN R C a) (R * C) (R * C)).2 = some l
noncomputable def spCanTouch (s : xS) (x y : Int32) : Int32 := cIf (inB x 3) (cIf (inB y (2 ^ ((lA s (nN x)).1 * (lA s (nN x)).2.1))) (nI (if untN (lA s (nN x)).1 (lA s (nN x)).2.1 (lA s (nN x)).2.2 (nN y) = true then 0 else 1)) (-2)) (-1)
noncomputable def spByCovers (s : xS) (x y : Int32) : Int32 := cIf (inB x 3) (cIf (inB y 3) (cIf (y = nI 0) (nI (ffN (untN (lA s (nN x)).1 (lA s (nN x)).2.1 (lA s (nN x)).2.2) ((lA s (nN x)).1 * (lA s (nN x)).2.1) ((lA s (nN x)).1 * (lA s (nN x)).2.1)).1) (cIf (y = nI 1) (nI (2 ^ ((lA s (nN x)).1 * (lA s (nN x)).2.1) - cnB (untN (lA s (nN x)).1 (lA s (nN x)).2.1 (lA s (nN x)).2.2) (2 ^ ((lA s (nN x)).1 * (lA s (nN x)).2.1)))) (nI (grS (untN (lA s (nN x)).1 (lA s (nN x)).2.1 (lA s (nN x)).2.2) (2 ^ ((lA s (nN x)).1 * (lA s (nN x)).2.1)))))) (-2)) (-1)
noncomputable def spCover (s : xS) (x y : Int32) : Int32 := cIf (inB x 3 ∧ inB y ((lA s (nN x)).1 * (lA s (nN x)).2.1)) (nI (((ffN (untN (lA s (nN x)).1 (lA s (nN x)).2.1 (lA s (nN x)).2.2) ((lA s (nN x)).1 * (lA s (nN x)).2.1) ((lA s (nN x)).1 * (lA s (nN x)).2.1)).2.getD []).getD (nN y) 0)) (-1)
section CALLS54
variable {G : sG} {d : Nat} {P : sQ} {w : sW} {B : Nat} {s : xS}
set_option maxHeartbeats 400000 in
theorem t_canTouch {x y : Int32} (h : clAt G w B s) (ho : okS s) (k : ∀ w', Fr w w' (sB B) → clAt G w' B s → P (some (.int (spCanTouch s x y))) w') : wpM G (d + 13) yX9_canTouch (0, 0) [.ref B, .int x, .int y] w P := by
  have h0 := h.1
  unfold clO at h0
  unfold spCanTouch at k
  refine eX9_canTouch ?_
  refine qX9_canTouch_0 ?_
  refine qX9_canTouch_1 (Nat.le_of_ble_eq_true rfl) (t_isArray (fun i hi hx => ?_) (fun hx => ?_))
  · subst hx
    obtain ⟨g1, ⟨f, g2, g3⟩, a, g4, g5, g6, g7⟩ := clG h ho hi
    rw [nN_nI (by omega), cIf_t (inB_nI hi)] at k
    obtain ⟨q1, q2⟩ := id g4
    have hsz := g5.2.2.2.2
    have hpw : 2 ^ ((lA s i).1 * (lA s i).2.1) ≤ 4096 := Nat.pow_le_pow_right (n := 2) (by decide) hsz
    refine nX9_canTouch_4 (by omega) (fun h4 => ?_) (fun h4 => by exfalso; omega)
    refine qX9_canTouch_9 ?_
    refine qX9_canTouch_10 (by assumption) ?_
    refine qX9_canTouch_13 (by assumption) ?_
    refine qX9_canTouch_16 ?_
    refine nX9_canTouch_17 g2 (Or.inl rfl) hi (by decide) g3 ?_
    refine qX9_canTouch_18 ?_
    refine qX9_canTouch_19 ?_
    refine qX9_canTouch_20 ?_
    refine qX9_canTouch_21 (by assumption) (Nat.le_of_ble_eq_true rfl) (t_size g4 ?_)
    refine qX9_canTouch_24 (Nat.le_of_ble_eq_true rfl) (t_isSet (by omega) (fun S hS hy => ?_) (fun hno => ?_))
    · subst hy
      rw [cIf_t (inB_nI hS), nN_nI (by omega), ← untN_cong g7] at k
      obtain ⟨_, _, ⟨L, t3⟩, _, ⟨n, U, fr, pw, t5, t6⟩, _⟩ := id h.2.2.2.2.2.2
      have t3 : wyAt G w (B + 67) L := t3
      have t5 : cvAt G w (B + 71) n U fr pw := t5
      obtain ⟨f5, v5, _⟩ := id t5
      refine nX9_canTouch_27 (by omega) (fun h27 => ?_) (fun h27 => by exfalso; omega)
      refine qX9_canTouch_33 ?_
      refine qX9_canTouch_34 (by assumption) ?_
      refine qX9_canTouch_37 ?_
      refine qX9_canTouch_38 ?_
      refine qX9_canTouch_39 (by assumption) ?_
      refine qX9_canTouch_42 (by assumption) (Nat.le_of_ble_eq_true rfl) (t_cstudy g5 g6 g4 t3 t5 (by omega) (by omega) (by omega) (by omega) (by omega) (fun w' L' hF hw hcv => ?_))
      have hc := h.cvs (hF.mono (fun q hq => hq)) hw hcv t6
      have e0 := hc.1
      unfold clO at e0
      obtain ⟨f6, v6, _⟩ := id hcv
      have kk := k w' (hF.mono (fun q hq => by unfold s3 s4 at hq; unfold sB; omega)) hc
      refine qX9_canTouch_45 ?_
      refine qX9_canTouch_46 (by assumption) ?_
      refine qX9_canTouch_49 ?_
      refine qX9_canTouch_50 (by assumption) (Nat.le_of_ble_eq_true rfl) (t_canTouchAll hcv (by omega) (fun hU => ?_) (fun hU => ?_))
      · rw [hU] at kk
        refine nX9_canTouch_53 (by omega) (fun h53 => by exfalso; omega) (fun h53 => ?_)
        refine qX9_canTouch_56 ?_
        refine qX9_canTouch_57 ?_
        refine qX9_canTouch_61 ?_
        exact kk
      · rw [hU] at kk
        refine nX9_canTouch_53 (by omega) (fun h53 => ?_) (fun h53 => by exfalso; omega)
        refine qX9_canTouch_60 ?_
        refine qX9_canTouch_61 ?_
        exact kk
    · rw [cIf_f hno] at k
      refine nX9_canTouch_27 (by omega) (fun h27 => by exfalso; omega) (fun h27 => ?_)
      refine qX9_canTouch_30 ?_
      refine qX9_canTouch_32 ?_
      exact k w Fr.rf h
  · rw [cIf_f hx] at k
    refine nX9_canTouch_4 (by omega) (fun h4 => by exfalso; omega) (fun h4 => ?_)
    refine qX9_canTouch_7 ?_
    refine qX9_canTouch_8 ?_
    exact k w Fr.rf h
set_option maxHeartbeats 400000 in
theorem t_byCovers {x y : Int32} (h : clAt G w B s) (ho : okS s) (k : ∀ w', Fr w w' (sB B) → clAt G w' B s → P (some (.int (spByCovers s x y))) w') : wpM G (d + 16) yX9_byCovers (0, 0) [.ref B, .int x, .int y] w P := by
  have h0 := h.1
  unfold clO at h0
  unfold spByCovers at k
  refine eX9_byCovers ?_
  refine qX9_byCovers_0 ?_
  refine qX9_byCovers_1 (Nat.le_of_ble_eq_true rfl) (t_isArray (fun i hi hx => ?_) (fun hx => ?_))
  · subst hx
    obtain ⟨g1, ⟨f, g2, g3⟩, a, g4, g5, g6, g7⟩ := clG h ho hi
    rw [nN_nI (by omega), cIf_t (inB_nI hi)] at k
    obtain ⟨q1, q2⟩ := id g4
    have hsz := g5.2.2.2.2
    refine nX9_byCovers_4 (by omega) (fun h4 => ?_) (fun h4 => by exfalso; omega)
    refine qX9_byCovers_9 ?_
    refine qX9_byCovers_10 (fun h10 => ?_) (fun h10 => ?_)
    · rw [cIf_f (fun e => inB_lt0 (by decide) h10 e)] at k
      refine qX9_byCovers_18 ?_
      refine qX9_byCovers_20 ?_
      exact k w Fr.rf h
    · refine qX9_byCovers_13 ?_
      refine qX9_byCovers_14 ?_
      refine qX9_byCovers_15 (fun h15 => ?_) (fun h15 => ?_)
      · obtain ⟨v, hv, rfl⟩ := inB_le (by decide) h10 h15
        rw [cIf_t (inB_nI hv), ← untN_cong g7] at k
        obtain ⟨_, _, ⟨L, t3⟩, _, ⟨n, U, fr, pw, t5, t6⟩, _⟩ := id h.2.2.2.2.2.2
        have t3 : wyAt G w (B + 67) L := t3
        have t5 : cvAt G w (B + 71) n U fr pw := t5
        obtain ⟨f5, v5, _⟩ := id t5
        refine qX9_byCovers_21 ?_
        refine qX9_byCovers_22 (by assumption) ?_
        refine qX9_byCovers_25 ?_
        refine qX9_byCovers_26 (by assumption) ?_
        refine qX9_byCovers_29 (by assumption) ?_
        refine qX9_byCovers_32 ?_
        refine nX9_byCovers_33 g2 (Or.inl rfl) hi (by decide) g3 ?_
        refine qX9_byCovers_34 ?_
        refine qX9_byCovers_35 (by assumption) ?_
        refine qX9_byCovers_38 (by assumption) (Nat.le_of_ble_eq_true rfl) ((wpM_cast (show d + 3 + 12 = d + 15 from rfl) (t_cstudy g5 g6 g4 t3 t5 (by omega) (by omega) (by omega) (by omega) (by omega) (fun w' L' hF hw hcv => ?_))))
        have hc := h.cvs (hF.mono (fun q hq => hq)) hw hcv t6
        have e0 := hc.1
        unfold clO at e0
        obtain ⟨f6, v6, _⟩ := id hcv
        have hB : Fr w w' (sB B) := hF.mono (fun q hq => by unfold s3 s4 at hq; unfold sB; omega)
        refine qX9_byCovers_41 ?_
        rcases (show v = 0 ∨ v = 1 ∨ v = 2 by omega) with rfl | rfl | rfl
        · rw [cIf_t rfl] at k
          refine nX9_byCovers_42 (by omega) (fun h42 => by exfalso; omega) (fun h42 => ?_)
          refine qX9_byCovers_45 ?_
          refine qX9_byCovers_46 (by assumption) ?_
          refine qX9_byCovers_49 (by assumption) (Nat.le_of_ble_eq_true rfl) (t_findFirstRow hcv t6 hsz (fun w2 fr2 pw2 hF2 hcv2 hp2 _ => ?_))
          have hF3 : Fr w w2 (sB B) := hB.tr hF2 (fun q hq => by unfold s4 at hq; unfold sB; omega)
          have hc2 := hc.cvs (hF2.mono (fun q hq => Or.inr hq)) (hw.fr hF2 (fun q a1 a2 => by unfold s4; omega)) hcv2 hp2
          refine qX9_byCovers_52 ?_
          exact k w2 hF3 hc2
        · rw [cIf_f (by decide), cIf_t rfl] at k
          refine nX9_byCovers_42 (by omega) (fun h42 => ?_) (fun h42 => by exfalso; omega)
          refine qX9_byCovers_53 ?_
          refine qX9_byCovers_54 ?_
          refine nX9_byCovers_55 (by omega) (by omega) (fun h55 => by exfalso; omega) (fun h55 => ?_)
          refine qX9_byCovers_58 ?_
          refine qX9_byCovers_59 (by assumption) ?_
          refine qX9_byCovers_62 (by assumption) (Nat.le_of_ble_eq_true rfl) (t_touchableSets hcv hsz (fun S h1 h2 => untN_hi h1) ?_)
          refine qX9_byCovers_65 ?_
          refine qX9_byCovers_75 ?_
          exact k w' hB hc
        · rw [cIf_f (by decide), cIf_f (by decide)] at k
          refine nX9_byCovers_42 (by omega) (fun h42 => ?_) (fun h42 => by exfalso; omega)
          refine qX9_byCovers_53 ?_
          refine qX9_byCovers_54 ?_
          refine nX9_byCovers_55 (by omega) (by omega) (fun h55 => ?_) (fun h55 => by exfalso; omega)
          refine qX9_byCovers_68 ?_
          refine qX9_byCovers_69 (by assumption) ?_
          refine qX9_byCovers_72 (by assumption) (Nat.le_of_ble_eq_true rfl) (t_greatestSet hcv hsz ?_)
          refine qX9_byCovers_75 ?_
          exact k w' hB hc
      · rw [cIf_f (fun e => inB_gt (by decide) h15 e)] at k
        refine qX9_byCovers_18 ?_
        refine qX9_byCovers_20 ?_
        exact k w Fr.rf h
  · rw [cIf_f hx] at k
    refine nX9_byCovers_4 (by omega) (fun h4 => by exfalso; omega) (fun h4 => ?_)
    refine qX9_byCovers_7 ?_
    refine qX9_byCovers_8 ?_
    exact k w Fr.rf h
set_option maxHeartbeats 400000 in
theorem t_cover {x y : Int32} (hff : ffOK) (h : clAt G w B s) (ho : okS s) (k : ∀ w', Fr w w' (sB B) → clAt G w' B s → P (some (.int (spCover s x y))) w') : wpM G (d + 16) yX9_cover (0, 0) [.ref B, .int x, .int y] w P := by
  have h0 := h.1
  unfold clO at h0
  unfold spCover at k
  refine eX9_cover ?_
  refine qX9_cover_0 ?_
  refine qX9_cover_1 (Nat.le_of_ble_eq_true rfl) (t_isArray (fun i hi hx => ?_) (fun hx => ?_))
  · subst hx
    obtain ⟨g1, ⟨f, g2, g3⟩, a, g4, g5, g6, g7⟩ := clG h ho hi
    rw [nN_nI (by omega)] at k
    obtain ⟨q1, q2⟩ := id g4
    have hsz := g5.2.2.2.2
    refine nX9_cover_4 (by omega) (fun h4 => by exfalso; omega) (fun h4 => ?_)
    refine qX9_cover_7 ?_
    refine qX9_cover_8 (fun h8 => ?_) (fun h8 => ?_)
    · rw [cIf_f (fun e => inB_lt0 (by omega) h8 e.2)] at k
      refine qX9_cover_27 ?_
      refine qX9_cover_28 ?_
      exact k w Fr.rf h
    · refine qX9_cover_11 ?_
      refine qX9_cover_12 ?_
      refine qX9_cover_13 (by assumption) ?_
      refine qX9_cover_16 (by assumption) ?_
      refine qX9_cover_19 ?_
      refine nX9_cover_20 g2 (Or.inl rfl) hi (by decide) g3 ?_
      refine qX9_cover_21 (by assumption) (Nat.le_of_ble_eq_true rfl) (t_size g4 ?_)
      refine qX9_cover_24 (fun h24 => ?_) (fun h24 => ?_)
      · obtain ⟨v, hv0, rfl⟩ := nI_of h8
        rw [nI_ltI hv0 (by omega)] at h24
        obtain ⟨l, hl⟩ := hff _ _ _ g5 g6
        rw [cIf_t ⟨inB_nI hi, inB_nI h24⟩, nN_nI hv0, ← untN_cong g7, hl] at k
        obtain ⟨_, _, ⟨L, t3⟩, _, ⟨n, U, fr, pw, t5, t6⟩, _⟩ := id h.2.2.2.2.2.2
        have t3 : wyAt G w (B + 67) L := t3
        have t5 : cvAt G w (B + 71) n U fr pw := t5
        obtain ⟨f5, v5, _⟩ := id t5
        refine qX9_cover_29 ?_
        refine qX9_cover_30 (by assumption) ?_
        refine qX9_cover_33 ?_
        refine qX9_cover_34 (by assumption) ?_
        refine qX9_cover_37 (by assumption) ?_
        refine qX9_cover_40 ?_
        refine nX9_cover_41 g2 (Or.inl rfl) hi (by decide) g3 ?_
        refine qX9_cover_42 ?_
        refine qX9_cover_43 (by assumption) ?_
        refine qX9_cover_46 (by assumption) (Nat.le_of_ble_eq_true rfl) ((wpM_cast (show d + 3 + 12 = d + 15 from rfl) (t_cstudy g5 g6 g4 t3 t5 (by omega) (by omega) (by omega) (by omega) (by omega) (fun w' L' hF hw hcv => ?_))))
        have hc := h.cvs (hF.mono (fun q hq => hq)) hw hcv t6
        have e0 := hc.1
        unfold clO at e0
        obtain ⟨f6, v6, _⟩ := id hcv
        have hB : Fr w w' (sB B) := hF.mono (fun q hq => by unfold s3 s4 at hq; unfold sB; omega)
        refine qX9_cover_49 ?_
        refine qX9_cover_50 (by assumption) ?_
        refine qX9_cover_53 (by assumption) (Nat.le_of_ble_eq_true rfl) (t_findFirstRow hcv t6 hsz (fun w2 fr2 pw2 hF2 hcv2 hp2 hfr => ?_))
        have hF3 : Fr w w2 (sB B) := hB.tr hF2 (fun q hq => by unfold s4 at hq; unfold sB; omega)
        have hc2 := hc.cvs (hF2.mono (fun q hq => Or.inr hq)) (hw.fr hF2 (fun q a1 a2 => by unfold s4; omega)) hcv2 hp2
        have e3 := hc2.1
        unfold clO at e3
        obtain ⟨f7, v7, _, v8, _⟩ := id hcv2
        refine qX9_cover_56 rfl ?_
        have v8 : w2.1 (B + 73) = _ := v8
        refine qX9_cover_57 ?_
        refine qX9_cover_58 (by assumption) ?_
        refine qX9_cover_61 (by assumption) ?_
        refine qX9_cover_64 ?_
        refine fX9_cover_65 v8 (by omega) (by decide) ?_
        refine qX9_cover_66 ?_
        rw [hfr l hl v h24]
        exact k w2 hF3 hc2
      · rw [cIf_f (fun e => by
          obtain ⟨j, hj, hjy⟩ := e.2
          rw [hjy, nI_ltI (by omega) (by omega)] at h24
          omega)] at k
        refine qX9_cover_27 ?_
        refine qX9_cover_28 ?_
        exact k w Fr.rf h
  · rw [cIf_f (fun e => hx e.1)] at k
    refine nX9_cover_4 (by omega) (fun h4 => ?_) (fun h4 => by exfalso; omega)
    refine qX9_cover_27 ?_
    refine qX9_cover_28 ?_
    exact k w Fr.rf h
end CALLS54
