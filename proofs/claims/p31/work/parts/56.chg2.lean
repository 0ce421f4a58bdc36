/-! turn, close, product, raise -/
theorem prN_cong {Ra Ca Cb : Nat} {a a' b b' : Nat → Nat} (h1 : ∀ k, k < Ra * Ca → a k = a' k) (h2 : ∀ k, k < Ca * Cb → b k = b' k) : ∀ k, k < Ra * Cb → prN Ca Cb a b k = prN Ca Cb a' b' k := fun k hk => by
  obtain ⟨q1, q2⟩ := dm_lt hk
  unfold prN
  have hm : ∀ (f g : Nat → Nat) (n : Nat), (∀ i, i < n → f i = g i) → mnG f n = mnG g n := by
    intro f g n
    induction n with
    | zero => intro _; rfl
    | succ n ih =>
      intro h
      simp only [mnG]
      rw [ih (fun i hi => h i (by omega)), h n (by omega)]
  refine hm _ _ _ (fun i hi => ?_)
  have e1 : k / Cb * Ca + i < Ra * Ca := by
    have h3 : (k / Cb + 1) * Ca ≤ Ra * Ca := Nat.mul_le_mul_right Ca q1
    rw [Nat.add_mul] at h3
    omega
  have e2 : i * Cb + k % Cb < Ca * Cb := by
    have h3 : (i + 1) * Cb ≤ Ca * Cb := Nat.mul_le_mul_right Cb hi
    rw [Nat.add_mul] at h3
    omega
  rw [h1 _ e1, h2 _ e2]
theorem prN_le {Ca Cb : Nat} {a b : Nat → Nat} (k : Nat) : prN Ca Cb a b k ≤ 1999 := mnG_le
theorem unlN_cong {a a' b b' : Nat → Nat} : ∀ {n}, (∀ k, k < n → a k = a' k) → (∀ k, k < n → b k = b' k) → unlN a b n = unlN a' b' n
  | 0, _, _ => rfl
  | n + 1, h1, h2 => by
    simp only [unlN]
    rw [unlN_cong (fun k hk => h1 k (by omega)) (fun k hk => h2 k (by omega)), h1 n (by omega), h2 n (by omega)]
noncomputable def spRaise (s : xS) (x : Int32) (b : Bool) (z v : Int32) : Int32 × xS := cIf (inB x 3 ∧ inB z (lnN b (lA s (nN x)).1 (lA s (nN x)).2.1)) (cIf (-999 ≤ v.toInt ∧ v.toInt ≤ 999) (cIf (okL b (lA s (nN x)).1 (lA s (nN x)).2.1 (nN z) v.toInt (lA s (nN x)).2.2) (nI (mxF (adL b (lA s (nN x)).2.1 (nN z) v.toInt (lA s (nN x)).2.2) ((lA s (nN x)).1 * (lA s (nN x)).2.1)), upS (remS s) (nN x) ((lA s (nN x)).1, (lA s (nN x)).2.1, adL b (lA s (nN x)).2.1 (nN z) v.toInt (lA s (nN x)).2.2)) (-5, s)) (-2, s)) (-1, s)
theorem okL_cong {b : Bool} {R C n : Nat} {z : Int} {a a' : Nat → Nat} (hd : okD R C) (h : ∀ k, k < R * C → a k = a' k) (hn : n < lnN b R C) : okL b R C n z a ↔ okL b R C n z a' := by
  unfold okL
  constructor
  · intro q k hk
    rw [← h _ (plN_lt hd hn hk)]
    exact q k hk
  · intro q k hk
    rw [h _ (plN_lt hd hn hk)]
    exact q k hk
theorem adL_cong {b : Bool} {C n S : Nat} {z : Int} {a a' : Nat → Nat} (h : ∀ k, k < S → a k = a' k) : ∀ k, k < S → adL b C n z a k = adL b C n z a' k := fun k hk => by
  unfold adL
  rw [h k hk]
theorem adL_le {b : Bool} {R C n : Nat} {z : Int} {a : Nat → Nat} (ha : ∀ k, k < R * C → a k ≤ 999) (hok : okL b R C n z a) : ∀ k, k < R * C → adL b C n z a k ≤ 999 := fun k hk => by
  unfold adL
  split
  · next hl =>
    have hp := hok _ (lp_lt (b := b) hk).2
    rw [← hl, pl_lp] at hp
    unfold adN
    omega
  · exact ha k hk
theorem iZ_toI (v : Int32) : v = iZ v.toInt := by
  unfold iZ
  exact (Int32.ofInt_toInt v).symm
theorem toI_zR (v : Int32) : zR v.toInt := ⟨Int32.le_toInt v, Int32.toInt_lt v⟩
section CHG3
variable {G : sG} {d : Nat} {P : sQ} {w w' : sW} {B : Nat} {s : xS}
set_option maxHeartbeats 400000 in
theorem t_turn {x : Int32} (h : clAt G w B s) (ho : okS s) (k : ∀ w', Fr w w' (sB B) → clAt G w' B (spTurn s x).2 → P (some (.int (spTurn s x).1)) w') : wpM G (d + 5) yX9_turn (0, 0) [.ref B, .int x] w P := by
  have h0 := h.o
  unfold spTurn at k
  refine eX9_turn ?_
  refine qX9_turn_0 ?_
  refine qX9_turn_1 (Nat.le_of_ble_eq_true rfl) (t_isArray (fun i hi hx => ?_) (fun hx => ?_))
  · subst hx
    have g5 := (ho.1 i hi).1
    rw [nN_nI (by omega), cIf_t (inB_nI hi)] at k
    obtain ⟨fs, hfs⟩ := h.his
    refine nX9_turn_4 (by omega) (fun h4 => ?_) (fun h4 => by exfalso; omega)
    refine qX9_turn_9 ?_
    refine qX9_turn_10 (by assumption) ?_
    refine qX9_turn_13 ?_
    refine qX9_turn_14 (by assumption) ?_
    refine qX9_turn_17 (by assumption) (Nat.le_of_ble_eq_true rfl) (h.rem ho (fun w1 hF1 hc1 => ?_))
    obtain ⟨e1, ⟨f', e2, e3⟩, a1, e4, e5, e6, e7⟩ := clG hc1 ho.rem hi
    obtain ⟨q3, q4⟩ := id e4
    have e0 := hc1.o
    have e4 : gAt G w1 (B + 1 + 2 + 2 * i) (B + 1 + 2 + 2 * i + 1) (lA s i).1 (lA s i).2.1 a1 := e4
    obtain ⟨_, ⟨v, t2⟩, _⟩ := id hc1.2.2.2.2.2.2
    have t2 : gAt G w1 (B + 65) (B + 65 + 1) v.1 v.2.1 v.2.2 := t2
    obtain ⟨u1, u2⟩ := id t2
    refine qX9_turn_20 ?_
    refine qX9_turn_21 (by assumption) ?_
    refine qX9_turn_24 (by assumption) ?_
    refine qX9_turn_27 ?_
    refine nX9_turn_28 e2 (Or.inl rfl) hi (by decide) e3 ?_
    refine qX9_turn_29 ?_
    refine qX9_turn_30 ?_
    refine qX9_turn_31 (by assumption) ?_
    refine qX9_turn_34 ?_
    refine qX9_turn_35 (by assumption) (Nat.le_of_ble_eq_true rfl) (t_becomeTurned t2 e4 (by omega) (by omega) e5 e6 (fun w2 a2 hF2 hg2 ha2 => ?_))
    have hc2 := hc1.trn hF2 (v := ((lA s i).2.1, (lA s i).1, a2)) hg2
    have e8 := hc2.o
    have e9 := e4.fr hF2 (by unfold sGE; omega) (by unfold sGE; omega)
    obtain ⟨q5, q6⟩ := id e9
    refine qX9_turn_38 ?_
    refine qX9_turn_39 ?_
    refine qX9_turn_40 (by assumption) ?_
    refine qX9_turn_43 (by assumption) (Nat.le_of_ble_eq_true rfl) (t_become e9 hg2 (by omega) (by omega) (fun w3 a3 hF3 hg3 ha3 => ?_))
    obtain ⟨q7, q8⟩ := id hg3
    refine qX9_turn_46 ?_
    refine qX9_turn_47 (by assumption) ?_
    refine qX9_turn_50 ?_
    refine k w3 (((hF1.mono (fun q hq => by unfold sB; omega)).tr hF2 (fun q hq => by unfold sGE at hq; unfold sB; omega)).tr hF3 (fun q hq => by unfold sGE at hq; unfold sB; omega)) (hc2.ups hi hF3 hg3 ⟨rfl, rfl, fun j hj => ?_⟩)
    have hj : j < (lA s i).2.1 * (lA s i).1 := hj
    have h12 := g5.sw.2.2.2.2
    exact ((ha3 j (by omega)).trans (ha2 j hj)).trans (tuN_cong e7 j hj)
  · rw [cIf_f hx] at k
    refine nX9_turn_4 (by omega) (fun h4 => by exfalso; omega) (fun h4 => ?_)
    refine qX9_turn_7 ?_
    refine qX9_turn_8 ?_
    exact k w Fr.rf h
set_option maxHeartbeats 400000 in
theorem t_close {x : Int32} (h : clAt G w B s) (ho : okS s) (k : ∀ w', Fr w w' (sB B) → clAt G w' B (spClose s x).2 → P (some (.int (spClose s x).1)) w') : wpM G (d + 5) yX9_close (0, 0) [.ref B, .int x] w P := by
  have h0 := h.o
  unfold spClose at k
  refine eX9_close ?_
  refine qX9_close_0 ?_
  refine qX9_close_1 (Nat.le_of_ble_eq_true rfl) (t_isArray (fun i hi hx => ?_) (fun hx => ?_))
  · subst hx
    obtain ⟨g1, ⟨f, g2, g3⟩, a, g4, g5, g6, g7⟩ := clG h ho hi
    rw [nN_nI (by omega), cIf_t (inB_nI hi)] at k
    obtain ⟨q1, q2⟩ := id g4
    have b1 := g5.2.1
    have b2 := g5.2.2.2.1
    refine nX9_close_4 (by omega) (fun h4 => ?_) (fun h4 => by exfalso; omega)
    refine qX9_close_9 ?_
    refine qX9_close_10 (by assumption) ?_
    refine qX9_close_13 (by assumption) ?_
    refine qX9_close_16 ?_
    refine nX9_close_17 g2 (Or.inl rfl) hi (by decide) g3 ?_
    refine qX9_close_18 ?_
    refine qX9_close_19 ?_
    refine qX9_close_20 (by assumption) ?_
    refine qX9_close_23 ?_
    refine qX9_close_24 (by assumption) ?_
    refine nX9_close_27 (by omega) (by omega) (fun h27 => ?_) (fun h27 => ?_)
    · rw [if_pos h27] at k
      obtain ⟨fs, hfs⟩ := h.his
      refine qX9_close_33 ?_
      refine qX9_close_34 (by assumption) ?_
      refine qX9_close_37 ?_
      refine qX9_close_38 (by assumption) ?_
      refine qX9_close_41 (by assumption) (Nat.le_of_ble_eq_true rfl) (h.rem ho (fun w1 hF1 hc1 => ?_))
      obtain ⟨e1, ⟨f', e2, e3⟩, a1, e4, e5, e6, e7⟩ := clG hc1 ho.rem hi
      obtain ⟨q3, q4⟩ := id e4
      have e0 := hc1.o
      have e4 : gAt G w1 (B + 1 + 2 + 2 * i) (B + 1 + 2 + 2 * i + 1) (lA s i).1 (lA s i).2.1 a1 := e4
      have e5 : okD (lA s i).1 (lA s i).2.1 := e5
      have e6 : ∀ k, k < (lA s i).1 * (lA s i).2.1 → a1 k ≤ 999 := e6
      have e7 : ∀ k, k < (lA s i).1 * (lA s i).2.1 → a1 k = (lA s i).2.2 k := e7
      rw [← h27] at e4 e5 e6 e7
      have hsq := e5.2.2.2.2
      obtain ⟨⟨v, t1⟩, _⟩ := id hc1.2.2.2.2.2.2
      have t1 : gAt G w1 (B + 63) (B + 63 + 1) v.1 v.2.1 v.2.2 := t1
      obtain ⟨u1, u2⟩ := id t1
      refine qX9_close_44 ?_
      refine qX9_close_45 (by assumption) ?_
      refine qX9_close_48 ?_
      refine qX9_close_49 (by assumption) (Nat.le_of_ble_eq_true rfl) (t_become t1 e4 (by omega) (by omega) (fun w2 a2 hF2 hg2 ha2 => ?_))
      have hc2 := hc1.spr hF2 (v := ((lA s i).1, (lA s i).1, a2)) hg2
      have e8 := hc2.o
      have e9 := e4.fr hF2 (by unfold sGE; omega) (by unfold sGE; omega)
      obtain ⟨q5, q6⟩ := id e9
      refine qX9_close_52 ?_
      refine qX9_close_53 (by assumption) (Nat.le_of_ble_eq_true rfl) (t_shortenWays e9 e5 e6 (fun w3 hF3 hg3 => ?_))
      have e10 := hg2.fr hF3 (by unfold sGE; omega) (by unfold sGE; omega)
      obtain ⟨q7, q8⟩ := id hg3
      have ec := fwB_cong e7 (lA s i).1 (Nat.le_refl _)
      have hc3 := hc2.ups hi hF3 hg3 (v := ((lA s i).1, (lA s i).1, fwB (lA s i).1 (lA s i).1 (lA s i).2.2)) ⟨rfl, rfl, ec⟩
      have e11 := hc3.o
      have h2 : ∀ j, j < (lA s i).1 * (lA s i).1 → a2 j = a1 j := fun j hj => ha2 j (by omega)
      refine qX9_close_56 ?_
      refine qX9_close_57 ?_
      refine qX9_close_58 (by assumption) ?_
      refine qX9_close_61 (by assumption) (Nat.le_of_ble_eq_true rfl) (t_unlikeIn hg3 e10 (fwB_le e6 _) (fun j hj => by rw [h2 j hj]; exact e6 j hj) e5 ?_)
      refine qX9_close_64 ?_
      rw [unlN_cong ec (fun j hj => (h2 j hj).trans (e7 j hj))]
      exact k w3 (((hF1.mono (fun q hq => by unfold sB; omega)).tr hF2 (fun q hq => by unfold sGE at hq; unfold sB; omega)).tr hF3 (fun q hq => by unfold sGE at hq; unfold sB; omega)) hc3
    · rw [if_neg h27] at k
      refine qX9_close_30 ?_
      refine qX9_close_32 ?_
      exact k w Fr.rf h
  · rw [cIf_f hx] at k
    refine nX9_close_4 (by omega) (fun h4 => by exfalso; omega) (fun h4 => ?_)
    refine qX9_close_7 ?_
    refine qX9_close_8 ?_
    exact k w Fr.rf h
set_option maxHeartbeats 400000 in
theorem t_product {x y z : Int32} (h : clAt G w B s) (ho : okS s) (k : ∀ w', Fr w w' (sB B) → clAt G w' B (spProduct s x y z).2 → P (some (.int (spProduct s x y z).1)) w') : wpM G (d + 5) yX9_product (0, 0) [.ref B, .int x, .int y, .int z] w P := by
  have h0 := h.o
  unfold spProduct at k
  refine eX9_product ?_
  refine qX9_product_0 ?_
  refine qX9_product_1 (Nat.le_of_ble_eq_true rfl) (t_isArray (fun i hi hx => ?_) (fun hx => ?_))
  · subst hx
    refine nX9_product_4 (by omega) (fun h4 => by exfalso; omega) (fun h4 => ?_)
    refine qX9_product_7 ?_
    refine qX9_product_8 (Nat.le_of_ble_eq_true rfl) (t_isArray (fun j hj hx => ?_) (fun hx => ?_))
    · subst hx
      refine nX9_product_11 (by omega) (fun h11 => by exfalso; omega) (fun h11 => ?_)
      refine qX9_product_14 ?_
      refine qX9_product_15 (Nat.le_of_ble_eq_true rfl) (t_isArray (fun t ht hx => ?_) (fun hx => ?_))
      · subst hx
        rw [cIf_t ⟨inB_nI hi, inB_nI hj, inB_nI ht⟩, nN_nI (by omega), nN_nI (by omega), nN_nI (by omega)] at k
        obtain ⟨g1, ⟨f, g2, g3⟩, a, g4, g5, g6, g7⟩ := clG h ho hi
        obtain ⟨_, ⟨f', g2', g3'⟩, a', g4', g5', g6', g7'⟩ := clG h ho hj
        obtain ⟨q1, q2⟩ := id g4
        obtain ⟨q3, q4⟩ := id g4'
        have b1 := g5.2.1
        have b2 := g5.2.2.2.1
        have b3 := g5'.2.1
        have b4 := g5'.2.2.2.1
        refine nX9_product_18 (by omega) (fun h18 => ?_) (fun h18 => by exfalso; omega)
        refine qX9_product_23 ?_
        refine qX9_product_24 (by assumption) ?_
        refine qX9_product_27 (by assumption) ?_
        refine qX9_product_30 ?_
        refine nX9_product_31 g2 (Or.inl rfl) hi (by decide) g3 ?_
        refine qX9_product_32 ?_
        refine qX9_product_34 ?_
        refine qX9_product_35 (by assumption) ?_
        refine qX9_product_38 (by assumption) ?_
        refine qX9_product_41 ?_
        refine nX9_product_42 g2' (Or.inl rfl) hj (by decide) g3' ?_
        refine qX9_product_43 ?_
        refine qX9_product_45 ?_
        refine qX9_product_47 (by assumption) ?_
        refine qX9_product_50 ?_
        refine qX9_product_52 (by assumption) ?_
        refine nX9_product_55 (by omega) (by omega) (fun h55 => ?_) (fun h55 => ?_)
        · rw [if_pos h55] at k
          have hm : (lA s i).1 * (lA s j).2.1 ≤ 4 * 4 := Nat.mul_le_mul b1 b4
          refine qX9_product_61 ?_
          refine qX9_product_63 (by assumption) ?_
          refine qX9_product_66 ?_
          refine qX9_product_68 (by assumption) ?_
          first | refine nX9_product_71 ?_ | refine qX9_product_71 ?_
          refine qX9_product_72 ?_
          refine nX9_product_74 (by omega) (by omega) (fun h74 => ?_) (fun h74 => ?_)
          · obtain ⟨⟨v, t1⟩, _⟩ := id h.2.2.2.2.2.2
            have t1 : gAt G w (B + 63) (B + 63 + 1) v.1 v.2.1 v.2.2 := t1
            obtain ⟨u1, u2⟩ := id t1
            refine qX9_product_80 ?_
            refine qX9_product_81 (by assumption) ?_
            refine qX9_product_84 ?_
            refine qX9_product_86 ?_
            refine qX9_product_88 (by assumption) (Nat.le_of_ble_eq_true rfl) (t_becomeProduct t1 g4 g4' (by omega) (by omega) (by omega) (by omega) g5 g5' h55 h74 g6 g6' (fun w1 a1 hF1 hg1 ha1 => ?_))
            have hc1 := h.spr hF1 (v := ((lA s i).1, (lA s j).2.1, a1)) hg1
            have e0 := hc1.o
            obtain ⟨q5, q6⟩ := id hg1
            have hd1 : okD (lA s i).1 (lA s j).2.1 := ⟨g5.1, b1, g5'.2.2.1, b4, h74⟩
            have hv : ∀ q, q < (lA s i).1 * (lA s j).2.1 → a1 q = prN (lA s i).2.1 (lA s j).2.1 (lA s i).2.2 (lA s j).2.2 q := fun q hq => (ha1 q hq).trans (prN_cong g7 (by rw [h55]; exact g7') q hq)
            refine qX9_product_91 ?_
            refine qX9_product_92 (by assumption) ?_
            refine qX9_product_95 (by assumption) (Nat.le_of_ble_eq_true rfl) (t_greatest hg1 (fun q hq => by rw [hv q hq]; exact Nat.le_trans (prN_le q) (by decide)) hd1 ?_)
            rw [mxF_cong hv]
            have hmx := mxF_le (B := 1999) (n := (lA s i).1 * (lA s j).2.1) (fun q _ => prN_le (Ca := (lA s i).2.1) (Cb := (lA s j).2.1) (a := (lA s i).2.2) (b := (lA s j).2.2) q)
            refine qX9_product_98 ?_
            refine nX9_product_101 (by omega) (by omega) (fun h101 => ?_) (fun h101 => ?_)
            · rw [if_neg (by omega)] at k
              obtain ⟨fs, hfs⟩ := hc1.his
              refine qX9_product_107 ?_
              refine qX9_product_108 (by assumption) ?_
              refine qX9_product_111 ?_
              refine qX9_product_112 (by assumption) ?_
              refine qX9_product_115 (by assumption) (Nat.le_of_ble_eq_true rfl) (hc1.rem ho (fun w2 hF2 hc2 => ?_))
              have e1 := hc2.o
              obtain ⟨e1', ⟨f3, e2, e3⟩, a3, e4, e5, e6, e7⟩ := clG hc2 ho.rem ht
              obtain ⟨q7, q8⟩ := id e4
              have hg2 := hg1.fr hF2 (by omega) (by omega)
              obtain ⟨q9, q10⟩ := id hg2
              refine qX9_product_118 ?_
              refine qX9_product_119 (by assumption) ?_
              refine qX9_product_122 (by assumption) ?_
              refine qX9_product_125 ?_
              refine nX9_product_126 e2 (Or.inl rfl) ht (by decide) e3 ?_
              refine qX9_product_127 ?_
              refine qX9_product_128 (by assumption) ?_
              refine qX9_product_131 (by assumption) (Nat.le_of_ble_eq_true rfl) (t_become e4 hg2 (by omega) (by omega) (fun w3 a4 hF3 hg3 ha3 => ?_))
              have hc3 := hc2.ups ht hF3 hg3 (v := ((lA s i).1, (lA s j).2.1, prN (lA s i).2.1 (lA s j).2.1 (lA s i).2.2 (lA s j).2.2)) ⟨rfl, rfl, fun q hq => by
                have hq : q < (lA s i).1 * (lA s j).2.1 := hq
                exact (ha3 q (by omega)).trans (hv q hq)⟩
              have e8 := hc3.o
              have hg4 := hg2.fr hF3 (by unfold sGE; omega) (by unfold sGE; omega)
              obtain ⟨q11, q12⟩ := id hg4
              refine qX9_product_134 ?_
              refine qX9_product_135 (by assumption) ?_
              refine qX9_product_138 (by assumption) (Nat.le_of_ble_eq_true rfl) (t_size hg4 ?_)
              refine qX9_product_141 ?_
              exact k w3 (((hF1.mono (fun q hq => by unfold sGE at hq; unfold sB; omega)).tr hF2 (fun q hq => by unfold sB; omega)).tr hF3 (fun q hq => by unfold sGE at hq; unfold sB; omega)) hc3
            · rw [if_pos (Or.inr h101)] at k
              refine qX9_product_104 ?_
              refine qX9_product_106 ?_
              exact k w1 (hF1.mono (fun q hq => by unfold sGE at hq; unfold sB; omega)) hc1
          · rw [if_pos (Or.inl h74)] at k
            refine qX9_product_77 ?_
            refine qX9_product_79 ?_
            exact k w Fr.rf h
        · rw [if_neg h55] at k
          refine qX9_product_58 ?_
          refine qX9_product_60 ?_
          exact k w Fr.rf h
      · rw [cIf_f (fun e => hx e.2.2)] at k
        refine nX9_product_18 (by omega) (fun h18 => by exfalso; omega) (fun h18 => ?_)
        refine qX9_product_21 ?_
        refine qX9_product_22 ?_
        exact k w Fr.rf h
    · rw [cIf_f (fun e => hx e.2.1)] at k
      refine nX9_product_11 (by omega) (fun h11 => ?_) (fun h11 => by exfalso; omega)
      refine qX9_product_21 ?_
      refine qX9_product_22 ?_
      exact k w Fr.rf h
  · rw [cIf_f (fun e => hx e.1)] at k
    refine nX9_product_4 (by omega) (fun h4 => ?_) (fun h4 => by exfalso; omega)
    refine qX9_product_21 ?_
    refine qX9_product_22 ?_
    exact k w Fr.rf h
set_option maxHeartbeats 400000 in
theorem t_raise (b : Bool) {x z v : Int32} (h : clAt G w B s) (ho : okS s) (k : ∀ w', Fr w w' (sB B) → clAt G w' B (spRaise s x b z v).2 → P (some (.int (spRaise s x b z v).1)) w') : wpM G (d + 5) yX9_raise (0, 0) [.ref B, .int x, .int (nI (bN b)), .int z, .int v] w P := by
  have h0 := h.o
  unfold spRaise at k
  refine eX9_raise ?_
  refine qX9_raise_0 ?_
  refine qX9_raise_1 (Nat.le_of_ble_eq_true rfl) (t_isArray (fun i hi hx => ?_) (fun hx => ?_))
  · subst hx
    obtain ⟨g1, ⟨f, g2, g3⟩, a, g4, g5, g6, g7⟩ := clG h ho hi
    rw [nN_nI (by omega)] at k
    obtain ⟨q1, q2⟩ := id g4
    have b1 := g5.2.1
    have b2 := g5.2.2.2.1
    have bl : lnN b (lA s i).1 (lA s i).2.1 ≤ 4 := by cases b <;> assumption
    refine nX9_raise_4 (by omega) (fun h4 => by exfalso; omega) (fun h4 => ?_)
    refine qX9_raise_7 ?_
    refine qX9_raise_8 (by assumption) ?_
    refine qX9_raise_11 (by assumption) ?_
    refine qX9_raise_14 ?_
    refine nX9_raise_15 g2 (Or.inl rfl) hi (by decide) g3 ?_
    refine qX9_raise_16 ?_
    refine qX9_raise_17 ?_
    refine qX9_raise_18 (by assumption) (Nat.le_of_ble_eq_true rfl) (t_hasLine b g4 (by omega) (by omega) (fun n hn hz => ?_) (fun hno => ?_))
    · subst hz
      rw [cIf_t ⟨inB_nI hi, inB_nI hn⟩, nN_nI (by omega)] at k
      obtain ⟨q, hq, hv⟩ : ∃ q : Int, zR q ∧ v = iZ q := ⟨v.toInt, toI_zR v, iZ_toI v⟩
      have hvq : v.toInt = q := by rw [hv]; exact iZ_T hq.1 hq.2
      rw [hvq] at k
      rw [hv]
      have z1 : zR (-999) := ⟨by decide, by decide⟩
      have z2 : zR 999 := ⟨by decide, by decide⟩
      refine nX9_raise_21 (by omega) (fun h21 => ?_) (fun h21 => by exfalso; omega)
      refine qX9_raise_26 ?_
      refine qX9_raise_28 ?_
      rw [show (-999 : Int32) = iZ (-999) by decide]
      refine zX9_raise_31 (by assumption) (by assumption) (fun h31 => ?_) (fun h31 => ?_)
      · rw [cIf_f (by omega)] at k
        refine qX9_raise_42 ?_
        refine qX9_raise_44 ?_
        exact k w Fr.rf h
      · refine qX9_raise_34 ?_
        refine qX9_raise_36 ?_
        rw [show nI 999 = iZ 999 by decide]
        refine zX9_raise_39 (by assumption) (by assumption) (fun h39 => ?_) (fun h39 => ?_)
        · rw [cIf_t ⟨h31, h39⟩] at k
          refine qX9_raise_45 ?_
          refine qX9_raise_46 (by assumption) ?_
          refine qX9_raise_49 (by assumption) ?_
          refine qX9_raise_52 ?_
          refine nX9_raise_53 g2 (Or.inl rfl) hi (by decide) g3 ?_
          refine qX9_raise_54 ?_
          refine qX9_raise_56 ?_
          refine qX9_raise_58 ?_
          refine qX9_raise_59 ?_
          refine qX9_raise_60 ?_
          refine qX9_raise_62 (by assumption) (Nat.le_of_ble_eq_true rfl) (t_canAdd b g4 g5 g6 hn h31 h39 (fun hok => ?_) (fun hok => ?_))
          · have hok2 := (okL_cong g5 g7 hn).mp hok
            rw [cIf_t hok2] at k
            obtain ⟨fs, hfs⟩ := h.his
            refine nX9_raise_65 (by omega) (fun h65 => ?_) (fun h65 => by exfalso; omega)
            refine qX9_raise_71 ?_
            refine qX9_raise_72 (by assumption) ?_
            refine qX9_raise_75 ?_
            refine qX9_raise_76 (by assumption) ?_
            refine qX9_raise_79 (by assumption) (Nat.le_of_ble_eq_true rfl) (h.rem ho (fun w1 hF1 hc1 => ?_))
            obtain ⟨e1, ⟨f', e2, e3⟩, a1, e4, e5, e6, e7⟩ := clG hc1 ho.rem hi
            obtain ⟨q3, q4⟩ := id e4
            have e4 : gAt G w1 (B + 1 + 2 + 2 * i) (B + 1 + 2 + 2 * i + 1) (lA s i).1 (lA s i).2.1 a1 := e4
            have e7 : ∀ k, k < (lA s i).1 * (lA s i).2.1 → a1 k = (lA s i).2.2 k := e7
            have hok1 := (okL_cong g5 e7 hn).mpr hok2
            refine qX9_raise_82 ?_
            refine qX9_raise_84 ?_
            refine qX9_raise_85 ?_
            refine qX9_raise_86 ?_
            refine qX9_raise_88 (by assumption) (Nat.le_of_ble_eq_true rfl) (t_add b e4 g5 e6 hn hok1 (fun w2 a2 hF2 hg2 ha2 => ?_))
            have hv2 : ∀ j, j < (lA s i).1 * (lA s i).2.1 → a2 j = adL b (lA s i).2.1 n q (lA s i).2.2 j := fun j hj => (ha2 j hj).trans (adL_cong e7 j hj)
            obtain ⟨q5, q6⟩ := id hg2
            refine qX9_raise_91 ?_
            refine qX9_raise_93 (by assumption) (Nat.le_of_ble_eq_true rfl) (t_greatest hg2 (fun j hj => by rw [ha2 j hj]; exact Nat.le_trans (adL_le e6 hok1 j hj) (by decide)) g5 ?_)
            refine qX9_raise_96 ?_
            rw [mxF_cong hv2]
            exact k w2 ((hF1.mono (fun q hq => by unfold sB; omega)).tr hF2 (fun q hq => by unfold sGE at hq; unfold sB; omega)) (hc1.ups hi hF2 hg2 ⟨rfl, rfl, hv2⟩)
          · rw [cIf_f (fun e => hok ((okL_cong g5 g7 hn).mpr e))] at k
            refine nX9_raise_65 (by omega) (fun h65 => by exfalso; omega) (fun h65 => ?_)
            refine qX9_raise_68 ?_
            refine qX9_raise_70 ?_
            exact k w Fr.rf h
        · rw [cIf_f (by omega)] at k
          refine qX9_raise_42 ?_
          refine qX9_raise_44 ?_
          exact k w Fr.rf h
    · rw [cIf_f (fun e => hno e.2)] at k
      refine nX9_raise_21 (by omega) (fun h21 => by exfalso; omega) (fun h21 => ?_)
      refine qX9_raise_24 ?_
      refine qX9_raise_25 ?_
      exact k w Fr.rf h
  · rw [cIf_f (fun e => hx e.1)] at k
    refine nX9_raise_4 (by omega) (fun h4 => ?_) (fun h4 => by exfalso; omega)
    refine qX9_raise_24 ?_
    refine qX9_raise_25 ?_
    exact k w Fr.rf h
end CHG3
