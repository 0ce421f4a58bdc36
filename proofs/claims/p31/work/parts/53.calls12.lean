/-! the calls that use cones and rings -/
theorem rchB_cong {R C : Nat} {a b : Nat → Nat} (hd : okD R C) (h : ∀ k, k < R * C → a k = b k) {c o r : Nat} (hc : c < C) (hr : r < R) : ∀ n, n ≤ C → rchB R C a c o r n = rchB R C b c o r n
  | 0, _ => rfl
  | n + 1, hn => by
    simp only [rchB]
    rw [rchB_cong hd h hc hr n (by omega), fcZ_cong hd h hc (by omega), h _ (hd.in hr hc), h _ (hd.in hr (by omega))]
theorem msdN_cong {R C : Nat} {a b : Nat → Nat} (hd : okD R C) (h : ∀ k, k < R * C → a k = b k) {c o : Nat} (hc : c < C) : msdN R C a c o = msdN R C b c o := by
  unfold msdN
  refine mkB_ext (fun r hr => ?_)
  rw [rchB_cong hd h hc hr C (Nat.le_refl C)]
theorem nedN_cong {R C : Nat} {a b : Nat → Nat} (hd : okD R C) (h : ∀ k, k < R * C → a k = b k) : ∀ n, n ≤ C → nedN R C a n = nedN R C b n
  | 0, _ => rfl
  | n + 1, hn => by
    simp only [nedN]
    rw [nedN_cong hd h n (by omega), msdN_cong hd h (show n < C by omega)]
theorem rgW_cong {n : Nat} {a b : Nat → Nat} (h : ∀ k, k < n * n → a k = b k) {st : Nat} (hst : st < n) : ∀ m last nums sum len, last < n → rgW n a st m last nums sum len = rgW n b st m last nums sum len
  | 0, last, nums, sum, len, hl => by
    simp only [rgW]
    rw [h _ (ix_lt hl hst)]
  | m + 1, last, nums, sum, len, hl => by
    simp only [rgW]
    rw [h _ (ix_lt hl hst)]
    congr 1
    rw [List.flatMap_def, List.flatMap_def]
    congr 1
    apply List.map_congr_left
    intro c hc
    rw [List.mem_range] at hc
    split
    · rw [h _ (ix_lt hl hc), rgW_cong h hst m _ _ _ _ hc]
    · rfl
theorem rgN_cong {n : Nat} {a b : Nat → Nat} (h : ∀ k, k < n * n → a k = b k) : rgN n a = rgN n b := by
  unfold rgN rgL
  congr 1
  rw [List.flatMap_def, List.flatMap_def]
  congr 1
  apply List.map_congr_left
  intro st hst
  rw [List.mem_range] at hst
  exact rgW_cong h hst _ _ _ _ _ hst
noncomputable def spCone (s : xS) (x y z v : Int32) : Int32 := cIf (inB x 3 ∧ inB y (lA s (nN x)).2.1) (cIf ((inB z (2 ^ (lA s (nN x)).2.1) ∧ (nN z).testBit (nN y) = false) ∧ inB v 2) (cIf (v = nI 1) (nI (msdN (lA s (nN x)).1 (lA s (nN x)).2.1 (lA s (nN x)).2.2 (nN y) (nN z))) (nI (if msdN (lA s (nN x)).1 (lA s (nN x)).2.1 (lA s (nN x)).2.2 (nN y) (nN z) = 0 then 1 else 0))) (-2)) (-1)
noncomputable def spRing (s : xS) (x y : Int32) : Int32 := cIf (inB x 3) (cIf (inB y 3) (if (lA s (nN x)).1 = (lA s (nN x)).2.1 then (cIf (y = nI 0) (nI (rgN (lA s (nN x)).1 (lA s (nN x)).2.2).1) (cIf (y = nI 1) (nI (rgN (lA s (nN x)).1 (lA s (nN x)).2.2).2.1) (nI (rgN (lA s (nN x)).1 (lA s (nN x)).2.2).2.2))) else (-5)) (-2)) (-1)
section CALLS55
variable {G : sG} {d : Nat} {P : sQ} {w : sW} {B : Nat} {s : xS}
set_option maxHeartbeats 400000 in
theorem t_cone {x y z v : Int32} (h : clAt G w B s) (ho : okS s) (k : P (some (.int (spCone s x y z v))) w) : wpM G (d + 5) yX9_cone (0, 0) [.ref B, .int x, .int y, .int z, .int v] w P := by
  have h0 := h.1
  unfold clO at h0
  unfold spCone at k
  refine eX9_cone ?_
  refine qX9_cone_0 ?_
  refine qX9_cone_1 (Nat.le_of_ble_eq_true rfl) (t_isArray (fun i hi hx => ?_) (fun hx => ?_))
  · subst hx
    obtain ⟨g1, ⟨f, g2, g3⟩, a, g4, g5, g6, g7⟩ := clG h ho hi
    rw [nN_nI (by omega)] at k
    obtain ⟨q1, q2⟩ := id g4
    have b1 := g5.2.1
    have b2 := g5.2.2.2.1
    refine nX9_cone_4 (by omega) (fun h4 => by exfalso; omega) (fun h4 => ?_)
    refine qX9_cone_7 ?_
    refine qX9_cone_8 (by assumption) ?_
    refine qX9_cone_11 (by assumption) ?_
    refine qX9_cone_14 ?_
    refine nX9_cone_15 g2 (Or.inl rfl) hi (by decide) g3 ?_
    refine qX9_cone_16 ?_
    refine qX9_cone_17 ?_
    refine qX9_cone_18 (by assumption) (Nat.le_of_ble_eq_true rfl) (t_hasLine false g4 (by omega) (by omega) (fun c hc hy => ?_) (fun hno => ?_))
    · have hc : c < (lA s i).2.1 := hc
      subst hy
      rw [cIf_t ⟨inB_nI hi, inB_nI hc⟩, nN_nI (by omega)] at k
      have p2 : 2 ^ (lA s i).2.1 ≤ 16 := Nat.pow_le_pow_right (n := 2) (by decide) b2
      have p3 : 2 ^ c ≤ 16 := Nat.pow_le_pow_right (n := 2) (by decide) (show c ≤ 4 by omega)
      refine nX9_cone_21 (by omega) (fun h21 => ?_) (fun h21 => by exfalso; omega)
      refine qX9_cone_26 ?_
      refine qX9_cone_27 (by assumption) ?_
      refine qX9_cone_30 (by assumption) ?_
      refine qX9_cone_33 ?_
      refine nX9_cone_34 g2 (Or.inl rfl) hi (by decide) g3 ?_
      refine qX9_cone_35 ?_
      refine qX9_cone_37 ?_
      refine qX9_cone_38 ?_
      refine qX9_cone_40 (by assumption) ?_
      refine qX9_cone_43 (Nat.le_of_ble_eq_true rfl) (t_isSet (by omega) (fun o ho2 hz => ?_) (fun hno => ?_))
      · subst hz
        rw [nN_nI (by omega), ← msdN_cong g5 g7 hc] at k
        refine nX9_cone_46 (by omega) (fun h46 => by exfalso; omega) (fun h46 => ?_)
        refine qX9_cone_49 ?_
        refine qX9_cone_50 ?_
        refine qX9_cone_51 ?_
        refine nX9_cone_52 (by omega) (by omega) ?_
        first | refine nX9_cone_53 ?_ | refine qX9_cone_53 ?_
        have hal : o &&& 1 <<< c ≤ o := Nat.and_le_left
        refine nX9_cone_54 (by omega) (fun h54 => ?_) (fun h54 => ?_)
        · rw [cIf_f (fun e => h54 ((and_bit _ _).mpr e.1.2))] at k
          refine qX9_cone_68 ?_
          refine qX9_cone_70 ?_
          exact k
        · rw [and_bit] at h54
          refine qX9_cone_57 ?_
          refine qX9_cone_59 (fun h59 => ?_) (fun h59 => ?_)
          · rw [cIf_f (fun e => inB_lt0 (by decide) h59 e.2)] at k
            refine qX9_cone_68 ?_
            refine qX9_cone_70 ?_
            exact k
          · refine qX9_cone_62 ?_
            refine qX9_cone_64 ?_
            refine qX9_cone_65 (fun h65 => ?_) (fun h65 => ?_)
            · obtain ⟨v, hv, rfl⟩ := inB_le (by decide) h59 h65
              rw [cIf_t ⟨⟨inB_nI ho2, h54⟩, inB_nI hv⟩] at k
              have hm := mkB_lt (fun r => !rchB (lA s i).1 (lA s i).2.1 a c o r (lA s i).2.1) (lA s i).1
              have p1 : 2 ^ (lA s i).1 ≤ 16 := Nat.pow_le_pow_right (n := 2) (by decide) b1
              have hm2 : msdN (lA s i).1 (lA s i).2.1 a c o < 2 ^ (lA s i).1 := hm
              refine qX9_cone_71 ?_
              refine qX9_cone_73 ?_
              refine qX9_cone_74 ?_
              refine qX9_cone_75 (Nat.le_of_ble_eq_true rfl) (t_missedRows g4 g5 g6 hc (by omega) ?_)
              refine qX9_cone_78 ?_
              refine qX9_cone_80 ?_
              refine qX9_cone_82 ?_
              rcases (show v = 0 ∨ v = 1 by omega) with rfl | rfl
              · rw [cIf_f (by decide)] at k
                refine nX9_cone_83 (by omega) (by omega) (fun h83 => ?_) (fun h83 => by exfalso; omega)
                refine qX9_cone_89 ?_
                refine nX9_cone_91 (by omega) (fun h91 => ?_) (fun h91 => ?_)
                · rw [if_neg h91] at k
                  refine qX9_cone_98 ?_
                  refine qX9_cone_99 ?_
                  exact k
                · rw [if_pos h91] at k
                  refine qX9_cone_94 ?_
                  refine qX9_cone_95 ?_
                  refine qX9_cone_99 ?_
                  exact k
              · rw [cIf_t rfl] at k
                refine nX9_cone_83 (by omega) (by omega) (fun h83 => by exfalso; omega) (fun h83 => ?_)
                refine qX9_cone_86 ?_
                refine qX9_cone_88 ?_
                exact k
            · rw [cIf_f (fun e => inB_gt (by decide) h65 e.2)] at k
              refine qX9_cone_68 ?_
              refine qX9_cone_70 ?_
              exact k
      · rw [cIf_f (fun e => hno e.1.1)] at k
        refine nX9_cone_46 (by omega) (fun h46 => ?_) (fun h46 => by exfalso; omega)
        refine qX9_cone_68 ?_
        refine qX9_cone_70 ?_
        exact k
    · rw [cIf_f (fun e => hno e.2)] at k
      refine nX9_cone_21 (by omega) (fun h21 => by exfalso; omega) (fun h21 => ?_)
      refine qX9_cone_24 ?_
      refine qX9_cone_25 ?_
      exact k
  · rw [cIf_f (fun e => hx e.1)] at k
    refine nX9_cone_4 (by omega) (fun h4 => ?_) (fun h4 => by exfalso; omega)
    refine qX9_cone_24 ?_
    refine qX9_cone_25 ?_
    exact k
set_option maxHeartbeats 400000 in
theorem t_ring {x y : Int32} (h : clAt G w B s) (ho : okS s) (k : ∀ w', Fr w w' (sB B) → clAt G w' B s → P (some (.int (spRing s x y))) w') : wpM G (d + 9) yX9_ring (0, 0) [.ref B, .int x, .int y] w P := by
  have h0 := h.1
  unfold clO at h0
  unfold spRing at k
  refine eX9_ring ?_
  refine qX9_ring_0 ?_
  refine qX9_ring_1 (Nat.le_of_ble_eq_true rfl) (t_isArray (fun i hi hx => ?_) (fun hx => ?_))
  · subst hx
    obtain ⟨g1, ⟨f, g2, g3⟩, a, g4, g5, g6, g7⟩ := clG h ho hi
    rw [nN_nI (by omega), cIf_t (inB_nI hi)] at k
    obtain ⟨q1, q2⟩ := id g4
    have b1 := g5.2.1
    have b2 := g5.2.2.2.1
    refine nX9_ring_4 (by omega) (fun h4 => ?_) (fun h4 => by exfalso; omega)
    refine qX9_ring_9 ?_
    refine qX9_ring_10 (fun h10 => ?_) (fun h10 => ?_)
    · rw [cIf_f (fun e => inB_lt0 (by decide) h10 e)] at k
      refine qX9_ring_18 ?_
      refine qX9_ring_20 ?_
      exact k w Fr.rf h
    · refine qX9_ring_13 ?_
      refine qX9_ring_14 ?_
      refine qX9_ring_15 (fun h15 => ?_) (fun h15 => ?_)
      · obtain ⟨v, hv, rfl⟩ := inB_le (by decide) h10 h15
        rw [cIf_t (inB_nI hv)] at k
        refine qX9_ring_21 ?_
        refine qX9_ring_22 (by assumption) ?_
        refine qX9_ring_25 (by assumption) ?_
        refine qX9_ring_28 ?_
        refine nX9_ring_29 g2 (Or.inl rfl) hi (by decide) g3 ?_
        refine qX9_ring_30 ?_
        refine qX9_ring_31 ?_
        refine qX9_ring_32 (by assumption) ?_
        refine qX9_ring_35 ?_
        refine qX9_ring_36 (by assumption) ?_
        refine nX9_ring_39 (by omega) (by omega) (fun h39 => ?_) (fun h39 => ?_)
        · rw [if_pos h39] at k
          rw [← h39] at g4 g5 g6 g7
          rw [← rgN_cong g7] at k
          obtain ⟨_, _, _, _, _, ⟨p3, t7⟩⟩ := id h.2.2.2.2.2.2
          have t7 : rgAt w (B + 75) p3 := t7
          obtain ⟨t8, t9⟩ := id t7
          refine qX9_ring_45 ?_
          refine qX9_ring_46 (by assumption) ?_
          refine qX9_ring_49 ?_
          refine qX9_ring_50 (by assumption) (Nat.le_of_ble_eq_true rfl) (t_rstudy g5 g6 (by omega) (by omega) g4 t7 (fun w' hF hr => ?_))
          have hc := h.rgs hF hr
          have e0 := hc.1
          unfold clO at e0
          obtain ⟨r8, r9⟩ := id hr
          have kk := k w' (hF.mono (fun q hq => by unfold sB; omega)) hc
          refine qX9_ring_53 ?_
          rcases (show v = 0 ∨ v = 1 ∨ v = 2 by omega) with rfl | rfl | rfl
          · rw [cIf_t rfl] at kk
            refine nX9_ring_54 (by omega) (fun h54 => by exfalso; omega) (fun h54 => ?_)
            refine qX9_ring_57 ?_
            refine qX9_ring_58 (by assumption) ?_
            refine qX9_ring_61 (by assumption) ?_
            refine qX9_ring_64 ?_
            exact kk
          · rw [cIf_f (by decide), cIf_t rfl] at kk
            refine nX9_ring_54 (by omega) (fun h54 => ?_) (fun h54 => by exfalso; omega)
            refine qX9_ring_65 ?_
            refine qX9_ring_66 ?_
            refine nX9_ring_67 (by omega) (by omega) (fun h67 => by exfalso; omega) (fun h67 => ?_)
            refine qX9_ring_70 ?_
            refine qX9_ring_71 (by assumption) ?_
            refine qX9_ring_74 (by assumption) ?_
            refine qX9_ring_77 ?_
            refine qX9_ring_87 ?_
            exact kk
          · rw [cIf_f (by decide), cIf_f (by decide)] at kk
            refine nX9_ring_54 (by omega) (fun h54 => ?_) (fun h54 => by exfalso; omega)
            refine qX9_ring_65 ?_
            refine qX9_ring_66 ?_
            refine nX9_ring_67 (by omega) (by omega) (fun h67 => ?_) (fun h67 => by exfalso; omega)
            refine qX9_ring_80 ?_
            refine qX9_ring_81 (by assumption) ?_
            refine qX9_ring_84 (by assumption) ?_
            refine qX9_ring_87 ?_
            exact kk
        · rw [if_neg h39] at k
          refine qX9_ring_42 ?_
          refine qX9_ring_44 ?_
          exact k w Fr.rf h
      · rw [cIf_f (fun e => inB_gt (by decide) h15 e)] at k
        refine qX9_ring_18 ?_
        refine qX9_ring_20 ?_
        exact k w Fr.rf h
  · rw [cIf_f hx] at k
    refine nX9_ring_4 (by omega) (fun h4 => by exfalso; omega) (fun h4 => ?_)
    refine qX9_ring_7 ?_
    refine qX9_ring_8 ?_
    exact k w Fr.rf h
end CALLS55
