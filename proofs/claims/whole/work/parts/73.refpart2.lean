/-! the reference: permanent, byParts -/
section REFY
variable {G : sG} {d D : Nat} {P : sQ} {w : sW} {v : M7} {st : Nat → Nat} {s : xS}
theorem m_isSet {x : Int32} {n : Nat} (hn : n < 5) (kt : ∀ r, 1 ≤ r → r < 2 ^ n → x = nI r → P (some (.int (nI 1))) w) (kf : ¬ (∃ r, 1 ≤ r ∧ r < 2 ^ n ∧ x = nI r) → P (some (.int (nI 0))) w) : wpM G (d + 2) yX10_isSet (0, 0) [.int x, .int (nI n)] w P := by
  have hp5 : ∀ n, n < 5 → 1 * 2 ^ n ≤ 16 ∧ 1 ≤ 1 <<< n ∧ 1 <<< n = 2 ^ n := by decide
  obtain ⟨h1, h2, h3⟩ := hp5 n hn
  refine eX10_isSet ?_
  refine qX10_isSet_0 ?_
  refine qX10_isSet_1 ?_
  refine qX10_isSet_2 ?_
  refine qX10_isSet_3 ?_
  refine nX10_isSet_4 (by omega) (by omega) ?_
  refine qX10_isSet_5 ?_
  first | refine nX10_isSet_6 (by omega) ?_ | refine qX10_isSet_6 ?_
  refine qX10_isSet_7 (Nat.le_of_ble_eq_true rfl) (m_within (fun a1 a2 => ?_) (fun hno => ?_))
  · have a0 : ¬ x < 0 := by
      rw [Int32.le_iff_toInt_le] at a1
      have e : (nI 1).toInt = 1 := by decide
      rw [Int32.lt_iff_toInt_lt]
      have e2 : (0 : Int32).toInt = 0 := by decide
      omega
    obtain ⟨j, hj, hx⟩ := nI_of a0
    rw [hx, nI_leI hj (by omega)] at a2
    rw [hx, nI_leI (by decide) hj] at a1
    refine qX10_isSet_10 rfl ?_
    exact kt j a1 (by omega) hx
  · refine qX10_isSet_10 rfl ?_
    refine kf (fun z => hno ?_)
    obtain ⟨r, b1, b2, rfl⟩ := z
    exact ⟨(nI_leI (by decide) (by omega)).mpr b1, (nI_leI (by omega) (by omega)).mpr (by omega)⟩
theorem isPt_c {R C : Nat} (hR : R ≤ 4) (hC : C ≤ 4) {x y : Int32} (h : isPt R C x y) : ∃ r c, 1 ≤ r ∧ r < 2 ^ R ∧ 1 ≤ c ∧ c < 2 ^ C ∧ x = nI r ∧ y = nI c ∧ bcN r = bcN c := by
  obtain ⟨r, c, h1, h2, h3, h4, h5, h6⟩ := h
  have pR : 2 ^ R ≤ 16 := Nat.pow_le_pow_right (n := 2) (by decide) (show R ≤ 4 from hR)
  have pC : 2 ^ C ≤ 16 := Nat.pow_le_pow_right (n := 2) (by decide) (show C ≤ 4 from hC)
  have a := bcN_pos r (by omega)
  have b := bcN_pos c (by omega)
  exact ⟨r, c, h1, h2, by omega, h3, h4, h5, h6⟩
theorem scM.wys {w' : sW} (h : scM G w D) (hF : Fr w w' (fun q => q = D ∨ q = D + 8)) (hw : ∃ f, w'.1 (D + 8) = aN G 4 f) : scM G w' D := by
  obtain ⟨⟨f1, h1⟩, ⟨f2, h2⟩, _, ⟨f4, h4⟩, ⟨f5, h5⟩, ⟨f6, h6⟩, f7, h7⟩ := h
  exact ⟨⟨f1, by rw [hF.2 _ (by omega)]; exact h1⟩, ⟨f2, by rw [hF.2 _ (by omega)]; exact h2⟩, hw, ⟨f4, by rw [hF.2 _ (by omega)]; exact h4⟩, ⟨f5, by rw [hF.2 _ (by omega)]; exact h5⟩, ⟨f6, by rw [hF.2 _ (by omega)]; exact h6⟩, f7, by rw [hF.2 _ (by omega)]; exact h7⟩
set_option maxHeartbeats 400000 in
theorem m_permanent {x y z u : Int32} (h : mdAt G w D s) (ho : okS s) (k : ∀ w', Fr w w' (sD D) → mdAt G w' D s → P (some (.int (spPermanent s x y z u))) w') : wpM G (d + 4) yX10_permanent (0, 0) [.ref D, .int x, .int y, .int z, .int u] w P := by
  obtain ⟨⟨v, o1, o2, o3⟩, ⟨st, p1, p2⟩, _, _, _, _, p7⟩ := id h
  have hok := p2.ok ho.1
  unfold spPermanent at k
  refine eX10_permanent ?_
  refine qX10_permanent_0 ?_
  refine qX10_permanent_1 (Nat.le_of_ble_eq_true rfl) (m_isArray (fun i hi hx => ?_) (fun hx => ?_))
  · subst hx
    obtain ⟨e1, e2, e3⟩ := p2 i hi
    have e1 : rR st i = _ := e1
    have e2 : rC st i = _ := e2
    have e3 : ∀ q, q < (lA s i).1 * (lA s i).2.1 → rE st i q = (lA s i).2.2 q := e3
    have g5 := (ho.1 i hi).1
    have b1 := g5.2.1
    have b2 := g5.2.2.2.1
    rw [nN_nI (by omega), cIf_t (inB_nI hi)] at k
    have bad : ¬ (isPt (lA s i).1 (lA s i).2.1 y z ∧ inB u 3) → wp G (d + 3) mX10_permanent P 54 [some (.ref D), some (.int (nI i)), some (.int y), some (.int z), some (.int u)] [] w (0, 0) := by
      intro hb
      rw [cIf_f hb] at k
      refine qX10_permanent_54 ?_
      refine qX10_permanent_56 ?_
      exact k w Fr.rf h
    refine nX10_permanent_4 (by omega) (fun h4 => ?_) (fun h4 => by exfalso; omega)
    refine qX10_permanent_9 ?_
    refine qX10_permanent_10 ?_
    refine qX10_permanent_11 ?_
    refine qX10_permanent_12 (by assumption) (Nat.le_of_ble_eq_true rfl) (m_rowsOf o1 p1 hi ?_)
    rw [e1]
    refine qX10_permanent_15 (Nat.le_of_ble_eq_true rfl) (m_isSet (by omega) (fun r r1 r2 hy => ?_) (fun hno => ?_))
    · subst hy
      refine nX10_permanent_18 (by omega) (fun h18 => by exfalso; omega) (fun h18 => ?_)
      refine qX10_permanent_21 ?_
      refine qX10_permanent_22 ?_
      refine qX10_permanent_23 ?_
      refine qX10_permanent_24 (by assumption) (Nat.le_of_ble_eq_true rfl) (m_columnsOf o1 p1 hi ?_)
      rw [e2]
      refine qX10_permanent_27 (Nat.le_of_ble_eq_true rfl) (m_isSet (by omega) (fun c c1 c2 hz => ?_) (fun hno => ?_))
      · subst hz
        have pR : 2 ^ (lA s i).1 ≤ 16 := Nat.pow_le_pow_right (n := 2) (by decide) b1
        have pC : 2 ^ (lA s i).2.1 ≤ 16 := Nat.pow_le_pow_right (n := 2) (by decide) b2
        have n1 := bcN_le r
        have n2 := bcN_le c
        refine nX10_permanent_30 (by omega) (fun h30 => by exfalso; omega) (fun h30 => ?_)
        refine qX10_permanent_33 ?_
        refine qX10_permanent_34 (Nat.le_of_ble_eq_true rfl) (m_bits (by omega) ?_)
        refine qX10_permanent_37 ?_
        refine qX10_permanent_38 (Nat.le_of_ble_eq_true rfl) (m_bits (by omega) ?_)
        refine nX10_permanent_41 (by omega) (by omega) (fun h41 => ?_) (fun h41 => ?_)
        · exact bad (fun e => by
            obtain ⟨r', c', _, a1, a2, a3, a4, a5⟩ := e.1
            rw [nI_eq (by omega) (by omega)] at a3 a4
            subst a3
            subst a4
            exact h41 a5)
        · refine qX10_permanent_44 ?_
          refine qX10_permanent_46 ?_
          refine qX10_permanent_47 ?_
          refine qX10_permanent_48 (Nat.le_of_ble_eq_true rfl) (m_within0 (by decide) (fun u hu hq => ?_) (fun hno => ?_))
          · subst hq
            have hu : u < 3 := hu
            rw [cIf_t ⟨⟨r, c, r1, r2, c2, rfl, rfl, h41⟩, inB_nI hu⟩, nN_nI (by omega), nN_nI (by omega), ← wysL_cong e3, ← e1, ← e2] at k
            refine nX10_permanent_51 (by omega) (fun h51 => ?_) (fun h51 => by exfalso; omega)
            refine qX10_permanent_57 ?_
            refine qX10_permanent_58 ?_
            refine qX10_permanent_59 ?_
            refine qX10_permanent_60 ?_
            refine qX10_permanent_61 (by assumption) (Nat.le_of_ble_eq_true rfl) (m_findWays o1 p1 p7.2.2.1 hi (hok i hi) r1 (by rw [e1]; exact r2) (by rw [e2]; exact c2) h41 (fun w1 hF1 m1 hw1 => ?_))
            have kk := k w1 (hF1.mono (fun q hq => by unfold sD; omega)) (h.scr (hF1.mono (fun q hq => by omega)) ⟨_, m1, o2, o3⟩ (p7.wys hF1 hw1))
            refine qX10_permanent_64 ?_
            rcases (show u = 0 ∨ u = 1 ∨ u = 2 by omega) with rfl | rfl | rfl
            · rw [cIf_t rfl] at kk
              refine nX10_permanent_66 (by omega) (fun h66 => by exfalso; omega) (fun h66 => ?_)
              refine qX10_permanent_69 ?_
              refine qX10_permanent_70 (by assumption) ?_
              refine qX10_permanent_73 ?_
              refine qX10_permanent_93 ?_
              exact kk
            · rw [cIf_f (by decide), cIf_t rfl] at kk
              refine nX10_permanent_66 (by omega) (fun h66 => ?_) (fun h66 => by exfalso; omega)
              refine qX10_permanent_76 ?_
              refine qX10_permanent_78 ?_
              refine nX10_permanent_79 (by omega) (by omega) (fun h79 => by exfalso; omega) (fun h79 => ?_)
              refine qX10_permanent_82 ?_
              refine qX10_permanent_83 (by assumption) ?_
              refine qX10_permanent_86 ?_
              refine qX10_permanent_93 ?_
              exact kk
            · rw [cIf_f (by decide), cIf_f (by decide)] at kk
              refine nX10_permanent_66 (by omega) (fun h66 => ?_) (fun h66 => by exfalso; omega)
              refine qX10_permanent_76 ?_
              refine qX10_permanent_78 ?_
              refine nX10_permanent_79 (by omega) (by omega) (fun h79 => ?_) (fun h79 => by exfalso; omega)
              refine qX10_permanent_89 ?_
              refine qX10_permanent_90 (by assumption) ?_
              refine qX10_permanent_93 ?_
              exact kk
          · refine nX10_permanent_51 (by omega) (fun h51 => by exfalso; omega) (fun h51 => ?_)
            exact bad (fun e => hno e.2)
      · refine nX10_permanent_30 (by omega) (fun h30 => ?_) (fun h30 => by exfalso; omega)
        exact bad (fun e => hno (by
          obtain ⟨r', c', _, _, a1, a2, _, a4, _⟩ := isPt_c b1 b2 e.1
          exact ⟨c', a1, a2, a4⟩))
    · refine nX10_permanent_18 (by omega) (fun h18 => ?_) (fun h18 => by exfalso; omega)
      exact bad (fun e => hno (by
        obtain ⟨r', c', a1, a2, _, a3, _, _⟩ := e.1
        exact ⟨r', a1, a2, a3⟩))
  · rw [cIf_f hx] at k
    refine nX10_permanent_4 (by omega) (fun h4 => by exfalso; omega) (fun h4 => ?_)
    refine qX10_permanent_7 ?_
    refine qX10_permanent_8 ?_
    exact k w Fr.rf h
def pkP (p : P4) (u : Nat) : Nat := match u with
  | 0 => p.1
  | 1 => p.2.1
  | 2 => p.2.2.1
  | _ => p.2.2.2
def bdP (p : P4) (n : Nat) : Prop := p.1 ≤ 12 ∧ p.2.2.2 ≤ n
theorem bdP_st {R C r c n : Nat} {a : Nat → Nat} {p : P4} (h : bdP p n) : bdP (ptS R C a r c p) (n + 1) := by
  obtain ⟨h1, h2⟩ := h
  unfold ptS
  split
  · split
    · exact ⟨bcN_le r, by show p.2.2.2 + 1 ≤ n + 1; omega⟩
    · exact ⟨h1, by show p.2.2.2 + 1 ≤ n + 1; omega⟩
  · exact ⟨h1, by omega⟩
set_option maxHeartbeats 1000000 in
theorem m_regular {i u : Nat} (hu : u < 4) (h : mO w D v) (hs : w.1 (D + 1) = aN G 42 st) (hwy : ∃ f, w.1 (D + 8) = aN G 4 f) (hi : i < 3) (ho : okV (vwA st i)) (k : ∀ w' r5 r6 r7, Fr w w' (fun q => q = D ∨ q = D + 8) → mO w' D (v.1, v.2.1, v.2.2.1, v.2.2.2.1, r5, r6, r7) → (∃ f, w'.1 (D + 8) = aN G 4 f) → P (some (.int (nI (pkP (ptN (rR st i) (rC st i) (rE st i)) u)))) w') : wpM G (d + 4) yX10_regular (0, 0) [.ref D, .int (nI i), .int (nI u)] w P := by
  have hd : okD (rR st i) (rC st i) := ho.1
  have ha : ∀ q, q < rR st i * rC st i → rE st i q ≤ 999 := ho.2
  have b1 : rR st i ≤ 4 := hd.2.1
  have b2 : rC st i ≤ 4 := hd.2.2.2.1
  have hp5 : ∀ n, n < 5 → 1 * 2 ^ n ≤ 16 ∧ 1 ≤ 2 ^ n ∧ 1 <<< n = 2 ^ n := by decide
  obtain ⟨hr1, hr2, hr3⟩ := hp5 (rR st i) (by omega)
  obtain ⟨hc1, hc2, hc3⟩ := hp5 (rC st i) (by omega)
  obtain ⟨t1, t2, t3, t4, t5, t6, t7⟩ := v
  refine eX10_regular ?_
  refine qX10_regular_0 ?_
  refine qX10_regular_1 ?_
  refine qX10_regular_2 ?_
  refine qX10_regular_3 ?_
  refine qX10_regular_5 ?_
  refine qX10_regular_6 ?_
  refine qX10_regular_8 ?_
  refine qX10_regular_9 ?_
  refine qX10_regular_11 ?_
  refine qX10_regular_12 ?_
  have L : ∀ m r (w' : sW) (p : P4) (l8 l9 : Option Value) (r5 r6 r7 : Int32), r + m = 2 ^ rR st i - 1 → p = ptR (rR st i) (rC st i) (rE st i) r → bdP p (16 * r) → Fr w w' (fun q => q = D ∨ q = D + 8) → mO w' D (t1, t2, t3, t4, r5, r6, r7) → (∃ f, w'.1 (D + 8) = aN G 4 f) → wp G (d + 3) mX10_regular P 14 [some (.ref D), some (.int (nI i)), some (.int (nI u)), some (.int (nI p.1)), some (.int (nI p.2.1)), some (.int (nI p.2.2.1)), some (.int (nI p.2.2.2)), some (.int (nI (r + 1))), l8, l9] [] w' (0, 0) := by
    intro m
    induction m with
    | zero =>
      intro r w' p l8 l9 r5 r6 r7 hr hp hb hF m1 hwy
      have q1 : w'.1 (D + 1) = aN G 42 st := by rw [hF.2 _ (by omega)]; exact hs
      have hkk : P (some (.int (nI (pkP p u)))) w' := by
        rw [hp, show r = 2 ^ rR st i - 1 by omega]
        exact k w' _ _ _ hF m1 hwy
      refine qX10_regular_14 ?_
      refine qX10_regular_16 ?_
      refine qX10_regular_17 ?_
      refine qX10_regular_18 ?_
      refine qX10_regular_19 (by assumption) (Nat.le_of_ble_eq_true rfl) (m_rowsOf m1 q1 hi ?_)
      refine nX10_regular_22 (by omega) (by omega) ?_
      refine nX10_regular_23 (by omega) (by omega) (fun h23 => ?_) (fun h23 => by exfalso; omega)
      refine qX10_regular_136 ?_
      rcases (show u = 0 ∨ u = 1 ∨ u = 2 ∨ u = 3 by omega) with rfl | rfl | rfl | rfl
      · refine nX10_regular_137 (by omega) (fun h137 => by exfalso; omega) (fun h137 => ?_)
        refine qX10_regular_140 ?_
        refine qX10_regular_141 ?_
        refine qX10_regular_166 ?_
        exact hkk
      · refine nX10_regular_137 (by omega) (fun h137 => ?_) (fun h137 => by exfalso; omega)
        refine qX10_regular_144 ?_
        refine qX10_regular_145 ?_
        refine nX10_regular_146 (by omega) (by omega) (fun h146 => by exfalso; omega) (fun h146 => ?_)
        refine qX10_regular_149 ?_
        refine qX10_regular_151 ?_
        refine qX10_regular_166 ?_
        exact hkk
      · refine nX10_regular_137 (by omega) (fun h137 => ?_) (fun h137 => by exfalso; omega)
        refine qX10_regular_144 ?_
        refine qX10_regular_145 ?_
        refine nX10_regular_146 (by omega) (by omega) (fun h146 => ?_) (fun h146 => by exfalso; omega)
        refine qX10_regular_154 ?_
        refine qX10_regular_155 ?_
        refine nX10_regular_156 (by omega) (by omega) (fun h156 => by exfalso; omega) (fun h156 => ?_)
        refine qX10_regular_159 ?_
        refine qX10_regular_161 ?_
        refine qX10_regular_166 ?_
        exact hkk
      · refine nX10_regular_137 (by omega) (fun h137 => ?_) (fun h137 => by exfalso; omega)
        refine qX10_regular_144 ?_
        refine qX10_regular_145 ?_
        refine nX10_regular_146 (by omega) (by omega) (fun h146 => ?_) (fun h146 => by exfalso; omega)
        refine qX10_regular_154 ?_
        refine qX10_regular_155 ?_
        refine nX10_regular_156 (by omega) (by omega) (fun h156 => ?_) (fun h156 => by exfalso; omega)
        refine qX10_regular_164 ?_
        refine qX10_regular_166 ?_
        exact hkk
    | succ m ih =>
      intro r w' p l8 l9 r5 r6 r7 hr hp hb hF m1 hwy
      have q1 : w'.1 (D + 1) = aN G 42 st := by rw [hF.2 _ (by omega)]; exact hs
      refine qX10_regular_14 ?_
      refine qX10_regular_16 ?_
      refine qX10_regular_17 ?_
      refine qX10_regular_18 ?_
      refine qX10_regular_19 (by assumption) (Nat.le_of_ble_eq_true rfl) (m_rowsOf m1 q1 hi ?_)
      refine nX10_regular_22 (by omega) (by omega) ?_
      refine nX10_regular_23 (by omega) (by omega) (fun h23 => by exfalso; omega) (fun h23 => ?_)
      refine qX10_regular_26 ?_
      refine qX10_regular_27 ?_
      have L2 : ∀ m c (w' : sW) (p' : P4) (l9 : Option Value) (r5 r6 r7 : Int32), c + m = 2 ^ rC st i - 1 → p' = ptC (rR st i) (rC st i) (rE st i) (r + 1) p c → bdP p' (16 * r + c) → Fr w w' (fun q => q = D ∨ q = D + 8) → mO w' D (t1, t2, t3, t4, r5, r6, r7) → (∃ f, w'.1 (D + 8) = aN G 4 f) → wp G (d + 3) mX10_regular P 29 [some (.ref D), some (.int (nI i)), some (.int (nI u)), some (.int (nI p'.1)), some (.int (nI p'.2.1)), some (.int (nI p'.2.2.1)), some (.int (nI p'.2.2.2)), some (.int (nI (r + 1))), some (.int (nI (c + 1))), l9] [] w' (0, 0) := by
        intro m
        induction m with
        | zero =>
          intro c w' p' l9 r5 r6 r7 hc hp' hb' hF m1 hwy
          have q1 : w'.1 (D + 1) = aN G 42 st := by rw [hF.2 _ (by omega)]; exact hs
          refine qX10_regular_29 ?_
          refine qX10_regular_31 ?_
          refine qX10_regular_32 ?_
          refine qX10_regular_33 ?_
          refine qX10_regular_34 (by assumption) (Nat.le_of_ble_eq_true rfl) (m_columnsOf m1 q1 hi ?_)
          refine nX10_regular_37 (by omega) (by omega) ?_
          refine nX10_regular_38 (by omega) (by omega) (fun h38 => ?_) (fun h38 => by exfalso; omega)
          first | refine nX10_regular_130 ?_ | refine qX10_regular_130 ?_
          refine qX10_regular_133 ?_
          refine ih (r + 1) w' p' _ _ r5 r6 r7 (by omega) ?_ ⟨hb'.1, by have := hb'.2; omega⟩ hF m1 hwy
          rw [hp', hp, show c = 2 ^ rC st i - 1 by omega]
          rfl
        | succ m ih2 =>
          intro c w' p' l9 r5 r6 r7 hc hp' hb' hF m1 hwy
          have q1 : w'.1 (D + 1) = aN G 42 st := by rw [hF.2 _ (by omega)]; exact hs
          have n1 := bcN_le (r + 1)
          have n2 := bcN_le (c + 1)
          obtain ⟨hb1, hb2⟩ := id hb'
          -- behind the choice
          have aft : ∀ (w'' : sW) (b : Bool) (r5 r6 r7 : Int32), b = regB (rR st i) (rC st i) (rE st i) (r + 1) (c + 1) → Fr w w'' (fun q => q = D ∨ q = D + 8) → mO w'' D (t1, t2, t3, t4, r5, r6, r7) → (∃ f, w''.1 (D + 8) = aN G 4 f) → wp G (d + 3) mX10_regular P 81 [some (.ref D), some (.int (nI i)), some (.int (nI u)), some (.int (nI p'.1)), some (.int (nI p'.2.1)), some (.int (nI p'.2.2.1)), some (.int (nI p'.2.2.2)), some (.int (nI (r + 1))), some (.int (nI (c + 1))), some (.int (nI (tf b)))] [] w'' (0, 0) := by
            intro w'' b r5 r6 r7 hbe hF2 m2 hwy2
            have nx := fun l9 => ih2 (c + 1) w'' (ptS (rR st i) (rC st i) (rE st i) (r + 1) (c + 1) p') l9 r5 r6 r7 (by omega) (by rw [hp']; rfl) (by have := bdP_st (R := rR st i) (C := rC st i) (r := r + 1) (c := c + 1) (a := rE st i) hb'; exact ⟨this.1, by have := this.2; omega⟩) hF2 m2 hwy2
            unfold ptS at nx
            rw [← hbe] at nx
            refine qX10_regular_81 ?_
            refine qX10_regular_83 ?_
            cases b with
            | false =>
              rw [if_neg (by decide)] at nx
              show wp G (d + 3) mX10_regular P 85 _ (.int (nI 0) :: _) w'' (0, 0)
              refine nX10_regular_85 (by omega) (fun h85 => ?_) (fun h85 => by exfalso; omega)
              refine qX10_regular_92 ?_
              first | refine nX10_regular_93 ?_ | refine qX10_regular_93 ?_
              refine qX10_regular_94 ?_
              refine qX10_regular_96 ?_
              show wp G (d + 3) mX10_regular P 98 _ (.int (nI 0) :: _) w'' (0, 0)
              refine nX10_regular_98 (by omega) (fun h98 => ?_) (fun h98 => by exfalso; omega)
              first | refine nX10_regular_124 ?_ | refine qX10_regular_124 ?_
              refine qX10_regular_127 ?_
              exact nx _
            | true =>
              rw [if_pos rfl] at nx
              show wp G (d + 3) mX10_regular P 85 _ (.int (nI 1) :: _) w'' (0, 0)
              refine nX10_regular_85 (by omega) (fun h85 => by exfalso; omega) (fun h85 => ?_)
              refine qX10_regular_88 ?_
              refine qX10_regular_89 ?_
              first | refine nX10_regular_93 ?_ | refine qX10_regular_93 ?_
              refine qX10_regular_94 ?_
              refine qX10_regular_96 ?_
              show wp G (d + 3) mX10_regular P 98 _ (.int (nI 1) :: _) w'' (0, 0)
              refine nX10_regular_98 (by omega) (fun h98 => by exfalso; omega) (fun h98 => ?_)
              refine qX10_regular_101 ?_
              refine qX10_regular_103 (Nat.le_of_ble_eq_true rfl) (m_bits (by omega) ?_)
              refine qX10_regular_106 ?_
              refine nX10_regular_107 (by omega) (by omega) (fun h107 => ?_) (fun h107 => ?_)
              · rw [if_neg (by omega)] at nx
                first | refine nX10_regular_124 ?_ | refine qX10_regular_124 ?_
                refine qX10_regular_127 ?_
                exact nx _
              · rw [if_pos h107] at nx
                refine qX10_regular_110 ?_
                refine qX10_regular_112 (Nat.le_of_ble_eq_true rfl) (m_bits (by omega) ?_)
                refine qX10_regular_115 ?_
                refine qX10_regular_116 ?_
                refine qX10_regular_118 ?_
                refine qX10_regular_120 ?_
                refine qX10_regular_122 ?_
                first | refine nX10_regular_124 ?_ | refine qX10_regular_124 ?_
                refine qX10_regular_127 ?_
                exact nx _
          refine qX10_regular_29 ?_
          refine qX10_regular_31 ?_
          refine qX10_regular_32 ?_
          refine qX10_regular_33 ?_
          refine qX10_regular_34 (by assumption) (Nat.le_of_ble_eq_true rfl) (m_columnsOf m1 q1 hi ?_)
          refine nX10_regular_37 (by omega) (by omega) ?_
          refine nX10_regular_38 (by omega) (by omega) (fun h38 => by exfalso; omega) (fun h38 => ?_)
          refine qX10_regular_41 ?_
          refine qX10_regular_42 ?_
          refine qX10_regular_44 ?_
          refine qX10_regular_46 (Nat.le_of_ble_eq_true rfl) (m_bits (by omega) ?_)
          refine qX10_regular_49 ?_
          refine qX10_regular_51 (Nat.le_of_ble_eq_true rfl) (m_bits (by omega) ?_)
          refine nX10_regular_54 (by omega) (by omega) (fun h54 => ?_) (fun h54 => ?_)
          · exact aft w' false r5 r6 r7 (by unfold regB; rw [show (bcN (r + 1) == bcN (c + 1)) = false by rw [beq_eq_false_iff_ne]; exact h54, Bool.false_and]) hF m1 hwy
          · refine qX10_regular_57 ?_
            refine qX10_regular_58 ?_
            refine qX10_regular_59 ?_
            refine qX10_regular_61 ?_
            refine qX10_regular_63 (by assumption) (Nat.le_of_ble_eq_true rfl) (m_findWays m1 q1 hwy hi ho (by omega) (by omega) (by omega) h54 (fun w2 hF2 m2 hwy2 => ?_))
            have hF3 : Fr w w2 (fun q => q = D ∨ q = D + 8) := hF.tr hF2 (fun q hq => hq)
            have hwl : wlN (wysL (rR st i) (rC st i) (rE st i) (r + 1) (c + 1)) ≤ 24 := by
              unfold wlN
              refine Nat.le_trans (cntE_le _) ?_
              unfold wysL
              rw [goW_len]
              exact (cw_ok hd (by omega) (by omega) (by omega) h54).2
            have m2 : mO w2 D (t1, t2, t3, t4, nI (lsN (wysL (rR st i) (rC st i) (rE st i) (r + 1) (c + 1))), nI (wlN (wysL (rR st i) (rC st i) (rE st i) (r + 1) (c + 1))), nI (gsN (wysL (rR st i) (rC st i) (rE st i) (r + 1) (c + 1)))) := m2
            refine qX10_regular_66 ?_
            refine qX10_regular_67 (by assumption) ?_
            refine qX10_regular_70 ?_
            show wp G (d + 3) mX10_regular P 71 _ (.int (nI 1) :: .int (nI (wlN (wysL (rR st i) (rC st i) (rE st i) (r + 1) (c + 1)))) :: []) w2 (0, 0)
            refine nX10_regular_71 (by omega) (by omega) (fun h71 => ?_) (fun h71 => ?_)
            · refine qX10_regular_78 ?_
              refine qX10_regular_79 ?_
              exact aft w2 false _ _ _ (by unfold regB; rw [show (wlN (wysL (rR st i) (rC st i) (rE st i) (r + 1) (c + 1)) == 1) = false by rw [beq_eq_false_iff_ne]; exact h71, Bool.and_false]) hF3 m2 hwy2
            · refine qX10_regular_74 ?_
              refine qX10_regular_75 ?_
              refine qX10_regular_79 ?_
              exact aft w2 true _ _ _ (by unfold regB; rw [h71, h54]; simp) hF3 m2 hwy2
      exact L2 (2 ^ rC st i - 1) 0 w' p _ r5 r6 r7 (by omega) rfl ⟨hb.1, by have := hb.2; omega⟩ hF m1 hwy
  exact L (2 ^ rR st i - 1) 0 w (0, 0, 0, 0) none none t5 t6 t7 (by omega) rfl ⟨by decide, Nat.le_refl 0⟩ Fr.rf h hwy
theorem m_byParts {x y : Int32} (h : mdAt G w D s) (ho : okS s) (k : ∀ w', Fr w w' (sD D) → mdAt G w' D s → P (some (.int (spByParts s x y))) w') : wpM G (d + 5) yX10_byParts (0, 0) [.ref D, .int x, .int y] w P := by
  obtain ⟨⟨v, o1, o2, o3⟩, ⟨st, p1, p2⟩, _, _, _, _, p7⟩ := id h
  have hok := p2.ok ho.1
  unfold spByParts at k
  refine eX10_byParts ?_
  refine qX10_byParts_0 ?_
  refine qX10_byParts_1 (Nat.le_of_ble_eq_true rfl) (m_isArray (fun i hi hx => ?_) (fun hx => ?_))
  · subst hx
    obtain ⟨e1, e2, e3⟩ := p2 i hi
    have e1 : rR st i = _ := e1
    have e2 : rC st i = _ := e2
    have e3 : ∀ q, q < (lA s i).1 * (lA s i).2.1 → rE st i q = (lA s i).2.2 q := e3
    rw [nN_nI (by omega), cIf_t (inB_nI hi)] at k
    refine nX10_byParts_4 (by omega) (fun h4 => ?_) (fun h4 => by exfalso; omega)
    refine qX10_byParts_9 ?_
    refine qX10_byParts_10 ?_
    refine qX10_byParts_11 ?_
    refine qX10_byParts_12 (Nat.le_of_ble_eq_true rfl) (m_within0 (by decide) (fun u hu hq => ?_) (fun hno => ?_))
    · subst hq
      have hu : u < 4 := hu
      rw [cIf_t (inB_nI hu), ← ptN_cong e3, ← e1, ← e2] at k
      refine nX10_byParts_15 (by omega) (fun h15 => by exfalso; omega) (fun h15 => ?_)
      refine qX10_byParts_18 ?_
      refine qX10_byParts_19 ?_
      refine qX10_byParts_20 ?_
      refine qX10_byParts_21 (by assumption) (Nat.le_of_ble_eq_true rfl) (m_regular hu o1 p1 p7.2.2.1 hi (hok i hi) (fun w1 r5 r6 r7 hF1 m1 hw1 => ?_))
      have kk := k w1 (hF1.mono (fun q hq => by unfold sD; omega)) (h.scr (hF1.mono (fun q hq => by omega)) ⟨_, m1, o2, o3⟩ (p7.wys hF1 hw1))
      refine qX10_byParts_24 ?_
      refine qX10_byParts_29 ?_
      rcases (show u = 0 ∨ u = 1 ∨ u = 2 ∨ u = 3 by omega) with rfl | rfl | rfl | rfl
      · rw [cIf_t rfl] at kk
        exact kk
      · rw [cIf_f (by decide), cIf_t rfl] at kk
        exact kk
      · rw [cIf_f (by decide), cIf_f (by decide), cIf_t rfl] at kk
        exact kk
      · rw [cIf_f (by decide), cIf_f (by decide), cIf_f (by decide)] at kk
        exact kk
    · rw [cIf_f hno] at k
      refine nX10_byParts_15 (by omega) (fun h15 => ?_) (fun h15 => by exfalso; omega)
      refine qX10_byParts_27 ?_
      refine qX10_byParts_29 ?_
      exact k w Fr.rf h
  · rw [cIf_f hx] at k
    refine nX10_byParts_4 (by omega) (fun h4 => by exfalso; omega) (fun h4 => ?_)
    refine qX10_byParts_7 ?_
    refine qX10_byParts_8 ?_
    exact k w Fr.rf h
end REFY
