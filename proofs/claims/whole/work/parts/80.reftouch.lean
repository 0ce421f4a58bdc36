/-! the reference: which sets can be touched -/
theorem upd_s {f : Nat → Int32} {k : Nat} {x : Int32} : upd f k x k = x := by simp [upd]
theorem upd_n {f : Nat → Int32} {k j : Nat} {x : Int32} (h : j ≠ k) : upd f k x j = f j := by simp [upd, h]
theorem zK_bd {n b : Nat} {B : Int} {f : Nat → Int} (hb : b < n) (hn : n ≤ 4) (hB : 0 ≤ B) (hf : ∀ i k, i < n → k < n → -B ≤ f (4 * i + k)) : ∀ q, q ≤ n * n → ∀ i k, i < n → k < n → -(6 * B) ≤ zK n b q f (4 * i + k) ∧ (i = b ∨ k = b → -(3 * B) ≤ zK n b q f (4 * i + k)) ∧ (i = b → k = b → -(2 * B) ≤ zK n b q f (4 * i + k)) ∧ (q ≤ i * n + k → zK n b q f (4 * i + k) = f (4 * i + k))
  | 0, _, i, k, hi, hk => by
    have := hf i k hi hk
    have e : zK n b 0 f (4 * i + k) = f (4 * i + k) := rfl
    rw [e]
    exact ⟨by omega, fun _ => by omega, fun _ _ => by omega, fun _ => rfl⟩
  | q + 1, hq, i, k, hi, hk => by
    have ih := zK_bd hb hn hB hf q (by omega)
    obtain ⟨q1, q2⟩ := dm_lt (show q < n * n by omega)
    have e : zK n b (q + 1) f = zS n b q (zK n b q f) := rfl
    rw [e]
    unfold zS
    by_cases hx : 4 * i + k = 4 * (q / n) + q % n
    · obtain ⟨x1, x2⟩ := ix4 (by omega) (by omega) hx
      have hqe : q = i * n + k := by rw [x1, x2]; exact (dm_eq q n).symm
      rw [← x1, ← x2, updZ_s]
      obtain ⟨a1, a2, a3, a4⟩ := ih i k hi hk
      obtain ⟨b1, b2, b3, b4⟩ := ih i b hi hb
      obtain ⟨c1, c2, c3, c4⟩ := ih b k hb hk
      obtain ⟨d1, d2, d3, d4⟩ := ih b b hb hb
      have a4 := a4 (by omega)
      have f1 := hf i k hi hk
      have b2 := b2 (Or.inr rfl)
      have c2 := c2 (Or.inl rfl)
      have d3 := d3 rfl rfl
      refine ⟨?_, fun h => ?_, fun h1 h2 => ?_, fun h => by omega⟩
      · split <;> omega
      · rcases h with h | h
        · subst h
          split <;> omega
        · subst h
          split <;> omega
      · subst h1
        subst h2
        split <;> omega
    · rw [updZ_n hx]
      obtain ⟨a1, a2, a3, a4⟩ := ih i k hi hk
      exact ⟨a1, a2, a3, fun h => a4 (by omega)⟩
theorem s0_bd {R C : Nat} {a : Nat → Nat} {S i k : Nat} (hd : okD R C) (ha : ∀ q, q < R * C → a q ≤ 999) (hi : i < R) (hk : k < R) (n : Nat) (hn : n ≤ C) : -999 ≤ lsE C a S i k n ∧ lsE C a S i k n ≤ 99999 := by
  rcases lsE_eg (a := a) (S := S) (i := i) (k := k) n hn with h | h
  · rw [h]; omega
  · have := eg_bd hd ha hi hk h
    omega
theorem zB_bd {R C : Nat} {a : Nat → Nat} {S : Nat} (hd : okD R C) (ha : ∀ q, q < R * C → a q ≤ 999) : ∀ b, b ≤ R → ∀ i k, i < R → k < R → -((999 * 6 ^ b : Nat) : Int) ≤ zB R b (s0F C a S) (4 * i + k)
  | 0, _, i, k, hi, hk => by
    have d1 := hd.2.1
    have e : zB R 0 (s0F C a S) (4 * i + k) = s0F C a S (4 * i + k) := rfl
    rw [e]
    unfold s0F
    rw [show (4 * i + k) / 4 = i by omega, show (4 * i + k) % 4 = k by omega]
    have := s0_bd (S := S) hd ha hi hk C (Nat.le_refl C)
    simp only [Nat.pow_zero]
    omega
  | b + 1, hb, i, k, hi, hk => by
    have ih := zB_bd (S := S) hd ha b (by omega)
    have h := (zK_bd (b := b) (by omega) hd.2.1 (by omega) ih (R * R) (Nat.le_refl _) i k hi hk).1
    have e : zB R (b + 1) (s0F C a S) (4 * i + k) = zK R b (R * R) (zB R b (s0F C a S)) (4 * i + k) := rfl
    rw [e, Nat.pow_succ]
    omega
def flZ (f : Nat → Int) (n : Nat) : Bool := (List.range n).all (fun k => decide (0 ≤ f (4 * k + k)))
theorem flZ_succ {f : Nat → Int} {n : Nat} : flZ f (n + 1) = (flZ f n && decide (0 ≤ f (4 * n + n))) := by
  simp [flZ, List.range_succ, List.all_append]
section REFTO
variable {G : sG} {d D : Nat} {P : sQ} {w : sW} {v : M7} {st : Nat → Nat} {s : xS}
set_option maxHeartbeats 2000000 in
theorem m_isTouchable {i S : Nat} (h : mO w D v) (hs : w.1 (D + 1) = aN G 42 st) (hst : ∃ f, w.1 (D + 11) = aI G 16 f) (hi : i < 3) (ho : okV (vwA st i)) (hS : S < 4096) (k : ∀ w', Fr w w' (fun q => q = D + 11) → (∃ f, w'.1 (D + 11) = aI G 16 f) → P (some (.int (nI (tf (tchR (rR st i) (rC st i) (rE st i) S))))) w') : wpM G (d + 3) yX10_isTouchable (0, 0) [.ref D, .int (nI i), .int (nI S)] w P := by
  have hd : okD (rR st i) (rC st i) := ho.1
  have ha : ∀ q, q < rR st i * rC st i → rE st i q ≤ 999 := ho.2
  have at_ : ∀ {Q : sQ} {w' : sW} {r c : Nat}, mO w' D v → w'.1 (D + 1) = aN G 42 st → r < rR st i → c < rC st i → Q (some (.int (nI (rE st i (r * rC st i + c))))) w' → wpM G (d + 2) yX10_at (0, 0) [.ref D, .int (nI i), .int (nI r), .int (nI c)] w' Q := fun {Q w' r c} m1 q1 hr hc kq => m_at m1 q1 hi (hd.in12 hr hc) kq
  have ix : ∀ r c, r < rR st i → c < rC st i → rE st i (r * rC st i + c) ≤ 999 := fun r c hr hc => ha _ (hd.in hr hc)
  have d0 := hd.1
  have d1 := hd.2.1
  have d2 := hd.2.2.2.1
  have d3 := hd.2.2.2.2
  obtain ⟨f0, hst⟩ := hst
  refine eX10_isTouchable ?_
  refine qX10_isTouchable_0 ?_
  refine qX10_isTouchable_1 ?_
  refine qX10_isTouchable_2 (by assumption) (Nat.le_of_ble_eq_true rfl) (m_rowsOf h hs hi ?_)
  refine qX10_isTouchable_5 ?_
  refine qX10_isTouchable_6 ?_
  refine qX10_isTouchable_7 ?_
  refine qX10_isTouchable_8 (by assumption) (Nat.le_of_ble_eq_true rfl) (m_columnsOf h hs hi ?_)
  have hin4 : ∀ r c, r < rR st i → c < rC st i → r * rC st i + c < 12 := fun r c hr hc => hd.in12 hr hc
  have bd := fun i' k' h1 h2 n hn => s0_bd (S := S) (i := i') (k := k') (C := rC st i) hd ha h1 h2 n hn
  have bz := zB_bd (S := S) hd ha
  have dec := fun b x => zB_dec (n := rR st i) (f := s0F (rC st i) (rE st i) S) (b := 0) b x
  have s0e : ∀ i' k', i' < rR st i → k' < rR st i → s0F (rC st i) (rE st i) S (4 * i' + k') = lsE (rC st i) (rE st i) S i' k' (rC st i) := fun i' k' h1 h2 => by
    unfold s0F
    rw [show (4 * i' + k') / 4 = i' by omega, show (4 * i' + k') % 4 = k' by omega]
  have hn16 : rR st i * rR st i ≤ 16 := Nat.mul_le_mul d1 d1
  generalize hrn : rR st i = n at *
  refine qX10_isTouchable_11 ?_
  refine qX10_isTouchable_13 ?_
  refine qX10_isTouchable_14 ?_
  -- the last loop
  have L5 : ∀ (w' : sW) (F : Nat → Int32), Fr w w' (fun q => q = D + 11) → w'.1 (D + 11) = aI G 16 F → (∀ i' k', i' < n → k' < n → F (4 * i' + k') = iZ (zB n n (s0F (rC st i) (rE st i) S) (4 * i' + k'))) → ∀ (l6 l7 l8 l9 : Option Value) (l5 : Option Value), wp G (d + 2) mX10_isTouchable P 251 [some (.ref D), some (.int (nI i)), some (.int (nI S)), some (.int (nI n)), some (.int (nI (rC st i))), l5, l6, l7, l8, l9] [] w' (0, 0) := by
    intro w' F hF hst hFv l6 l7 l8 l9 l5
    have m1 : mO w' D v := (hF.2 D (by omega)).trans h
    refine qX10_isTouchable_251 ?_
    refine qX10_isTouchable_252 ?_
    refine qX10_isTouchable_254 ?_
    refine qX10_isTouchable_255 ?_
    have L : ∀ m j, j + m = n → wp G (d + 2) mX10_isTouchable P 257 [some (.ref D), some (.int (nI i)), some (.int (nI S)), some (.int (nI n)), some (.int (nI (rC st i))), some (.int (nI (tf (flZ (zB n n (s0F (rC st i) (rE st i) S)) j)))), some (.int (nI j)), l7, l8, l9] [] w' (0, 0) := by
      intro m
      induction m with
      | zero =>
        intro j hj
        have hjn : j = n := by omega
        subst hjn
        have hk := k w' hF ⟨F, hst⟩
        have e : tchR j (rC st i) (rE st i) S = flZ (zB j j (s0F (rC st i) (rE st i) S)) j := rfl
        rw [e] at hk
        generalize flZ (zB j j (s0F (rC st i) (rE st i) S)) j = b at hk ⊢
        refine qX10_isTouchable_257 ?_
        refine qX10_isTouchable_259 ?_
        refine nX10_isTouchable_260 (by omega) (by omega) (fun h260 => ?_) (fun h260 => by exfalso; omega)
        cases b with
        | true =>
          refine qX10_isTouchable_296 ?_
          refine qX10_isTouchable_298 rfl ?_
          exact hk
        | false =>
          refine qX10_isTouchable_296 ?_
          refine qX10_isTouchable_298 rfl ?_
          exact hk
      | succ m ih =>
        intro j hj
        have nx := ih (j + 1) (by omega)
        rw [flZ_succ] at nx
        have b1 := bz n (by omega) j j (by omega) (by omega)
        have b2 := dec n (4 * j + j)
        rw [Nat.zero_add] at b2
        have e0 : zB n 0 (s0F (rC st i) (rE st i) S) (4 * j + j) = s0F (rC st i) (rE st i) S (4 * j + j) := rfl
        rw [e0, s0e j j (by omega) (by omega)] at b2
        have b3 := bd j j (by omega) (by omega) (rC st i) (Nat.le_refl _)
        have p6 : 6 ^ n ≤ 6 ^ 4 := Nat.pow_le_pow_right (by decide) d1
        have hz : zR (zB n n (s0F (rC st i) (rE st i) S) (4 * j + j)) := ⟨by omega, by omega⟩
        refine qX10_isTouchable_257 ?_
        refine qX10_isTouchable_259 ?_
        refine nX10_isTouchable_260 (by omega) (by omega) (fun h260 => by exfalso; omega) (fun h260 => ?_)
        refine qX10_isTouchable_263 ?_
        cases hb : flZ (zB n n (s0F (rC st i) (rE st i) S)) j with
        | false =>
          rw [hb, Bool.false_and] at nx
          show wp G (d + 2) mX10_isTouchable P 265 _ (.int (nI 0) :: []) w' (0, 0)
          refine nX10_isTouchable_265 (by omega) (fun h265 => ?_) (fun h265 => by exfalso; omega)
          refine qX10_isTouchable_287 ?_
          refine qX10_isTouchable_288 ?_
          first | refine nX10_isTouchable_290 ?_ | refine qX10_isTouchable_290 ?_
          refine qX10_isTouchable_293 ?_
          exact nx
        | true =>
          rw [hb, Bool.true_and] at nx
          show wp G (d + 2) mX10_isTouchable P 265 _ (.int (nI 1) :: []) w' (0, 0)
          refine nX10_isTouchable_265 (by omega) (fun h265 => by exfalso; omega) (fun h265 => ?_)
          refine qX10_isTouchable_268 ?_
          refine qX10_isTouchable_269 (by assumption) ?_
          refine qX10_isTouchable_272 ?_
          refine qX10_isTouchable_273 ?_
          first | refine nX10_isTouchable_275 ?_ | refine qX10_isTouchable_275 ?_
          refine qX10_isTouchable_276 ?_
          first | refine nX10_isTouchable_278 ?_ | refine qX10_isTouchable_278 ?_
          refine nX10_isTouchable_279 hst (by omega) (by decide) ?_
          rw [hFv j j (by omega) (by omega)]
          refine zX10_isTouchable_280 (by assumption) (fun h280 => ?_) (fun h280 => ?_)
          · rw [decide_eq_false (by omega)] at nx
            refine qX10_isTouchable_287 ?_
            refine qX10_isTouchable_288 ?_
            first | refine nX10_isTouchable_290 ?_ | refine qX10_isTouchable_290 ?_
            refine qX10_isTouchable_293 ?_
            exact nx
          · rw [decide_eq_true h280] at nx
            refine qX10_isTouchable_283 ?_
            refine qX10_isTouchable_284 ?_
            refine qX10_isTouchable_288 ?_
            first | refine nX10_isTouchable_290 ?_ | refine qX10_isTouchable_290 ?_
            refine qX10_isTouchable_293 ?_
            exact nx
    exact L n 0 (by omega)
  -- the shortest ways
  have L3 : ∀ m b (w' : sW) (F : Nat → Int32) (l6 l7 l8 l9 : Option Value), b + m = n → Fr w w' (fun q => q = D + 11) → w'.1 (D + 11) = aI G 16 F → (∀ i' k', i' < n → k' < n → F (4 * i' + k') = iZ (zB n b (s0F (rC st i) (rE st i) S) (4 * i' + k'))) → wp G (d + 2) mX10_isTouchable P 133 [some (.ref D), some (.int (nI i)), some (.int (nI S)), some (.int (nI n)), some (.int (nI (rC st i))), some (.int (nI b)), l6, l7, l8, l9] [] w' (0, 0) := by
    intro m
    induction m with
    | zero =>
      intro b w' F l6 l7 l8 l9 hb hF hst hFv
      have hbn : b = n := by omega
      subst hbn
      refine qX10_isTouchable_133 ?_
      refine qX10_isTouchable_135 ?_
      refine nX10_isTouchable_136 (by omega) (by omega) (fun h136 => ?_) (fun h136 => by exfalso; omega)
      exact L5 w' F hF hst hFv _ _ _ _ _
    | succ m ih =>
      intro b w' F l6 l7 l8 l9 hb hF hst hFv
      refine qX10_isTouchable_133 ?_
      refine qX10_isTouchable_135 ?_
      refine nX10_isTouchable_136 (by omega) (by omega) (fun h136 => by exfalso; omega) (fun h136 => ?_)
      refine qX10_isTouchable_139 ?_
      refine qX10_isTouchable_140 ?_
      have p6 : 6 ^ b ≤ 6 ^ 4 := Nat.pow_le_pow_right (by decide) (by omega)
      have zk := zK_bd (n := n) (b := b) (by omega) d1 (by omega) (bz b (by omega))
      have up : ∀ q i' k', i' < n → k' < n → zK n b q (zB n b (s0F (rC st i) (rE st i) S)) (4 * i' + k') ≤ 99999 := fun q i' k' h1 h2 => by
        have b1 := zK_dec (n := n) (b := b) (f := zB n b (s0F (rC st i) (rE st i) S)) q (4 * i' + k')
        have b2 := dec b (4 * i' + k')
        rw [Nat.zero_add] at b2
        have e0 : zB n 0 (s0F (rC st i) (rE st i) S) (4 * i' + k') = s0F (rC st i) (rE st i) S (4 * i' + k') := rfl
        rw [e0, s0e i' k' h1 h2] at b2
        have b3 := bd i' k' h1 h2 (rC st i) (Nat.le_refl _)
        omega
      have L4 : ∀ m q (w' : sW) (F : Nat → Int32) (l7 : Option Value), q + m = n * n → Fr w w' (fun q => q = D + 11) → w'.1 (D + 11) = aI G 16 F → (∀ i' k', i' < n → k' < n → F (4 * i' + k') = iZ (zK n b q (zB n b (s0F (rC st i) (rE st i) S)) (4 * i' + k'))) → wp G (d + 2) mX10_isTouchable P 142 [some (.ref D), some (.int (nI i)), some (.int (nI S)), some (.int (nI n)), some (.int (nI (rC st i))), some (.int (nI b)), some (.int (nI q)), l7, l8, l9] [] w' (0, 0) := by
        intro m
        induction m with
        | zero =>
          intro q w' F l7 hq hF hst hFv
          refine qX10_isTouchable_142 ?_
          refine qX10_isTouchable_144 ?_
          refine qX10_isTouchable_145 ?_
          first | refine nX10_isTouchable_146 ?_ | refine qX10_isTouchable_146 ?_
          refine nX10_isTouchable_147 (by omega) (by omega) (fun h147 => ?_) (fun h147 => by exfalso; omega)
          first | refine nX10_isTouchable_245 ?_ | refine qX10_isTouchable_245 ?_
          refine qX10_isTouchable_248 ?_
          refine ih (b + 1) w' F _ _ _ _ (by omega) hF hst (fun i' k' h1 h2 => ?_)
          rw [hFv i' k' h1 h2, show q = n * n by omega]
          rfl
        | succ m ih4 =>
          intro q w' F l7 hq hF hst hFv
          have m1 : mO w' D v := (hF.2 D (by omega)).trans h
          obtain ⟨c1, c2⟩ := dm_lt (show q < n * n by omega)
          have x1 := zk q (by omega) (q / n) b c1 (by omega)
          have x2 := zk q (by omega) b (q % n) (by omega) c2
          have x3 := zk q (by omega) (q / n) (q % n) c1 c2
          have y1 := up q (q / n) b c1 (by omega)
          have y2 := up q b (q % n) (by omega) c2
          have y3 := up q (q / n) (q % n) c1 c2
          have nx : ∀ (w'' : sW) (F' : Nat → Int32) (l7 : Option Value), Fr w w'' (fun q => q = D + 11) → w''.1 (D + 11) = aI G 16 F' → (∀ i' k', i' < n → k' < n → F' (4 * i' + k') = iZ (zK n b (q + 1) (zB n b (s0F (rC st i) (rE st i) S)) (4 * i' + k'))) → wp G (d + 2) mX10_isTouchable P 239 [some (.ref D), some (.int (nI i)), some (.int (nI S)), some (.int (nI n)), some (.int (nI (rC st i))), some (.int (nI b)), some (.int (nI q)), l7, l8, l9] [] w'' (0, 0) := by
            intro w'' F' l7 hF2 hst2 hFv2
            first | refine nX10_isTouchable_239 ?_ | refine qX10_isTouchable_239 ?_
            refine qX10_isTouchable_242 ?_
            exact ih4 (q + 1) w'' F' _ (by omega) hF2 hst2 hFv2
          have f1 := hFv (q / n) b c1 (by omega)
          have f2 := hFv b (q % n) (by omega) c2
          have f3 := hFv (q / n) (q % n) c1 c2
          have eK : ∀ i' k', i' < n → k' < n → zK n b (q + 1) (zB n b (s0F (rC st i) (rE st i) S)) (4 * i' + k') = zS n b q (zK n b q (zB n b (s0F (rC st i) (rE st i) S))) (4 * i' + k') := fun _ _ _ _ => rfl
          generalize hg : zK n b q (zB n b (s0F (rC st i) (rE st i) S)) = g at *
          have z1 : zR (g (4 * (q / n) + b) + g (4 * b + q % n)) := ⟨by omega, by omega⟩
          have z2 : zR (g (4 * (q / n) + q % n)) := ⟨by omega, by omega⟩
          have wr : ∀ z : Int, z = (if g (4 * (q / n) + b) + g (4 * b + q % n) < g (4 * (q / n) + q % n) then g (4 * (q / n) + b) + g (4 * b + q % n) else g (4 * (q / n) + q % n)) → ∀ (l7 : Option Value), wp G (d + 2) mX10_isTouchable P 238 [some (.ref D), some (.int (nI i)), some (.int (nI S)), some (.int (nI n)), some (.int (nI (rC st i))), some (.int (nI b)), some (.int (nI q)), l7, l8, l9] [.int (iZ z), .int (nI (4 * (q / n) + q % n)), .ref (D + 11)] w' (0, 0) := by
            intro z hz l7
            refine nX10_isTouchable_238 hst (by omega) (by decide) ?_
            refine nx _ _ _ (hF.up rfl) s_upS (fun i' k' h1 h2 => ?_)
            rw [eK i' k' h1 h2]
            unfold zS
            by_cases hx : 4 * i' + k' = 4 * (q / n) + q % n
            · rw [hx, upd_s, updZ_s, hz]
            · rw [upd_n hx, updZ_n hx]
              exact hFv i' k' h1 h2
          refine qX10_isTouchable_142 ?_
          refine qX10_isTouchable_144 ?_
          refine qX10_isTouchable_145 ?_
          first | refine nX10_isTouchable_146 ?_ | refine qX10_isTouchable_146 ?_
          refine nX10_isTouchable_147 (by omega) (by omega) (fun h147 => by exfalso; omega) (fun h147 => ?_)
          refine qX10_isTouchable_150 ?_
          refine qX10_isTouchable_151 (by assumption) ?_
          refine qX10_isTouchable_154 ?_
          refine qX10_isTouchable_155 ?_
          refine qX10_isTouchable_157 ?_
          refine nX10_isTouchable_158 (by omega) (by omega) (by omega) ?_
          first | refine nX10_isTouchable_159 ?_ | refine qX10_isTouchable_159 ?_
          refine qX10_isTouchable_160 ?_
          first | refine nX10_isTouchable_162 ?_ | refine qX10_isTouchable_162 ?_
          refine nX10_isTouchable_163 hst (by omega) (by decide) ?_
          rw [f1]
          refine qX10_isTouchable_164 ?_
          refine qX10_isTouchable_165 (by assumption) ?_
          refine qX10_isTouchable_168 ?_
          refine qX10_isTouchable_169 ?_
          first | refine nX10_isTouchable_171 ?_ | refine qX10_isTouchable_171 ?_
          refine qX10_isTouchable_172 ?_
          refine qX10_isTouchable_174 ?_
          refine nX10_isTouchable_175 (by omega) (by omega) (by omega) ?_
          first | refine nX10_isTouchable_176 ?_ | refine qX10_isTouchable_176 ?_
          refine nX10_isTouchable_177 hst (by omega) (by decide) ?_
          rw [f2]
          refine zX10_isTouchable_178 ?_
          refine qX10_isTouchable_179 ?_
          refine qX10_isTouchable_181 ?_
          refine qX10_isTouchable_182 (by assumption) ?_
          refine qX10_isTouchable_185 ?_
          refine qX10_isTouchable_186 ?_
          refine qX10_isTouchable_188 ?_
          refine nX10_isTouchable_189 (by omega) (by omega) (by omega) ?_
          first | refine nX10_isTouchable_190 ?_ | refine qX10_isTouchable_190 ?_
          refine qX10_isTouchable_191 ?_
          refine qX10_isTouchable_193 ?_
          refine nX10_isTouchable_194 (by omega) (by omega) (by omega) ?_
          first | refine nX10_isTouchable_195 ?_ | refine qX10_isTouchable_195 ?_
          refine qX10_isTouchable_196 ?_
          refine qX10_isTouchable_198 ?_
          refine qX10_isTouchable_199 (by assumption) ?_
          refine qX10_isTouchable_202 ?_
          refine qX10_isTouchable_203 ?_
          refine qX10_isTouchable_205 ?_
          refine nX10_isTouchable_206 (by omega) (by omega) (by omega) ?_
          first | refine nX10_isTouchable_207 ?_ | refine qX10_isTouchable_207 ?_
          refine qX10_isTouchable_208 ?_
          refine qX10_isTouchable_210 ?_
          refine nX10_isTouchable_211 (by omega) (by omega) (by omega) ?_
          first | refine nX10_isTouchable_212 ?_ | refine qX10_isTouchable_212 ?_
          refine nX10_isTouchable_213 hst (by omega) (by decide) ?_
          rw [f3]
          refine zX10_isTouchable_214 (by assumption) (by assumption) (fun h214 => ?_) (fun h214 => ?_)
          · refine qX10_isTouchable_222 ?_
            refine qX10_isTouchable_223 (by assumption) ?_
            refine qX10_isTouchable_226 ?_
            refine qX10_isTouchable_227 ?_
            refine qX10_isTouchable_229 ?_
            refine nX10_isTouchable_230 (by omega) (by omega) (by omega) ?_
            first | refine nX10_isTouchable_231 ?_ | refine qX10_isTouchable_231 ?_
            refine qX10_isTouchable_232 ?_
            refine qX10_isTouchable_234 ?_
            refine nX10_isTouchable_235 (by omega) (by omega) (by omega) ?_
            first | refine nX10_isTouchable_236 ?_ | refine qX10_isTouchable_236 ?_
            refine nX10_isTouchable_237 hst (by omega) (by decide) ?_
            rw [f3]
            exact wr _ (by rw [if_neg (by omega)]) _
          · refine qX10_isTouchable_217 ?_
            refine qX10_isTouchable_219 ?_
            exact wr _ (by rw [if_pos h214]) _
      exact L4 (n * n) 0 w' F l7 (by omega) hF hst hFv
  -- the steps
  have L1 : ∀ m r (w' : sW) (F : Nat → Int32) (l6 l7 l8 l9 : Option Value), r + m = n → Fr w w' (fun q => q = D + 11) → w'.1 (D + 11) = aI G 16 F → (∀ i' k', i' < r → k' < n → F (4 * i' + k') = iZ (s0F (rC st i) (rE st i) S (4 * i' + k'))) → wp G (d + 2) mX10_isTouchable P 16 [some (.ref D), some (.int (nI i)), some (.int (nI S)), some (.int (nI n)), some (.int (nI (rC st i))), some (.int (nI r)), l6, l7, l8, l9] [] w' (0, 0) := by
    intro m
    induction m with
    | zero =>
      intro r w' F l6 l7 l8 l9 hr hF hst hFv
      refine qX10_isTouchable_16 ?_
      refine qX10_isTouchable_18 ?_
      refine nX10_isTouchable_19 (by omega) (by omega) (fun h19 => ?_) (fun h19 => by exfalso; omega)
      refine qX10_isTouchable_130 ?_
      refine qX10_isTouchable_131 ?_
      exact L3 n 0 w' F _ _ _ _ (by omega) hF hst (fun i' k' h1 h2 => hFv i' k' (by omega) h2)
    | succ m ih =>
      intro r w' F l6 l7 l8 l9 hr hF hst hFv
      refine qX10_isTouchable_16 ?_
      refine qX10_isTouchable_18 ?_
      refine nX10_isTouchable_19 (by omega) (by omega) (fun h19 => by exfalso; omega) (fun h19 => ?_)
      refine qX10_isTouchable_22 ?_
      refine qX10_isTouchable_23 ?_
      have L2 : ∀ m c (w' : sW) (F : Nat → Int32) (l7 l8 l9 : Option Value), c + m = n → Fr w w' (fun q => q = D + 11) → w'.1 (D + 11) = aI G 16 F → (∀ i' k', i' < r ∨ (i' = r ∧ k' < c) → k' < n → F (4 * i' + k') = iZ (s0F (rC st i) (rE st i) S (4 * i' + k'))) → wp G (d + 2) mX10_isTouchable P 25 [some (.ref D), some (.int (nI i)), some (.int (nI S)), some (.int (nI n)), some (.int (nI (rC st i))), some (.int (nI r)), some (.int (nI c)), l7, l8, l9] [] w' (0, 0) := by
        intro m
        induction m with
        | zero =>
          intro c w' F l7 l8 l9 hc hF hst hFv
          refine qX10_isTouchable_25 ?_
          refine qX10_isTouchable_27 ?_
          refine nX10_isTouchable_28 (by omega) (by omega) (fun h28 => ?_) (fun h28 => by exfalso; omega)
          first | refine nX10_isTouchable_124 ?_ | refine qX10_isTouchable_124 ?_
          refine qX10_isTouchable_127 ?_
          exact ih (r + 1) w' F _ _ _ _ (by omega) hF hst (fun i' k' h1 h2 => hFv i' k' (by omega) h2)
        | succ m ih2 =>
          intro c w' F l7 l8 l9 hc hF hst hFv
          have m1 : mO w' D v := (hF.2 D (by omega)).trans h
          have q1 : w'.1 (D + 1) = aN G 42 st := by rw [hF.2 _ (by omega)]; exact hs
          refine qX10_isTouchable_25 ?_
          refine qX10_isTouchable_27 ?_
          refine nX10_isTouchable_28 (by omega) (by omega) (fun h28 => by exfalso; omega) (fun h28 => ?_)
          refine qX10_isTouchable_31 ?_
          rw [show nI 99999 = iZ 99999 by decide]
          refine qX10_isTouchable_33 ?_
          refine qX10_isTouchable_35 ?_
          refine qX10_isTouchable_36 ?_
          have Lj : ∀ m j (l9 : Option Value), j + m = rC st i → wp G (d + 2) mX10_isTouchable P 38 [some (.ref D), some (.int (nI i)), some (.int (nI S)), some (.int (nI n)), some (.int (nI (rC st i))), some (.int (nI r)), some (.int (nI c)), some (.int (iZ (lsE (rC st i) (rE st i) S r c j))), some (.int (nI j)), l9] [] w' (0, 0) := by
            intro m
            induction m with
            | zero =>
              intro j l9 hj
              refine qX10_isTouchable_38 ?_
              refine qX10_isTouchable_40 ?_
              refine nX10_isTouchable_42 (by omega) (by omega) (fun h42 => ?_) (fun h42 => by exfalso; omega)
              refine qX10_isTouchable_104 ?_
              refine qX10_isTouchable_105 (by assumption) ?_
              refine qX10_isTouchable_108 ?_
              refine qX10_isTouchable_109 ?_
              first | refine nX10_isTouchable_111 ?_ | refine qX10_isTouchable_111 ?_
              refine qX10_isTouchable_112 ?_
              first | refine nX10_isTouchable_114 ?_ | refine qX10_isTouchable_114 ?_
              refine qX10_isTouchable_115 ?_
              refine nX10_isTouchable_117 hst (by omega) (by decide) ?_
              first | refine nX10_isTouchable_118 ?_ | refine qX10_isTouchable_118 ?_
              refine qX10_isTouchable_121 ?_
              refine ih2 (c + 1) _ _ _ _ _ (by omega) (hF.up rfl) s_upS (fun i' k' h1 h2 => ?_)
              by_cases hx : 4 * i' + k' = 4 * r + c
              · obtain ⟨x1, x2⟩ := ix4 (by omega) (by omega) hx
                subst x1
                subst x2
                rw [upd_s, s0e i' k' (by omega) (by omega), show j = rC st i by omega]
              · rw [upd_n hx]
                exact hFv i' k' (by omega) h2
            | succ m ihj =>
              intro j l9 hj
              have nx := fun l9 => ihj (j + 1) l9 (by omega)
              simp only [lsE] at nx
              have e1 := ix c j (by omega) (by omega)
              have e2 := ix r j (by omega) (by omega)
              have e3 := bd r c (by omega) (by omega) j (by omega)
              have hin := hin4 c j (by omega) (by omega)
              have z1 : zR ((rE st i (c * rC st i + j) : Int) - rE st i (r * rC st i + j)) := ⟨by omega, by omega⟩
              have z2 : zR (lsE (rC st i) (rE st i) S r c j) := ⟨by omega, by omega⟩
              refine qX10_isTouchable_38 ?_
              refine qX10_isTouchable_40 ?_
              refine nX10_isTouchable_42 (by omega) (by omega) (fun h42 => by exfalso; omega) (fun h42 => ?_)
              refine qX10_isTouchable_45 ?_
              refine qX10_isTouchable_46 ?_
              refine qX10_isTouchable_47 ?_
              refine qX10_isTouchable_49 ?_
              refine qX10_isTouchable_51 (by assumption) (Nat.le_of_ble_eq_true rfl) (at_ m1 q1 (by omega) (by omega) ?_)
              refine qX10_isTouchable_54 ?_
              refine qX10_isTouchable_55 ?_
              refine qX10_isTouchable_56 ?_
              refine qX10_isTouchable_58 ?_
              refine qX10_isTouchable_60 (by assumption) (Nat.le_of_ble_eq_true rfl) (at_ m1 q1 (by omega) (by omega) ?_)
              refine qX10_isTouchable_63 ?_
              rw [nI_nI_sub]
              refine qX10_isTouchable_64 ?_
              refine qX10_isTouchable_66 ?_
              refine qX10_isTouchable_67 ?_
              refine qX10_isTouchable_69 ?_
              first | refine nX10_isTouchable_71 ?_ | refine qX10_isTouchable_71 ?_
              refine qX10_isTouchable_72 ?_
              first | refine nX10_isTouchable_74 ?_ | refine qX10_isTouchable_74 ?_
              refine nX10_isTouchable_75 (by omega) (by omega) ?_
              refine qX10_isTouchable_76 ?_
              first | refine nX10_isTouchable_77 ?_ | refine qX10_isTouchable_77 ?_
              refine qX10_isTouchable_78 ?_
              have hle : S >>> (c * rC st i + j) &&& 1 ≤ 1 := Nat.and_le_right
              refine nX10_isTouchable_79 (by omega) (by omega) (fun h79 => ?_) (fun h79 => ?_)
              · rw [shr_1] at h79
                rw [if_neg (fun z => h79 z.1)] at nx
                refine qX10_isTouchable_94 ?_
                refine qX10_isTouchable_96 ?_
                first | refine nX10_isTouchable_98 ?_ | refine qX10_isTouchable_98 ?_
                refine qX10_isTouchable_101 ?_
                exact nx _
              · rw [shr_1] at h79
                refine qX10_isTouchable_82 ?_
                refine qX10_isTouchable_84 ?_
                refine zX10_isTouchable_86 (by assumption) (by assumption) (fun h86 => ?_) (fun h86 => ?_)
                · rw [if_neg (fun z => by omega)] at nx
                  refine qX10_isTouchable_94 ?_
                  refine qX10_isTouchable_96 ?_
                  first | refine nX10_isTouchable_98 ?_ | refine qX10_isTouchable_98 ?_
                  refine qX10_isTouchable_101 ?_
                  exact nx _
                · rw [if_pos ⟨h79, h86⟩] at nx
                  refine qX10_isTouchable_89 ?_
                  refine qX10_isTouchable_91 ?_
                  refine qX10_isTouchable_96 ?_
                  first | refine nX10_isTouchable_98 ?_ | refine qX10_isTouchable_98 ?_
                  refine qX10_isTouchable_101 ?_
                  exact nx _
          exact Lj (rC st i) 0 _ (by omega)
      exact L2 n 0 w' F _ _ _ (by omega) hF hst (fun i' k' h1 h2 => hFv i' k' (by omega) h2)
  exact L1 n 0 w f0 none none none none (by omega) Fr.rf hst (fun i' k' h1 => absurd h1 (Nat.not_lt_zero i'))
end REFTO
