/-! the reference: rings -/
theorem r_bd {n j : Nat} (h1 : 1 ≤ n) (h3 : n ≤ 3) (hj : j < n + n * n + n * n * n) : rO1 n j < n ∧ rO2 n j < n ∧ rO3 n j < n ∧ rRs n j < 100 ∧ j < 40 := by
  have hr : rRs n j < n * n * n := by
    unfold rRs rSz
    rcases (show n = 1 ∨ n = 2 ∨ n = 3 by omega) with rfl | rfl | rfl
    · by_cases a : j < 1 <;> by_cases b : j < 1 + 1 * 1 <;> simp [a, b] <;> omega
    · by_cases a : j < 2 <;> by_cases b : j < 2 + 2 * 2 <;> simp [a, b] <;> omega
    · by_cases a : j < 3 <;> by_cases b : j < 3 + 3 * 3 <;> simp [a, b] <;> omega
  have h27 : n * n * n ≤ 27 ∧ n * n ≤ 9 := by rcases (show n = 1 ∨ n = 2 ∨ n = 3 by omega) with rfl | rfl | rfl <;> decide
  refine ⟨Nat.mod_lt _ (by omega), Nat.mod_lt _ (by omega), ?_, by omega, by omega⟩
  unfold rO3
  rw [Nat.div_div_eq_div_mul]
  exact Nat.div_lt_of_lt_mul hr
def bdR (s : P3) (j : Nat) : Prop := s.1 ≤ j ∧ s.2.1 ≤ 3000 ∧ s.2.2 ≤ 3
theorem bdR_st {s : P3} {j : Nat} {x : Nat × Nat} (h : bdR s j) (h1 : x.1 ≤ 3000) (h2 : x.2 ≤ 3) : bdR (rgR s x) (j + 1) := by
  obtain ⟨a1, a2, a3⟩ := h
  unfold rgR
  split
  · exact ⟨by show s.1 + 1 ≤ j + 1; omega, h1, h2⟩
  · exact ⟨by show s.1 + 1 ≤ j + 1; omega, a2, a3⟩
def pk3 (p : P3) (u : Nat) : Nat := match u with
  | 0 => p.1
  | 1 => p.2.1
  | _ => p.2.2
section REFR
variable {G : sG} {d D : Nat} {P : sQ} {w : sW} {v : M7} {st : Nat → Nat} {s : xS}
set_option maxHeartbeats 2000000 in
theorem m_ofRings {i u : Nat} (hu : u < 3) (h : mO w D v) (hs : w.1 (D + 1) = aN G 42 st) (hi : i < 3) (ho : okV (vwA st i)) (hsq : rR st i = rC st i) (k : P (some (.int (nI (pk3 (rgN (rR st i) (rE st i)) u)))) w) : wpM G (d + 3) yX10_ofRings (0, 0) [.ref D, .int (nI i), .int (nI u)] w P := by
  have hd : okD (rR st i) (rC st i) := ho.1
  have ha : ∀ q, q < rR st i * rC st i → rE st i q ≤ 999 := ho.2
  have b0 : 1 ≤ rR st i := hd.1
  have b1 : rR st i ≤ 4 := hd.2.1
  have b2 : rR st i * rC st i ≤ 12 := hd.2.2.2.2
  refine eX10_ofRings ?_
  refine qX10_ofRings_0 ?_
  refine qX10_ofRings_1 ?_
  refine qX10_ofRings_2 (by assumption) (Nat.le_of_ble_eq_true rfl) (m_rowsOf h hs hi ?_)
  generalize hn : rR st i = n at *
  rw [← hsq] at ha b2
  have b3 : n ≤ 3 := by
    rcases (show n = 1 ∨ n = 2 ∨ n = 3 ∨ n = 4 by omega) with z | z | z | z
    · omega
    · omega
    · omega
    · subst z; omega
  have h27 : n * n * n ≤ 27 ∧ n * n ≤ 9 := by rcases (show n = 1 ∨ n = 2 ∨ n = 3 by omega) with rfl | rfl | rfl <;> decide
  obtain ⟨h27, h9⟩ := h27
  have hfin := rrS_eq (a := rE st i) b0 b3
  have at_ : ∀ {Q : sQ} {r c : Nat}, r < n → c < n → Q (some (.int (nI (rE st i (r * n + c))))) w → wpM G (d + 2) yX10_at (0, 0) [.ref D, .int (nI i), .int (nI r), .int (nI c)] w Q := fun {Q r c} hr hc kq => m_at h hs hi (by rw [← hsq]; exact Nat.lt_of_lt_of_le (ix_lt hr hc) b2) (by rw [← hsq]; exact kq)
  have ix : ∀ r c, r < n → c < n → rE st i (r * n + c) ≤ 999 := fun r c hr hc => ha _ (ix_lt hr hc)
  refine qX10_ofRings_5 ?_
  refine qX10_ofRings_6 ?_
  refine qX10_ofRings_7 ?_
  refine qX10_ofRings_9 ?_
  refine qX10_ofRings_10 ?_
  refine qX10_ofRings_12 ?_
  refine qX10_ofRings_13 ?_
  refine qX10_ofRings_15 ?_
  refine qX10_ofRings_16 ?_
  have L : ∀ m j (p : P3) (l8 l9 l10 l11 l12 l13 l14 l15 : Option Value), j + m = n + n * n + n * n * n → p = rrS n (rE st i) j → bdR p j → wp G (d + 2) mX10_ofRings P 18 [some (.ref D), some (.int (nI i)), some (.int (nI u)), some (.int (nI n)), some (.int (nI p.1)), some (.int (nI p.2.1)), some (.int (nI p.2.2)), some (.int (nI j)), l8, l9, l10, l11, l12, l13, l14, l15] [] w (0, 0) := by
    intro m
    induction m with
    | zero =>
      intro j p l8 l9 l10 l11 l12 l13 l14 l15 hj hp hb
      have hkk : P (some (.int (nI (pk3 p u)))) w := by
        rw [hp, show j = n + n * n + n * n * n by omega, hfin]
        exact k
      refine qX10_ofRings_18 ?_
      refine qX10_ofRings_20 ?_
      refine qX10_ofRings_21 ?_
      refine qX10_ofRings_22 ?_
      first | refine nX10_ofRings_23 ?_ | refine qX10_ofRings_23 ?_
      first | refine nX10_ofRings_24 ?_ | refine qX10_ofRings_24 ?_
      refine qX10_ofRings_25 ?_
      refine qX10_ofRings_26 ?_
      first | refine nX10_ofRings_27 ?_ | refine qX10_ofRings_27 ?_
      refine qX10_ofRings_28 ?_
      first | refine nX10_ofRings_29 ?_ | refine qX10_ofRings_29 ?_
      first | refine nX10_ofRings_30 ?_ | refine qX10_ofRings_30 ?_
      refine nX10_ofRings_31 (by omega) (by omega) (fun h31 => ?_) (fun h31 => by exfalso; omega)
      refine qX10_ofRings_309 ?_
      rcases (show u = 0 ∨ u = 1 ∨ u = 2 by omega) with rfl | rfl | rfl
      · refine nX10_ofRings_310 (by omega) (fun h310 => by exfalso; omega) (fun h310 => ?_)
        refine qX10_ofRings_313 ?_
        refine qX10_ofRings_315 ?_
        refine qX10_ofRings_330 ?_
        exact hkk
      · refine nX10_ofRings_310 (by omega) (fun h310 => ?_) (fun h310 => by exfalso; omega)
        refine qX10_ofRings_318 ?_
        refine qX10_ofRings_319 ?_
        refine nX10_ofRings_320 (by omega) (by omega) (fun h320 => by exfalso; omega) (fun h320 => ?_)
        refine qX10_ofRings_323 ?_
        refine qX10_ofRings_325 ?_
        refine qX10_ofRings_330 ?_
        exact hkk
      · refine nX10_ofRings_310 (by omega) (fun h310 => ?_) (fun h310 => by exfalso; omega)
        refine qX10_ofRings_318 ?_
        refine qX10_ofRings_319 ?_
        refine nX10_ofRings_320 (by omega) (by omega) (fun h320 => ?_) (fun h320 => by exfalso; omega)
        refine qX10_ofRings_328 ?_
        refine qX10_ofRings_330 ?_
        exact hkk
    | succ m ih =>
      intro j p l8 l9 l10 l11 l12 l13 l14 l15 hj hp hb
      obtain ⟨c1, c2, c3, c4, c5⟩ := r_bd b0 b3 (show j < n + n * n + n * n * n by omega)
      obtain ⟨pb1, pb2, pb3⟩ := id hb
      -- behind the sum
      have fin : ∀ x, x = (slP2 (rE st i) (rPl n j)).1 → x ≤ 3000 → ∀ l14 l15, wp G (d + 2) mX10_ofRings P 228 [some (.ref D), some (.int (nI i)), some (.int (nI u)), some (.int (nI n)), some (.int (nI p.1)), some (.int (nI p.2.1)), some (.int (nI p.2.2)), some (.int (nI j)), some (.int (nI (rSz n j))), some (.int (nI (rRs n j))), some (.int (nI (rO1 n j))), some (.int (nI (rO2 n j))), some (.int (nI (rO3 n j))), some (.int (nI (tf (rIs n j)))), l14, l15] [.int (nI x)] w (0, 0) := by
        intro x hx hx3 l14 l15
        have hsz : rSz n j ≤ 3 ∧ 1 ≤ rSz n j := by
          unfold rSz
          split
          · decide
          · split <;> decide
        have hl2 : (slP2 (rE st i) (rPl n j)).2 = rSz n j := rPl_len
        have nx := fun l8 l9 l10 l11 l12 l13 l14 l15 => ih (j + 1) (rrS n (rE st i) (j + 1)) l8 l9 l10 l11 l12 l13 l14 l15 (by omega) rfl (by
          simp only [rrS]
          split
          · rw [← hp]
            exact bdR_st hb (by rw [← hx]; exact hx3) (by rw [hl2]; exact hsz.1)
          · rw [← hp]
            exact ⟨by omega, pb2, pb3⟩)
        simp only [rrS] at nx
        rw [← hp] at nx
        refine qX10_ofRings_228 ?_
        refine qX10_ofRings_230 ?_
        cases hb : rIs n j with
        | false =>
          rw [if_neg (by rw [hb]; decide)] at nx
          show wp G (d + 2) mX10_ofRings P 232 _ (.int (nI 0) :: []) w (0, 0)
          refine nX10_ofRings_232 (by omega) (fun h232 => ?_) (fun h232 => by exfalso; omega)
          refine qX10_ofRings_257 ?_
          refine qX10_ofRings_258 ?_
          refine qX10_ofRings_260 ?_
          refine qX10_ofRings_262 ?_
          show wp G (d + 2) mX10_ofRings P 264 _ (.int (nI 0) :: _) w (0, 0)
          refine nX10_ofRings_264 (by omega) (fun h264 => ?_) (fun h264 => by exfalso; omega)
          refine qX10_ofRings_271 ?_
          first | refine nX10_ofRings_272 ?_ | refine qX10_ofRings_272 ?_
          refine qX10_ofRings_273 ?_
          refine qX10_ofRings_275 ?_
          refine nX10_ofRings_277 (by omega) (fun h277 => ?_) (fun h277 => by exfalso; omega)
          refine qX10_ofRings_285 ?_
          refine qX10_ofRings_287 ?_
          refine qX10_ofRings_289 ?_
          refine nX10_ofRings_291 (by omega) (fun h291 => ?_) (fun h291 => by exfalso; omega)
          refine qX10_ofRings_299 ?_
          refine qX10_ofRings_301 ?_
          first | refine nX10_ofRings_303 ?_ | refine qX10_ofRings_303 ?_
          refine qX10_ofRings_306 ?_
          exact nx _ _ _ _ _ _ _ _
        | true =>
          rw [if_pos hb] at nx
          unfold rgR at nx
          rw [hl2, ← hx] at nx
          have mm1 : x * p.2.2 ≤ 3000 * 3 := Nat.mul_le_mul hx3 pb3
          have mm2 : p.2.1 * rSz n j ≤ 3000 * 3 := Nat.mul_le_mul pb2 hsz.1
          have take : (p.1 = 0 ∨ x * p.2.2 < p.2.1 * rSz n j) → wp G (d + 2) mX10_ofRings P 253 [some (.ref D), some (.int (nI i)), some (.int (nI u)), some (.int (nI n)), some (.int (nI p.1)), some (.int (nI p.2.1)), some (.int (nI p.2.2)), some (.int (nI j)), some (.int (nI (rSz n j))), some (.int (nI (rRs n j))), some (.int (nI (rO1 n j))), some (.int (nI (rO2 n j))), some (.int (nI (rO3 n j))), some (.int (nI (tf true))), some (.int (nI x)), l15] [] w (0, 0) := by
            intro hc
            rw [if_pos hc] at nx
            refine qX10_ofRings_253 ?_
            refine qX10_ofRings_254 ?_
            refine qX10_ofRings_258 ?_
            refine qX10_ofRings_260 ?_
            refine qX10_ofRings_262 ?_
            show wp G (d + 2) mX10_ofRings P 264 _ (.int (nI 1) :: _) w (0, 0)
            refine nX10_ofRings_264 (by omega) (fun h264 => by exfalso; omega) (fun h264 => ?_)
            refine qX10_ofRings_267 ?_
            refine qX10_ofRings_268 ?_
            first | refine nX10_ofRings_272 ?_ | refine qX10_ofRings_272 ?_
            refine qX10_ofRings_273 ?_
            refine qX10_ofRings_275 ?_
            refine nX10_ofRings_277 (by omega) (fun h277 => by exfalso; omega) (fun h277 => ?_)
            refine qX10_ofRings_280 ?_
            refine qX10_ofRings_282 ?_
            refine qX10_ofRings_287 ?_
            refine qX10_ofRings_289 ?_
            refine nX10_ofRings_291 (by omega) (fun h291 => by exfalso; omega) (fun h291 => ?_)
            refine qX10_ofRings_294 ?_
            refine qX10_ofRings_296 ?_
            refine qX10_ofRings_301 ?_
            first | refine nX10_ofRings_303 ?_ | refine qX10_ofRings_303 ?_
            refine qX10_ofRings_306 ?_
            exact nx _ _ _ _ _ _ _ _
          show wp G (d + 2) mX10_ofRings P 232 _ (.int (nI 1) :: []) w (0, 0)
          refine nX10_ofRings_232 (by omega) (fun h232 => by exfalso; omega) (fun h232 => ?_)
          refine qX10_ofRings_235 ?_
          refine nX10_ofRings_237 (by omega) (fun h237 => ?_) (fun h237 => ?_)
          · exact take (Or.inl h237)
          · refine qX10_ofRings_240 ?_
            refine qX10_ofRings_242 ?_
            first | refine nX10_ofRings_244 ?_ | refine qX10_ofRings_244 ?_
            refine qX10_ofRings_245 ?_
            refine qX10_ofRings_247 ?_
            first | refine nX10_ofRings_249 ?_ | refine qX10_ofRings_249 ?_
            refine nX10_ofRings_250 (by omega) (by omega) (fun h250 => ?_) (fun h250 => ?_)
            · rw [if_neg (fun z => by omega)] at nx
              refine qX10_ofRings_257 ?_
              refine qX10_ofRings_258 ?_
              refine qX10_ofRings_260 ?_
              refine qX10_ofRings_262 ?_
              show wp G (d + 2) mX10_ofRings P 264 _ (.int (nI 1) :: _) w (0, 0)
              refine nX10_ofRings_264 (by omega) (fun h264 => by exfalso; omega) (fun h264 => ?_)
              refine qX10_ofRings_267 ?_
              refine qX10_ofRings_268 ?_
              first | refine nX10_ofRings_272 ?_ | refine qX10_ofRings_272 ?_
              refine qX10_ofRings_273 ?_
              refine qX10_ofRings_275 ?_
              refine nX10_ofRings_277 (by omega) (fun h277 => ?_) (fun h277 => by exfalso; omega)
              refine qX10_ofRings_285 ?_
              refine qX10_ofRings_287 ?_
              refine qX10_ofRings_289 ?_
              refine nX10_ofRings_291 (by omega) (fun h291 => ?_) (fun h291 => by exfalso; omega)
              refine qX10_ofRings_299 ?_
              refine qX10_ofRings_301 ?_
              first | refine nX10_ofRings_303 ?_ | refine qX10_ofRings_303 ?_
              refine qX10_ofRings_306 ?_
              exact nx _ _ _ _ _ _ _ _
            · exact take (Or.inr h250)
      -- from the places on
      have pl : ∀ (b : Bool) (l13 l14 l15 : Option Value), b = rIs n j → wp G (d + 2) mX10_ofRings P 151 [some (.ref D), some (.int (nI i)), some (.int (nI u)), some (.int (nI n)), some (.int (nI p.1)), some (.int (nI p.2.1)), some (.int (nI p.2.2)), some (.int (nI j)), some (.int (nI (rSz n j))), some (.int (nI (rRs n j))), some (.int (nI (rO1 n j))), some (.int (nI (rO2 n j))), some (.int (nI (rO3 n j))), l13, l14, l15] [.int (nI (tf b))] w (0, 0) := by
        intro b l13 l14 l15 hbe
        rw [hbe]
        have s3 : rSz n j = 1 ∨ rSz n j = 2 ∨ rSz n j = 3 := by
          unfold rSz
          split
          · exact Or.inl rfl
          · split
            · exact Or.inr (Or.inl rfl)
            · exact Or.inr (Or.inr rfl)
        have x11 := ix _ _ c1 c1
        have x12 := ix _ _ c1 c2
        have x21 := ix _ _ c2 c1
        have x23 := ix _ _ c2 c3
        have x31 := ix _ _ c3 c1
        have f2 := fun x => fin x
        unfold slP2 rPl at f2
        refine qX10_ofRings_151 ?_
        refine qX10_ofRings_153 ?_
        refine qX10_ofRings_155 ?_
        rcases s3 with e | e | e
        · rw [e] at f2 ⊢
          refine nX10_ofRings_156 (by omega) (by omega) (fun h156 => by exfalso; omega) (fun h156 => ?_)
          refine qX10_ofRings_159 ?_
          refine qX10_ofRings_160 ?_
          refine qX10_ofRings_161 ?_
          refine qX10_ofRings_163 ?_
          refine qX10_ofRings_165 (by assumption) (Nat.le_of_ble_eq_true rfl) (at_ c1 c1 ?_)
          refine qX10_ofRings_168 ?_
          refine f2 _ (by simp [sumA]) (by omega) _ _
        · rw [e] at f2 ⊢
          refine nX10_ofRings_156 (by omega) (by omega) (fun h156 => ?_) (fun h156 => by exfalso; omega)
          refine qX10_ofRings_171 ?_
          refine qX10_ofRings_173 ?_
          refine nX10_ofRings_174 (by omega) (by omega) (fun h174 => by exfalso; omega) (fun h174 => ?_)
          refine qX10_ofRings_177 ?_
          refine qX10_ofRings_178 ?_
          refine qX10_ofRings_179 ?_
          refine qX10_ofRings_181 ?_
          refine qX10_ofRings_183 (by assumption) (Nat.le_of_ble_eq_true rfl) (at_ c1 c2 ?_)
          refine qX10_ofRings_186 ?_
          refine qX10_ofRings_187 ?_
          refine qX10_ofRings_188 ?_
          refine qX10_ofRings_190 ?_
          refine qX10_ofRings_192 (by assumption) (Nat.le_of_ble_eq_true rfl) (at_ c2 c1 ?_)
          first | refine nX10_ofRings_195 ?_ | refine qX10_ofRings_195 ?_
          refine qX10_ofRings_196 ?_
          refine f2 _ (by simp [sumA]) (by omega) _ _
        · rw [e] at f2 ⊢
          refine nX10_ofRings_156 (by omega) (by omega) (fun h156 => ?_) (fun h156 => by exfalso; omega)
          refine qX10_ofRings_171 ?_
          refine qX10_ofRings_173 ?_
          refine nX10_ofRings_174 (by omega) (by omega) (fun h174 => ?_) (fun h174 => by exfalso; omega)
          refine qX10_ofRings_199 ?_
          refine qX10_ofRings_200 ?_
          refine qX10_ofRings_201 ?_
          refine qX10_ofRings_203 ?_
          refine qX10_ofRings_205 (by assumption) (Nat.le_of_ble_eq_true rfl) (at_ c1 c2 ?_)
          refine qX10_ofRings_208 ?_
          refine qX10_ofRings_209 ?_
          refine qX10_ofRings_210 ?_
          refine qX10_ofRings_212 ?_
          refine qX10_ofRings_214 (by assumption) (Nat.le_of_ble_eq_true rfl) (at_ c2 c3 ?_)
          first | refine nX10_ofRings_217 ?_ | refine qX10_ofRings_217 ?_
          refine qX10_ofRings_218 ?_
          refine qX10_ofRings_219 ?_
          refine qX10_ofRings_220 ?_
          refine qX10_ofRings_222 ?_
          refine qX10_ofRings_224 (by assumption) (Nat.le_of_ble_eq_true rfl) (at_ c3 c1 ?_)
          first | refine nX10_ofRings_227 ?_ | refine qX10_ofRings_227 ?_
          refine f2 _ (by simp [sumA]; omega) (by omega) _ _
      -- the digits
      have dg : ∀ l9 l10 l11 l12 l13 l14 l15 : Option Value, wp G (d + 2) mX10_ofRings P 89 [some (.ref D), some (.int (nI i)), some (.int (nI u)), some (.int (nI n)), some (.int (nI p.1)), some (.int (nI p.2.1)), some (.int (nI p.2.2)), some (.int (nI j)), some (.int (nI (rSz n j))), l9, l10, l11, l12, l13, l14, l15] [.int (nI (rRs n j))] w (0, 0) := by
        intro l9 l10 l11 l12 l13 l14 l15
        have hdv : rRs n j / n ≤ rRs n j := Nat.div_le_self _ _
        have k1 : rO1 n j = rRs n j % n := rfl
        have k2 : rO2 n j = rRs n j / n % n := rfl
        have k3 : rO3 n j = rRs n j / n / n := rfl
        refine qX10_ofRings_89 ?_
        refine qX10_ofRings_91 ?_
        refine qX10_ofRings_93 ?_
        refine nX10_ofRings_94 (by omega) (by omega) (by omega) ?_
        refine qX10_ofRings_95 ?_
        refine qX10_ofRings_97 ?_
        refine qX10_ofRings_99 ?_
        refine nX10_ofRings_100 (by omega) (by omega) (by omega) ?_
        refine qX10_ofRings_101 ?_
        refine nX10_ofRings_102 (by omega) (by omega) (by omega) ?_
        refine qX10_ofRings_103 ?_
        refine qX10_ofRings_105 ?_
        refine qX10_ofRings_107 ?_
        refine nX10_ofRings_108 (by omega) (by omega) (by omega) ?_
        refine qX10_ofRings_109 ?_
        refine nX10_ofRings_110 (by omega) (by omega) (by omega) ?_
        refine qX10_ofRings_111 ?_
        rw [← k1, ← k2, ← k3]
        refine qX10_ofRings_113 ?_
        refine qX10_ofRings_115 ?_
        have s3 : rSz n j = 1 ∨ rSz n j = 2 ∨ rSz n j = 3 := by
          unfold rSz
          split
          · exact Or.inl rfl
          · split
            · exact Or.inr (Or.inl rfl)
            · exact Or.inr (Or.inr rfl)
        have tr : rIs n j = true → wp G (d + 2) mX10_ofRings P 146 [some (.ref D), some (.int (nI i)), some (.int (nI u)), some (.int (nI n)), some (.int (nI p.1)), some (.int (nI p.2.1)), some (.int (nI p.2.2)), some (.int (nI j)), some (.int (nI (rSz n j))), some (.int (nI (rRs n j))), some (.int (nI (rO1 n j))), some (.int (nI (rO2 n j))), some (.int (nI (rO3 n j))), l13, l14, l15] [] w (0, 0) := by
          intro hz
          refine qX10_ofRings_146 ?_
          refine qX10_ofRings_147 ?_
          exact pl true _ _ _ hz.symm
        have fa : rIs n j = false → wp G (d + 2) mX10_ofRings P 150 [some (.ref D), some (.int (nI i)), some (.int (nI u)), some (.int (nI n)), some (.int (nI p.1)), some (.int (nI p.2.1)), some (.int (nI p.2.2)), some (.int (nI j)), some (.int (nI (rSz n j))), some (.int (nI (rRs n j))), some (.int (nI (rO1 n j))), some (.int (nI (rO2 n j))), some (.int (nI (rO3 n j))), l13, l14, l15] [] w (0, 0) := by
          intro hz
          refine qX10_ofRings_150 ?_
          exact pl false _ _ _ hz.symm
        unfold rIs at tr fa
        rcases s3 with e | e | e
        · rw [e] at tr fa ⊢
          refine nX10_ofRings_116 (by omega) (by omega) (fun h116 => ?_) (fun h116 => by exfalso; omega)
          exact tr rfl
        · rw [e] at tr fa ⊢
          refine nX10_ofRings_116 (by omega) (by omega) (fun h116 => by exfalso; omega) (fun h116 => ?_)
          refine qX10_ofRings_119 ?_
          refine qX10_ofRings_121 ?_
          refine nX10_ofRings_123 (by omega) (by omega) (fun h123 => ?_) (fun h123 => ?_)
          · refine fa ?_
            simp
            omega
          · refine qX10_ofRings_126 ?_
            refine qX10_ofRings_128 ?_
            refine nX10_ofRings_129 (by omega) (by omega) (fun h129 => ?_) (fun h129 => by exfalso; omega)
            refine tr ?_
            simp [h123]
        · rw [e] at tr fa ⊢
          refine nX10_ofRings_116 (by omega) (by omega) (fun h116 => by exfalso; omega) (fun h116 => ?_)
          refine qX10_ofRings_119 ?_
          refine qX10_ofRings_121 ?_
          refine nX10_ofRings_123 (by omega) (by omega) (fun h123 => ?_) (fun h123 => ?_)
          · refine fa ?_
            simp
            omega
          · refine qX10_ofRings_126 ?_
            refine qX10_ofRings_128 ?_
            refine nX10_ofRings_129 (by omega) (by omega) (fun h129 => by exfalso; omega) (fun h129 => ?_)
            refine qX10_ofRings_132 ?_
            refine qX10_ofRings_134 ?_
            refine nX10_ofRings_136 (by omega) (by omega) (fun h136 => ?_) (fun h136 => ?_)
            · refine fa ?_
              simp [h123]
              omega
            · refine qX10_ofRings_139 ?_
              refine qX10_ofRings_141 ?_
              refine nX10_ofRings_143 (by omega) (by omega) (fun h143 => ?_) (fun h143 => ?_)
              · refine fa ?_
                simp [h143]
              · refine tr ?_
                simp [h123, h136, h143]
      refine qX10_ofRings_18 ?_
      refine qX10_ofRings_20 ?_
      refine qX10_ofRings_21 ?_
      refine qX10_ofRings_22 ?_
      first | refine nX10_ofRings_23 ?_ | refine qX10_ofRings_23 ?_
      first | refine nX10_ofRings_24 ?_ | refine qX10_ofRings_24 ?_
      refine qX10_ofRings_25 ?_
      refine qX10_ofRings_26 ?_
      first | refine nX10_ofRings_27 ?_ | refine qX10_ofRings_27 ?_
      refine qX10_ofRings_28 ?_
      first | refine nX10_ofRings_29 ?_ | refine qX10_ofRings_29 ?_
      first | refine nX10_ofRings_30 ?_ | refine qX10_ofRings_30 ?_
      refine nX10_ofRings_31 (by omega) (by omega) (fun h31 => by exfalso; omega) (fun h31 => ?_)
      refine qX10_ofRings_34 ?_
      refine qX10_ofRings_36 ?_
      refine nX10_ofRings_37 (by omega) (by omega) (fun h37 => ?_) (fun h37 => ?_)
      · refine qX10_ofRings_44 ?_
        refine qX10_ofRings_46 ?_
        refine qX10_ofRings_47 ?_
        refine qX10_ofRings_48 ?_
        first | refine nX10_ofRings_49 ?_ | refine qX10_ofRings_49 ?_
        first | refine nX10_ofRings_50 ?_ | refine qX10_ofRings_50 ?_
        refine nX10_ofRings_51 (by omega) (by omega) (fun h51 => ?_) (fun h51 => ?_)
        · have e : rSz n j = 3 := by unfold rSz; rw [if_neg (by omega), if_neg (by omega)]
          have e2 : rRs n j = j - n - n * n := by unfold rRs; rw [e, if_pos (by decide), if_pos (by decide)]
          rw [e, e2] at dg
          refine qX10_ofRings_58 ?_
          refine qX10_ofRings_59 ?_
          refine qX10_ofRings_61 ?_
          refine qX10_ofRings_63 ?_
          refine qX10_ofRings_65 ?_
          refine nX10_ofRings_66 (by omega) (by omega) (fun h66 => by exfalso; omega) (fun h66 => ?_)
          refine qX10_ofRings_69 ?_
          refine qX10_ofRings_70 ?_
          first | refine nX10_ofRings_74 (by omega) ?_ | refine qX10_ofRings_74 ?_
          refine qX10_ofRings_75 ?_
          refine qX10_ofRings_77 ?_
          refine nX10_ofRings_78 (by omega) (by omega) (fun h78 => by exfalso; omega) (fun h78 => ?_)
          refine qX10_ofRings_81 ?_
          refine qX10_ofRings_82 ?_
          first | refine nX10_ofRings_83 ?_ | refine qX10_ofRings_83 ?_
          refine qX10_ofRings_84 ?_
          first | refine nX10_ofRings_88 (by omega) ?_ | refine qX10_ofRings_88 ?_
          exact dg _ _ _ _ _ _ _
        · have e : rSz n j = 2 := by unfold rSz; rw [if_neg (by omega), if_pos (by omega)]
          have e2 : rRs n j = j - n - 0 := by unfold rRs; rw [e, if_pos (by decide), if_neg (by decide)]
          rw [e, e2] at dg
          refine qX10_ofRings_54 ?_
          refine qX10_ofRings_55 ?_
          refine qX10_ofRings_59 ?_
          refine qX10_ofRings_61 ?_
          refine qX10_ofRings_63 ?_
          refine qX10_ofRings_65 ?_
          refine nX10_ofRings_66 (by omega) (by omega) (fun h66 => by exfalso; omega) (fun h66 => ?_)
          refine qX10_ofRings_69 ?_
          refine qX10_ofRings_70 ?_
          first | refine nX10_ofRings_74 (by omega) ?_ | refine qX10_ofRings_74 ?_
          refine qX10_ofRings_75 ?_
          refine qX10_ofRings_77 ?_
          refine nX10_ofRings_78 (by omega) (by omega) (fun h78 => ?_) (fun h78 => by exfalso; omega)
          refine qX10_ofRings_87 ?_
          first | refine nX10_ofRings_88 (by omega) ?_ | refine qX10_ofRings_88 ?_
          exact dg _ _ _ _ _ _ _
      · have e : rSz n j = 1 := by unfold rSz; rw [if_pos (by omega)]
        have e2 : rRs n j = j - 0 - 0 := by unfold rRs; rw [e, if_neg (by decide), if_neg (by decide)]
        rw [e, e2] at dg
        refine qX10_ofRings_40 ?_
        refine qX10_ofRings_41 ?_
        refine qX10_ofRings_59 ?_
        refine qX10_ofRings_61 ?_
        refine qX10_ofRings_63 ?_
        refine qX10_ofRings_65 ?_
        refine nX10_ofRings_66 (by omega) (by omega) (fun h66 => ?_) (fun h66 => by exfalso; omega)
        refine qX10_ofRings_73 ?_
        first | refine nX10_ofRings_74 (by omega) ?_ | refine qX10_ofRings_74 ?_
        refine qX10_ofRings_75 ?_
        refine qX10_ofRings_77 ?_
        refine nX10_ofRings_78 (by omega) (by omega) (fun h78 => ?_) (fun h78 => by exfalso; omega)
        refine qX10_ofRings_87 ?_
        first | refine nX10_ofRings_88 (by omega) ?_ | refine qX10_ofRings_88 ?_
        exact dg _ _ _ _ _ _ _
  exact L (n + n * n + n * n * n) 0 (0, 0, 0) none none none none none none none none (by omega) rfl ⟨Nat.le_refl 0, Nat.zero_le _, Nat.zero_le _⟩
theorem m_ring {x y : Int32} (h : mdAt G w D s) (ho : okS s) (k : P (some (.int (spRing s x y))) w) : wpM G (d + 4) yX10_ring (0, 0) [.ref D, .int x, .int y] w P := by
  obtain ⟨⟨v, o1, o2, o3⟩, ⟨st, p1, p2⟩, _⟩ := h
  have hok := p2.ok ho.1
  unfold spRing at k
  refine eX10_ring ?_
  refine qX10_ring_0 ?_
  refine qX10_ring_1 (Nat.le_of_ble_eq_true rfl) (m_isArray (fun i hi hx => ?_) (fun hx => ?_))
  · subst hx
    obtain ⟨e1, e2, e3⟩ := p2 i hi
    have e1 : rR st i = _ := e1
    have e2 : rC st i = _ := e2
    have e3 : ∀ q, q < (lA s i).1 * (lA s i).2.1 → rE st i q = (lA s i).2.2 q := e3
    rw [nN_nI (by omega), cIf_t (inB_nI hi)] at k
    refine nX10_ring_4 (by omega) (fun h4 => ?_) (fun h4 => by exfalso; omega)
    refine qX10_ring_9 ?_
    refine qX10_ring_10 ?_
    refine qX10_ring_11 ?_
    refine qX10_ring_12 (Nat.le_of_ble_eq_true rfl) (m_within0 (by decide) (fun u hu hq => ?_) (fun hno => ?_))
    · subst hq
      have hu : u < 3 := hu
      rw [cIf_t (inB_nI hu)] at k
      refine nX10_ring_15 (by omega) (fun h15 => ?_) (fun h15 => by exfalso; omega)
      refine qX10_ring_21 ?_
      refine qX10_ring_22 ?_
      refine qX10_ring_23 (by assumption) (Nat.le_of_ble_eq_true rfl) (m_isSquare o1 p1 hi (hok i hi) (fun hq => ?_) (fun hq => ?_))
      · have hq2 : (lA s i).1 = (lA s i).2.1 := by rw [← e1, ← e2]; exact hq
        rw [← hq2] at e3
        rw [if_pos hq2, ← rgN_cong e3, ← e1] at k
        refine nX10_ring_26 (by omega) (fun h26 => by exfalso; omega) (fun h26 => ?_)
        refine qX10_ring_29 ?_
        refine qX10_ring_30 ?_
        refine qX10_ring_31 ?_
        refine qX10_ring_32 (by assumption) (Nat.le_of_ble_eq_true rfl) (m_ofRings hu o1 p1 hi (hok i hi) hq ?_)
        refine qX10_ring_35 ?_
        refine qX10_ring_40 ?_
        rcases (show u = 0 ∨ u = 1 ∨ u = 2 by omega) with rfl | rfl | rfl
        · rw [cIf_t rfl] at k
          exact k
        · rw [cIf_f (by decide), cIf_t rfl] at k
          exact k
        · rw [cIf_f (by decide), cIf_f (by decide)] at k
          exact k
      · rw [if_neg (fun z => hq (by rw [e1, e2]; exact z))] at k
        refine nX10_ring_26 (by omega) (fun h26 => ?_) (fun h26 => by exfalso; omega)
        refine qX10_ring_38 ?_
        refine qX10_ring_40 ?_
        exact k
    · rw [cIf_f hno] at k
      refine nX10_ring_15 (by omega) (fun h15 => by exfalso; omega) (fun h15 => ?_)
      refine qX10_ring_18 ?_
      refine qX10_ring_20 ?_
      exact k
  · rw [cIf_f hx] at k
    refine nX10_ring_4 (by omega) (fun h4 => by exfalso; omega) (fun h4 => ?_)
    refine qX10_ring_7 ?_
    refine qX10_ring_8 ?_
    exact k
end REFR
