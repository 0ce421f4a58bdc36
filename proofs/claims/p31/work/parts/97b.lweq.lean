/-! what the class answers, by numbers -/
section LEQ
variable {s : xS} {a : Nat}
theorem oA4 (ho : okS s) (ha : a < 3) : okD (lA s a).1 (lA s a).2.1 ∧ (∀ k, k < (lA s a).1 * (lA s a).2.1 → (lA s a).2.2 k ≤ 999) ∧ (lA s a).1 ≤ 4 ∧ (lA s a).2.1 ≤ 4 ∧ (lA s a).1 * (lA s a).2.1 ≤ 12 := ⟨(ho.1 a ha).1, (ho.1 a ha).2, (ho.1 a ha).1.2.1, (ho.1 a ha).1.2.2.2.1, (ho.1 a ha).1.2.2.2.2⟩
theorem e_entry {i j : Nat} (ho : okS s) (ha : a < 3) (hi : i < (lA s a).1) (hj : j < (lA s a).2.1) : spEntry s (nI a) (nI i) (nI j) = nI ((lA s a).2.2 (i * (lA s a).2.1 + j)) := by
  obtain ⟨h1, h2, h3, h4, h5⟩ := oA4 ho ha
  unfold spEntry
  simp only [nN_nI (show a < 2147483648 by omega), nN_nI (show i < 2147483648 by omega), nN_nI (show j < 2147483648 by omega)]
  rw [cIf_t ⟨inB_nI ha, inB_nI hi, inB_nI hj⟩]
theorem e_arrayOf (ho : okS s) (ha : a < 3) : spArrayOf s (nI a) (nI 0) = nI (lA s a).1 ∧ spArrayOf s (nI a) (nI 1) = nI (lA s a).2.1 ∧ spArrayOf s (nI a) (nI 2) = nI (mxF (lA s a).2.2 ((lA s a).1 * (lA s a).2.1)) ∧ spArrayOf s (nI a) (nI 3) = nI (mnF (lA s a).2.2 ((lA s a).1 * (lA s a).2.1)) ∧ spArrayOf s (nI a) (nI 4) = nI (unlE (lA s a).2.2 ((lA s a).1 * (lA s a).2.1)) := by
  unfold spArrayOf
  simp only [nN_nI (show a < 2147483648 by omega), cIf_t (inB_nI ha)]
  refine ⟨?_, ?_, ?_, ?_, ?_⟩
  · rw [cIf_t trivial]
  · rw [cIf_f (by decide), cIf_t trivial]
  · rw [cIf_f (by decide), cIf_f (by decide), cIf_t trivial]
  · rw [cIf_f (by decide), cIf_f (by decide), cIf_f (by decide), cIf_t trivial]
  · rw [cIf_f (by decide), cIf_f (by decide), cIf_f (by decide), cIf_f (by decide), cIf_t trivial]
theorem e_count : spCount s (nI 0) = nI (szS (lA s) 3) := by
  unfold spCount
  rw [cIf_t rfl]
theorem e_perm {r c : Nat} (ho : okS s) (ha : a < 3) (h1 : 1 ≤ r) (hr : r < 2 ^ (lA s a).1) (hc : c < 2 ^ (lA s a).2.1) (hb : bcN r = bcN c) : spPermanent s (nI a) (nI r) (nI c) (nI 0) = nI (lsN (wysL (lA s a).1 (lA s a).2.1 (lA s a).2.2 r c)) ∧ spPermanent s (nI a) (nI r) (nI c) (nI 1) = nI (wlN (wysL (lA s a).1 (lA s a).2.1 (lA s a).2.2 r c)) := by
  obtain ⟨_, h2, h3, h4, h5⟩ := oA4 ho ha
  have p1 : 2 ^ (lA s a).1 ≤ 2 ^ 4 := Nat.pow_le_pow_right (by decide) h3
  have p2 : 2 ^ (lA s a).2.1 ≤ 2 ^ 4 := Nat.pow_le_pow_right (by decide) h4
  unfold spPermanent
  simp only [nN_nI (show a < 2147483648 by omega), nN_nI (show r < 2147483648 by omega), nN_nI (show c < 2147483648 by omega), cIf_t (inB_nI ha)]
  have hp : isPt (lA s a).1 (lA s a).2.1 (nI r) (nI c) := ⟨r, c, h1, hr, hc, rfl, rfl, hb⟩
  refine ⟨?_, ?_⟩
  · rw [cIf_t ⟨hp, inB_nI (by decide)⟩, cIf_t trivial]
  · rw [cIf_t ⟨hp, inB_nI (by decide)⟩, cIf_f (by decide), cIf_t trivial]
theorem e_byParts (ho : okS s) (ha : a < 3) : spByParts s (nI a) (nI 0) = nI (ptN (lA s a).1 (lA s a).2.1 (lA s a).2.2).1 ∧ spByParts s (nI a) (nI 1) = nI (ptN (lA s a).1 (lA s a).2.1 (lA s a).2.2).2.1 ∧ spByParts s (nI a) (nI 2) = nI (ptN (lA s a).1 (lA s a).2.1 (lA s a).2.2).2.2.1 ∧ spByParts s (nI a) (nI 3) = nI (ptN (lA s a).1 (lA s a).2.1 (lA s a).2.2).2.2.2 := by
  unfold spByParts
  simp only [nN_nI (show a < 2147483648 by omega), cIf_t (inB_nI ha)]
  refine ⟨?_, ?_, ?_, ?_⟩
  · rw [cIf_t (inB_nI (by decide)), cIf_t trivial]
  · rw [cIf_t (inB_nI (by decide)), cIf_f (by decide), cIf_t trivial]
  · rw [cIf_t (inB_nI (by decide)), cIf_f (by decide), cIf_f (by decide), cIf_t trivial]
  · rw [cIf_t (inB_nI (by decide)), cIf_f (by decide), cIf_f (by decide), cIf_f (by decide)]
theorem p12 (ho : okS s) (ha : a < 3) : 2 ^ ((lA s a).1 * (lA s a).2.1) ≤ 4096 := by
  obtain ⟨_, h2, h3, h4, h5⟩ := oA4 ho ha
  exact Nat.pow_le_pow_right (n := 2) (by decide) h5
theorem e_canTouch {S : Nat} (ho : okS s) (ha : a < 3) (hS : S < 2 ^ ((lA s a).1 * (lA s a).2.1)) : spCanTouch s (nI a) (nI S) = nI (bN (!untN (lA s a).1 (lA s a).2.1 (lA s a).2.2 S)) := by
  have hp := p12 ho ha
  unfold spCanTouch
  simp only [nN_nI (show a < 2147483648 by omega), nN_nI (show S < 2147483648 by omega), cIf_t (inB_nI ha), cIf_t (inB_nI hS)]
  cases untN (lA s a).1 (lA s a).2.1 (lA s a).2.2 S <;> rfl
theorem e_byCovers (ha : a < 3) : spByCovers s (nI a) (nI 0) = nI (ffN (untN (lA s a).1 (lA s a).2.1 (lA s a).2.2) ((lA s a).1 * (lA s a).2.1) ((lA s a).1 * (lA s a).2.1)).1 ∧ spByCovers s (nI a) (nI 1) = nI (2 ^ ((lA s a).1 * (lA s a).2.1) - cnB (untN (lA s a).1 (lA s a).2.1 (lA s a).2.2) (2 ^ ((lA s a).1 * (lA s a).2.1))) ∧ spByCovers s (nI a) (nI 2) = nI (grS (untN (lA s a).1 (lA s a).2.1 (lA s a).2.2) (2 ^ ((lA s a).1 * (lA s a).2.1))) := by
  unfold spByCovers
  simp only [nN_nI (show a < 2147483648 by omega), cIf_t (inB_nI ha)]
  refine ⟨?_, ?_, ?_⟩
  · rw [cIf_t (inB_nI (by decide)), cIf_t trivial]
  · rw [cIf_t (inB_nI (by decide)), cIf_f (by decide), cIf_t trivial]
  · rw [cIf_t (inB_nI (by decide)), cIf_f (by decide), cIf_f (by decide)]
theorem e_cover {k : Nat} (ho : okS s) (ha : a < 3) (hk : k < (lA s a).1 * (lA s a).2.1) : spCover s (nI a) (nI k) = nI (((ffN (untN (lA s a).1 (lA s a).2.1 (lA s a).2.2) ((lA s a).1 * (lA s a).2.1) ((lA s a).1 * (lA s a).2.1)).2.getD []).getD k 0) := by
  obtain ⟨_, h2, h3, h4, h5⟩ := oA4 ho ha
  unfold spCover
  simp only [nN_nI (show a < 2147483648 by omega), nN_nI (show k < 2147483648 by omega)]
  rw [cIf_t ⟨inB_nI ha, inB_nI hk⟩]
theorem e_cone {c o : Nat} (ho : okS s) (ha : a < 3) (hc : c < (lA s a).2.1) (hoo : o < 2 ^ (lA s a).2.1) (hb : o.testBit c = false) : spCone s (nI a) (nI c) (nI o) (nI 0) = nI (if msdN (lA s a).1 (lA s a).2.1 (lA s a).2.2 c o = 0 then 1 else 0) ∧ spCone s (nI a) (nI c) (nI o) (nI 1) = nI (msdN (lA s a).1 (lA s a).2.1 (lA s a).2.2 c o) := by
  obtain ⟨_, h2, h3, h4, h5⟩ := oA4 ho ha
  have p2 : 2 ^ (lA s a).2.1 ≤ 2 ^ 4 := Nat.pow_le_pow_right (by decide) h4
  unfold spCone
  simp only [nN_nI (show a < 2147483648 by omega), nN_nI (show c < 2147483648 by omega), nN_nI (show o < 2147483648 by omega)]
  refine ⟨?_, ?_⟩
  · rw [cIf_t ⟨inB_nI ha, inB_nI hc⟩, cIf_t ⟨⟨inB_nI hoo, hb⟩, inB_nI (by decide)⟩, cIf_f (by decide)]
  · rw [cIf_t ⟨inB_nI ha, inB_nI hc⟩, cIf_t ⟨⟨inB_nI hoo, hb⟩, inB_nI (by decide)⟩, cIf_t trivial]
theorem e_factor {c q : Nat} (ho : okS s) (ha : a < 3) (hc : c < (lA s a).2.1) (hq : q < (lA s a).2.1) : spFactor s (nI a) (nI c) (nI q) = if c = q then -2 else iZ (fcZ (lA s a).1 (lA s a).2.1 (lA s a).2.2 c q) + nI 1000 := by
  obtain ⟨_, h2, h3, h4, h5⟩ := oA4 ho ha
  unfold spFactor
  simp only [nN_nI (show a < 2147483648 by omega), nN_nI (show c < 2147483648 by omega), nN_nI (show q < 2147483648 by omega)]
  rw [cIf_t ⟨inB_nI ha, inB_nI hc, inB_nI hq⟩]
  by_cases h : c = q
  · rw [if_pos h, cIf_t (by rw [h])]
  · rw [if_neg h, cIf_f (by rw [nI_eq (by omega) (by omega)]; exact h)]
theorem e_byCone (b : Bool) (ha : a < 3) : spByCone s (nI a) b (nI 0) = nI (bcN (nlN b (lA s a).1 (lA s a).2.1 (lA s a).2.2)) ∧ spByCone s (nI a) b (nI 1) = nI (nlN b (lA s a).1 (lA s a).2.1 (lA s a).2.2) := by
  unfold spByCone
  simp only [nN_nI (show a < 2147483648 by omega), cIf_t (inB_nI ha)]
  refine ⟨?_, ?_⟩
  · rw [cIf_t (inB_nI (by decide)), cIf_f (by decide)]
  · rw [cIf_t (inB_nI (by decide)), cIf_t trivial]
theorem e_ringN (ha : a < 3) (hn : ¬ (lA s a).1 = (lA s a).2.1) : spRing s (nI a) (nI 0) = -5 := by
  unfold spRing
  simp only [nN_nI (show a < 2147483648 by omega), cIf_t (inB_nI ha)]
  rw [cIf_t (inB_nI (by decide)), if_neg hn]
theorem e_ring (ha : a < 3) (hn : (lA s a).1 = (lA s a).2.1) : spRing s (nI a) (nI 0) = nI (rgN (lA s a).1 (lA s a).2.2).1 ∧ spRing s (nI a) (nI 1) = nI (rgN (lA s a).1 (lA s a).2.2).2.1 ∧ spRing s (nI a) (nI 2) = nI (rgN (lA s a).1 (lA s a).2.2).2.2 := by
  unfold spRing
  simp only [nN_nI (show a < 2147483648 by omega), cIf_t (inB_nI ha)]
  refine ⟨?_, ?_, ?_⟩
  · rw [cIf_t (inB_nI (by decide)), if_pos hn, cIf_t trivial]
  · rw [cIf_t (inB_nI (by decide)), if_pos hn, cIf_f (by decide), cIf_t trivial]
  · rw [cIf_t (inB_nI (by decide)), if_pos hn, cIf_f (by decide), cIf_f (by decide)]
theorem e_ifSet {i j v u : Nat} (ho : okS s) (ha : a < 3) (hi : i < (lA s a).1) (hj : j < (lA s a).2.1) (hv : v < 1000) (hu : u < 4) : spIfSet s (nI a) (nI i) (nI j) (nI v) (nI u) = nI (rkN u (lA s a).1 (lA s a).2.1 (updN (lA s a).2.2 (i * (lA s a).2.1 + j) v)) := by
  obtain ⟨_, h2, h3, h4, h5⟩ := oA4 ho ha
  unfold spIfSet
  simp only [nN_nI (show a < 2147483648 by omega), nN_nI (show i < 2147483648 by omega), nN_nI (show j < 2147483648 by omega), nN_nI (show v < 2147483648 by omega), nN_nI (show u < 2147483648 by omega)]
  rw [cIf_t ⟨inB_nI ha, inB_nI hi, inB_nI hj⟩, cIf_t ⟨inB_nI hv, inB_nI hu⟩]
theorem e_bestZero (ha : a < 3) : spBestZero s (nI a) = nI (bzF (lA s a).1 (lA s a).2.1 (lA s a).2.2 ((lA s a).1 * (lA s a).2.1)).1 := by
  unfold spBestZero
  simp only [nN_nI (show a < 2147483648 by omega)]
  rw [cIf_t (inB_nI ha)]
theorem e_set {i j v : Nat} (ho : okS s) (ha : a < 3) (hi : i < (lA s a).1) (hj : j < (lA s a).2.1) (hv : v < 1000) : spSet s (nI a) (nI i) (nI j) (nI v) = (nI ((lA s a).2.2 (i * (lA s a).2.1 + j)), upS (remS s) a ((lA s a).1, (lA s a).2.1, updN (lA s a).2.2 (i * (lA s a).2.1 + j) v)) := by
  obtain ⟨_, h2, h3, h4, h5⟩ := oA4 ho ha
  unfold spSet
  simp only [nN_nI (show a < 2147483648 by omega), nN_nI (show i < 2147483648 by omega), nN_nI (show j < 2147483648 by omega), nN_nI (show v < 2147483648 by omega)]
  rw [cIf_t ⟨inB_nI ha, inB_nI hi, inB_nI hj⟩, cIf_t (inB_nI hv)]
theorem e_drop {z : Nat} (b : Bool) (ho : okS s) (ha : a < 3) (hz : z < lnN b (lA s a).1 (lA s a).2.1) : spDrop s (nI a) b (nI z) = if lnN b (lA s a).1 (lA s a).2.1 = 1 then (-5, s) else (nI (lnN b ((lA s a).1 - 1) (lA s a).1 * lnN b (lA s a).2.1 ((lA s a).2.1 - 1)), upS (remS s) a (lnN b ((lA s a).1 - 1) (lA s a).1, lnN b (lA s a).2.1 ((lA s a).2.1 - 1), fun k => (lA s a).2.2 (rmN b (lA s a).2.1 z k))) := by
  obtain ⟨_, h2, h3, h4, h5⟩ := oA4 ho ha
  have hl : lnN b (lA s a).1 (lA s a).2.1 ≤ 4 := by cases b <;> assumption
  unfold spDrop
  simp only [nN_nI (show a < 2147483648 by omega), nN_nI (show z < 2147483648 by omega)]
  rw [cIf_t ⟨inB_nI ha, inB_nI hz⟩]
theorem e_exchange {z o : Nat} (b : Bool) (ho : okS s) (ha : a < 3) (hz : z < lnN b (lA s a).1 (lA s a).2.1) (hoo : o < lnN b (lA s a).1 (lA s a).2.1) : spExchange s (nI a) b (nI z) (nI o) = if z = o then (-2, s) else (nI (tf (unL b (lA s a).2.1 z o (lA s a).2.2 (lnN (!b) (lA s a).1 (lA s a).2.1))), upS (remS s) a ((lA s a).1, (lA s a).2.1, swL b (lA s a).2.1 z o (lA s a).2.2)) := by
  obtain ⟨_, h2, h3, h4, h5⟩ := oA4 ho ha
  have hl : lnN b (lA s a).1 (lA s a).2.1 ≤ 4 := by cases b <;> assumption
  unfold spExchange
  simp only [nN_nI (show a < 2147483648 by omega), nN_nI (show z < 2147483648 by omega), nN_nI (show o < 2147483648 by omega)]
  rw [cIf_t ⟨inB_nI ha, inB_nI hz, inB_nI hoo⟩]
  by_cases h : z = o
  · rw [if_pos h, cIf_t (by rw [h])]
  · rw [if_neg h, cIf_f (by rw [nI_eq (by omega) (by omega)]; exact h)]
theorem e_turn (ha : a < 3) : spTurn s (nI a) = (nI (lA s a).2.1, upS (remS s) a ((lA s a).2.1, (lA s a).1, tuN (lA s a).1 (lA s a).2.1 (lA s a).2.2)) := by
  unfold spTurn
  simp only [nN_nI (show a < 2147483648 by omega)]
  rw [cIf_t (inB_nI ha)]
theorem e_close (ha : a < 3) : spClose s (nI a) = if (lA s a).1 = (lA s a).2.1 then (nI (unlN (fwB (lA s a).1 (lA s a).1 (lA s a).2.2) (lA s a).2.2 ((lA s a).1 * (lA s a).1)), upS (remS s) a ((lA s a).1, (lA s a).1, fwB (lA s a).1 (lA s a).1 (lA s a).2.2)) else (-5, s) := by
  unfold spClose
  simp only [nN_nI (show a < 2147483648 by omega)]
  rw [cIf_t (inB_nI ha)]
theorem e_product {b c : Nat} (ha : a < 3) (hb : b < 3) (hc : c < 3) : spProduct s (nI a) (nI b) (nI c) = if (lA s a).2.1 = (lA s b).1 then (if 12 < (lA s a).1 * (lA s b).2.1 ∨ 999 < mxF (prN (lA s a).2.1 (lA s b).2.1 (lA s a).2.2 (lA s b).2.2) ((lA s a).1 * (lA s b).2.1) then (-4, s) else (nI ((lA s a).1 * (lA s b).2.1), upS (remS s) c ((lA s a).1, (lA s b).2.1, prN (lA s a).2.1 (lA s b).2.1 (lA s a).2.2 (lA s b).2.2))) else (-5, s) := by
  unfold spProduct
  simp only [nN_nI (show a < 2147483648 by omega), nN_nI (show b < 2147483648 by omega), nN_nI (show c < 2147483648 by omega)]
  rw [cIf_t ⟨inB_nI ha, inB_nI hb, inB_nI hc⟩]
theorem e_raise {z : Nat} {v : Int} (b : Bool) (ho : okS s) (ha : a < 3) (hz : z < lnN b (lA s a).1 (lA s a).2.1) (hv : -999 ≤ v ∧ v ≤ 999) : (okL b (lA s a).1 (lA s a).2.1 z v (lA s a).2.2 → spRaise s (nI a) b (nI z) (iZ v) = (nI (mxF (adL b (lA s a).2.1 z v (lA s a).2.2) ((lA s a).1 * (lA s a).2.1)), upS (remS s) a ((lA s a).1, (lA s a).2.1, adL b (lA s a).2.1 z v (lA s a).2.2))) ∧ (¬ okL b (lA s a).1 (lA s a).2.1 z v (lA s a).2.2 → spRaise s (nI a) b (nI z) (iZ v) = (-5, s)) := by
  obtain ⟨_, h2, h3, h4, h5⟩ := oA4 ho ha
  have hl : lnN b (lA s a).1 (lA s a).2.1 ≤ 4 := by cases b <;> assumption
  unfold spRaise
  simp only [nN_nI (show a < 2147483648 by omega), nN_nI (show z < 2147483648 by omega), iZ_T (show -2147483648 ≤ v by omega) (show v < 2147483648 by omega)]
  refine ⟨fun hk => ?_, fun hk => ?_⟩
  · rw [cIf_t ⟨inB_nI ha, inB_nI hz⟩, cIf_t hv, cIf_t hk]
  · rw [cIf_t ⟨inB_nI ha, inB_nI hz⟩, cIf_t hv, cIf_f hk]
end LEQ
