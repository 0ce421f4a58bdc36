/-- the number of an int -/
def nN (x : Int32) : Nat := x.toInt.toNat
theorem nN_nI {i : Nat} (h : i < 2147483648) : nN (nI i) = i := by
  unfold nN
  rw [nI_Z]
  unfold iZ
  rw [Int32.toInt_ofInt_of_le (by omega) (by omega)]
  omega
theorem inB_nN {x : Int32} {n : Nat} (hn : n < 2147483648) (h : inB x n) : nN x < n ∧ x = nI (nN x) := by
  obtain ⟨i, hi, rfl⟩ := h
  rw [nN_nI (by omega)]
  exact ⟨hi, rfl⟩
section CALLS2
variable {G : sG} {d : Nat} {P : sQ} {w : sW} {B : Nat} {s : xS}
/-- the grid of an array -/
theorem clG (h : clAt G w B s) (ho : okS s) {i : Nat} (hi : i < 3) : w.1 (B + 1) = ob 6 [.ref (B + 1 + 1)] ∧ (∃ f, w.1 (B + 1 + 1) = aQ G 4 3 f ∧ f i = some (B + 1 + 2 + 2 * i)) ∧ ∃ a, gAt G w (B + 1 + 2 + 2 * i) (B + 1 + 2 + 2 * i + 1) (lA s i).1 (lA s i).2.1 a ∧ okD (lA s i).1 (lA s i).2.1 ∧ (∀ k, k < (lA s i).1 * (lA s i).2.1 → a k ≤ 999) ∧ ∀ k, k < (lA s i).1 * (lA s i).2.1 → a k = (lA s i).2.2 k := by
  obtain ⟨h1, ⟨σ, ⟨f, h2, h3, h4, h5⟩, h2e⟩, _⟩ := h
  obtain ⟨e1, e2, e3⟩ := h2e i hi
  have h6 := h5 i hi
  obtain ⟨o1, o2⟩ := ho.1 i hi
  refine ⟨h2, ⟨f, h3, h4 i hi⟩, (σ i).2.2, ?_, o1, fun k hk => by rw [e3 k hk]; exact o2 k hk, e3⟩
  rw [← e1, ← e2]
  exact h6
noncomputable def spEntry (s : xS) (x y z : Int32) : Int32 := cIf (inB x 3 ∧ inB y (lA s (nN x)).1 ∧ inB z (lA s (nN x)).2.1) (nI ((lA s (nN x)).2.2 (nN y * (lA s (nN x)).2.1 + nN z))) (-1)
theorem t_entry {x y z : Int32} (h : clAt G w B s) (ho : okS s) (k : P (some (.int (spEntry s x y z))) w) : wpM G (d + 3) yX9_entry (0, 0) [.ref B, .int x, .int y, .int z] w P := by
  have h0 := h.1
  unfold clO at h0
  unfold spEntry at k
  refine eX9_entry ?_
  refine qX9_entry_0 ?_
  refine qX9_entry_1 (Nat.le_of_ble_eq_true rfl) (t_isArray (fun i hi hx => ?_) (fun hx => ?_))
  · subst hx
    obtain ⟨g1, ⟨f, g2, g3⟩, a, g4, g5, g6, g7⟩ := clG h ho hi
    rw [nN_nI (by omega)] at k
    refine nX9_entry_4 (by omega) (fun h4 => by exfalso; omega) (fun h4 => ?_)
    refine qX9_entry_7 ?_
    refine qX9_entry_8 (by assumption) ?_
    refine qX9_entry_11 (by assumption) ?_
    refine qX9_entry_14 ?_
    refine nX9_entry_15 g2 (Or.inl rfl) hi (by decide) g3 ?_
    refine qX9_entry_16 ?_
    refine qX9_entry_17 ?_
    obtain ⟨q1, q2⟩ := id g4
    refine qX9_entry_18 (by assumption) (Nat.le_of_ble_eq_true rfl) (t_has g4 (by have := g5.2.1; omega) (by have := g5.2.2.2.1; omega) (fun r c hr hc hy hz => ?_) (fun hno => ?_))
    · subst hy
      subst hz
      rw [cIf_t ⟨inB_nI hi, inB_nI hr, inB_nI hc⟩, nN_nI (by have := g5.2.1; omega), nN_nI (by have := g5.2.2.2.1; omega), ← g7 _ (g5.in hr hc)] at k
      refine nX9_entry_21 (by omega) (fun h21 => ?_) (fun h21 => by exfalso; omega)
      refine qX9_entry_26 ?_
      refine qX9_entry_27 (by assumption) ?_
      refine qX9_entry_30 (by assumption) ?_
      refine qX9_entry_33 ?_
      refine nX9_entry_34 g2 (Or.inl rfl) hi (by decide) g3 ?_
      refine qX9_entry_35 ?_
      refine qX9_entry_36 ?_
      refine qX9_entry_37 (by assumption) (Nat.le_of_ble_eq_true rfl) (t_at g4 (g5.in12 hr hc) ?_)
      refine qX9_entry_40 ?_
      exact k
    · rw [cIf_f (fun q => hno q.2)] at k
      refine nX9_entry_21 (by omega) (fun h21 => by exfalso; omega) (fun h21 => ?_)
      refine qX9_entry_24 ?_
      refine qX9_entry_25 ?_
      exact k
  · rw [cIf_f (fun q => hx q.1)] at k
    refine nX9_entry_4 (by omega) (fun h4 => ?_) (fun h4 => by exfalso; omega)
    refine qX9_entry_24 ?_
    refine qX9_entry_25 ?_
    exact k
theorem mxF_cong {a b : Nat → Nat} : ∀ {n}, (∀ k, k < n → a k = b k) → mxF a n = mxF b n
  | 0, _ => rfl
  | n + 1, h => by
    simp only [mxF]
    rw [mxF_cong (fun k hk => h k (by omega)), h n (by omega)]
theorem mnF_cong {a b : Nat → Nat} : ∀ {n}, (∀ k, k < n → a k = b k) → mnF a n = mnF b n
  | 0, _ => rfl
  | n + 1, h => by
    simp only [mnF]
    rw [mnF_cong (fun k hk => h k (by omega)), h n (by omega)]
theorem freshN_cong {a b : Nat → Nat} {n : Nat} (h : ∀ k, k < n + 1 → a k = b k) : freshN a n = freshN b n := by
  unfold freshN
  rw [Bool.eq_iff_iff, List.all_eq_true, List.all_eq_true]
  constructor
  · intro q x hx
    have := q x hx
    rw [List.mem_range] at hx
    rw [← h x (by omega), ← h n (by omega)]
    exact this
  · intro q x hx
    have := q x hx
    rw [List.mem_range] at hx
    rw [h x (by omega), h n (by omega)]
    exact this
theorem unlE_cong {a b : Nat → Nat} : ∀ {n}, (∀ k, k < n → a k = b k) → unlE a n = unlE b n
  | 0, _ => rfl
  | n + 1, h => by
    simp only [unlE]
    rw [unlE_cong (fun k hk => h k (by omega)), freshN_cong h]
end CALLS2
