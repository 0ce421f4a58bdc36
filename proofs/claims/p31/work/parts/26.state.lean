abbrev GV : Type := Nat × Nat × (Nat → Nat)
def eqG (x y : GV) : Prop := x.1 = y.1 ∧ x.2.1 = y.2.1 ∧ ∀ k, k < 12 → x.2.2 k = y.2.2 k
theorem eqG.rf {x : GV} : eqG x x := ⟨rfl, rfl, fun _ _ => rfl⟩
theorem eqG.tr {x y z : GV} (h : eqG x y) (h2 : eqG y z) : eqG x z := ⟨h.1.trans h2.1, h.2.1.trans h2.2.1, fun k hk => (h.2.2 k hk).trans (h2.2.2 k hk)⟩
theorem eqG.sy {x y : GV} (h : eqG x y) : eqG y x := ⟨h.1.symm, h.2.1.symm, fun k hk => (h.2.2 k hk).symm⟩
def gV (G : sG) (w : sW) (g : Nat) (v : GV) : Prop := gAt G w g (g + 1) v.1 v.2.1 v.2.2
/-- a state: an object, its row of grids, three grids; b + 8 cells in all -/
def stAt (G : sG) (w : sW) (b : Nat) (σ : Nat → GV) : Prop := ∃ f : Nat → Option Nat, w.1 b = ob 6 [.ref (b + 1)] ∧ w.1 (b + 1) = aQ G 4 3 f ∧ (∀ i, i < 3 → f i = some (b + 2 + 2 * i)) ∧ ∀ i, i < 3 → gV G w (b + 2 + 2 * i) (σ i)
theorem stAt.fr {G : sG} {w w' : sW} {S : Nat → Prop} {b : Nat} {σ : Nat → GV} (h : stAt G w b σ) (hF : Fr w w' S) (hd : ∀ q, b ≤ q → q < b + 8 → ¬ S q) : stAt G w' b σ := by
  obtain ⟨f, h1, h2, h3, h4⟩ := h
  exact ⟨f, by rw [hF.2 _ (hd _ (by omega) (by omega))]; exact h1, by rw [hF.2 _ (hd _ (by omega) (by omega))]; exact h2, h3, fun i hi => (h4 i hi).fr hF (hd _ (by omega) (by omega)) (hd _ (by omega) (by omega))⟩
def szS (σ : Nat → GV) : Nat → Nat
  | 0 => 0
  | n + 1 => szS σ n + (σ n).1 * (σ n).2.1
section STATE
variable {G : sG} {d : Nat} {P : sQ} {w : sW} {b b2 : Nat} {σ σ2 : Nat → GV}
theorem t_stSize (h : stAt G w b σ) (k : P (some (.int (nI (szS σ 3)))) w) : wpM G (d + 2) yX7_size (0, 0) [.ref b] w P := by
  obtain ⟨f, h1, h2, h3, h4⟩ := id h
  refine eX7_size ?_
  refine qX7_size_0 ?_
  refine qX7_size_1 ?_
  refine qX7_size_2 ?_
  refine qX7_size_3 ?_
  have L : ∀ n i, i + n = 3 → wp G (d + 1) mX7_size P 4 [some (.ref b), some (.int (nI (szS σ i))), some (.int (nI i))] [] w (0, 0) := by
    intro n
    induction n with
    | zero =>
      intro i hi
      have : i = 3 := by omega
      subst this
      refine qX7_size_4 ?_
      refine qX7_size_5 ?_
      refine nX7_size_6 (by omega) (by omega) (fun h6 => ?_) (fun h6 => by exfalso; omega)
      refine qX7_size_27 ?_
      refine qX7_size_28 ?_
      exact k
    | succ n ih =>
      intro i hi
      have hg := h4 i (by omega)
      obtain ⟨g1, g2⟩ := id hg
      refine qX7_size_4 ?_
      refine qX7_size_5 ?_
      refine nX7_size_6 (by omega) (by omega) (fun h6 => by exfalso; omega) (fun h6 => ?_)
      refine qX7_size_9 ?_
      refine qX7_size_10 ?_
      refine qX7_size_11 (by assumption) ?_
      refine qX7_size_14 ?_
      refine nX7_size_15 h2 (Or.inl rfl) (by omega) (by decide) (h3 i (by omega)) ?_
      refine qX7_size_16 (by assumption) (Nat.le_of_ble_eq_true rfl) (t_size hg ?_)
      first | refine nX7_size_19 ?_ | refine qX7_size_19 ?_
      refine qX7_size_20 ?_
      first | refine nX7_size_21 ?_ | refine qX7_size_21 ?_
      refine qX7_size_24 ?_
      exact ih (i + 1) (by omega)
  exact L 3 0 rfl
theorem t_stBecome (h : stAt G w b σ) (h2 : stAt G w b2 σ2) (hd : b + 8 ≤ b2 ∨ b2 + 8 ≤ b) (k : ∀ w' σ', Fr w w' (fun q => b + 2 ≤ q ∧ q < b + 8) → stAt G w' b σ' → (∀ i, i < 3 → eqG (σ' i) (σ2 i)) → P none w') : wpM G (d + 3) yX7_become (0, 0) [.ref b, .ref b2] w P := by
  refine eX7_become ?_
  refine qX7_become_0 ?_
  refine qX7_become_1 ?_
  have L : ∀ n i (w' : sW) (σ' : Nat → GV), i + n = 3 → Fr w w' (fun q => b + 2 ≤ q ∧ q < b + 8) → stAt G w' b σ' → (∀ j, j < i → eqG (σ' j) (σ2 j)) → wp G (d + 2) mX7_become P 2 [some (.ref b), some (.ref b2), some (.int (nI i))] [] w' (0, 0) := by
    intro n
    induction n with
    | zero =>
      intro i w' σ' hi hF hw hq
      have : i = 3 := by omega
      subst this
      refine qX7_become_2 ?_
      refine qX7_become_3 ?_
      refine nX7_become_4 (by omega) (by omega) (fun h4 => ?_) (fun h4 => by exfalso; omega)
      refine qX7_become_28 ?_
      exact k w' σ' hF hw hq
    | succ n ih =>
      intro i w' σ' hi hF hw hq
      have hw2 : stAt G w' b2 σ2 := h2.fr hF (fun q a1 a2 => by omega)
      obtain ⟨f, x1, x2, x3, x4⟩ := id hw
      obtain ⟨f2, y1, y2, y3, y4⟩ := id hw2
      have hg := x4 i (by omega)
      have hg2 := y4 i (by omega)
      obtain ⟨g1, g2⟩ := id hg
      refine qX7_become_2 ?_
      refine qX7_become_3 ?_
      refine nX7_become_4 (by omega) (by omega) (fun h4 => by exfalso; omega) (fun h4 => ?_)
      refine qX7_become_7 ?_
      refine qX7_become_8 (by assumption) ?_
      refine qX7_become_11 ?_
      refine nX7_become_12 x2 (Or.inl rfl) (by omega) (by decide) (x3 i (by omega)) ?_
      refine qX7_become_13 ?_
      refine qX7_become_14 (by assumption) ?_
      refine qX7_become_17 ?_
      refine nX7_become_18 y2 (Or.inl rfl) (by omega) (by decide) (y3 i (by omega)) ?_
      refine qX7_become_19 (by assumption) (Nat.le_of_ble_eq_true rfl) (t_become hg hg2 (by omega) (by omega) (fun w2 a2 hF2 hw3 ha => ?_))
      first | refine nX7_become_22 ?_ | refine qX7_become_22 ?_
      refine qX7_become_25 ?_
      refine ih (i + 1) w2 (fun j => if j = i then ((σ2 i).1, (σ2 i).2.1, a2) else σ' j) (by omega) (hF.tr hF2 (fun q hq => by rcases hq with hq | hq <;> omega)) ⟨f, by rw [hF2.2 _ (fun z => by rcases z with z | z <;> omega)]; exact x1, by rw [hF2.2 _ (fun z => by rcases z with z | z <;> omega)]; exact x2, x3, fun j hj => ?_⟩ (fun j hj => ?_)
      · by_cases hji : j = i
        · subst hji
          simp only [if_true]
          exact hw3
        · simp only [if_neg hji]
          exact (x4 j hj).fr hF2 (fun z => by rcases z with z | z <;> omega) (fun z => by rcases z with z | z <;> omega)
      · by_cases hji : j = i
        · subst hji
          simp only [if_true]
          exact ⟨rfl, rfl, ha⟩
        · simp only [if_neg hji]
          exact hq j (by omega)
  exact L 3 0 w σ rfl Fr.rf h (fun j hj => absurd hj (Nat.not_lt_zero j))
/-- the history: an object, its row of states, six states; 50 cells in all -/
def hsAt (G : sG) (w : sW) (h nx sz : Nat) (H : Nat → Nat → GV) : Prop := ∃ f : Nat → Option Nat, w.1 h = ob 2 [.ref (h + 1), .int (nI nx), .int (nI sz)] ∧ w.1 (h + 1) = aQ G 5 6 f ∧ (∀ j, j < 6 → f j = some (h + 2 + 8 * j)) ∧ ∀ j, j < 6 → stAt G w (h + 2 + 8 * j) (H j)
theorem hsAt.fr {G : sG} {w w' : sW} {S : Nat → Prop} {h nx sz : Nat} {H : Nat → Nat → GV} (x : hsAt G w h nx sz H) (hF : Fr w w' S) (hd : ∀ q, h ≤ q → q < h + 50 → ¬ S q) : hsAt G w' h nx sz H := by
  obtain ⟨f, h1, h2, h3, h4⟩ := x
  exact ⟨f, by rw [hF.2 _ (hd _ (by omega) (by omega))]; exact h1, by rw [hF.2 _ (hd _ (by omega) (by omega))]; exact h2, h3, fun j hj => (h4 j hj).fr hF (fun q a1 a2 => hd q (by omega) (by omega))⟩
theorem stAt.ne1 {G : sG} {w : sW} {b q : Nat} {σ : Nat → GV} {x : va_E} (h : stAt G w b σ) (hq : q < b ∨ b + 8 ≤ q) : stAt G (s_up w q x) b σ := h.fr (S := fun z => z = q) (Fr.rf.up rfl) (fun z a1 a2 => by omega)
theorem t_remember {h nx sz : Nat} {H : Nat → Nat → GV} (x : hsAt G w h nx sz H) (hn : nx < 6) (hz : sz ≤ 6) (hb : stAt G w b σ) (hd : b + 8 ≤ h ∨ h + 50 ≤ b) (k : ∀ w' σ', Fr w w' (fun q => h ≤ q ∧ q < h + 50) → hsAt G w' h ((nx + 1) % 6) (min (sz + 1) 6) (fun j => if j = nx then σ' else H j) → (∀ i, i < 3 → eqG (σ' i) (σ i)) → P none w') : wpM G (d + 4) yX3_remember (0, 0) [.ref h, .ref b] w P := by
  obtain ⟨f, h1, h2, h3, h4⟩ := id x
  have hs := h4 nx hn
  obtain ⟨f2, s1, s2, s3, s4⟩ := id hs
  refine eX3_remember ?_
  refine qX3_remember_0 ?_
  refine qX3_remember_1 (by assumption) ?_
  refine qX3_remember_4 ?_
  refine qX3_remember_5 (by assumption) ?_
  refine nX3_remember_8 h2 (Or.inr rfl) (by omega) (by decide) (h3 nx hn) ?_
  refine qX3_remember_9 ?_
  refine qX3_remember_10 (by assumption) (Nat.le_of_ble_eq_true rfl) (t_stBecome hs hb (by omega) (fun w' σ' hF hw hq => ?_))
  have e1 : w'.1 h = ob 2 [.ref (h + 1), .int (nI nx), .int (nI sz)] := by rw [hF.2 _ (by omega)]; exact h1
  refine qX3_remember_13 ?_
  refine qX3_remember_14 ?_
  refine qX3_remember_15 (by assumption) ?_
  refine qX3_remember_18 ?_
  first | refine nX3_remember_19 ?_ | refine qX3_remember_19 ?_
  refine qX3_remember_20 ?_
  refine nX3_remember_22 (by omega) (by omega) (by omega) ?_
  refine qX3_remember_23 (by assumption) ?_
  have e2 : (s_up w' h (ob 2 [.ref (h + 1), .int (nI ((nx + 1) % 6)), .int (nI sz)])).1 h = ob 2 [.ref (h + 1), .int (nI ((nx + 1) % 6)), .int (nI sz)] := s_upS
  refine qX3_remember_26 ?_
  refine qX3_remember_27 ?_
  refine qX3_remember_28 (by assumption) ?_
  refine qX3_remember_31 ?_
  first | refine nX3_remember_32 ?_ | refine qX3_remember_32 ?_
  refine qX3_remember_33 ?_
  refine nX3_remember_35 (by omega) (by omega) (Nat.le_of_ble_eq_true rfl) ?_
  refine qX3_remember_38 (by assumption) ?_
  refine qX3_remember_41 ?_
  rw [s_upup]
  have hF2 : Fr w (s_up w' h (ob 2 [.ref (h + 1), .int (nI ((nx + 1) % 6)), .int (nI (min (sz + 1) 6))])) (fun q => h ≤ q ∧ q < h + 50) := (hF.mono (fun q hq => by omega)).up (by omega)
  refine k _ σ' hF2 ⟨f, s_upS, ?_, h3, fun j hj => ?_⟩ hq
  · rw [s_upN (by omega), hF.2 _ (by omega)]
    exact h2
  · by_cases hjn : j = nx
    · subst hjn
      simp only [if_true]
      exact hw.ne1 (by omega)
    · simp only [if_neg hjn]
      exact ((h4 j hj).fr hF (fun q a1 a2 => by omega)).ne1 (by omega)
end STATE
