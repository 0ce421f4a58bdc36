/-! constructors: the object b = gB + m is the last cell made; what lies below b stays -/
theorem s_newS {w : sW} {a : Nat} {e : va_E} : (s_new w a e).1 a = e := by simp [s_new]
theorem s_newN {w : sW} {a b : Nat} {e : va_E} (h : b ≠ a) : (s_new w a e).1 b = w.1 b := by simp [s_new, h]
def Lo (w w' : sW) (p : Nat) : Prop := ∀ q, q < p → w'.1 q = w.1 q
theorem Lo.rf {w : sW} {p : Nat} : Lo w w p := fun _ _ => rfl
theorem Lo.tr {w w' w'' : sW} {p q : Nat} (h : Lo w w' p) (h2 : Lo w' w'' q) (hq : p ≤ q) : Lo w w'' p := fun x hx => (h2 x (by omega)).trans (h x hx)
theorem Lo.up {w w' : sW} {p a : Nat} {e : va_E} (h : Lo w w' p) (ha : p ≤ a) : Lo w (s_up w' a e) p := fun x hx => by rw [s_upN (by omega)]; exact h x hx
theorem Lo.nw {w w' : sW} {p a : Nat} {e : va_E} (h : Lo w w' p) (ha : p ≤ a) : Lo w (s_new w' a e) p := fun x hx => by rw [s_newN (by omega)]; exact h x hx
theorem Lo.fr {w w' : sW} {p : Nat} (h : Lo w w' p) : Fr (w.1, w'.2) w' (fun q => p ≤ q) := ⟨rfl, fun q hq => h q (by omega)⟩
theorem stAt.lo {G : sG} {w w' : sW} {b p : Nat} {σ : Nat → GV} (h : stAt G w b σ) (hL : Lo w w' p) (hp : b + 8 ≤ p) : stAt G w' b σ := stAt.fr (w := (w.1, w'.2)) h hL.fr (fun q a1 a2 => by omega)
theorem gV.lo {G : sG} {w w' : sW} {g p : Nat} {v : GV} (h : gV G w g v) (hL : Lo w w' p) (hp : g + 2 ≤ p) : gV G w' g v := gV.fr (w := (w.1, w'.2)) h hL.fr (by omega) (by omega)
theorem wp_bud {G : sG} {d : Nat} {M : sM} {P : sQ} {pc : Nat} {ls : List (Option Value)} {st : List Value} {w : sW} {a b a' b' : Nat} (h1 : a = a') (h2 : b = b') (k : wp G d M P pc ls st w (a', b')) : wp G d M P pc ls st w (a, b) := by
  subst h1
  subst h2
  exact k
section INIT
variable {G : sG} {d m : Nat} {P : sQ} {w : sW}
theorem t_gInit {v0 v1 v2 : Value} (hw : w.2 = m + 1) (hb : w.1 (gB G + m) = ob 1 [v0, v1, v2]) (k : ∀ w', w'.2 = m + 2 → Lo w w' (gB G + m) → gAt G w' (gB G + m) (gB G + m + 1) 1 1 (fun _ => 0) → P none w') : wpM G (d + 1) yX2_init (1, 12) [.ref (gB G + m)] w P := by
  refine eX2_init ?_
  refine qX2_init_0 ?_
  refine qX2_init_1 (Nat.le_of_ble_eq_true rfl) ?_
  refine qX2_init_4 ?_
  refine qX2_init_5 ?_
  refine qX2_init_7 (k1 := 0) (k2 := 0) (by decide) ?_
  rw [hw]
  generalize hw1 : s_new w _ _ = w1
  have b1 : w1.1 (gB G + m) = ob 1 [v0, v1, v2] := by rw [← hw1, s_newN (by omega)]; exact hb
  have L1 : Lo w w1 (gB G + m) := by rw [← hw1]; exact Lo.rf.nw (by omega)
  have e1 : w1.1 (gB G + m + 1) = aN G 12 (fun _ => 0) := by rw [← hw1]; exact s_newS
  have n1 : w1.2 = m + 2 := by rw [← hw1]; exact congrArg (· + 1) hw
  refine qX2_init_9 (by assumption) ?_
  generalize hw2 : s_up w1 _ _ = w2
  have b2 : w2.1 (gB G + m) = ob 1 [.ref (gB G + (m + 1)), v1, v2] := by rw [← hw2]; exact s_upS
  refine qX2_init_12 ?_
  refine qX2_init_13 ?_
  refine qX2_init_14 (by assumption) ?_
  generalize hw3 : s_up w2 _ _ = w3
  have b3 : w3.1 (gB G + m) = ob 1 [.ref (gB G + (m + 1)), .int (nI 1), v2] := by rw [← hw3]; exact s_upS
  refine qX2_init_17 ?_
  refine qX2_init_18 ?_
  refine qX2_init_19 (by assumption) ?_
  refine qX2_init_22 ?_
  refine k _ ?_ ?_ ⟨s_upS, ?_⟩
  · rw [← hw3, ← hw2]; exact n1
  · rw [← hw3, ← hw2]
    exact ((L1.up (Nat.le_refl _)).up (Nat.le_refl _)).up (Nat.le_refl _)
  · rw [s_upN (by omega), ← hw3, s_upN (by omega), ← hw2, s_upN (by omega)]
    exact e1
theorem t_sInit {v0 : Value} (hw : w.2 = m + 1) (hb : w.1 (gB G + m) = ob 6 [v0]) (k : ∀ w', w'.2 = m + 8 → Lo w w' (gB G + m) → stAt G w' (gB G + m) (fun _ => (1, 1, fun _ => 0)) → P none w') : wpM G (d + 2) yX7_init (7, 48) [.ref (gB G + m)] w P := by
  refine eX7_init ?_
  refine qX7_init_0 ?_
  refine qX7_init_1 (Nat.le_of_ble_eq_true rfl) ?_
  refine qX7_init_4 ?_
  refine qX7_init_5 ?_
  refine qX7_init_6 (k1 := 6) (k2 := 45) (by decide) ?_
  rw [hw]
  generalize hw1 : s_new w _ _ = w1
  have b1 : w1.1 (gB G + m) = ob 6 [v0] := by rw [← hw1, s_newN (by omega)]; exact hb
  have L1 : Lo w w1 (gB G + m) := by rw [← hw1]; exact Lo.rf.nw (by omega)
  have e1 : w1.1 (gB G + m + 1) = aQ G 4 3 (fun _ => none) := by rw [← hw1]; exact s_newS
  have n1 : w1.2 = m + 2 := by rw [← hw1]; exact congrArg (· + 1) hw
  refine qX7_init_9 (by assumption) ?_
  generalize hw2 : s_up w1 _ _ = w2
  have b2 : w2.1 (gB G + m) = ob 6 [.ref (gB G + m + 1)] := by rw [← hw2]; exact s_upS
  have e2 : w2.1 (gB G + m + 1) = aQ G 4 3 (fun _ => none) := by rw [← hw2, s_upN (by omega)]; exact e1
  have L2 : Lo w w2 (gB G + m) := by rw [← hw2]; exact L1.up (Nat.le_refl _)
  have n2 : w2.2 = m + 2 := by rw [← hw2]; exact n1
  refine qX7_init_12 ?_
  refine qX7_init_13 ?_
  have Lp : ∀ n i (w' : sW) (f : Nat → Option Nat), i + n = 3 → w'.2 = m + 2 + 2 * i → w'.1 (gB G + m) = ob 6 [.ref (gB G + m + 1)] → w'.1 (gB G + m + 1) = aQ G 4 3 f → (∀ j, j < i → f j = some (gB G + m + 2 + 2 * j)) → (∀ j, j < i → gV G w' (gB G + m + 2 + 2 * j) (1, 1, fun _ => 0)) → Lo w w' (gB G + m) → wp G (d + 1) mX7_init P 14 [some (.ref (gB G + m)), some (.int (nI i))] [] w' (2 * n, 15 * n) := by
    intro n
    induction n with
    | zero =>
      intro i w' f hi hn hb he hf hg hL
      refine qX7_init_14 ?_
      refine qX7_init_15 ?_
      refine nX7_init_16 (by omega) (by omega) (fun h16 => ?_) (fun h16 => by exfalso; omega)
      refine qX7_init_38 ?_
      have hi3 : i = 3 := by omega
      subst hi3
      exact k w' hn hL ⟨f, hb, he, hf, hg⟩
    | succ n ih =>
      intro i w' f hi hn hb he hf hg hL
      refine wp_bud (a' := (1 + 2 * n) + 1) (b' := (12 + 15 * n) + 3) (by omega) (by omega) ?_
      refine qX7_init_14 ?_
      refine qX7_init_15 ?_
      refine nX7_init_16 (by omega) (by omega) (fun h16 => by exfalso; omega) (fun h16 => ?_)
      refine qX7_init_19 ?_
      refine qX7_init_20 (by assumption) ?_
      refine qX7_init_23 ?_
      refine qX7_init_24 (k1 := 1 + 2 * n) (k2 := 12 + 15 * n) ?_
      rw [hn, show gB G + (m + 2 + 2 * i) = gB G + (m + 2 + 2 * i) from rfl]
      generalize hw3 : s_new w' _ _ = w3
      have b3 : w3.1 (gB G + (m + 2 + 2 * i)) = ob 1 [.null, .int 0, .int 0] := by rw [← hw3]; exact s_newS
      have L3 : Lo w' w3 (gB G + m + 2 + 2 * i) := by rw [← hw3]; exact Lo.rf.nw (by omega)
      have n3 : w3.2 = m + 2 + 2 * i + 1 := by rw [← hw3]; exact congrArg (· + 1) hn
      refine qX7_init_27 rfl ?_
      refine qX7_init_28 (k1 := 1) (k2 := 12) (j1 := 2 * n) (j2 := 15 * n) (Nat.le_of_ble_eq_true rfl) (t_gInit n3 b3 (fun w4 n4 L4 g4 => ⟨?_, rfl⟩))
      have L4' : Lo w' w4 (gB G + m + 2 + 2 * i) := L3.tr L4 (by omega)
      have b4 : w4.1 (gB G + m) = ob 6 [.ref (gB G + m + 1)] := by rw [L4' _ (by omega)]; exact hb
      have e4 : w4.1 (gB G + m + 1) = aQ G 4 3 f := by rw [L4' _ (by omega)]; exact he
      refine nX7_init_31 e4 g4.1 (Or.inl ⟨rfl, rfl⟩) (by omega) (by decide) ?_
      generalize hw5 : s_up w4 _ _ = w5
      have L5 : Lo w' w5 (gB G + m) := by rw [← hw5]; exact Lo.up (fun q hq => L4' q (by omega)) (by omega)
      first | refine nX7_init_32 ?_ | refine qX7_init_32 ?_
      refine qX7_init_35 ?_
      refine ih (i + 1) w5 (va_up f i (some (gB G + (m + 2 + 2 * i)))) (by omega) (by rw [← hw5]; show w4.2 = _; rw [n4]; omega) (by rw [← hw5, s_upN (by omega)]; exact b4) (by rw [← hw5]; exact s_upS) (fun j hj => ?_) (fun j hj => ?_) (hL.tr L5 (Nat.le_refl _))
      · unfold va_up
        by_cases hji : j = i
        · subst hji; rw [if_pos rfl, show gB G + (m + 2 + 2 * j) = gB G + m + 2 + 2 * j by omega]
        · rw [if_neg hji]; exact hf j (by omega)
      · rw [← hw5]
        by_cases hji : j = i
        · subst hji
          rw [show gB G + m + 2 + 2 * j = gB G + (m + 2 + 2 * j) by omega]
          exact gAt.off g4 (by omega) (by omega)
        · have := (hg j (by omega)).lo L4' (by omega)
          exact gAt.off this (by omega) (by omega)
  exact Lp 3 0 w2 (fun _ => none) (by omega) n2 b2 e2 (fun j hj => absurd hj (Nat.not_lt_zero j)) (fun j hj => absurd hj (Nat.not_lt_zero j)) L2
theorem t_hInit {v0 v1 v2 : Value} (hw : w.2 = m + 1) (hb : w.1 (gB G + m) = ob 2 [v0, v1, v2]) (k : ∀ w', w'.2 = m + 50 → Lo w w' (gB G + m) → hsAt G w' (gB G + m) 0 0 (fun _ _ => (1, 1, fun _ => 0)) → P none w') : wpM G (d + 3) yX3_init (49, 300) [.ref (gB G + m)] w P := by
  refine eX3_init ?_
  refine qX3_init_0 ?_
  refine qX3_init_1 (Nat.le_of_ble_eq_true rfl) ?_
  refine qX3_init_4 ?_
  refine qX3_init_5 ?_
  refine qX3_init_7 (k1 := 48) (k2 := 294) (by decide) ?_
  rw [hw]
  generalize hw1 : s_new w _ _ = w1
  have b1 : w1.1 (gB G + m) = ob 2 [v0, v1, v2] := by rw [← hw1, s_newN (by omega)]; exact hb
  have L1 : Lo w w1 (gB G + m) := by rw [← hw1]; exact Lo.rf.nw (by omega)
  have e1 : w1.1 (gB G + m + 1) = aQ G 5 6 (fun _ => none) := by rw [← hw1]; exact s_newS
  have n1 : w1.2 = m + 2 := by rw [← hw1]; exact congrArg (· + 1) hw
  refine qX3_init_10 (by assumption) ?_
  generalize hw2 : s_up w1 _ _ = w2
  have b2 : w2.1 (gB G + m) = ob 2 [.ref (gB G + m + 1), v1, v2] := by rw [← hw2]; exact s_upS
  refine qX3_init_13 ?_
  refine qX3_init_14 ?_
  refine qX3_init_15 (by assumption) ?_
  generalize hw3 : s_up w2 _ _ = w3
  have b3 : w3.1 (gB G + m) = ob 2 [.ref (gB G + m + 1), .int (nI 0), v2] := by rw [← hw3]; exact s_upS
  refine qX3_init_18 ?_
  refine qX3_init_19 ?_
  refine qX3_init_20 (by assumption) ?_
  generalize hw4 : s_up w3 _ _ = w4
  have b4 : w4.1 (gB G + m) = ob 2 [.ref (gB G + m + 1), .int (nI 0), .int (nI 0)] := by rw [← hw4]; exact s_upS
  have e4 : w4.1 (gB G + m + 1) = aQ G 5 6 (fun _ => none) := by rw [← hw4, s_upN (by omega), ← hw3, s_upN (by omega), ← hw2, s_upN (by omega)]; exact e1
  have L4 : Lo w w4 (gB G + m) := by rw [← hw4, ← hw3, ← hw2]; exact ((L1.up (Nat.le_refl _)).up (Nat.le_refl _)).up (Nat.le_refl _)
  have n4 : w4.2 = m + 2 := by rw [← hw4, ← hw3, ← hw2]; exact n1
  refine qX3_init_23 ?_
  refine qX3_init_24 ?_
  have Lp : ∀ n i (w' : sW) (f : Nat → Option Nat), i + n = 6 → w'.2 = m + 2 + 8 * i → w'.1 (gB G + m) = ob 2 [.ref (gB G + m + 1), .int (nI 0), .int (nI 0)] → w'.1 (gB G + m + 1) = aQ G 5 6 f → (∀ j, j < i → f j = some (gB G + m + 2 + 8 * j)) → (∀ j, j < i → stAt G w' (gB G + m + 2 + 8 * j) (fun _ => (1, 1, fun _ => 0))) → Lo w w' (gB G + m) → wp G (d + 2) mX3_init P 25 [some (.ref (gB G + m)), some (.int (nI i))] [] w' (8 * n, 49 * n) := by
    intro n
    induction n with
    | zero =>
      intro i w' f hi hn hb he hf hg hL
      refine qX3_init_25 ?_
      refine qX3_init_26 ?_
      refine nX3_init_28 (by omega) (by omega) (fun h28 => ?_) (fun h28 => by exfalso; omega)
      refine qX3_init_50 ?_
      have hi3 : i = 6 := by omega
      subst hi3
      exact k w' hn hL ⟨f, hb, he, hf, hg⟩
    | succ n ih =>
      intro i w' f hi hn hb he hf hg hL
      refine wp_bud (a' := (7 + 8 * n) + 1) (b' := (48 + 49 * n) + 1) (by omega) (by omega) ?_
      refine qX3_init_25 ?_
      refine qX3_init_26 ?_
      refine nX3_init_28 (by omega) (by omega) (fun h28 => by exfalso; omega) (fun h28 => ?_)
      refine qX3_init_31 ?_
      refine qX3_init_32 (by assumption) ?_
      refine qX3_init_35 ?_
      refine qX3_init_36 (k1 := 7 + 8 * n) (k2 := 48 + 49 * n) ?_
      rw [hn]
      generalize hw5 : s_new w' _ _ = w5
      have b5 : w5.1 (gB G + (m + 2 + 8 * i)) = ob 6 [.null] := by rw [← hw5]; exact s_newS
      have L5 : Lo w' w5 (gB G + m + 2 + 8 * i) := by rw [← hw5]; exact Lo.rf.nw (by omega)
      have n5 : w5.2 = m + 2 + 8 * i + 1 := by rw [← hw5]; exact congrArg (· + 1) hn
      refine qX3_init_39 rfl ?_
      refine qX3_init_40 (k1 := 7) (k2 := 48) (j1 := 8 * n) (j2 := 49 * n) (Nat.le_of_ble_eq_true rfl) (t_sInit n5 b5 (fun w6 n6 L6 g6 => ⟨?_, rfl⟩))
      have L6' : Lo w' w6 (gB G + m + 2 + 8 * i) := L5.tr L6 (by omega)
      have b6 : w6.1 (gB G + m) = ob 2 [.ref (gB G + m + 1), .int (nI 0), .int (nI 0)] := by rw [L6' _ (by omega)]; exact hb
      have e6 : w6.1 (gB G + m + 1) = aQ G 5 6 f := by rw [L6' _ (by omega)]; exact he
      obtain ⟨fs, g61, _⟩ := id g6
      refine nX3_init_43 e6 g61 (Or.inr ⟨rfl, rfl⟩) (by omega) (by decide) ?_
      generalize hw7 : s_up w6 _ _ = w7
      have F7 : Fr w6 w7 (fun q => q = gB G + m + 1) := by rw [← hw7]; exact Fr.rf.up rfl
      have L7 : Lo w' w7 (gB G + m) := by rw [← hw7]; exact Lo.up (fun q hq => L6' q (by omega)) (by omega)
      first | refine nX3_init_44 ?_ | refine qX3_init_44 ?_
      refine qX3_init_47 ?_
      refine ih (i + 1) w7 (va_up f i (some (gB G + (m + 2 + 8 * i)))) (by omega) (by rw [F7.1, n6]; omega) (by rw [← hw7, s_upN (by omega)]; exact b6) (by rw [← hw7]; exact s_upS) (fun j hj => ?_) (fun j hj => ?_) (hL.tr L7 (Nat.le_refl _))
      · unfold va_up
        by_cases hji : j = i
        · subst hji; rw [if_pos rfl, show gB G + (m + 2 + 8 * j) = gB G + m + 2 + 8 * j by omega]
        · rw [if_neg hji]; exact hf j (by omega)
      · by_cases hji : j = i
        · subst hji
          rw [show gB G + m + 2 + 8 * j = gB G + (m + 2 + 8 * j) by omega]
          exact g6.fr F7 (fun q a1 a2 => by omega)
        · exact ((hg j (by omega)).lo L6' (by omega)).fr F7 (fun q a1 a2 => by omega)
  exact Lp 6 0 w4 (fun _ => none) (by omega) n4 b4 e4 (fun j hj => absurd hj (Nat.not_lt_zero j)) (fun j hj => absurd hj (Nat.not_lt_zero j)) L4
theorem t_wInit {v0 v1 : Value} (hw : w.2 = m + 1) (hb : w.1 (gB G + m) = ob 7 [v0, v1, .int 0]) (k : ∀ w', w'.2 = m + 3 → Lo w w' (gB G + m) → wyAt G w' (gB G + m) [] → P none w') : wpM G (d + 1) yX8_init (2, 48) [.ref (gB G + m)] w P := by
  refine eX8_init ?_
  refine qX8_init_0 ?_
  refine qX8_init_1 (Nat.le_of_ble_eq_true rfl) ?_
  refine qX8_init_4 ?_
  refine qX8_init_5 ?_
  refine qX8_init_7 (k1 := 1) (k2 := 24) (by decide) ?_
  rw [hw]
  generalize hw1 : s_new w _ _ = w1
  have b1 : w1.1 (gB G + m) = ob 7 [v0, v1, .int 0] := by rw [← hw1, s_newN (by omega)]; exact hb
  have L1 : Lo w w1 (gB G + m) := by rw [← hw1]; exact Lo.rf.nw (by omega)
  have e1 : w1.1 (gB G + m + 1) = aN G 24 (fun _ => 0) := by rw [← hw1]; exact s_newS
  have n1 : w1.2 = m + 2 := by rw [← hw1]; exact congrArg (· + 1) hw
  refine qX8_init_9 (by assumption) ?_
  generalize hw2 : s_up w1 _ _ = w2
  have b2 : w2.1 (gB G + m) = ob 7 [.ref (gB G + m + 1), v1, .int 0] := by rw [← hw2]; exact s_upS
  have n2 : w2.2 = m + 2 := by rw [← hw2]; exact n1
  refine qX8_init_12 ?_
  refine qX8_init_13 ?_
  refine qX8_init_15 (k1 := 0) (k2 := 0) (by decide) ?_
  rw [n2]
  generalize hw3 : s_new w2 _ _ = w3
  have b3 : w3.1 (gB G + m) = ob 7 [.ref (gB G + m + 1), v1, .int 0] := by rw [← hw3, s_newN (by omega)]; exact b2
  have e3 : w3.1 (gB G + m + 2) = aN G 24 (fun _ => 0) := by rw [← hw3]; exact s_newS
  have n3 : w3.2 = m + 3 := by rw [← hw3]; exact congrArg (· + 1) n2
  refine qX8_init_17 (by assumption) ?_
  refine qX8_init_20 ?_
  refine k _ n3 ?_ ⟨fun _ => 0, fun _ => 0, s_upS, ?_, ?_, by decide, fun i hi => absurd hi (Nat.not_lt_zero i)⟩
  · rw [← hw3, ← hw2]
    exact ((L1.up (Nat.le_refl _)).nw (by omega)).up (Nat.le_refl _)
  · rw [s_upN (by omega), ← hw3, s_newN (by omega), ← hw2, s_upN (by omega)]
    exact e1
  · rw [s_upN (by omega)]
    exact e3
theorem t_cInit {v0 v1 v2 : Value} (hw : w.2 = m + 1) (hb : w.1 (gB G + m) = ob 0 [v0, v1, v2, .int 0]) (k : ∀ w', w'.2 = m + 4 → Lo w w' (gB G + m) → cvAt G w' (gB G + m) 0 (fun _ => false) (fun _ => 0) (fun _ => 0) → P none w') : wpM G (d + 1) yX1_init (3, 88) [.ref (gB G + m)] w P := by
  refine eX1_init ?_
  refine qX1_init_0 ?_
  refine qX1_init_1 (Nat.le_of_ble_eq_true rfl) ?_
  refine qX1_init_4 ?_
  refine qX1_init_5 ?_
  refine qX1_init_7 (k1 := 2) (k2 := 24) (by decide) ?_
  rw [hw]
  generalize hw1 : s_new w _ _ = w1
  have b1 : w1.1 (gB G + m) = ob 0 [v0, v1, v2, .int 0] := by rw [← hw1, s_newN (by omega)]; exact hb
  have L1 : Lo w w1 (gB G + m) := by rw [← hw1]; exact Lo.rf.nw (by omega)
  have e1 : w1.1 (gB G + m + 1) = aJ G 64 (fun _ => 0) := by rw [← hw1]; exact s_newS
  have n1 : w1.2 = m + 2 := by rw [← hw1]; exact congrArg (· + 1) hw
  refine qX1_init_9 (by assumption) ?_
  generalize hw2 : s_up w1 _ _ = w2
  have b2 : w2.1 (gB G + m) = ob 0 [.ref (gB G + m + 1), v1, v2, .int 0] := by rw [← hw2]; exact s_upS
  have n2 : w2.2 = m + 2 := by rw [← hw2]; exact n1
  refine qX1_init_12 ?_
  refine qX1_init_13 ?_
  refine qX1_init_15 (k1 := 1) (k2 := 12) (by decide) ?_
  rw [n2]
  generalize hw3 : s_new w2 _ _ = w3
  have b3 : w3.1 (gB G + m) = ob 0 [.ref (gB G + m + 1), v1, v2, .int 0] := by rw [← hw3, s_newN (by omega)]; exact b2
  have e3 : w3.1 (gB G + m + 2) = aN G 12 (fun _ => 0) := by rw [← hw3]; exact s_newS
  have n3 : w3.2 = m + 3 := by rw [← hw3]; exact congrArg (· + 1) n2
  refine qX1_init_17 (by assumption) ?_
  generalize hw4 : s_up w3 _ _ = w4
  have b4 : w4.1 (gB G + m) = ob 0 [.ref (gB G + m + 1), .ref (gB G + m + 2), v2, .int 0] := by rw [← hw4]; exact s_upS
  have n4 : w4.2 = m + 3 := by rw [← hw4]; exact n3
  refine qX1_init_20 ?_
  refine qX1_init_21 ?_
  refine qX1_init_23 (k1 := 0) (k2 := 0) (by decide) ?_
  rw [n4]
  generalize hw5 : s_new w4 _ _ = w5
  have b5 : w5.1 (gB G + m) = ob 0 [.ref (gB G + m + 1), .ref (gB G + m + 2), v2, .int 0] := by rw [← hw5, s_newN (by omega)]; exact b4
  have e5 : w5.1 (gB G + m + 3) = aN G 12 (fun _ => 0) := by rw [← hw5]; exact s_newS
  have n5 : w5.2 = m + 4 := by rw [← hw5]; exact congrArg (· + 1) n4
  refine qX1_init_25 (by assumption) ?_
  refine qX1_init_28 ?_
  refine k _ n5 ?_ ⟨fun _ => 0, s_upS, ?_, ?_, ?_, fun i t _ _ => ?_⟩
  · rw [← hw5, ← hw4, ← hw3, ← hw2]
    exact ((((L1.up (Nat.le_refl _)).nw (by omega)).up (Nat.le_refl _)).nw (by omega)).up (Nat.le_refl _)
  · rw [s_upN (by omega), ← hw5, s_newN (by omega), ← hw4, s_upN (by omega), ← hw3, s_newN (by omega), ← hw2, s_upN (by omega)]
    exact e1
  · rw [s_upN (by omega), ← hw5, s_newN (by omega), ← hw4, s_upN (by omega)]
    exact e3
  · rw [s_upN (by omega)]
    exact e5
  · exact bitL_0 t
theorem t_pInit {v0 v1 : Value} {x2 x3 x4 x5 : Int32} (hw : w.2 = m + 1) (hb : w.1 (gB G + m) = ob 3 [v0, v1, .int x2, .int x3, .int x4, .int x5]) (k : ∀ w', w'.2 = m + 2 → Lo w w' (gB G + m) → pAt G w' (gB G + m) 0 (fun _ => 0) x2 x3 x4 x5 → P none w') : wpM G (d + 1) yX4_init (1, 80) [.ref (gB G + m)] w P := by
  refine eX4_init ?_
  refine qX4_init_0 ?_
  refine qX4_init_1 (Nat.le_of_ble_eq_true rfl) ?_
  refine qX4_init_4 ?_
  refine qX4_init_5 ?_
  refine qX4_init_7 (k1 := 0) (k2 := 0) (by decide) ?_
  rw [hw]
  generalize hw1 : s_new w _ _ = w1
  have b1 : w1.1 (gB G + m) = ob 3 [v0, v1, .int x2, .int x3, .int x4, .int x5] := by rw [← hw1, s_newN (by omega)]; exact hb
  have L1 : Lo w w1 (gB G + m) := by rw [← hw1]; exact Lo.rf.nw (by omega)
  have e1 : w1.1 (gB G + m + 1) = aC G 80 (nF (fun _ => 0)) := by rw [← hw1]; exact s_newS
  have n1 : w1.2 = m + 2 := by rw [← hw1]; exact congrArg (· + 1) hw
  refine qX4_init_9 (by assumption) ?_
  generalize hw2 : s_up w1 _ _ = w2
  have b2 : w2.1 (gB G + m) = ob 3 [.ref (gB G + m + 1), v1, .int x2, .int x3, .int x4, .int x5] := by rw [← hw2]; exact s_upS
  refine qX4_init_12 ?_
  refine qX4_init_13 ?_
  refine qX4_init_14 (by assumption) ?_
  refine qX4_init_17 ?_
  refine k _ ?_ ?_ ⟨s_upS, ?_⟩
  · rw [← hw2]; exact n1
  · rw [← hw2]
    exact (L1.up (Nat.le_refl _)).up (Nat.le_refl _)
  · rw [s_upN (by omega), ← hw2, s_upN (by omega)]
    exact e1
theorem t_ptInit {x : Nat} (k : P none w) : wpM G (d + 1) yX5_init (0, 0) [.ref x] w P := by
  refine eX5_init ?_
  refine qX5_init_0 ?_
  refine qX5_init_1 (Nat.le_of_ble_eq_true rfl) ?_
  refine qX5_init_4 ?_
  exact k
theorem t_rgInit {x : Nat} (k : P none w) : wpM G (d + 1) yX6_init (0, 0) [.ref x] w P := by
  refine eX6_init ?_
  refine qX6_init_0 ?_
  refine qX6_init_1 (Nat.le_of_ble_eq_true rfl) ?_
  refine qX6_init_4 ?_
  exact k
end INIT
