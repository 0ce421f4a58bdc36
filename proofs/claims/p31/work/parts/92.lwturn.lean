/-! the law turns an array over -/
theorem md1 {x y C : Nat} (h : y < C) : (x * C + y) % C = y := by rw [Nat.mul_comm, Nat.mul_add_mod, Nat.mod_eq_of_lt h]
theorem dv1 {x y C : Nat} (h : y < C) : (x * C + y) / C = x := by rw [Nat.mul_comm, Nat.mul_add_div (by omega), Nat.div_eq_of_lt h, Nat.add_zero]
theorem mdv {q C : Nat} : q / C * C + q % C = q := by rw [Nat.mul_comm]; exact Nat.div_add_mod q C
theorem dvlt {q R C : Nat} (h : q < R * C) : q / C < R := Nat.div_lt_of_lt_mul (by rw [Nat.mul_comm]; exact h)
theorem ml1 {x y A B : Nat} (hx : x < A) (hy : y < B) : x * B + y < A * B := by
  have h1 : (x + 1) * B ≤ A * B := Nat.mul_le_mul_right B hx
  rw [Nat.add_mul] at h1
  omega
section LTURN
variable {G : sG} {d : Nat} {P : sQ} {w : sW} {p a R C : Nat} {f E : Nat → Nat}
theorem l_turn (h : lV G w p f a R C E) (hpn : p < gB G + w.2) (k : ∀ w' f', w'.2 = w.2 + 1 → (∀ q, q ≠ p → q ≠ gB G + w.2 → w'.1 q = w.1 q) → lV G w' p f' a C R (tuN R C E) → (∀ q, q < 12 * a ∨ 12 * a + 12 ≤ q → f' q = f q) → P none w') : wpM G (d + 2) yL_turn (1, 9) [.int (nI a), .ref p] w P := by
  obtain ⟨hp, ha, hR, hC, hE, hd, h9, h999⟩ := id h
  have d1 := hd.1
  have d2 := hd.2.1
  have d3 := hd.2.2.1
  have d4 := hd.2.2.2.1
  refine eL_turn ?_
  refine qL_turn_0 ?_
  refine qL_turn_2 (k1 := 0) (k2 := 0) (by decide) ?_
  generalize hw1 : s_new w (gB G + w.2) _ = w1
  obtain ⟨T, hT⟩ : ∃ T, T = gB G + w.2 := ⟨_, rfl⟩
  have z1 : w1.2 = w.2 + 1 := by rw [← hw1]; rfl
  have t1 : w1.1 T = aN G 9 (fun _ => 0) := by rw [← hw1, hT]; simp only [s_new, if_true]; rfl
  have p1 : w1.1 p = aN G 36 f := by rw [← hw1]; simp only [s_new]; rw [if_neg (by omega)]; exact hp
  have o1 : ∀ q, q ≠ p → q ≠ T → w1.1 q = w.1 q := fun q _ h2 => by rw [← hw1]; simp only [s_new]; rw [if_neg (by omega)]
  rw [← hT] at k ⊢
  have hpT : p ≠ T := by omega
  refine qL_turn_4 ?_
  refine qL_turn_5 ?_
  refine qL_turn_7 ?_
  first | refine nL_turn_8 ?_ | refine qL_turn_8 ?_
  refine qL_turn_9 ?_
  refine qL_turn_10 ?_
  refine qL_turn_11 ?_
  refine qL_turn_12 (Nat.le_of_ble_eq_true rfl) (l_many ⟨p1, h.2⟩ ?_)
  refine qL_turn_15 ?_
  refine qL_turn_17 ?_
  refine qL_turn_18 ?_
  first | refine fL_turn_19 (by assumption) (by omega) (by decide) ?_ | refine nL_turn_19 (by assumption) (by omega) (by decide) ?_
  rw [hR]
  refine qL_turn_20 ?_
  refine qL_turn_22 ?_
  refine qL_turn_23 ?_
  have L2 : ∀ m i w2 f2 t (l6 : Option Value), i + m = R * C → w2.2 = w.2 + 1 → (∀ q, q ≠ p → q ≠ T → w2.1 q = w.1 q) → w2.1 p = aN G 36 f2 → w2.1 T = aN G 9 t → (∀ j, j < R * C → t j = tuN R C E j) → (∀ q, q < i → f2 (12 * a + 2 + q) = tuN R C E q) → (∀ q, q < 12 * a + 2 ∨ 12 * a + 12 ≤ q → f2 q = f q) → wp G (d + 1) mL_turn P 71 [some (.int (nI a)), some (.ref p), some (.ref T), some (.int (nI (12 * a))), some (.int (nI (R * C))), some (.int (nI R)), some (.int (nI i))] [] w2 (0, 0) := by
    intro m
    induction m with
    | zero =>
      intro i w2 f2 t l6 hi z2 o2 p2 t2 ht hf hf2
      have e1 := hf2 (12 * a + 1) (by omega)
      refine qL_turn_71 ?_
      refine qL_turn_73 ?_
      refine nL_turn_75 (by omega) (by omega) (fun h75 => ?_) (fun h75 => by exfalso; omega)
      refine qL_turn_96 ?_
      refine qL_turn_97 ?_
      refine qL_turn_98 ?_
      refine qL_turn_99 ?_
      refine qL_turn_100 ?_
      first | refine nL_turn_101 ?_ | refine qL_turn_101 ?_
      first | refine fL_turn_102 (by assumption) (by omega) (by decide) ?_ | refine nL_turn_102 (by assumption) (by omega) (by decide) ?_
      rw [e1, hC]
      refine fL_turn_103 (by assumption) (by omega) (by decide) ?_
      generalize hw3 : s_up w2 p _ = w3
      have p3 : w3.1 p = aN G 36 (updN f2 (12 * a) C) := by rw [← hw3]; exact s_upS
      refine qL_turn_104 ?_
      refine qL_turn_105 ?_
      refine qL_turn_106 ?_
      first | refine nL_turn_107 ?_ | refine qL_turn_107 ?_
      refine qL_turn_108 ?_
      refine fL_turn_110 (by assumption) (by omega) (by decide) ?_
      generalize hw4 : s_up w3 p _ = w4
      have p4 : w4.1 p = aN G 36 (updN (updN f2 (12 * a) C) (12 * a + 1) R) := by rw [← hw4]; exact s_upS
      refine qL_turn_111 ?_
      have u : ∀ q, updN (updN f2 (12 * a) C) (12 * a + 1) R q = if q = 12 * a + 1 then R else if q = 12 * a then C else f2 q := fun q => rfl
      refine k w4 _ ?_ ?_ ⟨p4, ha, ?_, ?_, ?_, hd.sw, by rw [Nat.mul_comm]; exact h9, ?_⟩ ?_
      · rw [← hw4, ← hw3]; exact z2
      · intro q q1 q2
        rw [← hw4, s_upN q1, ← hw3, s_upN q1]
        exact o2 q q1 q2
      · rw [u, if_neg (by omega), if_pos rfl]
      · rw [u, if_pos rfl]
      · intro q hq
        rw [u, if_neg (by omega), if_neg (by omega)]
        rw [Nat.mul_comm] at hq
        exact hf q (by omega)
      · intro q hq
        have hq1 := dvlt hq
        exact h999 _ (ml1 (Nat.mod_lt _ (by omega)) hq1)
      · intro q hq
        rw [u, if_neg (by omega), if_neg (by omega)]
        exact hf2 q (by omega)
    | succ m ih =>
      intro i w2 f2 t l6 hi z2 o2 p2 t2 ht hf hf2
      refine qL_turn_71 ?_
      refine qL_turn_73 ?_
      refine nL_turn_75 (by omega) (by omega) (fun h75 => by exfalso; omega) (fun h75 => ?_)
      refine qL_turn_78 ?_
      refine qL_turn_79 ?_
      refine qL_turn_80 ?_
      first | refine nL_turn_81 ?_ | refine qL_turn_81 ?_
      refine qL_turn_82 ?_
      first | refine nL_turn_84 ?_ | refine qL_turn_84 ?_
      refine qL_turn_85 ?_
      refine qL_turn_86 ?_
      first | refine fL_turn_88 (by assumption) (by omega) (by decide) ?_ | refine nL_turn_88 (by assumption) (by omega) (by decide) ?_
      refine fL_turn_89 (by assumption) (by omega) (by decide) ?_
      generalize hw3 : s_up w2 p _ = w3
      have p3 : w3.1 p = aN G 36 (updN f2 (12 * a + 2 + i) (t i)) := by rw [← hw3]; exact s_upS
      have t3 : w3.1 T = aN G 9 t := by rw [← hw3, s_upN (Ne.symm hpT)]; exact t2
      first | refine nL_turn_90 ?_ | refine qL_turn_90 ?_
      refine qL_turn_93 ?_
      refine ih (i + 1) w3 _ t none (by omega) (by rw [← hw3]; exact z2) (fun q q1 q2 => by rw [← hw3, s_upN q1]; exact o2 q q1 q2) p3 t3 ht (fun q hq => ?_) (fun q hq => ?_)
      · by_cases hqi : q = i
        · subst hqi
          rw [← ht q (by omega)]
          simp [updN]
        · show (if 12 * a + 2 + q = 12 * a + 2 + i then t i else f2 (12 * a + 2 + q)) = _
          rw [if_neg (by omega)]
          exact hf q (by omega)
      · show (if q = 12 * a + 2 + i then t i else f2 q) = _
        rw [if_neg (by omega)]
        exact hf2 q hq
  have L1 : ∀ m i w2 t, i + m = R * C → w2.2 = w.2 + 1 → (∀ q, q ≠ p → q ≠ T → w2.1 q = w.1 q) → w2.1 p = aN G 36 f → w2.1 T = aN G 9 t → (∀ q, q < i → t (q % C * R + q / C) = E q) → wp G (d + 1) mL_turn P 25 [some (.int (nI a)), some (.ref p), some (.ref T), some (.int (nI (12 * a))), some (.int (nI (R * C))), some (.int (nI R)), some (.int (nI i))] [] w2 (0, 0) := by
    intro m
    induction m with
    | zero =>
      intro i w2 t hi z2 o2 p2 t2 ht
      refine qL_turn_25 ?_
      refine qL_turn_27 ?_
      refine nL_turn_29 (by omega) (by omega) (fun h29 => ?_) (fun h29 => by exfalso; omega)
      refine qL_turn_68 ?_
      refine qL_turn_69 ?_
      refine L2 (R * C) 0 w2 f t none (by omega) z2 o2 p2 t2 (fun j hj => ?_) (fun q hq => absurd hq (Nat.not_lt_zero q)) (fun _ _ => rfl)
      have h1 : j / R < C := Nat.div_lt_of_lt_mul hj
      have h2 : j % R < R := Nat.mod_lt _ (by omega)
      have h3 := ht (j % R * C + j / R) (by rw [show i = R * C by omega]; exact ml1 h2 h1)
      rw [md1 h1, dv1 h1, mdv] at h3
      exact h3
    | succ m ih =>
      intro i w2 t hi z2 o2 p2 t2 ht
      have hq1 : i / C < R := dvlt (by omega)
      have hq2 : i % C < C := Nat.mod_lt _ (by omega)
      have hix := ml1 hq2 hq1
      rw [Nat.mul_comm C R] at hix
      refine qL_turn_25 ?_
      refine qL_turn_27 ?_
      refine nL_turn_29 (by omega) (by omega) (fun h29 => by exfalso; omega) (fun h29 => ?_)
      refine qL_turn_32 ?_
      refine qL_turn_33 ?_
      refine qL_turn_35 ?_
      refine qL_turn_36 ?_
      refine qL_turn_37 ?_
      first | refine nL_turn_38 ?_ | refine qL_turn_38 ?_
      first | refine fL_turn_39 (by assumption) (by omega) (by decide) ?_ | refine nL_turn_39 (by assumption) (by omega) (by decide) ?_
      rw [hC]
      refine nL_turn_40 (by omega) (by omega) (by omega) ?_
      refine qL_turn_41 ?_
      first | refine nL_turn_43 ?_ | refine qL_turn_43 ?_
      refine qL_turn_44 ?_
      refine qL_turn_46 ?_
      refine qL_turn_47 ?_
      refine qL_turn_48 ?_
      first | refine nL_turn_49 ?_ | refine qL_turn_49 ?_
      first | refine fL_turn_50 (by assumption) (by omega) (by decide) ?_ | refine nL_turn_50 (by assumption) (by omega) (by decide) ?_
      rw [hC]
      refine nL_turn_51 (by omega) (by omega) (by omega) ?_
      first | refine nL_turn_52 ?_ | refine qL_turn_52 ?_
      refine qL_turn_53 ?_
      refine qL_turn_54 ?_
      refine qL_turn_55 ?_
      first | refine nL_turn_56 ?_ | refine qL_turn_56 ?_
      refine qL_turn_57 ?_
      first | refine nL_turn_59 ?_ | refine qL_turn_59 ?_
      first | refine fL_turn_60 (by assumption) (by omega) (by decide) ?_ | refine nL_turn_60 (by assumption) (by omega) (by decide) ?_
      rw [hE i (by omega)]
      refine fL_turn_61 (by assumption) (by omega) (by decide) ?_
      generalize hw3 : s_up w2 T _ = w3
      have t3 : w3.1 T = aN G 9 (updN t (i % C * R + i / C) (E i)) := by rw [← hw3]; exact s_upS
      have p3 : w3.1 p = aN G 36 f := by rw [← hw3, s_upN hpT]; exact p2
      first | refine nL_turn_62 ?_ | refine qL_turn_62 ?_
      refine qL_turn_65 ?_
      refine ih (i + 1) w3 _ (by omega) (by rw [← hw3]; exact z2) (fun q q1 q2 => by rw [← hw3, s_upN q2]; exact o2 q q1 q2) p3 t3 (fun q hq => ?_)
      show (if q % C * R + q / C = i % C * R + i / C then E i else t (q % C * R + q / C)) = _
      by_cases hqi : q = i
      · subst hqi
        rw [if_pos rfl]
      · rw [if_neg ?_]
        · exact ht q (by omega)
        · intro he
          have hq3 : q / C < R := dvlt (by omega)
          have e1 : (q % C * R + q / C) % R = (i % C * R + i / C) % R := by rw [he]
          have e2 : (q % C * R + q / C) / R = (i % C * R + i / C) / R := by rw [he]
          rw [md1 hq3, md1 hq1] at e1
          rw [dv1 hq3, dv1 hq1] at e2
          apply hqi
          rw [← mdv (q := q) (C := C), ← mdv (q := i) (C := C), e1, e2]
  exact L1 (R * C) 0 w1 _ (by omega) z1 o1 p1 t1 (fun q hq => absurd hq (Nat.not_lt_zero q))
end LTURN
