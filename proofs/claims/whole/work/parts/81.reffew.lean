/-! the reference: the fewest sets -/
theorem subm : ∀ n T p r, r < 2 ^ n → subB T r → subB p r → T < p → T ≤ (p - 1) &&& r
  | 0, T, p, r, hr, hT, hp, h => by
    have : r = 0 := by omega
    subst this
    have := sub_le hp
    omega
  | n + 1, T, p, r, hr, hT, hp, h => by
    have half : ∀ x, subB x r → subB (x / 2) (r / 2) := fun x hx y hy => by
      rw [Nat.testBit_div_two] at hy ⊢
      exact hx _ hy
    have par : ∀ x, subB x r → x % 2 = 1 → r % 2 = 1 := fun x hx h1 => by
      have := hx 0 (by rw [Nat.testBit_zero, decide_eq_true h1])
      rw [Nat.testBit_zero, decide_eq_true_eq] at this
      exact this
    have e1 : ((p - 1) &&& r) / 2 = (p - 1) / 2 &&& r / 2 := Nat.and_div_two
    have e2 : ((p - 1) &&& r) % 2 = 1 ↔ (p - 1) % 2 = 1 ∧ r % 2 = 1 := Nat.and_mod_two_eq_one
    have hTp := par T hT
    by_cases hp1 : p % 2 = 1
    · have h3 : (p - 1) / 2 = p / 2 := by omega
      have h4 : p / 2 &&& r / 2 = p / 2 := by
        apply Nat.eq_of_testBit_eq
        intro j
        rw [Nat.testBit_and]
        cases hq : (p / 2).testBit j with
        | false => simp
        | true => rw [half p hp j hq]; rfl
      rw [h3, h4] at e1
      omega
    · have h3 : (p - 1) / 2 = p / 2 - 1 := by omega
      have ih := subm n (T / 2) (p / 2) (r / 2) (by rw [Nat.pow_succ] at hr; omega) (half T hT) (half p hp) (by omega)
      rw [h3] at e1
      rw [← e1] at ih
      have : (p - 1) % 2 = 1 := by omega
      have e3 : ((p - 1) &&& r) % 2 = 1 ↔ r % 2 = 1 := by
        rw [e2]
        exact ⟨fun z => z.2, fun z => ⟨this, z⟩⟩
      omega
def lbF : Nat → Nat → Nat
  | 0, _ => 0
  | k + 1, S => if S % 2 = 1 then 0 else lbF k (S / 2) + 1
def lbN (S : Nat) : Nat := lbF 12 S
theorem lb_ok2 : ∀ i, i < 64 → ∀ j, j < 64 → i * 64 + j ≠ 0 → (nI (i * 64 + j) &&& -(nI (i * 64 + j)) = nI (2 ^ lbN (i * 64 + j)) ∧ (i * 64 + j).testBit (lbN (i * 64 + j)) = true) := by decide +kernel
theorem lb_ok {S : Nat} (h : S < 4096) (h0 : S ≠ 0) : nI S &&& -(nI S) = nI (2 ^ lbN S) ∧ S.testBit (lbN S) = true := by
  have := lb_ok2 (S / 64) (by omega) (S % 64) (Nat.mod_lt _ (by decide)) (by omega)
  rw [show S / 64 * 64 + S % 64 = S by omega] at this
  exact this
theorem ls_1 {S : Nat} (h : S < 4096) : nI S &&& (nI S - nI 1) = nI (S &&& (S - 1)) := by
  by_cases h0 : S = 0
  · subst h0; decide
  · rw [pk_sub (by omega), nI_and]
def psF (U : Nat → Bool) (F : Nat → Nat) (S : Nat) : Prop := S.testBit (lbN S) = true ∧ (∀ T, subB T (S ^^^ 2 ^ lbN S) → U (T ||| 2 ^ lbN S) = false → F S ≤ F ((S ^^^ 2 ^ lbN S) ^^^ T) + 1) ∧ (F S = 13 ∨ ∃ T, subB T (S ^^^ 2 ^ lbN S) ∧ U (T ||| 2 ^ lbN S) = false ∧ F S = F ((S ^^^ 2 ^ lbN S) ^^^ T) + 1)
theorem rest_sub {S b T : Nat} (hb : S.testBit b = true) (hT : subB T (S ^^^ 2 ^ b)) : subB (S ^^^ 2 ^ b) S ∧ subB ((S ^^^ 2 ^ b) ^^^ T) S ∧ (S ^^^ 2 ^ b) ^^^ T < S := by
  have rb : ∀ x, (S ^^^ 2 ^ b).testBit x = (S.testBit x && !decide (x = b)) := by
    intro x
    rw [Nat.testBit_xor, Nat.testBit_two_pow]
    by_cases hx : b = x
    · subst hx; simp [hb]
    · simp [hx, Ne.symm hx]
  have bb : ∀ x, ((S ^^^ 2 ^ b) ^^^ T).testBit x = (S.testBit x && !decide (x = b) && !T.testBit x) := by
    intro x
    rw [Nat.testBit_xor, rb]
    cases hq : T.testBit x with
    | false => simp
    | true =>
      have := hT x hq
      rw [rb] at this
      rw [this]
      rfl
  have h1 : subB (S ^^^ 2 ^ b) S := fun x hx => by
    rw [rb, Bool.and_eq_true] at hx
    exact hx.1
  have h2 : subB ((S ^^^ 2 ^ b) ^^^ T) S := fun x hx => by
    rw [bb, Bool.and_eq_true, Bool.and_eq_true] at hx
    exact hx.1.1
  refine ⟨h1, h2, ?_⟩
  have hle := sub_le h2
  have hne : (S ^^^ 2 ^ b) ^^^ T ≠ S := fun z => by
    have := bb b
    rw [z, hb] at this
    simp at this
  omega
theorem psF_up {U : Nat → Bool} {F : Nat → Nat} {S S' v : Nat} (h : psF U F S') (hlt : S' < S) : psF U (updN F S v) S' := by
  obtain ⟨h1, h2, h3⟩ := h
  refine ⟨h1, fun T hT hU => ?_, ?_⟩
  · have := (rest_sub h1 hT).2.2
    rw [updN_n (by omega), updN_n (by omega)]
    exact h2 T hT hU
  · rcases h3 with h3 | ⟨T, hT, hU, he⟩
    · exact Or.inl (by rw [updN_n (by omega)]; exact h3)
    · have := (rest_sub h1 hT).2.2
      exact Or.inr ⟨T, hT, hU, by rw [updN_n (by omega), updN_n (by omega)]; exact he⟩
theorem unt_mon {R C : Nat} {a : Nat → Nat} (hd : okD R C) : monU (R * C) (untN R C a) := fun _ _ hT hs h => unt_mono hd hT hs (Nat.lt_of_le_of_lt (sub_le hs) hT) h
section REFF
variable {G : sG} {d D : Nat} {P : sQ} {w : sW} {v : M7} {st : Nat → Nat} {s : xS}
set_option maxHeartbeats 1000000 in
theorem m_findTouched {i : Nat} (h : mO w D v) (hs : w.1 (D + 1) = aN G 42 st) (htc : ∃ f, w.1 (D + 9) = aN G 4096 f) (hst : ∃ f, w.1 (D + 11) = aI G 16 f) (hi : i < 3) (ho : okV (vwA st i)) (k : ∀ w' tc, Fr w w' (fun q => q = D + 9 ∨ q = D + 11) → w'.1 (D + 9) = aN G 4096 tc → (∀ T, T < 2 ^ (rR st i * rC st i) → tc T = tf (!untN (rR st i) (rC st i) (rE st i) T)) → (∃ f, w'.1 (D + 11) = aI G 16 f) → P none w') : wpM G (d + 4) yX10_findTouched (0, 0) [.ref D, .int (nI i)] w P := by
  have hd : okD (rR st i) (rC st i) := ho.1
  have ha : ∀ q, q < rR st i * rC st i → rE st i q ≤ 999 := ho.2
  have hsz : rR st i * rC st i ≤ 12 := hd.2.2.2.2
  have hp : 2 ^ (rR st i * rC st i) ≤ 4096 := Nat.pow_le_pow_right (n := 2) (by decide) hsz
  obtain ⟨tc0, htc⟩ := htc
  refine eX10_findTouched ?_
  refine qX10_findTouched_0 ?_
  refine qX10_findTouched_1 ?_
  have L : ∀ m S (w' : sW) (tc : Nat → Nat) (l3 : Option Value), S + m = 2 ^ (rR st i * rC st i) → Fr w w' (fun q => q = D + 9 ∨ q = D + 11) → w'.1 (D + 9) = aN G 4096 tc → (∀ T, T < S → tc T = tf (!untN (rR st i) (rC st i) (rE st i) T)) → (∃ f, w'.1 (D + 11) = aI G 16 f) → wp G (d + 3) mX10_findTouched P 2 [some (.ref D), some (.int (nI i)), some (.int (nI S)), l3] [] w' (0, 0) := by
    intro m
    induction m with
    | zero =>
      intro S w' tc l3 hS hF htc htcv hst
      have m1 : mO w' D v := (hF.2 D (by omega)).trans h
      have q1 : w'.1 (D + 1) = aN G 42 st := by rw [hF.2 _ (by omega)]; exact hs
      refine qX10_findTouched_2 ?_
      refine qX10_findTouched_3 ?_
      refine qX10_findTouched_4 ?_
      refine qX10_findTouched_5 ?_
      refine qX10_findTouched_6 (by assumption) (Nat.le_of_ble_eq_true rfl) (m_entriesOf m1 q1 hi ?_)
      refine nX10_findTouched_9 (by omega) (by omega) ?_
      rw [Nat.one_shiftLeft]
      refine nX10_findTouched_10 (by omega) (by omega) (fun h10 => ?_) (fun h10 => by exfalso; omega)
      refine qX10_findTouched_59 ?_
      exact k w' tc hF htc (fun T hT => htcv T (by omega)) hst
    | succ m ih =>
      intro S w' tc l3 hS hF htc htcv hst
      have m1 : mO w' D v := (hF.2 D (by omega)).trans h
      have q1 : w'.1 (D + 1) = aN G 42 st := by rw [hF.2 _ (by omega)]; exact hs
      refine qX10_findTouched_2 ?_
      refine qX10_findTouched_3 ?_
      refine qX10_findTouched_4 ?_
      refine qX10_findTouched_5 ?_
      refine qX10_findTouched_6 (by assumption) (Nat.le_of_ble_eq_true rfl) (m_entriesOf m1 q1 hi ?_)
      refine nX10_findTouched_9 (by omega) (by omega) ?_
      rw [Nat.one_shiftLeft]
      refine nX10_findTouched_10 (by omega) (by omega) (fun h10 => by exfalso; omega) (fun h10 => ?_)
      refine qX10_findTouched_13 ?_
      refine qX10_findTouched_14 ?_
      refine qX10_findTouched_15 ?_
      refine qX10_findTouched_16 ?_
      refine qX10_findTouched_17 ?_
      rw [ls_1 (by omega)]
      have fin : ∀ (w'' : sW) (x : Nat) (l3 : Option Value), x = tf (!untN (rR st i) (rC st i) (rE st i) S) → Fr w w'' (fun q => q = D + 9 ∨ q = D + 11) → w''.1 (D + 9) = aN G 4096 tc → (∃ f, w''.1 (D + 11) = aI G 16 f) → wp G (d + 3) mX10_findTouched P 52 [some (.ref D), some (.int (nI i)), some (.int (nI S)), l3] [.int (nI x), .int (nI S), .ref (D + 9)] w'' (0, 0) := by
        intro w'' x l3 hx hF2 htc2 hst2
        first | refine fX10_findTouched_52 (by assumption) (by omega) (by decide) ?_ | refine nX10_findTouched_52 (by assumption) (by omega) (by decide) ?_
        first | refine nX10_findTouched_53 ?_ | refine qX10_findTouched_53 ?_
        refine qX10_findTouched_56 ?_
        refine ih (S + 1) _ (updN tc S x) _ (by omega) (hF2.up (Or.inl rfl)) s_upS (fun T hT => ?_) (by obtain ⟨f, hf⟩ := hst2; exact ⟨f, by rw [s_upN (by omega)]; exact hf⟩)
        by_cases hTS : T = S
        · subst hTS; rw [updN_s]; exact hx
        · rw [updN_n hTS]; exact htcv T (by omega)
      refine qX10_findTouched_18 ?_
      refine qX10_findTouched_19 ?_
      refine qX10_findTouched_20 (by assumption) ?_
      refine qX10_findTouched_23 ?_
      refine qX10_findTouched_24 ?_
      refine nX10_findTouched_25 (by omega) (fun h25 => ?_) (fun h25 => ?_)
      · subst h25
        refine qX10_findTouched_47 ?_
        refine qX10_findTouched_48 ?_
        exact fin w' 1 _ (by rw [unt_0 hd]; rfl) hF htc hst
      · have hls : S &&& (S - 1) ≤ S - 1 := Nat.and_le_right
        have hv := htcv (S &&& (S - 1)) (by omega)
        have hsub : subB (S &&& (S - 1)) S := fun x hx => by
          rw [Nat.testBit_and, Bool.and_eq_true] at hx
          exact hx.1
        refine qX10_findTouched_28 ?_
        refine qX10_findTouched_29 (by assumption) ?_
        refine qX10_findTouched_32 ?_
        refine fX10_findTouched_33 htc (by omega) (by decide) ?_
        rw [hv]
        refine qX10_findTouched_34 ?_
        cases hul : untN (rR st i) (rC st i) (rE st i) (S &&& (S - 1)) with
        | true =>
          have hus : untN (rR st i) (rC st i) (rE st i) S = true := by
            cases hq : untN (rR st i) (rC st i) (rE st i) S with
            | true => rfl
            | false =>
              have := unt_mon hd _ _ (show S < 2 ^ (rR st i * rC st i) by omega) hsub hq
              rw [this] at hul
              exact absurd hul (by decide)
          show wp G (d + 3) mX10_findTouched P 35 _ (.int (nI 1) :: .int (nI 0) :: _) w' (0, 0)
          refine nX10_findTouched_35 (by omega) (by omega) (fun h35 => ?_) (fun h35 => by exfalso; omega)
          refine qX10_findTouched_51 ?_
          exact fin w' 0 _ (by rw [hus]; rfl) hF htc hst
        | false =>
          show wp G (d + 3) mX10_findTouched P 35 _ (.int (nI 1) :: .int (nI 1) :: _) w' (0, 0)
          refine nX10_findTouched_35 (by omega) (by omega) (fun h35 => by exfalso; omega) (fun h35 => ?_)
          refine qX10_findTouched_38 ?_
          refine qX10_findTouched_39 ?_
          refine qX10_findTouched_40 ?_
          refine qX10_findTouched_41 (by assumption) (Nat.le_of_ble_eq_true rfl) (m_isTouchable m1 q1 hst hi ho (by omega) (fun w2 hF2 hst2 => ?_))
          rw [tch_eq hd ha (by omega)]
          have hF3 : Fr w w2 (fun q => q = D + 9 ∨ q = D + 11) := hF.tr hF2 (fun q hq => Or.inr hq)
          have htc2 : w2.1 (D + 9) = aN G 4096 tc := by rw [hF2.2 _ (by omega)]; exact htc
          cases hus : untN (rR st i) (rC st i) (rE st i) S with
          | true =>
            show wp G (d + 3) mX10_findTouched P 44 _ (.int (nI 0) :: _) w2 (0, 0)
            refine nX10_findTouched_44 (by omega) (fun h44 => ?_) (fun h44 => by exfalso; omega)
            refine qX10_findTouched_51 ?_
            exact fin w2 0 _ (by rw [hus]; rfl) hF3 htc2 hst2
          | false =>
            show wp G (d + 3) mX10_findTouched P 44 _ (.int (nI 1) :: _) w2 (0, 0)
            refine nX10_findTouched_44 (by omega) (fun h44 => by exfalso; omega) (fun h44 => ?_)
            refine qX10_findTouched_47 ?_
            refine qX10_findTouched_48 ?_
            exact fin w2 1 _ (by rw [hus]; rfl) hF3 htc2 hst2
  exact L (2 ^ (rR st i * rC st i)) 0 w tc0 none (by omega) Fr.rf htc (fun T hT => absurd hT (Nat.not_lt_zero T)) hst
set_option maxHeartbeats 2000000 in
theorem m_findFewest {i : Nat} (h : mO w D v) (hs : w.1 (D + 1) = aN G 42 st) (htc : ∃ f, w.1 (D + 9) = aN G 4096 f) (hfw : ∃ f, w.1 (D + 10) = aN G 4096 f) (hst : ∃ f, w.1 (D + 11) = aI G 16 f) (hi : i < 3) (ho : okV (vwA st i)) (k : ∀ w' tc, Fr w w' (fun q => q = D + 9 ∨ q = D + 10 ∨ q = D + 11) → w'.1 (D + 9) = aN G 4096 tc → (∀ T, T < 2 ^ (rR st i * rC st i) → tc T = tf (!untN (rR st i) (rC st i) (rE st i) T)) → (∃ f, w'.1 (D + 10) = aN G 4096 f) → (∃ f, w'.1 (D + 11) = aI G 16 f) → P (some (.int (nI (ffN (untN (rR st i) (rC st i) (rE st i)) (rR st i * rC st i) (rR st i * rC st i)).1))) w') : wpM G (d + 5) yX10_findFewest (0, 0) [.ref D, .int (nI i)] w P := by
  have hd : okD (rR st i) (rC st i) := ho.1
  have ha : ∀ q, q < rR st i * rC st i → rE st i q ≤ 999 := ho.2
  have hsz : rR st i * rC st i ≤ 12 := hd.2.2.2.2
  have hn1 : 1 ≤ rR st i * rC st i := Nat.mul_le_mul hd.1 hd.2.2.1
  have hp : 2 ^ (rR st i * rC st i) ≤ 4096 := Nat.pow_le_pow_right (n := 2) (by decide) hsz
  have hp1 : 2 ^ 1 ≤ 2 ^ (rR st i * rC st i) := Nat.pow_le_pow_right (n := 2) (by decide) hn1
  obtain ⟨fw0, hfw⟩ := hfw
  refine eX10_findFewest ?_
  refine qX10_findFewest_0 ?_
  refine qX10_findFewest_1 ?_
  refine qX10_findFewest_2 (by assumption) (Nat.le_of_ble_eq_true rfl) (m_findTouched h hs htc hst hi ho (fun w1 tc hF1 htc1 htcv hst1 => ?_))
  have m1 : mO w1 D v := (hF1.2 D (by omega)).trans h
  have q1 : w1.1 (D + 1) = aN G 42 st := by rw [hF1.2 _ (by omega)]; exact hs
  have q2 : w1.1 (D + 10) = aN G 4096 fw0 := by rw [hF1.2 _ (by omega)]; exact hfw
  refine qX10_findFewest_5 ?_
  refine qX10_findFewest_6 ?_
  refine qX10_findFewest_7 ?_
  refine qX10_findFewest_8 (by assumption) (Nat.le_of_ble_eq_true rfl) (m_entriesOf m1 q1 hi ?_)
  generalize hn : rR st i * rC st i = n at *
  generalize hU : untN (rR st i) (rC st i) (rE st i) = U at *
  have hmon : monU n U := by rw [← hn, ← hU]; exact unt_mon hd
  have hone : ∀ x, x < n → U (2 ^ x) = false := fun x hx => by rw [← hU]; exact unt_one hd (by rw [hn]; exact hx)
  have hzero : U 0 = false := by rw [← hU]; exact unt_0 hd
  refine nX10_findFewest_11 (by omega) (by omega) ?_
  rw [Nat.one_shiftLeft]
  refine qX10_findFewest_12 ?_
  first | refine nX10_findFewest_13 (by omega) ?_ | refine qX10_findFewest_13 ?_
  refine qX10_findFewest_14 ?_
  refine qX10_findFewest_15 ?_
  refine qX10_findFewest_16 (by assumption) ?_
  refine qX10_findFewest_19 ?_
  refine qX10_findFewest_20 ?_
  refine fX10_findFewest_21 q2 (by omega) (by decide) ?_
  generalize hw2 : s_up w1 (D + 10) _ = w2
  have hF2 : Fr w1 w2 (fun q => q = D + 10) := by rw [← hw2]; exact Fr.rf.up rfl
  have q3 : w2.1 (D + 10) = aN G 4096 (updN fw0 0 0) := by rw [← hw2]; exact s_upS
  refine qX10_findFewest_22 ?_
  refine qX10_findFewest_23 ?_
  have L : ∀ m S (w' : sW) (fw : Nat → Nat) (l4 l5 l6 l7 l8 : Option Value), S + m = 2 ^ n → 1 ≤ S → Fr w1 w' (fun q => q = D + 10) → w'.1 (D + 10) = aN G 4096 fw → fw 0 = 0 → (∀ T, 0 < T → T < S → psF U fw T) → (∀ T, T < S → fw T ≤ 13) → wp G (d + 4) mX10_findFewest P 24 [some (.ref D), some (.int (nI i)), some (.int (nI (2 ^ n - 1))), some (.int (nI S)), l4, l5, l6, l7, l8] [] w' (0, 0) := by
    intro m
    induction m with
    | zero =>
      intro S w' fw l4 l5 l6 l7 l8 hS h1 hF hfw hf0 hps hb
      have m2 : mO w' D v := (hF.2 D (by omega)).trans m1
      obtain ⟨e1, e2, e3⟩ := ff_fw hmon hn1 hsz hone hzero ⟨hf0, fun T hT hT2 => hps T hT (by omega)⟩
      have hkk := k w' tc ((hF1.mono (fun q hq => by omega)).tr hF (fun q hq => Or.inr (Or.inl hq))) (by rw [hF.2 _ (by omega)]; exact htc1) htcv ⟨fw, hfw⟩ (by obtain ⟨f, hf⟩ := hst1; exact ⟨f, by rw [hF.2 _ (by omega)]; exact hf⟩)
      rw [e1] at hkk
      refine qX10_findFewest_24 ?_
      refine qX10_findFewest_25 ?_
      refine nX10_findFewest_26 (by omega) (by omega) (fun h26 => ?_) (fun h26 => by exfalso; omega)
      refine qX10_findFewest_149 ?_
      refine qX10_findFewest_150 (by assumption) ?_
      refine qX10_findFewest_153 ?_
      refine fX10_findFewest_154 hfw (by omega) (by decide) ?_
      refine qX10_findFewest_155 ?_
      exact hkk
    | succ m ih =>
      intro S w' fw l4 l5 l6 l7 l8 hS h1 hF hfw hf0 hps hb
      have m2 : mO w' D v := (hF.2 D (by omega)).trans m1
      have htc2 : w'.1 (D + 9) = aN G 4096 tc := by rw [hF.2 _ (by omega)]; exact htc1
      obtain ⟨b1, b2⟩ := lb_ok (show S < 4096 by omega) (by omega)
      generalize hlb : lbN S = b at *
      have hbn : b < n := by
        apply Nat.lt_of_not_le
        intro hle
        have := Nat.testBit_lt_two_pow (Nat.lt_of_lt_of_le (show S < 2 ^ n by omega) (Nat.pow_le_pow_right (by decide) hle))
        rw [this] at b2
        exact absurd b2 (by decide)
      have hpb : 2 ^ b < 2 ^ n := Nat.pow_lt_pow_right (by decide) hbn
      have hrl : S ^^^ 2 ^ b < 2 ^ n := Nat.xor_lt_two_pow (by omega) hpb
      refine qX10_findFewest_24 ?_
      refine qX10_findFewest_25 ?_
      refine nX10_findFewest_26 (by omega) (by omega) (fun h26 => by exfalso; omega) (fun h26 => ?_)
      refine qX10_findFewest_29 ?_
      refine qX10_findFewest_30 ?_
      refine qX10_findFewest_31 ?_
      refine qX10_findFewest_32 ?_
      rw [b1]
      refine qX10_findFewest_33 ?_
      refine qX10_findFewest_35 ?_
      refine qX10_findFewest_36 ?_
      first | refine nX10_findFewest_38 ?_ | refine qX10_findFewest_38 ?_
      refine qX10_findFewest_39 ?_
      refine qX10_findFewest_41 ?_
      refine qX10_findFewest_43 ?_
      refine qX10_findFewest_45 ?_
      refine qX10_findFewest_47 ?_
      -- behind all parts
      have fin : ∀ least (l7 l8 : Option Value), least ≤ 12 → (∀ T, subB T (S ^^^ 2 ^ b) → U (T ||| 2 ^ b) = false → least ≤ fw ((S ^^^ 2 ^ b) ^^^ T)) → (least = 12 ∨ ∃ T, subB T (S ^^^ 2 ^ b) ∧ U (T ||| 2 ^ b) = false ∧ least = fw ((S ^^^ 2 ^ b) ^^^ T)) → wp G (d + 4) mX10_findFewest P 133 [some (.ref D), some (.int (nI i)), some (.int (nI (2 ^ n - 1))), some (.int (nI S)), some (.int (nI (2 ^ b))), some (.int (nI (S ^^^ 2 ^ b))), some (.int (nI least)), l7, l8] [] w' (0, 0) := by
        intro least l7 l8 hl12 hl1 hl2
        refine qX10_findFewest_133 ?_
        refine qX10_findFewest_134 (by assumption) ?_
        refine qX10_findFewest_137 ?_
        refine qX10_findFewest_138 ?_
        refine qX10_findFewest_140 ?_
        first | refine nX10_findFewest_141 ?_ | refine qX10_findFewest_141 ?_
        refine fX10_findFewest_142 hfw (by omega) (by decide) ?_
        first | refine nX10_findFewest_143 ?_ | refine qX10_findFewest_143 ?_
        refine qX10_findFewest_146 ?_
        refine ih (S + 1) _ (updN fw S (least + 1)) _ _ _ _ _ (by omega) (by omega) (hF.up rfl) s_upS (by rw [updN_n (by omega)]; exact hf0) (fun T hT hT2 => ?_) (fun T hT => ?_)
        · by_cases hTS : T = S
          · subst hTS
            refine ⟨by rw [hlb]; exact b2, fun T' hT' hU' => ?_, ?_⟩
            · rw [hlb] at hT' hU' ⊢
              have := (rest_sub b2 hT').2.2
              rw [updN_s, updN_n (by omega)]
              have := hl1 T' hT' hU'
              omega
            · rw [hlb]
              rcases hl2 with hl2 | ⟨T', hT', hU', he⟩
              · exact Or.inl (by rw [updN_s, hl2])
              · have := (rest_sub b2 hT').2.2
                exact Or.inr ⟨T', hT', hU', by rw [updN_s, updN_n (by omega), he]⟩
          · exact psF_up (hps T hT (by omega)) (by omega)
        · by_cases hTS : T = S
          · subst hTS; rw [updN_s]; omega
          · rw [updN_n hTS]; exact hb T (by omega)
      have L2 : ∀ p least (l8 : Option Value), subB p (S ^^^ 2 ^ b) → least ≤ 12 → (∀ T, subB T (S ^^^ 2 ^ b) → p < T → U (T ||| 2 ^ b) = false → least ≤ fw ((S ^^^ 2 ^ b) ^^^ T)) → (least = 12 ∨ ∃ T, subB T (S ^^^ 2 ^ b) ∧ U (T ||| 2 ^ b) = false ∧ least = fw ((S ^^^ 2 ^ b) ^^^ T)) → wp G (d + 4) mX10_findFewest P 49 [some (.ref D), some (.int (nI i)), some (.int (nI (2 ^ n - 1))), some (.int (nI S)), some (.int (nI (2 ^ b))), some (.int (nI (S ^^^ 2 ^ b))), some (.int (nI least)), some (.int (nI p)), l8] [] w' (0, 0) := by
        intro p
        induction p using Nat.strongRecOn with
        | ind p ihp =>
          intro least l8 hsub hl12 hl1 hl2
          have hple := sub_le hsub
          have hor : p ||| 2 ^ b < 2 ^ n := Nat.or_lt_two_pow (by omega) hpb
          have htv := htcv (p ||| 2 ^ b) hor
          obtain ⟨_, _, hxl⟩ := rest_sub b2 hsub
          have hfb := hb _ hxl
          -- go on with the least of both
          have nxt : ∀ (least' : Nat) (l8 : Option Value), least' ≤ 12 → (∀ T, subB T (S ^^^ 2 ^ b) → p ≤ T → U (T ||| 2 ^ b) = false → least' ≤ fw ((S ^^^ 2 ^ b) ^^^ T)) → (least' = 12 ∨ ∃ T, subB T (S ^^^ 2 ^ b) ∧ U (T ||| 2 ^ b) = false ∧ least' = fw ((S ^^^ 2 ^ b) ^^^ T)) → wp G (d + 4) mX10_findFewest P 112 [some (.ref D), some (.int (nI i)), some (.int (nI (2 ^ n - 1))), some (.int (nI S)), some (.int (nI (2 ^ b))), some (.int (nI (S ^^^ 2 ^ b))), some (.int (nI least')), some (.int (nI p)), l8] [] w' (0, 0) := by
            intro least' l8 g1 g2 g3
            refine qX10_findFewest_112 ?_
            refine nX10_findFewest_114 (by omega) (fun h114 => ?_) (fun h114 => ?_)
            · refine qX10_findFewest_121 ?_
              refine qX10_findFewest_123 ?_
              first | refine nX10_findFewest_124 (by omega) ?_ | refine qX10_findFewest_124 ?_
              refine qX10_findFewest_125 ?_
              first | refine nX10_findFewest_127 ?_ | refine qX10_findFewest_127 ?_
              refine qX10_findFewest_128 ?_
              refine qX10_findFewest_130 ?_
              refine ihp ((p - 1) &&& (S ^^^ 2 ^ b)) (by
                have : (p - 1) &&& (S ^^^ 2 ^ b) ≤ p - 1 := Nat.and_le_left
                omega) least' l8 (fun x hx => by
                rw [Nat.testBit_and, Bool.and_eq_true] at hx
                exact hx.2) g1 (fun T hT hpT hUT => ?_) g3
              refine g2 T hT ?_ hUT
              apply Nat.le_of_not_lt
              intro hlt
              have := subm n T p (S ^^^ 2 ^ b) hrl hT hsub hlt
              omega
            · subst h114
              refine qX10_findFewest_117 ?_
              refine qX10_findFewest_118 ?_
              refine qX10_findFewest_128 ?_
              refine qX10_findFewest_130 ?_
              refine qX10_findFewest_49 ?_
              refine qX10_findFewest_51 (fun _ => ?_) (fun hz => absurd (by decide) hz)
              exact fin least' _ _ g1 (fun T hT hUT => g2 T hT (Nat.zero_le _) hUT) g3
          refine qX10_findFewest_49 ?_
          refine nX10_findFewest_51 (by omega) (fun hz => absurd hz (Nat.not_lt_zero _)) (fun _ => ?_)
          have keep : (U (p ||| 2 ^ b) = false → least ≤ fw ((S ^^^ 2 ^ b) ^^^ p)) → wp G (d + 4) mX10_findFewest P 87 [some (.ref D), some (.int (nI i)), some (.int (nI (2 ^ n - 1))), some (.int (nI S)), some (.int (nI (2 ^ b))), some (.int (nI (S ^^^ 2 ^ b))), some (.int (nI least)), some (.int (nI p)), l8] [] w' (0, 0) := by
            intro hkp
            refine qX10_findFewest_87 ?_
            refine qX10_findFewest_88 ?_
            refine qX10_findFewest_90 ?_
            refine nX10_findFewest_92 (by omega) (fun h92 => ?_) (fun h92 => by exfalso; omega)
            refine qX10_findFewest_108 ?_
            refine qX10_findFewest_110 ?_
            refine nxt least _ hl12 (fun T hT hpT hUT => ?_) hl2
            by_cases hTp : T = p
            · subst hTp; exact hkp hUT
            · exact hl1 T hT (by omega) hUT
          refine qX10_findFewest_54 ?_
          refine qX10_findFewest_55 (by assumption) ?_
          refine qX10_findFewest_58 ?_
          refine qX10_findFewest_60 ?_
          first | refine nX10_findFewest_62 ?_ | refine qX10_findFewest_62 ?_
          refine fX10_findFewest_63 htc2 (by omega) (by decide) ?_
          rw [htv]
          refine qX10_findFewest_64 ?_
          cases hup : U (p ||| 2 ^ b) with
          | true =>
            show wp G (d + 4) mX10_findFewest P 65 _ (.int (nI 1) :: .int (nI 0) :: []) w' (0, 0)
            refine nX10_findFewest_65 (by omega) (by omega) (fun h65 => ?_) (fun h65 => by exfalso; omega)
            exact keep (fun z => by rw [hup] at z; exact absurd z (by decide))
          | false =>
            show wp G (d + 4) mX10_findFewest P 65 _ (.int (nI 1) :: .int (nI 1) :: []) w' (0, 0)
            refine nX10_findFewest_65 (by omega) (by omega) (fun h65 => by exfalso; omega) (fun h65 => ?_)
            refine qX10_findFewest_68 ?_
            refine qX10_findFewest_69 (by assumption) ?_
            refine qX10_findFewest_72 ?_
            refine qX10_findFewest_74 ?_
            first | refine nX10_findFewest_76 ?_ | refine qX10_findFewest_76 ?_
            refine fX10_findFewest_77 hfw (by omega) (by decide) ?_
            refine qX10_findFewest_78 ?_
            refine nX10_findFewest_80 (by omega) (by omega) (fun h80 => ?_) (fun h80 => ?_)
            · exact keep (fun _ => h80)
            · refine qX10_findFewest_83 ?_
              refine qX10_findFewest_84 ?_
              refine qX10_findFewest_88 ?_
              refine qX10_findFewest_90 ?_
              refine nX10_findFewest_92 (by omega) (fun h92 => by exfalso; omega) (fun h92 => ?_)
              refine qX10_findFewest_95 ?_
              refine qX10_findFewest_96 (by assumption) ?_
              refine qX10_findFewest_99 ?_
              refine qX10_findFewest_101 ?_
              first | refine nX10_findFewest_103 ?_ | refine qX10_findFewest_103 ?_
              refine fX10_findFewest_104 hfw (by omega) (by decide) ?_
              refine qX10_findFewest_105 ?_
              refine qX10_findFewest_110 ?_
              refine nxt _ _ (by omega) (fun T hT hpT hUT => ?_) (Or.inr ⟨p, hsub, hup, rfl⟩)
              by_cases hTp : T = p
              · subst hTp; exact Nat.le_refl _
              · have := hl1 T hT (by omega) hUT
                omega
      refine L2 (S ^^^ 2 ^ b) 12 _ (fun x hx => hx) (Nat.le_refl _) (fun T hT hlt _ => ?_) (Or.inl rfl)
      have := sub_le hT
      omega
  exact L (2 ^ n - 1) 1 w2 (updN fw0 0 0) none none none none none (by omega) (Nat.le_refl 1) hF2 q3 updN_s (fun T h1 h2 => by omega) (fun T hT => by
    rw [show T = 0 by omega, updN_s]
    omega)
end REFF
