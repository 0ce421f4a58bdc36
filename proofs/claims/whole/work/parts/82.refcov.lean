/-! the reference: covers -/
theorem ff_some {U : Nat → Bool} {n : Nat} (hs : (fiL U n n).isSome = true) : ∀ m, 1 ≤ m → m ≤ n → ∃ r, r ≤ n ∧ ffN U n m = (r, fiL U n r) ∧ (fiL U n r).isSome = true
  | 0, h, _ => by omega
  | m + 1, _, hm => by
    simp only [ffN]
    by_cases c : (fiL U n (n - m)).isSome = true
    · rw [if_pos c]
      exact ⟨n - m, by omega, rfl, c⟩
    · rw [if_neg c]
      by_cases hm0 : m = 0
      · subst hm0
        exact absurd hs c
      · exact ff_some hs m (by omega) (by omega)
theorem ff_ok {R C : Nat} {a : Nat → Nat} (hd : okD R C) : ∃ l, (ffN (untN R C a) (R * C) (R * C)).2 = some l ∧ gT (untN R C a) (ffN (untN R C a) (R * C) (R * C)).1 (R * C) 0 (fun _ => 0) = some l ∧ (ffN (untN R C a) (R * C) (R * C)).1 ≤ R * C := by
  have hn1 : 1 ≤ R * C := Nat.mul_le_mul hd.1 hd.2.2.1
  have hm := unt_mon (a := a) hd
  have hs : (fiL (untN R C a) (R * C) (R * C)).isSome = true := (fi_col hm (unt_0 hd)).mpr ⟨fun i => i, fun i hi _ => hi, fun q hq => by
    refine hm _ (2 ^ q) (Nat.pow_lt_pow_right (by decide) hq) (fun x hx => ?_) (unt_one hd hq)
    rw [mkB_bit] at hx
    simp only [Bool.and_eq_true, decide_eq_true_eq] at hx
    rw [hx.2.2, Nat.testBit_two_pow_self]⟩
  obtain ⟨r, h1, h2, h3⟩ := ff_some hs (R * C) hn1 (Nat.le_refl _)
  obtain ⟨l, hl⟩ := Option.isSome_iff_exists.mp h3
  rw [h2]
  exact ⟨l, hl, by rw [← fiL_gT]; exact hl, h1⟩
theorem ffOK_ok : ffOK := fun R C a hd _ => by
  obtain ⟨l, h1, _⟩ := ff_ok (a := a) hd
  exact ⟨l, h1⟩
def pwO (nm : Nat → Nat) (p : Nat) : Nat → Nat := fun c => mkB (fun k => decide (nm k = c)) p
theorem pwO_eq {nm nm' : Nat → Nat} {p : Nat} (h : ∀ i, i < p → nm' i = nm i) : pwO nm' p = pwO nm p := by
  funext c
  unfold pwO
  exact mkB_ext (fun k hk => by rw [h k hk])
theorem pwO_succ {nm : Nat → Nat} {p : Nat} : pwO nm (p + 1) = updN (pwO nm p) (nm p) (pwO nm p (nm p) ||| 1 <<< p) := by
  funext c
  by_cases hc : c = nm p
  · subst hc
    rw [updN_s]
    unfold pwO
    simp only [mkB, decide_true, if_true]
  · rw [updN_n hc]
    unfold pwO
    have : ¬ nm p = c := fun z => hc z.symm
    simp only [mkB, decide_eq_false this, if_neg (show ¬ (false = true) by decide), Nat.or_zero]
theorem tf_1 {b : Bool} : tf b ≤ 1 := by cases b <;> decide
section REFZ
variable {G : sG} {d D : Nat} {P : sQ} {w : sW} {v : M7} {st : Nat → Nat} {s : xS}
theorem m_withNumber {p : Nat} {nm : Nat → Nat} (h : mO w D v) (hnm : w.1 (D + 12) = aN G 12 nm) (hp : p < 12) (hb : ∀ k, k ≤ p → nm k < 100) (k : P (some (.int (nI (mkB (fun k => decide (nm k = nm p)) (p + 1))))) w) : wpM G (d + 1) yX10_withNumber (0, 0) [.ref D, .int (nI p)] w P := by
  refine eX10_withNumber ?_
  refine qX10_withNumber_0 ?_
  refine qX10_withNumber_1 ?_
  refine qX10_withNumber_2 ?_
  refine qX10_withNumber_3 ?_
  have L : ∀ m j, j + m = p + 1 → wp G d mX10_withNumber P 4 [some (.ref D), some (.int (nI p)), some (.int (nI (mkB (fun k => decide (nm k = nm p)) j))), some (.int (nI j))] [] w (0, 0) := by
    intro m
    induction m with
    | zero =>
      intro j hj
      refine qX10_withNumber_4 ?_
      refine qX10_withNumber_5 ?_
      refine nX10_withNumber_6 (by omega) (by omega) (fun h6 => ?_) (fun h6 => by exfalso; omega)
      refine qX10_withNumber_40 ?_
      refine qX10_withNumber_41 ?_
      rw [show j = p + 1 by omega]
      exact k
    | succ m ih =>
      intro j hj
      have nx := ih (j + 1) (by omega)
      simp only [mkB] at nx
      have hbj := hb j (by omega)
      have hbp := hb p (Nat.le_refl _)
      have p2 : 1 * 2 ^ j ≤ 1 * 2 ^ 12 := Nat.mul_le_mul_left 1 (Nat.pow_le_pow_right (by decide) (by omega))
      refine qX10_withNumber_4 ?_
      refine qX10_withNumber_5 ?_
      refine nX10_withNumber_6 (by omega) (by omega) (fun h6 => by exfalso; omega) (fun h6 => ?_)
      refine qX10_withNumber_9 ?_
      refine qX10_withNumber_10 ?_
      refine qX10_withNumber_11 (by assumption) ?_
      refine qX10_withNumber_14 ?_
      first | refine fX10_withNumber_15 (by assumption) (by omega) (by decide) ?_ | refine nX10_withNumber_15 (by assumption) (by omega) (by decide) ?_
      refine qX10_withNumber_16 ?_
      refine qX10_withNumber_17 (by assumption) ?_
      refine qX10_withNumber_20 ?_
      first | refine fX10_withNumber_21 (by assumption) (by omega) (by decide) ?_ | refine nX10_withNumber_21 (by assumption) (by omega) (by decide) ?_
      refine nX10_withNumber_22 (by omega) (by omega) (fun h22 => ?_) (fun h22 => ?_)
      · rw [if_neg (by simp; exact h22)] at nx
        refine qX10_withNumber_31 ?_
        first | refine nX10_withNumber_32 ?_ | refine qX10_withNumber_32 ?_
        refine qX10_withNumber_33 ?_
        first | refine nX10_withNumber_34 ?_ | refine qX10_withNumber_34 ?_
        refine qX10_withNumber_37 ?_
        exact nx
      · rw [if_pos (by simp; exact h22)] at nx
        refine qX10_withNumber_25 ?_
        refine qX10_withNumber_26 ?_
        refine nX10_withNumber_27 (by omega) (by omega) ?_
        refine qX10_withNumber_28 ?_
        first | refine nX10_withNumber_32 ?_ | refine qX10_withNumber_32 ?_
        refine qX10_withNumber_33 ?_
        first | refine nX10_withNumber_34 ?_ | refine qX10_withNumber_34 ?_
        refine qX10_withNumber_37 ?_
        exact nx
  exact L (p + 1) 0 (by omega)
set_option maxHeartbeats 2000000 in
theorem m_findCover {i r n : Nat} {tc : Nat → Nat} {l : List Nat} {U : Nat → Bool} (h : mO w D v) (hs : w.1 (D + 1) = aN G 42 st) (hi : i < 3) (hn : rR st i * rC st i = n) (hn12 : n ≤ 12) (hn1 : 1 ≤ n) (hr : r ≤ 12) (htc : w.1 (D + 9) = aN G 4096 tc) (htcv : ∀ T, T < 2 ^ n → tc T = tf (!U T)) (hnm : ∃ f, w.1 (D + 12) = aN G 12 f) (hl : gT U r n 0 (fun _ => 0) = some l) (k : ∀ w' nm, Fr w w' (fun q => q = D + 12) → w'.1 (D + 12) = aN G 12 nm → (∀ i, i < n → nm i = l.getD i 0) → (∀ i, i < n → nm i < 100) → P none w') : wpM G (d + 3) yX10_findCover (0, 0) [.ref D, .int (nI i), .int (nI r)] w P := by
  obtain ⟨nm0, hnm⟩ := hnm
  have hp : 2 ^ n ≤ 4096 := Nat.pow_le_pow_right (n := 2) (by decide) hn12
  refine eX10_findCover ?_
  refine qX10_findCover_0 ?_
  refine qX10_findCover_1 ?_
  refine qX10_findCover_2 ?_
  refine qX10_findCover_3 (by assumption) ?_
  refine qX10_findCover_6 ?_
  refine qX10_findCover_7 ?_
  first | refine fX10_findCover_8 (by assumption) (by omega) (by decide) ?_ | refine nX10_findCover_8 (by assumption) (by omega) (by decide) ?_
  generalize hw1 : s_up w (D + 12) _ = w1
  have hF1 : Fr w w1 (fun q => q = D + 12) := by rw [← hw1]; exact Fr.rf.up rfl
  have e1 : w1.1 (D + 12) = aN G 12 (updN nm0 0 0) := by rw [← hw1]; exact s_upS
  have ent : ∀ {Q : sQ} {w' : sW}, Fr w w' (fun q => q = D + 12) → Q (some (.int (nI n))) w' → wpM G (d + 2) yX10_entriesOf (0, 0) [.ref D, .int (nI i)] w' Q := fun {Q w'} hF kq => m_entriesOf ((hF.2 D (by omega)).trans h : mO w' D v) (by rw [hF.2 _ (by omega)]; exact hs) hi (by rw [hn]; exact kq)
  have at9 : ∀ p (w' : sW), p < n → Fr w w' (fun q => q = D + 12) → wp G (d + 2) mX10_findCover P 18 [some (.ref D), some (.int (nI i)), some (.int (nI r)), some (.int (nI p))] [] w' (0, 0) → wp G (d + 2) mX10_findCover P 9 [some (.ref D), some (.int (nI i)), some (.int (nI r)), some (.int (nI p))] [] w' (0, 0) := by
    intro p w' hpn hF kk
    have m0 : mO w' D v := (hF.2 D (by omega)).trans h
    refine qX10_findCover_9 ?_
    refine qX10_findCover_10 ?_
    refine qX10_findCover_11 ?_
    refine qX10_findCover_12 (by assumption) (Nat.le_of_ble_eq_true rfl) (ent hF ?_)
    refine nX10_findCover_15 (by omega) (by omega) (fun h15 => by exfalso; omega) (fun h15 => ?_)
    exact kk
  have dfs : ∀ m p, p + (m + 1) = n → ∀ t q (w' : sW) (nm : Nat → Nat), q + t = r → nm p = q → (∀ i, i < p → nm i < r) → Fr w w' (fun q => q = D + 12) → w'.1 (D + 12) = aN G 12 nm → (∀ (l : List Nat) (w'' : sW) (nm' : Nat → Nat), gS U (gT U r m (p + 1)) (pwO nm p) r p t = some l → Fr w w'' (fun q => q = D + 12) → w''.1 (D + 12) = aN G 12 nm' → (∀ i, i < p → nm' i = nm i) → (∀ i, i < m + 1 → nm' (p + i) = l.getD i 0) → (∀ i, i < n → nm' i < r) → wp G (d + 2) mX10_findCover P 9 [some (.ref D), some (.int (nI i)), some (.int (nI r)), some (.int (nI n))] [] w'' (0, 0)) → (∀ (w'' : sW) (nm' : Nat → Nat), gS U (gT U r m (p + 1)) (pwO nm p) r p t = none → Fr w w'' (fun q => q = D + 12) → w''.1 (D + 12) = aN G 12 nm' → (∀ i, i < p → nm' i = nm i) → nm' p = r → wp G (d + 2) mX10_findCover P 9 [some (.ref D), some (.int (nI i)), some (.int (nI r)), some (.int (nI p))] [] w'' (0, 0)) → wp G (d + 2) mX10_findCover P 9 [some (.ref D), some (.int (nI i)), some (.int (nI r)), some (.int (nI p))] [] w' (0, 0) := by
    intro m
    induction m with
    | zero =>
      intro p hpm t
      induction t with
      | zero =>
        intro q w' nm hq hnp hb hF hst hsu hfa
        exact hfa w' nm rfl hF hst (fun _ _ => rfl) (by omega)
      | succ t iht =>
        intro q w' nm hq hnp hb hF hst hsu hfa
        have m1 : mO w' D v := (hF.2 D (by omega)).trans h
        have htc1 : w'.1 (D + 9) = aN G 4096 tc := by rw [hF.2 _ (by omega)]; exact htc
        have hkk : r - (t + 1) = q := by omega
        have hwn : mkB (fun k => decide (nm k = nm p)) (p + 1) = pwO nm p q ||| 1 <<< p := by
          unfold pwO
          simp only [mkB, decide_true, if_true]
          rw [hnp]
        have hlt : pwO nm p q ||| 1 <<< p < 2 ^ n := by
          rw [← hwn]
          exact Nat.lt_of_lt_of_le (mkB_lt _ _) (Nat.pow_le_pow_right (by decide) (by omega))
        have htv := htcv _ hlt
        have gs : gS U (gT U r 0 (p + 1)) (pwO nm p) r p (t + 1) = if U (pwO nm p q ||| 1 <<< p) = false ∧ (gT U r 0 (p + 1) (updN (pwO nm p) q (pwO nm p q ||| 1 <<< p))).isSome = true then (gT U r 0 (p + 1) (updN (pwO nm p) q (pwO nm p q ||| 1 <<< p))).map (fun l => q :: l) else gS U (gT U r 0 (p + 1)) (pwO nm p) r p t := by
          simp only [gS]
          rw [hkk]
        have hbk : ∀ k, k ≤ p → nm k < 100 := fun k hk => by
          by_cases hkp : k = p
          · subst hkp; omega
          · have := hb k (by omega); omega
        refine at9 p w' (by omega) hF ?_
        refine qX10_findCover_18 ?_
        refine qX10_findCover_19 (by assumption) ?_
        refine qX10_findCover_22 ?_
        first | refine fX10_findCover_23 (by assumption) (by omega) (by decide) ?_ | refine nX10_findCover_23 (by assumption) (by omega) (by decide) ?_
        refine qX10_findCover_24 ?_
        rw [hnp]
        refine nX10_findCover_25 (by omega) (by omega) (fun h25 => ?_) (fun h25 => by exfalso; omega)
        refine qX10_findCover_44 ?_
        refine qX10_findCover_45 (by assumption) ?_
        refine qX10_findCover_48 ?_
        refine qX10_findCover_49 ?_
        refine qX10_findCover_50 (by assumption) (Nat.le_of_ble_eq_true rfl) (m_withNumber m1 hst (by omega) hbk ?_)
        rw [hwn]
        refine fX10_findCover_53 htc1 (by omega) (by decide) ?_
        rw [htv]
        refine qX10_findCover_54 ?_
        cases hup : U (pwO nm p q ||| 1 <<< p) with
        | false =>
          rw [if_pos ⟨hup, rfl⟩] at gs
          show wp G (d + 2) mX10_findCover P 55 _ (.int (nI 1) :: .int (nI 1) :: []) w' (0, 0)
          refine nX10_findCover_55 (by omega) (by omega) (fun h55 => by exfalso; omega) (fun h55 => ?_)
          first | refine nX10_findCover_58 ?_ | refine qX10_findCover_58 ?_
          refine qX10_findCover_61 ?_
          refine qX10_findCover_62 ?_
          refine qX10_findCover_63 ?_
          refine qX10_findCover_64 (by assumption) (Nat.le_of_ble_eq_true rfl) (ent hF ?_)
          refine nX10_findCover_67 (by omega) (by omega) (fun h67 => ?_) (fun h67 => by exfalso; omega)
          rw [show p + 1 = n by omega]
          exact hsu [q] w' nm gs hF hst (fun _ _ => rfl) (fun i hi => by rw [show i = 0 by omega]; exact hnp) (fun i hi => by
            by_cases hip : i = p
            · subst hip; omega
            · exact hb i (by omega))
        | true =>
          rw [if_neg (fun z => by rw [hup] at z; exact absurd z.1 (by decide))] at gs
          show wp G (d + 2) mX10_findCover P 55 _ (.int (nI 1) :: .int (nI 0) :: []) w' (0, 0)
          refine nX10_findCover_55 (by omega) (by omega) (fun h55 => ?_) (fun h55 => by exfalso; omega)
          refine qX10_findCover_80 ?_
          refine qX10_findCover_81 (by assumption) ?_
          refine qX10_findCover_84 ?_
          refine qX10_findCover_85 rfl rfl ?_
          first | refine fX10_findCover_86 (by assumption) (by omega) (by decide) ?_ | refine nX10_findCover_86 (by assumption) (by omega) (by decide) ?_
          rw [hnp]
          refine qX10_findCover_87 ?_
          first | refine nX10_findCover_88 ?_ | refine qX10_findCover_88 ?_
          first | refine fX10_findCover_89 (by assumption) (by omega) (by decide) ?_ | refine nX10_findCover_89 (by assumption) (by omega) (by decide) ?_
          refine qX10_findCover_90 ?_
          have epw : pwO (updN nm p (q + 1)) p = pwO nm p := pwO_eq (fun i hi => updN_n (by omega))
          refine iht (q + 1) _ (updN nm p (q + 1)) (by omega) updN_s (fun i hi => by rw [updN_n (by omega)]; exact hb i hi) (hF.up rfl) s_upS (fun l w'' nm' g1 g2 g3 g4 g5 g6 => ?_) (fun w'' nm' g1 g2 g3 g4 g5 => ?_)
          · rw [epw, ← gs] at g1
            exact hsu l w'' nm' g1 g2 g3 (fun i hi => by rw [g4 i hi, updN_n (by omega)]) g5 g6
          · rw [epw, ← gs] at g1
            exact hfa w'' nm' g1 g2 g3 (fun i hi => by rw [g4 i hi, updN_n (by omega)]) g5
    | succ m ihm =>
      intro p hpm t
      induction t with
      | zero =>
        intro q w' nm hq hnp hb hF hst hsu hfa
        exact hfa w' nm rfl hF hst (fun _ _ => rfl) (by omega)
      | succ t iht =>
        intro q w' nm hq hnp hb hF hst hsu hfa
        have m1 : mO w' D v := (hF.2 D (by omega)).trans h
        have htc1 : w'.1 (D + 9) = aN G 4096 tc := by rw [hF.2 _ (by omega)]; exact htc
        have hkk : r - (t + 1) = q := by omega
        have hwn : mkB (fun k => decide (nm k = nm p)) (p + 1) = pwO nm p q ||| 1 <<< p := by
          unfold pwO
          simp only [mkB, decide_true, if_true]
          rw [hnp]
        have hlt : pwO nm p q ||| 1 <<< p < 2 ^ n := by
          rw [← hwn]
          exact Nat.lt_of_lt_of_le (mkB_lt _ _) (Nat.pow_le_pow_right (by decide) (by omega))
        have htv := htcv _ hlt
        have gs : gS U (gT U r (m + 1) (p + 1)) (pwO nm p) r p (t + 1) = if U (pwO nm p q ||| 1 <<< p) = false ∧ (gT U r (m + 1) (p + 1) (updN (pwO nm p) q (pwO nm p q ||| 1 <<< p))).isSome = true then (gT U r (m + 1) (p + 1) (updN (pwO nm p) q (pwO nm p q ||| 1 <<< p))).map (fun l => q :: l) else gS U (gT U r (m + 1) (p + 1)) (pwO nm p) r p t := by
          simp only [gS]
          rw [hkk]
        -- on to the next number
        have next : ∀ (w'' : sW) (nm2 : Nat → Nat), (∀ i, i < p → nm2 i = nm i) → nm2 p = q + 1 → Fr w w'' (fun q => q = D + 12) → w''.1 (D + 12) = aN G 12 nm2 → gS U (gT U r (m + 1) (p + 1)) (pwO nm p) r p (t + 1) = gS U (gT U r (m + 1) (p + 1)) (pwO nm p) r p t → wp G (d + 2) mX10_findCover P 9 [some (.ref D), some (.int (nI i)), some (.int (nI r)), some (.int (nI p))] [] w'' (0, 0) := by
          intro w'' nm2 hpre hq2 hF2 hst2 ge
          have epw : pwO nm2 p = pwO nm p := pwO_eq hpre
          refine iht (q + 1) w'' nm2 (by omega) hq2 (fun i hi => by rw [hpre i hi]; exact hb i hi) hF2 hst2 (fun l w3 nm' g1 g2 g3 g4 g5 g6 => ?_) (fun w3 nm' g1 g2 g3 g4 g5 => ?_)
          · rw [epw, ← ge] at g1
            exact hsu l w3 nm' g1 g2 g3 (fun i hi => by rw [g4 i hi, hpre i hi]) g5 g6
          · rw [epw, ← ge] at g1
            exact hfa w3 nm' g1 g2 g3 (fun i hi => by rw [g4 i hi, hpre i hi]) g5
        have hbk : ∀ k, k ≤ p → nm k < 100 := fun k hk => by
          by_cases hkp : k = p
          · subst hkp; omega
          · have := hb k (by omega); omega
        refine at9 p w' (by omega) hF ?_
        refine qX10_findCover_18 ?_
        refine qX10_findCover_19 (by assumption) ?_
        refine qX10_findCover_22 ?_
        first | refine fX10_findCover_23 (by assumption) (by omega) (by decide) ?_ | refine nX10_findCover_23 (by assumption) (by omega) (by decide) ?_
        refine qX10_findCover_24 ?_
        rw [hnp]
        refine nX10_findCover_25 (by omega) (by omega) (fun h25 => ?_) (fun h25 => by exfalso; omega)
        refine qX10_findCover_44 ?_
        refine qX10_findCover_45 (by assumption) ?_
        refine qX10_findCover_48 ?_
        refine qX10_findCover_49 ?_
        refine qX10_findCover_50 (by assumption) (Nat.le_of_ble_eq_true rfl) (m_withNumber m1 hst (by omega) hbk ?_)
        rw [hwn]
        refine fX10_findCover_53 htc1 (by omega) (by decide) ?_
        rw [htv]
        refine qX10_findCover_54 ?_
        cases hup : U (pwO nm p q ||| 1 <<< p) with
        | false =>
          show wp G (d + 2) mX10_findCover P 55 _ (.int (nI 1) :: .int (nI 1) :: []) w' (0, 0)
          refine nX10_findCover_55 (by omega) (by omega) (fun h55 => by exfalso; omega) (fun h55 => ?_)
          first | refine nX10_findCover_58 ?_ | refine qX10_findCover_58 ?_
          refine qX10_findCover_61 ?_
          refine qX10_findCover_62 ?_
          refine qX10_findCover_63 ?_
          refine qX10_findCover_64 (by assumption) (Nat.le_of_ble_eq_true rfl) (ent hF ?_)
          refine nX10_findCover_67 (by omega) (by omega) (fun h67 => by exfalso; omega) (fun h67 => ?_)
          refine qX10_findCover_70 ?_
          refine qX10_findCover_71 (by assumption) ?_
          refine qX10_findCover_74 ?_
          refine qX10_findCover_75 ?_
          first | refine fX10_findCover_76 (by assumption) (by omega) (by decide) ?_ | refine nX10_findCover_76 (by assumption) (by omega) (by decide) ?_
          generalize hw4 : s_up w' (D + 12) _ = w4
          have hF4 : Fr w w4 (fun q => q = D + 12) := by rw [← hw4]; exact hF.up rfl
          have e4 : w4.1 (D + 12) = aN G 12 (updN nm (p + 1) 0) := by rw [← hw4]; exact s_upS
          have epw : pwO (updN nm (p + 1) 0) (p + 1) = updN (pwO nm p) q (pwO nm p q ||| 1 <<< p) := by
            rw [pwO_eq (nm := nm) (fun i hi => updN_n (by omega)), pwO_succ, hnp]
          refine qX10_findCover_77 ?_
          refine ihm (p + 1) (by omega) r 0 w4 (updN nm (p + 1) 0) (by omega) updN_s (fun i hi => by
            rw [updN_n (by omega)]
            by_cases hip : i = p
            · subst hip; omega
            · exact hb i (by omega)) hF4 e4 (fun l w'' nm' g1 g2 g3 g4 g5 g6 => ?_) (fun w'' nm' g1 g2 g3 g4 g5 => ?_)
          · rw [epw] at g1
            have g1 : gT U r (m + 1) (p + 1) (updN (pwO nm p) q (pwO nm p q ||| 1 <<< p)) = some l := g1
            rw [if_pos ⟨hup, by rw [g1]; rfl⟩, g1] at gs
            refine hsu (q :: l) w'' nm' gs g2 g3 (fun i hi => by rw [g4 i (by omega), updN_n (by omega)]) (fun i hi => ?_) g6
            cases i with
            | zero =>
              show nm' p = q
              rw [g4 p (by omega), updN_n (by omega), hnp]
            | succ i =>
              have := g5 i (by omega)
              rw [show p + 1 + i = p + (i + 1) by omega] at this
              exact this
          · rw [epw] at g1
            have g1 : gT U r (m + 1) (p + 1) (updN (pwO nm p) q (pwO nm p q ||| 1 <<< p)) = none := g1
            rw [if_neg (fun z => by rw [g1] at z; exact absurd z.2 (by decide))] at gs
            have m9 : mO w'' D v := (g2.2 D (by omega)).trans h
            refine at9 (p + 1) w'' (by omega) g2 ?_
            refine qX10_findCover_18 ?_
            refine qX10_findCover_19 (by assumption) ?_
            refine qX10_findCover_22 ?_
            first | refine fX10_findCover_23 (by assumption) (by omega) (by decide) ?_ | refine nX10_findCover_23 (by assumption) (by omega) (by decide) ?_
            refine qX10_findCover_24 ?_
            rw [g5]
            refine nX10_findCover_25 (by omega) (by omega) (fun h25 => by exfalso; omega) (fun h25 => ?_)
            first | refine nX10_findCover_28 ?_ | refine qX10_findCover_28 ?_
            refine qX10_findCover_31 ?_
            refine qX10_findCover_32 (by assumption) ?_
            refine qX10_findCover_35 ?_
            refine qX10_findCover_36 rfl rfl ?_
            first | refine fX10_findCover_37 (by assumption) (by omega) (by decide) ?_ | refine nX10_findCover_37 (by assumption) (by omega) (by decide) ?_
            rw [g4 p (by omega), updN_n (by omega), hnp]
            refine qX10_findCover_38 ?_
            first | refine nX10_findCover_39 ?_ | refine qX10_findCover_39 ?_
            first | refine fX10_findCover_40 (by assumption) (by omega) (by decide) ?_ | refine nX10_findCover_40 (by assumption) (by omega) (by decide) ?_
            refine qX10_findCover_41 ?_
            refine next _ (updN nm' p (q + 1)) (fun i hi => by rw [updN_n (by omega), g4 i (by omega), updN_n (by omega)]) updN_s (g2.up rfl) s_upS gs
        | true =>
          rw [if_neg (fun z => by rw [hup] at z; exact absurd z.1 (by decide))] at gs
          show wp G (d + 2) mX10_findCover P 55 _ (.int (nI 1) :: .int (nI 0) :: []) w' (0, 0)
          refine nX10_findCover_55 (by omega) (by omega) (fun h55 => ?_) (fun h55 => by exfalso; omega)
          refine qX10_findCover_80 ?_
          refine qX10_findCover_81 (by assumption) ?_
          refine qX10_findCover_84 ?_
          refine qX10_findCover_85 rfl rfl ?_
          first | refine fX10_findCover_86 (by assumption) (by omega) (by decide) ?_ | refine nX10_findCover_86 (by assumption) (by omega) (by decide) ?_
          rw [hnp]
          refine qX10_findCover_87 ?_
          first | refine nX10_findCover_88 ?_ | refine qX10_findCover_88 ?_
          first | refine fX10_findCover_89 (by assumption) (by omega) (by decide) ?_ | refine nX10_findCover_89 (by assumption) (by omega) (by decide) ?_
          refine qX10_findCover_90 ?_
          exact next _ (updN nm p (q + 1)) (fun i hi => updN_n (by omega)) updN_s (hF.up rfl) s_upS gs
  obtain ⟨n', rfl⟩ : ∃ n', n = n' + 1 := ⟨n - 1, by omega⟩
  have ep : pwO (updN nm0 0 0) 0 = fun _ => 0 := by funext c; rfl
  refine dfs n' 0 (by omega) r 0 w1 (updN nm0 0 0) (by omega) updN_s (fun i hi => absurd hi (Nat.not_lt_zero i)) hF1 e1 (fun l' w'' nm' g1 g2 g3 g4 g5 g6 => ?_) (fun w'' nm' g1 _ _ _ _ => ?_)
  · rw [ep] at g1
    have hll : l' = l := by
      have : gT U r (n' + 1) 0 (fun _ => 0) = some l' := g1
      rw [hl] at this
      exact (Option.some.inj this).symm
    subst hll
    have m9 : mO w'' D v := (g2.2 D (by omega)).trans h
    refine qX10_findCover_9 ?_
    refine qX10_findCover_10 ?_
    refine qX10_findCover_11 ?_
    refine qX10_findCover_12 (by assumption) (Nat.le_of_ble_eq_true rfl) (ent g2 ?_)
    refine nX10_findCover_15 (by omega) (by omega) (fun h15 => ?_) (fun h15 => by exfalso; omega)
    refine qX10_findCover_93 ?_
    exact k w'' nm' g2 g3 (fun i hi => by
      have := g5 i hi
      rw [Nat.zero_add] at this
      exact this) (fun i hi => by have := g6 i hi; omega)
  · rw [ep] at g1
    have g1 : gT U r (n' + 1) 0 (fun _ => 0) = none := g1
    rw [hl] at g1
    exact absurd g1 (by simp)
end REFZ
