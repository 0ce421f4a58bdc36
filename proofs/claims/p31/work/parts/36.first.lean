theorem flS_cong {U : Nat → Bool} {rec : (Nat → Nat) → Option (List Nat)} {pw pw' : Nat → Nat} {kk pl : Nat} (h : ∀ i, i < kk → pw i = pw' i) (hr : ∀ p p' : Nat → Nat, (∀ i, i < kk → p i = p' i) → rec p = rec p') : ∀ q, q ≤ kk → flS U rec pw kk pl q = flS U rec pw' kk pl q := by
  intro q
  induction q with
  | zero => intro _; rfl
  | succ q ih =>
    intro hq
    have hr2 : rec (updN pw (kk - (q + 1)) (pw' (kk - (q + 1)) ||| 1 <<< pl)) = rec (updN pw' (kk - (q + 1)) (pw' (kk - (q + 1)) ||| 1 <<< pl)) := by
      refine hr _ _ (fun i hi => ?_)
      by_cases hk : i = kk - (q + 1)
      · subst hk; rw [updN_s, updN_s]
      · rw [updN_n hk, updN_n hk, h i hi]
    simp only [flS]
    rw [h _ (by omega), ih (by omega), hr2]
theorem flT_cong {U : Nat → Bool} {kk : Nat} : ∀ m pl (pw pw' : Nat → Nat), (∀ i, i < kk → pw i = pw' i) → flT U kk m pl pw = flT U kk m pl pw' := by
  intro m
  induction m with
  | zero => intro _ _ _ _; rfl
  | succ m ih =>
    intro pl pw pw' h
    exact flS_cong h (fun p p' hp => ih (pl + 1) p p' hp) kk (Nat.le_refl kk)
/-- the first cover row with r numbers -/
def fiL (U : Nat → Bool) (n r : Nat) : Option (List Nat) := flT U r n 0 (fun _ => 0)
/-- the least number that works, and the row: from n - m + 1 on -/
def ffN (U : Nat → Bool) (n : Nat) : Nat → Nat × Option (List Nat)
  | 0 => (n, none)
  | m + 1 => if (fiL U n (n - m)).isSome = true then (n - m, fiL U n (n - m)) else ffN U n m
section FIRST
variable {G : sG} {d : Nat} {P : sQ} {w : sW} {v n : Nat} {U : Nat → Bool} {fr pw : Nat → Nat}
set_option maxHeartbeats 1000000 in
theorem t_findFirstRow (hc : cvAt G w v n U fr pw) (hpw : ∀ i, pw i < 4096) (hn : n ≤ 12) (k : ∀ w' fr' pw', Fr w w' (s4 v) → cvAt G w' v n U fr' pw' → (∀ i, pw' i < 4096) → (∀ l, (ffN U n n).2 = some l → ∀ i, i < n → fr' i = l.getD i 0) → P (some (.int (nI (ffN U n n).1))) w') : wpM G (d + 15) yX1_findFirstRow (0, 0) [.ref v] w P := by
  obtain ⟨f, x1, x2, x3, x4, x5⟩ := id hc
  refine eX1_findFirstRow ?_
  refine qX1_findFirstRow_0 ?_
  refine qX1_findFirstRow_1 ?_
  refine qX1_findFirstRow_2 ?_
  refine qX1_findFirstRow_3 ?_
  have Lp : ∀ m r (w' : sW) (fr pw : Nat → Nat) (l3 : Option Value), r + m = n → ffN U n n = ffN U n m → Fr w w' (s4 v) → cvAt G w' v n U fr pw → (∀ i, pw i < 4096) → wp G (d + 14) mX1_findFirstRow P 4 [some (.ref v), some (.int (nI r)), some (.int (nI 0)), l3] [] w' (0, 0) := by
    intro m
    induction m with
    | zero =>
      intro r w' fr pw l3 hr he hF hcv hpw
      obtain ⟨f, y1, y2, y3, y4, y5⟩ := id hcv
      refine qX1_findFirstRow_4 ?_
      refine nX1_findFirstRow_5 (by omega) (fun h5 => by exfalso; omega) (fun h5 => ?_)
      refine qX1_findFirstRow_8 ?_
      refine qX1_findFirstRow_9 ?_
      refine qX1_findFirstRow_10 (by assumption) ?_
      refine nX1_findFirstRow_13 (by omega) (by omega) (fun h13 => ?_) (fun h13 => by exfalso; omega)
      refine qX1_findFirstRow_49 ?_
      refine qX1_findFirstRow_50 ?_
      have := k w' fr pw hF hcv hpw (fun l hl => by rw [he] at hl; exact absurd hl (by simp [ffN]))
      rw [he] at this
      rw [show r = n by omega]
      exact this
    | succ m ih =>
      intro r w' fr pw l3 hr he hF hcv hpw
      obtain ⟨f, y1, y2, y3, y4, y5⟩ := id hcv
      simp only [ffN] at he
      rw [show n - m = r + 1 by omega] at he
      refine qX1_findFirstRow_4 ?_
      refine nX1_findFirstRow_5 (by omega) (fun h5 => by exfalso; omega) (fun h5 => ?_)
      refine qX1_findFirstRow_8 ?_
      refine qX1_findFirstRow_9 ?_
      refine qX1_findFirstRow_10 (by assumption) ?_
      refine nX1_findFirstRow_13 (by omega) (by omega) (fun h13 => by exfalso; omega) (fun h13 => ?_)
      first | refine nX1_findFirstRow_16 ?_ | refine qX1_findFirstRow_16 ?_
      refine qX1_findFirstRow_19 ?_
      refine qX1_findFirstRow_20 ?_
      have L2 : ∀ q i (w' : sW) (pw : Nat → Nat), i + q = r + 1 → Fr w w' (s4 v) → cvAt G w' v n U fr pw → (∀ i, pw i < 4096) → (∀ j, j < i → pw j = 0) → wp G (d + 14) mX1_findFirstRow P 21 [some (.ref v), some (.int (nI (r + 1))), some (.int (nI 0)), some (.int (nI i))] [] w' (0, 0) := by
        intro q
        induction q with
        | zero =>
          intro i w' pw hi hF hcv hpw hz
          refine qX1_findFirstRow_21 ?_
          refine qX1_findFirstRow_22 ?_
          refine nX1_findFirstRow_23 (by omega) (by omega) (fun h23 => ?_) (fun h23 => by exfalso; omega)
          refine qX1_findFirstRow_39 ?_
          refine qX1_findFirstRow_40 ?_
          refine qX1_findFirstRow_41 ?_
          have hcg : flT U (r + 1) n 0 pw = fiL U n (r + 1) := flT_cong n 0 pw _ (fun j hj => hz j (by omega))
          refine qX1_findFirstRow_42 (Nat.le_of_ble_eq_true rfl) (wpM_cast (d1 := d + (12 - n) + (n + 2)) (by omega) (t_fill (kk := r + 1) (by omega) hn n (d + (12 - n)) _ w' 0 fr pw (by omega) hpw hcv (fun l hl w3 fr3 pw3 hF3 hc3 hpw3 hf3 hg3 => ?_) (fun hl w3 fr3 hF3 hc3 hf3 => ?_)))
          · rw [hcg] at hl
            rw [if_pos (by rw [hl]; rfl), hl] at he
            refine qX1_findFirstRow_45 ?_
            refine qX1_findFirstRow_46 ?_
            refine qX1_findFirstRow_4 ?_
            refine nX1_findFirstRow_5 (by omega) (fun h5 => ?_) (fun h5 => by exfalso; omega)
            refine qX1_findFirstRow_49 ?_
            refine qX1_findFirstRow_50 ?_
            have := k w3 fr3 pw3 (hF.tr hF3 (fun q hq => hq)) hc3 hpw3 (fun l' hl' i hi => by
              rw [he] at hl'
              cases hl'
              have := hg3 i hi
              rw [Nat.zero_add] at this
              exact this)
            rw [he] at this
            exact this
          · rw [hcg] at hl
            rw [if_neg (by rw [hl]; simp)] at he
            refine qX1_findFirstRow_45 ?_
            refine qX1_findFirstRow_46 ?_
            exact ih (r + 1) w3 fr3 pw _ (by omega) he (hF.tr hF3 (fun q hq => hq)) hc3 hpw
        | succ q ih2 =>
          intro i w' pw hi hF hcv hpw hz
          obtain ⟨f, y1, y2, y3, y4, y5⟩ := id hcv
          refine qX1_findFirstRow_21 ?_
          refine qX1_findFirstRow_22 ?_
          refine nX1_findFirstRow_23 (by omega) (by omega) (fun h23 => by exfalso; omega) (fun h23 => ?_)
          refine qX1_findFirstRow_26 ?_
          refine qX1_findFirstRow_27 (by assumption) ?_
          refine qX1_findFirstRow_30 ?_
          refine qX1_findFirstRow_31 ?_
          first | refine fX1_findFirstRow_32 (by assumption) (by omega) (by decide) ?_ | refine nX1_findFirstRow_32 (by assumption) (by omega) (by decide) ?_
          first | refine nX1_findFirstRow_33 ?_ | refine qX1_findFirstRow_33 ?_
          refine qX1_findFirstRow_36 ?_
          refine ih2 (i + 1) _ (updN pw i 0) (by omega) (hF.up ⟨by omega, by omega⟩) ⟨f, by rw [s_upN (by omega)]; exact y1, by rw [s_upN (by omega)]; exact y2, by rw [s_upN (by omega)]; exact y3, s_upS, y5⟩ (fun j => ?_) (fun j hj => ?_)
          · by_cases hji : j = i
            · subst hji; rw [updN_s]; decide
            · rw [updN_n hji]; exact hpw j
          · by_cases hji : j = i
            · subst hji; rw [updN_s]
            · rw [updN_n hji]; exact hz j (by omega)
      exact L2 (r + 1) 0 w' pw (by omega) hF hcv hpw (fun j hj => absurd hj (Nat.not_lt_zero j))
  exact Lp n 0 w fr pw _ (by omega) rfl Fr.rf hc hpw
end FIRST
