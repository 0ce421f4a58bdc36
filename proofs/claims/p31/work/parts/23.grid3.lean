theorem gAt.upE {G : sG} {w : sW} {g e R C : Nat} {a a' : Nat → Nat} (h : gAt G w g e R C a) : gAt G (s_up w e (aN G 12 a')) g e R C a' := ⟨by rw [s_upN (Ne.symm h.ne)]; exact h.1, s_upS⟩
theorem gAt.upG {G : sG} {w : sW} {g e R C R' C' : Nat} {a : Nat → Nat} (h : gAt G w g e R C a) : gAt G (s_up w g (ob 1 [.ref e, .int (nI R'), .int (nI C')])) g e R' C' a := ⟨s_upS, by rw [s_upN h.ne]; exact h.2⟩
theorem gAt.off {G : sG} {w : sW} {g e R C q : Nat} {a : Nat → Nat} {x : va_E} (h : gAt G w g e R C a) (h1 : g ≠ q) (h2 : e ≠ q) : gAt G (s_up w q x) g e R C a := ⟨by rw [s_upN h1]; exact h.1, by rw [s_upN h2]; exact h.2⟩
theorem gAt.cross {G : sG} {w : sW} {g e R C g2 e2 R2 C2 : Nat} {a a2 : Nat → Nat} (h : gAt G w g e R C a) (h2 : gAt G w g2 e2 R2 C2 a2) : g ≠ e2 := fun z => by
  have h1 := h.1
  rw [z, h2.2] at h1
  cases h1
def sGE (g e : Nat) : Nat → Prop := fun q => q = g ∨ q = e
section GRID3
variable {G : sG} {d : Nat} {P : sQ} {w : sW} {g e R C g2 e2 R2 C2 : Nat} {a a2 : Nat → Nat}
theorem t_become (h : gAt G w g e R C a) (h2 : gAt G w g2 e2 R2 C2 a2) (hg : g ≠ g2) (he : e ≠ e2) (k : ∀ w' a', Fr w w' (sGE g e) → gAt G w' g e R2 C2 a' → (∀ k, k < 12 → a' k = a2 k) → P none w') : wpM G (d + 2) yX2_become (0, 0) [.ref g, .ref g2] w P := by
  have c1 : g ≠ e2 := h.cross h2
  have c2 : g2 ≠ e := h2.cross h
  obtain ⟨x1, x2⟩ := id h
  obtain ⟨y1, y2⟩ := id h2
  refine eX2_become ?_
  refine qX2_become_0 ?_
  refine qX2_become_1 ?_
  refine qX2_become_2 (by assumption) ?_
  refine qX2_become_5 ?_
  refine qX2_become_6 (by assumption) ?_
  refine qX2_become_9 (by assumption) (Nat.le_of_ble_eq_true rfl) (t_reshape x1 ?_)
  have h' := h.upG (R' := R2) (C' := C2)
  have h2' : gAt G (s_up w g (ob 1 [.ref e, .int (nI R2), .int (nI C2)])) g2 e2 R2 C2 a2 := h2.off (Ne.symm hg) (Ne.symm c1)
  obtain ⟨x1', x2'⟩ := id h'
  obtain ⟨y1', y2'⟩ := id h2'
  refine qX2_become_12 ?_
  refine qX2_become_13 (by assumption) ?_
  refine qX2_become_16 ?_
  refine qX2_become_17 ?_
  refine qX2_become_18 (by assumption) ?_
  refine qX2_become_21 ?_
  refine qX2_become_22 ?_
  refine qX2_become_24 (sp := 0) (dp := 0) (n := 12) (show _ = aI G 12 (nF a2) from y2') (show _ = aI G 12 (nF a) from x2') (by decide) (by decide) (by decide) (by decide) (Nat.le_of_ble_eq_true rfl) ?_
  refine qX2_become_27 ?_
  have hc : va_cpy (nF a2) (nF a) 0 0 12 = nF (fun k => if k < 12 then a2 k else a k) := by
    funext j
    by_cases hj : j < 12
    · rw [pk_cpy_in (by omega) (by omega)]
      simp [nF, hj]
    · rw [pk_cpy_out (by omega)]
      simp [nF, hj]
  rw [hc]
  exact k _ _ ((Fr.rf.up (Or.inl rfl)).up (Or.inr rfl)) (h'.upE) (fun k hk => by simp [hk])
theorem t_becomeTurned (h : gAt G w g e R C a) (h2 : gAt G w g2 e2 R2 C2 a2) (hg : g ≠ g2) (he : e ≠ e2) (hd : okD R2 C2) (ha : ∀ k, k < R2 * C2 → a2 k ≤ 999) (k : ∀ w' a', Fr w w' (sGE g e) → gAt G w' g e C2 R2 a' → (∀ k, k < C2 * R2 → a' k = tuN R2 C2 a2 k) → P none w') : wpM G (d + 3) yX2_becomeTurned (0, 0) [.ref g, .ref g2] w P := by
  have c1 : g ≠ e2 := h.cross h2
  have c2 : g2 ≠ e := h2.cross h
  have hsz : C2 * R2 ≤ 12 := by rw [Nat.mul_comm]; exact hd.2.2.2.2
  obtain ⟨x1, x2⟩ := id h
  obtain ⟨y1, y2⟩ := id h2
  have d1 := hd.2.1
  have d2 := hd.2.2.2.1
  refine eX2_becomeTurned ?_
  refine qX2_becomeTurned_0 ?_
  refine qX2_becomeTurned_1 ?_
  refine qX2_becomeTurned_2 (by assumption) ?_
  refine qX2_becomeTurned_5 ?_
  refine qX2_becomeTurned_6 (by assumption) ?_
  refine qX2_becomeTurned_9 (by assumption) (Nat.le_of_ble_eq_true rfl) (t_reshape x1 ?_)
  have h' := h.upG (R' := C2) (C' := R2)
  refine qX2_becomeTurned_12 ?_
  refine qX2_becomeTurned_13 ?_
  have outer : ∀ n r (w' : sW) (a' : Nat → Nat) (l3 : Option Value), r + n = C2 → Fr w w' (sGE g e) → gAt G w' g e C2 R2 a' → (∀ k, k < r * R2 → a' k = tuN R2 C2 a2 k) → wp G (d + 2) mX2_becomeTurned P 14 [some (.ref g), some (.ref g2), some (.int (nI r)), l3] [] w' (0, 0) := by
    intro n
    induction n with
    | zero =>
      intro r w' a' l3 hr hF hw hq
      obtain ⟨z1, z2⟩ := id hw
      refine qX2_becomeTurned_14 ?_
      refine qX2_becomeTurned_15 ?_
      refine qX2_becomeTurned_16 (by assumption) ?_
      refine nX2_becomeTurned_19 (by omega) (by omega) (fun h19 => ?_) (fun h19 => by exfalso; omega)
      refine qX2_becomeTurned_56 ?_
      exact k w' a' hF hw (by rw [show r = C2 by omega] at hq; exact hq)
    | succ n ih =>
      intro r w' a' l3 hr hF hw hq
      obtain ⟨z1, z2⟩ := id hw
      refine qX2_becomeTurned_14 ?_
      refine qX2_becomeTurned_15 ?_
      refine qX2_becomeTurned_16 (by assumption) ?_
      refine nX2_becomeTurned_19 (by omega) (by omega) (fun h19 => by exfalso; omega) (fun h19 => ?_)
      refine qX2_becomeTurned_22 ?_
      refine qX2_becomeTurned_23 ?_
      have inner : ∀ p c (w' : sW) (a' : Nat → Nat), c + p = R2 → Fr w w' (sGE g e) → gAt G w' g e C2 R2 a' → (∀ k, k < r * R2 + c → a' k = tuN R2 C2 a2 k) → wp G (d + 2) mX2_becomeTurned P 24 [some (.ref g), some (.ref g2), some (.int (nI r)), some (.int (nI c))] [] w' (0, 0) := by
        intro p
        induction p with
        | zero =>
          intro c w' a' hc hF hw hq
          obtain ⟨z1, z2⟩ := id hw
          refine qX2_becomeTurned_24 ?_
          refine qX2_becomeTurned_25 ?_
          refine qX2_becomeTurned_26 (by assumption) ?_
          refine nX2_becomeTurned_29 (by omega) (by omega) (fun h29 => ?_) (fun h29 => by exfalso; omega)
          first | refine nX2_becomeTurned_50 ?_ | refine qX2_becomeTurned_50 ?_
          refine qX2_becomeTurned_53 ?_
          exact ih (r + 1) w' a' _ (by omega) hF hw (by rw [Nat.succ_mul]; rw [show R2 = c by omega] at hq ⊢; exact hq)
        | succ p ih2 =>
          intro c w' a' hc hF hw hq
          have hw2 : gAt G w' g2 e2 R2 C2 a2 := h2.fr hF (fun z => z.elim (fun z => hg z.symm) (fun z => c2 z)) (fun z => z.elim (fun z => c1 z.symm) (fun z => he z.symm))
          obtain ⟨z1, z2⟩ := id hw
          obtain ⟨v1, v2⟩ := id hw2
          have i1 : c * C2 + r < R2 * C2 := hd.in (by omega) (by omega)
          have i2 : r * R2 + c < C2 * R2 := by
            have h1 : (r + 1) * R2 ≤ C2 * R2 := Nat.mul_le_mul_right R2 (by omega)
            rw [Nat.succ_mul] at h1
            omega
          have i3 : R2 * C2 ≤ 12 := hd.2.2.2.2
          refine qX2_becomeTurned_24 ?_
          refine qX2_becomeTurned_25 ?_
          refine qX2_becomeTurned_26 (by assumption) ?_
          refine nX2_becomeTurned_29 (by omega) (by omega) (fun h29 => by exfalso; omega) (fun h29 => ?_)
          refine qX2_becomeTurned_32 ?_
          refine qX2_becomeTurned_33 ?_
          refine qX2_becomeTurned_34 ?_
          refine qX2_becomeTurned_35 ?_
          refine qX2_becomeTurned_36 ?_
          refine qX2_becomeTurned_37 ?_
          refine qX2_becomeTurned_38 (by assumption) (Nat.le_of_ble_eq_true rfl) (t_at hw2 (by omega) ?_)
          refine qX2_becomeTurned_41 (by assumption) (Nat.le_of_ble_eq_true rfl) (t_assign hw (by omega) ?_)
          first | refine nX2_becomeTurned_44 ?_ | refine qX2_becomeTurned_44 ?_
          refine qX2_becomeTurned_47 ?_
          refine ih2 (c + 1) _ _ (by omega) (hF.up (Or.inr rfl)) hw.upE (fun k hk => ?_)
          by_cases hk2 : k = r * R2 + c
          · rw [hk2, updN_s]
            simp only [tuN]
            rw [dm_mod (by omega), dm_div (by omega)]
          · rw [updN_n hk2]
            exact hq k (by omega)
      exact inner R2 0 w' a' (by omega) hF hw hq
  exact outer C2 0 _ a _ (by omega) (Fr.rf.up (Or.inl rfl)) h' (fun k hk => absurd hk (by omega))
theorem mnG_le {f : Nat → Nat} : ∀ {n}, mnG f n ≤ 1999
  | 0 => Nat.le_refl _
  | n + 1 => Nat.le_trans (Nat.min_le_left _ _) mnG_le
theorem t_becomeProduct {g3 e3 R3 C3 : Nat} {a3 : Nat → Nat} (h : gAt G w g e R C a) (h2 : gAt G w g2 e2 R2 C2 a2) (h3 : gAt G w g3 e3 R3 C3 a3) (hg : g ≠ g2) (he : e ≠ e2) (hg3 : g ≠ g3) (he3 : e ≠ e3) (hd : okD R2 C2) (hd3 : okD R3 C3) (hm : C2 = R3) (hsz : R2 * C3 ≤ 12) (ha : ∀ k, k < R2 * C2 → a2 k ≤ 999) (ha3 : ∀ k, k < R3 * C3 → a3 k ≤ 999) (k : ∀ w' a', Fr w w' (sGE g e) → gAt G w' g e R2 C3 a' → (∀ k, k < R2 * C3 → a' k = prN C2 C3 a2 a3 k) → P none w') : wpM G (d + 3) yX2_becomeProduct (0, 0) [.ref g, .ref g2, .ref g3] w P := by
  have c1 : g ≠ e2 := h.cross h2
  have c2 : g2 ≠ e := h2.cross h
  have c3 : g ≠ e3 := h.cross h3
  have c4 : g3 ≠ e := h3.cross h
  obtain ⟨x1, x2⟩ := id h
  obtain ⟨y1, y2⟩ := id h2
  obtain ⟨u1, u2⟩ := id h3
  have d1 := hd.2.1
  have d2 := hd3.2.2.2.1
  have d3 := hd.2.2.1
  have d4 := hd.2.2.2.1
  refine eX2_becomeProduct ?_
  refine qX2_becomeProduct_0 ?_
  refine qX2_becomeProduct_1 ?_
  refine qX2_becomeProduct_2 (by assumption) ?_
  refine qX2_becomeProduct_5 ?_
  refine qX2_becomeProduct_6 (by assumption) ?_
  refine qX2_becomeProduct_9 (by assumption) (Nat.le_of_ble_eq_true rfl) (t_reshape x1 ?_)
  have h' := h.upG (R' := R2) (C' := C3)
  refine qX2_becomeProduct_12 ?_
  refine qX2_becomeProduct_13 ?_
  have outer : ∀ n r (w' : sW) (a' : Nat → Nat) (l4 l5 l6 : Option Value), r + n = R2 → Fr w w' (sGE g e) → gAt G w' g e R2 C3 a' → (∀ k, k < r * C3 → a' k = prN C2 C3 a2 a3 k) → wp G (d + 2) mX2_becomeProduct P 14 [some (.ref g), some (.ref g2), some (.ref g3), some (.int (nI r)), l4, l5, l6] [] w' (0, 0) := by
    intro n
    induction n with
    | zero =>
      intro r w' a' l4 l5 l6 hr hF hw hq
      obtain ⟨z1, z2⟩ := id hw
      refine qX2_becomeProduct_14 ?_
      refine qX2_becomeProduct_15 ?_
      refine qX2_becomeProduct_16 (by assumption) ?_
      refine nX2_becomeProduct_19 (by omega) (by omega) (fun h19 => ?_) (fun h19 => by exfalso; omega)
      refine qX2_becomeProduct_112 ?_
      exact k w' a' hF hw (by rw [show R2 = r by omega]; exact hq)
    | succ n ih =>
      intro r w' a' l4 l5 l6 hr hF hw hq
      obtain ⟨z1, z2⟩ := id hw
      refine qX2_becomeProduct_14 ?_
      refine qX2_becomeProduct_15 ?_
      refine qX2_becomeProduct_16 (by assumption) ?_
      refine nX2_becomeProduct_19 (by omega) (by omega) (fun h19 => by exfalso; omega) (fun h19 => ?_)
      refine qX2_becomeProduct_22 ?_
      refine qX2_becomeProduct_23 ?_
      have inner : ∀ p c (w' : sW) (a' : Nat → Nat) (l5 l6 : Option Value), c + p = C3 → Fr w w' (sGE g e) → gAt G w' g e R2 C3 a' → (∀ k, k < r * C3 + c → a' k = prN C2 C3 a2 a3 k) → wp G (d + 2) mX2_becomeProduct P 25 [some (.ref g), some (.ref g2), some (.ref g3), some (.int (nI r)), some (.int (nI c)), l5, l6] [] w' (0, 0) := by
        intro p
        induction p with
        | zero =>
          intro c w' a' l5 l6 hc hF hw hq
          obtain ⟨z1, z2⟩ := id hw
          refine qX2_becomeProduct_25 ?_
          refine qX2_becomeProduct_27 ?_
          refine qX2_becomeProduct_28 (by assumption) ?_
          refine nX2_becomeProduct_31 (by omega) (by omega) (fun h31 => ?_) (fun h31 => by exfalso; omega)
          first | refine nX2_becomeProduct_106 ?_ | refine qX2_becomeProduct_106 ?_
          refine qX2_becomeProduct_109 ?_
          exact ih (r + 1) w' a' _ _ _ (by omega) hF hw (by rw [Nat.succ_mul]; rw [show C3 = c by omega] at hq ⊢; exact hq)
        | succ p ih2 =>
          intro c w' a' l5 l6 hc hF hw hq
          have hw2 : gAt G w' g2 e2 R2 C2 a2 := h2.fr hF (fun z => z.elim (fun z => hg z.symm) (fun z => c2 z)) (fun z => z.elim (fun z => c1 z.symm) (fun z => he z.symm))
          have hw3 : gAt G w' g3 e3 R3 C3 a3 := h3.fr hF (fun z => z.elim (fun z => hg3 z.symm) (fun z => c4 z)) (fun z => z.elim (fun z => c3 z.symm) (fun z => he3 z.symm))
          obtain ⟨z1, z2⟩ := id hw
          obtain ⟨v1, v2⟩ := id hw2
          obtain ⟨t1, t2⟩ := id hw3
          have i2 : r * C3 + c < R2 * C3 := by
            have h1 : (r + 1) * C3 ≤ R2 * C3 := Nat.mul_le_mul_right C3 (by omega)
            rw [Nat.succ_mul] at h1
            omega
          have s1 : R2 * C2 ≤ 12 := hd.2.2.2.2
          have s3 : R3 * C3 ≤ 12 := hd3.2.2.2.2
          have ix : ∀ i, i < C2 → r * C2 + i < R2 * C2 ∧ i * C3 + c < R3 * C3 := fun i hi => ⟨hd.in (by omega) hi, hd3.in (by omega) (by omega)⟩
          have j0 := ix 0 (by omega)
          have b1 := ha _ j0.1
          have b2 := ha3 _ j0.2
          refine qX2_becomeProduct_25 ?_
          refine qX2_becomeProduct_27 ?_
          refine qX2_becomeProduct_28 (by assumption) ?_
          refine nX2_becomeProduct_31 (by omega) (by omega) (fun h31 => by exfalso; omega) (fun h31 => ?_)
          refine qX2_becomeProduct_34 ?_
          refine qX2_becomeProduct_35 ?_
          refine qX2_becomeProduct_36 ?_
          refine qX2_becomeProduct_37 (by assumption) (Nat.le_of_ble_eq_true rfl) (t_at hw2 (by omega) ?_)
          refine qX2_becomeProduct_40 ?_
          refine qX2_becomeProduct_41 ?_
          refine qX2_becomeProduct_42 ?_
          refine qX2_becomeProduct_44 (by assumption) (Nat.le_of_ble_eq_true rfl) (t_at hw3 (by omega) ?_)
          first | refine nX2_becomeProduct_47 ?_ | refine qX2_becomeProduct_47 ?_
          refine qX2_becomeProduct_48 ?_
          refine qX2_becomeProduct_50 ?_
          refine qX2_becomeProduct_51 ?_
          have sum : ∀ m i v, i + m = C2 → 1 ≤ i → v = mnG (fun i => a2 (r * C2 + i) + a3 (i * C3 + c)) i → wp G (d + 2) mX2_becomeProduct P 53 [some (.ref g), some (.ref g2), some (.ref g3), some (.int (nI r)), some (.int (nI c)), some (.int (nI v)), some (.int (nI i))] [] w' (0, 0) := by
            intro m
            induction m with
            | zero =>
              intro i v hi h1 hv
              refine qX2_becomeProduct_53 ?_
              refine qX2_becomeProduct_55 ?_
              refine qX2_becomeProduct_56 (by assumption) ?_
              refine nX2_becomeProduct_59 (by omega) (by omega) (fun h59 => ?_) (fun h59 => by exfalso; omega)
              refine qX2_becomeProduct_91 ?_
              refine qX2_becomeProduct_92 ?_
              refine qX2_becomeProduct_93 ?_
              refine qX2_becomeProduct_95 ?_
              refine qX2_becomeProduct_97 (by assumption) (Nat.le_of_ble_eq_true rfl) (t_assign hw (by omega) ?_)
              first | refine nX2_becomeProduct_100 ?_ | refine qX2_becomeProduct_100 ?_
              refine qX2_becomeProduct_103 ?_
              refine ih2 (c + 1) _ _ _ _ (by omega) (hF.up (Or.inr rfl)) hw.upE (fun k hk => ?_)
              by_cases hk2 : k = r * C3 + c
              · rw [hk2, updN_s]
                simp only [prN]
                rw [dm_mod (by omega), dm_div (by omega), hv, show i = C2 by omega]
              · rw [updN_n hk2]
                exact hq k (by omega)
            | succ m ih3 =>
              intro i v hi h1 hv
              have j1 := ix i (by omega)
              have b3 := ha _ j1.1
              have b4 := ha3 _ j1.2
              have b5 : v ≤ 1999 := by rw [hv]; exact mnG_le
              refine qX2_becomeProduct_53 ?_
              refine qX2_becomeProduct_55 ?_
              refine qX2_becomeProduct_56 (by assumption) ?_
              refine nX2_becomeProduct_59 (by omega) (by omega) (fun h59 => by exfalso; omega) (fun h59 => ?_)
              refine qX2_becomeProduct_62 ?_
              refine qX2_becomeProduct_64 ?_
              refine qX2_becomeProduct_65 ?_
              refine qX2_becomeProduct_66 ?_
              refine qX2_becomeProduct_68 (by assumption) (Nat.le_of_ble_eq_true rfl) (t_at hw2 (by omega) ?_)
              refine qX2_becomeProduct_71 ?_
              refine qX2_becomeProduct_72 ?_
              refine qX2_becomeProduct_74 ?_
              refine qX2_becomeProduct_76 (by assumption) (Nat.le_of_ble_eq_true rfl) (t_at hw3 (by omega) ?_)
              first | refine nX2_becomeProduct_79 ?_ | refine qX2_becomeProduct_79 ?_
              refine nX2_becomeProduct_80 (by omega) (by omega) (Nat.le_of_ble_eq_true rfl) ?_
              refine qX2_becomeProduct_83 ?_
              first | refine nX2_becomeProduct_85 ?_ | refine qX2_becomeProduct_85 ?_
              refine qX2_becomeProduct_88 ?_
              exact ih3 (i + 1) _ (by omega) (by omega) (by rw [hv]; rfl)
          refine sum (C2 - 1) 1 _ (by omega) (Nat.le_refl 1) ?_
          simp only [mnG]
          omega
      exact inner C3 0 w' a' _ _ (by omega) hF hw hq
  exact outer R2 0 _ a _ _ _ (by omega) (Fr.rf.up (Or.inl rfl)) h' (fun k hk => absurd hk (by omega))
end GRID3
