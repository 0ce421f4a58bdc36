/-! the calls that use ways -/
theorem inB_le {x : Int32} {n : Nat} (hn : n < 2147483647) (h1 : ¬ x < 0) (h2 : x ≤ nI n) : ∃ i, i < n + 1 ∧ x = nI i := by
  obtain ⟨j, hj, hx⟩ := nI_of h1
  rw [hx, nI_leI hj (by omega)] at h2
  exact ⟨j, by omega, hx⟩
theorem inB_gt {x : Int32} {n : Nat} (hn : n < 2147483647) (h : ¬ x ≤ nI n) : ¬ inB x (n + 1) := fun ⟨i, h2, h3⟩ => by
  rw [h3, nI_leI (by omega) (by omega)] at h
  omega
theorem cut_eq {S : Nat} {a b : Nat → Nat} (h : ∀ k, k < S → a k = b k) : cut S a = cut S b := by
  funext k
  simp only [cut]
  split
  · next hk => exact h k hk
  · rfl
theorem wysL_cong {R C : Nat} {a b : Nat → Nat} (h : ∀ k, k < R * C → a k = b k) (r c : Nat) : wysL R C a r c = wysL R C b r c := by
  unfold wysL
  rw [← goW_cut r R (Nat.le_refl R), cut_eq h, goW_cut r R (Nat.le_refl R)]
theorem regB_cong {R C : Nat} {a b : Nat → Nat} (h : ∀ k, k < R * C → a k = b k) : regB R C a = regB R C b := by
  funext r c
  unfold regB
  rw [wysL_cong h]
theorem ptS_cong {R C : Nat} {a b : Nat → Nat} (h : ∀ k, k < R * C → a k = b k) : ptS R C a = ptS R C b := by
  funext r c s
  unfold ptS
  rw [regB_cong h]
theorem ptC_cong {R C : Nat} {a b : Nat → Nat} (h : ∀ k, k < R * C → a k = b k) (r : Nat) (s : P4) : ∀ n, ptC R C a r s n = ptC R C b r s n
  | 0 => rfl
  | n + 1 => by
    simp only [ptC]
    rw [ptC_cong h r s n, ptS_cong h]
theorem ptR_cong {R C : Nat} {a b : Nat → Nat} (h : ∀ k, k < R * C → a k = b k) : ∀ n, ptR R C a n = ptR R C b n
  | 0 => rfl
  | n + 1 => by
    simp only [ptR]
    rw [ptR_cong h n, ptC_cong h]
theorem ptN_cong {R C : Nat} {a b : Nat → Nat} (h : ∀ k, k < R * C → a k = b k) : ptN R C a = ptN R C b := ptR_cong h _
theorem u0S_cong {R C : Nat} {a b : Nat → Nat} (h : ∀ k, k < R * C → a k = b k) : u0S R C a = u0S R C b := by
  funext r c U S
  unfold u0S
  rw [wysL_cong h]
theorem u0C_cong {R C : Nat} {a b : Nat → Nat} (h : ∀ k, k < R * C → a k = b k) (r : Nat) (U : Nat → Bool) : ∀ n, u0C R C a r U n = u0C R C b r U n
  | 0 => rfl
  | n + 1 => by
    simp only [u0C]
    rw [u0C_cong h r U n, u0S_cong h]
theorem u0R_cong {R C : Nat} {a b : Nat → Nat} (h : ∀ k, k < R * C → a k = b k) : ∀ n, u0R R C a n = u0R R C b n
  | 0 => rfl
  | n + 1 => by
    simp only [u0R]
    rw [u0R_cong h n, u0C_cong h]
theorem untN_cong {R C : Nat} {a b : Nat → Nat} (h : ∀ k, k < R * C → a k = b k) : untN R C a = untN R C b := by
  unfold untN
  rw [u0R_cong h]
/-- the cells of the class -/
def sB (B : Nat) : Nat → Prop := fun q => B ≤ q ∧ q < B + 92
section CALLS51
variable {G : sG} {w w' : sW} {B : Nat} {s : xS}
theorem clAt.wys {L : List (Nat × Nat)} (h : clAt G w B s) (hF : Fr w w' (s3 (B + 67))) (hw : wyAt G w' (B + 67) L) : clAt G w' B s := by
  refine h.scr (hF.mono (fun q hq => by unfold s3 at hq; omega)) ?_
  obtain ⟨_, _, _, _, _, _, ⟨a, h1⟩, ⟨b, h2⟩, ⟨L0, h3⟩, ⟨p, h4⟩, ⟨n, U, fr, pw, h5, h6⟩, ⟨t, h7⟩⟩ := h
  exact ⟨⟨a, h1.fr hF (by unfold s3; omega) (by unfold s3; omega)⟩, ⟨b, h2.fr hF (by unfold s3; omega) (by unfold s3; omega)⟩, ⟨L, hw⟩, ⟨p, h4.fr hF (by unfold s3; omega)⟩, ⟨n, U, fr, pw, h5.fr hF (fun q a1 a2 => by unfold s3; omega), h6⟩, ⟨t, h7.fr hF (by unfold s3; omega)⟩⟩
theorem clAt.pts {L : List (Nat × Nat)} {p4 : P4} (h : clAt G w B s) (hF : Fr w w' (fun q => s3 (B + 67) q ∨ q = B + 70)) (hw : wyAt G w' (B + 67) L) (hp : paAt w' (B + 70) p4) : clAt G w' B s := by
  refine h.scr (hF.mono (fun q hq => by unfold s3 at hq; omega)) ?_
  obtain ⟨_, _, _, _, _, _, ⟨a, h1⟩, ⟨b, h2⟩, ⟨L0, h3⟩, ⟨p, h4⟩, ⟨n, U, fr, pw, h5, h6⟩, ⟨t, h7⟩⟩ := h
  exact ⟨⟨a, h1.fr hF (by unfold s3; omega) (by unfold s3; omega)⟩, ⟨b, h2.fr hF (by unfold s3; omega) (by unfold s3; omega)⟩, ⟨L, hw⟩, ⟨p4, hp⟩, ⟨n, U, fr, pw, h5.fr hF (fun q a1 a2 => by unfold s3; omega), h6⟩, ⟨t, h7.fr hF (by unfold s3; omega)⟩⟩
theorem clAt.cvs {L : List (Nat × Nat)} {n : Nat} {U : Nat → Bool} {fr pw : Nat → Nat} (h : clAt G w B s) (hF : Fr w w' (fun q => s3 (B + 67) q ∨ s4 (B + 71) q)) (hw : wyAt G w' (B + 67) L) (hc : cvAt G w' (B + 71) n U fr pw) (hp : ∀ i, pw i < 4096) : clAt G w' B s := by
  refine h.scr (hF.mono (fun q hq => by unfold s3 s4 at hq; omega)) ?_
  obtain ⟨_, _, _, _, _, _, ⟨a, h1⟩, ⟨b, h2⟩, ⟨L0, h3⟩, ⟨p, h4⟩, ⟨n0, U0, fr0, pw0, h5, h6⟩, ⟨t, h7⟩⟩ := h
  exact ⟨⟨a, h1.fr hF (by unfold s3 s4; omega) (by unfold s3 s4; omega)⟩, ⟨b, h2.fr hF (by unfold s3 s4; omega) (by unfold s3 s4; omega)⟩, ⟨L, hw⟩, ⟨p, h4.fr hF (by unfold s3 s4; omega)⟩, ⟨n, U, fr, pw, hc, hp⟩, ⟨t, h7.fr hF (by unfold s3 s4; omega)⟩⟩
theorem clAt.rgs {p3 : P3} (h : clAt G w B s) (hF : Fr w w' (fun q => q = B + 75)) (hp : rgAt w' (B + 75) p3) : clAt G w' B s := by
  refine h.scr (hF.mono (fun q hq => by omega)) ?_
  obtain ⟨_, _, _, _, _, _, ⟨a, h1⟩, ⟨b, h2⟩, ⟨L0, h3⟩, ⟨p, h4⟩, ⟨n, U, fr, pw, h5, h6⟩, ⟨t, h7⟩⟩ := h
  exact ⟨⟨a, h1.fr hF (by omega) (by omega)⟩, ⟨b, h2.fr hF (by omega) (by omega)⟩, ⟨L0, h3.fr hF (fun q a1 a2 => by omega)⟩, ⟨p, h4.fr hF (by omega)⟩, ⟨n, U, fr, pw, h5.fr hF (fun q a1 a2 => by omega), h6⟩, ⟨p3, hp⟩⟩
theorem clAt.spr {v : GV} (h : clAt G w B s) (hF : Fr w w' (sGE (B + 63) (B + 63 + 1))) (hp : gV G w' (B + 63) v) : clAt G w' B s := by
  refine h.scr (hF.mono (fun q hq => by unfold sGE at hq; omega)) ?_
  obtain ⟨_, _, _, _, _, _, ⟨a, h1⟩, ⟨b, h2⟩, ⟨L0, h3⟩, ⟨p, h4⟩, ⟨n, U, fr, pw, h5, h6⟩, ⟨t, h7⟩⟩ := h
  exact ⟨⟨v, hp⟩, ⟨b, h2.fr hF (by unfold sGE; omega) (by unfold sGE; omega)⟩, ⟨L0, h3.fr hF (fun q a1 a2 => by unfold sGE; omega)⟩, ⟨p, h4.fr hF (by unfold sGE; omega)⟩, ⟨n, U, fr, pw, h5.fr hF (fun q a1 a2 => by unfold sGE; omega), h6⟩, ⟨t, h7.fr hF (by unfold sGE; omega)⟩⟩
theorem clAt.trn {v : GV} (h : clAt G w B s) (hF : Fr w w' (sGE (B + 65) (B + 65 + 1))) (hp : gV G w' (B + 65) v) : clAt G w' B s := by
  refine h.scr (hF.mono (fun q hq => by unfold sGE at hq; omega)) ?_
  obtain ⟨_, _, _, _, _, _, ⟨a, h1⟩, ⟨b, h2⟩, ⟨L0, h3⟩, ⟨p, h4⟩, ⟨n, U, fr, pw, h5, h6⟩, ⟨t, h7⟩⟩ := h
  exact ⟨⟨a, h1.fr hF (by unfold sGE; omega) (by unfold sGE; omega)⟩, ⟨v, hp⟩, ⟨L0, h3.fr hF (fun q a1 a2 => by unfold sGE; omega)⟩, ⟨p, h4.fr hF (by unfold sGE; omega)⟩, ⟨n, U, fr, pw, h5.fr hF (fun q a1 a2 => by unfold sGE; omega), h6⟩, ⟨t, h7.fr hF (by unfold sGE; omega)⟩⟩
end CALLS51
noncomputable def spPermanent (s : xS) (x y z v : Int32) : Int32 := cIf (inB x 3) (cIf (isPt (lA s (nN x)).1 (lA s (nN x)).2.1 y z ∧ inB v 3) (cIf (v = nI 0) (nI (lsN (wysL (lA s (nN x)).1 (lA s (nN x)).2.1 (lA s (nN x)).2.2 (nN y) (nN z)))) (cIf (v = nI 1) (nI (wlN (wysL (lA s (nN x)).1 (lA s (nN x)).2.1 (lA s (nN x)).2.2 (nN y) (nN z)))) (nI (gsN (wysL (lA s (nN x)).1 (lA s (nN x)).2.1 (lA s (nN x)).2.2 (nN y) (nN z)))))) (-2)) (-1)
section CALLS52
variable {G : sG} {d : Nat} {P : sQ} {w : sW} {B : Nat} {s : xS}
set_option maxHeartbeats 400000 in
theorem t_permanent {x y z v : Int32} (h : clAt G w B s) (ho : okS s) (k : ∀ w', Fr w w' (sB B) → clAt G w' B s → P (some (.int (spPermanent s x y z v))) w') : wpM G (d + 11) yX9_permanent (0, 0) [.ref B, .int x, .int y, .int z, .int v] w P := by
  have h0 := h.1
  unfold clO at h0
  unfold spPermanent at k
  refine eX9_permanent ?_
  refine qX9_permanent_0 ?_
  refine qX9_permanent_1 (Nat.le_of_ble_eq_true rfl) (t_isArray (fun i hi hx => ?_) (fun hx => ?_))
  · subst hx
    obtain ⟨g1, ⟨f, g2, g3⟩, a, g4, g5, g6, g7⟩ := clG h ho hi
    rw [nN_nI (by omega), cIf_t (inB_nI hi)] at k
    obtain ⟨q1, q2⟩ := id g4
    have b1 := g5.2.1
    have b2 := g5.2.2.2.1
    refine nX9_permanent_4 (by omega) (fun h4 => ?_) (fun h4 => by exfalso; omega)
    refine qX9_permanent_9 ?_
    refine qX9_permanent_10 (by assumption) ?_
    refine qX9_permanent_13 (by assumption) ?_
    refine qX9_permanent_16 ?_
    refine nX9_permanent_17 g2 (Or.inl rfl) hi (by decide) g3 ?_
    refine qX9_permanent_18 ?_
    refine qX9_permanent_20 ?_
    refine qX9_permanent_22 ?_
    refine qX9_permanent_23 ?_
    refine qX9_permanent_24 (Nat.le_of_ble_eq_true rfl) (t_isPart g4 g5 (fun r c r1 r2 c1 hy hz hb => ?_) (fun hno => ?_))
    · subst hy
      subst hz
      have p1 : 2 ^ (lA s i).1 ≤ 16 := Nat.pow_le_pow_right (n := 2) (by decide) b1
      have p2 : 2 ^ (lA s i).2.1 ≤ 16 := Nat.pow_le_pow_right (n := 2) (by decide) b2
      refine nX9_permanent_27 (by omega) (fun h27 => by exfalso; omega) (fun h27 => ?_)
      refine qX9_permanent_30 ?_
      refine qX9_permanent_32 (fun h32 => ?_) (fun h32 => ?_)
      · rw [cIf_f (fun e => inB_lt0 (by decide) h32 e.2)] at k
        refine qX9_permanent_41 ?_
        refine qX9_permanent_43 ?_
        exact k w Fr.rf h
      · refine qX9_permanent_35 ?_
        refine qX9_permanent_37 ?_
        refine qX9_permanent_38 (fun h38 => ?_) (fun h38 => ?_)
        · obtain ⟨v, hv, rfl⟩ := inB_le (by decide) h32 h38
          rw [cIf_t ⟨⟨r, c, r1, r2, c1, rfl, rfl, hb⟩, inB_nI hv⟩, nN_nI (by omega), nN_nI (by omega), ← wysL_cong g7] at k
          obtain ⟨_, _, ⟨L, s3'⟩, _⟩ := id h.2.2.2.2.2.2
          have s3' : wyAt G w (B + 67) L := s3'
          obtain ⟨_, _, u1, _⟩ := id s3'
          refine qX9_permanent_44 ?_
          refine qX9_permanent_45 (by assumption) ?_
          refine qX9_permanent_48 ?_
          refine qX9_permanent_50 ?_
          refine qX9_permanent_51 ?_
          refine qX9_permanent_52 (by assumption) (Nat.le_of_ble_eq_true rfl) (t_gather g5 g4 s3' (by omega) (by omega) r1 r2 c1 hb (fun w' hF hw => ?_))
          have hc := h.wys hF hw
          have e0 := hc.1
          unfold clO at e0
          have hl : 1 ≤ (wysL (lA s i).1 (lA s i).2.1 a r c).length := by
            unfold wysL
            rw [goW_len]
            exact (cw_ok g5 r2 c1 r1 hb).1
          have hs := sv_le g6 g5.2.1 (r := r) (c := c)
          obtain ⟨_, _, u2, _⟩ := id hw
          have kk := k w' (hF.mono (fun q hq => by unfold s3 at hq; unfold sB; omega)) hc
          refine qX9_permanent_55 ?_
          rcases (show v = 0 ∨ v = 1 ∨ v = 2 by omega) with rfl | rfl | rfl
          · rw [cIf_t rfl] at kk
            refine nX9_permanent_57 (by omega) (fun h57 => by exfalso; omega) (fun h57 => ?_)
            refine qX9_permanent_60 ?_
            refine qX9_permanent_61 (by assumption) ?_
            refine qX9_permanent_64 (by assumption) (Nat.le_of_ble_eq_true rfl) (t_leastSum hw hl hs ?_)
            refine qX9_permanent_67 ?_
            exact kk
          · rw [cIf_f (by decide), cIf_t rfl] at kk
            refine nX9_permanent_57 (by omega) (fun h57 => ?_) (fun h57 => by exfalso; omega)
            refine qX9_permanent_68 ?_
            refine qX9_permanent_70 ?_
            refine nX9_permanent_71 (by omega) (by omega) (fun h71 => by exfalso; omega) (fun h71 => ?_)
            refine qX9_permanent_74 ?_
            refine qX9_permanent_75 (by assumption) ?_
            refine qX9_permanent_78 (by assumption) (Nat.le_of_ble_eq_true rfl) (t_withLeastSum hw hl hs ?_)
            refine qX9_permanent_81 ?_
            refine qX9_permanent_91 ?_
            exact kk
          · rw [cIf_f (by decide), cIf_f (by decide)] at kk
            refine nX9_permanent_57 (by omega) (fun h57 => ?_) (fun h57 => by exfalso; omega)
            refine qX9_permanent_68 ?_
            refine qX9_permanent_70 ?_
            refine nX9_permanent_71 (by omega) (by omega) (fun h71 => ?_) (fun h71 => by exfalso; omega)
            refine qX9_permanent_84 ?_
            refine qX9_permanent_85 (by assumption) ?_
            refine qX9_permanent_88 (by assumption) (Nat.le_of_ble_eq_true rfl) (t_greatestSum hw hl hs ?_)
            refine qX9_permanent_91 ?_
            exact kk
        · rw [cIf_f (fun e => inB_gt (by decide) h38 e.2)] at k
          refine qX9_permanent_41 ?_
          refine qX9_permanent_43 ?_
          exact k w Fr.rf h
    · rw [cIf_f (fun e => hno e.1)] at k
      refine nX9_permanent_27 (by omega) (fun h27 => ?_) (fun h27 => by exfalso; omega)
      refine qX9_permanent_41 ?_
      refine qX9_permanent_43 ?_
      exact k w Fr.rf h
  · rw [cIf_f hx] at k
    refine nX9_permanent_4 (by omega) (fun h4 => by exfalso; omega) (fun h4 => ?_)
    refine qX9_permanent_7 ?_
    refine qX9_permanent_8 ?_
    exact k w Fr.rf h
end CALLS52
noncomputable def spByParts (s : xS) (x y : Int32) : Int32 := cIf (inB x 3) (cIf (inB y 4) (cIf (y = nI 0) (nI (ptN (lA s (nN x)).1 (lA s (nN x)).2.1 (lA s (nN x)).2.2).1) (cIf (y = nI 1) (nI (ptN (lA s (nN x)).1 (lA s (nN x)).2.1 (lA s (nN x)).2.2).2.1) (cIf (y = nI 2) (nI (ptN (lA s (nN x)).1 (lA s (nN x)).2.1 (lA s (nN x)).2.2).2.2.1) (nI (ptN (lA s (nN x)).1 (lA s (nN x)).2.1 (lA s (nN x)).2.2).2.2.2)))) (-2)) (-1)
section CALLS53
variable {G : sG} {d : Nat} {P : sQ} {w : sW} {B : Nat} {s : xS}
set_option maxHeartbeats 400000 in
theorem t_byParts {x y : Int32} (h : clAt G w B s) (ho : okS s) (k : ∀ w', Fr w w' (sB B) → clAt G w' B s → P (some (.int (spByParts s x y))) w') : wpM G (d + 13) yX9_byParts (0, 0) [.ref B, .int x, .int y] w P := by
  have h0 := h.1
  unfold clO at h0
  unfold spByParts at k
  refine eX9_byParts ?_
  refine qX9_byParts_0 ?_
  refine qX9_byParts_1 (Nat.le_of_ble_eq_true rfl) (t_isArray (fun i hi hx => ?_) (fun hx => ?_))
  · subst hx
    obtain ⟨g1, ⟨f, g2, g3⟩, a, g4, g5, g6, g7⟩ := clG h ho hi
    rw [nN_nI (by omega), cIf_t (inB_nI hi)] at k
    obtain ⟨q1, q2⟩ := id g4
    refine nX9_byParts_4 (by omega) (fun h4 => ?_) (fun h4 => by exfalso; omega)
    refine qX9_byParts_9 ?_
    refine qX9_byParts_10 (fun h10 => ?_) (fun h10 => ?_)
    · rw [cIf_f (fun e => inB_lt0 (by decide) h10 e)] at k
      refine qX9_byParts_18 ?_
      refine qX9_byParts_20 ?_
      exact k w Fr.rf h
    · refine qX9_byParts_13 ?_
      refine qX9_byParts_14 ?_
      refine qX9_byParts_15 (fun h15 => ?_) (fun h15 => ?_)
      · obtain ⟨v, hv, rfl⟩ := inB_le (by decide) h10 h15
        rw [cIf_t (inB_nI hv), ← ptN_cong g7] at k
        obtain ⟨_, _, ⟨L, t3⟩, ⟨p4, t4⟩, _⟩ := id h.2.2.2.2.2.2
        have t3 : wyAt G w (B + 67) L := t3
        have t4 : paAt w (B + 70) p4 := t4
        have t4' := t4
        unfold paAt at t4'
        refine qX9_byParts_21 ?_
        refine qX9_byParts_22 (by assumption) ?_
        refine qX9_byParts_25 ?_
        refine qX9_byParts_26 (by assumption) ?_
        refine qX9_byParts_29 (by assumption) ?_
        refine qX9_byParts_32 ?_
        refine nX9_byParts_33 g2 (Or.inl rfl) hi (by decide) g3 ?_
        refine qX9_byParts_34 ?_
        refine qX9_byParts_35 (by assumption) ?_
        refine qX9_byParts_38 (by assumption) (Nat.le_of_ble_eq_true rfl) (t_pstudy g5 g6 g4 t3 t4 (by omega) (by omega) (by omega) (by omega) (by omega) (fun w' L' hF hw hp => ?_))
        have hc := h.pts hF hw hp
        have e0 := hc.1
        unfold clO at e0
        unfold paAt at hp
        have kk := k w' (hF.mono (fun q hq => by unfold s3 at hq; unfold sB; omega)) hc
        refine qX9_byParts_41 ?_
        rcases (show v = 0 ∨ v = 1 ∨ v = 2 ∨ v = 3 by omega) with rfl | rfl | rfl | rfl
        · rw [cIf_t rfl] at kk
          refine qX9_byParts_42_0 ?_
          refine qX9_byParts_68 ?_
          refine qX9_byParts_69 (by assumption) ?_
          refine qX9_byParts_72 (by assumption) ?_
          refine qX9_byParts_75 ?_
          exact kk
        · rw [cIf_f (by decide), cIf_t rfl] at kk
          refine qX9_byParts_42_1 ?_
          refine qX9_byParts_76 ?_
          refine qX9_byParts_77 (by assumption) ?_
          refine qX9_byParts_80 (by assumption) ?_
          refine qX9_byParts_83 ?_
          exact kk
        · rw [cIf_f (by decide), cIf_f (by decide), cIf_t rfl] at kk
          refine qX9_byParts_42_2 ?_
          refine qX9_byParts_84 ?_
          refine qX9_byParts_85 (by assumption) ?_
          refine qX9_byParts_88 (by assumption) ?_
          refine qX9_byParts_91 ?_
          exact kk
        · rw [cIf_f (by decide), cIf_f (by decide), cIf_f (by decide)] at kk
          refine qX9_byParts_42_d (by decide) ?_
          refine qX9_byParts_92 ?_
          refine qX9_byParts_93 (by assumption) ?_
          refine qX9_byParts_96 (by assumption) ?_
          refine qX9_byParts_99 ?_
          exact kk
      · rw [cIf_f (fun e => inB_gt (by decide) h15 e)] at k
        refine qX9_byParts_18 ?_
        refine qX9_byParts_20 ?_
        exact k w Fr.rf h
  · rw [cIf_f hx] at k
    refine nX9_byParts_4 (by omega) (fun h4 => by exfalso; omega) (fun h4 => ?_)
    refine qX9_byParts_7 ?_
    refine qX9_byParts_8 ?_
    exact k w Fr.rf h
end CALLS53
