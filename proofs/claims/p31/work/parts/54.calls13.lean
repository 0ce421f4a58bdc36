/-! ranks, and what if -/
theorem tuN_lt {R C k : Nat} (hk : k < C * R) : k % R * C + k / R < R * C := by
  obtain ⟨h1, h2⟩ := dm_lt hk
  exact Nat.lt_of_lt_of_le (Nat.add_lt_add_left h1 _) (by
    have h3 : (k % R + 1) * C ≤ R * C := Nat.mul_le_mul_right C h2
    rw [Nat.add_mul] at h3
    omega)
theorem tuN_le {R C : Nat} {a : Nat → Nat} (ha : ∀ k, k < R * C → a k ≤ 999) : ∀ k, k < C * R → tuN R C a k ≤ 999 := fun _ hk => ha _ (tuN_lt hk)
theorem tuN_cong {R C : Nat} {a b : Nat → Nat} (h : ∀ k, k < R * C → a k = b k) : ∀ k, k < C * R → tuN R C a k = tuN R C b k := fun _ hk => h _ (tuN_lt hk)
theorem okD.sw {R C : Nat} (h : okD R C) : okD C R := ⟨h.2.2.1, h.2.2.2.1, h.1, h.2.1, by rw [Nat.mul_comm]; exact h.2.2.2.2⟩
/-- the columns (or rows) that do not go -/
def nlN (b : Bool) (R C : Nat) (a : Nat → Nat) : Nat := match b with
  | true => nedN C R (tuN R C a) R
  | false => nedN R C a C
theorem nlN_lt {b : Bool} {R C : Nat} {a : Nat → Nat} (hd : okD R C) : nlN b R C a < 16 := by
  cases b
  · exact nedN_lt hd.2.2.2.1 _
  · exact nedN_lt hd.2.1 _
theorem nlN_cong {b : Bool} {R C : Nat} {a a' : Nat → Nat} (hd : okD R C) (h : ∀ k, k < R * C → a k = a' k) : nlN b R C a = nlN b R C a' := by
  cases b
  · exact nedN_cong hd h C (Nat.le_refl C)
  · exact nedN_cong hd.sw (tuN_cong h) R (Nat.le_refl R)
def rkN (kd R C : Nat) (a : Nat → Nat) : Nat := match kd with
  | 0 => (ptN R C a).1
  | 1 => (ffN (untN R C a) (R * C) (R * C)).1
  | 2 => bcN (nlN false R C a)
  | _ => bcN (nlN true R C a)
theorem rkN_cong {kd R C : Nat} {a b : Nat → Nat} (hd : okD R C) (h : ∀ k, k < R * C → a k = b k) : rkN kd R C a = rkN kd R C b := by
  unfold rkN
  rw [ptN_cong h, untN_cong h, nlN_cong hd h, nlN_cong hd h]
section CALLS56
variable {G : sG} {d : Nat} {P : sQ} {w : sW} {B g e R C : Nat} {a : Nat → Nat} {s : xS}
theorem t_neededLines (b : Bool) (h : clAt G w B s) (hg : gAt G w g e R C a) (hd : okD R C) (ha : ∀ k, k < R * C → a k ≤ 999) (n1 : g < B + 65) (n2 : e < B + 65) (k : ∀ w', Fr w w' (sGE (B + 65) (B + 65 + 1)) → clAt G w' B s → P (some (.int (nI (nlN b R C a)))) w') : wpM G (d + 6) yX9_neededLines (0, 0) [.ref B, .ref g, .int (nI (bN b))] w P := by
  have h0 := h.1
  unfold clO at h0
  refine eX9_neededLines ?_
  refine qX9_neededLines_0 ?_
  cases b
  · refine nX9_neededLines_1 (by decide) (fun h => absurd rfl h) (fun _ => ?_)
    refine qX9_neededLines_4 ?_
    refine qX9_neededLines_5 (Nat.le_of_ble_eq_true rfl) (t_neededColumns hg hd ha ?_)
    refine qX9_neededLines_8 ?_
    exact k w Fr.rf h
  · refine nX9_neededLines_1 (by decide) (fun _ => ?_) (fun h => absurd h (by decide))
    obtain ⟨_, ⟨v, t2⟩, _⟩ := id h.2.2.2.2.2.2
    have t2 : gAt G w (B + 65) (B + 65 + 1) v.1 v.2.1 v.2.2 := t2
    obtain ⟨u1, u2⟩ := id t2
    refine qX9_neededLines_9 ?_
    refine qX9_neededLines_10 (by assumption) ?_
    refine qX9_neededLines_13 ?_
    refine qX9_neededLines_14 (by assumption) (Nat.le_of_ble_eq_true rfl) (t_becomeTurned t2 hg (by omega) (by omega) hd ha (fun w' a' hF hg' ha' => ?_))
    have hc := h.trn hF (v := (C, R, a')) hg'
    have e0 := hc.1
    unfold clO at e0
    refine qX9_neededLines_17 ?_
    refine qX9_neededLines_18 (by assumption) ?_
    refine qX9_neededLines_21 (Nat.le_of_ble_eq_true rfl) (t_neededColumns hg' hd.sw (fun j hj => by rw [ha' j hj]; exact tuN_le ha j hj) ?_)
    refine qX9_neededLines_24 ?_
    rw [nedN_cong hd.sw ha' R (Nat.le_refl R)]
    exact k w' hF hc
theorem t_rank {kd : Nat} (hkd : kd < 4) (h : clAt G w B s) (hg : gAt G w (B + 63) (B + 63 + 1) R C a) (hd : okD R C) (ha : ∀ k, k < R * C → a k ≤ 999) (k : ∀ w', Fr w w' (fun q => B + 65 ≤ q ∧ q < B + 76) → clAt G w' B s → P (some (.int (nI (rkN kd R C a)))) w') : wpM G (d + 16) yX9_rank (0, 0) [.ref B, .ref (B + 63), .int (nI kd)] w P := by
  have h0 := h.1
  unfold clO at h0
  obtain ⟨_, _, ⟨L, t3⟩, ⟨p4, t4⟩, ⟨n, U, fr, pw, t5, t6⟩, _⟩ := id h.2.2.2.2.2.2
  have t3 : wyAt G w (B + 67) L := t3
  have t4 : paAt w (B + 70) p4 := t4
  have t5 : cvAt G w (B + 71) n U fr pw := t5
  refine eX9_rank ?_
  refine qX9_rank_0 ?_
  rcases (show kd = 0 ∨ kd = 1 ∨ kd = 2 ∨ kd = 3 by omega) with rfl | rfl | rfl | rfl
  · refine qX9_rank_1_0 ?_
    have t4' := t4
    unfold paAt at t4'
    refine qX9_rank_28 ?_
    refine qX9_rank_29 (by assumption) ?_
    refine qX9_rank_32 ?_
    refine qX9_rank_33 ?_
    refine qX9_rank_34 (by assumption) ?_
    refine qX9_rank_37 (by assumption) (Nat.le_of_ble_eq_true rfl) (t_pstudy hd ha hg t3 t4 (by omega) (by omega) (by omega) (by omega) (by omega) (fun w' L' hF hw hp => ?_))
    have hc := h.pts hF hw hp
    have e0 := hc.1
    unfold clO at e0
    unfold paAt at hp
    refine qX9_rank_40 ?_
    refine qX9_rank_41 (by assumption) ?_
    refine qX9_rank_44 (by assumption) ?_
    refine qX9_rank_47 ?_
    exact k w' (hF.mono (fun q hq => by unfold s3 at hq; omega)) hc
  · refine qX9_rank_1_1 ?_
    obtain ⟨f5, v5, _⟩ := id t5
    refine qX9_rank_48 ?_
    refine qX9_rank_49 (by assumption) ?_
    refine qX9_rank_52 ?_
    refine qX9_rank_53 ?_
    refine qX9_rank_54 (by assumption) ?_
    refine qX9_rank_57 (by assumption) (Nat.le_of_ble_eq_true rfl) (t_cstudy hd ha hg t3 t5 (by omega) (by omega) (by omega) (by omega) (by omega) (fun w' L' hF hw hcv => ?_))
    have hc := h.cvs hF hw hcv t6
    have e0 := hc.1
    unfold clO at e0
    obtain ⟨f6, v6, _⟩ := id hcv
    refine qX9_rank_60 ?_
    refine qX9_rank_61 (by assumption) ?_
    refine qX9_rank_64 (by assumption) (Nat.le_of_ble_eq_true rfl) (t_findFirstRow hcv t6 hd.2.2.2.2 (fun w2 fr2 pw2 hF2 hcv2 hp2 _ => ?_))
    have hc2 := hc.cvs (hF2.mono (fun q hq => Or.inr hq)) (hw.fr hF2 (fun q a1 a2 => by unfold s4; omega)) hcv2 hp2
    refine qX9_rank_67 ?_
    exact k w2 ((hF.mono (fun q hq => by unfold s3 s4 at hq; omega)).tr hF2 (fun q hq => by unfold s4 at hq; omega)) hc2
  · refine qX9_rank_1_2 ?_
    refine qX9_rank_68 ?_
    refine qX9_rank_69 ?_
    refine qX9_rank_70 ?_
    refine qX9_rank_71 (by assumption) (Nat.le_of_ble_eq_true rfl) (t_neededLines false h hg hd ha (by omega) (by omega) (fun w' hF hc => ?_))
    have hm := nlN_lt (b := false) (a := a) hd
    refine qX9_rank_74 (Nat.le_of_ble_eq_true rfl) (t_bitCount (by omega) ?_)
    refine qX9_rank_77 ?_
    exact k w' (hF.mono (fun q hq => by unfold sGE at hq; omega)) hc
  · refine qX9_rank_1_d (by decide) ?_
    refine qX9_rank_78 ?_
    refine qX9_rank_79 ?_
    refine qX9_rank_80 ?_
    refine qX9_rank_81 (by assumption) (Nat.le_of_ble_eq_true rfl) (t_neededLines true h hg hd ha (by omega) (by omega) (fun w' hF hc => ?_))
    have hm := nlN_lt (b := true) (a := a) hd
    refine qX9_rank_84 (Nat.le_of_ble_eq_true rfl) (t_bitCount (by omega) ?_)
    refine qX9_rank_87 ?_
    exact k w' (hF.mono (fun q hq => by unfold sGE at hq; omega)) hc
end CALLS56
noncomputable def spByCone (s : xS) (x : Int32) (b : Bool) (z : Int32) : Int32 := cIf (inB x 3) (cIf (inB z 2) (cIf (z = nI 1) (nI (nlN b (lA s (nN x)).1 (lA s (nN x)).2.1 (lA s (nN x)).2.2)) (nI (bcN (nlN b (lA s (nN x)).1 (lA s (nN x)).2.1 (lA s (nN x)).2.2)))) (-2)) (-1)
noncomputable def spIfSet (s : xS) (x y z v u : Int32) : Int32 := cIf (inB x 3 ∧ inB y (lA s (nN x)).1 ∧ inB z (lA s (nN x)).2.1) (cIf (inB v 1000 ∧ inB u 4) (nI (rkN (nN u) (lA s (nN x)).1 (lA s (nN x)).2.1 (updN (lA s (nN x)).2.2 (nN y * (lA s (nN x)).2.1 + nN z) (nN v)))) (-2)) (-1)
/-- the best place among the first, and its rank -/
def bzF (R C : Nat) (a : Nat → Nat) : Nat → Nat × Nat
  | 0 => (0, 13)
  | n + 1 => if rkN 1 R C (updN a n 0) < (bzF R C a n).2 then (n, rkN 1 R C (updN a n 0)) else bzF R C a n
noncomputable def spBestZero (s : xS) (x : Int32) : Int32 := cIf (inB x 3) (nI (bzF (lA s (nN x)).1 (lA s (nN x)).2.1 (lA s (nN x)).2.2 ((lA s (nN x)).1 * (lA s (nN x)).2.1)).1) (-1)
theorem updN_cong {a b : Nat → Nat} {S i x : Nat} (h : ∀ k, k < S → a k = b k) : ∀ k, k < S → updN a i x k = updN b i x k := fun k hk => by
  unfold updN
  rw [h k hk]
theorem updN_le {a : Nat → Nat} {S i x B : Nat} (h : ∀ k, k < S → a k ≤ B) (hx : x ≤ B) : ∀ k, k < S → updN a i x k ≤ B := fun k hk => by
  unfold updN
  split
  · exact hx
  · exact h k hk
theorem bzF_cong {R C : Nat} {a b : Nat → Nat} (hd : okD R C) (h : ∀ k, k < R * C → a k = b k) : ∀ n, bzF R C a n = bzF R C b n
  | 0 => rfl
  | n + 1 => by
    simp only [bzF]
    rw [bzF_cong hd h n, rkN_cong hd (updN_cong h)]
theorem ffN_le (U : Nat → Bool) (n : Nat) : ∀ m, (ffN U n m).1 ≤ n
  | 0 => Nat.le_refl n
  | m + 1 => by
    unfold ffN
    split
    · exact Nat.sub_le n m
    · exact ffN_le U n m
theorem rk1_le {R C : Nat} {a : Nat → Nat} : rkN 1 R C a ≤ R * C := ffN_le _ _ _
theorem bzF_le {R C : Nat} {a : Nat → Nat} (h : R * C ≤ 12) : ∀ n, (bzF R C a n).1 ≤ n ∧ (bzF R C a n).2 ≤ 13
  | 0 => ⟨Nat.le_refl 0, Nat.le_refl 13⟩
  | n + 1 => by
    have h1 := bzF_le (a := a) h n
    have h2 := rk1_le (R := R) (C := C) (a := updN a n 0)
    simp only [bzF]
    split
    · exact ⟨by show n ≤ n + 1; omega, by show rkN 1 R C (updN a n 0) ≤ 13; omega⟩
    · exact ⟨by omega, h1.2⟩
section CALLS57
variable {G : sG} {d : Nat} {P : sQ} {w : sW} {B : Nat} {s : xS}
set_option maxHeartbeats 400000 in
theorem t_byCone (b : Bool) {x z : Int32} (h : clAt G w B s) (ho : okS s) (k : ∀ w', Fr w w' (sB B) → clAt G w' B s → P (some (.int (spByCone s x b z))) w') : wpM G (d + 7) yX9_byCone (0, 0) [.ref B, .int x, .int (nI (bN b)), .int z] w P := by
  have h0 := h.1
  unfold clO at h0
  unfold spByCone at k
  refine eX9_byCone ?_
  refine qX9_byCone_0 ?_
  refine qX9_byCone_1 (Nat.le_of_ble_eq_true rfl) (t_isArray (fun i hi hx => ?_) (fun hx => ?_))
  · subst hx
    obtain ⟨g1, ⟨f, g2, g3⟩, a, g4, g5, g6, g7⟩ := clG h ho hi
    rw [nN_nI (by omega), cIf_t (inB_nI hi)] at k
    obtain ⟨q1, q2⟩ := id g4
    refine nX9_byCone_4 (by omega) (fun h4 => ?_) (fun h4 => by exfalso; omega)
    refine qX9_byCone_9 ?_
    refine qX9_byCone_10 (fun h10 => ?_) (fun h10 => ?_)
    · rw [cIf_f (fun e => inB_lt0 (by decide) h10 e)] at k
      refine qX9_byCone_18 ?_
      refine qX9_byCone_20 ?_
      exact k w Fr.rf h
    · refine qX9_byCone_13 ?_
      refine qX9_byCone_14 ?_
      refine qX9_byCone_15 (fun h15 => ?_) (fun h15 => ?_)
      · obtain ⟨v, hv, rfl⟩ := inB_le (by decide) h10 h15
        rw [cIf_t (inB_nI hv), ← nlN_cong g5 g7] at k
        have hm := nlN_lt (b := b) (a := a) g5
        refine qX9_byCone_21 ?_
        refine qX9_byCone_22 ?_
        refine qX9_byCone_23 (by assumption) ?_
        refine qX9_byCone_26 (by assumption) ?_
        refine qX9_byCone_29 ?_
        refine nX9_byCone_30 g2 (Or.inl rfl) hi (by decide) g3 ?_
        refine qX9_byCone_31 ?_
        refine qX9_byCone_32 (by assumption) (Nat.le_of_ble_eq_true rfl) (t_neededLines b h g4 g5 g6 (by omega) (by omega) (fun w' hF hc => ?_))
        have kk := k w' (hF.mono (fun q hq => by unfold sGE at hq; unfold sB; omega)) hc
        refine qX9_byCone_35 ?_
        refine qX9_byCone_37 ?_
        refine qX9_byCone_38 ?_
        rcases (show v = 0 ∨ v = 1 by omega) with rfl | rfl
        · rw [cIf_f (by decide)] at kk
          refine nX9_byCone_39 (by omega) (by omega) (fun h39 => ?_) (fun h39 => by exfalso; omega)
          refine qX9_byCone_47 ?_
          refine qX9_byCone_49 (Nat.le_of_ble_eq_true rfl) (t_bitCount (by omega) ?_)
          refine qX9_byCone_52 ?_
          exact kk
        · rw [cIf_t rfl] at kk
          refine nX9_byCone_39 (by omega) (by omega) (fun h39 => by exfalso; omega) (fun h39 => ?_)
          refine qX9_byCone_42 ?_
          refine qX9_byCone_44 ?_
          refine qX9_byCone_52 ?_
          exact kk
      · rw [cIf_f (fun e => inB_gt (by decide) h15 e)] at k
        refine qX9_byCone_18 ?_
        refine qX9_byCone_20 ?_
        exact k w Fr.rf h
  · rw [cIf_f hx] at k
    refine nX9_byCone_4 (by omega) (fun h4 => by exfalso; omega) (fun h4 => ?_)
    refine qX9_byCone_7 ?_
    refine qX9_byCone_8 ?_
    exact k w Fr.rf h
set_option maxHeartbeats 400000 in
theorem t_ifSet {x y z v u : Int32} (h : clAt G w B s) (ho : okS s) (k : ∀ w', Fr w w' (sB B) → clAt G w' B s → P (some (.int (spIfSet s x y z v u))) w') : wpM G (d + 17) yX9_ifSet (0, 0) [.ref B, .int x, .int y, .int z, .int v, .int u] w P := by
  have h0 := h.1
  unfold clO at h0
  unfold spIfSet at k
  refine eX9_ifSet ?_
  refine qX9_ifSet_0 ?_
  refine qX9_ifSet_1 (Nat.le_of_ble_eq_true rfl) (t_isArray (fun i hi hx => ?_) (fun hx => ?_))
  · subst hx
    obtain ⟨g1, ⟨f, g2, g3⟩, a, g4, g5, g6, g7⟩ := clG h ho hi
    rw [nN_nI (by omega)] at k
    obtain ⟨q1, q2⟩ := id g4
    have b1 := g5.2.1
    have b2 := g5.2.2.2.1
    refine nX9_ifSet_4 (by omega) (fun h4 => by exfalso; omega) (fun h4 => ?_)
    refine qX9_ifSet_7 ?_
    refine qX9_ifSet_8 (by assumption) ?_
    refine qX9_ifSet_11 (by assumption) ?_
    refine qX9_ifSet_14 ?_
    refine nX9_ifSet_15 g2 (Or.inl rfl) hi (by decide) g3 ?_
    refine qX9_ifSet_16 ?_
    refine qX9_ifSet_17 ?_
    refine qX9_ifSet_18 (by assumption) (Nat.le_of_ble_eq_true rfl) (t_has g4 (by omega) (by omega) (fun r c hr hc hy hz => ?_) (fun hno => ?_))
    · subst hy
      subst hz
      rw [cIf_t ⟨inB_nI hi, inB_nI hr, inB_nI hc⟩, nN_nI (by omega), nN_nI (by omega)] at k
      refine nX9_ifSet_21 (by omega) (fun h21 => ?_) (fun h21 => by exfalso; omega)
      refine qX9_ifSet_26 ?_
      refine qX9_ifSet_28 (Nat.le_of_ble_eq_true rfl) (t_isValue (fun v hv hq => ?_) (fun hno => ?_))
      · subst hq
        refine nX9_ifSet_31 (by omega) (fun h31 => by exfalso; omega) (fun h31 => ?_)
        refine qX9_ifSet_34 ?_
        refine qX9_ifSet_36 (fun h36 => ?_) (fun h36 => ?_)
        · rw [cIf_f (fun e => inB_lt0 (by decide) h36 e.2)] at k
          refine qX9_ifSet_45 ?_
          refine qX9_ifSet_47 ?_
          exact k w Fr.rf h
        · refine qX9_ifSet_39 ?_
          refine qX9_ifSet_41 ?_
          refine qX9_ifSet_42 (fun h42 => ?_) (fun h42 => ?_)
          · obtain ⟨u, hu, rfl⟩ := inB_le (by decide) h36 h42
            rw [cIf_t ⟨inB_nI hv, inB_nI hu⟩, nN_nI (by omega), nN_nI (by omega)] at k
            obtain ⟨⟨sp, t1⟩, _⟩ := id h.2.2.2.2.2.2
            have t1 : gAt G w (B + 63) (B + 63 + 1) sp.1 sp.2.1 sp.2.2 := t1
            obtain ⟨u1, u2⟩ := id t1
            refine qX9_ifSet_48 ?_
            refine qX9_ifSet_49 (by assumption) ?_
            refine qX9_ifSet_52 ?_
            refine qX9_ifSet_53 (by assumption) ?_
            refine qX9_ifSet_56 (by assumption) ?_
            refine qX9_ifSet_59 ?_
            refine nX9_ifSet_60 g2 (Or.inl rfl) hi (by decide) g3 ?_
            refine qX9_ifSet_61 (by assumption) (Nat.le_of_ble_eq_true rfl) (t_become t1 g4 (by omega) (by omega) (fun w1 a1 hF1 hg1 ha1 => ?_))
            have hc1 := h.spr hF1 (v := ((lA s i).1, (lA s i).2.1, a1)) hg1
            have e1 := hc1.1
            unfold clO at e1
            obtain ⟨u3, u4⟩ := id hg1
            refine qX9_ifSet_64 ?_
            refine qX9_ifSet_65 (by assumption) ?_
            refine qX9_ifSet_68 ?_
            refine qX9_ifSet_69 ?_
            refine qX9_ifSet_70 ?_
            have hin := g5.in hr hc
            have hin12 := g5.in12 hr hc
            refine qX9_ifSet_72 (by assumption) (Nat.le_of_ble_eq_true rfl) (t_assign hg1 hin12 ?_)
            have hg2 := hg1.upE (a' := updN a1 (r * (lA s i).2.1 + c) v)
            generalize hw2 : s_up w1 (B + 63 + 1) _ = w2 at hg2
            have hF2 : Fr w1 w2 (sGE (B + 63) (B + 63 + 1)) := by rw [← hw2]; exact Fr.rf.up (Or.inr rfl)
            have hc2 := hc1.spr hF2 (v := ((lA s i).1, (lA s i).2.1, updN a1 (r * (lA s i).2.1 + c) v)) hg2
            have e2 := hc2.1
            unfold clO at e2
            have hv1 : ∀ q, q < (lA s i).1 * (lA s i).2.1 → a1 q ≤ 999 := fun q hq => by rw [ha1 q (Nat.lt_of_lt_of_le hq g5.2.2.2.2)]; exact g6 q hq
            have hv2 : ∀ q, q < (lA s i).1 * (lA s i).2.1 → a1 q = (lA s i).2.2 q := fun q hq => by rw [ha1 q (Nat.lt_of_lt_of_le hq g5.2.2.2.2)]; exact g7 q hq
            refine qX9_ifSet_75 ?_
            refine qX9_ifSet_76 ?_
            refine qX9_ifSet_77 (by assumption) ?_
            refine qX9_ifSet_80 ?_
            refine qX9_ifSet_82 (by assumption) (Nat.le_of_ble_eq_true rfl) (t_rank hu hc2 hg2 g5 (updN_le hv1 (by omega)) (fun w3 hF3 hc3 => ?_))
            refine qX9_ifSet_85 ?_
            rw [rkN_cong g5 (updN_cong hv2)]
            exact k w3 (((hF1.mono (fun q hq => by unfold sGE at hq; unfold sB; omega)).tr hF2 (fun q hq => by unfold sGE at hq; unfold sB; omega)).tr hF3 (fun q hq => by unfold sB; omega)) hc3
          · rw [cIf_f (fun e => inB_gt (by decide) h42 e.2)] at k
            refine qX9_ifSet_45 ?_
            refine qX9_ifSet_47 ?_
            exact k w Fr.rf h
      · rw [cIf_f (fun e => hno e.1)] at k
        refine nX9_ifSet_31 (by omega) (fun h31 => ?_) (fun h31 => by exfalso; omega)
        refine qX9_ifSet_45 ?_
        refine qX9_ifSet_47 ?_
        exact k w Fr.rf h
    · rw [cIf_f (fun e => hno e.2)] at k
      refine nX9_ifSet_21 (by omega) (fun h21 => by exfalso; omega) (fun h21 => ?_)
      refine qX9_ifSet_24 ?_
      refine qX9_ifSet_25 ?_
      exact k w Fr.rf h
  · rw [cIf_f (fun e => hx e.1)] at k
    refine nX9_ifSet_4 (by omega) (fun h4 => ?_) (fun h4 => by exfalso; omega)
    refine qX9_ifSet_24 ?_
    refine qX9_ifSet_25 ?_
    exact k w Fr.rf h
set_option maxHeartbeats 1000000 in
theorem t_bestZero {x : Int32} (h : clAt G w B s) (ho : okS s) (k : ∀ w', Fr w w' (sB B) → clAt G w' B s → P (some (.int (spBestZero s x))) w') : wpM G (d + 17) yX9_bestZero (0, 0) [.ref B, .int x] w P := by
  have h0 := h.1
  unfold clO at h0
  unfold spBestZero at k
  refine eX9_bestZero ?_
  refine qX9_bestZero_0 ?_
  refine qX9_bestZero_1 (Nat.le_of_ble_eq_true rfl) (t_isArray (fun i hi hx => ?_) (fun hx => ?_))
  · subst hx
    obtain ⟨g1, ⟨f, g2, g3⟩, a, g4, g5, g6, g7⟩ := clG h ho hi
    rw [nN_nI (by omega), cIf_t (inB_nI hi)] at k
    have b1 := g5.2.1
    have b2 := g5.2.2.2.1
    have b3 := g5.2.2.2.2
    refine nX9_bestZero_4 (by omega) (fun h4 => ?_) (fun h4 => by exfalso; omega)
    refine qX9_bestZero_9 ?_
    refine qX9_bestZero_10 (by assumption) ?_
    refine qX9_bestZero_13 (by assumption) ?_
    refine qX9_bestZero_16 ?_
    refine nX9_bestZero_17 g2 (Or.inl rfl) hi (by decide) g3 ?_
    refine qX9_bestZero_18 ?_
    refine qX9_bestZero_19 ?_
    refine qX9_bestZero_20 ?_
    refine qX9_bestZero_21 ?_
    refine qX9_bestZero_23 ?_
    refine qX9_bestZero_25 ?_
    refine qX9_bestZero_26 ?_
    have Lr : ∀ m row (w' : sW) (l6 l7 : Option Value), row + m = (lA s i).1 → Fr w w' (sB B) → clAt G w' B s → wp G (d + 16) mX9_bestZero P 28 [some (.ref B), some (.int (nI i)), some (.ref (B + 1 + 2 + 2 * i)), some (.int (nI (bzF (lA s i).1 (lA s i).2.1 (lA s i).2.2 (row * (lA s i).2.1)).1)), some (.int (nI (bzF (lA s i).1 (lA s i).2.1 (lA s i).2.2 (row * (lA s i).2.1)).2)), some (.int (nI row)), l6, l7] [] w' (0, 0) := by
      intro m
      induction m with
      | zero =>
        intro row w' l6 l7 hr hF hc
        obtain ⟨_, _, a', e4, e5, e6, e7⟩ := clG hc ho hi
        obtain ⟨q1, q2⟩ := id e4
        refine qX9_bestZero_28 ?_
        refine qX9_bestZero_30 ?_
        refine qX9_bestZero_31 (by assumption) ?_
        refine nX9_bestZero_34 (by omega) (by omega) (fun h34 => ?_) (fun h34 => by exfalso; omega)
        refine qX9_bestZero_112 ?_
        refine qX9_bestZero_113 ?_
        rw [show row = (lA s i).1 by omega]
        exact k w' hF hc
      | succ m ih =>
        intro row w' l6 l7 hr hF hc
        obtain ⟨_, _, a', e4, e5, e6, e7⟩ := clG hc ho hi
        obtain ⟨q1, q2⟩ := id e4
        refine qX9_bestZero_28 ?_
        refine qX9_bestZero_30 ?_
        refine qX9_bestZero_31 (by assumption) ?_
        refine nX9_bestZero_34 (by omega) (by omega) (fun h34 => by exfalso; omega) (fun h34 => ?_)
        refine qX9_bestZero_37 ?_
        refine qX9_bestZero_38 ?_
        have Lc : ∀ q c (w' : sW) (l7 : Option Value), c + q = (lA s i).2.1 → Fr w w' (sB B) → clAt G w' B s → wp G (d + 16) mX9_bestZero P 40 [some (.ref B), some (.int (nI i)), some (.ref (B + 1 + 2 + 2 * i)), some (.int (nI (bzF (lA s i).1 (lA s i).2.1 (lA s i).2.2 (row * (lA s i).2.1 + c)).1)), some (.int (nI (bzF (lA s i).1 (lA s i).2.1 (lA s i).2.2 (row * (lA s i).2.1 + c)).2)), some (.int (nI row)), some (.int (nI c)), l7] [] w' (0, 0) := by
          intro q
          induction q with
          | zero =>
            intro c w' l7 hcq hF hc
            obtain ⟨_, _, a', e4, e5, e6, e7⟩ := clG hc ho hi
            obtain ⟨q1, q2⟩ := id e4
            refine qX9_bestZero_40 ?_
            refine qX9_bestZero_42 ?_
            refine qX9_bestZero_43 (by assumption) ?_
            refine nX9_bestZero_46 (by omega) (by omega) (fun h46 => ?_) (fun h46 => by exfalso; omega)
            first | refine nX9_bestZero_106 ?_ | refine qX9_bestZero_106 ?_
            refine qX9_bestZero_109 ?_
            have := ih (row + 1) w' (some (.int (nI c))) l7 (by omega) hF hc
            rw [Nat.succ_mul row (lA s i).2.1] at this
            rw [show c = (lA s i).2.1 by omega] at this ⊢
            exact this
          | succ q ih2 =>
            intro c w' l7 hcq hF hc
            obtain ⟨_, _, a', e4, e5, e6, e7⟩ := clG hc ho hi
            obtain ⟨q1, q2⟩ := id e4
            have e0 := hc.1
            unfold clO at e0
            obtain ⟨⟨sp, t1⟩, _⟩ := id hc.2.2.2.2.2.2
            have t1 : gAt G w' (B + 63) (B + 63 + 1) sp.1 sp.2.1 sp.2.2 := t1
            obtain ⟨u1, u2⟩ := id t1
            have hin := e5.in (show row < _ by omega) (show c < _ by omega)
            have hin12 := e5.in12 (show row < _ by omega) (show c < _ by omega)
            refine qX9_bestZero_40 ?_
            refine qX9_bestZero_42 ?_
            refine qX9_bestZero_43 (by assumption) ?_
            refine nX9_bestZero_46 (by omega) (by omega) (fun h46 => by exfalso; omega) (fun h46 => ?_)
            refine qX9_bestZero_49 ?_
            refine qX9_bestZero_50 (by assumption) ?_
            refine qX9_bestZero_53 ?_
            refine qX9_bestZero_54 (by assumption) (Nat.le_of_ble_eq_true rfl) (t_become t1 e4 (by omega) (by omega) (fun w1 a1 hF1 hg1 ha1 => ?_))
            have hc1 := hc.spr hF1 (v := ((lA s i).1, (lA s i).2.1, a1)) hg1
            have e1 := hc1.1
            unfold clO at e1
            obtain ⟨u3, u4⟩ := id hg1
            refine qX9_bestZero_57 ?_
            refine qX9_bestZero_58 (by assumption) ?_
            refine qX9_bestZero_61 ?_
            refine qX9_bestZero_63 ?_
            refine qX9_bestZero_65 ?_
            refine qX9_bestZero_66 (by assumption) (Nat.le_of_ble_eq_true rfl) (t_assign hg1 hin12 ?_)
            have hg2 := hg1.upE (a' := updN a1 (row * (lA s i).2.1 + c) 0)
            generalize hw2 : s_up w1 (B + 63 + 1) _ = w2 at hg2
            have hF2 : Fr w1 w2 (sGE (B + 63) (B + 63 + 1)) := by rw [← hw2]; exact Fr.rf.up (Or.inr rfl)
            have hc2 := hc1.spr hF2 (v := ((lA s i).1, (lA s i).2.1, updN a1 (row * (lA s i).2.1 + c) 0)) hg2
            have e2 := hc2.1
            unfold clO at e2
            have hv1 : ∀ q, q < (lA s i).1 * (lA s i).2.1 → a1 q ≤ 999 := fun q hq => by rw [ha1 q (Nat.lt_of_lt_of_le hq b3)]; exact e6 q hq
            have hv2 : ∀ q, q < (lA s i).1 * (lA s i).2.1 → a1 q = (lA s i).2.2 q := fun q hq => by rw [ha1 q (Nat.lt_of_lt_of_le hq b3)]; exact e7 q hq
            refine qX9_bestZero_69 ?_
            refine qX9_bestZero_70 ?_
            refine qX9_bestZero_71 (by assumption) ?_
            refine qX9_bestZero_74 ?_
            refine qX9_bestZero_75 (by assumption) (Nat.le_of_ble_eq_true rfl) (t_rank (kd := 1) (by decide) hc2 hg2 g5 (updN_le hv1 (by omega)) (fun w3 hF3 hc3 => ?_))
            rw [rkN_cong g5 (updN_cong hv2)]
            have hF4 : Fr w w3 (sB B) := ((hF.tr (hF1.mono (fun q hq => by unfold sGE at hq; unfold sB; omega)) (fun q hq => hq)).tr hF2 (fun q hq => by unfold sGE at hq; unfold sB; omega)).tr hF3 (fun q hq => by unfold sB; omega)
            have hrk := rk1_le (R := (lA s i).1) (C := (lA s i).2.1) (a := updN (lA s i).2.2 (row * (lA s i).2.1 + c) 0)
            have hbz := bzF_le (R := (lA s i).1) (C := (lA s i).2.1) (a := (lA s i).2.2) b3 (row * (lA s i).2.1 + c)
            have hst := ih2 (c + 1) w3 (some (.int (nI (rkN 1 (lA s i).1 (lA s i).2.1 (updN (lA s i).2.2 (row * (lA s i).2.1 + c) 0))))) (by omega) hF4 hc3
            rw [← Nat.add_assoc] at hst
            simp only [bzF] at hst
            obtain ⟨_, _, a3, f4, f5, f6, f7⟩ := clG hc3 ho hi
            obtain ⟨q3, q4⟩ := id f4
            refine qX9_bestZero_78 ?_
            refine qX9_bestZero_80 ?_
            refine qX9_bestZero_82 ?_
            refine nX9_bestZero_84 (by omega) (by omega) (fun h84 => ?_) (fun h84 => ?_)
            · rw [if_neg (by omega)] at hst
              first | refine nX9_bestZero_100 ?_ | refine qX9_bestZero_100 ?_
              refine qX9_bestZero_103 ?_
              exact hst
            · rw [if_pos h84] at hst
              refine qX9_bestZero_87 ?_
              refine qX9_bestZero_89 ?_
              refine qX9_bestZero_91 ?_
              refine qX9_bestZero_92 ?_
              refine qX9_bestZero_94 ?_
              refine qX9_bestZero_96 (by assumption) (Nat.le_of_ble_eq_true rfl) (t_place f4 ?_)
              refine qX9_bestZero_99 ?_
              first | refine nX9_bestZero_100 ?_ | refine qX9_bestZero_100 ?_
              refine qX9_bestZero_103 ?_
              exact hst
        exact Lc (lA s i).2.1 0 w' l7 (by omega) hF hc
    have := Lr (lA s i).1 0 w none none (by omega) Fr.rf h
    rw [Nat.zero_mul] at this
    exact this
  · rw [cIf_f hx] at k
    refine nX9_bestZero_4 (by omega) (fun h4 => by exfalso; omega) (fun h4 => ?_)
    refine qX9_bestZero_7 ?_
    refine qX9_bestZero_8 ?_
    exact k w Fr.rf h
end CALLS57
