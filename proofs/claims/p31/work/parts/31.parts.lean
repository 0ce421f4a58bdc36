def mnI (f : Nat → Nat) : Nat → Nat
  | 0 => f 0
  | n + 1 => min (mnI f n) (f n)
def mxI (f : Nat → Nat) : Nat → Nat
  | 0 => f 0
  | n + 1 => max (mxI f n) (f n)
def cntE (f : Nat → Nat) (v : Nat) : Nat → Nat
  | 0 => 0
  | n + 1 => cntE f v n + (if f n = v then 1 else 0)
theorem cntE_le {f : Nat → Nat} {v : Nat} : ∀ n, cntE f v n ≤ n
  | 0 => Nat.le_refl 0
  | n + 1 => by
    have := cntE_le (f := f) (v := v) n
    simp only [cntE]
    split <;> omega
theorem mnI_le {f : Nat → Nat} {B : Nat} : ∀ {n}, (∀ i, i < n + 1 → f i ≤ B) → mnI f n ≤ B
  | 0, h => h 0 (by omega)
  | n + 1, h => Nat.le_trans (Nat.min_le_left _ _) (mnI_le (fun i hi => h i (by omega)))
theorem mxI_le {f : Nat → Nat} {B : Nat} : ∀ {n}, (∀ i, i < n + 1 → f i ≤ B) → mxI f n ≤ B
  | 0, h => h 0 (by omega)
  | n + 1, h => Nat.max_le.mpr ⟨mxI_le (fun i hi => h i (by omega)), h n (by omega)⟩
def sv (L : List (Nat × Nat)) (i : Nat) : Nat := (L.getD i (0, 0)).1
def pv (L : List (Nat × Nat)) (i : Nat) : Nat := (L.getD i (0, 0)).2
def lsN (L : List (Nat × Nat)) : Nat := mnI (sv L) L.length
def gsN (L : List (Nat × Nat)) : Nat := mxI (sv L) L.length
def wlN (L : List (Nat × Nat)) : Nat := cntE (sv L) (lsN L) L.length
theorem wpM_cast {G : sG} {d1 d2 : Nat} {y : MethodName} {κ : Nat × Nat} {vs : List Value} {w : sW} {P : sQ} (h : d1 = d2) (k : wpM G d1 y κ vs w P) : wpM G d2 y κ vs w P := h ▸ k
def ckW (R C : Nat) : Bool := (List.range (2 ^ R)).all fun r => (List.range (2 ^ C)).all fun c => r == 0 || bcN r != bcN c || (decide (1 ≤ cwW R C r R c) && decide (cwW R C r R c ≤ 24))
theorem cw_ok2 : ((List.range 5).all fun R => (List.range 5).all fun C => decide (12 < R * C) || ckW R C) = true := by decide +kernel
theorem cw_ok {R C r c : Nat} (hd : okD R C) (hr : r < 2 ^ R) (hc : c < 2 ^ C) (h1 : 1 ≤ r) (hb : bcN r = bcN c) : 1 ≤ cwW R C r R c ∧ cwW R C r R c ≤ 24 := by
  have d1 := hd.2.1
  have d2 := hd.2.2.2.1
  have d3 := hd.2.2.2.2
  have h := cw_ok2
  simp only [List.all_eq_true, List.mem_range, Bool.or_eq_true, decide_eq_true_eq] at h
  rcases h R (by omega) C (by omega) with h | h
  · omega
  · simp only [ckW, List.all_eq_true, List.mem_range, Bool.or_eq_true, Bool.and_eq_true, decide_eq_true_eq, beq_iff_eq, bne_iff_ne] at h
    rcases h r hr c hc with (h | h) | h
    · omega
    · exact absurd hb h
    · exact h
/-- the ways through a part -/
def wysL (R C : Nat) (a : Nat → Nat) (r c : Nat) : List (Nat × Nat) := goW R C a r R c 0 0
/-- entries beyond the array do not matter -/
def cut (S : Nat) (a : Nat → Nat) : Nat → Nat := fun k => if k < S then a k else 0
theorem goW_cut {R C : Nat} {a : Nat → Nat} (rows : Nat) : ∀ m, m ≤ R → ∀ cols sum pl, goW R C (cut (R * C) a) rows m cols sum pl = goW R C a rows m cols sum pl
  | 0, _, _, _, _ => rfl
  | m + 1, hm, cols, sum, pl => by
    simp only [goW]
    split
    · exact goW_cut rows m (by omega) _ _ _
    · rw [List.flatMap_def, List.flatMap_def]
      congr 1
      apply List.map_congr_left
      intro c hc
      rw [List.mem_range] at hc
      split
      · rw [goW_cut rows m (by omega)]
        congr 1
        simp only [cut]
        rw [if_pos]
        have h1 : (R - (m + 1) + 1) * C ≤ R * C := Nat.mul_le_mul_right C (by omega)
        rw [Nat.succ_mul] at h1
        omega
      · rfl
theorem sv_le {R C : Nat} {a : Nat → Nat} (ha : ∀ k, k < R * C → a k ≤ 999) (hR : R ≤ 4) {r c : Nat} (i : Nat) : sv (wysL R C a r c) i ≤ 4000 := by
  unfold wysL
  rw [← goW_cut r R (Nat.le_refl R)]
  have h := goW_sum R C (cut (R * C) a) (fun k => by
    simp only [cut]
    split
    · next h => exact ha k h
    · omega) r R c 0 0
  simp only [sv, List.getD_eq_getElem?_getD]
  cases hq : (goW R C (cut (R * C) a) r R c 0 0)[i]? with
  | none => simp
  | some x =>
    have := h x (List.mem_of_getElem? hq)
    simp only [Option.getD_some]
    omega
section PARTS
variable {G : sG} {d : Nat} {P : sQ} {w : sW} {g e R C : Nat} {a : Nat → Nat}
theorem t_gather {v r c : Nat} {L : List (Nat × Nat)} (hd : okD R C) (h : gAt G w g e R C a) (hw : wyAt G w v L) (hv : v + 3 ≤ g ∨ g < v) (hv2 : v + 3 ≤ e ∨ e < v) (h1 : 1 ≤ r) (hr : r < 2 ^ R) (hc : c < 2 ^ C) (hb : bcN r = bcN c) (k : ∀ w', Fr w w' (s3 v) → wyAt G w' v (wysL R C a r c) → P none w') : wpM G (d + 10) yX8_gather (0, 0) [.ref v, .ref g, .int (nI r), .int (nI c)] w P := by
  have d1 := hd.2.1
  have d2 := hd.2.2.2.1
  have pR : 2 ^ R ≤ 16 := Nat.pow_le_pow_right (n := 2) (by decide) (show R ≤ 4 by omega)
  have pC : 2 ^ C ≤ 16 := Nat.pow_le_pow_right (n := 2) (by decide) (show C ≤ 4 by omega)
  obtain ⟨f, q, x1, x2, x3, x4, x5⟩ := id hw
  refine eX8_gather ?_
  refine qX8_gather_0 ?_
  refine qX8_gather_1 ?_
  refine qX8_gather_2 (by assumption) ?_
  generalize hw1 : s_up w v (ob 7 [.ref (v + 1), .ref (v + 2), .int (nI 0)]) = w1
  have hF1 : Fr w w1 (s3 v) := by rw [← hw1]; exact Fr.rf.up ⟨by omega, by omega⟩
  have hw2 : wyAt G w1 v [] := ⟨f, q, by rw [← hw1]; exact s_upS, by rw [← hw1, s_upN (by omega)]; exact x2, by rw [← hw1, s_upN (by omega)]; exact x3, by simp, fun i hi => absurd hi (Nat.not_lt_zero i)⟩
  have hg : gAt G w1 g e R C a := h.fr hF1 (fun z => by have := z.1; have := z.2; omega) (fun z => by have := z.1; have := z.2; omega)
  refine qX8_gather_5 ?_
  refine qX8_gather_6 ?_
  refine qX8_gather_7 ?_
  refine qX8_gather_8 ?_
  refine qX8_gather_9 ?_
  refine qX8_gather_10 ?_
  refine qX8_gather_11 ?_
  refine qX8_gather_12 (Nat.le_of_ble_eq_true rfl) (wpM_cast (d1 := d + (6 - R) + (R + 3)) (by omega) (t_wgoOn hd (rows := r) (by omega) hv hv2 R (d + (6 - R)) _ _ 0 c 0 0 [] (by omega) (by omega) hg hw2 (by have := (cw_ok hd hr hc h1 hb).2; simpa using this) (fun w' hF hw' => ?_)))
  refine qX8_gather_15 ?_
  exact k w' (hF1.tr hF (fun q hq => hq)) (by unfold wysL; simpa using hw')
theorem t_leastSum {v : Nat} {L : List (Nat × Nat)} (hw : wyAt G w v L) (h1 : 1 ≤ L.length) (hs : ∀ i, sv L i ≤ 4000) (k : P (some (.int (nI (lsN L)))) w) : wpM G (d + 1) yX8_leastSum (0, 0) [.ref v] w P := by
  obtain ⟨f, q, x1, x2, x3, x4, x5⟩ := id hw
  have hf : ∀ i, i < L.length → f i = sv L i := fun i hi => (x5 i hi).1
  refine eX8_leastSum ?_
  refine qX8_leastSum_0 ?_
  refine qX8_leastSum_1 (by assumption) ?_
  refine qX8_leastSum_4 ?_
  first | refine fX8_leastSum_5 (by assumption) (by omega) (by decide) ?_ | refine nX8_leastSum_5 (by assumption) (by omega) (by decide) ?_
  refine qX8_leastSum_6 ?_
  refine qX8_leastSum_7 ?_
  refine qX8_leastSum_8 ?_
  rw [hf 0 (by omega)]
  have Lp : ∀ m i, i + m = L.length → 1 ≤ i → wp G d mX8_leastSum P 9 [some (.ref v), some (.int (nI (mnI (sv L) i))), some (.int (nI i))] [] w (0, 0) := by
    intro m
    induction m with
    | zero =>
      intro i hi h2
      refine qX8_leastSum_9 ?_
      refine qX8_leastSum_10 ?_
      refine qX8_leastSum_11 (by assumption) ?_
      refine nX8_leastSum_14 (by omega) (by omega) (fun h14 => ?_) (fun h14 => by exfalso; omega)
      refine qX8_leastSum_34 ?_
      refine qX8_leastSum_35 ?_
      rw [show i = L.length by omega]
      exact k
    | succ m ih =>
      intro i hi h2
      have b1 := mnI_le (f := sv L) (n := i) (fun j _ => hs j)
      have b2 := hs i
      refine qX8_leastSum_9 ?_
      refine qX8_leastSum_10 ?_
      refine qX8_leastSum_11 (by assumption) ?_
      refine nX8_leastSum_14 (by omega) (by omega) (fun h14 => by exfalso; omega) (fun h14 => ?_)
      refine qX8_leastSum_17 ?_
      refine qX8_leastSum_18 ?_
      refine qX8_leastSum_19 (by assumption) ?_
      refine qX8_leastSum_22 ?_
      first | refine fX8_leastSum_23 (by assumption) (by omega) (by decide) ?_ | refine nX8_leastSum_23 (by assumption) (by omega) (by decide) ?_
      rw [hf i (by omega)]
      refine nX8_leastSum_24 (by omega) (by omega) (Nat.le_of_ble_eq_true rfl) ?_
      refine qX8_leastSum_27 ?_
      first | refine nX8_leastSum_28 ?_ | refine qX8_leastSum_28 ?_
      refine qX8_leastSum_31 ?_
      exact ih (i + 1) (by omega) (by omega)
  have := Lp (L.length - 1) 1 (by omega) (Nat.le_refl 1)
  rw [show mnI (sv L) 1 = sv L 0 by simp [mnI]] at this
  exact this
theorem t_greatestSum {v : Nat} {L : List (Nat × Nat)} (hw : wyAt G w v L) (h1 : 1 ≤ L.length) (hs : ∀ i, sv L i ≤ 4000) (k : P (some (.int (nI (gsN L)))) w) : wpM G (d + 1) yX8_greatestSum (0, 0) [.ref v] w P := by
  obtain ⟨f, q, x1, x2, x3, x4, x5⟩ := id hw
  have hf : ∀ i, i < L.length → f i = sv L i := fun i hi => (x5 i hi).1
  refine eX8_greatestSum ?_
  refine qX8_greatestSum_0 ?_
  refine qX8_greatestSum_1 (by assumption) ?_
  refine qX8_greatestSum_4 ?_
  first | refine fX8_greatestSum_5 (by assumption) (by omega) (by decide) ?_ | refine nX8_greatestSum_5 (by assumption) (by omega) (by decide) ?_
  refine qX8_greatestSum_6 ?_
  refine qX8_greatestSum_7 ?_
  refine qX8_greatestSum_8 ?_
  rw [hf 0 (by omega)]
  have Lp : ∀ m i, i + m = L.length → 1 ≤ i → wp G d mX8_greatestSum P 9 [some (.ref v), some (.int (nI (mxI (sv L) i))), some (.int (nI i))] [] w (0, 0) := by
    intro m
    induction m with
    | zero =>
      intro i hi h2
      refine qX8_greatestSum_9 ?_
      refine qX8_greatestSum_10 ?_
      refine qX8_greatestSum_11 (by assumption) ?_
      refine nX8_greatestSum_14 (by omega) (by omega) (fun h14 => ?_) (fun h14 => by exfalso; omega)
      refine qX8_greatestSum_34 ?_
      refine qX8_greatestSum_35 ?_
      rw [show i = L.length by omega]
      exact k
    | succ m ih =>
      intro i hi h2
      have b1 := mxI_le (f := sv L) (n := i) (fun j _ => hs j)
      have b2 := hs i
      refine qX8_greatestSum_9 ?_
      refine qX8_greatestSum_10 ?_
      refine qX8_greatestSum_11 (by assumption) ?_
      refine nX8_greatestSum_14 (by omega) (by omega) (fun h14 => by exfalso; omega) (fun h14 => ?_)
      refine qX8_greatestSum_17 ?_
      refine qX8_greatestSum_18 ?_
      refine qX8_greatestSum_19 (by assumption) ?_
      refine qX8_greatestSum_22 ?_
      first | refine fX8_greatestSum_23 (by assumption) (by omega) (by decide) ?_ | refine nX8_greatestSum_23 (by assumption) (by omega) (by decide) ?_
      rw [hf i (by omega)]
      refine nX8_greatestSum_24 (by omega) (by omega) (Nat.le_of_ble_eq_true rfl) ?_
      refine qX8_greatestSum_27 ?_
      first | refine nX8_greatestSum_28 ?_ | refine qX8_greatestSum_28 ?_
      refine qX8_greatestSum_31 ?_
      exact ih (i + 1) (by omega) (by omega)
  have := Lp (L.length - 1) 1 (by omega) (Nat.le_refl 1)
  rw [show mxI (sv L) 1 = sv L 0 by simp [mxI]] at this
  exact this
theorem t_withLeastSum {v : Nat} {L : List (Nat × Nat)} (hw : wyAt G w v L) (h1 : 1 ≤ L.length) (hs : ∀ i, sv L i ≤ 4000) (k : P (some (.int (nI (wlN L)))) w) : wpM G (d + 2) yX8_withLeastSum (0, 0) [.ref v] w P := by
  obtain ⟨f, q, x1, x2, x3, x4, x5⟩ := id hw
  have hf : ∀ i, i < L.length → f i = sv L i := fun i hi => (x5 i hi).1
  have b1 := mnI_le (f := sv L) (n := L.length) (fun j _ => hs j)
  have b1 : lsN L ≤ 4000 := b1
  refine eX8_withLeastSum ?_
  refine qX8_withLeastSum_0 ?_
  refine qX8_withLeastSum_1 (by assumption) (Nat.le_of_ble_eq_true rfl) (t_leastSum hw h1 hs ?_)
  refine qX8_withLeastSum_4 ?_
  refine qX8_withLeastSum_5 ?_
  refine qX8_withLeastSum_6 ?_
  refine qX8_withLeastSum_7 ?_
  refine qX8_withLeastSum_8 ?_
  have Lp : ∀ m i, i + m = L.length → wp G (d + 1) mX8_withLeastSum P 9 [some (.ref v), some (.int (nI (lsN L))), some (.int (nI (cntE (sv L) (lsN L) i))), some (.int (nI i))] [] w (0, 0) := by
    intro m
    induction m with
    | zero =>
      intro i hi
      refine qX8_withLeastSum_9 ?_
      refine qX8_withLeastSum_10 ?_
      refine qX8_withLeastSum_11 (by assumption) ?_
      refine nX8_withLeastSum_14 (by omega) (by omega) (fun h14 => ?_) (fun h14 => by exfalso; omega)
      refine qX8_withLeastSum_36 ?_
      refine qX8_withLeastSum_37 ?_
      rw [show i = L.length by omega]
      exact k
    | succ m ih =>
      intro i hi
      have b2 := hs i
      refine qX8_withLeastSum_9 ?_
      refine qX8_withLeastSum_10 ?_
      refine qX8_withLeastSum_11 (by assumption) ?_
      refine nX8_withLeastSum_14 (by omega) (by omega) (fun h14 => by exfalso; omega) (fun h14 => ?_)
      refine qX8_withLeastSum_17 ?_
      refine qX8_withLeastSum_18 (by assumption) ?_
      refine qX8_withLeastSum_21 ?_
      first | refine fX8_withLeastSum_22 (by assumption) (by omega) (by decide) ?_ | refine nX8_withLeastSum_22 (by assumption) (by omega) (by decide) ?_
      rw [hf i (by omega)]
      refine qX8_withLeastSum_23 ?_
      refine nX8_withLeastSum_24 (by omega) (by omega) (fun h24 => ?_) (fun h24 => ?_)
      · first | refine nX8_withLeastSum_30 ?_ | refine qX8_withLeastSum_30 ?_
        refine qX8_withLeastSum_33 ?_
        have := ih (i + 1) (by omega)
        simp only [cntE] at this
        rw [if_neg h24] at this
        exact this
      · first | refine nX8_withLeastSum_27 ?_ | refine qX8_withLeastSum_27 ?_
        first | refine nX8_withLeastSum_30 ?_ | refine qX8_withLeastSum_30 ?_
        refine qX8_withLeastSum_33 ?_
        have := ih (i + 1) (by omega)
        simp only [cntE] at this
        rw [if_pos h24] at this
        exact this
  exact Lp L.length 0 (by omega)
abbrev P4 : Type := Nat × Nat × Nat × Nat
def regB (R C : Nat) (a : Nat → Nat) (r c : Nat) : Bool := bcN r == bcN c && wlN (wysL R C a r c) == 1
def ptS (R C : Nat) (a : Nat → Nat) (r c : Nat) (s : P4) : P4 := if regB R C a r c = true then (if s.1 < bcN r then (bcN r, r, c, s.2.2.2 + 1) else (s.1, s.2.1, s.2.2.1, s.2.2.2 + 1)) else s
def ptC (R C : Nat) (a : Nat → Nat) (r : Nat) (s : P4) : Nat → P4
  | 0 => s
  | n + 1 => ptS R C a r (n + 1) (ptC R C a r s n)
def ptR (R C : Nat) (a : Nat → Nat) : Nat → P4
  | 0 => (0, 0, 0, 0)
  | n + 1 => ptC R C a (n + 1) (ptR R C a n) (2 ^ C - 1)
def ptN (R C : Nat) (a : Nat → Nat) : P4 := ptR R C a (2 ^ R - 1)
def paAt (w : sW) (p : Nat) (s : P4) : Prop := w.1 p = ob 4 [.int (nI s.1), .int (nI s.2.1), .int (nI s.2.2.1), .int (nI s.2.2.2)]
theorem ptC_le {R C : Nat} {a : Nat → Nat} {r : Nat} {s : P4} (hs : s.1 ≤ 12) : ∀ n, (ptC R C a r s n).1 ≤ 12
  | 0 => hs
  | n + 1 => by
    have := ptC_le (R := R) (C := C) (a := a) (r := r) hs n
    simp only [ptC, ptS]
    split
    · split
      · exact bcN_le r
      · exact this
    · exact this
theorem ptR_le {R C : Nat} {a : Nat → Nat} : ∀ n, (ptR R C a n).1 ≤ 12
  | 0 => by simp [ptR]
  | n + 1 => ptC_le (ptR_le n) _
theorem t_look {v p r c : Nat} {L : List (Nat × Nat)} {s : P4} (hd : okD R C) (ha : ∀ k, k < R * C → a k ≤ 999) (h : gAt G w g e R C a) (hw : wyAt G w v L) (hp : paAt w p s) (hs : s.1 ≤ 12) (hv : v + 3 ≤ g ∨ g < v) (hv2 : v + 3 ≤ e ∨ e < v) (hvp : p < v ∨ v + 3 ≤ p) (h1 : 1 ≤ r) (hr : r < 2 ^ R) (hc : c < 2 ^ C) (hb : bcN r = bcN c) (k : ∀ w' L', Fr w w' (fun q => s3 v q ∨ q = p) → wyAt G w' v L' → paAt w' p (ptS R C a r c s) → P none w') : wpM G (d + 11) yX5_look (0, 0) [.ref p, .ref g, .ref v, .int (nI r), .int (nI c)] w P := by
  have d1 := hd.2.1
  have d2 := hd.2.2.2.1
  have pR : 2 ^ R ≤ 16 := Nat.pow_le_pow_right (n := 2) (by decide) (show R ≤ 4 by omega)
  obtain ⟨f0, q0, x1, x2⟩ := id hw
  refine eX5_look ?_
  refine qX5_look_0 ?_
  refine qX5_look_1 ?_
  refine qX5_look_2 ?_
  refine qX5_look_3 ?_
  refine qX5_look_5 (by assumption) (Nat.le_of_ble_eq_true rfl) (t_gather hd h hw hv hv2 h1 hr hc hb (fun w1 hF1 hw1 => ?_))
  obtain ⟨f1, q1, y1, y2⟩ := id hw1
  have hl : (wysL R C a r c).length = cwW R C r R c := goW_len R C a r R c 0 0
  have hcw := cw_ok hd hr hc h1 hb
  refine qX5_look_8 ?_
  refine qX5_look_9 (by assumption) (Nat.le_of_ble_eq_true rfl) (t_withLeastSum hw1 (by omega) (sv_le ha d1) ?_)
  have hp1 : w1.1 p = ob 4 [.int (nI s.1), .int (nI s.2.1), .int (nI s.2.2.1), .int (nI s.2.2.2)] := by
    rw [hF1.2 p (fun z => by have := z.1; have := z.2; omega)]
    exact hp
  have hwl : wlN (wysL R C a r c) ≤ 24 := Nat.le_trans (cntE_le _) (by omega)
  have hFa : Fr w w1 (fun q => s3 v q ∨ q = p) := hF1.mono (fun q hq => Or.inl hq)
  refine qX5_look_12 ?_
  refine nX5_look_13 (by omega) (by omega) (fun h13 => ?_) (fun h13 => ?_)
  · refine qX5_look_17 ?_
    refine qX5_look_18 rfl ?_
    refine qX5_look_19 (by assumption) ?_
    refine qX5_look_22 ?_
    first | refine nX5_look_23 ?_ | refine qX5_look_23 ?_
    refine qX5_look_24 (by assumption) ?_
    generalize hw2 : s_up w1 p (ob 4 [.int (nI s.1), .int (nI s.2.1), .int (nI s.2.2.1), .int (nI (s.2.2.2 + 1))]) = w2
    have z1 : w2.1 p = ob 4 [.int (nI s.1), .int (nI s.2.1), .int (nI s.2.2.1), .int (nI (s.2.2.2 + 1))] := by rw [← hw2]; exact s_upS
    have hFb : Fr w w2 (fun q => s3 v q ∨ q = p) := by rw [← hw2]; exact hFa.up (Or.inr rfl)
    have hwb : wyAt G w2 v (wysL R C a r c) := by rw [← hw2]; exact hw1.fr (S := fun q => q = p) (Fr.rf.up rfl) (fun q a1 a2 => by omega)
    have hreg : regB R C a r c = true := by simp [regB, hb, h13]
    have hbc := bcN_le r
    refine qX5_look_27 ?_
    refine qX5_look_28 (Nat.le_of_ble_eq_true rfl) (t_bitCount (d := d + 9) (by omega) ?_)
    refine qX5_look_31 ?_
    refine qX5_look_32 (by assumption) ?_
    refine nX5_look_35 (by omega) (by omega) (fun h35 => ?_) (fun h35 => ?_)
    · refine qX5_look_57 ?_
      refine k w2 _ hFb hwb ?_
      unfold paAt ptS
      rw [if_pos hreg, if_neg (by omega)]
      exact z1
    · refine qX5_look_38 ?_
      refine qX5_look_39 ?_
      refine qX5_look_40 (Nat.le_of_ble_eq_true rfl) (t_bitCount (d := d + 9) (by omega) ?_)
      refine qX5_look_43 (by assumption) ?_
      generalize hw3 : s_up w2 p (ob 4 [.int (nI (bcN r)), .int (nI s.2.1), .int (nI s.2.2.1), .int (nI (s.2.2.2 + 1))]) = w3
      have z2 : w3.1 p = ob 4 [.int (nI (bcN r)), .int (nI s.2.1), .int (nI s.2.2.1), .int (nI (s.2.2.2 + 1))] := by rw [← hw3]; exact s_upS
      refine qX5_look_46 ?_
      refine qX5_look_47 ?_
      refine qX5_look_48 (by assumption) ?_
      generalize hw4 : s_up w3 p (ob 4 [.int (nI (bcN r)), .int (nI r), .int (nI s.2.2.1), .int (nI (s.2.2.2 + 1))]) = w4
      have z3 : w4.1 p = ob 4 [.int (nI (bcN r)), .int (nI r), .int (nI s.2.2.1), .int (nI (s.2.2.2 + 1))] := by rw [← hw4]; exact s_upS
      refine qX5_look_51 ?_
      refine qX5_look_52 ?_
      refine qX5_look_54 (by assumption) ?_
      refine qX5_look_57 ?_
      refine k _ (wysL R C a r c) ?_ ?_ ?_
      · rw [← hw4, ← hw3]
        exact ((hFb.up (Or.inr rfl)).up (Or.inr rfl)).up (Or.inr rfl)
      · rw [← hw4, ← hw3]
        exact hwb.fr (S := fun q => q = p) ((((Fr.rf (S := fun q => q = p)).up rfl).up rfl).up rfl) (fun q a1 a2 => by omega)
      · unfold paAt ptS
        rw [if_pos hreg, if_pos (by omega), s_upS]
  · refine qX5_look_16 ?_
    refine k w1 _ hFa hw1 ?_
    unfold paAt ptS
    rw [if_neg (by simp [regB]; intro _; exact h13)]
    exact hp1
theorem t_pstudy {v p : Nat} {L : List (Nat × Nat)} {s0 : P4} (hd : okD R C) (ha : ∀ k, k < R * C → a k ≤ 999) (h : gAt G w g e R C a) (hw : wyAt G w v L) (hp : paAt w p s0) (hv : v + 3 ≤ g ∨ g < v) (hv2 : v + 3 ≤ e ∨ e < v) (hvp : p < v ∨ v + 3 ≤ p) (hpg : g ≠ p) (hpe : e ≠ p) (k : ∀ w' L', Fr w w' (fun q => s3 v q ∨ q = p) → wyAt G w' v L' → paAt w' p (ptN R C a) → P none w') : wpM G (d + 12) yX5_study (0, 0) [.ref p, .ref g, .ref v] w P := by
  have d1 := hd.2.1
  have d2 := hd.2.2.2.1
  have hp5 : ∀ n, n < 5 → 1 <<< n = 2 ^ n ∧ 1 * 2 ^ n ≤ 16 ∧ 1 ≤ 2 ^ n := by decide
  obtain ⟨qR1, qR2, qR3⟩ := hp5 R (by omega)
  obtain ⟨qC1, qC2, qC3⟩ := hp5 C (by omega)
  have hp0 := hp
  unfold paAt at hp0
  refine eX5_study ?_
  refine qX5_study_0 ?_
  refine qX5_study_1 ?_
  refine qX5_study_2 (by assumption) ?_
  generalize hw1 : s_up w p _ = w1
  have z1 : w1.1 p = ob 4 [.int (nI 0), .int (nI s0.2.1), .int (nI s0.2.2.1), .int (nI s0.2.2.2)] := by rw [← hw1]; exact s_upS
  refine qX5_study_5 ?_
  refine qX5_study_6 ?_
  refine qX5_study_7 (by assumption) ?_
  generalize hw2 : s_up w1 p _ = w2
  have z2 : w2.1 p = ob 4 [.int (nI 0), .int (nI 0), .int (nI s0.2.2.1), .int (nI s0.2.2.2)] := by rw [← hw2]; exact s_upS
  refine qX5_study_10 ?_
  refine qX5_study_11 ?_
  refine qX5_study_12 (by assumption) ?_
  generalize hw3 : s_up w2 p _ = w3
  have z3 : w3.1 p = ob 4 [.int (nI 0), .int (nI 0), .int (nI 0), .int (nI s0.2.2.2)] := by rw [← hw3]; exact s_upS
  refine qX5_study_15 ?_
  refine qX5_study_16 ?_
  refine qX5_study_17 (by assumption) ?_
  refine qX5_study_20 ?_
  refine qX5_study_21 ?_
  generalize hw4 : s_up w3 p _ = w4
  have z4 : paAt w4 p (0, 0, 0, 0) := by rw [← hw4]; exact s_upS
  have hF4 : Fr w w4 (fun q => q = p) := by
    rw [← hw4, ← hw3, ← hw2, ← hw1]
    exact ((((Fr.rf (S := fun q => q = p)).up rfl).up rfl).up rfl).up rfl
  have hF4' : Fr w w4 (fun q => s3 v q ∨ q = p) := hF4.mono (fun q hq => Or.inr hq)
  have hwy4 : wyAt G w4 v L := hw.fr hF4 (fun q a1 a2 => by omega)
  have gF : ∀ w', Fr w w' (fun q => s3 v q ∨ q = p) → gAt G w' g e R C a := fun w' hF => h.fr hF (fun z => by
    rcases z with z | z
    · have := z.1; have := z.2; omega
    · exact hpg z) (fun z => by
    rcases z with z | z
    · have := z.1; have := z.2; omega
    · exact hpe z)
  have L1 : ∀ m i (w' : sW) (L' : List (Nat × Nat)) (l4 : Option Value), i + m = 2 ^ R - 1 → Fr w w' (fun q => s3 v q ∨ q = p) → wyAt G w' v L' → paAt w' p (ptR R C a i) → wp G (d + 11) mX5_study P 22 [some (.ref p), some (.ref g), some (.ref v), some (.int (nI (i + 1))), l4] [] w' (0, 0) := by
    intro m
    induction m with
    | zero =>
      intro i w' L' l4 hi hF hwy hpa
      have hg := gF w' hF
      obtain ⟨x1, x2⟩ := id hg
      refine qX5_study_22 ?_
      refine qX5_study_23 ?_
      refine qX5_study_24 ?_
      refine qX5_study_25 (by assumption) ?_
      refine nX5_study_28 (by omega) (by omega) ?_
      rw [qR1]
      refine nX5_study_29 (by omega) (by omega) (fun h29 => ?_) (fun h29 => by exfalso; omega)
      refine qX5_study_77 ?_
      exact k w' L' hF hwy (by unfold ptN; rw [show 2 ^ R - 1 = i by omega]; exact hpa)
    | succ m ih =>
      intro i w' L' l4 hi hF hwy hpa
      have hg := gF w' hF
      obtain ⟨x1, x2⟩ := id hg
      refine qX5_study_22 ?_
      refine qX5_study_23 ?_
      refine qX5_study_24 ?_
      refine qX5_study_25 (by assumption) ?_
      refine nX5_study_28 (by omega) (by omega) ?_
      rw [qR1]
      refine nX5_study_29 (by omega) (by omega) (fun h29 => by exfalso; omega) (fun h29 => ?_)
      refine qX5_study_32 ?_
      refine qX5_study_33 ?_
      have L2 : ∀ n j (w' : sW) (L' : List (Nat × Nat)), j + n = 2 ^ C - 1 → Fr w w' (fun q => s3 v q ∨ q = p) → wyAt G w' v L' → paAt w' p (ptC R C a (i + 1) (ptR R C a i) j) → wp G (d + 11) mX5_study P 35 [some (.ref p), some (.ref g), some (.ref v), some (.int (nI (i + 1))), some (.int (nI (j + 1)))] [] w' (0, 0) := by
        intro n
        induction n with
        | zero =>
          intro j w' L' hj hF hwy hpa
          have hg := gF w' hF
          obtain ⟨x1, x2⟩ := id hg
          refine qX5_study_35 ?_
          refine qX5_study_37 ?_
          refine qX5_study_38 ?_
          refine qX5_study_39 (by assumption) ?_
          refine nX5_study_42 (by omega) (by omega) ?_
          rw [qC1]
          refine nX5_study_43 (by omega) (by omega) (fun h43 => ?_) (fun h43 => by exfalso; omega)
          first | refine nX5_study_71 ?_ | refine qX5_study_71 ?_
          refine qX5_study_74 ?_
          refine ih (i + 1) w' L' _ (by omega) hF hwy ?_
          simp only [ptR]
          rw [show 2 ^ C - 1 = j by omega]
          exact hpa
        | succ n ih2 =>
          intro j w' L' hj hF hwy hpa
          have hg := gF w' hF
          obtain ⟨x1, x2⟩ := id hg
          refine qX5_study_35 ?_
          refine qX5_study_37 ?_
          refine qX5_study_38 ?_
          refine qX5_study_39 (by assumption) ?_
          refine nX5_study_42 (by omega) (by omega) ?_
          rw [qC1]
          refine nX5_study_43 (by omega) (by omega) (fun h43 => by exfalso; omega) (fun h43 => ?_)
          refine qX5_study_46 ?_
          refine qX5_study_47 ?_
          refine qX5_study_48 ?_
          refine qX5_study_50 (Nat.le_of_ble_eq_true rfl) (t_isPart hg hd (fun r c q1 q2 q3 q4 q5 q6 => ?_) (fun hno => ?_))
          · rw [nI_eq (by omega) (by omega)] at q4 q5
            subst q4
            subst q5
            refine nX5_study_53 (by omega) (fun h53 => by exfalso; omega) (fun h53 => ?_)
            refine qX5_study_56 ?_
            refine qX5_study_57 ?_
            refine qX5_study_58 ?_
            refine qX5_study_59 ?_
            refine qX5_study_60 ?_
            refine qX5_study_62 (by assumption) (Nat.le_of_ble_eq_true rfl) (t_look hd ha hg hwy hpa (ptC_le (ptR_le i) j) hv hv2 hvp q1 q2 q3 q6 (fun w'' L'' hF' hwy' hpa' => ?_))
            first | refine nX5_study_65 ?_ | refine qX5_study_65 ?_
            refine qX5_study_68 ?_
            exact ih2 (j + 1) w'' L'' (by omega) (hF.tr hF' (fun q hq => hq)) hwy' hpa'
          · refine nX5_study_53 (by omega) (fun h53 => ?_) (fun h53 => by exfalso; omega)
            first | refine nX5_study_65 ?_ | refine qX5_study_65 ?_
            refine qX5_study_68 ?_
            refine ih2 (j + 1) w' L' (by omega) hF hwy ?_
            simp only [ptC, ptS]
            rw [if_neg]
            · exact hpa
            · intro hreg
              simp only [regB, Bool.and_eq_true, beq_iff_eq] at hreg
              exact hno ⟨i + 1, j + 1, by omega, by omega, by omega, rfl, rfl, hreg.1⟩
      exact L2 (2 ^ C - 1) 0 w' L' (by omega) hF hwy hpa
  exact L1 (2 ^ R - 1) 0 w4 L _ (by omega) hF4' hwy4 z4
end PARTS
