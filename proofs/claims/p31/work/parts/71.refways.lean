/-! the ways through a part, in another order -/
def memF (m p : Nat) : Nat → Nat × Nat
  | 0 => (0, 0)
  | k + 1 => (if m.testBit k = true ∧ (memF m p k).2 = p then k else (memF m p k).1, (memF m p k).2 + (m >>> k &&& 1))
def memN (m p : Nat) : Nat := (memF m p 4).1
theorem memF_le (m p : Nat) : ∀ k, (memF m p k).1 ≤ k ∧ (memF m p k).2 ≤ k
  | 0 => ⟨Nat.le_refl 0, Nat.le_refl 0⟩
  | k + 1 => by
    obtain ⟨h1, h2⟩ := memF_le m p k
    have h3 : m >>> k &&& 1 ≤ 1 := Nat.and_le_right
    simp only [memF]
    refine ⟨?_, by omega⟩
    split <;> omega
/-- a code's digits -/
def rsN (n code : Nat) : Nat → Nat
  | 0 => code
  | k + 1 => rsN n code k / n
def hdN (n code : Nat) : Nat → Nat
  | 0 => 0
  | k + 1 => hdN n code k ||| 1 <<< (rsN n code k % n)
def plA (C r c n code k : Nat) : Nat := memN r k * C + memN c (rsN n code k % n)
def smN (C : Nat) (a : Nat → Nat) (r c n code : Nat) : Nat → Nat
  | 0 => 0
  | k + 1 => smN C a r c n code k + a (plA C r c n code k)
def sumA (a : Nat → Nat) (l : List Nat) : Nat := (l.map a).sum
/-- the ways by their places -/
def goP (R C rows : Nat) : Nat → Nat → List (List Nat)
  | 0, _ => [[]]
  | m + 1, cols => if rows.testBit (R - (m + 1)) = false then goP R C rows m cols else (List.range C).flatMap (fun c => if cols.testBit c = true then (goP R C rows m (clr cols c)).map (fun l => ((R - (m + 1)) * C + c) :: l) else [])
def rfP (C r c n : Nat) : List (List Nat) := (List.range (n ^ n)).filterMap (fun code => if hdN n code n = 1 <<< n - 1 then some ((List.range n).map (plA C r c n code)) else none)
theorem goW_P {R C : Nat} {a : Nat → Nat} (rows : Nat) : ∀ m cols sum pl, (goW R C a rows m cols sum pl).map Prod.fst = (goP R C rows m cols).map (fun l => sum + sumA a l)
  | 0, cols, sum, pl => by simp [goW, goP, sumA]
  | m + 1, cols, sum, pl => by
    simp only [goW, goP]
    split
    · exact goW_P rows m cols sum pl
    · rw [List.map_flatMap, List.map_flatMap]
      rw [List.flatMap_def, List.flatMap_def]
      congr 1
      apply List.map_congr_left
      intro c _
      split
      · rw [goW_P rows m, List.map_map]
        apply List.map_congr_left
        intro l _
        simp only [Function.comp, sumA, List.map_cons, List.sum_cons]
        omega
      · rfl
def ckP (R C : Nat) : Bool := (List.range (2 ^ R)).all fun r => (List.range (2 ^ C)).all fun c => r == 0 || bcN r != bcN c || (decide (1 ≤ bcN r) && decide (bcN r ≤ 3) && (goP R C r R c).isPerm (rfP C r c (bcN r)) && (List.range 3).all (fun k => decide (memN r k < R) && decide (memN c k < C)))
theorem ckP_ok : ((List.range 5).all fun R => (List.range 5).all fun C => R == 0 || C == 0 || decide (12 < R * C) || ckP R C) = true := by decide +kernel
theorem pt_ok {R C r c : Nat} (hd : okD R C) (hr : r < 2 ^ R) (hc : c < 2 ^ C) (h1 : 1 ≤ r) (hb : bcN r = bcN c) : 1 ≤ bcN r ∧ bcN r ≤ 3 ∧ (goP R C r R c).Perm (rfP C r c (bcN r)) ∧ ∀ k, k < 3 → memN r k < R ∧ memN c k < C := by
  obtain ⟨d0, d1, d0', d2, d3⟩ := hd
  have h := ckP_ok
  simp only [List.all_eq_true, List.mem_range, Bool.or_eq_true, decide_eq_true_eq, beq_iff_eq] at h
  rcases h R (by omega) C (by omega) with ((h | h) | h) | h
  · omega
  · omega
  · omega
  · simp only [ckP, List.all_eq_true, List.mem_range, Bool.or_eq_true, Bool.and_eq_true, decide_eq_true_eq, beq_iff_eq, bne_iff_ne] at h
    rcases h r hr c hc with (h | h) | h
    · omega
    · exact absurd hb h
    · exact ⟨h.1.1.1, h.1.1.2, List.isPerm_iff.mp h.1.2, h.2⟩
abbrev W3 : Type := Option Nat × Nat × Option Nat
def wA (p1 : Option Nat) (pw x : Nat) : Nat := match p1 with
  | none => 1
  | some y => if x < y then 1 else if x = y then pw + 1 else pw
def wB (p1 : Option Nat) (x : Nat) : Option Nat := match p1 with
  | none => some x
  | some y => some (min y x)
def wC (p3 : Option Nat) (x : Nat) : Option Nat := match p3 with
  | none => some x
  | some y => some (max y x)
def stW (p : W3) (x : Nat) : W3 := (wB p.1 x, wA p.1 p.2.1 x, wC p.2.2 x)
def wfS (C : Nat) (a : Nat → Nat) (r c n : Nat) : Nat → W3
  | 0 => (none, 0, none)
  | j + 1 => if hdN n j n = 1 <<< n - 1 then stW (wfS C a r c n j) (smN C a r c n j n) else wfS C a r c n j
theorem smN_sum {C : Nat} {a : Nat → Nat} {r c n code : Nat} : ∀ k, smN C a r c n code k = sumA a ((List.range k).map (plA C r c n code))
  | 0 => rfl
  | k + 1 => by
    simp only [smN, sumA, List.range_succ, List.map_append, List.sum_append, List.map_cons, List.map_nil, List.sum_singleton]
    rw [smN_sum k, sumA]
theorem wfS_fold {C : Nat} {a : Nat → Nat} {r c n : Nat} : ∀ j, wfS C a r c n j = (((List.range j).filterMap (fun code => if hdN n code n = 1 <<< n - 1 then some ((List.range n).map (plA C r c n code)) else none)).map (sumA a)).foldl stW (none, 0, none)
  | 0 => rfl
  | j + 1 => by
    simp only [wfS, List.range_succ, List.filterMap_append, List.map_append, List.foldl_append]
    rw [wfS_fold j]
    split
    · next h => simp [h, smN_sum]
    · next h => simp [h]
/-- what the fold comes to -/
theorem stW_fold : ∀ (l : List Nat) (m k M : Nat), ∃ m' k' M', l.foldl stW (some m, k, some M) = (some m', k', some M') ∧ (m' ∈ m :: l ∧ ∀ x ∈ m :: l, m' ≤ x) ∧ (k' = (if m' = m then k else 0) + l.count m') ∧ (M' ∈ M :: l ∧ ∀ x ∈ M :: l, x ≤ M')
  | [], m, k, M => ⟨m, k, M, rfl, ⟨List.mem_singleton.mpr rfl, fun x hx => by rw [List.mem_singleton.mp hx]; exact Nat.le_refl _⟩, by simp, ⟨List.mem_singleton.mpr rfl, fun x hx => by rw [List.mem_singleton.mp hx]; exact Nat.le_refl _⟩⟩
  | y :: l, m, k, M => by
    obtain ⟨m', k', M', h1, ⟨h2, h3⟩, h4, ⟨h5, h6⟩⟩ := stW_fold l (min m y) (if y < m then 1 else if y = m then k + 1 else k) (max M y)
    refine ⟨m', k', M', h1, ⟨?_, fun x hx => ?_⟩, ?_, ⟨?_, fun x hx => ?_⟩⟩
    · rw [List.mem_cons] at h2
      rcases h2 with h2 | h2
      · rw [h2]
        rcases Nat.le_total m y with z | z
        · rw [Nat.min_eq_left z]; simp
        · rw [Nat.min_eq_right z]; simp
      · simp [h2]
    · have a := h3 (min m y) List.mem_cons_self
      simp only [List.mem_cons] at hx
      rcases hx with hx | hx | hx
      · omega
      · omega
      · exact h3 x (List.mem_cons_of_mem _ hx)
    · rw [h4, List.count_cons]
      have a := h3 (min m y) List.mem_cons_self
      have hb : (y == m') = decide (y = m') := rfl
      rw [hb]
      by_cases c1 : y < m
      · rw [if_pos c1, Nat.min_eq_right (Nat.le_of_lt c1)] 
        by_cases c2 : m' = y
        · rw [if_pos c2, if_neg (by omega), if_pos (by simp [c2])]; omega
        · rw [if_neg c2]
          have : m' ≠ m := by omega
          rw [if_neg this, if_neg (by simp; omega)]
          omega
      · rw [if_neg c1, Nat.min_eq_left (by omega)]
        by_cases c2 : y = m
        · rw [if_pos c2]
          by_cases c3 : m' = m
          · rw [if_pos c3, if_pos c3, if_pos (by simp; omega)]; omega
          · rw [if_neg c3, if_neg c3, if_neg (by simp; omega)]; omega
        · rw [if_neg c2]
          by_cases c3 : m' = m
          · rw [if_pos c3, if_neg (by simp; omega)]; omega
          · rw [if_neg c3]
            have : m' ≠ y := by omega
            rw [if_neg (by simp; omega)]; omega
    · rw [List.mem_cons] at h5
      rcases h5 with h5 | h5
      · rw [h5]
        rcases Nat.le_total M y with z | z
        · rw [Nat.max_eq_right z]; simp
        · rw [Nat.max_eq_left z]; simp
      · simp [h5]
    · have a := h6 (max M y) List.mem_cons_self
      simp only [List.mem_cons] at hx
      rcases hx with hx | hx | hx
      · omega
      · omega
      · exact h6 x (List.mem_cons_of_mem _ hx)
theorem stW_all {l : List Nat} (hl : l ≠ []) : ∃ m k M, l.foldl stW (none, 0, none) = (some m, k, some M) ∧ (m ∈ l ∧ ∀ x ∈ l, m ≤ x) ∧ k = l.count m ∧ (M ∈ l ∧ ∀ x ∈ l, x ≤ M) := by
  cases l with
  | nil => exact absurd rfl hl
  | cons y l =>
    obtain ⟨m', k', M', h1, h2, h4, h5⟩ := stW_fold l y 1 y
    refine ⟨m', k', M', h1, h2, ?_, h5⟩
    rw [h4, List.count_cons]
    by_cases c : m' = y
    · rw [if_pos c, if_pos (by simp [c])]; omega
    · rw [if_neg c, if_neg (by simp; omega)]; omega
theorem mnI_mem {f : Nat → Nat} : ∀ {n}, ∃ i, i < n + 1 ∧ mnI f (n + 1) = f i ∧ ∀ j, j < n + 1 → mnI f (n + 1) ≤ f j
  | 0 => ⟨0, by decide, by simp [mnI], fun j hj => by rw [show j = 0 by omega]; simp [mnI]⟩
  | n + 1 => by
    obtain ⟨i, h1, h2, h3⟩ := mnI_mem (f := f) (n := n)
    have e : mnI f (n + 1 + 1) = min (mnI f (n + 1)) (f (n + 1)) := rfl
    rw [e]
    by_cases c : mnI f (n + 1) ≤ f (n + 1)
    · refine ⟨i, by omega, by rw [Nat.min_eq_left c]; exact h2, fun j hj => ?_⟩
      by_cases hj2 : j = n + 1
      · subst hj2; omega
      · have := h3 j (by omega); omega
    · refine ⟨n + 1, by omega, by rw [Nat.min_eq_right (by omega)], fun j hj => ?_⟩
      by_cases hj2 : j = n + 1
      · subst hj2; omega
      · have := h3 j (by omega); omega
theorem mxI_mem {f : Nat → Nat} : ∀ {n}, ∃ i, i < n + 1 ∧ mxI f (n + 1) = f i ∧ ∀ j, j < n + 1 → f j ≤ mxI f (n + 1)
  | 0 => ⟨0, by decide, by simp [mxI], fun j hj => by rw [show j = 0 by omega]; simp [mxI]⟩
  | n + 1 => by
    obtain ⟨i, h1, h2, h3⟩ := mxI_mem (f := f) (n := n)
    have e : mxI f (n + 1 + 1) = max (mxI f (n + 1)) (f (n + 1)) := rfl
    rw [e]
    by_cases c : f (n + 1) ≤ mxI f (n + 1)
    · refine ⟨i, by omega, by rw [Nat.max_eq_left c]; exact h2, fun j hj => ?_⟩
      by_cases hj2 : j = n + 1
      · subst hj2; omega
      · have := h3 j (by omega); omega
    · refine ⟨n + 1, by omega, by rw [Nat.max_eq_right (by omega)], fun j hj => ?_⟩
      by_cases hj2 : j = n + 1
      · subst hj2; omega
      · have := h3 j (by omega); omega
theorem cntE_take {l : List Nat} {v : Nat} : ∀ n, n ≤ l.length → cntE (fun i => l.getD i 0) v n = (l.take n).count v
  | 0, _ => by simp [cntE]
  | n + 1, hn => by
    have hg : l.getD n 0 = l[n] := by rw [List.getD_eq_getElem?_getD, List.getElem?_eq_getElem hn]; rfl
    simp only [cntE]
    rw [cntE_take n (by omega), List.take_succ_eq_append_getElem hn, List.count_append, List.count_singleton]
    congr 1
    by_cases c : l[n] = v
    · rw [if_pos (hg.trans c), if_pos (by simp [c])]
    · rw [if_neg (fun z => c (hg.symm.trans z)), if_neg (by simp [c])]
theorem sv_getD (L : List (Nat × Nat)) : sv L = fun i => (L.map Prod.fst).getD i 0 := by
  funext i
  simp only [sv, List.getD_eq_getElem?_getD, List.getElem?_map]
  cases L[i]? <;> rfl
theorem ways_eq {L : List (Nat × Nat)} {l : List Nat} (hp : (L.map Prod.fst).Perm l) (hL : 1 ≤ L.length) : l.foldl stW (none, 0, none) = (some (lsN L), wlN L, some (gsN L)) := by
  have hl : l ≠ [] := by
    intro z
    subst z
    have := hp.length_eq
    rw [List.length_map] at this
    have : L.length = 0 := this
    omega
  obtain ⟨m, k, M, h1, ⟨h2, h3⟩, h4, h5, h6⟩ := stW_all hl
  obtain ⟨n, hn⟩ : ∃ n, L.length = n + 1 := ⟨L.length - 1, by omega⟩
  have mem : ∀ i, i < n + 1 → sv L i ∈ l := fun i hi => by
    refine hp.mem_iff.mp ?_
    have e0 : sv L i = (L.map Prod.fst).getD i 0 := congrFun (sv_getD L) i
    rw [e0, List.getD_eq_getElem?_getD, List.getElem?_eq_getElem (by rw [List.length_map]; omega)]
    exact List.getElem_mem _
  have mem2 : ∀ x, x ∈ l → ∃ i, i < n + 1 ∧ sv L i = x := fun x hx => by
    have := hp.mem_iff.mpr hx
    obtain ⟨i, hi, he⟩ := List.getElem_of_mem this
    refine ⟨i, by rw [List.length_map] at hi; omega, ?_⟩
    have e0 : sv L i = (L.map Prod.fst).getD i 0 := congrFun (sv_getD L) i
    rw [e0, List.getD_eq_getElem?_getD, List.getElem?_eq_getElem hi, he]
    rfl
  have em : m = lsN L := by
    unfold lsN
    rw [hn]
    obtain ⟨i, a1, a2, a3⟩ := mnI_mem (f := sv L) (n := n)
    obtain ⟨j, b1, b2⟩ := mem2 m h2
    have c1 := h3 _ (mem i a1)
    have c2 := a3 j b1
    omega
  have eM : M = gsN L := by
    unfold gsN
    rw [hn]
    obtain ⟨i, a1, a2, a3⟩ := mxI_mem (f := sv L) (n := n)
    obtain ⟨j, b1, b2⟩ := mem2 M h5
    have c1 := h6 _ (mem i a1)
    have c2 := a3 j b1
    omega
  have ek : k = wlN L := by
    rw [h4, em]
    unfold wlN
    rw [sv_getD, ← hp.count_eq, cntE_take _ (by rw [List.length_map]; exact Nat.le_refl _), List.take_of_length_le (by rw [List.length_map]; exact Nat.le_refl _)]
  rw [h1, em, eM, ek]
theorem wfS_eq {R C r c : Nat} {a : Nat → Nat} (hd : okD R C) (hr : r < 2 ^ R) (hc : c < 2 ^ C) (h1 : 1 ≤ r) (hb : bcN r = bcN c) : wfS C a r c (bcN r) (bcN r ^ bcN r) = (some (lsN (wysL R C a r c)), wlN (wysL R C a r c), some (gsN (wysL R C a r c))) := by
  obtain ⟨_, _, hp, _⟩ := pt_ok hd hr hc h1 hb
  rw [wfS_fold]
  refine ways_eq ?_ ?_
  · unfold wysL
    rw [goW_P]
    have e : (fun l => 0 + sumA a l) = sumA a := by funext l; omega
    rw [e]
    exact hp.map _
  · unfold wysL
    rw [goW_len]
    exact (cw_ok hd hr hc h1 hb).1
