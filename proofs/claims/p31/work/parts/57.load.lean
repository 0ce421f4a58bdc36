/-! load -/
theorem msr_cong {c c' : Nat → Nat} : ∀ {n}, (∀ k, k < n → c k = c' k) → msr c n = msr c' n
  | 0, _ => rfl
  | n + 1, h => by
    simp only [msr]
    rw [msr_cong (fun k hk => h k (by omega)), h n (by omega)]
theorem lnS_cong {c c' : Nat → Nat} {n : Nat} (h : ∀ k, k < n → c k = c' k) : lnS c n = lnS c' n := by
  unfold lnS
  rw [msr_cong h]
theorem rdv_cong {c c' : Nat → Nat} : ∀ {n}, (∀ k, k < n → c k = c' k) → rdv c n = rdv c' n
  | 0, _ => rfl
  | n + 1, h => by
    simp only [rdv]
    rw [rdv_cong (fun k hk => h k (by omega)), h n (by omega)]
theorem vlS_cong {c c' : Nat → Nat} {n : Nat} (h : ∀ k, k < n → c k = c' k) : vlS c n = vlS c' n := by
  unfold vlS
  rw [rdv_cong h]
/-- a character that can stand in a text -/
def okC (x : Nat) : Prop := isDg x = true ∨ x = 44 ∨ x = 59
theorem isDg_no {x : Nat} (h : x = 44 ∨ x = 59) : isDg x = false := by
  rcases h with h | h <;> subst h <;> rfl
theorem fF_ok {c : Nat → Nat} : ∀ m k v, fF c m k v = none → (rdv c k).2 = v.getD 0 → v.getD 0 ≤ 999 → (∀ y ∈ (rdv c k).1, y ≤ 999) → (∀ y ∈ vlS c (k + m), y ≤ 999) ∧ ∀ j, k ≤ j → j < k + m → okC (c j) := by
  intro m
  induction m with
  | zero =>
    intro k v h h1 h2 h3
    refine ⟨fun y hy => ?_, fun j a b => by omega⟩
    unfold vlS at hy
    rw [List.mem_append, List.mem_singleton] at hy
    rcases hy with hy | hy
    · exact h3 y hy
    · rw [hy, Nat.add_zero, h1]; exact h2
  | succ m ih =>
    intro k v h h1 h2 h3
    have fin : ∀ v', fF c m (k + 1) v' = none → (rdv c (k + 1)).2 = v'.getD 0 → v'.getD 0 ≤ 999 → (∀ y ∈ (rdv c (k + 1)).1, y ≤ 999) → okC (c k) → (∀ y ∈ vlS c (k + (m + 1)), y ≤ 999) ∧ ∀ j, k ≤ j → j < k + (m + 1) → okC (c j) := by
      intro v' a1 a2 a3 a4 a5
      obtain ⟨b1, b2⟩ := ih (k + 1) v' a1 a2 a3 a4
      refine ⟨by rw [show k + (m + 1) = k + 1 + m by omega]; exact b1, fun j c1 c2 => ?_⟩
      by_cases hj : j = k
      · rw [hj]; exact a5
      · exact b2 j (by omega) (by omega)
    simp only [fF] at h
    cases hdg : isDg (c k) with
    | true =>
      rw [hdg, if_pos rfl] at h
      have hr : rdv c (k + 1) = ((rdv c k).1, (rdv c k).2 * 10 + (c k - 48)) := by simp only [rdv]; rw [hdg, if_pos rfl]
      have hd9 : c k - 48 ≤ 9 := by
        unfold isDg at hdg
        rw [Bool.and_eq_true, decide_eq_true_eq, decide_eq_true_eq] at hdg
        omega
      cases v with
      | none =>
        refine fin _ h ?_ ?_ (by rw [hr]; exact h3) (Or.inl hdg)
        · rw [hr, h1]; simp
        · simp only [Option.getD_some]; omega
      | some x =>
        have h : (if x = 0 ∨ 999 < x * 10 + (c k - 48) then some k else fF c m (k + 1) (some (x * 10 + (c k - 48)))) = none := h
        by_cases hx : x = 0 ∨ 999 < x * 10 + (c k - 48)
        · rw [if_pos hx] at h; exact absurd h (by simp)
        · rw [if_neg hx] at h
          refine fin _ h ?_ ?_ (by rw [hr]; exact h3) (Or.inl hdg)
          · rw [hr, h1]; simp
          · simp only [Option.getD_some]; omega
    | false =>
      rw [hdg, if_neg (by decide)] at h
      have hr : rdv c (k + 1) = ((rdv c k).1 ++ [(rdv c k).2], 0) := by simp only [rdv]; rw [hdg, if_neg (by decide)]
      cases v with
      | none => exact absurd h (by simp)
      | some x =>
        have h : (if c k = 44 ∨ c k = 59 then fF c m (k + 1) none else some k) = none := h
        by_cases hx : c k = 44 ∨ c k = 59
        · rw [if_pos hx] at h
          refine fin none h (by rw [hr]; rfl) (by simp) ?_ (Or.inr hx)
          rw [hr]
          intro y hy
          have hy : y ∈ (rdv c k).1 ++ [(rdv c k).2] := hy
          rw [List.mem_append, List.mem_singleton] at hy
          rcases hy with hy | hy
          · exact h3 y hy
          · rw [hy, h1]; exact h2
        · rw [if_neg hx] at h; exact absurd h (by simp)
theorem rm_len {c : Nat → Nat} : ∀ n, (∀ j, j < n → okC (c j)) → (rdv c n).1.length = (msr c n).1.sum + (msr c n).2
  | 0, _ => rfl
  | n + 1, h => by
    have ih := rm_len n (fun j hj => h j (by omega))
    simp only [rdv, msr]
    rcases h n (by omega) with h1 | h1
    · have n1 : ¬ c n = 59 := fun z => by rw [z] at h1; exact absurd h1 (by decide)
      have n2 : ¬ c n = 44 := fun z => by rw [z] at h1; exact absurd h1 (by decide)
      rw [if_pos h1, if_neg n1, if_neg n2]
      exact ih
    · rw [isDg_no h1, if_neg (by decide)]
      rcases h1 with h1 | h1
      · rw [if_neg (by rw [h1]; decide), if_pos h1]
        simp only [List.length_append, List.length_singleton]
        omega
      · rw [if_pos h1]
        simp only [List.length_append, List.length_singleton, List.sum_append, List.sum_singleton]
        omega
theorem vl_len {c : Nat → Nat} {n : Nat} (h : ∀ j, j < n → okC (c j)) : (vlS c n).length = (lnS c n).sum := by
  unfold vlS lnS
  rw [List.length_append, rm_len n h]
  simp only [List.length_singleton, List.sum_append, List.sum_singleton]
  omega
theorem foldl_max_le {l : List Nat} : ∀ b, b ≤ l.foldl max b ∧ ∀ x ∈ l, x ≤ l.foldl max b := by
  induction l with
  | nil => intro b; exact ⟨Nat.le_refl b, fun x hx => by simp at hx⟩
  | cons y l ih =>
    intro b
    obtain ⟨h1, h2⟩ := ih (max b y)
    simp only [List.foldl_cons]
    refine ⟨by omega, fun x hx => ?_⟩
    rw [List.mem_cons] at hx
    rcases hx with hx | hx
    · omega
    · exact h2 x hx
theorem foldl_min_le {l : List Nat} : ∀ b, l.foldl min b ≤ b ∧ ∀ x ∈ l, l.foldl min b ≤ x := by
  induction l with
  | nil => intro b; exact ⟨Nat.le_refl b, fun x hx => by simp at hx⟩
  | cons y l ih =>
    intro b
    obtain ⟨h1, h2⟩ := ih (min b y)
    simp only [List.foldl_cons]
    refine ⟨by omega, fun x hx => ?_⟩
    rw [List.mem_cons] at hx
    rcases hx with hx | hx
    · omega
    · exact h2 x hx
theorem le_mxL {l : List Nat} {x : Nat} (h : x ∈ l) : x ≤ mxL l := (foldl_max_le 0).2 x h
theorem mnL_le2 {l : List Nat} {x : Nat} (h : x ∈ l) : mnL l ≤ x := (foldl_min_le 80).2 x h
theorem sum_eq {l : List Nat} {m : Nat} (h : ∀ x ∈ l, x = m) : l.sum = l.length * m := by
  induction l with
  | nil => simp
  | cons y l ih =>
    rw [List.sum_cons, List.length_cons, ih (fun x hx => h x (List.mem_cons_of_mem _ hx)), h y List.mem_cons_self, Nat.succ_mul]
    omega
/-- the array of a text -/
def ldV (c : Nat → Nat) (n : Nat) : GV := ((lnS c n).length, mxL (lnS c n), fun k => (vlS c n).getD k 0)
theorem ld_ok {c : Nat → Nat} {n : Nat} (h : fF c n 0 none = none) (h1 : ¬ (4 < (lnS c n).length ∨ 4 < mxL (lnS c n) ∨ 12 < (lnS c n).sum)) (h2 : mxL (lnS c n) = mnL (lnS c n)) : okV (ldV c n) ∧ (vlS c n).length ≤ 12 ∧ (lnS c n).length * mxL (lnS c n) = (vlS c n).length := by
  obtain ⟨k1, k2⟩ := fF_ok n 0 none h rfl (by simp) (fun y hy => by simp [rdv] at hy)
  rw [Nat.zero_add] at k1 k2
  have k3 := vl_len (fun j hj => k2 j (by omega) (by omega))
  have k4 : (lnS c n).sum = (lnS c n).length * mxL (lnS c n) := sum_eq (fun x hx => by
    have := le_mxL hx
    have := mnL_le2 hx
    omega)
  have k5 : 1 ≤ (lnS c n).length := by unfold lnS; simp
  have k6 : 1 ≤ mxL (lnS c n) := by
    have : (msr c n).2 + 1 ∈ lnS c n := by unfold lnS; simp
    have := le_mxL this
    omega
  refine ⟨⟨⟨k5, by show (lnS c n).length ≤ 4; omega, k6, by show mxL (lnS c n) ≤ 4; omega, by show (lnS c n).length * mxL (lnS c n) ≤ 12; omega⟩, fun j hj => ?_⟩, by omega, by omega⟩
  show (vlS c n).getD j 0 ≤ 999
  rw [List.getD_eq_getElem?_getD]
  cases hq : (vlS c n)[j]? with
  | none => simp
  | some x => exact k1 x (List.mem_of_getElem? hq)
noncomputable def spLoad (s : xS) (x : Int32) : Int32 × xS := cIf (inB x 3) (if fF (lc s) (ln s) 0 none = none then (if 4 < (lnS (lc s) (ln s)).length ∨ 4 < mxL (lnS (lc s) (ln s)) ∨ 12 < (lnS (lc s) (ln s)).sum then (-4, s) else if mxL (lnS (lc s) (ln s)) = mnL (lnS (lc s) (ln s)) then (nI ((lnS (lc s) (ln s)).length * mxL (lnS (lc s) (ln s))), padS (upS (remS s) (nN x) (ldV (lc s) (ln s))) 0) else (-2, s)) else (-3, s)) (-1, s)
theorem fI_none {v : Option Nat} (h : ∀ k, v = some k → k ≤ 80) : fI v = -6 ↔ v = none := by
  cases v with
  | none => exact ⟨fun _ => rfl, fun _ => rfl⟩
  | some k =>
    refine ⟨fun e => ?_, fun e => absurd e (by simp)⟩
    have hk := h k rfl
    have e : nI k = -6 := e
    have : ∀ k, k < 81 → ¬ nI k = -6 := by decide +kernel
    exact absurd e (this k (by omega))
theorem fF_le {c : Nat → Nat} : ∀ m k v x, fF c m k v = some x → x ≤ k + m := by
  intro m
  induction m with
  | zero =>
    intro k v x h
    cases v with
    | none =>
      have h : some k = some x := h
      cases h
      omega
    | some y => exact absurd (show (none : Option Nat) = some x from h) (by simp)
  | succ m ih =>
    intro k v x h
    simp only [fF] at h
    have st : ∀ v, fF c m (k + 1) v = some x → x ≤ k + (m + 1) := fun v hv => by
      have := ih _ _ _ hv
      omega
    have sk : some k = some x → x ≤ k + (m + 1) := fun e => by cases e; omega
    cases hdg : isDg (c k) with
    | true =>
      rw [hdg, if_pos rfl] at h
      cases v with
      | none => exact st _ h
      | some y =>
        have h : (if y = 0 ∨ 999 < y * 10 + (c k - 48) then some k else fF c m (k + 1) (some (y * 10 + (c k - 48)))) = some x := h
        split at h
        · exact sk h
        · exact st _ h
    | false =>
      rw [hdg, if_neg (by decide)] at h
      cases v with
      | none => exact sk h
      | some y =>
        have h : (if c k = 44 ∨ c k = 59 then fF c m (k + 1) none else some k) = some x := h
        split at h
        · exact st _ h
        · exact sk h
section CHG4
variable {G : sG} {d : Nat} {P : sQ} {w w' : sW} {B : Nat} {s : xS}
set_option maxHeartbeats 400000 in
theorem t_load {x : Int32} (h : clAt G w B s) (ho : okS s) (k : ∀ w', Fr w w' (sB B) → clAt G w' B (spLoad s x).2 → P (some (.int (spLoad s x).1)) w') : wpM G (d + 5) yX9_load (0, 0) [.ref B, .int x] w P := by
  have h0 := h.o
  have hn := ho.2.2.2.2.1
  unfold spLoad at k
  refine eX9_load ?_
  refine qX9_load_0 ?_
  refine qX9_load_1 (Nat.le_of_ble_eq_true rfl) (t_isArray (fun i hi hx => ?_) (fun hx => ?_))
  · subst hx
    rw [nN_nI (by omega), cIf_t (inB_nI hi)] at k
    obtain ⟨_, _, _, _, _, ⟨c', v2, v3, v4, v5, p1, p2, p3⟩, _⟩ := id h
    obtain ⟨q1, q2⟩ := id p1
    have ef : fF c' (ln s) 0 none = fF (lc s) (ln s) 0 none := fF_cong (ln s) 0 none (fun j _ hj => p3 j (by omega))
    have el : lnS c' (ln s) = lnS (lc s) (ln s) := lnS_cong p3
    have ev : vlS c' (ln s) = vlS (lc s) (ln s) := vlS_cong p3
    refine nX9_load_4 (by omega) (fun h4 => ?_) (fun h4 => by exfalso; omega)
    refine qX9_load_9 ?_
    refine qX9_load_10 (by assumption) ?_
    refine qX9_load_13 (by assumption) (Nat.le_of_ble_eq_true rfl) (t_firstFault p1 hn p2 ?_)
    rw [ef]
    refine qX9_load_16 ?_
    have hno := fI_none (fun k hk => by have := fF_le _ _ _ _ hk; omega : ∀ k, fF (lc s) (ln s) 0 none = some k → k ≤ 80)
    refine qX9_load_18 (fun h18 => ?_) (fun h18 => ?_)
    · have hff := hno.mp h18
      rw [if_pos hff] at k
      refine qX9_load_24 ?_
      refine qX9_load_25 (by assumption) ?_
      refine qX9_load_28 (by assumption) (Nat.le_of_ble_eq_true rfl) (t_measure p1 hn p2 (fun w1 hF1 hp1 => ?_))
      rw [el] at hp1
      have hc1 : clAt G w1 B s := h.pad hF1 ⟨c', _, _, _, _, hp1, p2, p3⟩
      have e0 := hc1.o
      obtain ⟨q3, q4⟩ := id hp1
      obtain ⟨m1, m2, m3, m4⟩ := msr_bd (lc s) (ln s)
      have l1 : (lnS (lc s) (ln s)).length ≤ 81 := by unfold lnS; rw [List.length_append]; simp only [List.length_singleton]; omega
      have l2 : (lnS (lc s) (ln s)).sum ≤ 81 := by unfold lnS; rw [List.sum_append]; simp only [List.sum_singleton]; omega
      have l3 : mxL (lnS (lc s) (ln s)) ≤ 81 := by unfold lnS; rw [mxL_app]; omega
      have l4 : mnL (lnS (lc s) (ln s)) ≤ 80 := by unfold lnS; rw [mnL_app]; omega
      have hF1b : Fr w w1 (sB B) := hF1.mono (fun q hq => by unfold sB; omega)
      have bad : (4 < (lnS (lc s) (ln s)).length ∨ 4 < mxL (lnS (lc s) (ln s)) ∨ 12 < (lnS (lc s) (ln s)).sum) → wp G (d + 4) mX9_load P 65 [some (.ref B), some (.int (nI i)), none] [] w1 (0, 0) := by
        intro hb
        rw [if_pos hb] at k
        refine qX9_load_65 ?_
        refine qX9_load_67 ?_
        exact k w1 hF1b hc1
      refine qX9_load_31 ?_
      refine qX9_load_32 (by assumption) ?_
      refine qX9_load_35 (by assumption) ?_
      refine qX9_load_38 ?_
      refine nX9_load_39 (by omega) (by omega) (fun h39 => ?_) (fun h39 => ?_)
      · exact bad (Or.inl h39)
      · refine qX9_load_42 ?_
        refine qX9_load_43 (by assumption) ?_
        refine qX9_load_46 (by assumption) ?_
        refine qX9_load_49 ?_
        refine nX9_load_50 (by omega) (by omega) (fun h50 => ?_) (fun h50 => ?_)
        · exact bad (Or.inr (Or.inl h50))
        · refine qX9_load_53 ?_
          refine qX9_load_54 (by assumption) ?_
          refine qX9_load_57 (by assumption) ?_
          refine qX9_load_60 ?_
          refine nX9_load_62 (by omega) (by omega) (fun h62 => ?_) (fun h62 => ?_)
          · rw [if_neg (by omega)] at k
            refine qX9_load_68 ?_
            refine qX9_load_69 (by assumption) ?_
            refine qX9_load_72 (by assumption) ?_
            refine qX9_load_75 ?_
            refine qX9_load_76 (by assumption) ?_
            refine qX9_load_79 (by assumption) ?_
            refine nX9_load_82 (by omega) (by omega) (fun h82 => ?_) (fun h82 => ?_)
            · rw [if_pos h82] at k
              obtain ⟨o1, o2, o3⟩ := ld_ok hff (by omega) h82
              obtain ⟨fs, hfs⟩ := hc1.his
              refine qX9_load_88 ?_
              refine qX9_load_89 (by assumption) ?_
              refine qX9_load_92 ?_
              refine qX9_load_93 (by assumption) ?_
              refine qX9_load_96 (by assumption) (Nat.le_of_ble_eq_true rfl) (hc1.rem ho (fun w2 hF2 hc2 => ?_))
              obtain ⟨e1, ⟨f', e2, e3⟩, a1, e4, e5, e6, e7⟩ := clG hc2 ho.rem hi
              have e8 := hc2.o
              have hp2 := hp1.fr hF2 (by omega) (by omega)
              obtain ⟨q5, q6⟩ := id hp2
              refine qX9_load_99 ?_
              refine qX9_load_100 (by assumption) ?_
              refine qX9_load_103 (by assumption) ?_
              refine qX9_load_106 ?_
              refine nX9_load_107 e2 (Or.inl rfl) hi (by decide) e3 ?_
              refine qX9_load_108 ?_
              refine qX9_load_109 ?_
              refine qX9_load_110 (by assumption) ?_
              refine qX9_load_113 ?_
              refine qX9_load_114 (by assumption) (Nat.le_of_ble_eq_true rfl) (t_readInto hp2 e4 hn p2 (by rw [ev]; exact o2) (by omega) (by omega) (fun w3 a3 hF3 hg3 ha3 => ?_))
              rw [ev] at ha3
              have hc3 := hc2.ups hi hF3 hg3 (v := ldV (lc s) (ln s)) ⟨rfl, rfl, fun j hj => ha3 j (by rw [← o3]; exact hj)⟩
              have e9 := hc3.o
              have hp3 := hp2.fr hF3 (by unfold sGE; omega) (by unfold sGE; omega)
              obtain ⟨q7, q8⟩ := id hp3
              refine qX9_load_117 ?_
              refine qX9_load_118 (by assumption) ?_
              refine qX9_load_121 ?_
              refine qX9_load_122 (by assumption) ?_
              generalize hw4 : s_up w3 (B + 61) _ = w4
              have hF4 : Fr w3 w4 (fun q => q = B + 61) := by rw [← hw4]; exact Fr.rf.up rfl
              have hp4 : padP G w4 (B + 61) 0 (lc s) := ⟨c', _, _, _, _, ⟨by rw [← hw4]; exact s_upS, by rw [← hw4, s_upN (by omega)]; exact q8⟩, p2, fun j hj => absurd hj (Nat.not_lt_zero j)⟩
              have hc4 := hc3.pad hF4 hp4
              have hg4 := hg3.fr hF4 (by omega) (by omega)
              obtain ⟨q9, q10⟩ := id hg4
              refine qX9_load_125 ?_
              refine qX9_load_126 (by assumption) (Nat.le_of_ble_eq_true rfl) (t_size hg4 ?_)
              refine qX9_load_129 ?_
              exact k w4 (((hF1b.tr hF2 (fun q hq => by unfold sB; omega)).tr hF3 (fun q hq => by unfold sGE at hq; unfold sB; omega)).tr hF4 (fun q hq => by unfold sB; omega)) hc4
            · rw [if_neg h82] at k
              refine qX9_load_85 ?_
              refine qX9_load_87 ?_
              exact k w1 hF1b hc1
          · exact bad (Or.inr (Or.inr h62))
    · rw [if_neg (fun e => h18 (hno.mpr e))] at k
      refine qX9_load_21 ?_
      refine qX9_load_23 ?_
      exact k w Fr.rf h
  · rw [cIf_f hx] at k
    refine nX9_load_4 (by omega) (fun h4 => by exfalso; omega) (fun h4 => ?_)
    refine qX9_load_7 ?_
    refine qX9_load_8 ?_
    exact k w Fr.rf h
end CHG4
