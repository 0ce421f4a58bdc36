/-! texts that the law writes -/
def stpF (v : Option Nat) (ch : Nat) : Option (Option Nat) := if isDg ch then (match v with
    | none => some (some (ch - 48))
    | some x => if x = 0 ∨ 999 < x * 10 + (ch - 48) then none else some (some (x * 10 + (ch - 48))))
  else (match v with
    | none => none
    | some _ => if ch = 44 ∨ ch = 59 then some none else none)
def runF (c : Nat → Nat) : Nat → Option (Option Nat)
  | 0 => some none
  | k + 1 => (runF c k).bind (fun v => stpF v (c k))
theorem run_none {c : Nat → Nat} {k : Nat} (h : runF c k = none) : ∀ j, runF c (k + j) = none
  | 0 => h
  | j + 1 => by
    show (runF c (k + j)).bind _ = none
    rw [run_none h j]
    rfl
theorem fF_run {c : Nat → Nat} {x : Nat} : ∀ m k v, runF c k = some v → runF c (k + m) = some (some x) → fF c m k v = none
  | 0, k, v, h1, h2 => by
    rw [Nat.add_zero, h1] at h2
    cases h2
    rfl
  | m + 1, k, v, h1, h2 => by
    have hs : runF c (k + 1) = stpF v (c k) := by
      show (runF c k).bind _ = _
      rw [h1]
      rfl
    have e : k + (m + 1) = k + 1 + m := by omega
    rw [e] at h2
    simp only [fF]
    unfold stpF at hs
    by_cases hd : isDg (c k) = true
    · rw [if_pos hd] at hs ⊢
      cases v with
      | none => exact fF_run m (k + 1) _ hs h2
      | some y =>
        simp only at hs ⊢
        by_cases hb : y = 0 ∨ 999 < y * 10 + (c k - 48)
        · rw [if_pos hb] at hs
          rw [run_none hs m] at h2
          cases h2
        · rw [if_neg hb] at hs ⊢
          exact fF_run m (k + 1) _ hs h2
    · rw [if_neg hd] at hs ⊢
      cases v with
      | none =>
        rw [run_none hs m] at h2
        cases h2
      | some y =>
        simp only at hs ⊢
        by_cases hb : c k = 44 ∨ c k = 59
        · rw [if_pos hb] at hs ⊢
          exact fF_run m (k + 1) _ hs h2
        · rw [if_neg hb] at hs
          rw [run_none hs m] at h2
          cases h2
theorem run_cong {c c' : Nat → Nat} : ∀ n, (∀ k, k < n → c' k = c k) → runF c' n = runF c n
  | 0, _ => rfl
  | n + 1, h => by
    show (runF c' n).bind _ = (runF c n).bind _
    rw [run_cong n (fun k hk => h k (by omega)), h n (by omega)]
theorem msr_cg {c c' : Nat → Nat} : ∀ n, (∀ k, k < n → c' k = c k) → msr c' n = msr c n
  | 0, _ => rfl
  | n + 1, h => by
    simp only [msr]
    rw [msr_cg n (fun k hk => h k (by omega)), h n (by omega)]
theorem rdv_cg {c c' : Nat → Nat} : ∀ n, (∀ k, k < n → c' k = c k) → rdv c' n = rdv c n
  | 0, _ => rfl
  | n + 1, h => by
    simp only [rdv]
    rw [rdv_cg n (fun k hk => h k (by omega)), h n (by omega)]
/-- the numbers L are written and closed, o is the open one, i of them in rows of C -/
def pdS (c : Nat → Nat) (n : Nat) (L : List Nat) (o : Option Nat) (C i : Nat) : Prop := runF c n = some o ∧ rdv c n = (L, o.getD 0) ∧ msr c n = (List.replicate (i / C) C, i % C)
theorem pd_0 {c : Nat → Nat} {C : Nat} : pdS c 0 [] none C 0 := ⟨rfl, rfl, by simp [msr]⟩
section PD
variable {c c' : Nat → Nat} {n C i : Nat} {L : List Nat}
theorem pd_dig {o : Option Nat} {g x : Nat} (h : pdS c n L o C i) (ha : ∀ k, k < n → c' k = c k) (hc : c' n = 48 + g) (hg : g < 10) (hx : (o = none ∧ x = g) ∨ ∃ y, o = some y ∧ ¬ y = 0 ∧ y * 10 + g ≤ 999 ∧ x = y * 10 + g) : pdS c' (n + 1) L (some x) C i := by
  obtain ⟨h1, h2, h3⟩ := h
  have hd : isDg (48 + g) = true := by simp [isDg]; omega
  have e48 : 48 + g - 48 = g := by omega
  refine ⟨?_, ?_, ?_⟩
  · show (runF c' n).bind _ = _
    rw [run_cong n ha, h1, hc]
    show stpF o (48 + g) = _
    unfold stpF
    rw [if_pos hd, e48]
    rcases hx with ⟨rfl, rfl⟩ | ⟨y, rfl, y1, y2, rfl⟩
    · rfl
    · simp only
      rw [if_neg (by omega)]
  · simp only [rdv]
    rw [rdv_cg n ha, h2, hc, if_pos hd, e48]
    rcases hx with ⟨rfl, rfl⟩ | ⟨y, rfl, y1, y2, rfl⟩
    · simp
    · rfl
  · simp only [msr]
    rw [msr_cg n ha, h3, hc, if_neg (by omega), if_neg (by omega)]
theorem pd_sep {x : Nat} (h : pdS c n L (some x) C i) (hC : 0 < C) (ha : ∀ k, k < n → c' k = c k) (hc : c' n = if (i + 1) % C = 0 then 59 else 44) : pdS c' (n + 1) (L ++ [x]) none C (i + 1) := by
  obtain ⟨h1, h2, h3⟩ := h
  have hlt : i % C < C := Nat.mod_lt _ hC
  have hi := mdv (q := i) (C := C)
  have hd : isDg (c' n) = false := by
    rw [hc]
    split <;> rfl
  have h4 : c' n = 44 ∨ c' n = 59 := by
    rw [hc]
    split
    · exact Or.inr rfl
    · exact Or.inl rfl
  refine ⟨?_, ?_, ?_⟩
  · show (runF c' n).bind _ = _
    rw [run_cong n ha, h1]
    show stpF (some x) (c' n) = _
    unfold stpF
    rw [if_neg (by rw [hd]; decide)]
    simp only
    rw [if_pos h4]
  · simp only [rdv]
    rw [rdv_cg n ha, h2, if_neg (by rw [hd]; decide)]
    rfl
  · simp only [msr]
    rw [msr_cg n ha, h3]
    by_cases hl : i % C + 1 = C
    · have e1 : i + 1 = (i / C + 1) * C + 0 := by rw [Nat.add_mul]; omega
      have e2 : (i + 1) % C = 0 := by rw [e1, md1 hC]
      have e3 : (i + 1) / C = i / C + 1 := by rw [e1, dv1 hC]
      have hc2 : c' n = 59 := by rw [hc, e2, if_pos rfl]
      rw [hc2, if_pos rfl, e2, e3, List.replicate_succ', hl]
    · have e1 : i + 1 = i / C * C + (i % C + 1) := by omega
      have e2 : (i + 1) % C = i % C + 1 := by rw [e1, md1 (by omega)]
      have e3 : (i + 1) / C = i / C := by
        have : (i / C * C + (i % C + 1)) / C = i / C := dv1 (by omega)
        rw [← e1] at this
        exact this
      have hc2 : c' n = 44 := by rw [hc, e2, if_neg (Nat.succ_ne_zero _)]
      rw [hc2, if_neg (by decide), if_pos rfl, e2, e3]
theorem mx_rep : ∀ (R : Nat) (m : Nat), (List.replicate R C).foldl max m = if R = 0 then m else max m C
  | 0, m => rfl
  | R + 1, m => by
    rw [List.replicate_succ, List.foldl_cons, mx_rep R, if_neg (Nat.succ_ne_zero R)]
    split
    · rfl
    · omega
theorem mn_rep : ∀ (R : Nat) (m : Nat), (List.replicate R C).foldl min m = if R = 0 then m else min m C
  | 0, m => rfl
  | R + 1, m => by
    rw [List.replicate_succ, List.foldl_cons, mn_rep R, if_neg (Nat.succ_ne_zero R)]
    split
    · rfl
    · omega
theorem sum_rep : ∀ R : Nat, (List.replicate R C).sum = R * C
  | 0 => by simp
  | R + 1 => by rw [List.replicate_succ, List.sum_cons, sum_rep R, Nat.add_mul]; omega
/-- a text that is whole -/
theorem pd_end {R x : Nat} (hd : okD R C) (h : pdS c n L (some x) C (R * C - 1)) : fF c n 0 none = none ∧ lnS c n = List.replicate R C ∧ vlS c n = L ++ [x] ∧ mxL (lnS c n) = C ∧ mnL (lnS c n) = C ∧ (lnS c n).sum = R * C ∧ (lnS c n).length = R := by
  obtain ⟨h1, h2, h3⟩ := h
  have d1 := hd.1
  have d3 := hd.2.2.1
  have d4 := hd.2.2.2.1
  have e1 : lnS c n = List.replicate R C := by
    unfold lnS
    rw [h3]
    have e2 : R * C - 1 = (R - 1) * C + (C - 1) := by
      rw [Nat.sub_mul, Nat.one_mul]
      have : C ≤ R * C := Nat.le_mul_of_pos_left C d1
      omega
    rw [e2, dv1 (by omega), md1 (by omega), show C - 1 + 1 = C by omega, ← List.replicate_succ', show R - 1 + 1 = R by omega]
  refine ⟨fF_run n 0 none rfl (by rw [Nat.zero_add]; exact h1), e1, ?_, ?_, ?_, ?_, ?_⟩
  · unfold vlS
    rw [h2]
    rfl
  · rw [e1]
    unfold mxL
    rw [mx_rep, if_neg (by omega)]
    omega
  · rw [e1]
    unfold mnL
    rw [mn_rep, if_neg (by omega)]
    omega
  · rw [e1, sum_rep]
  · rw [e1, List.length_replicate]
end PD
theorem put1 : ∀ ch, ch < 127 → 33 ≤ ch → putN ch = 1 := by decide +kernel
theorem i2l1 : ∀ k, k < 128 → (nI k).toInt64 = lU k := by decide +kernel
section PUTC
variable {G : sG} {d : Nat} {P : sQ} {w : sW} {s : xS} {a : Nat} {f : Nat → Nat} {v : Nat → Int32} {co : Nat → Nat} {se : Nat → Int64} {x y : Int32} {t kd k1 k2 c1 c2 : Nat}
theorem put_lc {ch : Nat} (h1 : 33 ≤ ch) (h2 : ch ≤ 126) : ln (putS s ch) = ln s + 1 ∧ lc (putS s ch) (ln s) = ch ∧ ∀ k, k < ln s → lc (putS s ch) k = lc s k := by
  have hp := put1 ch (by omega) h1
  refine ⟨?_, ?_, fun k hk => ?_⟩
  · show ln s + putN ch = _
    rw [hp]
  · show (if ln s ≤ ln s ∧ ln s < ln s + putN ch then ch / 2 ^ (8 * (putN ch - 1 - (ln s - ln s))) % 256 else lc s (ln s)) = ch
    rw [hp, if_pos (by omega), Nat.sub_self, Nat.sub_self, Nat.sub_self, Nat.mul_zero, Nat.pow_zero, Nat.div_one]
    omega
  · show (if ln s ≤ k ∧ k < ln s + putN ch then _ else lc s k) = _
    rw [if_neg (by omega)]
theorem putc {ch : Nat} (h : jW G w s f v co se) (ho : okS s) (h1 : 33 ≤ ch) (h2 : ch ≤ 126) (hl : ln s < 80) (k : ∀ w', jW G w' (putS s ch) f v co se → okS (putS s ch) → P (some (.int (nI (ln s + 1)))) w') : wpM G (d + 3) yX9_put (0, 0) [.ref (gB G), .long (lU ch)] w P := by
  have hp := put1 ch (by omega) h1
  have e : spPut s ch = (nI (ln s + 1), putS s ch) := by
    unfold spPut
    rw [hp, if_neg (by decide), if_neg (by omega)]
  refine t_put (show ch < 2 ^ 64 by omega) h.1 ho (fun w' hF hc => ?_)
  have ho2 := ok_put (u := ch) ho
  rw [e] at hc ho2 ⊢
  exact k w' (h.cl hF hc) ho2
end PUTC
