/-! the law's ways through a part -/
def lwF (C rows cols code : Nat) : Nat → Nat × Nat × Option (List Nat)
  | 0 => (code, cols, some [])
  | i + 1 => if rows.testBit i = true then ((lwF C rows cols code i).1 / C, clr (lwF C rows cols code i).2.1 ((lwF C rows cols code i).1 % C), if (lwF C rows cols code i).2.1.testBit ((lwF C rows cols code i).1 % C) = true then (lwF C rows cols code i).2.2.map (fun l => l ++ [i * C + (lwF C rows cols code i).1 % C]) else none) else lwF C rows cols code i
def lwP (R C rows cols n : Nat) : List (List Nat) := (List.range n).filterMap (fun code => (lwF C rows cols code R).2.2)
def ckL (R C : Nat) : Bool := (List.range (2 ^ R)).all fun r => (List.range (2 ^ C)).all fun c => r == 0 || bcN r != bcN c || (goP R C r R c).isPerm (lwP R C r c (C ^ bcN r))
theorem ckL_ok : ((List.range 5).all fun R => (List.range 5).all fun C => R == 0 || C == 0 || decide (9 < R * C) || ckL R C) = true := by decide +kernel
theorem lp_ok {R C r c : Nat} (hd : okD R C) (h9 : R * C ≤ 9) (hr : r < 2 ^ R) (hc : c < 2 ^ C) (h1 : 1 ≤ r) (hb : bcN r = bcN c) : (goP R C r R c).Perm (lwP R C r c (C ^ bcN r)) := by
  have h := ckL_ok
  have d1 := hd.1
  have d2 := hd.2.1
  have d3 := hd.2.2.1
  have d4 := hd.2.2.2.1
  rw [List.all_eq_true] at h
  have h2 := h R (List.mem_range.mpr (by omega))
  rw [List.all_eq_true] at h2
  have h3 := h2 C (List.mem_range.mpr (by omega))
  simp only [Bool.or_eq_true, beq_iff_eq, decide_eq_true_eq] at h3
  rcases h3 with ((h3 | h3) | h3) | h3
  · omega
  · omega
  · omega
  · unfold ckL at h3
    rw [List.all_eq_true] at h3
    have h4 := h3 r (List.mem_range.mpr hr)
    rw [List.all_eq_true] at h4
    have h5 := h4 c (List.mem_range.mpr hc)
    simp only [Bool.or_eq_true, beq_iff_eq, bne_iff_ne, ne_eq] at h5
    rcases h5 with (h5 | h5) | h5
    · omega
    · exact absurd hb h5
    · exact List.isPerm_iff.mp h5
def lwK (s : Nat × Nat) (x : Nat) : Nat × Nat := if x < s.1 then (x, 1) else if x = s.1 then (s.1, s.2 + 1) else s
def lkR (s : Nat × Nat) (p : W3) : Prop := (p.1 = none ∧ p.2.1 = 0 ∧ s = (99999, 0)) ∨ ∃ m, p.1 = some m ∧ m < 99999 ∧ s = (m, p.2.1)
theorem lwK_st : ∀ (l : List Nat) (s : Nat × Nat) (p : W3), (∀ x ∈ l, x < 99999) → lkR s p → lkR (l.foldl lwK s) (l.foldl stW p)
  | [], s, p, _, h => h
  | x :: l, s, p, hl, h => by
    rw [List.foldl_cons, List.foldl_cons]
    refine lwK_st l _ _ (fun y hy => hl y (List.mem_cons_of_mem _ hy)) ?_
    have hx := hl x List.mem_cons_self
    obtain ⟨p1, p2, p3⟩ := p
    rcases h with ⟨h1, h2, h3⟩ | ⟨m, h1, h2, h3⟩
    · simp only at h1 h2
      subst h1
      subst h3
      refine Or.inr ⟨x, rfl, hx, ?_⟩
      unfold lwK
      rw [if_pos hx]
      rfl
    · simp only at h1
      subst h1
      subst h3
      refine Or.inr ⟨min m x, rfl, by omega, ?_⟩
      show lwK (m, p2) x = (min m x, if x < m then 1 else if x = m then p2 + 1 else p2)
      unfold lwK
      by_cases c1 : x < m
      · rw [if_pos c1, if_pos c1, Nat.min_eq_right (by omega)]
      · rw [if_neg c1, if_neg c1, Nat.min_eq_left (by omega)]
        by_cases c2 : x = m
        · rw [if_pos c2, if_pos c2]
        · rw [if_neg c2, if_neg c2]
/-- what the law's loop holds behind n codes -/
def lwW (R C : Nat) (a : Nat → Nat) (r c n : Nat) : Nat × Nat := ((lwP R C r c n).map (sumA a)).foldl lwK (99999, 0)
theorem lwW_none {R C r c n : Nat} {a : Nat → Nat} (h : (lwF C r c n R).2.2 = none) : lwW R C a r c (n + 1) = lwW R C a r c n := by
  unfold lwW lwP
  rw [List.range_succ, List.filterMap_append]
  simp [h]
theorem lwW_some {R C r c n : Nat} {a : Nat → Nat} {l : List Nat} (h : (lwF C r c n R).2.2 = some l) : lwW R C a r c (n + 1) = lwK (lwW R C a r c n) (sumA a l) := by
  unfold lwW lwP
  rw [List.range_succ, List.filterMap_append]
  simp [h]
theorem sum_le {a : Nat → Nat} {n : Nat} (ha : ∀ q, q < n → a q ≤ 999) : ∀ l : List Nat, (∀ x ∈ l, x < n) → sumA a l ≤ 999 * l.length
  | [], _ => Nat.le_refl 0
  | x :: l, h => by
    have h1 := ha x (h x List.mem_cons_self)
    have h2 := sum_le ha l (fun y hy => h y (List.mem_cons_of_mem _ hy))
    have h3 : sumA a (x :: l) = a x + sumA a l := by simp [sumA]
    rw [h3, List.length_cons]
    omega
theorem lwW_eq {R C r c : Nat} {a : Nat → Nat} (hd : okD R C) (h9 : R * C ≤ 9) (ha : ∀ q, q < R * C → a q ≤ 999) (hr : r < 2 ^ R) (hc : c < 2 ^ C) (h1 : 1 ≤ r) (hb : bcN r = bcN c) : lwW R C a r c (C ^ bcN r) = (lsN (wysL R C a r c), wlN (wysL R C a r c)) := by
  have hperm : ((wysL R C a r c).map Prod.fst).Perm ((lwP R C r c (C ^ bcN r)).map (sumA a)) := by
    unfold wysL
    rw [goW_P r R c 0 0]
    simp only [Nat.zero_add]
    exact (lp_ok hd h9 hr hc h1 hb).map (sumA a)
  have hlen : 1 ≤ (wysL R C a r c).length := by
    unfold wysL
    rw [goW_len]
    exact (cw_ok hd hr hc h1 hb).1
  have h := ways_eq hperm hlen
  have hlt : ∀ x ∈ (lwP R C r c (C ^ bcN r)).map (sumA a), x < 99999 := fun x hx => by
    have hx2 := hperm.symm.mem_iff.mp hx
    obtain ⟨y, hy, rfl⟩ := List.mem_map.mp hx2
    obtain ⟨i, hi⟩ := List.getElem?_of_mem hy
    have h3 := sv_le (R := R) (C := C) ha hd.2.1 (r := r) (c := c) i
    unfold sv at h3
    rw [List.getD_eq_getElem?_getD, hi] at h3
    have h4 : y.1 ≤ 4000 := h3
    omega
  have h2 := lwK_st _ (99999, 0) (none, 0, none) hlt (Or.inl ⟨rfl, rfl, rfl⟩)
  rw [h] at h2
  rcases h2 with ⟨h2, _⟩ | ⟨m, h2, _, h3⟩
  · cases h2
  · cases h2
    exact h3
section LWAYS
variable {G : sG} {d : Nat} {P : sQ} {w : sW} {p a R C : Nat} {f E : Nat → Nat}
theorem l_ways {r c : Nat} (h : lV G w p f a R C E) (h1 : 1 ≤ r) (hr : r < 2 ^ R) (hc : c < 2 ^ C) (hb : bcN r = bcN c) (k : P (some (.int (nI (wlN (wysL R C E r c) * 10000 + lsN (wysL R C E r c))))) w) : wpM G (d + 2) yL_ways (0, 0) [.int (nI a), .int (nI r), .int (nI c), .ref p] w P := by
  obtain ⟨hp, ha, hR, hC, hE, hd, h9, h999⟩ := id h
  have d1 := hd.1
  have d2 := hd.2.1
  have d3 := hd.2.2.1
  have d4 := hd.2.2.2.1
  have hr16 : 2 ^ R ≤ 2 ^ 4 := Nat.pow_le_pow_right (by decide) d2
  have hc16 : 2 ^ C ≤ 2 ^ 4 := Nat.pow_le_pow_right (by decide) d4
  have hbl := bcN_le r
  have hpw : ∀ n, n < 5 → 1 <<< n ≤ 16 ∧ 1 ≤ 1 <<< n ∧ 1 * 2 ^ n ≤ 16 := by decide
  have hCb : ∀ k, k ≤ bcN r → C ^ k ≤ 16777216 := fun k hk => by
    have e1 : C ^ k ≤ 4 ^ k := Nat.pow_le_pow_left d4 k
    have e2 : 4 ^ k ≤ 4 ^ 12 := Nat.pow_le_pow_right (by decide) (by omega)
    omega
  have hCb0 := hCb (bcN r) (Nat.le_refl _)
  refine eL_ways ?_
  refine qL_ways_0 ?_
  refine qL_ways_1 ?_
  refine qL_ways_3 ?_
  first | refine nL_ways_4 ?_ | refine qL_ways_4 ?_
  first | refine fL_ways_5 (by assumption) (by omega) (by decide) ?_ | refine nL_ways_5 (by assumption) (by omega) (by decide) ?_
  rw [hR]
  refine qL_ways_6 ?_
  refine qL_ways_8 ?_
  refine qL_ways_9 ?_
  refine qL_ways_11 ?_
  first | refine nL_ways_12 ?_ | refine qL_ways_12 ?_
  refine qL_ways_13 ?_
  first | refine nL_ways_14 ?_ | refine qL_ways_14 ?_
  first | refine fL_ways_15 (by assumption) (by omega) (by decide) ?_ | refine nL_ways_15 (by assumption) (by omega) (by decide) ?_
  rw [hC]
  refine qL_ways_16 ?_
  refine qL_ways_18 ?_
  refine qL_ways_20 ?_
  refine qL_ways_22 ?_
  refine qL_ways_23 ?_
  refine qL_ways_25 ?_
  refine qL_ways_26 ?_
  refine qL_ways_28 ?_
  refine qL_ways_29 ?_
  have LO : ∀ m n lst hv (l10 l11 l12 l13 l14 : Option Value), n + m = C ^ bcN r → lwW R C E r c n = (lst, hv) → lst ≤ 99999 → hv ≤ n → wp G (d + 1) mL_ways P 56 [some (.int (nI a)), some (.int (nI r)), some (.int (nI c)), some (.ref p), some (.int (nI R)), some (.int (nI C)), some (.int (nI lst)), some (.int (nI hv)), some (.int (nI (C ^ bcN r))), some (.int (nI n)), l10, l11, l12, l13, l14] [] w (0, 0) := by
    intro m
    induction m with
    | zero =>
      intro n lst hv l10 l11 l12 l13 l14 hn he hl hh
      rw [show n = C ^ bcN r by omega, lwW_eq hd h9 h999 hr hc h1 hb] at he
      cases he
      refine qL_ways_56 ?_
      refine qL_ways_58 ?_
      refine nL_ways_60 (by omega) (by omega) (fun h60 => ?_) (fun h60 => by exfalso; omega)
      refine qL_ways_218 ?_
      refine qL_ways_220 ?_
      first | refine nL_ways_223 ?_ | refine qL_ways_223 ?_
      refine qL_ways_224 ?_
      first | refine nL_ways_226 ?_ | refine qL_ways_226 ?_
      refine qL_ways_227 ?_
      exact k
    | succ m ih =>
      intro n lst hv l10 l11 l12 l13 l14 hn he hl hh
      refine qL_ways_56 ?_
      refine qL_ways_58 ?_
      refine nL_ways_60 (by omega) (by omega) (fun h60 => by exfalso; omega) (fun h60 => ?_)
      refine qL_ways_63 ?_
      refine qL_ways_65 ?_
      refine qL_ways_67 ?_
      refine qL_ways_68 ?_
      refine qL_ways_70 ?_
      refine qL_ways_71 ?_
      refine qL_ways_73 ?_
      refine qL_ways_74 ?_
      have L3 : ∀ m3 i sum rest left o (l14 : Option Value), i + m3 = R → lwF C r c n i = (rest, left, o) → rest ≤ n → left < 16 → sum ≤ 99999 * i → (o = none → 99999 ≤ sum) → (∀ l, o = some l → sum = sumA E l ∧ sum ≤ 999 * i) → wp G (d + 1) mL_ways P 76 [some (.int (nI a)), some (.int (nI r)), some (.int (nI c)), some (.ref p), some (.int (nI R)), some (.int (nI C)), some (.int (nI lst)), some (.int (nI hv)), some (.int (nI (C ^ bcN r))), some (.int (nI n)), some (.int (nI rest)), some (.int (nI left)), some (.int (nI sum)), some (.int (nI i)), l14] [] w (0, 0) := by
        intro m3
        induction m3 with
        | zero =>
          intro i sum rest left o l14 hi hF hrest hleft hs ho1 ho2
          rw [show i = R by omega] at hF ho2 hs ⊢
          refine qL_ways_76 ?_
          refine qL_ways_78 ?_
          refine nL_ways_80 (by omega) (by omega) (fun h80 => ?_) (fun h80 => by exfalso; omega)
          refine qL_ways_156 ?_
          refine qL_ways_158 ?_
          cases o with
          | none =>
            have := ho1 rfl
            refine nL_ways_161 (by omega) (by omega) (fun h161 => by exfalso; omega) (fun h161 => ?_)
            refine qL_ways_164 ?_
            first | refine nL_ways_212 ?_ | refine qL_ways_212 ?_
            refine qL_ways_215 ?_
            exact ih (n + 1) lst hv _ _ _ _ _ (by omega) (by rw [lwW_none (by rw [hF])]; exact he) hl (by omega)
          | some l =>
            obtain ⟨o1, o2⟩ := ho2 l rfl
            have he2 : lwW R C E r c (n + 1) = lwK (lst, hv) sum := by rw [lwW_some (l := l) (by rw [hF]), he, ← o1]
            refine nL_ways_161 (by omega) (by omega) (fun h161 => ?_) (fun h161 => by exfalso; omega)
            refine qL_ways_167 ?_
            refine qL_ways_169 ?_
            refine nL_ways_171 (by omega) (by omega) (fun h171 => ?_) (fun h171 => ?_)
            · refine qL_ways_178 ?_
              refine qL_ways_180 ?_
              refine nL_ways_182 (by omega) (by omega) (fun h182 => ?_) (fun h182 => ?_)
              · refine qL_ways_192 ?_
                refine qL_ways_194 ?_
                refine qL_ways_196 ?_
                refine qL_ways_198 ?_
                refine nL_ways_200 (by omega) (by omega) (fun h200 => ?_) (fun h200 => by exfalso; omega)
                refine qL_ways_208 ?_
                refine qL_ways_210 ?_
                first | refine nL_ways_212 ?_ | refine qL_ways_212 ?_
                refine qL_ways_215 ?_
                exact ih (n + 1) lst hv _ _ _ _ _ (by omega) (by rw [he2]; unfold lwK; rw [if_neg (by omega), if_neg h182]) hl (by omega)
              · refine qL_ways_185 ?_
                refine qL_ways_187 ?_
                first | refine nL_ways_188 ?_ | refine qL_ways_188 ?_
                refine qL_ways_189 ?_
                refine qL_ways_194 ?_
                refine qL_ways_196 ?_
                refine qL_ways_198 ?_
                refine nL_ways_200 (by omega) (by omega) (fun h200 => ?_) (fun h200 => by exfalso; omega)
                refine qL_ways_208 ?_
                refine qL_ways_210 ?_
                first | refine nL_ways_212 ?_ | refine qL_ways_212 ?_
                refine qL_ways_215 ?_
                exact ih (n + 1) lst (hv + 1) _ _ _ _ _ (by omega) (by rw [he2]; unfold lwK; rw [if_neg (by omega), if_pos h182]) hl (by omega)
            · refine qL_ways_174 ?_
              refine qL_ways_175 ?_
              refine qL_ways_194 ?_
              refine qL_ways_196 ?_
              refine qL_ways_198 ?_
              refine nL_ways_200 (by omega) (by omega) (fun h200 => by exfalso; omega) (fun h200 => ?_)
              refine qL_ways_203 ?_
              refine qL_ways_205 ?_
              refine qL_ways_210 ?_
              first | refine nL_ways_212 ?_ | refine qL_ways_212 ?_
              refine qL_ways_215 ?_
              exact ih (n + 1) sum 1 _ _ _ _ _ (by omega) (by rw [he2]; unfold lwK; rw [if_pos h171]) (by omega) (by omega)
        | succ m3 ih3 =>
          intro i sum rest left o l14 hi hF hrest hleft hs ho1 ho2
          have ht1 := tbit1 r i
          refine qL_ways_76 ?_
          refine qL_ways_78 ?_
          refine nL_ways_80 (by omega) (by omega) (fun h80 => by exfalso; omega) (fun h80 => ?_)
          refine qL_ways_83 ?_
          refine qL_ways_84 ?_
          refine nL_ways_86 (by omega) (by omega) ?_
          refine qL_ways_87 ?_
          first | refine nL_ways_88 ?_ | refine qL_ways_88 ?_
          refine nL_ways_89 (by omega) (fun h89 => ?_) (fun h89 => ?_)
          · have hbit : r.testBit i = true := (tbit r i).mp (by omega)
            have hj : rest % C < C := Nat.mod_lt _ (by omega)
            have hpj := hpw (rest % C) (by omega)
            have ht2 := tbit1 left (rest % C)
            have hdv : rest / C ≤ rest := Nat.div_le_self _ _
            have hx := h999 (i * C + rest % C) (ml1 (by omega) hj)
            refine qL_ways_95 ?_
            refine qL_ways_97 ?_
            refine nL_ways_99 (by omega) (by omega) (by omega) ?_
            refine qL_ways_100 ?_
            refine qL_ways_102 ?_
            refine qL_ways_104 ?_
            refine nL_ways_106 (by omega) (by omega) (by omega) ?_
            refine qL_ways_107 ?_
            refine qL_ways_109 ?_
            refine qL_ways_111 ?_
            refine qL_ways_113 ?_
            refine nL_ways_115 (by omega) (by omega) ?_
            refine qL_ways_116 ?_
            first | refine nL_ways_117 ?_ | refine qL_ways_117 ?_
            refine qL_ways_118 ?_
            refine nL_ways_119 (by omega) (by omega) (fun h119 => ?_) (fun h119 => ?_)
            · have hbl2 : left.testBit (rest % C) = false := by
                cases hh2 : left.testBit (rest % C) with
                | false => rfl
                | true => exact absurd ((tbit _ _).mpr hh2) h119
              refine qL_ways_134 ?_
              first | refine nL_ways_136 ?_ | refine qL_ways_136 ?_
              refine qL_ways_137 ?_
              refine qL_ways_139 ?_
              refine qL_ways_141 ?_
              refine qL_ways_142 ?_
              refine nL_ways_144 (by omega) (by omega) ?_
              refine qL_ways_145 ?_
              refine qL_ways_146 ?_
              refine qL_ways_147 ?_
              rw [clr_nI _ hleft _ (by omega)]
              refine qL_ways_148 ?_
              first | refine nL_ways_150 ?_ | refine qL_ways_150 ?_
              refine qL_ways_153 ?_
              refine ih3 (i + 1) (sum + 99999) _ _ none _ (by omega) ?_ (by omega) (clr_lt hleft) (by omega) (fun _ => by omega) (fun l hl => by cases hl)
              simp only [lwF, hF, hbit, if_true, hbl2]
              rfl
            · have hbl2 : left.testBit (rest % C) = true := (tbit _ _).mp h119
              refine qL_ways_122 ?_
              refine qL_ways_123 ?_
              refine qL_ways_125 ?_
              refine qL_ways_127 ?_
              refine qL_ways_128 (Nat.le_of_ble_eq_true rfl) (l_at h (by omega) hj ?_)
              refine qL_ways_131 ?_
              first | refine nL_ways_136 ?_ | refine qL_ways_136 ?_
              refine qL_ways_137 ?_
              refine qL_ways_139 ?_
              refine qL_ways_141 ?_
              refine qL_ways_142 ?_
              refine nL_ways_144 (by omega) (by omega) ?_
              refine qL_ways_145 ?_
              refine qL_ways_146 ?_
              refine qL_ways_147 ?_
              rw [clr_nI _ hleft _ (by omega)]
              refine qL_ways_148 ?_
              first | refine nL_ways_150 ?_ | refine qL_ways_150 ?_
              refine qL_ways_153 ?_
              refine ih3 (i + 1) (sum + E (i * C + rest % C)) _ _ (o.map (fun l => l ++ [i * C + rest % C])) _ (by omega) ?_ (by omega) (clr_lt hleft) (by omega) (fun ho => ?_) (fun l hl => ?_)
              · simp only [lwF, hF, hbit, if_true, hbl2]
              · cases o with
                | none => have := ho1 rfl; omega
                | some l => cases ho
              · cases o with
                | none => cases hl
                | some l0 =>
                  cases hl
                  obtain ⟨o1, o2⟩ := ho2 l0 rfl
                  refine ⟨?_, by omega⟩
                  rw [o1]
                  simp [sumA]
          · have hbit : r.testBit i = false := (tbit0 r i).mp h89
            refine qL_ways_92 ?_
            first | refine nL_ways_150 ?_ | refine qL_ways_150 ?_
            refine qL_ways_153 ?_
            refine ih3 (i + 1) sum rest left o _ (by omega) ?_ hrest hleft (by omega) ho1 (fun l hl => ?_)
            · simp [lwF, hF, hbit]
            · obtain ⟨o1, o2⟩ := ho2 l hl
              exact ⟨o1, by omega⟩
      exact L3 R 0 0 n c (some []) _ (by omega) rfl (Nat.le_refl _) (by omega) (by omega) (fun q => by cases q) (fun l hl => by cases hl; exact ⟨rfl, by omega⟩)
  have LA : ∀ m i (l10 l11 l12 l13 l14 : Option Value), i + m = bcN r → wp G (d + 1) mL_ways P 31 [some (.int (nI a)), some (.int (nI r)), some (.int (nI c)), some (.ref p), some (.int (nI R)), some (.int (nI C)), some (.int (nI 99999)), some (.int (nI 0)), some (.int (nI (C ^ i))), some (.int (nI i)), l10, l11, l12, l13, l14] [] w (0, 0) := by
    intro m
    induction m with
    | zero =>
      intro i l10 l11 l12 l13 l14 hi
      refine qL_ways_31 ?_
      refine qL_ways_33 ?_
      refine qL_ways_34 (Nat.le_of_ble_eq_true rfl) (l_bits (by omega) ?_)
      refine nL_ways_37 (by omega) (by omega) (fun h37 => ?_) (fun h37 => by exfalso; omega)
      refine qL_ways_53 ?_
      refine qL_ways_54 ?_
      rw [show i = bcN r by omega]
      exact LO (C ^ bcN r) 0 99999 0 _ _ _ _ _ (by omega) rfl (Nat.le_refl _) (Nat.le_refl _)
    | succ m ih =>
      intro i l10 l11 l12 l13 l14 hi
      have hci := hCb i (by omega)
      refine qL_ways_31 ?_
      refine qL_ways_33 ?_
      refine qL_ways_34 (Nat.le_of_ble_eq_true rfl) (l_bits (by omega) ?_)
      refine nL_ways_37 (by omega) (by omega) (fun h37 => by exfalso; omega) (fun h37 => ?_)
      refine qL_ways_40 ?_
      refine qL_ways_42 ?_
      first | refine nL_ways_44 ?_ | refine qL_ways_44 ?_
      refine qL_ways_45 ?_
      first | refine nL_ways_47 ?_ | refine qL_ways_47 ?_
      refine qL_ways_50 ?_
      exact ih (i + 1) _ _ _ _ _ (by omega)
  exact LA (bcN r) 0 _ _ _ _ _ (by omega)
end LWAYS
