/-! the law, walked whole -/
section LBODY
variable {G : sG} {d : Nat} {P : sQ} {w : sW} {s : xS} {a : Nat} {f : Nat → Nat} {v : Nat → Int32} {co : Nat → Nat} {se : Nat → Int64} {x y : Int32} {t kd k1 k2 c1 c2 : Nat}
theorem lb_turn (l7 l8 l9 l10 l11 l12 l13 l14 l15 l16 l17 l18 l19 l20 l21 l22 l23 l24 l25 : Option Value) (hL : gL G ≤ 260) (h : jW G w s f v co se) (hf : jF s f) (ht : t < 18) (hk1 : 7 + c1 ≤ k1) (hk2 : 63 + c2 ≤ k2) (K : ∀ w2 s2 f2 v2 co2 se2 j1 j2 (l7 l8 l9 l10 l11 l12 l13 l14 l15 l16 l17 l18 l19 l20 l21 l22 l23 l24 l25 : Option Value), jW G w2 s2 f2 v2 co2 se2 → jF s2 f2 → c1 ≤ j1 → c2 ≤ j2 → wp G (d + 17) m_law P 2118 [some (.ref (gb G)), some (.ref (gB G)), some (.ref (gB G + 92)), some (.ref (gB G + 93)), some (.ref (gB G + 94)), some (.ref (gB G + 95)), some (.int (nI t)), l7, l8, l9, l10, l11, l12, l13, l14, l15, l16, l17, l18, l19, l20, l21, l22, l23, l24, l25] [] w2 (j1, j2)) : wp G (d + 17) m_law P 72 [some (.ref (gb G)), some (.ref (gB G)), some (.ref (gB G + 92)), some (.ref (gB G + 93)), some (.ref (gB G + 94)), some (.ref (gB G + 95)), some (.int (nI t)), l7, l8, l9, l10, l11, l12, l13, l14, l15, l16, l17, l18, l19, l20, l21, l22, l23, l24, l25] [] w (k1, k2) := by
  have hp := h.2.1
  -- behind the act
  have TL : ∀ kd xx yy aa, kd < 11 → aa < 3 → ∀ w2 s2 f2 v2 co2 se2 j1 j2 (l12 l13 l14 l15 l16 l17 l18 l19 l20 l21 l22 l23 l24 l25 : Option Value), jW G w2 s2 f2 v2 co2 se2 → jF s2 f2 → 6 + c1 ≤ j1 → 54 + c2 ≤ j2 → wp G (d + 17) m_law P 1775 [some (.ref (gb G)), some (.ref (gB G)), some (.ref (gB G + 92)), some (.ref (gB G + 93)), some (.ref (gB G + 94)), some (.ref (gB G + 95)), some (.int (nI t)), some (.int (xx)), some (.int (yy)), some (.int (nI kd)), some (.int (nI aa)), some (.int (nI (12 * aa))), l12, l13, l14, l15, l16, l17, l18, l19, l20, l21, l22, l23, l24, l25] [] w2 (j1, j2) := by
    intro kd xx yy aa hkd haa w2 s2 f2 v2 co2 se2 j1 j2 l12 l13 l14 l15 l16 l17 l18 l19 l20 l21 l22 l23 l24 l25 h2 hf2 g1 g2
    refine lt1 _ _ _ _ _ _ _ _ _ _ _ _ _ _ h2 hf2 haa ht hkd g1 g2 (fun w3 f3 v3 co3 se3 i1 i2 _ h3 hf3 b1 b2 => ?_)
    refine lt2 _ _ _ _ _ _ _ _ _ _ _ _ _ _ h3 hf3 haa ht hkd (fun w4 v4 co4 se4 _ _ _ _ _ _ _ _ _ h4 => ?_)
    exact K w4 s2 f3 v4 co4 se4 i1 i2 _ _ _ _ _ _ _ _ _ _ _ _ _ _ _ _ _ _ _ h4 hf3 b1 b2
  refine qL_law_72 ?_
  refine qL_law_73 ?_
  refine qL_law_74 ?_
  first | refine nL_law_76 ?_ | refine qL_law_76 ?_
  refine qL_law_77 (Nat.le_of_ble_eq_true rfl) (l_cell hL (by omega) (fun xx => ?_))
  refine qL_law_80 ?_
  refine qL_law_82 ?_
  refine qL_law_83 ?_
  refine qL_law_84 ?_
  first | refine nL_law_86 ?_ | refine qL_law_86 ?_
  refine qL_law_87 ?_
  first | refine nL_law_88 ?_ | refine qL_law_88 ?_
  refine qL_law_89 (Nat.le_of_ble_eq_true rfl) (l_cell hL (by omega) (fun yy => ?_))
  refine qL_law_92 ?_
  refine qL_law_94 ?_
  refine qL_law_96 ?_
  have KB : ∀ kd aa, kd < 11 → aa < 3 → wp G (d + 17) m_law P 132 [some (.ref (gb G)), some (.ref (gB G)), some (.ref (gB G + 92)), some (.ref (gB G + 93)), some (.ref (gB G + 94)), some (.ref (gB G + 95)), some (.int (nI t)), some (.int (xx)), some (.int (yy)), some (.int (nI kd)), l10, l11, l12, l13, l14, l15, l16, l17, l18, l19, l20, l21, l22, l23, l24, l25] [.int (nI aa)] w (k1, k2) := by
    intro kd aa hkd haa
    have hlv := h.lV hf haa
    obtain ⟨_, _, hR, hC, hE, hd, h9, h999⟩ := id hlv
    have hR3 := (hf.2 aa haa).2.2.2.1
    have d1 := hd.1
    have d2 := hd.2.1
    have d3 := hd.2.2.1
    have d4 := hd.2.2.2.1
    have hn1 : 1 ≤ (lA s aa).1 * (lA s aa).2.1 := Nat.mul_pos d1 d3
    have TLA := TL kd xx yy aa hkd haa
    refine qL_law_132 ?_
    refine qL_law_134 ?_
    refine qL_law_136 ?_
    first | refine nL_law_138 ?_ | refine qL_law_138 ?_
    refine qL_law_139 ?_
    refine qL_law_141 ?_
    refine qL_law_143 ?_
    refine qL_law_144 ?_
    refine qL_law_145 ?_
    refine qL_law_147 ?_
    refine qL_law_148 (Nat.le_of_ble_eq_true rfl) (l_many hlv ?_)
    refine qL_law_151 (Nat.le_of_ble_eq_true rfl) (l_low hn1 (by omega) (fun k hk => ?_))
    refine qL_law_154 ?_
    refine qL_law_156 ?_
    refine qL_law_158 ?_
    refine qL_law_160 ?_
    refine qL_law_161 ?_
    refine qL_law_162 (Nat.le_of_ble_eq_true rfl) (l_low (by decide) (by decide) (fun ρ hρ => ?_))
    have KD : ∀ b : Bool, wp G (d + 17) m_law P 193 [some (.ref (gb G)), some (.ref (gB G)), some (.ref (gB G + 92)), some (.ref (gB G + 93)), some (.ref (gB G + 94)), some (.ref (gB G + 95)), some (.int (nI t)), some (.int (xx)), some (.int (yy)), some (.int (nI kd)), some (.int (nI aa)), some (.int (nI (12 * aa))), some (.int (nI k)), some (.int (nI (bN b))), l14, l15, l16, l17, l18, l19, l20, l21, l22, l23, l24, l25] [.int (nI (lnN b (lA s aa).1 (lA s aa).2.1))] w (k1, k2) := by
      intro b
      have hl1 : 1 ≤ lnN b (lA s aa).1 (lA s aa).2.1 := by
        cases b
        · exact d3
        · exact d1
      have hl4 : lnN b (lA s aa).1 (lA s aa).2.1 ≤ 4 := by
        cases b
        · exact d4
        · exact d2
      refine qL_law_193 ?_
      refine qL_law_195 ?_
      refine qL_law_197 ?_
      refine qL_law_199 ?_
      refine qL_law_200 ?_
      refine qL_law_202 (Nat.le_of_ble_eq_true rfl) (l_low hl1 (by omega) (fun line hline => ?_))
      refine qL_law_205 ?_
      refine qL_law_207 ?_
      refine qL_law_209 ?_
      refine nL_law_210 (by omega) (by omega) (fun h210 => ?_) (fun h210 => ?_)
      · refine qL_law_451 ?_
        refine qL_law_453 ?_
        refine nL_law_454 (by omega) (by omega) (fun h454 => ?_) (fun h454 => ?_)
        · refine qL_law_538 ?_
          refine qL_law_540 ?_
          refine nL_law_541 (by omega) (by omega) (fun h541 => ?_) (fun h541 => ?_)
          · refine qL_law_790 ?_
            refine qL_law_792 ?_
            refine nL_law_794 (by omega) (by omega) (fun h794 => ?_) (fun h794 => ?_)
            · refine qL_law_997 ?_
              refine qL_law_999 ?_
              refine nL_law_1001 (by omega) (by omega) (fun h1001 => ?_) (fun h1001 => ?_)
              · refine qL_law_1140 ?_
                refine qL_law_1142 ?_
                refine nL_law_1144 (by omega) (by omega) (fun h1144 => ?_) (fun h1144 => ?_)
                · refine qL_law_1178 ?_
                  refine qL_law_1180 ?_
                  refine nL_law_1182 (by omega) (by omega) (fun h1182 => ?_) (fun h1182 => ?_)
                  · exact la_close _ _ _ _ _ _ _ _ _ _ _ _ _ _ h hf haa ht (c1 := 6 + c1) (c2 := 54 + c2) (by omega) (by omega) TLA
                  · refine la_prod _ _ _ _ _ _ _ _ _ _ _ _ _ _ h hf haa ht (c1 := 6 + c1) (c2 := 54 + c2) (by omega) (by omega) (fun w2 j1 j2 l12 l13 l14 l15 l16 l17 l18 l19 l20 l21 l22 l23 l24 l25 h2 g1 g2 => ?_) TLA
                    exact K w2 s f v co se j1 j2 _ _ _ _ _ _ _ _ _ _ _ _ _ _ _ _ _ _ _ h2 hf (by omega) (by omega)
                · exact la_turn _ _ _ _ _ _ _ _ _ _ _ _ _ _ h hf haa ht (c1 := 6 + c1) (c2 := 54 + c2) (by omega) (by omega) TLA
              · exact la_drop _ _ _ _ _ _ _ _ _ _ _ h hf haa ht hline (c1 := 6 + c1) (c2 := 54 + c2) (by omega) (by omega) TLA
            · exact la_exch _ _ _ _ _ _ _ _ _ _ _ h hf haa ht hline (c1 := 6 + c1) (c2 := 54 + c2) (by omega) (by omega) TLA
          · exact la_raise _ _ _ _ _ _ _ _ _ _ _ _ h hf haa ht hline (c1 := 6 + c1) (c2 := 54 + c2) (by omega) (by omega) TLA
        · exact la_set _ _ _ _ _ _ _ _ _ _ _ _ _ h hf haa ht hk (c1 := 6 + c1) (c2 := 54 + c2) (by omega) (by omega) TLA
      · exact la_load _ _ _ _ _ _ _ _ _ _ _ _ _ _ h hf haa ht (c1 := 6 + c1) (c2 := 54 + c2) (by omega) (by omega) TLA
    refine nL_law_165 (by omega) (fun h165 => ?_) (fun h165 => ?_)
    · refine qL_law_172 ?_
      refine qL_law_173 ?_
      refine qL_law_175 ?_
      refine nL_law_177 (by omega) (fun h177 => ?_) (fun h177 => by exfalso; omega)
      refine qL_law_187 ?_
      refine qL_law_188 ?_
      refine qL_law_190 ?_
      first | refine nL_law_191 ?_ | refine qL_law_191 ?_
      first | refine fL_law_192 (by assumption) (by omega) (by decide) ?_ | refine nL_law_192 (by assumption) (by omega) (by decide) ?_
      rw [hC]
      exact KD false
    · refine qL_law_168 ?_
      refine qL_law_169 ?_
      refine qL_law_173 ?_
      refine qL_law_175 ?_
      refine nL_law_177 (by omega) (fun h177 => by exfalso; omega) (fun h177 => ?_)
      refine qL_law_180 ?_
      refine qL_law_181 ?_
      first | refine fL_law_183 (by assumption) (by omega) (by decide) ?_ | refine nL_law_183 (by assumption) (by omega) (by decide) ?_
      rw [hR]
      refine qL_law_184 ?_
      exact KD true
  have KA : ∀ kd, kd < 11 → wp G (d + 17) m_law P 111 [some (.ref (gb G)), some (.ref (gB G)), some (.ref (gB G + 92)), some (.ref (gB G + 93)), some (.ref (gB G + 94)), some (.ref (gB G + 95)), some (.int (nI t)), some (.int (xx)), some (.int (yy)), l9, l10, l11, l12, l13, l14, l15, l16, l17, l18, l19, l20, l21, l22, l23, l24, l25] [.int (nI kd)] w (k1, k2) := by
    intro kd hkd
    refine qL_law_111 ?_
    refine qL_law_113 ?_
    refine qL_law_115 ?_
    refine nL_law_116 (by omega) (by omega) (fun h116 => ?_) (fun h116 => ?_)
    · refine qL_law_124 ?_
      refine qL_law_126 ?_
      refine qL_law_127 ?_
      refine qL_law_128 ?_
      refine qL_law_129 (Nat.le_of_ble_eq_true rfl) (l_low (by decide) (by decide) (fun aa haa => ?_))
      exact KB kd aa hkd haa
    · refine qL_law_119 ?_
      refine qL_law_121 ?_
      exact KB kd t hkd h116
  refine nL_law_97 (by omega) (by omega) (fun h97 => ?_) (fun h97 => ?_)
  · refine qL_law_104 ?_
    refine qL_law_106 ?_
    refine qL_law_108 (Nat.le_of_ble_eq_true rfl) (l_low (by decide) (by decide) (fun kd hkd => ?_))
    exact KA kd hkd
  · refine qL_law_100 ?_
    refine qL_law_101 ?_
    exact KA 0 (by decide)
theorem lb_loop (hL : gL G ≤ 260) : ∀ m t w s f v co se k1 k2 (l7 l8 l9 l10 l11 l12 l13 l14 l15 l16 l17 l18 l19 l20 l21 l22 l23 l24 l25 : Option Value), t + m = 18 → jW G w s f v co se → jF s f → 7 * m ≤ k1 → 63 * m ≤ k2 → wp G (d + 17) m_law (fun r _ => r = some (.int 1)) 65 [some (.ref (gb G)), some (.ref (gB G)), some (.ref (gB G + 92)), some (.ref (gB G + 93)), some (.ref (gB G + 94)), some (.ref (gB G + 95)), some (.int (nI t)), l7, l8, l9, l10, l11, l12, l13, l14, l15, l16, l17, l18, l19, l20, l21, l22, l23, l24, l25] [] w (k1, k2) := by
  intro m
  induction m with
  | zero =>
    intro t w s f v co se k1 k2 l7 l8 l9 l10 l11 l12 l13 l14 l15 l16 l17 l18 l19 l20 l21 l22 l23 l24 l25 ht h hf g1 g2
    refine qL_law_65 ?_
    refine qL_law_67 ?_
    refine nL_law_69 (by omega) (by omega) (fun h69 => ?_) (fun h69 => by exfalso; omega)
    refine qL_law_2124 ?_
    refine qL_law_2125 rfl ?_
    rfl
  | succ m ih =>
    intro t w s f v co se k1 k2 l7 l8 l9 l10 l11 l12 l13 l14 l15 l16 l17 l18 l19 l20 l21 l22 l23 l24 l25 ht h hf g1 g2
    refine qL_law_65 ?_
    refine qL_law_67 ?_
    refine nL_law_69 (by omega) (by omega) (fun h69 => by exfalso; omega) (fun h69 => ?_)
    refine lb_turn _ _ _ _ _ _ _ _ _ _ _ _ _ _ _ _ _ _ _ hL h hf (by omega) (c1 := 7 * m) (c2 := 63 * m) (by omega) (by omega) (fun w2 s2 f2 v2 co2 se2 j1 j2 l7 l8 l9 l10 l11 l12 l13 l14 l15 l16 l17 l18 l19 l20 l21 l22 l23 l24 l25 h2 hf2 b1 b2 => ?_)
    first | refine nL_law_2118 ?_ | refine qL_law_2118 ?_
    refine qL_law_2121 ?_
    exact ih (t + 1) w2 s2 f2 v2 co2 se2 j1 j2 _ _ _ _ _ _ _ _ _ _ _ _ _ _ _ _ _ _ _ (by omega) h2 hf2 b1 b2
theorem law_wp {w0 : sW} (hw : w0.2 = 0) (G : sG) (hL : gL G ≤ 260) : wp G 17 m_law (fun r _ => r = some (.int 1)) 0 [some (.ref (gb G)), none, none, none, none, none, none, none, none, none, none, none, none, none, none, none, none, none, none, none, none, none, none, none, none, none] [] w0 (600000, 7302250) := by
  refine qL_law_0 (k1 := 599999) (k2 := 7302239) ?_
  rw [hw, Nat.add_zero]
  generalize hu1 : s_new w0 _ _ = u1
  have b1 : u1.1 (gB G) = ob 8 [.null, .null, .null, .null, .null, .null, .null, .null, .null, .null, .null] := by rw [← hu1]; simp only [s_new, if_true]
  have n1 : u1.2 = 1 := by rw [← hu1]; exact congrArg (· + 1) hw
  refine qL_law_3 rfl ?_
  refine qL_law_4 (k1 := 91) (k2 := 720) (j1 := 599908) (j2 := 7301519) (Nat.le_of_ble_eq_true rfl) (t_init9 n1 b1 (fun w2 n2 h2 => ⟨?_, rfl⟩))
  refine qL_law_7 ?_
  refine qL_law_8 ?_
  refine qL_law_10 (k1 := 599907) (k2 := 7301483) (by decide) ?_
  rw [n2]
  generalize hu3 : s_new w2 _ _ = u3
  have n3 : u3.2 = 93 := by rw [← hu3]; exact congrArg (· + 1) n2
  refine qL_law_12 ?_
  refine qL_law_13 ?_
  refine qL_law_14 (k1 := 599906) (k2 := 7301479) (by decide) ?_
  rw [n3]
  generalize hu4 : s_new u3 _ _ = u4
  have n4 : u4.2 = 94 := by rw [← hu4]; exact congrArg (· + 1) n3
  refine qL_law_16 ?_
  refine qL_law_17 ?_
  refine qL_law_19 (k1 := 599905) (k2 := 7301470) (by decide) ?_
  rw [n4]
  generalize hu5 : s_new u4 _ _ = u5
  have n5 : u5.2 = 95 := by rw [← hu5]; exact congrArg (· + 1) n4
  refine qL_law_21 ?_
  refine qL_law_23 ?_
  refine qL_law_25 (k1 := 599904) (k2 := 7301462) (by decide) ?_
  rw [n5]
  generalize hu6 : s_new u5 _ _ = u6
  have n6 : u6.2 = 96 := by rw [← hu6]; exact congrArg (· + 1) n5
  have nw : ∀ (w : sW) (p : Nat) (e : va_E), (s_new w p e).1 p = e := fun w p e => by simp only [s_new, if_true]
  have no : ∀ (w : sW) (p : Nat) (e : va_E) (q : Nat), q ≠ p → (s_new w p e).1 q = w.1 q := fun w p e q hq => by simp only [s_new, if_neg hq]
  have h6 : jW G u6 s0S (fun _ => 0) (fun _ => 0) (fun _ => 0) (fun _ => 0) := by
    refine ⟨?_, ?_, ?_, ?_, ?_, by omega⟩
    · have hF : Fr w2 (u6.1, w2.2) (fun q => gB G + 92 ≤ q) := ⟨rfl, fun q hq => by
        show u6.1 q = w2.1 q
        rw [← hu6, no _ _ _ _ (by omega), ← hu5, no _ _ _ _ (by omega), ← hu4, no _ _ _ _ (by omega), ← hu3, no _ _ _ _ (by omega)]⟩
      exact (h2.fr hF (fun q _ _ => by omega)).w1 rfl
    · rw [← hu6, no _ _ _ _ (by omega), ← hu5, no _ _ _ _ (by omega), ← hu4, no _ _ _ _ (by omega), ← hu3, nw]
      rfl
    · rw [← hu6, no _ _ _ _ (by omega), ← hu5, no _ _ _ _ (by omega), ← hu4, nw]
    · rw [← hu6, no _ _ _ _ (by omega), ← hu5, nw]
      rfl
    · rw [← hu6, nw]
  refine qL_law_27 ?_
  refine qL_law_29 ?_
  refine qL_law_30 ?_
  have LA : ∀ m b w3 f3, b + m = 3 → jW G w3 s0S f3 (fun _ => 0) (fun _ => 0) (fun _ => 0) → (∀ j, j < b → f3 (12 * j) = 1 ∧ f3 (12 * j + 1) = 1) → (∀ j, j < 3 → f3 (12 * j + 2) = 0) → wp G 17 m_law (fun r _ => r = some (.int 1)) 32 [some (.ref (gb G)), some (.ref (gB G)), some (.ref (gB G + 92)), some (.ref (gB G + 93)), some (.ref (gB G + 94)), some (.ref (gB G + 95)), some (.int (nI b)), none, none, none, none, none, none, none, none, none, none, none, none, none, none, none, none, none, none, none] [] w3 (599904, 7301462) := by
    intro m
    induction m with
    | zero =>
      intro b w3 f3 hb h3 q1 q2
      refine qL_law_32 ?_
      refine qL_law_34 ?_
      refine nL_law_35 (by omega) (by omega) (fun h35 => ?_) (fun h35 => by exfalso; omega)
      refine qL_law_62 ?_
      refine qL_law_63 ?_
      refine lb_loop (d := 0) hL 18 0 w3 s0S f3 _ _ _ _ _ _ _ _ _ _ _ _ _ _ _ _ _ _ _ _ _ _ _ _ rfl h3 ⟨okS0, fun a ha => ?_⟩ (by decide) (by decide)
      obtain ⟨e1, e2⟩ := q1 a (by omega)
      refine ⟨e1, e2, fun q hq => ?_, show 1 ≤ 3 by decide, show 1 * 1 ≤ 9 by decide⟩
      have hq : q < 1 * 1 := hq
      rw [show q = 0 by omega]
      exact q2 a ha
    | succ m ih =>
      intro b w3 f3 hb h3 q1 q2
      have hp3 := h3.2.1
      refine qL_law_32 ?_
      refine qL_law_34 ?_
      refine nL_law_35 (by omega) (by omega) (fun h35 => by exfalso; omega) (fun h35 => ?_)
      refine qL_law_38 ?_
      refine qL_law_39 ?_
      refine qL_law_41 ?_
      first | refine nL_law_43 ?_ | refine qL_law_43 ?_
      refine qL_law_44 ?_
      refine fL_law_45 (by assumption) (by omega) (by decide) ?_
      generalize hw4 : s_up w3 (gB G + 92) _ = w4
      have hp4 : w4.1 (gB G + 92) = aN G 36 (updN f3 (12 * b) 1) := by rw [← hw4]; exact s_upS
      have h4 := h3.arr (by rw [← hw4]; exact Fr.rf.up rfl) hp4
      refine qL_law_46 ?_
      refine qL_law_47 ?_
      refine qL_law_49 ?_
      first | refine nL_law_51 ?_ | refine qL_law_51 ?_
      refine qL_law_52 ?_
      first | refine nL_law_53 ?_ | refine qL_law_53 ?_
      refine qL_law_54 ?_
      refine fL_law_55 (by assumption) (by omega) (by decide) ?_
      generalize hw5 : s_up w4 (gB G + 92) _ = w5
      have hp5 : w5.1 (gB G + 92) = aN G 36 (updN (updN f3 (12 * b) 1) (12 * b + 1) 1) := by rw [← hw5]; exact s_upS
      have h5 := h4.arr (by rw [← hw5]; exact Fr.rf.up rfl) hp5
      have o5 : ∀ q, updN (updN f3 (12 * b) 1) (12 * b + 1) 1 q = if q = 12 * b + 1 then 1 else if q = 12 * b then 1 else f3 q := fun _ => rfl
      first | refine nL_law_56 ?_ | refine qL_law_56 ?_
      refine qL_law_59 ?_
      refine ih (b + 1) w5 _ (by omega) h5 (fun j hj => ?_) (fun j hj => ?_)
      · rw [o5, o5]
        by_cases hjb : j = b
        · subst hjb
          rw [if_neg (by omega), if_pos rfl, if_pos rfl]
          exact ⟨rfl, rfl⟩
        · rw [if_neg (by omega), if_neg (by omega), if_neg (by omega), if_neg (by omega)]
          exact q1 j (by omega)
      · rw [o5, if_neg (by omega), if_neg (by omega)]
        exact q2 j hj
  exact LA 3 0 u6 _ rfl h6 (fun j hj => absurd hj (Nat.not_lt_zero j)) (fun _ _ => rfl)
end LBODY
