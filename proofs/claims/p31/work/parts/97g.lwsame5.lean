/-! the law's look at one array: rings -/
def lrS (s : P3) (x : Nat × Nat) : P3 := if x.1 * s.2.2 < s.2.1 * x.2 then (s.1 + 1, x.1, x.2) else (s.1 + 1, s.2.1, s.2.2)
def rm3 (C : Nat) (E : Nat → Nat) (y m : Nat) : List (Nat × Nat) := (List.range' y m).map (fun y => (E (0 * C + y) + E (y * C + (3 - y)) + E ((3 - y) * C + 0), 3))
def rmT (R C : Nat) (E : Nat → Nat) : List (Nat × Nat) := if R = 3 then rm3 C E 1 2 else []
def rmI (C : Nat) (E : Nat → Nat) (i j m : Nat) : List (Nat × Nat) := (List.range' j m).map (fun j => (E (i * C + j) + E (j * C + i), 2))
def rm2 (R C : Nat) (E : Nat → Nat) (i m : Nat) : List (Nat × Nat) := (List.range' i m).flatMap (fun i => rmI C E i (i + 1) (R - (i + 1))) ++ rmT R C E
def rm1 (R C : Nat) (E : Nat → Nat) (i m : Nat) : List (Nat × Nat) := (List.range' i m).map (fun i => (E (i * C + i), 1)) ++ rm2 R C E 0 R
def lrQ (n : Nat) : List (List Nat) := (List.range' 0 n).map (fun i => [i * n + i]) ++ ((List.range' 0 n).flatMap (fun i => (List.range' (i + 1) (n - (i + 1))).map (fun j => [i * n + j, j * n + i])) ++ if n = 3 then (List.range' 1 2).map (fun y => [0 * n + y, y * n + (3 - y), (3 - y) * n + 0]) else [])
def ckQ (n : Nat) : Bool := (rgQ n).isPerm (lrQ n) && (lrQ n).all (fun l => decide (1 ≤ l.length) && decide (l.length ≤ 3)) && decide ((lrQ n).Pairwise (fun l l' => l.length ≤ l'.length)) && decide (1 ≤ (rgQ n).length)
theorem ckQ_ok : ckQ 1 = true ∧ ckQ 2 = true ∧ ckQ 3 = true := by decide +kernel
theorem rm1_Q {n : Nat} {E : Nat → Nat} (h1 : 1 ≤ n) (h3 : n ≤ 3) : rm1 n n E 0 n = (lrQ n).map (slP2 E) := by
  rcases (show n = 1 ∨ n = 2 ∨ n = 3 by omega) with rfl | rfl | rfl
  · simp [rm1, rm2, rmI, rmT, rm3, lrQ, slP2, sumA, List.range']
  · simp [rm1, rm2, rmI, rmT, rm3, lrQ, slP2, sumA, List.range']
  · simp [rm1, rm2, rmI, rmT, rm3, lrQ, slP2, sumA, List.range', Nat.add_assoc]
theorem lrS_eq : ∀ (l : List (Nat × Nat)) (s : P3), s.1 ≠ 0 → l.foldl rgR s = l.foldl lrS s
  | [], _, _ => rfl
  | x :: l, s, hs => by
    have h1 : rgR s x = lrS s x := by
      unfold rgR lrS
      by_cases h : x.1 * s.2.2 < s.2.1 * x.2
      · rw [if_pos (Or.inr h), if_pos h]
      · rw [if_neg (by rintro (q | q); exact hs q; exact h q), if_neg h]
    rw [List.foldl_cons, List.foldl_cons, h1]
    refine lrS_eq l _ ?_
    unfold lrS
    split <;> simp
theorem lr_eq {n : Nat} {E : Nat → Nat} (h1 : 1 ≤ n) (h3 : n ≤ 3) (hE : E 0 < 9999) : (rm1 n n E 0 n).foldl lrS (0, 9999, 1) = rgN n E := by
  have hk : ckQ n = true := by
    obtain ⟨k1, k2, k3⟩ := ckQ_ok
    rcases (show n = 1 ∨ n = 2 ∨ n = 3 by omega) with rfl | rfl | rfl <;> assumption
  simp only [ckQ, Bool.and_eq_true, decide_eq_true_eq, List.all_eq_true] at hk
  obtain ⟨⟨⟨q1, q2⟩, q3⟩, q4⟩ := hk
  have e1 : rgN n E = (rm1 n n E 0 n).foldl rgR (0, 0, 0) := by
    rw [rm1_Q h1 h3]
    unfold rgN
    rw [rgL_Q]
    refine rg_eq ((List.isPerm_iff.mp q1).map _) (fun x hx => ?_) ?_ (by rw [List.length_map]; exact q4)
    · obtain ⟨l, hl, rfl⟩ := List.mem_map.mp hx
      exact q2 l hl
    · rw [List.pairwise_map]
      exact q3
  rw [e1]
  obtain ⟨m, rfl⟩ : ∃ m, n = m + 1 := ⟨n - 1, by omega⟩
  have e2 : ∃ L, rm1 (m + 1) (m + 1) E 0 (m + 1) = (E (0 * (m + 1) + 0), 1) :: L := ⟨_, rfl⟩
  obtain ⟨L, e2⟩ := e2
  rw [e2, List.foldl_cons, List.foldl_cons]
  have e3 : rgR (0, 0, 0) (E (0 * (m + 1) + 0), 1) = (1, E (0 * (m + 1) + 0), 1) := rfl
  have e4 : lrS (0, 9999, 1) (E (0 * (m + 1) + 0), 1) = (1, E (0 * (m + 1) + 0), 1) := by
    unfold lrS
    rw [show 0 * (m + 1) + 0 = 0 by omega]
    simp only
    rw [if_pos (by omega)]
  rw [e3, e4]
  exact (lrS_eq L _ Nat.one_ne_zero).symm
theorem lrS_bd {s : P3} {x : Nat × Nat} (h1 : s.2.1 ≤ 9999) (h2 : s.2.2 ≤ 3) (h3 : x.1 ≤ 9999) (h4 : x.2 ≤ 3) : (lrS s x).2.1 ≤ 9999 ∧ (lrS s x).2.2 ≤ 3 := by
  unfold lrS
  split
  · exact ⟨h3, h4⟩
  · exact ⟨h1, h2⟩
section SM5
variable {G : sG} {d : Nat} {P : sQ} {w : sW} {s : xS} {a : Nat} {f : Nat → Nat} {v : Nat → Int32} {co : Nat → Nat} {se : Nat → Int64} {x : Int32} {κ : Nat × Nat}
theorem sm7 (l9 l10 l11 l12 l13 l14 l15 l16 l17 l18 l19 l20 l21 l22 l23 l24 l25 l26 l27 l28 l29 l30 : Option Value) (h : jW G w s f v co se) (hf : jF s f) (ha : a < 3) (K : ∀ w2, jW G w2 s f v co se → P (some (.int (nI 1))) w2) : wp G (d + 16) mL_same P 939 [some (.ref (gB G)), some (.int (nI a)), some (.int x), some (.ref (gB G + 92)), some (.ref (gB G + 93)), some (.ref (gB G + 94)), some (.ref (gB G + 95)), some (.int (nI (12 * a))), some (.int (nI ((lA s a).1 * (lA s a).2.1))), l9, l10, l11, l12, l13, l14, l15, l16, l17, l18, l19, l20, l21, l22, l23, l24, l25, l26, l27, l28, l29, l30] [] w κ := by
  have hlv := h.lV hf ha
  obtain ⟨hp, _, hR, hC, hE, hd, h9, h999⟩ := id hlv
  have hR3 := (hf.2 a ha).2.2.2.1
  have d1 := hd.1
  refine qL_same_939 ?_
  refine qL_same_940 ?_
  first | refine fL_same_942 (by assumption) (by omega) (by decide) ?_ | refine nL_same_942 (by assumption) (by omega) (by decide) ?_
  refine qL_same_943 ?_
  refine qL_same_944 ?_
  refine qL_same_946 ?_
  first | refine nL_same_947 ?_ | refine qL_same_947 ?_
  first | refine fL_same_948 (by assumption) (by omega) (by decide) ?_ | refine nL_same_948 (by assumption) (by omega) (by decide) ?_
  rw [hR, hC]
  have d4 := hd.2.2.2.1
  refine nL_same_949 (by omega) (by omega) (fun h949 => ?_) (fun h949 => ?_)
  · obtain ⟨r0, r1, r2⟩ := e_ring ha h949
    have hx : ∀ i j, i < (lA s a).1 → j < (lA s a).1 → (lA s a).2.2 (i * (lA s a).2.1 + j) ≤ 999 := fun i j hi hj => h999 _ (hd.in hi (by omega))
    have FIN : ∀ t (l28 l29 l30 : Option Value), t = rgN (lA s a).1 (lA s a).2.2 → wp G (d + 16) mL_same P 1198 [some (.ref (gB G)), some (.int (nI a)), some (.int x), some (.ref (gB G + 92)), some (.ref (gB G + 93)), some (.ref (gB G + 94)), some (.ref (gB G + 95)), some (.int (nI (12 * a))), some (.int (nI ((lA s a).1 * (lA s a).2.1))), l9, l10, l11, l12, l13, l14, l15, l16, l17, l18, l19, l20, l21, l22, l23, l24, some (.int (nI t.1)), some (.int (nI t.2.1)), some (.int (nI t.2.2)), l28, l29, l30] [] w κ := by
      intro t l28 l29 l30 ht
      subst ht
      refine qL_same_1198 ?_
      refine qL_same_1199 ?_
      refine qL_same_1200 ?_
      refine qL_same_1201 (jW.ob h) (Nat.le_of_ble_eq_true rfl) (t_ring h.1 hf.1 (fun w3 hF3 hc3 => ?_))
      have h3 := h.cl hF3 hc3
      rw [r0]
      refine qL_same_1204 ?_
      refine qL_same_1206 (fun h1206 => absurd rfl h1206) (fun h1206 => ?_)
      refine qL_same_1209 ?_
      refine qL_same_1210 ?_
      refine qL_same_1211 ?_
      refine qL_same_1212 (jW.ob h3) (Nat.le_of_ble_eq_true rfl) (t_ring h3.1 hf.1 (fun w4 hF4 hc4 => ?_))
      have h4 := h3.cl hF4 hc4
      rw [r1]
      refine qL_same_1215 ?_
      refine qL_same_1217 (fun h1217 => absurd rfl h1217) (fun h1217 => ?_)
      refine qL_same_1220 ?_
      refine qL_same_1221 ?_
      refine qL_same_1222 ?_
      refine qL_same_1223 (jW.ob h4) (Nat.le_of_ble_eq_true rfl) (t_ring h4.1 hf.1 (fun w5 hF5 hc5 => ?_))
      have h5 := h4.cl hF5 hc5
      rw [r2]
      refine qL_same_1226 ?_
      refine qL_same_1228 (fun h1228 => absurd rfl h1228) (fun h1228 => ?_)
      refine qL_same_1231 ?_
      refine qL_same_1232 ?_
      refine qL_same_1236 rfl ?_
      exact K w5 h5
    -- rings of three
    have L3 : ∀ m y t (l29 l30 : Option Value), y + m = 3 → 1 ≤ y → t.2.1 ≤ 9999 → t.2.2 ≤ 3 → (if (lA s a).1 = 3 then rm3 (lA s a).2.1 (lA s a).2.2 y m else []).foldl lrS t = rgN (lA s a).1 (lA s a).2.2 → wp G (d + 16) mL_same P 1120 [some (.ref (gB G)), some (.int (nI a)), some (.int x), some (.ref (gB G + 92)), some (.ref (gB G + 93)), some (.ref (gB G + 94)), some (.ref (gB G + 95)), some (.int (nI (12 * a))), some (.int (nI ((lA s a).1 * (lA s a).2.1))), l9, l10, l11, l12, l13, l14, l15, l16, l17, l18, l19, l20, l21, l22, l23, l24, some (.int (nI t.1)), some (.int (nI t.2.1)), some (.int (nI t.2.2)), some (.int (nI y)), l29, l30] [] w κ := by
      intro m
      induction m with
      | zero =>
        intro y t l29 l30 hy hy1 b1 b2 hi
        refine qL_same_1120 ?_
        refine qL_same_1122 ?_
        refine nL_same_1123 (by omega) (by omega) (fun h1123 => ?_) (fun h1123 => by exfalso; omega)
        refine FIN t _ _ _ ?_
        rw [← hi]
        split <;> rfl
      | succ m ih =>
        intro y t l29 l30 hy hy1 b1 b2 hi
        refine qL_same_1120 ?_
        refine qL_same_1122 ?_
        refine nL_same_1123 (by omega) (by omega) (fun h1123 => by exfalso; omega) (fun h1123 => ?_)
        refine qL_same_1126 ?_
        refine qL_same_1127 ?_
        first | refine fL_same_1129 (by assumption) (by omega) (by decide) ?_ | refine nL_same_1129 (by assumption) (by omega) (by decide) ?_
        refine qL_same_1130 ?_
        rw [hR]
        refine nL_same_1131 (by omega) (by omega) (fun h1131 => ?_) (fun h1131 => ?_)
        · rw [if_neg h1131] at hi
          exact FIN t _ _ _ hi
        · have x1 := hx 0 y (by omega) (by omega)
          have x2 := hx y (3 - y) (by omega) (by omega)
          have x3 := hx (3 - y) 0 (by omega) (by omega)
          rw [if_pos h1131] at hi
          have hi2 : (rm3 (lA s a).2.1 (lA s a).2.2 (y + 1) m).foldl lrS (lrS t ((lA s a).2.2 (0 * (lA s a).2.1 + y) + (lA s a).2.2 (y * (lA s a).2.1 + (3 - y)) + (lA s a).2.2 ((3 - y) * (lA s a).2.1 + 0), 3)) = rgN (lA s a).1 (lA s a).2.2 := hi
          refine qL_same_1134 ?_
          refine qL_same_1135 ?_
          refine qL_same_1136 ?_
          refine qL_same_1138 ?_
          refine qL_same_1139 (Nat.le_of_ble_eq_true rfl) (l_at hlv (by omega) (by omega) ?_)
          refine qL_same_1142 ?_
          refine qL_same_1143 ?_
          refine qL_same_1145 ?_
          refine qL_same_1146 ?_
          first | refine nL_same_1148 (by omega) ?_ | refine qL_same_1148 ?_
          refine qL_same_1149 ?_
          refine qL_same_1150 (Nat.le_of_ble_eq_true rfl) (l_at hlv (by omega) (by omega) ?_)
          first | refine nL_same_1153 ?_ | refine qL_same_1153 ?_
          refine qL_same_1154 ?_
          refine qL_same_1155 ?_
          refine qL_same_1156 ?_
          first | refine nL_same_1158 (by omega) ?_ | refine qL_same_1158 ?_
          refine qL_same_1159 ?_
          refine qL_same_1160 ?_
          refine qL_same_1161 (Nat.le_of_ble_eq_true rfl) (l_at hlv (by omega) (by omega) ?_)
          first | refine nL_same_1164 ?_ | refine qL_same_1164 ?_
          refine qL_same_1165 ?_
          first | refine nL_same_1167 ?_ | refine qL_same_1167 ?_
          refine qL_same_1170 ?_
          refine qL_same_1172 ?_
          first | refine nL_same_1174 ?_ | refine qL_same_1174 ?_
          refine qL_same_1175 ?_
          refine qL_same_1177 ?_
          first | refine nL_same_1178 ?_ | refine qL_same_1178 ?_
          generalize hby : (lA s a).2.2 (0 * (lA s a).2.1 + y) + (lA s a).2.2 (y * (lA s a).2.1 + (3 - y)) + (lA s a).2.2 ((3 - y) * (lA s a).2.1 + 0) = by3 at *
          have hm1 : by3 * t.2.2 ≤ 2997 * 3 := Nat.mul_le_mul (by omega) b2
          refine nL_same_1179 (by omega) (by omega) (fun h1179 => ?_) (fun h1179 => ?_)
          · have e1 : lrS t (by3, 3) = (t.1 + 1, by3, 3) := by unfold lrS; rw [if_pos h1179]
            rw [e1] at hi2
            refine qL_same_1185 ?_
            refine qL_same_1187 ?_
            refine qL_same_1189 ?_
            refine qL_same_1190 ?_
            first | refine nL_same_1192 ?_ | refine qL_same_1192 ?_
            refine qL_same_1195 ?_
            exact ih (y + 1) (t.1 + 1, by3, 3) _ _ (by omega) (by omega) (show by3 ≤ 9999 by omega) (show 3 ≤ 3 by decide) (by rw [if_pos h1131]; exact hi2)
          · have e1 : lrS t (by3, 3) = (t.1 + 1, t.2.1, t.2.2) := by unfold lrS; rw [if_neg (by simp only; omega)]
            rw [e1] at hi2
            refine qL_same_1182 ?_
            first | refine nL_same_1192 ?_ | refine qL_same_1192 ?_
            refine qL_same_1195 ?_
            exact ih (y + 1) (t.1 + 1, t.2.1, t.2.2) _ _ (by omega) (by omega) b1 b2 (by rw [if_pos h1131]; exact hi2)
    -- rings of two
    have L2 : ∀ m i t (l29 l30 : Option Value), i + m = (lA s a).1 → t.2.1 ≤ 9999 → t.2.2 ≤ 3 → (rm2 (lA s a).1 (lA s a).2.1 (lA s a).2.2 i m).foldl lrS t = rgN (lA s a).1 (lA s a).2.2 → wp G (d + 16) mL_same P 1035 [some (.ref (gB G)), some (.int (nI a)), some (.int x), some (.ref (gB G + 92)), some (.ref (gB G + 93)), some (.ref (gB G + 94)), some (.ref (gB G + 95)), some (.int (nI (12 * a))), some (.int (nI ((lA s a).1 * (lA s a).2.1))), l9, l10, l11, l12, l13, l14, l15, l16, l17, l18, l19, l20, l21, l22, l23, l24, some (.int (nI t.1)), some (.int (nI t.2.1)), some (.int (nI t.2.2)), some (.int (nI i)), l29, l30] [] w κ := by
      intro m
      induction m with
      | zero =>
        intro i t l29 l30 hi b1 b2 hf2
        refine qL_same_1035 ?_
        refine qL_same_1037 ?_
        refine qL_same_1038 ?_
        first | refine fL_same_1040 (by assumption) (by omega) (by decide) ?_ | refine nL_same_1040 (by assumption) (by omega) (by decide) ?_
        rw [hR]
        refine nL_same_1041 (by omega) (by omega) (fun h1041 => ?_) (fun h1041 => by exfalso; omega)
        refine qL_same_1117 ?_
        refine qL_same_1118 ?_
        exact L3 2 1 t _ _ rfl (Nat.le_refl _) b1 b2 hf2
      | succ m ih =>
        intro i t l29 l30 hi b1 b2 hf2
        have hf3 : (rmI (lA s a).2.1 (lA s a).2.2 i (i + 1) ((lA s a).1 - (i + 1)) ++ rm2 (lA s a).1 (lA s a).2.1 (lA s a).2.2 (i + 1) m).foldl lrS t = rgN (lA s a).1 (lA s a).2.2 := by
          rw [← hf2]
          unfold rm2
          rw [List.range'_succ, List.flatMap_cons, List.append_assoc]
        refine qL_same_1035 ?_
        refine qL_same_1037 ?_
        refine qL_same_1038 ?_
        first | refine fL_same_1040 (by assumption) (by omega) (by decide) ?_ | refine nL_same_1040 (by assumption) (by omega) (by decide) ?_
        rw [hR]
        refine nL_same_1041 (by omega) (by omega) (fun h1041 => by exfalso; omega) (fun h1041 => ?_)
        refine qL_same_1044 ?_
        refine qL_same_1046 ?_
        first | refine nL_same_1047 ?_ | refine qL_same_1047 ?_
        refine qL_same_1048 ?_
        have LJ : ∀ m2 j t (l30 : Option Value), j + m2 = (lA s a).1 → i < j → t.2.1 ≤ 9999 → t.2.2 ≤ 3 → (rmI (lA s a).2.1 (lA s a).2.2 i j m2 ++ rm2 (lA s a).1 (lA s a).2.1 (lA s a).2.2 (i + 1) m).foldl lrS t = rgN (lA s a).1 (lA s a).2.2 → wp G (d + 16) mL_same P 1050 [some (.ref (gB G)), some (.int (nI a)), some (.int x), some (.ref (gB G + 92)), some (.ref (gB G + 93)), some (.ref (gB G + 94)), some (.ref (gB G + 95)), some (.int (nI (12 * a))), some (.int (nI ((lA s a).1 * (lA s a).2.1))), l9, l10, l11, l12, l13, l14, l15, l16, l17, l18, l19, l20, l21, l22, l23, l24, some (.int (nI t.1)), some (.int (nI t.2.1)), some (.int (nI t.2.2)), some (.int (nI i)), some (.int (nI j)), l30] [] w κ := by
          intro m2
          induction m2 with
          | zero =>
            intro j t l30 hj hij b1 b2 hf4
            refine qL_same_1050 ?_
            refine qL_same_1052 ?_
            refine qL_same_1053 ?_
            first | refine fL_same_1055 (by assumption) (by omega) (by decide) ?_ | refine nL_same_1055 (by assumption) (by omega) (by decide) ?_
            rw [hR]
            refine nL_same_1056 (by omega) (by omega) (fun h1056 => ?_) (fun h1056 => by exfalso; omega)
            first | refine nL_same_1111 ?_ | refine qL_same_1111 ?_
            refine qL_same_1114 ?_
            exact ih (i + 1) t _ _ (by omega) b1 b2 hf4
          | succ m2 ih2 =>
            intro j t l30 hj hij b1 b2 hf4
            have x1 := hx i j (by omega) (by omega)
            have x2 := hx j i (by omega) (by omega)
            have hf5 : (rmI (lA s a).2.1 (lA s a).2.2 i (j + 1) m2 ++ rm2 (lA s a).1 (lA s a).2.1 (lA s a).2.2 (i + 1) m).foldl lrS (lrS t ((lA s a).2.2 (i * (lA s a).2.1 + j) + (lA s a).2.2 (j * (lA s a).2.1 + i), 2)) = rgN (lA s a).1 (lA s a).2.2 := hf4
            refine qL_same_1050 ?_
            refine qL_same_1052 ?_
            refine qL_same_1053 ?_
            first | refine fL_same_1055 (by assumption) (by omega) (by decide) ?_ | refine nL_same_1055 (by assumption) (by omega) (by decide) ?_
            rw [hR]
            refine nL_same_1056 (by omega) (by omega) (fun h1056 => by exfalso; omega) (fun h1056 => ?_)
            refine qL_same_1059 ?_
            refine qL_same_1060 ?_
            refine qL_same_1062 ?_
            refine qL_same_1064 ?_
            refine qL_same_1065 (Nat.le_of_ble_eq_true rfl) (l_at hlv (by omega) (by omega) ?_)
            refine qL_same_1068 ?_
            refine qL_same_1069 ?_
            refine qL_same_1071 ?_
            refine qL_same_1073 ?_
            refine qL_same_1074 (Nat.le_of_ble_eq_true rfl) (l_at hlv (by omega) (by omega) ?_)
            first | refine nL_same_1077 ?_ | refine qL_same_1077 ?_
            refine qL_same_1078 ?_
            first | refine nL_same_1080 ?_ | refine qL_same_1080 ?_
            refine qL_same_1083 ?_
            refine qL_same_1085 ?_
            first | refine nL_same_1087 ?_ | refine qL_same_1087 ?_
            refine qL_same_1088 ?_
            refine qL_same_1090 ?_
            first | refine nL_same_1091 ?_ | refine qL_same_1091 ?_
            generalize hby : (lA s a).2.2 (i * (lA s a).2.1 + j) + (lA s a).2.2 (j * (lA s a).2.1 + i) = by2 at *
            have hm1 : by2 * t.2.2 ≤ 1998 * 3 := Nat.mul_le_mul (by omega) b2
            refine nL_same_1092 (by omega) (by omega) (fun h1092 => ?_) (fun h1092 => ?_)
            · have e1 : lrS t (by2, 2) = (t.1 + 1, by2, 2) := by unfold lrS; rw [if_pos h1092]
              rw [e1] at hf5
              refine qL_same_1098 ?_
              refine qL_same_1100 ?_
              refine qL_same_1102 ?_
              refine qL_same_1103 ?_
              first | refine nL_same_1105 ?_ | refine qL_same_1105 ?_
              refine qL_same_1108 ?_
              exact ih2 (j + 1) (t.1 + 1, by2, 2) _ (by omega) (by omega) (show by2 ≤ 9999 by omega) (show 2 ≤ 3 by decide) hf5
            · have e1 : lrS t (by2, 2) = (t.1 + 1, t.2.1, t.2.2) := by unfold lrS; rw [if_neg (by simp only; omega)]
              rw [e1] at hf5
              refine qL_same_1095 ?_
              first | refine nL_same_1105 ?_ | refine qL_same_1105 ?_
              refine qL_same_1108 ?_
              exact ih2 (j + 1) (t.1 + 1, t.2.1, t.2.2) _ (by omega) (by omega) b1 b2 hf5
        exact LJ ((lA s a).1 - (i + 1)) (i + 1) t _ (by omega) (by omega) b1 b2 hf3
    -- rings of one
    have L1 : ∀ m i t (l29 l30 : Option Value), i + m = (lA s a).1 → t.2.1 ≤ 9999 → t.2.2 ≤ 3 → (rm1 (lA s a).1 (lA s a).2.1 (lA s a).2.2 i m).foldl lrS t = rgN (lA s a).1 (lA s a).2.2 → wp G (d + 16) mL_same P 983 [some (.ref (gB G)), some (.int (nI a)), some (.int x), some (.ref (gB G + 92)), some (.ref (gB G + 93)), some (.ref (gB G + 94)), some (.ref (gB G + 95)), some (.int (nI (12 * a))), some (.int (nI ((lA s a).1 * (lA s a).2.1))), l9, l10, l11, l12, l13, l14, l15, l16, l17, l18, l19, l20, l21, l22, l23, l24, some (.int (nI t.1)), some (.int (nI t.2.1)), some (.int (nI t.2.2)), some (.int (nI i)), l29, l30] [] w κ := by
      intro m
      induction m with
      | zero =>
        intro i t l29 l30 hi b1 b2 hf2
        refine qL_same_983 ?_
        refine qL_same_985 ?_
        refine qL_same_986 ?_
        first | refine fL_same_988 (by assumption) (by omega) (by decide) ?_ | refine nL_same_988 (by assumption) (by omega) (by decide) ?_
        rw [hR]
        refine nL_same_989 (by omega) (by omega) (fun h989 => ?_) (fun h989 => by exfalso; omega)
        refine qL_same_1032 ?_
        refine qL_same_1033 ?_
        exact L2 (lA s a).1 0 t _ _ (by omega) b1 b2 hf2
      | succ m ih =>
        intro i t l29 l30 hi b1 b2 hf2
        have x1 := hx i i (by omega) (by omega)
        have hf5 : (rm1 (lA s a).1 (lA s a).2.1 (lA s a).2.2 (i + 1) m).foldl lrS (lrS t ((lA s a).2.2 (i * (lA s a).2.1 + i), 1)) = rgN (lA s a).1 (lA s a).2.2 := hf2
        refine qL_same_983 ?_
        refine qL_same_985 ?_
        refine qL_same_986 ?_
        first | refine fL_same_988 (by assumption) (by omega) (by decide) ?_ | refine nL_same_988 (by assumption) (by omega) (by decide) ?_
        rw [hR]
        refine nL_same_989 (by omega) (by omega) (fun h989 => by exfalso; omega) (fun h989 => ?_)
        first | refine nL_same_992 ?_ | refine qL_same_992 ?_
        refine qL_same_995 ?_
        refine qL_same_996 ?_
        refine qL_same_998 ?_
        refine qL_same_1000 ?_
        refine qL_same_1001 (Nat.le_of_ble_eq_true rfl) (l_at hlv (by omega) (by omega) ?_)
        refine qL_same_1004 ?_
        first | refine nL_same_1006 ?_ | refine qL_same_1006 ?_
        refine qL_same_1007 ?_
        have hm1 : (lA s a).2.2 (i * (lA s a).2.1 + i) * t.2.2 ≤ 999 * 3 := Nat.mul_le_mul x1 b2
        refine nL_same_1009 (by omega) (by omega) (fun h1009 => ?_) (fun h1009 => ?_)
        · have e1 : lrS t ((lA s a).2.2 (i * (lA s a).2.1 + i), 1) = (t.1 + 1, t.2.1, t.2.2) := by unfold lrS; rw [if_neg (by simp only; omega)]
          rw [e1] at hf5
          first | refine nL_same_1026 ?_ | refine qL_same_1026 ?_
          refine qL_same_1029 ?_
          exact ih (i + 1) (t.1 + 1, t.2.1, t.2.2) _ _ (by omega) b1 b2 hf5
        · have e1 : lrS t ((lA s a).2.2 (i * (lA s a).2.1 + i), 1) = (t.1 + 1, (lA s a).2.2 (i * (lA s a).2.1 + i), 1) := by unfold lrS; rw [if_pos (by simp only; omega)]
          rw [e1] at hf5
          refine qL_same_1012 ?_
          refine qL_same_1013 ?_
          refine qL_same_1015 ?_
          refine qL_same_1017 ?_
          refine qL_same_1018 (Nat.le_of_ble_eq_true rfl) (l_at hlv (by omega) (by omega) ?_)
          refine qL_same_1021 ?_
          refine qL_same_1023 ?_
          refine qL_same_1024 ?_
          first | refine nL_same_1026 ?_ | refine qL_same_1026 ?_
          refine qL_same_1029 ?_
          exact ih (i + 1) (t.1 + 1, (lA s a).2.2 (i * (lA s a).2.1 + i), 1) _ _ (by omega) (show (lA s a).2.2 (i * (lA s a).2.1 + i) ≤ 9999 by omega) (show 1 ≤ 3 by decide) hf5
    refine qL_same_969 ?_
    refine qL_same_970 ?_
    refine qL_same_972 ?_
    refine qL_same_975 ?_
    refine qL_same_977 ?_
    refine qL_same_978 ?_
    refine qL_same_980 ?_
    refine qL_same_981 ?_
    refine L1 (lA s a).1 0 (0, 9999, 1) _ _ (by omega) (by decide) (by decide) ?_
    have e0 := hx 0 0 (by omega) (by omega)
    rw [show 0 * (lA s a).2.1 + 0 = 0 by omega] at e0
    rw [← h949]
    exact lr_eq d1 hR3 (by omega)
  · refine qL_same_952 ?_
    refine qL_same_953 ?_
    refine qL_same_954 ?_
    refine qL_same_955 (jW.ob h) (Nat.le_of_ble_eq_true rfl) (t_ring h.1 hf.1 (fun w3 hF3 hc3 => ?_))
    rw [e_ringN ha h949]
    refine qL_same_958 ?_
    refine qL_same_960 (fun h960 => absurd rfl h960) (fun h960 => ?_)
    refine qL_same_963 ?_
    refine qL_same_964 ?_
    refine qL_same_968 rfl ?_
    exact K w3 (h.cl hF3 hc3)
end SM5
