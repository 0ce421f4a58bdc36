/-! the class's constructor -/
def Fx (w w' : sW) (b p : Nat) : Prop := ∀ q, q ≠ b → q < p → w'.1 q = w.1 q
theorem Fx.tr {w w' w'' : sW} {b p p' : Nat} (h : Fx w w' b p) (h2 : Fx w' w'' b p') (hp : p ≤ p') : Fx w w'' b p := fun q hq hl => (h2 q hq (by omega)).trans (h q hq hl)
theorem Fx.fr {w w' : sW} {b p : Nat} (h : Fx w w' b p) : Fr (w.1, w'.2) w' (fun q => q = b ∨ p ≤ q) := ⟨rfl, fun q hq => h q (fun z => hq (Or.inl z)) (by omega)⟩
theorem Fx.up {w u : sW} {b p : Nat} {e : va_E} (h : Lo w u p) : Fx w (s_up u b e) b p := fun q hq hl => by rw [s_upN hq]; exact h q hl
def s0S : xS := (fun _ => (1, 1, fun _ => 0), [], fun _ _ => (1, 1, fun _ => 0), fun _ => false, 0, fun _ => 0)
theorem okS0 : okS s0S := by
  have h1 : okV (1, 1, fun _ => 0) := ⟨⟨by decide, by decide, by decide, by decide, by decide⟩, fun _ _ => Nat.zero_le _⟩
  exact ⟨fun _ _ => h1, Nat.zero_le _, fun t ht => by simp [s0S, lH] at ht, fun j _ h => by simp [s0S, lv] at h, Nat.zero_le _, fun k hk => absurd hk (Nat.not_lt_zero k)⟩
section INIT9
variable {G : sG} {d : Nat} {P : sQ} {w : sW}
set_option maxHeartbeats 1000000 in
theorem t_init9 (hw : w.2 = 1) (hb : w.1 (gB G) = ob 8 [.null, .null, .null, .null, .null, .null, .null, .null, .null, .null, .null]) (k : ∀ w', w'.2 = 92 → clAt G w' (gB G) s0S → P none w') : wpM G (d + 4) yX9_init (91, 720) [.ref (gB G)] w P := by
  refine eX9_init ?_
  have n0 : w.2 = 1 := hw
  have b0 := hb
  refine qX9_init_0 ?_
  refine qX9_init_1 (Nat.le_of_ble_eq_true rfl) ?_
  refine qX9_init_4 ?_
  refine qX9_init_5 (k1 := 90) (k2 := 719) ?_
  rw [n0]
  generalize hu1 : s_new w _ _ = u1
  have bu1 : u1.1 (gB G + 1) = ob 6 [.null] := by rw [← hu1]; exact s_newS
  have Lu1 : Lo w u1 (gB G + 1) := by rw [← hu1]; exact Lo.rf.nw (by omega)
  have nu1 : u1.2 = 1 + 1 := by rw [← hu1]; exact congrArg (· + 1) n0
  refine qX9_init_8 rfl ?_
  refine qX9_init_9 (k1 := 7) (k2 := 48) (j1 := 83) (j2 := 671) (Nat.le_of_ble_eq_true rfl) (t_sInit nu1 bu1 (fun v1 nv1 Lv1 g1 => ⟨?_, rfl⟩))
  have LL1 : Lo w v1 (gB G + 1) := Lu1.tr Lv1 (Nat.le_refl _)
  have bv1 : v1.1 (gB G) = ob 8 [.null, .null, .null, .null, .null, .null, .null, .null, .null, .null, .null] := by rw [LL1 _ (by omega)]; exact b0
  refine qX9_init_12 (by assumption) ?_
  generalize hw1 : s_up v1 (gB G) _ = w1
  have b1 : w1.1 (gB G) = ob 8 [.ref (gB G + 1), .null, .null, .null, .null, .null, .null, .null, .null, .null, .null] := by rw [← hw1]; exact s_upS
  have n1 : w1.2 = 9 := by rw [← hw1]; exact nv1
  have X1 : Fx w w1 (gB G) (gB G + 1) := by rw [← hw1]; exact Fx.up LL1
  have Y1 : Fr v1 w1 (fun q => q = gB G) := by rw [← hw1]; exact Fr.rf.up rfl
  have f1 : stAt G w1 (gB G + 1) (fun _ => (1, 1, fun _ => 0)) := g1.fr Y1 (fun q a1 a2 => by omega)
  refine qX9_init_15 ?_
  refine qX9_init_16 (k1 := 82) (k2 := 668) ?_
  rw [n1]
  generalize hu2 : s_new w1 _ _ = u2
  have bu2 : u2.1 (gB G + 9) = ob 2 [.null, .int 0, .int 0] := by rw [← hu2]; exact s_newS
  have Lu2 : Lo w1 u2 (gB G + 9) := by rw [← hu2]; exact Lo.rf.nw (by omega)
  have nu2 : u2.2 = 9 + 1 := by rw [← hu2]; exact congrArg (· + 1) n1
  refine qX9_init_19 rfl ?_
  refine qX9_init_20 (k1 := 49) (k2 := 300) (j1 := 33) (j2 := 368) (Nat.le_of_ble_eq_true rfl) (t_hInit nu2 bu2 (fun v2 nv2 Lv2 g2 => ⟨?_, rfl⟩))
  have LL2 : Lo w1 v2 (gB G + 9) := Lu2.tr Lv2 (Nat.le_refl _)
  have bv2 : v2.1 (gB G) = ob 8 [.ref (gB G + 1), .null, .null, .null, .null, .null, .null, .null, .null, .null, .null] := by rw [LL2 _ (by omega)]; exact b1
  refine qX9_init_23 (by assumption) ?_
  generalize hw2 : s_up v2 (gB G) _ = w2
  have b2 : w2.1 (gB G) = ob 8 [.ref (gB G + 1), .ref (gB G + 9), .null, .null, .null, .null, .null, .null, .null, .null, .null] := by rw [← hw2]; exact s_upS
  have n2 : w2.2 = 59 := by rw [← hw2]; exact nv2
  have X2 : Fx w1 w2 (gB G) (gB G + 9) := by rw [← hw2]; exact Fx.up LL2
  have Y2 : Fr v2 w2 (fun q => q = gB G) := by rw [← hw2]; exact Fr.rf.up rfl
  have f2 : hsAt G w2 (gB G + 9) 0 0 (fun _ _ => (1, 1, fun _ => 0)) := g2.fr Y2 (fun q a1 a2 => by omega)
  refine qX9_init_26 ?_
  refine qX9_init_27 ?_
  refine qX9_init_28 (k1 := 32) (k2 := 366) (by decide) ?_
  rw [n2]
  generalize hu3 : s_new w2 _ _ = u3
  have bu3 : u3.1 (gB G + 59) = aQ G 5 2 (fun _ => none) := by rw [← hu3]; exact s_newS
  have Lu3 : Lo w2 u3 (gB G + 59) := by rw [← hu3]; exact Lo.rf.nw (by omega)
  have nu3 : u3.2 = 59 + 1 := by rw [← hu3]; exact congrArg (· + 1) n2
  have LL3 := Lu3
  have nv3 := nu3
  have g3 := bu3
  have bv3 : u3.1 (gB G) = ob 8 [.ref (gB G + 1), .ref (gB G + 9), .null, .null, .null, .null, .null, .null, .null, .null, .null] := by rw [LL3 _ (by omega)]; exact b2
  refine qX9_init_31 (by assumption) ?_
  generalize hw3 : s_up u3 (gB G) _ = w3
  have b3 : w3.1 (gB G) = ob 8 [.ref (gB G + 1), .ref (gB G + 9), .ref (gB G + 59), .null, .null, .null, .null, .null, .null, .null, .null] := by rw [← hw3]; exact s_upS
  have n3 : w3.2 = 60 := by rw [← hw3]; exact nv3
  have X3 : Fx w2 w3 (gB G) (gB G + 59) := by rw [← hw3]; exact Fx.up LL3
  have Y3 : Fr u3 w3 (fun q => q = gB G) := by rw [← hw3]; exact Fr.rf.up rfl
  have f3 : w3.1 (gB G + 59) = aQ G 5 2 (fun _ => none) := by rw [Y3.2 _ (by omega)]; exact g3
  refine qX9_init_34 ?_
  refine qX9_init_35 ?_
  refine qX9_init_36 (k1 := 31) (k2 := 364) (by decide) ?_
  rw [n3]
  generalize hu4 : s_new w3 _ _ = u4
  have bu4 : u4.1 (gB G + 60) = aZ G 2 (fun _ => 0) := by rw [← hu4]; exact s_newS
  have Lu4 : Lo w3 u4 (gB G + 60) := by rw [← hu4]; exact Lo.rf.nw (by omega)
  have nu4 : u4.2 = 60 + 1 := by rw [← hu4]; exact congrArg (· + 1) n3
  have LL4 := Lu4
  have nv4 := nu4
  have g4 := bu4
  have bv4 : u4.1 (gB G) = ob 8 [.ref (gB G + 1), .ref (gB G + 9), .ref (gB G + 59), .null, .null, .null, .null, .null, .null, .null, .null] := by rw [LL4 _ (by omega)]; exact b3
  refine qX9_init_38 (by assumption) ?_
  generalize hw4 : s_up u4 (gB G) _ = w4
  have b4 : w4.1 (gB G) = ob 8 [.ref (gB G + 1), .ref (gB G + 9), .ref (gB G + 59), .ref (gB G + 60), .null, .null, .null, .null, .null, .null, .null] := by rw [← hw4]; exact s_upS
  have n4 : w4.2 = 61 := by rw [← hw4]; exact nv4
  have X4 : Fx w3 w4 (gB G) (gB G + 60) := by rw [← hw4]; exact Fx.up LL4
  have Y4 : Fr u4 w4 (fun q => q = gB G) := by rw [← hw4]; exact Fr.rf.up rfl
  have f4 : w4.1 (gB G + 60) = aZ G 2 (fun _ => 0) := by rw [Y4.2 _ (by omega)]; exact g4
  refine qX9_init_41 ?_
  refine qX9_init_42 (k1 := 30) (k2 := 358) ?_
  rw [n4]
  generalize hu5 : s_new w4 _ _ = u5
  have bu5 : u5.1 (gB G + 61) = ob 3 [.null, .int 0, .int 0, .int 0, .int 0, .int 0] := by rw [← hu5]; exact s_newS
  have Lu5 : Lo w4 u5 (gB G + 61) := by rw [← hu5]; exact Lo.rf.nw (by omega)
  have nu5 : u5.2 = 61 + 1 := by rw [← hu5]; exact congrArg (· + 1) n4
  refine qX9_init_45 rfl ?_
  refine qX9_init_46 (k1 := 1) (k2 := 80) (j1 := 29) (j2 := 278) (Nat.le_of_ble_eq_true rfl) (t_pInit nu5 bu5 (fun v5 nv5 Lv5 g5 => ⟨?_, rfl⟩))
  have LL5 : Lo w4 v5 (gB G + 61) := Lu5.tr Lv5 (Nat.le_refl _)
  have bv5 : v5.1 (gB G) = ob 8 [.ref (gB G + 1), .ref (gB G + 9), .ref (gB G + 59), .ref (gB G + 60), .null, .null, .null, .null, .null, .null, .null] := by rw [LL5 _ (by omega)]; exact b4
  refine qX9_init_49 (by assumption) ?_
  generalize hw5 : s_up v5 (gB G) _ = w5
  have b5 : w5.1 (gB G) = ob 8 [.ref (gB G + 1), .ref (gB G + 9), .ref (gB G + 59), .ref (gB G + 60), .ref (gB G + 61), .null, .null, .null, .null, .null, .null] := by rw [← hw5]; exact s_upS
  have n5 : w5.2 = 63 := by rw [← hw5]; exact nv5
  have X5 : Fx w4 w5 (gB G) (gB G + 61) := by rw [← hw5]; exact Fx.up LL5
  have Y5 : Fr v5 w5 (fun q => q = gB G) := by rw [← hw5]; exact Fr.rf.up rfl
  have f5 : pAt G w5 (gB G + 61) 0 (fun _ => 0) 0 0 0 0 := g5.fr Y5 (by omega) (by omega)
  refine qX9_init_52 ?_
  refine qX9_init_53 (k1 := 28) (k2 := 275) ?_
  rw [n5]
  generalize hu6 : s_new w5 _ _ = u6
  have bu6 : u6.1 (gB G + 63) = ob 1 [.null, .int 0, .int 0] := by rw [← hu6]; exact s_newS
  have Lu6 : Lo w5 u6 (gB G + 63) := by rw [← hu6]; exact Lo.rf.nw (by omega)
  have nu6 : u6.2 = 63 + 1 := by rw [← hu6]; exact congrArg (· + 1) n5
  refine qX9_init_56 rfl ?_
  refine qX9_init_57 (k1 := 1) (k2 := 12) (j1 := 27) (j2 := 263) (Nat.le_of_ble_eq_true rfl) (t_gInit nu6 bu6 (fun v6 nv6 Lv6 g6 => ⟨?_, rfl⟩))
  have LL6 : Lo w5 v6 (gB G + 63) := Lu6.tr Lv6 (Nat.le_refl _)
  have bv6 : v6.1 (gB G) = ob 8 [.ref (gB G + 1), .ref (gB G + 9), .ref (gB G + 59), .ref (gB G + 60), .ref (gB G + 61), .null, .null, .null, .null, .null, .null] := by rw [LL6 _ (by omega)]; exact b5
  refine qX9_init_60 (by assumption) ?_
  generalize hw6 : s_up v6 (gB G) _ = w6
  have b6 : w6.1 (gB G) = ob 8 [.ref (gB G + 1), .ref (gB G + 9), .ref (gB G + 59), .ref (gB G + 60), .ref (gB G + 61), .ref (gB G + 63), .null, .null, .null, .null, .null] := by rw [← hw6]; exact s_upS
  have n6 : w6.2 = 65 := by rw [← hw6]; exact nv6
  have X6 : Fx w5 w6 (gB G) (gB G + 63) := by rw [← hw6]; exact Fx.up LL6
  have Y6 : Fr v6 w6 (fun q => q = gB G) := by rw [← hw6]; exact Fr.rf.up rfl
  have f6 : gAt G w6 (gB G + 63) (gB G + 63 + 1) 1 1 (fun _ => 0) := g6.fr Y6 (by omega) (by omega)
  refine qX9_init_63 ?_
  refine qX9_init_64 (k1 := 26) (k2 := 260) ?_
  rw [n6]
  generalize hu7 : s_new w6 _ _ = u7
  have bu7 : u7.1 (gB G + 65) = ob 1 [.null, .int 0, .int 0] := by rw [← hu7]; exact s_newS
  have Lu7 : Lo w6 u7 (gB G + 65) := by rw [← hu7]; exact Lo.rf.nw (by omega)
  have nu7 : u7.2 = 65 + 1 := by rw [← hu7]; exact congrArg (· + 1) n6
  refine qX9_init_67 rfl ?_
  refine qX9_init_68 (k1 := 1) (k2 := 12) (j1 := 25) (j2 := 248) (Nat.le_of_ble_eq_true rfl) (t_gInit nu7 bu7 (fun v7 nv7 Lv7 g7 => ⟨?_, rfl⟩))
  have LL7 : Lo w6 v7 (gB G + 65) := Lu7.tr Lv7 (Nat.le_refl _)
  have bv7 : v7.1 (gB G) = ob 8 [.ref (gB G + 1), .ref (gB G + 9), .ref (gB G + 59), .ref (gB G + 60), .ref (gB G + 61), .ref (gB G + 63), .null, .null, .null, .null, .null] := by rw [LL7 _ (by omega)]; exact b6
  refine qX9_init_71 (by assumption) ?_
  generalize hw7 : s_up v7 (gB G) _ = w7
  have b7 : w7.1 (gB G) = ob 8 [.ref (gB G + 1), .ref (gB G + 9), .ref (gB G + 59), .ref (gB G + 60), .ref (gB G + 61), .ref (gB G + 63), .ref (gB G + 65), .null, .null, .null, .null] := by rw [← hw7]; exact s_upS
  have n7 : w7.2 = 67 := by rw [← hw7]; exact nv7
  have X7 : Fx w6 w7 (gB G) (gB G + 65) := by rw [← hw7]; exact Fx.up LL7
  have Y7 : Fr v7 w7 (fun q => q = gB G) := by rw [← hw7]; exact Fr.rf.up rfl
  have f7 : gAt G w7 (gB G + 65) (gB G + 65 + 1) 1 1 (fun _ => 0) := g7.fr Y7 (by omega) (by omega)
  refine qX9_init_74 ?_
  refine qX9_init_75 (k1 := 24) (k2 := 245) ?_
  rw [n7]
  generalize hu8 : s_new w7 _ _ = u8
  have bu8 : u8.1 (gB G + 67) = ob 7 [.null, .null, .int 0] := by rw [← hu8]; exact s_newS
  have Lu8 : Lo w7 u8 (gB G + 67) := by rw [← hu8]; exact Lo.rf.nw (by omega)
  have nu8 : u8.2 = 67 + 1 := by rw [← hu8]; exact congrArg (· + 1) n7
  refine qX9_init_78 rfl ?_
  refine qX9_init_79 (k1 := 2) (k2 := 48) (j1 := 22) (j2 := 197) (Nat.le_of_ble_eq_true rfl) (t_wInit nu8 bu8 (fun v8 nv8 Lv8 g8 => ⟨?_, rfl⟩))
  have LL8 : Lo w7 v8 (gB G + 67) := Lu8.tr Lv8 (Nat.le_refl _)
  have bv8 : v8.1 (gB G) = ob 8 [.ref (gB G + 1), .ref (gB G + 9), .ref (gB G + 59), .ref (gB G + 60), .ref (gB G + 61), .ref (gB G + 63), .ref (gB G + 65), .null, .null, .null, .null] := by rw [LL8 _ (by omega)]; exact b7
  refine qX9_init_82 (by assumption) ?_
  generalize hw8 : s_up v8 (gB G) _ = w8
  have b8 : w8.1 (gB G) = ob 8 [.ref (gB G + 1), .ref (gB G + 9), .ref (gB G + 59), .ref (gB G + 60), .ref (gB G + 61), .ref (gB G + 63), .ref (gB G + 65), .ref (gB G + 67), .null, .null, .null] := by rw [← hw8]; exact s_upS
  have n8 : w8.2 = 70 := by rw [← hw8]; exact nv8
  have X8 : Fx w7 w8 (gB G) (gB G + 67) := by rw [← hw8]; exact Fx.up LL8
  have Y8 : Fr v8 w8 (fun q => q = gB G) := by rw [← hw8]; exact Fr.rf.up rfl
  have f8 : wyAt G w8 (gB G + 67) [] := g8.fr Y8 (fun q a1 a2 => by omega)
  refine qX9_init_85 ?_
  refine qX9_init_86 (k1 := 21) (k2 := 193) ?_
  rw [n8]
  generalize hu9 : s_new w8 _ _ = u9
  have bu9 : u9.1 (gB G + 70) = ob 4 [.int 0, .int 0, .int 0, .int 0] := by rw [← hu9]; exact s_newS
  have Lu9 : Lo w8 u9 (gB G + 70) := by rw [← hu9]; exact Lo.rf.nw (by omega)
  have nu9 : u9.2 = 70 + 1 := by rw [← hu9]; exact congrArg (· + 1) n8
  refine qX9_init_89 rfl ?_
  refine qX9_init_90 (k1 := 0) (k2 := 0) (j1 := 21) (j2 := 193) (Nat.le_of_ble_eq_true rfl) (t_ptInit ⟨?_, rfl⟩)
  have LL9 := Lu9
  have nv9 := nu9
  have g9 : paAt u9 (gB G + 70) (0, 0, 0, 0) := bu9
  have bv9 : u9.1 (gB G) = ob 8 [.ref (gB G + 1), .ref (gB G + 9), .ref (gB G + 59), .ref (gB G + 60), .ref (gB G + 61), .ref (gB G + 63), .ref (gB G + 65), .ref (gB G + 67), .null, .null, .null] := by rw [LL9 _ (by omega)]; exact b8
  refine qX9_init_93 (by assumption) ?_
  generalize hw9 : s_up u9 (gB G) _ = w9
  have b9 : w9.1 (gB G) = ob 8 [.ref (gB G + 1), .ref (gB G + 9), .ref (gB G + 59), .ref (gB G + 60), .ref (gB G + 61), .ref (gB G + 63), .ref (gB G + 65), .ref (gB G + 67), .ref (gB G + 70), .null, .null] := by rw [← hw9]; exact s_upS
  have n9 : w9.2 = 71 := by rw [← hw9]; exact nv9
  have X9 : Fx w8 w9 (gB G) (gB G + 70) := by rw [← hw9]; exact Fx.up LL9
  have Y9 : Fr u9 w9 (fun q => q = gB G) := by rw [← hw9]; exact Fr.rf.up rfl
  have f9 : paAt w9 (gB G + 70) (0, 0, 0, 0) := g9.fr Y9 (by omega)
  refine qX9_init_96 ?_
  refine qX9_init_97 (k1 := 20) (k2 := 189) ?_
  rw [n9]
  generalize hu10 : s_new w9 _ _ = u10
  have bu10 : u10.1 (gB G + 71) = ob 0 [.null, .null, .null, .int 0] := by rw [← hu10]; exact s_newS
  have Lu10 : Lo w9 u10 (gB G + 71) := by rw [← hu10]; exact Lo.rf.nw (by omega)
  have nu10 : u10.2 = 71 + 1 := by rw [← hu10]; exact congrArg (· + 1) n9
  refine qX9_init_100 rfl ?_
  refine qX9_init_101 (k1 := 3) (k2 := 88) (j1 := 17) (j2 := 101) (Nat.le_of_ble_eq_true rfl) (t_cInit nu10 bu10 (fun v10 nv10 Lv10 g10 => ⟨?_, rfl⟩))
  have LL10 : Lo w9 v10 (gB G + 71) := Lu10.tr Lv10 (Nat.le_refl _)
  have bv10 : v10.1 (gB G) = ob 8 [.ref (gB G + 1), .ref (gB G + 9), .ref (gB G + 59), .ref (gB G + 60), .ref (gB G + 61), .ref (gB G + 63), .ref (gB G + 65), .ref (gB G + 67), .ref (gB G + 70), .null, .null] := by rw [LL10 _ (by omega)]; exact b9
  refine qX9_init_104 (by assumption) ?_
  generalize hw10 : s_up v10 (gB G) _ = w10
  have b10 : w10.1 (gB G) = ob 8 [.ref (gB G + 1), .ref (gB G + 9), .ref (gB G + 59), .ref (gB G + 60), .ref (gB G + 61), .ref (gB G + 63), .ref (gB G + 65), .ref (gB G + 67), .ref (gB G + 70), .ref (gB G + 71), .null] := by rw [← hw10]; exact s_upS
  have n10 : w10.2 = 75 := by rw [← hw10]; exact nv10
  have X10 : Fx w9 w10 (gB G) (gB G + 71) := by rw [← hw10]; exact Fx.up LL10
  have Y10 : Fr v10 w10 (fun q => q = gB G) := by rw [← hw10]; exact Fr.rf.up rfl
  have f10 : cvAt G w10 (gB G + 71) 0 (fun _ => false) (fun _ => 0) (fun _ => 0) := g10.fr Y10 (fun q a1 a2 => by omega)
  refine qX9_init_107 ?_
  refine qX9_init_108 (k1 := 16) (k2 := 98) ?_
  rw [n10]
  generalize hu11 : s_new w10 _ _ = u11
  have bu11 : u11.1 (gB G + 75) = ob 5 [.int 0, .int 0, .int 0] := by rw [← hu11]; exact s_newS
  have Lu11 : Lo w10 u11 (gB G + 75) := by rw [← hu11]; exact Lo.rf.nw (by omega)
  have nu11 : u11.2 = 75 + 1 := by rw [← hu11]; exact congrArg (· + 1) n10
  refine qX9_init_111 rfl ?_
  refine qX9_init_112 (k1 := 0) (k2 := 0) (j1 := 16) (j2 := 98) (Nat.le_of_ble_eq_true rfl) (t_rgInit ⟨?_, rfl⟩)
  have LL11 := Lu11
  have nv11 := nu11
  have g11 : rgAt u11 (gB G + 75) (0, 0, 0) := ⟨bu11, by decide, by decide⟩
  have bv11 : u11.1 (gB G) = ob 8 [.ref (gB G + 1), .ref (gB G + 9), .ref (gB G + 59), .ref (gB G + 60), .ref (gB G + 61), .ref (gB G + 63), .ref (gB G + 65), .ref (gB G + 67), .ref (gB G + 70), .ref (gB G + 71), .null] := by rw [LL11 _ (by omega)]; exact b10
  refine qX9_init_115 (by assumption) ?_
  generalize hw11 : s_up u11 (gB G) _ = w11
  have b11 : w11.1 (gB G) = ob 8 [.ref (gB G + 1), .ref (gB G + 9), .ref (gB G + 59), .ref (gB G + 60), .ref (gB G + 61), .ref (gB G + 63), .ref (gB G + 65), .ref (gB G + 67), .ref (gB G + 70), .ref (gB G + 71), .ref (gB G + 75)] := by rw [← hw11]; exact s_upS
  have n11 : w11.2 = 76 := by rw [← hw11]; exact nv11
  have X11 : Fx w10 w11 (gB G) (gB G + 75) := by rw [← hw11]; exact Fx.up LL11
  have Y11 : Fr u11 w11 (fun q => q = gB G) := by rw [← hw11]; exact Fr.rf.up rfl
  have f11 : rgAt w11 (gB G + 75) (0, 0, 0) := g11.fr Y11 (by omega)
  refine qX9_init_118 ?_
  refine qX9_init_119 ?_
  have Lp : ∀ n i (w' : sW) (f : Nat → Option Nat), i + n = 2 → w'.2 = 76 + 8 * i → w'.1 (gB G) = ob 8 [.ref (gB G + 1), .ref (gB G + 9), .ref (gB G + 59), .ref (gB G + 60), .ref (gB G + 61), .ref (gB G + 63), .ref (gB G + 65), .ref (gB G + 67), .ref (gB G + 70), .ref (gB G + 71), .ref (gB G + 75)] → w'.1 (gB G + 59) = aQ G 5 2 f → (∀ j, j < i → f j = some (gB G + 76 + 8 * j)) → (∀ j, j < i → stAt G w' (gB G + 76 + 8 * j) (fun _ => (1, 1, fun _ => 0))) → Fx w11 w' (gB G + 59) (gB G + 76) → wp G (d + 3) mX9_init P 120 [some (.ref (gB G)), some (.int (nI i))] [] w' (8 * n, 49 * n) := by
    intro n
    induction n with
    | zero =>
      intro i w' f hi hn hb he hf hg hX
      refine qX9_init_120 ?_
      refine qX9_init_121 ?_
      refine nX9_init_122 (by omega) (by omega) (fun h122 => ?_) (fun h122 => by exfalso; omega)
      refine qX9_init_144 ?_
      have hi3 : i = 2 := by omega
      subst hi3
      have Z11 : Fx w11 w' (gB G + 59) (gB G + 76) := hX
      have K : ∀ (wj : sW) (p : Nat), p ≤ gB G + 76 → Fx wj w11 (gB G) p → Fr (wj.1, w'.2) w' (fun q => q = gB G ∨ q = gB G + 59 ∨ p ≤ q) := fun wj p hp hx => ⟨rfl, fun q hq => (hX q (fun z => hq (Or.inr (Or.inl z))) (Nat.lt_of_not_le (fun z => hq (Or.inr (Or.inr (Nat.le_trans hp z)))))).trans (hx q (fun z => hq (Or.inl z)) (Nat.lt_of_not_le (fun z => hq (Or.inr (Or.inr z)))))⟩
      have T11 : Fx w11 w11 (gB G) (gB G + 76) := fun q _ _ => rfl
      have T10 : Fx w10 w11 (gB G) (gB G + 75) := X11.tr T11 (by omega)
      have T9 : Fx w9 w11 (gB G) (gB G + 71) := X10.tr T10 (by omega)
      have T8 : Fx w8 w11 (gB G) (gB G + 70) := X9.tr T9 (by omega)
      have T7 : Fx w7 w11 (gB G) (gB G + 67) := X8.tr T8 (by omega)
      have T6 : Fx w6 w11 (gB G) (gB G + 65) := X7.tr T7 (by omega)
      have T5 : Fx w5 w11 (gB G) (gB G + 63) := X6.tr T6 (by omega)
      have T4 : Fx w4 w11 (gB G) (gB G + 61) := X5.tr T5 (by omega)
      have T3 : Fx w3 w11 (gB G) (gB G + 60) := X4.tr T4 (by omega)
      have T2 : Fx w2 w11 (gB G) (gB G + 59) := X3.tr T3 (by omega)
      have T1 : Fx w1 w11 (gB G) (gB G + 9) := X2.tr T2 (by omega)
      have Q1 := K w1 (gB G + 9) (by omega) T1
      have Q2 := K w2 (gB G + 59) (by omega) T2
      have Q3 := K w3 (gB G + 60) (by omega) T3
      have Q4 := K w4 (gB G + 61) (by omega) T4
      have Q5 := K w5 (gB G + 63) (by omega) T5
      have Q6 := K w6 (gB G + 65) (by omega) T6
      have Q7 := K w7 (gB G + 67) (by omega) T7
      have Q8 := K w8 (gB G + 70) (by omega) T8
      have Q9 := K w9 (gB G + 71) (by omega) T9
      have Q10 := K w10 (gB G + 75) (by omega) T10
      have Q11 := K w11 (gB G + 76) (by omega) T11
      refine k w' hn ⟨hb, ⟨_, stAt.fr (w := (w1.1, w'.2)) f1 Q1 (fun q a1 a2 => by omega), fun _ _ => eqA.rf⟩, ⟨0, _, by decide, hsAt.fr (w := (w2.1, w'.2)) f2 Q2 (fun q a1 a2 => by omega), fun j hj => absurd hj (Nat.not_lt_zero j)⟩, ⟨f, he, hf, fun j hj => ⟨_, hg j hj, fun h => by simp [s0S] at h⟩⟩, ⟨fun _ => 0, by rw [Q4.2 (gB G + 60) (by omega)]; exact f4, fun j _ => by simp [s0S]; decide⟩, ⟨fun _ => 0, _, _, _, _, pAt.fr (w := (w5.1, w'.2)) f5 Q5 (by omega) (by omega), fun _ => (by decide : (0 : Nat) < 256), fun j hj => absurd hj (Nat.not_lt_zero j)⟩, ⟨(1, 1, fun _ => 0), gAt.fr (w := (w6.1, w'.2)) f6 Q6 (by omega) (by omega)⟩, ⟨(1, 1, fun _ => 0), gAt.fr (w := (w7.1, w'.2)) f7 Q7 (by omega) (by omega)⟩, ⟨_, wyAt.fr (w := (w8.1, w'.2)) f8 Q8 (fun q a1 a2 => by omega)⟩, ⟨(0, 0, 0, 0), paAt.fr (w := (w9.1, w'.2)) f9 Q9 (by omega)⟩, ⟨_, _, _, _, cvAt.fr (w := (w10.1, w'.2)) f10 Q10 (fun q a1 a2 => by omega), fun _ => (by decide : (0 : Nat) < 4096)⟩, ⟨(0, 0, 0), rgAt.fr (w := (w11.1, w'.2)) f11 Q11 (by omega)⟩⟩
    | succ n ih =>
      intro i w' f hi hn hb he hf hg hX
      refine wp_bud (a' := (7 + 8 * n) + 1) (b' := (48 + 49 * n) + 1) (by omega) (by omega) ?_
      refine qX9_init_120 ?_
      refine qX9_init_121 ?_
      refine nX9_init_122 (by omega) (by omega) (fun h122 => by exfalso; omega) (fun h122 => ?_)
      refine qX9_init_125 ?_
      refine qX9_init_126 (by assumption) ?_
      refine qX9_init_129 ?_
      refine qX9_init_130 (k1 := 7 + 8 * n) (k2 := 48 + 49 * n) ?_
      rw [hn]
      generalize hu : s_new w' _ _ = u
      have bu : u.1 (gB G + (76 + 8 * i)) = ob 6 [.null] := by rw [← hu]; exact s_newS
      have Lu : Lo w' u (gB G + (76 + 8 * i)) := by rw [← hu]; exact Lo.rf.nw (by omega)
      have nu : u.2 = 76 + 8 * i + 1 := by rw [← hu]; exact congrArg (· + 1) hn
      refine qX9_init_133 rfl ?_
      refine qX9_init_134 (k1 := 7) (k2 := 48) (j1 := 8 * n) (j2 := 49 * n) (Nat.le_of_ble_eq_true rfl) (t_sInit nu bu (fun v nv Lv gv => ⟨?_, rfl⟩))
      have LL : Lo w' v (gB G + (76 + 8 * i)) := Lu.tr Lv (Nat.le_refl _)
      have bv : v.1 (gB G) = _ := (LL _ (by omega)).trans hb
      have ev : v.1 (gB G + 59) = aQ G 5 2 f := by rw [LL _ (by omega)]; exact he
      obtain ⟨fs, g61, _⟩ := id gv
      refine nX9_init_137 ev g61 (Or.inr ⟨rfl, rfl⟩) (by omega) (by decide) ?_
      generalize hw12 : s_up v _ _ = w12
      have F7 : Fr v w12 (fun q => q = gB G + 59) := by rw [← hw12]; exact Fr.rf.up rfl
      first | refine nX9_init_138 ?_ | refine qX9_init_138 ?_
      refine qX9_init_141 ?_
      refine ih (i + 1) w12 (va_up f i (some (gB G + (76 + 8 * i)))) (by omega) (by rw [F7.1, nv]; omega) (by rw [← hw12, s_upN (by omega)]; exact bv) (by rw [← hw12]; exact s_upS) (fun j hj => ?_) (fun j hj => ?_) (fun q h1 h2 => by rw [F7.2 q h1, LL q (by omega)]; exact hX q h1 h2)
      · unfold va_up
        by_cases hji : j = i
        · subst hji; rw [if_pos rfl, show gB G + (76 + 8 * j) = gB G + 76 + 8 * j by omega]
        · rw [if_neg hji]; exact hf j (by omega)
      · by_cases hji : j = i
        · subst hji
          rw [show gB G + 76 + 8 * j = gB G + (76 + 8 * j) by omega]
          exact gv.fr F7 (fun q a1 a2 => by omega)
        · exact ((hg j (by omega)).lo LL (by omega)).fr F7 (fun q a1 a2 => by omega)
  exact Lp 2 0 w11 (fun _ => none) (by omega) n11 b11 (by rw [X11 _ (by omega) (by omega), X10 _ (by omega) (by omega), X9 _ (by omega) (by omega), X8 _ (by omega) (by omega), X7 _ (by omega) (by omega), X6 _ (by omega) (by omega), X5 _ (by omega) (by omega), X4 _ (by omega) (by omega)]; exact f3) (fun j hj => absurd hj (Nat.not_lt_zero j)) (fun j hj => absurd hj (Nat.not_lt_zero j)) (fun q _ _ => rfl)
end INIT9
