/-! the reference's constructor -/
section INIT10
variable {G : sG} {d : Nat} {P : sQ} {w : sW}
set_option maxHeartbeats 1000000 in
theorem m_init {D : Nat} (hD : D = gB G + 92) (hw : w.2 = 93) (hb : w.1 D = ob 9 [.null, .null, .int 0, .null, .null, .null, .int 0, .null, .int 0, .null, .int 0, .null, .int 0, .int 0, .int 0, .null, .null, .null, .null]) (k : ∀ w', Lo w w' D → mdAt G w' D s0S → P none w') : wpM G (d + 1) yX10_init (12, 8780) [.ref D] w P := by
  refine eX10_init ?_
  have n0 : w.2 = 93 := hw
  have b0 := hb
  refine qX10_init_0 ?_
  refine qX10_init_1 (Nat.le_of_ble_eq_true rfl) ?_
  refine qX10_init_4 ?_
  refine qX10_init_5 ?_
  refine qX10_init_7 (k1 := 11) (k2 := 8738) (by decide) ?_
  rw [n0]
  generalize hu1 : s_new w _ _ = u1
  have e1 : u1.1 (D + 1) = aN G 42 (fun _ => 0) := by rw [← hu1, hD]; exact s_newS
  have L1 : Lo w u1 (D + 1) := by rw [← hu1, hD]; exact Lo.rf.nw (by omega)
  have m1 : u1.2 = 94 := by rw [← hu1]; exact congrArg (· + 1) n0
  have c1 : u1.1 D = ob 9 [.null, .null, .int 0, .null, .null, .null, .int 0, .null, .int 0, .null, .int 0, .null, .int 0, .int 0, .int 0, .null, .null, .null, .null] := by rw [L1 _ (by omega)]; exact b0
  refine qX10_init_9 (by assumption) ?_
  generalize hw1 : s_up u1 D _ = w1
  have b1 : w1.1 D = ob 9 [.ref (D + 1), .null, .int 0, .null, .null, .null, .int 0, .null, .int 0, .null, .int 0, .null, .int 0, .int 0, .int 0, .null, .null, .null, .null] := by rw [← hw1, hD]; exact s_upS
  have n1 : w1.2 = 94 := by rw [← hw1]; exact m1
  have X1 : Fx w w1 D (D + 1) := by rw [← hw1]; exact Fx.up L1
  have f1 : w1.1 (D + 1) = aN G 42 (fun _ => 0) := by rw [← hw1, s_upN (by omega)]; exact e1
  refine qX10_init_12 ?_
  refine qX10_init_13 ?_
  refine qX10_init_16 (k1 := 10) (k2 := 8486) (by decide) ?_
  rw [n1]
  generalize hu2 : s_new w1 _ _ = u2
  have e2 : u2.1 (D + 2) = aN G 252 (fun _ => 0) := by rw [← hu2, hD]; exact s_newS
  have L2 : Lo w1 u2 (D + 2) := by rw [← hu2, hD]; exact Lo.rf.nw (by omega)
  have m2 : u2.2 = 95 := by rw [← hu2]; exact congrArg (· + 1) n1
  have c2 : u2.1 D = ob 9 [.ref (D + 1), .null, .int 0, .null, .null, .null, .int 0, .null, .int 0, .null, .int 0, .null, .int 0, .int 0, .int 0, .null, .null, .null, .null] := by rw [L2 _ (by omega)]; exact b1
  refine qX10_init_18 (by assumption) ?_
  generalize hw2 : s_up u2 D _ = w2
  have b2 : w2.1 D = ob 9 [.ref (D + 1), .ref (D + 2), .int 0, .null, .null, .null, .int 0, .null, .int 0, .null, .int 0, .null, .int 0, .int 0, .int 0, .null, .null, .null, .null] := by rw [← hw2, hD]; exact s_upS
  have n2 : w2.2 = 95 := by rw [← hw2]; exact m2
  have X2 : Fx w1 w2 D (D + 2) := by rw [← hw2]; exact Fx.up L2
  have f2 : w2.1 (D + 2) = aN G 252 (fun _ => 0) := by rw [← hw2, s_upN (by omega)]; exact e2
  refine qX10_init_21 ?_
  refine qX10_init_22 ?_
  refine qX10_init_24 (k1 := 9) (k2 := 8402) (by decide) ?_
  rw [n2]
  generalize hu3 : s_new w2 _ _ = u3
  have e3 : u3.1 (D + 3) = aN G 84 (fun _ => 0) := by rw [← hu3, hD]; exact s_newS
  have L3 : Lo w2 u3 (D + 3) := by rw [← hu3, hD]; exact Lo.rf.nw (by omega)
  have m3 : u3.2 = 96 := by rw [← hu3]; exact congrArg (· + 1) n2
  have c3 : u3.1 D = ob 9 [.ref (D + 1), .ref (D + 2), .int 0, .null, .null, .null, .int 0, .null, .int 0, .null, .int 0, .null, .int 0, .int 0, .int 0, .null, .null, .null, .null] := by rw [L3 _ (by omega)]; exact b2
  refine qX10_init_26 (by assumption) ?_
  generalize hw3 : s_up u3 D _ = w3
  have b3 : w3.1 D = ob 9 [.ref (D + 1), .ref (D + 2), .int 0, .ref (D + 3), .null, .null, .int 0, .null, .int 0, .null, .int 0, .null, .int 0, .int 0, .int 0, .null, .null, .null, .null] := by rw [← hw3, hD]; exact s_upS
  have n3 : w3.2 = 96 := by rw [← hw3]; exact m3
  have X3 : Fx w2 w3 D (D + 3) := by rw [← hw3]; exact Fx.up L3
  have f3 : w3.1 (D + 3) = aN G 84 (fun _ => 0) := by rw [← hw3, s_upN (by omega)]; exact e3
  refine qX10_init_29 ?_
  refine qX10_init_30 ?_
  refine qX10_init_31 (k1 := 8) (k2 := 8400) (by decide) ?_
  rw [n3]
  generalize hu4 : s_new w3 _ _ = u4
  have e4 : u4.1 (D + 4) = aN G 2 (fun _ => 0) := by rw [← hu4, hD]; exact s_newS
  have L4 : Lo w3 u4 (D + 4) := by rw [← hu4, hD]; exact Lo.rf.nw (by omega)
  have m4 : u4.2 = 97 := by rw [← hu4]; exact congrArg (· + 1) n3
  have c4 : u4.1 D = ob 9 [.ref (D + 1), .ref (D + 2), .int 0, .ref (D + 3), .null, .null, .int 0, .null, .int 0, .null, .int 0, .null, .int 0, .int 0, .int 0, .null, .null, .null, .null] := by rw [L4 _ (by omega)]; exact b3
  refine qX10_init_33 (by assumption) ?_
  generalize hw4 : s_up u4 D _ = w4
  have b4 : w4.1 D = ob 9 [.ref (D + 1), .ref (D + 2), .int 0, .ref (D + 3), .ref (D + 4), .null, .int 0, .null, .int 0, .null, .int 0, .null, .int 0, .int 0, .int 0, .null, .null, .null, .null] := by rw [← hw4, hD]; exact s_upS
  have n4 : w4.2 = 97 := by rw [← hw4]; exact m4
  have X4 : Fx w3 w4 D (D + 4) := by rw [← hw4]; exact Fx.up L4
  have f4 : w4.1 (D + 4) = aN G 2 (fun _ => 0) := by rw [← hw4, s_upN (by omega)]; exact e4
  refine qX10_init_36 ?_
  refine qX10_init_37 ?_
  refine qX10_init_39 (k1 := 7) (k2 := 8320) (by decide) ?_
  rw [n4]
  generalize hu5 : s_new w4 _ _ = u5
  have e5 : u5.1 (D + 5) = aN G 80 (fun _ => 0) := by rw [← hu5, hD]; exact s_newS
  have L5 : Lo w4 u5 (D + 5) := by rw [← hu5, hD]; exact Lo.rf.nw (by omega)
  have m5 : u5.2 = 98 := by rw [← hu5]; exact congrArg (· + 1) n4
  have c5 : u5.1 D = ob 9 [.ref (D + 1), .ref (D + 2), .int 0, .ref (D + 3), .ref (D + 4), .null, .int 0, .null, .int 0, .null, .int 0, .null, .int 0, .int 0, .int 0, .null, .null, .null, .null] := by rw [L5 _ (by omega)]; exact b4
  refine qX10_init_41 (by assumption) ?_
  generalize hw5 : s_up u5 D _ = w5
  have b5 : w5.1 D = ob 9 [.ref (D + 1), .ref (D + 2), .int 0, .ref (D + 3), .ref (D + 4), .ref (D + 5), .int 0, .null, .int 0, .null, .int 0, .null, .int 0, .int 0, .int 0, .null, .null, .null, .null] := by rw [← hw5, hD]; exact s_upS
  have n5 : w5.2 = 98 := by rw [← hw5]; exact m5
  have X5 : Fx w4 w5 D (D + 5) := by rw [← hw5]; exact Fx.up L5
  have f5 : w5.1 (D + 5) = aN G 80 (fun _ => 0) := by rw [← hw5, s_upN (by omega)]; exact e5
  refine qX10_init_44 ?_
  refine qX10_init_45 ?_
  refine qX10_init_47 (k1 := 6) (k2 := 8272) (by decide) ?_
  rw [n5]
  generalize hu6 : s_new w5 _ _ = u6
  have e6 : u6.1 (D + 6) = aN G 48 (fun _ => 0) := by rw [← hu6, hD]; exact s_newS
  have L6 : Lo w5 u6 (D + 6) := by rw [← hu6, hD]; exact Lo.rf.nw (by omega)
  have m6 : u6.2 = 99 := by rw [← hu6]; exact congrArg (· + 1) n5
  have c6 : u6.1 D = ob 9 [.ref (D + 1), .ref (D + 2), .int 0, .ref (D + 3), .ref (D + 4), .ref (D + 5), .int 0, .null, .int 0, .null, .int 0, .null, .int 0, .int 0, .int 0, .null, .null, .null, .null] := by rw [L6 _ (by omega)]; exact b5
  refine qX10_init_49 (by assumption) ?_
  generalize hw6 : s_up u6 D _ = w6
  have b6 : w6.1 D = ob 9 [.ref (D + 1), .ref (D + 2), .int 0, .ref (D + 3), .ref (D + 4), .ref (D + 5), .int 0, .ref (D + 6), .int 0, .null, .int 0, .null, .int 0, .int 0, .int 0, .null, .null, .null, .null] := by rw [← hw6, hD]; exact s_upS
  have n6 : w6.2 = 99 := by rw [← hw6]; exact m6
  have X6 : Fx w5 w6 D (D + 6) := by rw [← hw6]; exact Fx.up L6
  have f6 : w6.1 (D + 6) = aN G 48 (fun _ => 0) := by rw [← hw6, s_upN (by omega)]; exact e6
  refine qX10_init_52 ?_
  refine qX10_init_53 ?_
  refine qX10_init_55 (k1 := 5) (k2 := 8224) (by decide) ?_
  rw [n6]
  generalize hu7 : s_new w6 _ _ = u7
  have e7 : u7.1 (D + 7) = aN G 48 (fun _ => 0) := by rw [← hu7, hD]; exact s_newS
  have L7 : Lo w6 u7 (D + 7) := by rw [← hu7, hD]; exact Lo.rf.nw (by omega)
  have m7 : u7.2 = 100 := by rw [← hu7]; exact congrArg (· + 1) n6
  have c7 : u7.1 D = ob 9 [.ref (D + 1), .ref (D + 2), .int 0, .ref (D + 3), .ref (D + 4), .ref (D + 5), .int 0, .ref (D + 6), .int 0, .null, .int 0, .null, .int 0, .int 0, .int 0, .null, .null, .null, .null] := by rw [L7 _ (by omega)]; exact b6
  refine qX10_init_57 (by assumption) ?_
  generalize hw7 : s_up u7 D _ = w7
  have b7 : w7.1 D = ob 9 [.ref (D + 1), .ref (D + 2), .int 0, .ref (D + 3), .ref (D + 4), .ref (D + 5), .int 0, .ref (D + 6), .int 0, .ref (D + 7), .int 0, .null, .int 0, .int 0, .int 0, .null, .null, .null, .null] := by rw [← hw7, hD]; exact s_upS
  have n7 : w7.2 = 100 := by rw [← hw7]; exact m7
  have X7 : Fx w6 w7 D (D + 7) := by rw [← hw7]; exact Fx.up L7
  have f7 : w7.1 (D + 7) = aN G 48 (fun _ => 0) := by rw [← hw7, s_upN (by omega)]; exact e7
  refine qX10_init_60 ?_
  refine qX10_init_61 ?_
  refine qX10_init_62 (k1 := 4) (k2 := 8220) (by decide) ?_
  rw [n7]
  generalize hu8 : s_new w7 _ _ = u8
  have e8 : u8.1 (D + 8) = aN G 4 (fun _ => 0) := by rw [← hu8, hD]; exact s_newS
  have L8 : Lo w7 u8 (D + 8) := by rw [← hu8, hD]; exact Lo.rf.nw (by omega)
  have m8 : u8.2 = 101 := by rw [← hu8]; exact congrArg (· + 1) n7
  have c8 : u8.1 D = ob 9 [.ref (D + 1), .ref (D + 2), .int 0, .ref (D + 3), .ref (D + 4), .ref (D + 5), .int 0, .ref (D + 6), .int 0, .ref (D + 7), .int 0, .null, .int 0, .int 0, .int 0, .null, .null, .null, .null] := by rw [L8 _ (by omega)]; exact b7
  refine qX10_init_64 (by assumption) ?_
  generalize hw8 : s_up u8 D _ = w8
  have b8 : w8.1 D = ob 9 [.ref (D + 1), .ref (D + 2), .int 0, .ref (D + 3), .ref (D + 4), .ref (D + 5), .int 0, .ref (D + 6), .int 0, .ref (D + 7), .int 0, .ref (D + 8), .int 0, .int 0, .int 0, .null, .null, .null, .null] := by rw [← hw8, hD]; exact s_upS
  have n8 : w8.2 = 101 := by rw [← hw8]; exact m8
  have X8 : Fx w7 w8 D (D + 8) := by rw [← hw8]; exact Fx.up L8
  have f8 : w8.1 (D + 8) = aN G 4 (fun _ => 0) := by rw [← hw8, s_upN (by omega)]; exact e8
  refine qX10_init_67 ?_
  refine qX10_init_68 ?_
  refine qX10_init_71 (k1 := 3) (k2 := 4124) (by decide) ?_
  rw [n8]
  generalize hu9 : s_new w8 _ _ = u9
  have e9 : u9.1 (D + 9) = aN G 4096 (fun _ => 0) := by rw [← hu9, hD]; exact s_newS
  have L9 : Lo w8 u9 (D + 9) := by rw [← hu9, hD]; exact Lo.rf.nw (by omega)
  have m9 : u9.2 = 102 := by rw [← hu9]; exact congrArg (· + 1) n8
  have c9 : u9.1 D = ob 9 [.ref (D + 1), .ref (D + 2), .int 0, .ref (D + 3), .ref (D + 4), .ref (D + 5), .int 0, .ref (D + 6), .int 0, .ref (D + 7), .int 0, .ref (D + 8), .int 0, .int 0, .int 0, .null, .null, .null, .null] := by rw [L9 _ (by omega)]; exact b8
  refine qX10_init_73 (by assumption) ?_
  generalize hw9 : s_up u9 D _ = w9
  have b9 : w9.1 D = ob 9 [.ref (D + 1), .ref (D + 2), .int 0, .ref (D + 3), .ref (D + 4), .ref (D + 5), .int 0, .ref (D + 6), .int 0, .ref (D + 7), .int 0, .ref (D + 8), .int 0, .int 0, .int 0, .ref (D + 9), .null, .null, .null] := by rw [← hw9, hD]; exact s_upS
  have n9 : w9.2 = 102 := by rw [← hw9]; exact m9
  have X9 : Fx w8 w9 D (D + 9) := by rw [← hw9]; exact Fx.up L9
  have f9 : w9.1 (D + 9) = aN G 4096 (fun _ => 0) := by rw [← hw9, s_upN (by omega)]; exact e9
  refine qX10_init_76 ?_
  refine qX10_init_77 ?_
  refine qX10_init_80 (k1 := 2) (k2 := 28) (by decide) ?_
  rw [n9]
  generalize hu10 : s_new w9 _ _ = u10
  have e10 : u10.1 (D + 10) = aN G 4096 (fun _ => 0) := by rw [← hu10, hD]; exact s_newS
  have L10 : Lo w9 u10 (D + 10) := by rw [← hu10, hD]; exact Lo.rf.nw (by omega)
  have m10 : u10.2 = 103 := by rw [← hu10]; exact congrArg (· + 1) n9
  have c10 : u10.1 D = ob 9 [.ref (D + 1), .ref (D + 2), .int 0, .ref (D + 3), .ref (D + 4), .ref (D + 5), .int 0, .ref (D + 6), .int 0, .ref (D + 7), .int 0, .ref (D + 8), .int 0, .int 0, .int 0, .ref (D + 9), .null, .null, .null] := by rw [L10 _ (by omega)]; exact b9
  refine qX10_init_82 (by assumption) ?_
  generalize hw10 : s_up u10 D _ = w10
  have b10 : w10.1 D = ob 9 [.ref (D + 1), .ref (D + 2), .int 0, .ref (D + 3), .ref (D + 4), .ref (D + 5), .int 0, .ref (D + 6), .int 0, .ref (D + 7), .int 0, .ref (D + 8), .int 0, .int 0, .int 0, .ref (D + 9), .ref (D + 10), .null, .null] := by rw [← hw10, hD]; exact s_upS
  have n10 : w10.2 = 103 := by rw [← hw10]; exact m10
  have X10 : Fx w9 w10 D (D + 10) := by rw [← hw10]; exact Fx.up L10
  have f10 : w10.1 (D + 10) = aN G 4096 (fun _ => 0) := by rw [← hw10, s_upN (by omega)]; exact e10
  refine qX10_init_85 ?_
  refine qX10_init_86 ?_
  refine qX10_init_88 (k1 := 1) (k2 := 12) (by decide) ?_
  rw [n10]
  generalize hu11 : s_new w10 _ _ = u11
  have e11 : u11.1 (D + 11) = aI G 16 (fun _ => 0) := by rw [← hu11, hD]; exact s_newS
  have L11 : Lo w10 u11 (D + 11) := by rw [← hu11, hD]; exact Lo.rf.nw (by omega)
  have m11 : u11.2 = 104 := by rw [← hu11]; exact congrArg (· + 1) n10
  have c11 : u11.1 D = ob 9 [.ref (D + 1), .ref (D + 2), .int 0, .ref (D + 3), .ref (D + 4), .ref (D + 5), .int 0, .ref (D + 6), .int 0, .ref (D + 7), .int 0, .ref (D + 8), .int 0, .int 0, .int 0, .ref (D + 9), .ref (D + 10), .null, .null] := by rw [L11 _ (by omega)]; exact b10
  refine qX10_init_90 (by assumption) ?_
  generalize hw11 : s_up u11 D _ = w11
  have b11 : w11.1 D = ob 9 [.ref (D + 1), .ref (D + 2), .int 0, .ref (D + 3), .ref (D + 4), .ref (D + 5), .int 0, .ref (D + 6), .int 0, .ref (D + 7), .int 0, .ref (D + 8), .int 0, .int 0, .int 0, .ref (D + 9), .ref (D + 10), .ref (D + 11), .null] := by rw [← hw11, hD]; exact s_upS
  have n11 : w11.2 = 104 := by rw [← hw11]; exact m11
  have X11 : Fx w10 w11 D (D + 11) := by rw [← hw11]; exact Fx.up L11
  have f11 : w11.1 (D + 11) = aI G 16 (fun _ => 0) := by rw [← hw11, s_upN (by omega)]; exact e11
  refine qX10_init_93 ?_
  refine qX10_init_94 ?_
  refine qX10_init_96 (k1 := 0) (k2 := 0) (by decide) ?_
  rw [n11]
  generalize hu12 : s_new w11 _ _ = u12
  have e12 : u12.1 (D + 12) = aN G 12 (fun _ => 0) := by rw [← hu12, hD]; exact s_newS
  have L12 : Lo w11 u12 (D + 12) := by rw [← hu12, hD]; exact Lo.rf.nw (by omega)
  have m12 : u12.2 = 105 := by rw [← hu12]; exact congrArg (· + 1) n11
  have c12 : u12.1 D = ob 9 [.ref (D + 1), .ref (D + 2), .int 0, .ref (D + 3), .ref (D + 4), .ref (D + 5), .int 0, .ref (D + 6), .int 0, .ref (D + 7), .int 0, .ref (D + 8), .int 0, .int 0, .int 0, .ref (D + 9), .ref (D + 10), .ref (D + 11), .null] := by rw [L12 _ (by omega)]; exact b11
  refine qX10_init_98 (by assumption) ?_
  generalize hw12 : s_up u12 D _ = w12
  have b12 : w12.1 D = ob 9 [.ref (D + 1), .ref (D + 2), .int 0, .ref (D + 3), .ref (D + 4), .ref (D + 5), .int 0, .ref (D + 6), .int 0, .ref (D + 7), .int 0, .ref (D + 8), .int 0, .int 0, .int 0, .ref (D + 9), .ref (D + 10), .ref (D + 11), .ref (D + 12)] := by rw [← hw12, hD]; exact s_upS
  have n12 : w12.2 = 105 := by rw [← hw12]; exact m12
  have X12 : Fx w11 w12 D (D + 12) := by rw [← hw12]; exact Fx.up L12
  have f12 : w12.1 (D + 12) = aN G 12 (fun _ => 0) := by rw [← hw12, s_upN (by omega)]; exact e12
  have T12 : Fx w12 w12 D (D + 13) := fun q _ _ => rfl
  have T11 : Fx w11 w12 D (D + 12) := X12.tr T12 (by omega)
  have T10 : Fx w10 w12 D (D + 11) := X11.tr T11 (by omega)
  have T9 : Fx w9 w12 D (D + 10) := X10.tr T10 (by omega)
  have T8 : Fx w8 w12 D (D + 9) := X9.tr T9 (by omega)
  have T7 : Fx w7 w12 D (D + 8) := X8.tr T8 (by omega)
  have T6 : Fx w6 w12 D (D + 7) := X7.tr T7 (by omega)
  have T5 : Fx w5 w12 D (D + 6) := X6.tr T6 (by omega)
  have T4 : Fx w4 w12 D (D + 5) := X5.tr T5 (by omega)
  have T3 : Fx w3 w12 D (D + 4) := X4.tr T4 (by omega)
  have T2 : Fx w2 w12 D (D + 3) := X3.tr T3 (by omega)
  have T1 : Fx w1 w12 D (D + 2) := X2.tr T2 (by omega)
  have T0 : Fx w w12 D (D + 1) := X1.tr T1 (by omega)
  have g1 : w12.1 (D + 1) = aN G 42 (fun _ => 0) := by rw [T1 _ (by omega) (by omega)]; exact f1
  have g2 : w12.1 (D + 2) = aN G 252 (fun _ => 0) := by rw [T2 _ (by omega) (by omega)]; exact f2
  have g3 : w12.1 (D + 3) = aN G 84 (fun _ => 0) := by rw [T3 _ (by omega) (by omega)]; exact f3
  have g4 : w12.1 (D + 4) = aN G 2 (fun _ => 0) := by rw [T4 _ (by omega) (by omega)]; exact f4
  have g5 : w12.1 (D + 5) = aN G 80 (fun _ => 0) := by rw [T5 _ (by omega) (by omega)]; exact f5
  have g6 : w12.1 (D + 6) = aN G 48 (fun _ => 0) := by rw [T6 _ (by omega) (by omega)]; exact f6
  have g7 : w12.1 (D + 7) = aN G 48 (fun _ => 0) := by rw [T7 _ (by omega) (by omega)]; exact f7
  have g8 : w12.1 (D + 8) = aN G 4 (fun _ => 0) := by rw [T8 _ (by omega) (by omega)]; exact f8
  have g9 : w12.1 (D + 9) = aN G 4096 (fun _ => 0) := by rw [T9 _ (by omega) (by omega)]; exact f9
  have g10 : w12.1 (D + 10) = aN G 4096 (fun _ => 0) := by rw [T10 _ (by omega) (by omega)]; exact f10
  have g11 : w12.1 (D + 11) = aI G 16 (fun _ => 0) := by rw [T11 _ (by omega) (by omega)]; exact f11
  have g12 : w12.1 (D + 12) = aN G 12 (fun _ => 0) := by rw [T12 _ (by omega) (by omega)]; exact f12
  refine qX10_init_101 ?_
  refine qX10_init_102 ?_
  have Lp : ∀ n i (w' : sW) (f : Nat → Nat), i + n = 3 → Fr w12 w' (fun q => q = D + 1) → w'.1 (D + 1) = aN G 42 f → (∀ a, a < i → f (14 * a + 0) = 1 ∧ f (14 * a + 1) = 1) → (∀ a k, k < 12 → f (14 * a + 2 + k) = 0) → wp G d mX10_init P 103 [some (.ref D), some (.int (nI i))] [] w' (0, 0) := by
    intro n
    induction n with
    | zero =>
      intro i w' f hi hF h1 h2 h3
      have b : w'.1 D = _ := (hF.2 D (by omega)).trans b12
      refine qX10_init_103 ?_
      refine qX10_init_104 ?_
      refine nX10_init_105 (by omega) (by omega) (fun h105 => ?_) (fun h105 => by exfalso; omega)
      refine qX10_init_138 ?_
      have hi3 : i = 3 := by omega
      subst hi3
      refine k w' (fun q hq => by rw [hF.2 q (by omega), T0 q (by omega) (by omega)]) ⟨⟨(0, 0, 0, 0, 0, 0, 0), b, rfl, rfl⟩, ⟨f, h1, fun i hi => ⟨(h2 i hi).1, (h2 i hi).2, fun k hk => h3 i k (by have : k < 1 * 1 := hk; omega)⟩⟩, ⟨fun _ => 0, by rw [hF.2 _ (by omega)]; exact g2, fun j hj => absurd hj (Nat.not_lt_zero j)⟩, ⟨fun _ => 0, by rw [hF.2 _ (by omega)]; exact g3, fun j hj hv => absurd hv (by simp [s0S, lv])⟩, ⟨fun _ => 0, by rw [hF.2 _ (by omega)]; exact g4, fun j hj => rfl⟩, ⟨fun _ => 0, by rw [hF.2 _ (by omega)]; exact g5, fun j hj => absurd hj (Nat.not_lt_zero j)⟩, ⟨_, by rw [hF.2 _ (by omega)]; exact g6⟩, ⟨_, by rw [hF.2 _ (by omega)]; exact g7⟩, ⟨_, by rw [hF.2 _ (by omega)]; exact g8⟩, ⟨_, by rw [hF.2 _ (by omega)]; exact g9⟩, ⟨_, by rw [hF.2 _ (by omega)]; exact g10⟩, ⟨_, by rw [hF.2 _ (by omega)]; exact g11⟩, ⟨_, by rw [hF.2 _ (by omega)]; exact g12⟩⟩
    | succ n ih =>
      intro i w' f hi hF h1 h2 h3
      have b : w'.1 D = _ := (hF.2 D (by omega)).trans b12
      refine qX10_init_103 ?_
      refine qX10_init_104 ?_
      refine nX10_init_105 (by omega) (by omega) (fun h105 => by exfalso; omega) (fun h105 => ?_)
      refine qX10_init_108 ?_
      refine qX10_init_109 (by assumption) ?_
      refine qX10_init_112 ?_
      refine qX10_init_114 ?_
      first | refine nX10_init_115 ?_ | refine qX10_init_115 ?_
      refine qX10_init_116 ?_
      first | refine nX10_init_117 ?_ | refine qX10_init_117 ?_
      refine qX10_init_118 ?_
      refine fX10_init_119 h1 (by omega) (by decide) ?_
      generalize hv : s_up w' (D + 1) _ = v
      have h1' : v.1 (D + 1) = aN G 42 (updN f (14 * i + 0) 1) := by rw [← hv]; exact s_upS
      have b' : mO v D (0, 0, 0, 0, 0, 0, 0) := by unfold mO; rw [← hv, s_upN (by omega)]; exact b
      refine qX10_init_120 ?_
      refine qX10_init_121 (by assumption) ?_
      refine qX10_init_124 ?_
      refine qX10_init_126 ?_
      first | refine nX10_init_127 ?_ | refine qX10_init_127 ?_
      refine qX10_init_128 ?_
      first | refine nX10_init_129 ?_ | refine qX10_init_129 ?_
      refine qX10_init_130 ?_
      refine fX10_init_131 h1' (by omega) (by decide) ?_
      first | refine nX10_init_132 ?_ | refine qX10_init_132 ?_
      refine qX10_init_135 ?_
      refine ih (i + 1) _ (updN (updN f (14 * i + 0) 1) (14 * i + 1) 1) (by omega) (Fr.up (hv ▸ hF.up rfl) rfl) s_upS (fun a ha => ?_) (fun a k hk => ?_)
      · by_cases h : a = i
        · subst h
          exact ⟨by rw [updN_n (by omega), updN_s], updN_s⟩
        · rw [updN_n (by omega), updN_n (by omega), updN_n (by omega), updN_n (by omega)]
          exact h2 a (by omega)
      · rw [updN_n (by omega), updN_n (by omega)]
        exact h3 a k hk
  exact Lp 3 0 w12 (fun _ => 0) rfl Fr.rf g1 (fun a ha => absurd ha (Nat.not_lt_zero a)) (fun _ _ _ => rfl)
end INIT10
