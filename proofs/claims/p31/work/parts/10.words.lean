abbrev mX0_greatestDifference : sM := (yX0_greatestDifference, cX0_greatestDifference, 5, (some FieldType.int), false)
theorem eX0_greatestDifference {G : sG} {d : Nat} {P : sQ} {w : sW} {κ : Nat × Nat} {a1 : Nat} {a2 : Int32} {a3 : Int32} (k : wp G d mX0_greatestDifference P 0 [some (.ref a1), some (.int a2), some (.int a3), none, none] [] w κ) : wpM G (d + 1) yX0_greatestDifference κ [.ref a1, .int a2, .int a3] w P := wpM_in mX0_greatestDifference rfl (List.mem_append_right _ (List.mem_of_getElem? (i := 490) (by decide +kernel))) (by decide +kernel) (by simp [s_ent, Value.category]) (by decide) (by simp [Value.category]) (by decide +kernel) (by simp [s_loc, s_ent, Value.category, List.replicate]) k
theorem ml_RX0_7 : s_lnk RX0 7 yX2_at := Or.inr ⟨"TropicRanks", List.mem_append_right _ (List.mem_of_getElem? (i := 491) (by decide +kernel))⟩
theorem ok_X2_at : s_okm yX2_at 2 := ⟨by decide +kernel, by decide +kernel, by decide +kernel, List.mem_append_right _ (List.mem_of_getElem? (i := 3) (by decide +kernel))⟩
theorem im_X2_at : inT (.instanceMethod yX2_at) := List.mem_append_right _ (List.mem_of_getElem? (i := 303) (by decide +kernel))
theorem se_X2_at : inT (.selects RX2 yX2_at yX2_at) := List.mem_append_left _ (List.mem_of_getElem? (i := 9) (by decide +kernel))
theorem fl_RX0_13 : s_fl RX0 13 1 1 := ⟨_, _, _, "TropicRanks", rfl, by decide, Or.inr (List.mem_append_right _ (List.mem_of_getElem? (i := 40) (by decide +kernel)))⟩
abbrev mX0_missedRows : sM := (yX0_missedRows, cX0_missedRows, 7, (some FieldType.int), false)
theorem eX0_missedRows {G : sG} {d : Nat} {P : sQ} {w : sW} {κ : Nat × Nat} {a1 : Nat} {a2 : Int32} {a3 : Int32} (k : wp G d mX0_missedRows P 0 [some (.ref a1), some (.int a2), some (.int a3), none, none, none, none] [] w κ) : wpM G (d + 1) yX0_missedRows κ [.ref a1, .int a2, .int a3] w P := wpM_in mX0_missedRows rfl (List.mem_append_right _ (List.mem_of_getElem? (i := 487) (by decide +kernel))) (by decide +kernel) (by simp [s_ent, Value.category]) (by decide) (by simp [Value.category]) (by decide +kernel) (by simp [s_loc, s_ent, Value.category, List.replicate]) k
theorem fl_RX0_22 : s_fl RX0 22 1 2 := ⟨_, _, _, "TropicRanks", rfl, by decide, Or.inr (List.mem_append_right _ (List.mem_of_getElem? (i := 48) (by decide +kernel)))⟩
theorem ml_RX0_25 : s_lnk RX0 25 yX0_greatestDifference := Or.inl (List.mem_append_right _ (List.mem_of_getElem? (i := 488) (by decide +kernel)))
theorem ok_X0_greatestDifference : s_okm yX0_greatestDifference 3 := ⟨by decide +kernel, by decide +kernel, by decide +kernel, List.mem_append_right _ (List.mem_of_getElem? (i := 14) (by decide +kernel))⟩
theorem st_X0_greatestDifference : inT (.static yX0_greatestDifference) := List.mem_append_right _ (List.mem_of_getElem? (i := 489) (by decide +kernel))
abbrev mX0_neededColumns : sM := (yX0_neededColumns, cX0_neededColumns, 4, (some FieldType.int), false)
theorem eX0_neededColumns {G : sG} {d : Nat} {P : sQ} {w : sW} {κ : Nat × Nat} {a1 : Nat} (k : wp G d mX0_neededColumns P 0 [some (.ref a1), none, none, none] [] w κ) : wpM G (d + 1) yX0_neededColumns κ [.ref a1] w P := wpM_in mX0_neededColumns rfl (List.mem_append_right _ (List.mem_of_getElem? (i := 484) (by decide +kernel))) (by decide +kernel) (by simp [s_ent, Value.category]) (by decide) (by simp [Value.category]) (by decide +kernel) (by simp [s_loc, s_ent, Value.category, List.replicate]) k
theorem ml_RX0_31 : s_lnk RX0 31 yX0_missedRows := Or.inl (List.mem_append_right _ (List.mem_of_getElem? (i := 485) (by decide +kernel)))
theorem ok_X0_missedRows : s_okm yX0_missedRows 3 := ⟨by decide +kernel, by decide +kernel, by decide +kernel, List.mem_append_right _ (List.mem_of_getElem? (i := 14) (by decide +kernel))⟩
theorem st_X0_missedRows : inT (.static yX0_missedRows) := List.mem_append_right _ (List.mem_of_getElem? (i := 486) (by decide +kernel))
abbrev mX1_init : sM := (yX1_init, cX1_init, 1, (none : Option FieldType), false)
theorem eX1_init {G : sG} {d : Nat} {P : sQ} {w : sW} {κ : Nat × Nat} {a0 : Nat} (k : wp G d mX1_init P 0 [some (.ref a0)] [] w κ) : wpM G (d + 1) yX1_init κ [.ref a0] w P := wpM_in mX1_init rfl (List.mem_append_right _ (List.mem_of_getElem? (i := 164) (by decide +kernel))) (by decide +kernel) (by simp [s_ent, Value.category]) (by decide) (by simp [Value.category]) (by decide +kernel) (by simp [s_loc, s_ent, Value.category, List.replicate]) k
abbrev mX1_study : sM := (yX1_study, cX1_study, 5, (none : Option FieldType), false)
theorem eX1_study {G : sG} {d : Nat} {P : sQ} {w : sW} {κ : Nat × Nat} {a0 : Nat} {a1 : Nat} {a2 : Nat} (k : wp G d mX1_study P 0 [some (.ref a0), some (.ref a1), some (.ref a2), none, none] [] w κ) : wpM G (d + 1) yX1_study κ [.ref a0, .ref a1, .ref a2] w P := wpM_in mX1_study rfl (List.mem_append_right _ (List.mem_of_getElem? (i := 447) (by decide +kernel))) (by decide +kernel) (by simp [s_ent, Value.category]) (by decide) (by simp [Value.category]) (by decide +kernel) (by simp [s_loc, s_ent, Value.category, List.replicate]) k
theorem ml_RX1_22 : s_lnk RX1 22 yX2_size := Or.inr ⟨"TropicRanks", List.mem_append_right _ (List.mem_of_getElem? (i := 448) (by decide +kernel))⟩
theorem ok_X2_size : s_okm yX2_size 0 := ⟨by decide +kernel, by decide +kernel, by decide +kernel, List.mem_append_right _ (List.mem_of_getElem? (i := 3) (by decide +kernel))⟩
theorem im_X2_size : inT (.instanceMethod yX2_size) := List.mem_append_right _ (List.mem_of_getElem? (i := 288) (by decide +kernel))
theorem se_X2_size : inT (.selects RX2 yX2_size yX2_size) := List.mem_append_left _ (List.mem_of_getElem? (i := 7) (by decide +kernel))
theorem fl_RX1_11 : s_fl RX1 11 0 0 := ⟨_, _, _, "", rfl, by decide, Or.inl (List.mem_append_right _ (List.mem_of_getElem? (i := 166) (by decide +kernel)))⟩
theorem fl_RX1_32 : s_fl RX1 32 1 1 := ⟨_, _, _, "TropicRanks", rfl, by decide, Or.inr (List.mem_append_right _ (List.mem_of_getElem? (i := 42) (by decide +kernel)))⟩
theorem fl_RX1_35 : s_fl RX1 35 1 2 := ⟨_, _, _, "TropicRanks", rfl, by decide, Or.inr (List.mem_append_right _ (List.mem_of_getElem? (i := 47) (by decide +kernel)))⟩
theorem ml_RX1_38 : s_lnk RX1 38 yX9_isPart := Or.inr ⟨"TropicRanks", List.mem_append_right _ (List.mem_of_getElem? (i := 449) (by decide +kernel))⟩
theorem ok_X9_isPart : s_okm yX9_isPart 3 := ⟨by decide +kernel, by decide +kernel, by decide +kernel, List.mem_append_right _ (List.mem_of_getElem? (i := 1) (by decide +kernel))⟩
theorem st_X9_isPart : inT (.static yX9_isPart) := List.mem_append_right _ (List.mem_of_getElem? (i := 406) (by decide +kernel))
theorem ml_RX1_42 : s_lnk RX1 42 yX8_gather := Or.inr ⟨"TropicRanks", List.mem_append_right _ (List.mem_of_getElem? (i := 450) (by decide +kernel))⟩
theorem ok_X8_gather : s_okm yX8_gather 3 := ⟨by decide +kernel, by decide +kernel, by decide +kernel, List.mem_append_right _ (List.mem_of_getElem? (i := 6) (by decide +kernel))⟩
theorem im_X8_gather : inT (.instanceMethod yX8_gather) := List.mem_append_right _ (List.mem_of_getElem? (i := 423) (by decide +kernel))
theorem se_X8_gather : inT (.selects RX8 yX8_gather yX8_gather) := List.mem_append_left _ (List.mem_of_getElem? (i := 27) (by decide +kernel))
theorem ml_RX1_48 : s_lnk RX1 48 yX1_markLesser := Or.inl (List.mem_append_right _ (List.mem_of_getElem? (i := 451) (by decide +kernel)))
theorem ok_X1_markLesser : s_okm yX1_markLesser 1 := ⟨by decide +kernel, by decide +kernel, by decide +kernel, List.mem_append_right _ (List.mem_of_getElem? (i := 8) (by decide +kernel))⟩
theorem im_X1_markLesser : inT (.instanceMethod yX1_markLesser) := List.mem_append_right _ (List.mem_of_getElem? (i := 453) (by decide +kernel))
theorem se_X1_markLesser : inT (.selects RX1 yX1_markLesser yX1_markLesser) := List.mem_append_left _ (List.mem_of_getElem? (i := 32) (by decide +kernel))
theorem ml_RX1_52 : s_lnk RX1 52 yX1_markSupersets := Or.inl (List.mem_append_right _ (List.mem_of_getElem? (i := 460) (by decide +kernel)))
theorem ok_X1_markSupersets : s_okm yX1_markSupersets 0 := ⟨by decide +kernel, by decide +kernel, by decide +kernel, List.mem_append_right _ (List.mem_of_getElem? (i := 8) (by decide +kernel))⟩
theorem im_X1_markSupersets : inT (.instanceMethod yX1_markSupersets) := List.mem_append_right _ (List.mem_of_getElem? (i := 462) (by decide +kernel))
theorem se_X1_markSupersets : inT (.selects RX1 yX1_markSupersets yX1_markSupersets) := List.mem_append_left _ (List.mem_of_getElem? (i := 34) (by decide +kernel))
abbrev mX1_markLesser : sM := (yX1_markLesser, cX1_markLesser, 5, (none : Option FieldType), false)
theorem eX1_markLesser {G : sG} {d : Nat} {P : sQ} {w : sW} {κ : Nat × Nat} {a0 : Nat} {a1 : Nat} (k : wp G d mX1_markLesser P 0 [some (.ref a0), some (.ref a1), none, none, none] [] w κ) : wpM G (d + 1) yX1_markLesser κ [.ref a0, .ref a1] w P := wpM_in mX1_markLesser rfl (List.mem_append_right _ (List.mem_of_getElem? (i := 454) (by decide +kernel))) (by decide +kernel) (by simp [s_ent, Value.category]) (by decide) (by simp [Value.category]) (by decide +kernel) (by simp [s_loc, s_ent, Value.category, List.replicate]) k
theorem ml_RX1_55 : s_lnk RX1 55 yX8_greatestSum := Or.inr ⟨"TropicRanks", List.mem_append_right _ (List.mem_of_getElem? (i := 455) (by decide +kernel))⟩
theorem ok_X8_greatestSum : s_okm yX8_greatestSum 0 := ⟨by decide +kernel, by decide +kernel, by decide +kernel, List.mem_append_right _ (List.mem_of_getElem? (i := 6) (by decide +kernel))⟩
theorem im_X8_greatestSum : inT (.instanceMethod yX8_greatestSum) := List.mem_append_right _ (List.mem_of_getElem? (i := 457) (by decide +kernel))
theorem se_X8_greatestSum : inT (.selects RX8 yX8_greatestSum yX8_greatestSum) := List.mem_append_left _ (List.mem_of_getElem? (i := 33) (by decide +kernel))
theorem fl_RX1_58 : s_fl RX1 58 7 2 := ⟨_, _, _, "TropicRanks", rfl, by decide, Or.inr (List.mem_append_right _ (List.mem_of_getElem? (i := 129) (by decide +kernel)))⟩
theorem fl_RX1_61 : s_fl RX1 61 7 0 := ⟨_, _, _, "TropicRanks", rfl, by decide, Or.inr (List.mem_append_right _ (List.mem_of_getElem? (i := 125) (by decide +kernel)))⟩
theorem fl_RX1_64 : s_fl RX1 64 7 1 := ⟨_, _, _, "TropicRanks", rfl, by decide, Or.inr (List.mem_append_right _ (List.mem_of_getElem? (i := 127) (by decide +kernel)))⟩
abbrev mX1_markSupersets : sM := (yX1_markSupersets, cX1_markSupersets, 5, (none : Option FieldType), false)
theorem eX1_markSupersets {G : sG} {d : Nat} {P : sQ} {w : sW} {κ : Nat × Nat} {a0 : Nat} (k : wp G d mX1_markSupersets P 0 [some (.ref a0), none, none, none, none] [] w κ) : wpM G (d + 1) yX1_markSupersets κ [.ref a0] w P := wpM_in mX1_markSupersets rfl (List.mem_append_right _ (List.mem_of_getElem? (i := 463) (by decide +kernel))) (by decide +kernel) (by simp [s_ent, Value.category]) (by decide) (by simp [Value.category]) (by decide +kernel) (by simp [s_loc, s_ent, Value.category, List.replicate]) k
theorem fl_RX1_28 : s_fl RX1 28 0 3 := ⟨_, _, _, "", rfl, by decide, Or.inl (List.mem_append_right _ (List.mem_of_getElem? (i := 170) (by decide +kernel)))⟩
abbrev mX1_canTouchAll : sM := (yX1_canTouchAll, cX1_canTouchAll, 2, (some FieldType.boolean), false)
theorem eX1_canTouchAll {G : sG} {d : Nat} {P : sQ} {w : sW} {κ : Nat × Nat} {a0 : Nat} {a1 : Int32} (k : wp G d mX1_canTouchAll P 0 [some (.ref a0), some (.int a1)] [] w κ) : wpM G (d + 1) yX1_canTouchAll κ [.ref a0, .int a1] w P := wpM_in mX1_canTouchAll rfl (List.mem_append_right _ (List.mem_of_getElem? (i := 477) (by decide +kernel))) (by decide +kernel) (by simp [s_ent, Value.category]) (by decide) (by simp [Value.category]) (by decide +kernel) (by simp [s_loc, s_ent, Value.category, List.replicate]) k
abbrev mX1_touchableSets : sM := (yX1_touchableSets, cX1_touchableSets, 3, (some FieldType.int), false)
theorem eX1_touchableSets {G : sG} {d : Nat} {P : sQ} {w : sW} {κ : Nat × Nat} {a0 : Nat} (k : wp G d mX1_touchableSets P 0 [some (.ref a0), none, none] [] w κ) : wpM G (d + 1) yX1_touchableSets κ [.ref a0] w P := wpM_in mX1_touchableSets rfl (List.mem_append_right _ (List.mem_of_getElem? (i := 614) (by decide +kernel))) (by decide +kernel) (by simp [s_ent, Value.category]) (by decide) (by simp [Value.category]) (by decide +kernel) (by simp [s_loc, s_ent, Value.category, List.replicate]) k
theorem ml_RX1_75 : s_lnk RX1 75 yJ13_bitCount_95d88 := Or.inl (List.mem_append_right _ (List.mem_of_getElem? (i := 615) (by decide +kernel)))
theorem ok_J13_bitCount_95d88 : s_okm yJ13_bitCount_95d88 1 := ⟨by decide +kernel, by decide +kernel, by decide +kernel, List.mem_append_right _ (List.mem_of_getElem? (i := 13) (by decide +kernel))⟩
theorem st_J13_bitCount_95d88 : inT (.static yJ13_bitCount_95d88) := List.mem_append_right _ (List.mem_of_getElem? (i := 616) (by decide +kernel))
abbrev mX1_greatestSet : sM := (yX1_greatestSet, cX1_greatestSet, 3, (some FieldType.int), false)
theorem eX1_greatestSet {G : sG} {d : Nat} {P : sQ} {w : sW} {κ : Nat × Nat} {a0 : Nat} (k : wp G d mX1_greatestSet P 0 [some (.ref a0), none, none] [] w κ) : wpM G (d + 1) yX1_greatestSet κ [.ref a0] w P := wpM_in mX1_greatestSet rfl (List.mem_append_right _ (List.mem_of_getElem? (i := 624) (by decide +kernel))) (by decide +kernel) (by simp [s_ent, Value.category]) (by decide) (by simp [Value.category]) (by decide +kernel) (by simp [s_loc, s_ent, Value.category, List.replicate]) k
theorem ml_RX1_81 : s_lnk RX1 81 yJ6_bitCount_0f7a4 := Or.inl (List.mem_append_right _ (List.mem_of_getElem? (i := 625) (by decide +kernel)))
theorem ok_J6_bitCount_0f7a4 : s_okm yJ6_bitCount_0f7a4 1 := ⟨by decide +kernel, by decide +kernel, by decide +kernel, List.mem_append_right _ (List.mem_of_getElem? (i := 12) (by decide +kernel))⟩
theorem st_J6_bitCount_0f7a4 : inT (.static yJ6_bitCount_0f7a4) := List.mem_append_right _ (List.mem_of_getElem? (i := 412) (by decide +kernel))
theorem ml_RX1_86 : s_lnk RX1 86 yX1_canTouchAll := Or.inl (List.mem_append_right _ (List.mem_of_getElem? (i := 474) (by decide +kernel)))
theorem ok_X1_canTouchAll : s_okm yX1_canTouchAll 1 := ⟨by decide +kernel, by decide +kernel, by decide +kernel, List.mem_append_right _ (List.mem_of_getElem? (i := 8) (by decide +kernel))⟩
theorem im_X1_canTouchAll : inT (.instanceMethod yX1_canTouchAll) := List.mem_append_right _ (List.mem_of_getElem? (i := 476) (by decide +kernel))
theorem se_X1_canTouchAll : inT (.selects RX1 yX1_canTouchAll yX1_canTouchAll) := List.mem_append_left _ (List.mem_of_getElem? (i := 36) (by decide +kernel))
abbrev mX1_findFirstRow : sM := (yX1_findFirstRow, cX1_findFirstRow, 4, (some FieldType.int), false)
theorem eX1_findFirstRow {G : sG} {d : Nat} {P : sQ} {w : sW} {κ : Nat × Nat} {a0 : Nat} (k : wp G d mX1_findFirstRow P 0 [some (.ref a0), none, none, none] [] w κ) : wpM G (d + 1) yX1_findFirstRow κ [.ref a0] w P := wpM_in mX1_findFirstRow rfl (List.mem_append_right _ (List.mem_of_getElem? (i := 470) (by decide +kernel))) (by decide +kernel) (by simp [s_ent, Value.category]) (by decide) (by simp [Value.category]) (by decide +kernel) (by simp [s_loc, s_ent, Value.category, List.replicate]) k
theorem fl_RX1_19 : s_fl RX1 19 0 2 := ⟨_, _, _, "", rfl, by decide, Or.inl (List.mem_append_right _ (List.mem_of_getElem? (i := 169) (by decide +kernel)))⟩
theorem ml_RX1_90 : s_lnk RX1 90 yX1_fill := Or.inl (List.mem_append_right _ (List.mem_of_getElem? (i := 471) (by decide +kernel)))
theorem ok_X1_fill : s_okm yX1_fill 3 := ⟨by decide +kernel, by decide +kernel, by decide +kernel, List.mem_append_right _ (List.mem_of_getElem? (i := 8) (by decide +kernel))⟩
theorem st_X1_fill : inT (.static yX1_fill) := List.mem_append_right _ (List.mem_of_getElem? (i := 472) (by decide +kernel))
abbrev mX1_fill : sM := (yX1_fill, cX1_fill, 5, (some FieldType.boolean), false)
theorem eX1_fill {G : sG} {d : Nat} {P : sQ} {w : sW} {κ : Nat × Nat} {a1 : Nat} {a2 : Int32} {a3 : Int32} (k : wp G d mX1_fill P 0 [some (.ref a1), some (.int a2), some (.int a3), none, none] [] w κ) : wpM G (d + 1) yX1_fill κ [.ref a1, .int a2, .int a3] w P := wpM_in mX1_fill rfl (List.mem_append_right _ (List.mem_of_getElem? (i := 473) (by decide +kernel))) (by decide +kernel) (by simp [s_ent, Value.category]) (by decide) (by simp [Value.category]) (by decide +kernel) (by simp [s_loc, s_ent, Value.category, List.replicate]) k
theorem fl_RX1_15 : s_fl RX1 15 0 1 := ⟨_, _, _, "", rfl, by decide, Or.inl (List.mem_append_right _ (List.mem_of_getElem? (i := 167) (by decide +kernel)))⟩
abbrev mX2_init : sM := (yX2_init, cX2_init, 1, (none : Option FieldType), false)
theorem eX2_init {G : sG} {d : Nat} {P : sQ} {w : sW} {κ : Nat × Nat} {a0 : Nat} (k : wp G d mX2_init P 0 [some (.ref a0)] [] w κ) : wpM G (d + 1) yX2_init κ [.ref a0] w P := wpM_in mX2_init rfl (List.mem_append_right _ (List.mem_of_getElem? (i := 34) (by decide +kernel))) (by decide +kernel) (by simp [s_ent, Value.category]) (by decide) (by simp [Value.category]) (by decide +kernel) (by simp [s_loc, s_ent, Value.category, List.replicate]) k
abbrev mX2_size : sM := (yX2_size, cX2_size, 1, (some FieldType.int), false)
theorem eX2_size {G : sG} {d : Nat} {P : sQ} {w : sW} {κ : Nat × Nat} {a0 : Nat} (k : wp G d mX2_size P 0 [some (.ref a0)] [] w κ) : wpM G (d + 1) yX2_size κ [.ref a0] w P := wpM_in mX2_size rfl (List.mem_append_right _ (List.mem_of_getElem? (i := 289) (by decide +kernel))) (by decide +kernel) (by simp [s_ent, Value.category]) (by decide) (by simp [Value.category]) (by decide +kernel) (by simp [s_loc, s_ent, Value.category, List.replicate]) k
theorem fl_RX2_15 : s_fl RX2 15 1 1 := ⟨_, _, _, "", rfl, by decide, Or.inl (List.mem_append_right _ (List.mem_of_getElem? (i := 38) (by decide +kernel)))⟩
theorem fl_RX2_19 : s_fl RX2 19 1 2 := ⟨_, _, _, "", rfl, by decide, Or.inl (List.mem_append_right _ (List.mem_of_getElem? (i := 45) (by decide +kernel)))⟩
abbrev mX2_has : sM := (yX2_has, cX2_has, 3, (some FieldType.boolean), false)
theorem eX2_has {G : sG} {d : Nat} {P : sQ} {w : sW} {κ : Nat × Nat} {a0 : Nat} {a1 : Int32} {a2 : Int32} (k : wp G d mX2_has P 0 [some (.ref a0), some (.int a1), some (.int a2)] [] w κ) : wpM G (d + 1) yX2_has κ [.ref a0, .int a1, .int a2] w P := wpM_in mX2_has rfl (List.mem_append_right _ (List.mem_of_getElem? (i := 297) (by decide +kernel))) (by decide +kernel) (by simp [s_ent, Value.category]) (by decide) (by simp [Value.category]) (by decide +kernel) (by simp [s_loc, s_ent, Value.category, List.replicate]) k
abbrev mX2_place : sM := (yX2_place, cX2_place, 3, (some FieldType.int), false)
theorem eX2_place {G : sG} {d : Nat} {P : sQ} {w : sW} {κ : Nat × Nat} {a0 : Nat} {a1 : Int32} {a2 : Int32} (k : wp G d mX2_place P 0 [some (.ref a0), some (.int a1), some (.int a2)] [] w κ) : wpM G (d + 1) yX2_place κ [.ref a0, .int a1, .int a2] w P := wpM_in mX2_place rfl (List.mem_append_right _ (List.mem_of_getElem? (i := 308) (by decide +kernel))) (by decide +kernel) (by simp [s_ent, Value.category]) (by decide) (by simp [Value.category]) (by decide +kernel) (by simp [s_loc, s_ent, Value.category, List.replicate]) k
abbrev mX2_at : sM := (yX2_at, cX2_at, 3, (some FieldType.int), false)
theorem eX2_at {G : sG} {d : Nat} {P : sQ} {w : sW} {κ : Nat × Nat} {a0 : Nat} {a1 : Int32} {a2 : Int32} (k : wp G d mX2_at P 0 [some (.ref a0), some (.int a1), some (.int a2)] [] w κ) : wpM G (d + 1) yX2_at κ [.ref a0, .int a1, .int a2] w P := wpM_in mX2_at rfl (List.mem_append_right _ (List.mem_of_getElem? (i := 304) (by decide +kernel))) (by decide +kernel) (by simp [s_ent, Value.category]) (by decide) (by simp [Value.category]) (by decide +kernel) (by simp [s_loc, s_ent, Value.category, List.replicate]) k
theorem fl_RX2_9 : s_fl RX2 9 1 0 := ⟨_, _, _, "", rfl, by decide, Or.inl (List.mem_append_right _ (List.mem_of_getElem? (i := 36) (by decide +kernel)))⟩
theorem ml_RX2_22 : s_lnk RX2 22 yX2_place := Or.inl (List.mem_append_right _ (List.mem_of_getElem? (i := 305) (by decide +kernel)))
theorem ok_X2_place : s_okm yX2_place 2 := ⟨by decide +kernel, by decide +kernel, by decide +kernel, List.mem_append_right _ (List.mem_of_getElem? (i := 3) (by decide +kernel))⟩
theorem im_X2_place : inT (.instanceMethod yX2_place) := List.mem_append_right _ (List.mem_of_getElem? (i := 307) (by decide +kernel))
theorem se_X2_place : inT (.selects RX2 yX2_place yX2_place) := List.mem_append_left _ (List.mem_of_getElem? (i := 10) (by decide +kernel))
abbrev mX2_assign : sM := (yX2_assign, cX2_assign, 4, (none : Option FieldType), false)
theorem eX2_assign {G : sG} {d : Nat} {P : sQ} {w : sW} {κ : Nat × Nat} {a0 : Nat} {a1 : Int32} {a2 : Int32} {a3 : Int32} (k : wp G d mX2_assign P 0 [some (.ref a0), some (.int a1), some (.int a2), some (.int a3)] [] w κ) : wpM G (d + 1) yX2_assign κ [.ref a0, .int a1, .int a2, .int a3] w P := wpM_in mX2_assign rfl (List.mem_append_right _ (List.mem_of_getElem? (i := 312) (by decide +kernel))) (by decide +kernel) (by simp [s_ent, Value.category]) (by decide) (by simp [Value.category]) (by decide +kernel) (by simp [s_loc, s_ent, Value.category, List.replicate]) k
abbrev mX2_reshape : sM := (yX2_reshape, cX2_reshape, 3, (none : Option FieldType), false)
theorem eX2_reshape {G : sG} {d : Nat} {P : sQ} {w : sW} {κ : Nat × Nat} {a0 : Nat} {a1 : Int32} {a2 : Int32} (k : wp G d mX2_reshape P 0 [some (.ref a0), some (.int a1), some (.int a2)] [] w κ) : wpM G (d + 1) yX2_reshape κ [.ref a0, .int a1, .int a2] w P := wpM_in mX2_reshape rfl (List.mem_append_right _ (List.mem_of_getElem? (i := 276) (by decide +kernel))) (by decide +kernel) (by simp [s_ent, Value.category]) (by decide) (by simp [Value.category]) (by decide +kernel) (by simp [s_loc, s_ent, Value.category, List.replicate]) k
abbrev mX2_become : sM := (yX2_become, cX2_become, 2, (none : Option FieldType), false)
theorem eX2_become {G : sG} {d : Nat} {P : sQ} {w : sW} {κ : Nat × Nat} {a0 : Nat} {a1 : Nat} (k : wp G d mX2_become P 0 [some (.ref a0), some (.ref a1)] [] w κ) : wpM G (d + 1) yX2_become κ [.ref a0, .ref a1] w P := wpM_in mX2_become rfl (List.mem_append_right _ (List.mem_of_getElem? (i := 272) (by decide +kernel))) (by decide +kernel) (by simp [s_ent, Value.category]) (by decide) (by simp [Value.category]) (by decide +kernel) (by simp [s_loc, s_ent, Value.category, List.replicate]) k
theorem ml_RX2_26 : s_lnk RX2 26 yX2_reshape := Or.inl (List.mem_append_right _ (List.mem_of_getElem? (i := 273) (by decide +kernel)))
theorem ok_X2_reshape : s_okm yX2_reshape 2 := ⟨by decide +kernel, by decide +kernel, by decide +kernel, List.mem_append_right _ (List.mem_of_getElem? (i := 3) (by decide +kernel))⟩
theorem im_X2_reshape : inT (.instanceMethod yX2_reshape) := List.mem_append_right _ (List.mem_of_getElem? (i := 275) (by decide +kernel))
theorem se_X2_reshape : inT (.selects RX2 yX2_reshape yX2_reshape) := List.mem_append_left _ (List.mem_of_getElem? (i := 5) (by decide +kernel))
abbrev mX2_becomeTurned : sM := (yX2_becomeTurned, cX2_becomeTurned, 4, (none : Option FieldType), false)
theorem eX2_becomeTurned {G : sG} {d : Nat} {P : sQ} {w : sW} {κ : Nat × Nat} {a0 : Nat} {a1 : Nat} (k : wp G d mX2_becomeTurned P 0 [some (.ref a0), some (.ref a1), none, none] [] w κ) : wpM G (d + 1) yX2_becomeTurned κ [.ref a0, .ref a1] w P := wpM_in mX2_becomeTurned rfl (List.mem_append_right _ (List.mem_of_getElem? (i := 369) (by decide +kernel))) (by decide +kernel) (by simp [s_ent, Value.category]) (by decide) (by simp [Value.category]) (by decide +kernel) (by simp [s_loc, s_ent, Value.category, List.replicate]) k
theorem ml_RX2_36 : s_lnk RX2 36 yX2_at := Or.inl (List.mem_append_right _ (List.mem_of_getElem? (i := 361) (by decide +kernel)))
theorem ml_RX2_39 : s_lnk RX2 39 yX2_assign := Or.inl (List.mem_append_right _ (List.mem_of_getElem? (i := 370) (by decide +kernel)))
theorem ok_X2_assign : s_okm yX2_assign 3 := ⟨by decide +kernel, by decide +kernel, by decide +kernel, List.mem_append_right _ (List.mem_of_getElem? (i := 3) (by decide +kernel))⟩
theorem im_X2_assign : inT (.instanceMethod yX2_assign) := List.mem_append_right _ (List.mem_of_getElem? (i := 311) (by decide +kernel))
theorem se_X2_assign : inT (.selects RX2 yX2_assign yX2_assign) := List.mem_append_left _ (List.mem_of_getElem? (i := 11) (by decide +kernel))
abbrev mX2_becomeProduct : sM := (yX2_becomeProduct, cX2_becomeProduct, 7, (none : Option FieldType), false)
theorem eX2_becomeProduct {G : sG} {d : Nat} {P : sQ} {w : sW} {κ : Nat × Nat} {a0 : Nat} {a1 : Nat} {a2 : Nat} (k : wp G d mX2_becomeProduct P 0 [some (.ref a0), some (.ref a1), some (.ref a2), none, none, none, none] [] w κ) : wpM G (d + 1) yX2_becomeProduct κ [.ref a0, .ref a1, .ref a2] w P := wpM_in mX2_becomeProduct rfl (List.mem_append_right _ (List.mem_of_getElem? (i := 379) (by decide +kernel))) (by decide +kernel) (by simp [s_ent, Value.category]) (by decide) (by simp [Value.category]) (by decide +kernel) (by simp [s_loc, s_ent, Value.category, List.replicate]) k
abbrev mX2_shortenWays : sM := (yX2_shortenWays, cX2_shortenWays, 4, (none : Option FieldType), false)
theorem eX2_shortenWays {G : sG} {d : Nat} {P : sQ} {w : sW} {κ : Nat × Nat} {a0 : Nat} (k : wp G d mX2_shortenWays P 0 [some (.ref a0), none, none, none] [] w κ) : wpM G (d + 1) yX2_shortenWays κ [.ref a0] w P := wpM_in mX2_shortenWays rfl (List.mem_append_right _ (List.mem_of_getElem? (i := 388) (by decide +kernel))) (by decide +kernel) (by simp [s_ent, Value.category]) (by decide) (by simp [Value.category]) (by decide +kernel) (by simp [s_loc, s_ent, Value.category, List.replicate]) k
abbrev mX2_greatest : sM := (yX2_greatest, cX2_greatest, 3, (some FieldType.int), false)
theorem eX2_greatest {G : sG} {d : Nat} {P : sQ} {w : sW} {κ : Nat × Nat} {a0 : Nat} (k : wp G d mX2_greatest P 0 [some (.ref a0), none, none] [] w κ) : wpM G (d + 1) yX2_greatest κ [.ref a0] w P := wpM_in mX2_greatest rfl (List.mem_append_right _ (List.mem_of_getElem? (i := 341) (by decide +kernel))) (by decide +kernel) (by simp [s_ent, Value.category]) (by decide) (by simp [Value.category]) (by decide +kernel) (by simp [s_loc, s_ent, Value.category, List.replicate]) k
theorem ml_RX2_48 : s_lnk RX2 48 yX2_size := Or.inl (List.mem_append_right _ (List.mem_of_getElem? (i := 342) (by decide +kernel)))
abbrev mX2_least : sM := (yX2_least, cX2_least, 3, (some FieldType.int), false)
theorem eX2_least {G : sG} {d : Nat} {P : sQ} {w : sW} {κ : Nat × Nat} {a0 : Nat} (k : wp G d mX2_least P 0 [some (.ref a0), none, none] [] w κ) : wpM G (d + 1) yX2_least κ [.ref a0] w P := wpM_in mX2_least rfl (List.mem_append_right _ (List.mem_of_getElem? (i := 568) (by decide +kernel))) (by decide +kernel) (by simp [s_ent, Value.category]) (by decide) (by simp [Value.category]) (by decide +kernel) (by simp [s_loc, s_ent, Value.category, List.replicate]) k
abbrev mX2_unlikeEntries : sM := (yX2_unlikeEntries, cX2_unlikeEntries, 4, (some FieldType.int), false)
theorem eX2_unlikeEntries {G : sG} {d : Nat} {P : sQ} {w : sW} {κ : Nat × Nat} {a0 : Nat} (k : wp G d mX2_unlikeEntries P 0 [some (.ref a0), none, none, none] [] w κ) : wpM G (d + 1) yX2_unlikeEntries κ [.ref a0] w P := wpM_in mX2_unlikeEntries rfl (List.mem_append_right _ (List.mem_of_getElem? (i := 572) (by decide +kernel))) (by decide +kernel) (by simp [s_ent, Value.category]) (by decide) (by simp [Value.category]) (by decide +kernel) (by simp [s_loc, s_ent, Value.category, List.replicate]) k
abbrev mX2_unlikeIn : sM := (yX2_unlikeIn, cX2_unlikeIn, 4, (some FieldType.int), false)
theorem eX2_unlikeIn {G : sG} {d : Nat} {P : sQ} {w : sW} {κ : Nat × Nat} {a0 : Nat} {a1 : Nat} (k : wp G d mX2_unlikeIn P 0 [some (.ref a0), some (.ref a1), none, none] [] w κ) : wpM G (d + 1) yX2_unlikeIn κ [.ref a0, .ref a1] w P := wpM_in mX2_unlikeIn rfl (List.mem_append_right _ (List.mem_of_getElem? (i := 392) (by decide +kernel))) (by decide +kernel) (by simp [s_ent, Value.category]) (by decide) (by simp [Value.category]) (by decide +kernel) (by simp [s_loc, s_ent, Value.category, List.replicate]) k
abbrev mX2_lines : sM := (yX2_lines, cX2_lines, 2, (some FieldType.int), false)
theorem eX2_lines {G : sG} {d : Nat} {P : sQ} {w : sW} {κ : Nat × Nat} {a0 : Nat} {a1 : Int32} (k : wp G d mX2_lines P 0 [some (.ref a0), some (.int a1)] [] w κ) : wpM G (d + 1) yX2_lines κ [.ref a0, .int a1] w P := wpM_in mX2_lines rfl (List.mem_append_right _ (List.mem_of_getElem? (i := 324) (by decide +kernel))) (by decide +kernel) (by simp [s_ent, Value.category]) (by decide) (by simp [Value.category]) (by decide +kernel) (by simp [s_loc, s_ent, Value.category, List.replicate]) k
abbrev mX2_hasLine : sM := (yX2_hasLine, cX2_hasLine, 3, (some FieldType.boolean), false)
theorem eX2_hasLine {G : sG} {d : Nat} {P : sQ} {w : sW} {κ : Nat × Nat} {a0 : Nat} {a1 : Int32} {a2 : Int32} (k : wp G d mX2_hasLine P 0 [some (.ref a0), some (.int a1), some (.int a2)] [] w κ) : wpM G (d + 1) yX2_hasLine κ [.ref a0, .int a1, .int a2] w P := wpM_in mX2_hasLine rfl (List.mem_append_right _ (List.mem_of_getElem? (i := 320) (by decide +kernel))) (by decide +kernel) (by simp [s_ent, Value.category]) (by decide) (by simp [Value.category]) (by decide +kernel) (by simp [s_loc, s_ent, Value.category, List.replicate]) k
theorem ml_RX2_55 : s_lnk RX2 55 yX2_lines := Or.inl (List.mem_append_right _ (List.mem_of_getElem? (i := 321) (by decide +kernel)))
theorem ok_X2_lines : s_okm yX2_lines 1 := ⟨by decide +kernel, by decide +kernel, by decide +kernel, List.mem_append_right _ (List.mem_of_getElem? (i := 3) (by decide +kernel))⟩
theorem im_X2_lines : inT (.instanceMethod yX2_lines) := List.mem_append_right _ (List.mem_of_getElem? (i := 323) (by decide +kernel))
theorem se_X2_lines : inT (.selects RX2 yX2_lines yX2_lines) := List.mem_append_left _ (List.mem_of_getElem? (i := 13) (by decide +kernel))
abbrev mX2_placeInLine : sM := (yX2_placeInLine, cX2_placeInLine, 4, (some FieldType.int), false)
theorem eX2_placeInLine {G : sG} {d : Nat} {P : sQ} {w : sW} {κ : Nat × Nat} {a0 : Nat} {a1 : Int32} {a2 : Int32} {a3 : Int32} (k : wp G d mX2_placeInLine P 0 [some (.ref a0), some (.int a1), some (.int a2), some (.int a3)] [] w κ) : wpM G (d + 1) yX2_placeInLine κ [.ref a0, .int a1, .int a2, .int a3] w P := wpM_in mX2_placeInLine rfl (List.mem_append_right _ (List.mem_of_getElem? (i := 332) (by decide +kernel))) (by decide +kernel) (by simp [s_ent, Value.category]) (by decide) (by simp [Value.category]) (by decide +kernel) (by simp [s_loc, s_ent, Value.category, List.replicate]) k
abbrev mX2_canAdd : sM := (yX2_canAdd, cX2_canAdd, 5, (some FieldType.boolean), false)
theorem eX2_canAdd {G : sG} {d : Nat} {P : sQ} {w : sW} {κ : Nat × Nat} {a0 : Nat} {a1 : Int32} {a2 : Int32} {a3 : Int32} (k : wp G d mX2_canAdd P 0 [some (.ref a0), some (.int a1), some (.int a2), some (.int a3), none] [] w κ) : wpM G (d + 1) yX2_canAdd κ [.ref a0, .int a1, .int a2, .int a3] w P := wpM_in mX2_canAdd rfl (List.mem_append_right _ (List.mem_of_getElem? (i := 328) (by decide +kernel))) (by decide +kernel) (by simp [s_ent, Value.category]) (by decide) (by simp [Value.category]) (by decide +kernel) (by simp [s_loc, s_ent, Value.category, List.replicate]) k
theorem ml_RX2_59 : s_lnk RX2 59 yX2_placeInLine := Or.inl (List.mem_append_right _ (List.mem_of_getElem? (i := 329) (by decide +kernel)))
theorem ok_X2_placeInLine : s_okm yX2_placeInLine 3 := ⟨by decide +kernel, by decide +kernel, by decide +kernel, List.mem_append_right _ (List.mem_of_getElem? (i := 3) (by decide +kernel))⟩
theorem im_X2_placeInLine : inT (.instanceMethod yX2_placeInLine) := List.mem_append_right _ (List.mem_of_getElem? (i := 331) (by decide +kernel))
theorem se_X2_placeInLine : inT (.selects RX2 yX2_placeInLine yX2_placeInLine) := List.mem_append_left _ (List.mem_of_getElem? (i := 15) (by decide +kernel))
theorem ml_RX2_63 : s_lnk RX2 63 yX9_isValue := Or.inr ⟨"TropicRanks", List.mem_append_right _ (List.mem_of_getElem? (i := 333) (by decide +kernel))⟩
theorem ok_X9_isValue : s_okm yX9_isValue 1 := ⟨by decide +kernel, by decide +kernel, by decide +kernel, List.mem_append_right _ (List.mem_of_getElem? (i := 1) (by decide +kernel))⟩
theorem st_X9_isValue : inT (.static yX9_isValue) := List.mem_append_right _ (List.mem_of_getElem? (i := 299) (by decide +kernel))
abbrev mX2_add : sM := (yX2_add, cX2_add, 5, (none : Option FieldType), false)
theorem eX2_add {G : sG} {d : Nat} {P : sQ} {w : sW} {κ : Nat × Nat} {a0 : Nat} {a1 : Int32} {a2 : Int32} {a3 : Int32} (k : wp G d mX2_add P 0 [some (.ref a0), some (.int a1), some (.int a2), some (.int a3), none] [] w κ) : wpM G (d + 1) yX2_add κ [.ref a0, .int a1, .int a2, .int a3] w P := wpM_in mX2_add rfl (List.mem_append_right _ (List.mem_of_getElem? (i := 337) (by decide +kernel))) (by decide +kernel) (by simp [s_ent, Value.category]) (by decide) (by simp [Value.category]) (by decide +kernel) (by simp [s_loc, s_ent, Value.category, List.replicate]) k
abbrev mX2_swapLines : sM := (yX2_swapLines, cX2_swapLines, 9, (some FieldType.boolean), false)
theorem eX2_swapLines {G : sG} {d : Nat} {P : sQ} {w : sW} {κ : Nat × Nat} {a0 : Nat} {a1 : Int32} {a2 : Int32} {a3 : Int32} (k : wp G d mX2_swapLines P 0 [some (.ref a0), some (.int a1), some (.int a2), some (.int a3), none, none, none, none, none] [] w κ) : wpM G (d + 1) yX2_swapLines κ [.ref a0, .int a1, .int a2, .int a3] w P := wpM_in mX2_swapLines rfl (List.mem_append_right _ (List.mem_of_getElem? (i := 351) (by decide +kernel))) (by decide +kernel) (by simp [s_ent, Value.category]) (by decide) (by simp [Value.category]) (by decide +kernel) (by simp [s_loc, s_ent, Value.category, List.replicate]) k
abbrev mX2_removeLine : sM := (yX2_removeLine, cX2_removeLine, 6, (none : Option FieldType), false)
theorem eX2_removeLine {G : sG} {d : Nat} {P : sQ} {w : sW} {κ : Nat × Nat} {a0 : Nat} {a1 : Int32} {a2 : Int32} (k : wp G d mX2_removeLine P 0 [some (.ref a0), some (.int a1), some (.int a2), none, none, none] [] w κ) : wpM G (d + 1) yX2_removeLine κ [.ref a0, .int a1, .int a2] w P := wpM_in mX2_removeLine rfl (List.mem_append_right _ (List.mem_of_getElem? (i := 360) (by decide +kernel))) (by decide +kernel) (by simp [s_ent, Value.category]) (by decide) (by simp [Value.category]) (by decide +kernel) (by simp [s_loc, s_ent, Value.category, List.replicate]) k
abbrev mX3_init : sM := (yX3_init, cX3_init, 2, (none : Option FieldType), false)
theorem eX3_init {G : sG} {d : Nat} {P : sQ} {w : sW} {κ : Nat × Nat} {a0 : Nat} (k : wp G d mX3_init P 0 [some (.ref a0), none] [] w κ) : wpM G (d + 1) yX3_init κ [.ref a0] w P := wpM_in mX3_init rfl (List.mem_append_right _ (List.mem_of_getElem? (i := 68) (by decide +kernel))) (by decide +kernel) (by simp [s_ent, Value.category]) (by decide) (by simp [Value.category]) (by decide +kernel) (by simp [s_loc, s_ent, Value.category, List.replicate]) k
theorem fl_RX3_11 : s_fl RX3 11 2 0 := ⟨_, _, _, "", rfl, by decide, Or.inl (List.mem_append_right _ (List.mem_of_getElem? (i := 73) (by decide +kernel)))⟩
theorem ml_RX3_22 : s_lnk RX3 22 yX7_init := Or.inr ⟨"TropicRanks", List.mem_append_right _ (List.mem_of_getElem? (i := 72) (by decide +kernel))⟩
theorem ok_X7_init : s_okm yX7_init 0 := ⟨by decide +kernel, by decide +kernel, by decide +kernel, List.mem_append_right _ (List.mem_of_getElem? (i := 2) (by decide +kernel))⟩
theorem im_X7_init : inT (.instanceMethod yX7_init) := List.mem_append_right _ (List.mem_of_getElem? (i := 26) (by decide +kernel))
abbrev mX3_remember : sM := (yX3_remember, cX3_remember, 2, (none : Option FieldType), false)
theorem eX3_remember {G : sG} {d : Nat} {P : sQ} {w : sW} {κ : Nat × Nat} {a0 : Nat} {a1 : Nat} (k : wp G d mX3_remember P 0 [some (.ref a0), some (.ref a1)] [] w κ) : wpM G (d + 1) yX3_remember κ [.ref a0, .ref a1] w P := wpM_in mX3_remember rfl (List.mem_append_right _ (List.mem_of_getElem? (i := 264) (by decide +kernel))) (by decide +kernel) (by simp [s_ent, Value.category]) (by decide) (by simp [Value.category]) (by decide +kernel) (by simp [s_loc, s_ent, Value.category, List.replicate]) k
theorem fl_RX3_15 : s_fl RX3 15 2 1 := ⟨_, _, _, "", rfl, by decide, Or.inl (List.mem_append_right _ (List.mem_of_getElem? (i := 74) (by decide +kernel)))⟩
theorem ml_RX3_23 : s_lnk RX3 23 yX7_become := Or.inr ⟨"TropicRanks", List.mem_append_right _ (List.mem_of_getElem? (i := 265) (by decide +kernel))⟩
theorem ok_X7_become : s_okm yX7_become 1 := ⟨by decide +kernel, by decide +kernel, by decide +kernel, List.mem_append_right _ (List.mem_of_getElem? (i := 2) (by decide +kernel))⟩
theorem im_X7_become : inT (.instanceMethod yX7_become) := List.mem_append_right _ (List.mem_of_getElem? (i := 267) (by decide +kernel))
theorem se_X7_become : inT (.selects RX7 yX7_become yX7_become) := List.mem_append_left _ (List.mem_of_getElem? (i := 3) (by decide +kernel))
theorem fl_RX3_19 : s_fl RX3 19 2 2 := ⟨_, _, _, "", rfl, by decide, Or.inl (List.mem_append_right _ (List.mem_of_getElem? (i := 75) (by decide +kernel)))⟩
abbrev mX4_init : sM := (yX4_init, cX4_init, 1, (none : Option FieldType), false)
theorem eX4_init {G : sG} {d : Nat} {P : sQ} {w : sW} {κ : Nat × Nat} {a0 : Nat} (k : wp G d mX4_init P 0 [some (.ref a0)] [] w κ) : wpM G (d + 1) yX4_init κ [.ref a0] w P := wpM_in mX4_init rfl (List.mem_append_right _ (List.mem_of_getElem? (i := 88) (by decide +kernel))) (by decide +kernel) (by simp [s_ent, Value.category]) (by decide) (by simp [Value.category]) (by decide +kernel) (by simp [s_loc, s_ent, Value.category, List.replicate]) k
abbrev mX4_charactersIn : sM := (yX4_charactersIn, cX4_charactersIn, 6, (some FieldType.int), true)
theorem eX4_charactersIn {G : sG} {d : Nat} {P : sQ} {w : sW} {κ : Nat × Nat} {a1 : Int64} (k : wp G d mX4_charactersIn P 0 [some (.long a1), none, none, none, none, none] [] w κ) : wpM G (d + 1) yX4_charactersIn κ [.long a1] w P := wpM_in mX4_charactersIn rfl (List.mem_append_right _ (List.mem_of_getElem? (i := 504) (by decide +kernel))) (by decide +kernel) (by simp [s_ent, Value.category]) (by decide) (by simp [Value.category]) (by decide +kernel) (by simp [s_loc, s_ent, Value.category, List.replicate]) k
abbrev mX4_append : sM := (yX4_append, cX4_append, 5, (none : Option FieldType), true)
theorem eX4_append {G : sG} {d : Nat} {P : sQ} {w : sW} {κ : Nat × Nat} {a0 : Nat} {a1 : Int64} {a2 : Int32} (k : wp G d mX4_append P 0 [some (.ref a0), some (.long a1), none, some (.int a2), none] [] w κ) : wpM G (d + 1) yX4_append κ [.ref a0, .long a1, .int a2] w P := wpM_in mX4_append rfl (List.mem_append_right _ (List.mem_of_getElem? (i := 509) (by decide +kernel))) (by decide +kernel) (by simp [s_ent, Value.category]) (by decide) (by simp [Value.category]) (by decide +kernel) (by simp [s_loc, s_ent, Value.category, List.replicate]) k
theorem fl_RX4_11 : s_fl RX4 11 3 0 := ⟨_, _, _, "", rfl, by decide, Or.inl (List.mem_append_right _ (List.mem_of_getElem? (i := 90) (by decide +kernel)))⟩
theorem fl_RX4_15 : s_fl RX4 15 3 1 := ⟨_, _, _, "", rfl, by decide, Or.inl (List.mem_append_right _ (List.mem_of_getElem? (i := 91) (by decide +kernel)))⟩
abbrev mX4_isDigit : sM := (yX4_isDigit, cX4_isDigit, 1, (some FieldType.boolean), false)
theorem eX4_isDigit {G : sG} {d : Nat} {P : sQ} {w : sW} {κ : Nat × Nat} {a1 : Int32} (k : wp G d mX4_isDigit P 0 [some (.int a1)] [] w κ) : wpM G (d + 1) yX4_isDigit κ [.int a1] w P := wpM_in mX4_isDigit rfl (List.mem_append_right _ (List.mem_of_getElem? (i := 247) (by decide +kernel))) (by decide +kernel) (by simp [s_ent, Value.category]) (by decide) (by simp [Value.category]) (by decide +kernel) (by simp [s_loc, s_ent, Value.category, List.replicate]) k
abbrev mX4_firstFault : sM := (yX4_firstFault, cX4_firstFault, 4, (some FieldType.int), false)
theorem eX4_firstFault {G : sG} {d : Nat} {P : sQ} {w : sW} {κ : Nat × Nat} {a0 : Nat} (k : wp G d mX4_firstFault P 0 [some (.ref a0), none, none, none] [] w κ) : wpM G (d + 1) yX4_firstFault κ [.ref a0] w P := wpM_in mX4_firstFault rfl (List.mem_append_right _ (List.mem_of_getElem? (i := 244) (by decide +kernel))) (by decide +kernel) (by simp [s_ent, Value.category]) (by decide) (by simp [Value.category]) (by decide +kernel) (by simp [s_loc, s_ent, Value.category, List.replicate]) k
theorem ml_RX4_21 : s_lnk RX4 21 yX4_isDigit := Or.inl (List.mem_append_right _ (List.mem_of_getElem? (i := 245) (by decide +kernel)))
theorem ok_X4_isDigit : s_okm yX4_isDigit 1 := ⟨by decide +kernel, by decide +kernel, by decide +kernel, List.mem_append_right _ (List.mem_of_getElem? (i := 5) (by decide +kernel))⟩
theorem st_X4_isDigit : inT (.static yX4_isDigit) := List.mem_append_right _ (List.mem_of_getElem? (i := 246) (by decide +kernel))
theorem ml_RX4_25 : s_lnk RX4 25 yX4_withDigit := Or.inl (List.mem_append_right _ (List.mem_of_getElem? (i := 248) (by decide +kernel)))
theorem ok_X4_withDigit : s_okm yX4_withDigit 2 := ⟨by decide +kernel, by decide +kernel, by decide +kernel, List.mem_append_right _ (List.mem_of_getElem? (i := 5) (by decide +kernel))⟩
theorem st_X4_withDigit : inT (.static yX4_withDigit) := List.mem_append_right _ (List.mem_of_getElem? (i := 249) (by decide +kernel))
abbrev mX4_withDigit : sM := (yX4_withDigit, cX4_withDigit, 2, (some FieldType.int), false)
theorem eX4_withDigit {G : sG} {d : Nat} {P : sQ} {w : sW} {κ : Nat × Nat} {a1 : Int32} {a2 : Int32} (k : wp G d mX4_withDigit P 0 [some (.int a1), some (.int a2)] [] w κ) : wpM G (d + 1) yX4_withDigit κ [.int a1, .int a2] w P := wpM_in mX4_withDigit rfl (List.mem_append_right _ (List.mem_of_getElem? (i := 250) (by decide +kernel))) (by decide +kernel) (by simp [s_ent, Value.category]) (by decide) (by simp [Value.category]) (by decide +kernel) (by simp [s_loc, s_ent, Value.category, List.replicate]) k
abbrev mX4_measure : sM := (yX4_measure, cX4_measure, 3, (none : Option FieldType), false)
theorem eX4_measure {G : sG} {d : Nat} {P : sQ} {w : sW} {κ : Nat × Nat} {a0 : Nat} (k : wp G d mX4_measure P 0 [some (.ref a0), none, none] [] w κ) : wpM G (d + 1) yX4_measure κ [.ref a0] w P := wpM_in mX4_measure rfl (List.mem_append_right _ (List.mem_of_getElem? (i := 257) (by decide +kernel))) (by decide +kernel) (by simp [s_ent, Value.category]) (by decide) (by simp [Value.category]) (by decide +kernel) (by simp [s_loc, s_ent, Value.category, List.replicate]) k
theorem fl_RX4_35 : s_fl RX4 35 3 2 := ⟨_, _, _, "", rfl, by decide, Or.inl (List.mem_append_right _ (List.mem_of_getElem? (i := 94) (by decide +kernel)))⟩
theorem fl_RX4_38 : s_fl RX4 38 3 3 := ⟨_, _, _, "", rfl, by decide, Or.inl (List.mem_append_right _ (List.mem_of_getElem? (i := 96) (by decide +kernel)))⟩
theorem fl_RX4_41 : s_fl RX4 41 3 4 := ⟨_, _, _, "", rfl, by decide, Or.inl (List.mem_append_right _ (List.mem_of_getElem? (i := 98) (by decide +kernel)))⟩
theorem fl_RX4_44 : s_fl RX4 44 3 5 := ⟨_, _, _, "", rfl, by decide, Or.inl (List.mem_append_right _ (List.mem_of_getElem? (i := 100) (by decide +kernel)))⟩
abbrev mX4_readInto : sM := (yX4_readInto, cX4_readInto, 5, (none : Option FieldType), false)
theorem eX4_readInto {G : sG} {d : Nat} {P : sQ} {w : sW} {κ : Nat × Nat} {a0 : Nat} {a1 : Nat} (k : wp G d mX4_readInto P 0 [some (.ref a0), some (.ref a1), none, none, none] [] w κ) : wpM G (d + 1) yX4_readInto κ [.ref a0, .ref a1] w P := wpM_in mX4_readInto rfl (List.mem_append_right _ (List.mem_of_getElem? (i := 284) (by decide +kernel))) (by decide +kernel) (by simp [s_ent, Value.category]) (by decide) (by simp [Value.category]) (by decide +kernel) (by simp [s_loc, s_ent, Value.category, List.replicate]) k
theorem ml_RX4_50 : s_lnk RX4 50 yX2_reshape := Or.inr ⟨"TropicRanks", List.mem_append_right _ (List.mem_of_getElem? (i := 285) (by decide +kernel))⟩
theorem fl_RX4_56 : s_fl RX4 56 1 0 := ⟨_, _, _, "TropicRanks", rfl, by decide, Or.inr (List.mem_append_right _ (List.mem_of_getElem? (i := 37) (by decide +kernel)))⟩
abbrev mX5_init : sM := (yX5_init, cX5_init, 1, (none : Option FieldType), false)
theorem eX5_init {G : sG} {d : Nat} {P : sQ} {w : sW} {κ : Nat × Nat} {a0 : Nat} (k : wp G d mX5_init P 0 [some (.ref a0)] [] w κ) : wpM G (d + 1) yX5_init κ [.ref a0] w P := wpM_in mX5_init rfl (List.mem_append_right _ (List.mem_of_getElem? (i := 141) (by decide +kernel))) (by decide +kernel) (by simp [s_ent, Value.category]) (by decide) (by simp [Value.category]) (by decide +kernel) (by simp [s_loc, s_ent, Value.category, List.replicate]) k
abbrev mX5_study : sM := (yX5_study, cX5_study, 5, (none : Option FieldType), false)
theorem eX5_study {G : sG} {d : Nat} {P : sQ} {w : sW} {κ : Nat × Nat} {a0 : Nat} {a1 : Nat} {a2 : Nat} (k : wp G d mX5_study P 0 [some (.ref a0), some (.ref a1), some (.ref a2), none, none] [] w κ) : wpM G (d + 1) yX5_study κ [.ref a0, .ref a1, .ref a2] w P := wpM_in mX5_study rfl (List.mem_append_right _ (List.mem_of_getElem? (i := 404) (by decide +kernel))) (by decide +kernel) (by simp [s_ent, Value.category]) (by decide) (by simp [Value.category]) (by decide +kernel) (by simp [s_loc, s_ent, Value.category, List.replicate]) k
theorem fl_RX5_22 : s_fl RX5 22 1 1 := ⟨_, _, _, "TropicRanks", rfl, by decide, Or.inr (List.mem_append_right _ (List.mem_of_getElem? (i := 41) (by decide +kernel)))⟩
theorem fl_RX5_25 : s_fl RX5 25 1 2 := ⟨_, _, _, "TropicRanks", rfl, by decide, Or.inr (List.mem_append_right _ (List.mem_of_getElem? (i := 46) (by decide +kernel)))⟩
theorem ml_RX5_26 : s_lnk RX5 26 yX9_isPart := Or.inr ⟨"TropicRanks", List.mem_append_right _ (List.mem_of_getElem? (i := 405) (by decide +kernel))⟩
theorem ml_RX5_32 : s_lnk RX5 32 yX5_look := Or.inl (List.mem_append_right _ (List.mem_of_getElem? (i := 417) (by decide +kernel)))
theorem ok_X5_look : s_okm yX5_look 4 := ⟨by decide +kernel, by decide +kernel, by decide +kernel, List.mem_append_right _ (List.mem_of_getElem? (i := 7) (by decide +kernel))⟩
theorem im_X5_look : inT (.instanceMethod yX5_look) := List.mem_append_right _ (List.mem_of_getElem? (i := 419) (by decide +kernel))
theorem se_X5_look : inT (.selects RX5 yX5_look yX5_look) := List.mem_append_left _ (List.mem_of_getElem? (i := 26) (by decide +kernel))
abbrev mX5_look : sM := (yX5_look, cX5_look, 5, (none : Option FieldType), false)
theorem eX5_look {G : sG} {d : Nat} {P : sQ} {w : sW} {κ : Nat × Nat} {a0 : Nat} {a1 : Nat} {a2 : Nat} {a3 : Int32} {a4 : Int32} (k : wp G d mX5_look P 0 [some (.ref a0), some (.ref a1), some (.ref a2), some (.int a3), some (.int a4)] [] w κ) : wpM G (d + 1) yX5_look κ [.ref a0, .ref a1, .ref a2, .int a3, .int a4] w P := wpM_in mX5_look rfl (List.mem_append_right _ (List.mem_of_getElem? (i := 420) (by decide +kernel))) (by decide +kernel) (by simp [s_ent, Value.category]) (by decide) (by simp [Value.category]) (by decide +kernel) (by simp [s_loc, s_ent, Value.category, List.replicate]) k
theorem ml_RX5_36 : s_lnk RX5 36 yX8_gather := Or.inr ⟨"TropicRanks", List.mem_append_right _ (List.mem_of_getElem? (i := 421) (by decide +kernel))⟩
theorem ml_RX5_42 : s_lnk RX5 42 yX8_withLeastSum := Or.inr ⟨"TropicRanks", List.mem_append_right _ (List.mem_of_getElem? (i := 434) (by decide +kernel))⟩
theorem ok_X8_withLeastSum : s_okm yX8_withLeastSum 0 := ⟨by decide +kernel, by decide +kernel, by decide +kernel, List.mem_append_right _ (List.mem_of_getElem? (i := 6) (by decide +kernel))⟩
theorem im_X8_withLeastSum : inT (.instanceMethod yX8_withLeastSum) := List.mem_append_right _ (List.mem_of_getElem? (i := 436) (by decide +kernel))
theorem se_X8_withLeastSum : inT (.selects RX8 yX8_withLeastSum yX8_withLeastSum) := List.mem_append_left _ (List.mem_of_getElem? (i := 29) (by decide +kernel))
theorem fl_RX5_19 : s_fl RX5 19 4 3 := ⟨_, _, _, "", rfl, by decide, Or.inl (List.mem_append_right _ (List.mem_of_getElem? (i := 149) (by decide +kernel)))⟩
theorem ml_RX5_46 : s_lnk RX5 46 yJ6_bitCount_0f7a4 := Or.inl (List.mem_append_right _ (List.mem_of_getElem? (i := 443) (by decide +kernel)))
theorem fl_RX5_7 : s_fl RX5 7 4 0 := ⟨_, _, _, "", rfl, by decide, Or.inl (List.mem_append_right _ (List.mem_of_getElem? (i := 143) (by decide +kernel)))⟩
abbrev mX6_init : sM := (yX6_init, cX6_init, 1, (none : Option FieldType), false)
theorem eX6_init {G : sG} {d : Nat} {P : sQ} {w : sW} {κ : Nat × Nat} {a0 : Nat} (k : wp G d mX6_init P 0 [some (.ref a0)] [] w κ) : wpM G (d + 1) yX6_init κ [.ref a0] w P := wpM_in mX6_init rfl (List.mem_append_right _ (List.mem_of_getElem? (i := 185) (by decide +kernel))) (by decide +kernel) (by simp [s_ent, Value.category]) (by decide) (by simp [Value.category]) (by decide +kernel) (by simp [s_loc, s_ent, Value.category, List.replicate]) k
abbrev mX6_study : sM := (yX6_study, cX6_study, 3, (none : Option FieldType), false)
theorem eX6_study {G : sG} {d : Nat} {P : sQ} {w : sW} {κ : Nat × Nat} {a0 : Nat} {a1 : Nat} (k : wp G d mX6_study P 0 [some (.ref a0), some (.ref a1), none] [] w κ) : wpM G (d + 1) yX6_study κ [.ref a0, .ref a1] w P := wpM_in mX6_study rfl (List.mem_append_right _ (List.mem_of_getElem? (i := 647) (by decide +kernel))) (by decide +kernel) (by simp [s_ent, Value.category]) (by decide) (by simp [Value.category]) (by decide +kernel) (by simp [s_loc, s_ent, Value.category, List.replicate]) k
theorem fl_RX6_19 : s_fl RX6 19 1 1 := ⟨_, _, _, "TropicRanks", rfl, by decide, Or.inr (List.mem_append_right _ (List.mem_of_getElem? (i := 39) (by decide +kernel)))⟩
theorem ml_RX6_24 : s_lnk RX6 24 yX6_goOn := Or.inl (List.mem_append_right _ (List.mem_of_getElem? (i := 648) (by decide +kernel)))
theorem ok_X6_goOn : s_okm yX6_goOn 7 := ⟨by decide +kernel, by decide +kernel, by decide +kernel, List.mem_append_right _ (List.mem_of_getElem? (i := 9) (by decide +kernel))⟩
theorem st_X6_goOn : inT (.static yX6_goOn) := List.mem_append_right _ (List.mem_of_getElem? (i := 649) (by decide +kernel))
abbrev mX6_goOn : sM := (yX6_goOn, cX6_goOn, 8, (none : Option FieldType), false)
theorem eX6_goOn {G : sG} {d : Nat} {P : sQ} {w : sW} {κ : Nat × Nat} {a1 : Nat} {a2 : Nat} {a3 : Int32} {a4 : Int32} {a5 : Int32} {a6 : Int32} {a7 : Int32} (k : wp G d mX6_goOn P 0 [some (.ref a1), some (.ref a2), some (.int a3), some (.int a4), some (.int a5), some (.int a6), some (.int a7), none] [] w κ) : wpM G (d + 1) yX6_goOn κ [.ref a1, .ref a2, .int a3, .int a4, .int a5, .int a6, .int a7] w P := wpM_in mX6_goOn rfl (List.mem_append_right _ (List.mem_of_getElem? (i := 650) (by decide +kernel))) (by decide +kernel) (by simp [s_ent, Value.category]) (by decide) (by simp [Value.category]) (by decide +kernel) (by simp [s_loc, s_ent, Value.category, List.replicate]) k
theorem ml_RX6_28 : s_lnk RX6 28 yX2_at := Or.inr ⟨"TropicRanks", List.mem_append_right _ (List.mem_of_getElem? (i := 651) (by decide +kernel))⟩
theorem ml_RX6_32 : s_lnk RX6 32 yX6_keep := Or.inl (List.mem_append_right _ (List.mem_of_getElem? (i := 652) (by decide +kernel)))
theorem ok_X6_keep : s_okm yX6_keep 2 := ⟨by decide +kernel, by decide +kernel, by decide +kernel, List.mem_append_right _ (List.mem_of_getElem? (i := 9) (by decide +kernel))⟩
theorem im_X6_keep : inT (.instanceMethod yX6_keep) := List.mem_append_right _ (List.mem_of_getElem? (i := 654) (by decide +kernel))
theorem se_X6_keep : inT (.selects RX6 yX6_keep yX6_keep) := List.mem_append_left _ (List.mem_of_getElem? (i := 45) (by decide +kernel))
abbrev mX6_keep : sM := (yX6_keep, cX6_keep, 4, (none : Option FieldType), false)
theorem eX6_keep {G : sG} {d : Nat} {P : sQ} {w : sW} {κ : Nat × Nat} {a0 : Nat} {a1 : Int32} {a2 : Int32} (k : wp G d mX6_keep P 0 [some (.ref a0), some (.int a1), some (.int a2), none] [] w κ) : wpM G (d + 1) yX6_keep κ [.ref a0, .int a1, .int a2] w P := wpM_in mX6_keep rfl (List.mem_append_right _ (List.mem_of_getElem? (i := 655) (by decide +kernel))) (by decide +kernel) (by simp [s_ent, Value.category]) (by decide) (by simp [Value.category]) (by decide +kernel) (by simp [s_loc, s_ent, Value.category, List.replicate]) k
theorem fl_RX6_7 : s_fl RX6 7 5 0 := ⟨_, _, _, "", rfl, by decide, Or.inl (List.mem_append_right _ (List.mem_of_getElem? (i := 187) (by decide +kernel)))⟩
theorem fl_RX6_16 : s_fl RX6 16 5 2 := ⟨_, _, _, "", rfl, by decide, Or.inl (List.mem_append_right _ (List.mem_of_getElem? (i := 191) (by decide +kernel)))⟩
theorem fl_RX6_13 : s_fl RX6 13 5 1 := ⟨_, _, _, "", rfl, by decide, Or.inl (List.mem_append_right _ (List.mem_of_getElem? (i := 189) (by decide +kernel)))⟩
abbrev mX7_init : sM := (yX7_init, cX7_init, 2, (none : Option FieldType), false)
theorem eX7_init {G : sG} {d : Nat} {P : sQ} {w : sW} {κ : Nat × Nat} {a0 : Nat} (k : wp G d mX7_init P 0 [some (.ref a0), none] [] w κ) : wpM G (d + 1) yX7_init κ [.ref a0] w P := wpM_in mX7_init rfl (List.mem_append_right _ (List.mem_of_getElem? (i := 27) (by decide +kernel))) (by decide +kernel) (by simp [s_ent, Value.category]) (by decide) (by simp [Value.category]) (by decide +kernel) (by simp [s_loc, s_ent, Value.category, List.replicate]) k
theorem fl_RX7_11 : s_fl RX7 11 6 0 := ⟨_, _, _, "", rfl, by decide, Or.inl (List.mem_append_right _ (List.mem_of_getElem? (i := 59) (by decide +kernel)))⟩
theorem ml_RX7_17 : s_lnk RX7 17 yX2_init := Or.inr ⟨"TropicRanks", List.mem_append_right _ (List.mem_of_getElem? (i := 32) (by decide +kernel))⟩
theorem ok_X2_init : s_okm yX2_init 0 := ⟨by decide +kernel, by decide +kernel, by decide +kernel, List.mem_append_right _ (List.mem_of_getElem? (i := 3) (by decide +kernel))⟩
theorem im_X2_init : inT (.instanceMethod yX2_init) := List.mem_append_right _ (List.mem_of_getElem? (i := 33) (by decide +kernel))
abbrev mX7_become : sM := (yX7_become, cX7_become, 3, (none : Option FieldType), false)
theorem eX7_become {G : sG} {d : Nat} {P : sQ} {w : sW} {κ : Nat × Nat} {a0 : Nat} {a1 : Nat} (k : wp G d mX7_become P 0 [some (.ref a0), some (.ref a1), none] [] w κ) : wpM G (d + 1) yX7_become κ [.ref a0, .ref a1] w P := wpM_in mX7_become rfl (List.mem_append_right _ (List.mem_of_getElem? (i := 268) (by decide +kernel))) (by decide +kernel) (by simp [s_ent, Value.category]) (by decide) (by simp [Value.category]) (by decide +kernel) (by simp [s_loc, s_ent, Value.category, List.replicate]) k
theorem ml_RX7_18 : s_lnk RX7 18 yX2_become := Or.inr ⟨"TropicRanks", List.mem_append_right _ (List.mem_of_getElem? (i := 269) (by decide +kernel))⟩
theorem ok_X2_become : s_okm yX2_become 1 := ⟨by decide +kernel, by decide +kernel, by decide +kernel, List.mem_append_right _ (List.mem_of_getElem? (i := 3) (by decide +kernel))⟩
theorem im_X2_become : inT (.instanceMethod yX2_become) := List.mem_append_right _ (List.mem_of_getElem? (i := 271) (by decide +kernel))
theorem se_X2_become : inT (.selects RX2 yX2_become yX2_become) := List.mem_append_left _ (List.mem_of_getElem? (i := 4) (by decide +kernel))
abbrev mX7_size : sM := (yX7_size, cX7_size, 3, (some FieldType.int), false)
theorem eX7_size {G : sG} {d : Nat} {P : sQ} {w : sW} {κ : Nat × Nat} {a0 : Nat} (k : wp G d mX7_size P 0 [some (.ref a0), none, none] [] w κ) : wpM G (d + 1) yX7_size κ [.ref a0] w P := wpM_in mX7_size rfl (List.mem_append_right _ (List.mem_of_getElem? (i := 580) (by decide +kernel))) (by decide +kernel) (by simp [s_ent, Value.category]) (by decide) (by simp [Value.category]) (by decide +kernel) (by simp [s_loc, s_ent, Value.category, List.replicate]) k
theorem ml_RX7_22 : s_lnk RX7 22 yX2_size := Or.inr ⟨"TropicRanks", List.mem_append_right _ (List.mem_of_getElem? (i := 581) (by decide +kernel))⟩
abbrev mX8_init : sM := (yX8_init, cX8_init, 1, (none : Option FieldType), false)
theorem eX8_init {G : sG} {d : Nat} {P : sQ} {w : sW} {κ : Nat × Nat} {a0 : Nat} (k : wp G d mX8_init P 0 [some (.ref a0)] [] w κ) : wpM G (d + 1) yX8_init κ [.ref a0] w P := wpM_in mX8_init rfl (List.mem_append_right _ (List.mem_of_getElem? (i := 122) (by decide +kernel))) (by decide +kernel) (by simp [s_ent, Value.category]) (by decide) (by simp [Value.category]) (by decide +kernel) (by simp [s_loc, s_ent, Value.category, List.replicate]) k
abbrev mX8_gather : sM := (yX8_gather, cX8_gather, 4, (none : Option FieldType), false)
theorem eX8_gather {G : sG} {d : Nat} {P : sQ} {w : sW} {κ : Nat × Nat} {a0 : Nat} {a1 : Nat} {a2 : Int32} {a3 : Int32} (k : wp G d mX8_gather P 0 [some (.ref a0), some (.ref a1), some (.int a2), some (.int a3)] [] w κ) : wpM G (d + 1) yX8_gather κ [.ref a0, .ref a1, .int a2, .int a3] w P := wpM_in mX8_gather rfl (List.mem_append_right _ (List.mem_of_getElem? (i := 424) (by decide +kernel))) (by decide +kernel) (by simp [s_ent, Value.category]) (by decide) (by simp [Value.category]) (by decide +kernel) (by simp [s_loc, s_ent, Value.category, List.replicate]) k
theorem ml_RX8_20 : s_lnk RX8 20 yX8_goOn := Or.inl (List.mem_append_right _ (List.mem_of_getElem? (i := 425) (by decide +kernel)))
theorem ok_X8_goOn : s_okm yX8_goOn 7 := ⟨by decide +kernel, by decide +kernel, by decide +kernel, List.mem_append_right _ (List.mem_of_getElem? (i := 6) (by decide +kernel))⟩
theorem st_X8_goOn : inT (.static yX8_goOn) := List.mem_append_right _ (List.mem_of_getElem? (i := 426) (by decide +kernel))
abbrev mX8_goOn : sM := (yX8_goOn, cX8_goOn, 8, (none : Option FieldType), false)
theorem eX8_goOn {G : sG} {d : Nat} {P : sQ} {w : sW} {κ : Nat × Nat} {a1 : Nat} {a2 : Nat} {a3 : Int32} {a4 : Int32} {a5 : Int32} {a6 : Int32} {a7 : Int32} (k : wp G d mX8_goOn P 0 [some (.ref a1), some (.ref a2), some (.int a3), some (.int a4), some (.int a5), some (.int a6), some (.int a7), none] [] w κ) : wpM G (d + 1) yX8_goOn κ [.ref a1, .ref a2, .int a3, .int a4, .int a5, .int a6, .int a7] w P := wpM_in mX8_goOn rfl (List.mem_append_right _ (List.mem_of_getElem? (i := 427) (by decide +kernel))) (by decide +kernel) (by simp [s_ent, Value.category]) (by decide) (by simp [Value.category]) (by decide +kernel) (by simp [s_loc, s_ent, Value.category, List.replicate]) k
theorem fl_RX8_24 : s_fl RX8 24 1 1 := ⟨_, _, _, "TropicRanks", rfl, by decide, Or.inr (List.mem_append_right _ (List.mem_of_getElem? (i := 43) (by decide +kernel)))⟩
theorem ml_RX8_29 : s_lnk RX8 29 yX8_keep := Or.inl (List.mem_append_right _ (List.mem_of_getElem? (i := 428) (by decide +kernel)))
theorem ok_X8_keep : s_okm yX8_keep 2 := ⟨by decide +kernel, by decide +kernel, by decide +kernel, List.mem_append_right _ (List.mem_of_getElem? (i := 6) (by decide +kernel))⟩
theorem im_X8_keep : inT (.instanceMethod yX8_keep) := List.mem_append_right _ (List.mem_of_getElem? (i := 430) (by decide +kernel))
theorem se_X8_keep : inT (.selects RX8 yX8_keep yX8_keep) := List.mem_append_left _ (List.mem_of_getElem? (i := 28) (by decide +kernel))
theorem fl_RX8_33 : s_fl RX8 33 1 2 := ⟨_, _, _, "TropicRanks", rfl, by decide, Or.inr (List.mem_append_right _ (List.mem_of_getElem? (i := 49) (by decide +kernel)))⟩
theorem ml_RX8_36 : s_lnk RX8 36 yX2_at := Or.inr ⟨"TropicRanks", List.mem_append_right _ (List.mem_of_getElem? (i := 432) (by decide +kernel))⟩
theorem ml_RX8_40 : s_lnk RX8 40 yX2_place := Or.inr ⟨"TropicRanks", List.mem_append_right _ (List.mem_of_getElem? (i := 433) (by decide +kernel))⟩
abbrev mX8_keep : sM := (yX8_keep, cX8_keep, 3, (none : Option FieldType), false)
theorem eX8_keep {G : sG} {d : Nat} {P : sQ} {w : sW} {κ : Nat × Nat} {a0 : Nat} {a1 : Int32} {a2 : Int32} (k : wp G d mX8_keep P 0 [some (.ref a0), some (.int a1), some (.int a2)] [] w κ) : wpM G (d + 1) yX8_keep κ [.ref a0, .int a1, .int a2] w P := wpM_in mX8_keep rfl (List.mem_append_right _ (List.mem_of_getElem? (i := 431) (by decide +kernel))) (by decide +kernel) (by simp [s_ent, Value.category]) (by decide) (by simp [Value.category]) (by decide +kernel) (by simp [s_loc, s_ent, Value.category, List.replicate]) k
theorem fl_RX8_16 : s_fl RX8 16 7 2 := ⟨_, _, _, "", rfl, by decide, Or.inl (List.mem_append_right _ (List.mem_of_getElem? (i := 128) (by decide +kernel)))⟩
theorem fl_RX8_9 : s_fl RX8 9 7 0 := ⟨_, _, _, "", rfl, by decide, Or.inl (List.mem_append_right _ (List.mem_of_getElem? (i := 124) (by decide +kernel)))⟩
theorem fl_RX8_13 : s_fl RX8 13 7 1 := ⟨_, _, _, "", rfl, by decide, Or.inl (List.mem_append_right _ (List.mem_of_getElem? (i := 126) (by decide +kernel)))⟩
abbrev mX8_leastSum : sM := (yX8_leastSum, cX8_leastSum, 3, (some FieldType.int), false)
theorem eX8_leastSum {G : sG} {d : Nat} {P : sQ} {w : sW} {κ : Nat × Nat} {a0 : Nat} (k : wp G d mX8_leastSum P 0 [some (.ref a0), none, none] [] w κ) : wpM G (d + 1) yX8_leastSum κ [.ref a0] w P := wpM_in mX8_leastSum rfl (List.mem_append_right _ (List.mem_of_getElem? (i := 441) (by decide +kernel))) (by decide +kernel) (by simp [s_ent, Value.category]) (by decide) (by simp [Value.category]) (by decide +kernel) (by simp [s_loc, s_ent, Value.category, List.replicate]) k
abbrev mX8_greatestSum : sM := (yX8_greatestSum, cX8_greatestSum, 3, (some FieldType.int), false)
theorem eX8_greatestSum {G : sG} {d : Nat} {P : sQ} {w : sW} {κ : Nat × Nat} {a0 : Nat} (k : wp G d mX8_greatestSum P 0 [some (.ref a0), none, none] [] w κ) : wpM G (d + 1) yX8_greatestSum κ [.ref a0] w P := wpM_in mX8_greatestSum rfl (List.mem_append_right _ (List.mem_of_getElem? (i := 458) (by decide +kernel))) (by decide +kernel) (by simp [s_ent, Value.category]) (by decide) (by simp [Value.category]) (by decide +kernel) (by simp [s_loc, s_ent, Value.category, List.replicate]) k
abbrev mX8_withLeastSum : sM := (yX8_withLeastSum, cX8_withLeastSum, 4, (some FieldType.int), false)
theorem eX8_withLeastSum {G : sG} {d : Nat} {P : sQ} {w : sW} {κ : Nat × Nat} {a0 : Nat} (k : wp G d mX8_withLeastSum P 0 [some (.ref a0), none, none, none] [] w κ) : wpM G (d + 1) yX8_withLeastSum κ [.ref a0] w P := wpM_in mX8_withLeastSum rfl (List.mem_append_right _ (List.mem_of_getElem? (i := 437) (by decide +kernel))) (by decide +kernel) (by simp [s_ent, Value.category]) (by decide) (by simp [Value.category]) (by decide +kernel) (by simp [s_loc, s_ent, Value.category, List.replicate]) k
theorem ml_RX8_51 : s_lnk RX8 51 yX8_leastSum := Or.inl (List.mem_append_right _ (List.mem_of_getElem? (i := 438) (by decide +kernel)))
theorem ok_X8_leastSum : s_okm yX8_leastSum 0 := ⟨by decide +kernel, by decide +kernel, by decide +kernel, List.mem_append_right _ (List.mem_of_getElem? (i := 6) (by decide +kernel))⟩
theorem im_X8_leastSum : inT (.instanceMethod yX8_leastSum) := List.mem_append_right _ (List.mem_of_getElem? (i := 440) (by decide +kernel))
theorem se_X8_leastSum : inT (.selects RX8 yX8_leastSum yX8_leastSum) := List.mem_append_left _ (List.mem_of_getElem? (i := 30) (by decide +kernel))
abbrev mJ6_bitCount_0f7a4 : sM := (yJ6_bitCount_0f7a4, cJ6_bitCount_0f7a4, 1, (some FieldType.int), false)
theorem eJ6_bitCount_0f7a4 {G : sG} {d : Nat} {P : sQ} {w : sW} {κ : Nat × Nat} {a1 : Int32} (k : wp G d mJ6_bitCount_0f7a4 P 0 [some (.int a1)] [] w κ) : wpM G (d + 1) yJ6_bitCount_0f7a4 κ [.int a1] w P := wpM_in mJ6_bitCount_0f7a4 rfl (List.mem_append_right _ (List.mem_of_getElem? (i := 413) (by decide +kernel))) (by decide +kernel) (by simp [s_ent, Value.category]) (by decide) (by simp [Value.category]) (by decide +kernel) (by simp [s_loc, s_ent, Value.category, List.replicate]) k
abbrev mJ13_bitCount_95d88 : sM := (yJ13_bitCount_95d88, cJ13_bitCount_95d88, 2, (some FieldType.int), true)
theorem eJ13_bitCount_95d88 {G : sG} {d : Nat} {P : sQ} {w : sW} {κ : Nat × Nat} {a1 : Int64} (k : wp G d mJ13_bitCount_95d88 P 0 [some (.long a1), none] [] w κ) : wpM G (d + 1) yJ13_bitCount_95d88 κ [.long a1] w P := wpM_in mJ13_bitCount_95d88 rfl (List.mem_append_right _ (List.mem_of_getElem? (i := 617) (by decide +kernel))) (by decide +kernel) (by simp [s_ent, Value.category]) (by decide) (by simp [Value.category]) (by decide +kernel) (by simp [s_loc, s_ent, Value.category, List.replicate]) k
abbrev mX9_init : sM := (yX9_init, cX9_init, 2, (none : Option FieldType), false)
theorem eX9_init {G : sG} {d : Nat} {P : sQ} {w : sW} {κ : Nat × Nat} {a0 : Nat} (k : wp G d mX9_init P 0 [some (.ref a0), none] [] w κ) : wpM G (d + 1) yX9_init κ [.ref a0] w P := wpM_in mX9_init rfl (List.mem_append_right _ (List.mem_of_getElem? (i := 19) (by decide +kernel))) (by decide +kernel) (by simp [s_ent, Value.category]) (by decide) (by simp [Value.category]) (by decide +kernel) (by simp [s_loc, s_ent, Value.category, List.replicate]) k
theorem ml_RX9_9 : s_lnk RX9 9 yX7_init := Or.inr ⟨"TropicRanks", List.mem_append_right _ (List.mem_of_getElem? (i := 25) (by decide +kernel))⟩
theorem ml_RX9_18 : s_lnk RX9 18 yX3_init := Or.inr ⟨"TropicRanks", List.mem_append_right _ (List.mem_of_getElem? (i := 66) (by decide +kernel))⟩
theorem ok_X3_init : s_okm yX3_init 0 := ⟨by decide +kernel, by decide +kernel, by decide +kernel, List.mem_append_right _ (List.mem_of_getElem? (i := 4) (by decide +kernel))⟩
theorem im_X3_init : inT (.instanceMethod yX3_init) := List.mem_append_right _ (List.mem_of_getElem? (i := 67) (by decide +kernel))
theorem ml_RX9_33 : s_lnk RX9 33 yX4_init := Or.inr ⟨"TropicRanks", List.mem_append_right _ (List.mem_of_getElem? (i := 86) (by decide +kernel))⟩
theorem ok_X4_init : s_okm yX4_init 0 := ⟨by decide +kernel, by decide +kernel, by decide +kernel, List.mem_append_right _ (List.mem_of_getElem? (i := 5) (by decide +kernel))⟩
theorem im_X4_init : inT (.instanceMethod yX4_init) := List.mem_append_right _ (List.mem_of_getElem? (i := 87) (by decide +kernel))
theorem ml_RX9_40 : s_lnk RX9 40 yX2_init := Or.inr ⟨"TropicRanks", List.mem_append_right _ (List.mem_of_getElem? (i := 117) (by decide +kernel))⟩
theorem ml_RX9_50 : s_lnk RX9 50 yX8_init := Or.inr ⟨"TropicRanks", List.mem_append_right _ (List.mem_of_getElem? (i := 120) (by decide +kernel))⟩
theorem ok_X8_init : s_okm yX8_init 0 := ⟨by decide +kernel, by decide +kernel, by decide +kernel, List.mem_append_right _ (List.mem_of_getElem? (i := 6) (by decide +kernel))⟩
theorem im_X8_init : inT (.instanceMethod yX8_init) := List.mem_append_right _ (List.mem_of_getElem? (i := 121) (by decide +kernel))
theorem ml_RX9_57 : s_lnk RX9 57 yX5_init := Or.inr ⟨"TropicRanks", List.mem_append_right _ (List.mem_of_getElem? (i := 139) (by decide +kernel))⟩
theorem ok_X5_init : s_okm yX5_init 0 := ⟨by decide +kernel, by decide +kernel, by decide +kernel, List.mem_append_right _ (List.mem_of_getElem? (i := 7) (by decide +kernel))⟩
theorem im_X5_init : inT (.instanceMethod yX5_init) := List.mem_append_right _ (List.mem_of_getElem? (i := 140) (by decide +kernel))
theorem ml_RX9_64 : s_lnk RX9 64 yX1_init := Or.inr ⟨"TropicRanks", List.mem_append_right _ (List.mem_of_getElem? (i := 162) (by decide +kernel))⟩
theorem ok_X1_init : s_okm yX1_init 0 := ⟨by decide +kernel, by decide +kernel, by decide +kernel, List.mem_append_right _ (List.mem_of_getElem? (i := 8) (by decide +kernel))⟩
theorem im_X1_init : inT (.instanceMethod yX1_init) := List.mem_append_right _ (List.mem_of_getElem? (i := 163) (by decide +kernel))
theorem ml_RX9_71 : s_lnk RX9 71 yX6_init := Or.inr ⟨"TropicRanks", List.mem_append_right _ (List.mem_of_getElem? (i := 183) (by decide +kernel))⟩
theorem ok_X6_init : s_okm yX6_init 0 := ⟨by decide +kernel, by decide +kernel, by decide +kernel, List.mem_append_right _ (List.mem_of_getElem? (i := 9) (by decide +kernel))⟩
theorem im_X6_init : inT (.instanceMethod yX6_init) := List.mem_append_right _ (List.mem_of_getElem? (i := 184) (by decide +kernel))
theorem fl_RX9_23 : s_fl RX9 23 8 2 := ⟨_, _, _, "", rfl, by decide, Or.inl (List.mem_append_right _ (List.mem_of_getElem? (i := 202) (by decide +kernel)))⟩
abbrev mX9_load : sM := (yX9_load, cX9_load, 3, (some FieldType.int), false)
theorem eX9_load {G : sG} {d : Nat} {P : sQ} {w : sW} {κ : Nat × Nat} {a0 : Nat} {a1 : Int32} (k : wp G d mX9_load P 0 [some (.ref a0), some (.int a1), none] [] w κ) : wpM G (d + 1) yX9_load κ [.ref a0, .int a1] w P := wpM_in mX9_load rfl (List.mem_append_right _ (List.mem_of_getElem? (i := 237) (by decide +kernel))) (by decide +kernel) (by simp [s_ent, Value.category]) (by decide) (by simp [Value.category]) (by decide +kernel) (by simp [s_loc, s_ent, Value.category, List.replicate]) k
theorem ml_RX9_76 : s_lnk RX9 76 yX9_isArray := Or.inl (List.mem_append_right _ (List.mem_of_getElem? (i := 238) (by decide +kernel)))
theorem ok_X9_isArray : s_okm yX9_isArray 1 := ⟨by decide +kernel, by decide +kernel, by decide +kernel, List.mem_append_right _ (List.mem_of_getElem? (i := 1) (by decide +kernel))⟩
theorem st_X9_isArray : inT (.static yX9_isArray) := List.mem_append_right _ (List.mem_of_getElem? (i := 239) (by decide +kernel))
theorem fl_RX9_34 : s_fl RX9 34 8 4 := ⟨_, _, _, "", rfl, by decide, Or.inl (List.mem_append_right _ (List.mem_of_getElem? (i := 204) (by decide +kernel)))⟩
theorem ml_RX9_80 : s_lnk RX9 80 yX4_firstFault := Or.inr ⟨"TropicRanks", List.mem_append_right _ (List.mem_of_getElem? (i := 241) (by decide +kernel))⟩
theorem ok_X4_firstFault : s_okm yX4_firstFault 0 := ⟨by decide +kernel, by decide +kernel, by decide +kernel, List.mem_append_right _ (List.mem_of_getElem? (i := 5) (by decide +kernel))⟩
theorem im_X4_firstFault : inT (.instanceMethod yX4_firstFault) := List.mem_append_right _ (List.mem_of_getElem? (i := 243) (by decide +kernel))
theorem se_X4_firstFault : inT (.selects RX4 yX4_firstFault yX4_firstFault) := List.mem_append_left _ (List.mem_of_getElem? (i := 0) (by decide +kernel))
theorem ml_RX9_84 : s_lnk RX9 84 yX4_measure := Or.inr ⟨"TropicRanks", List.mem_append_right _ (List.mem_of_getElem? (i := 254) (by decide +kernel))⟩
theorem ok_X4_measure : s_okm yX4_measure 0 := ⟨by decide +kernel, by decide +kernel, by decide +kernel, List.mem_append_right _ (List.mem_of_getElem? (i := 5) (by decide +kernel))⟩
theorem im_X4_measure : inT (.instanceMethod yX4_measure) := List.mem_append_right _ (List.mem_of_getElem? (i := 256) (by decide +kernel))
theorem se_X4_measure : inT (.selects RX4 yX4_measure yX4_measure) := List.mem_append_left _ (List.mem_of_getElem? (i := 1) (by decide +kernel))
theorem fl_RX9_87 : s_fl RX9 87 3 2 := ⟨_, _, _, "TropicRanks", rfl, by decide, Or.inr (List.mem_append_right _ (List.mem_of_getElem? (i := 93) (by decide +kernel)))⟩
theorem fl_RX9_91 : s_fl RX9 91 3 4 := ⟨_, _, _, "TropicRanks", rfl, by decide, Or.inr (List.mem_append_right _ (List.mem_of_getElem? (i := 97) (by decide +kernel)))⟩
theorem fl_RX9_94 : s_fl RX9 94 3 3 := ⟨_, _, _, "TropicRanks", rfl, by decide, Or.inr (List.mem_append_right _ (List.mem_of_getElem? (i := 95) (by decide +kernel)))⟩
theorem fl_RX9_97 : s_fl RX9 97 3 5 := ⟨_, _, _, "TropicRanks", rfl, by decide, Or.inr (List.mem_append_right _ (List.mem_of_getElem? (i := 99) (by decide +kernel)))⟩
theorem fl_RX9_19 : s_fl RX9 19 8 1 := ⟨_, _, _, "", rfl, by decide, Or.inl (List.mem_append_right _ (List.mem_of_getElem? (i := 201) (by decide +kernel)))⟩
theorem fl_RX9_10 : s_fl RX9 10 8 0 := ⟨_, _, _, "", rfl, by decide, Or.inl (List.mem_append_right _ (List.mem_of_getElem? (i := 200) (by decide +kernel)))⟩
theorem ml_RX9_100 : s_lnk RX9 100 yX3_remember := Or.inr ⟨"TropicRanks", List.mem_append_right _ (List.mem_of_getElem? (i := 261) (by decide +kernel))⟩
theorem ok_X3_remember : s_okm yX3_remember 1 := ⟨by decide +kernel, by decide +kernel, by decide +kernel, List.mem_append_right _ (List.mem_of_getElem? (i := 4) (by decide +kernel))⟩
theorem im_X3_remember : inT (.instanceMethod yX3_remember) := List.mem_append_right _ (List.mem_of_getElem? (i := 263) (by decide +kernel))
theorem se_X3_remember : inT (.selects RX3 yX3_remember yX3_remember) := List.mem_append_left _ (List.mem_of_getElem? (i := 2) (by decide +kernel))
theorem fl_RX9_104 : s_fl RX9 104 6 0 := ⟨_, _, _, "TropicRanks", rfl, by decide, Or.inr (List.mem_append_right _ (List.mem_of_getElem? (i := 60) (by decide +kernel)))⟩
theorem ml_RX9_108 : s_lnk RX9 108 yX4_readInto := Or.inr ⟨"TropicRanks", List.mem_append_right _ (List.mem_of_getElem? (i := 281) (by decide +kernel))⟩
theorem ok_X4_readInto : s_okm yX4_readInto 1 := ⟨by decide +kernel, by decide +kernel, by decide +kernel, List.mem_append_right _ (List.mem_of_getElem? (i := 5) (by decide +kernel))⟩
theorem im_X4_readInto : inT (.instanceMethod yX4_readInto) := List.mem_append_right _ (List.mem_of_getElem? (i := 283) (by decide +kernel))
theorem se_X4_readInto : inT (.selects RX4 yX4_readInto yX4_readInto) := List.mem_append_left _ (List.mem_of_getElem? (i := 6) (by decide +kernel))
theorem ml_RX9_115 : s_lnk RX9 115 yX2_size := Or.inr ⟨"TropicRanks", List.mem_append_right _ (List.mem_of_getElem? (i := 286) (by decide +kernel))⟩
abbrev mX9_set : sM := (yX9_set, cX9_set, 7, (some FieldType.int), false)
theorem eX9_set {G : sG} {d : Nat} {P : sQ} {w : sW} {κ : Nat × Nat} {a0 : Nat} {a1 : Int32} {a2 : Int32} {a3 : Int32} {a4 : Int32} (k : wp G d mX9_set P 0 [some (.ref a0), some (.int a1), some (.int a2), some (.int a3), some (.int a4), none, none] [] w κ) : wpM G (d + 1) yX9_set κ [.ref a0, .int a1, .int a2, .int a3, .int a4] w P := wpM_in mX9_set rfl (List.mem_append_right _ (List.mem_of_getElem? (i := 293) (by decide +kernel))) (by decide +kernel) (by simp [s_ent, Value.category]) (by decide) (by simp [Value.category]) (by decide +kernel) (by simp [s_loc, s_ent, Value.category, List.replicate]) k
theorem ml_RX9_118 : s_lnk RX9 118 yX2_has := Or.inr ⟨"TropicRanks", List.mem_append_right _ (List.mem_of_getElem? (i := 294) (by decide +kernel))⟩
theorem ok_X2_has : s_okm yX2_has 2 := ⟨by decide +kernel, by decide +kernel, by decide +kernel, List.mem_append_right _ (List.mem_of_getElem? (i := 3) (by decide +kernel))⟩
theorem im_X2_has : inT (.instanceMethod yX2_has) := List.mem_append_right _ (List.mem_of_getElem? (i := 296) (by decide +kernel))
theorem se_X2_has : inT (.selects RX2 yX2_has yX2_has) := List.mem_append_left _ (List.mem_of_getElem? (i := 8) (by decide +kernel))
theorem ml_RX9_122 : s_lnk RX9 122 yX9_isValue := Or.inl (List.mem_append_right _ (List.mem_of_getElem? (i := 298) (by decide +kernel)))
theorem ml_RX9_125 : s_lnk RX9 125 yX2_at := Or.inr ⟨"TropicRanks", List.mem_append_right _ (List.mem_of_getElem? (i := 301) (by decide +kernel))⟩
theorem ml_RX9_129 : s_lnk RX9 129 yX2_assign := Or.inr ⟨"TropicRanks", List.mem_append_right _ (List.mem_of_getElem? (i := 309) (by decide +kernel))⟩
abbrev mX9_raise : sM := (yX9_raise, cX9_raise, 6, (some FieldType.int), false)
theorem eX9_raise {G : sG} {d : Nat} {P : sQ} {w : sW} {κ : Nat × Nat} {a0 : Nat} {a1 : Int32} {a2 : Int32} {a3 : Int32} {a4 : Int32} (k : wp G d mX9_raise P 0 [some (.ref a0), some (.int a1), some (.int a2), some (.int a3), some (.int a4), none] [] w κ) : wpM G (d + 1) yX9_raise κ [.ref a0, .int a1, .int a2, .int a3, .int a4] w P := wpM_in mX9_raise rfl (List.mem_append_right _ (List.mem_of_getElem? (i := 316) (by decide +kernel))) (by decide +kernel) (by simp [s_ent, Value.category]) (by decide) (by simp [Value.category]) (by decide +kernel) (by simp [s_loc, s_ent, Value.category, List.replicate]) k
theorem ml_RX9_133 : s_lnk RX9 133 yX2_hasLine := Or.inr ⟨"TropicRanks", List.mem_append_right _ (List.mem_of_getElem? (i := 317) (by decide +kernel))⟩
theorem ok_X2_hasLine : s_okm yX2_hasLine 2 := ⟨by decide +kernel, by decide +kernel, by decide +kernel, List.mem_append_right _ (List.mem_of_getElem? (i := 3) (by decide +kernel))⟩
theorem im_X2_hasLine : inT (.instanceMethod yX2_hasLine) := List.mem_append_right _ (List.mem_of_getElem? (i := 319) (by decide +kernel))
theorem se_X2_hasLine : inT (.selects RX2 yX2_hasLine yX2_hasLine) := List.mem_append_left _ (List.mem_of_getElem? (i := 12) (by decide +kernel))
theorem ml_RX9_137 : s_lnk RX9 137 yX2_canAdd := Or.inr ⟨"TropicRanks", List.mem_append_right _ (List.mem_of_getElem? (i := 325) (by decide +kernel))⟩
theorem ok_X2_canAdd : s_okm yX2_canAdd 3 := ⟨by decide +kernel, by decide +kernel, by decide +kernel, List.mem_append_right _ (List.mem_of_getElem? (i := 3) (by decide +kernel))⟩
theorem im_X2_canAdd : inT (.instanceMethod yX2_canAdd) := List.mem_append_right _ (List.mem_of_getElem? (i := 327) (by decide +kernel))
theorem se_X2_canAdd : inT (.selects RX2 yX2_canAdd yX2_canAdd) := List.mem_append_left _ (List.mem_of_getElem? (i := 14) (by decide +kernel))
theorem ml_RX9_141 : s_lnk RX9 141 yX2_add := Or.inr ⟨"TropicRanks", List.mem_append_right _ (List.mem_of_getElem? (i := 334) (by decide +kernel))⟩
theorem ok_X2_add : s_okm yX2_add 3 := ⟨by decide +kernel, by decide +kernel, by decide +kernel, List.mem_append_right _ (List.mem_of_getElem? (i := 3) (by decide +kernel))⟩
theorem im_X2_add : inT (.instanceMethod yX2_add) := List.mem_append_right _ (List.mem_of_getElem? (i := 336) (by decide +kernel))
theorem se_X2_add : inT (.selects RX2 yX2_add yX2_add) := List.mem_append_left _ (List.mem_of_getElem? (i := 16) (by decide +kernel))
theorem ml_RX9_145 : s_lnk RX9 145 yX2_greatest := Or.inr ⟨"TropicRanks", List.mem_append_right _ (List.mem_of_getElem? (i := 338) (by decide +kernel))⟩
theorem ok_X2_greatest : s_okm yX2_greatest 0 := ⟨by decide +kernel, by decide +kernel, by decide +kernel, List.mem_append_right _ (List.mem_of_getElem? (i := 3) (by decide +kernel))⟩
theorem im_X2_greatest : inT (.instanceMethod yX2_greatest) := List.mem_append_right _ (List.mem_of_getElem? (i := 340) (by decide +kernel))
theorem se_X2_greatest : inT (.selects RX2 yX2_greatest yX2_greatest) := List.mem_append_left _ (List.mem_of_getElem? (i := 17) (by decide +kernel))
abbrev mX9_exchange : sM := (yX9_exchange, cX9_exchange, 5, (some FieldType.int), false)
theorem eX9_exchange {G : sG} {d : Nat} {P : sQ} {w : sW} {κ : Nat × Nat} {a0 : Nat} {a1 : Int32} {a2 : Int32} {a3 : Int32} {a4 : Int32} (k : wp G d mX9_exchange P 0 [some (.ref a0), some (.int a1), some (.int a2), some (.int a3), some (.int a4)] [] w κ) : wpM G (d + 1) yX9_exchange κ [.ref a0, .int a1, .int a2, .int a3, .int a4] w P := wpM_in mX9_exchange rfl (List.mem_append_right _ (List.mem_of_getElem? (i := 347) (by decide +kernel))) (by decide +kernel) (by simp [s_ent, Value.category]) (by decide) (by simp [Value.category]) (by decide +kernel) (by simp [s_loc, s_ent, Value.category, List.replicate]) k
theorem ml_RX9_148 : s_lnk RX9 148 yX2_swapLines := Or.inr ⟨"TropicRanks", List.mem_append_right _ (List.mem_of_getElem? (i := 348) (by decide +kernel))⟩
theorem ok_X2_swapLines : s_okm yX2_swapLines 3 := ⟨by decide +kernel, by decide +kernel, by decide +kernel, List.mem_append_right _ (List.mem_of_getElem? (i := 3) (by decide +kernel))⟩
theorem im_X2_swapLines : inT (.instanceMethod yX2_swapLines) := List.mem_append_right _ (List.mem_of_getElem? (i := 350) (by decide +kernel))
theorem se_X2_swapLines : inT (.selects RX2 yX2_swapLines yX2_swapLines) := List.mem_append_left _ (List.mem_of_getElem? (i := 18) (by decide +kernel))
abbrev mX9_drop : sM := (yX9_drop, cX9_drop, 5, (some FieldType.int), false)
theorem eX9_drop {G : sG} {d : Nat} {P : sQ} {w : sW} {κ : Nat × Nat} {a0 : Nat} {a1 : Int32} {a2 : Int32} {a3 : Int32} (k : wp G d mX9_drop P 0 [some (.ref a0), some (.int a1), some (.int a2), some (.int a3), none] [] w κ) : wpM G (d + 1) yX9_drop κ [.ref a0, .int a1, .int a2, .int a3] w P := wpM_in mX9_drop rfl (List.mem_append_right _ (List.mem_of_getElem? (i := 355) (by decide +kernel))) (by decide +kernel) (by simp [s_ent, Value.category]) (by decide) (by simp [Value.category]) (by decide +kernel) (by simp [s_loc, s_ent, Value.category, List.replicate]) k
theorem ml_RX9_151 : s_lnk RX9 151 yX2_lines := Or.inr ⟨"TropicRanks", List.mem_append_right _ (List.mem_of_getElem? (i := 356) (by decide +kernel))⟩
theorem ml_RX9_155 : s_lnk RX9 155 yX2_removeLine := Or.inr ⟨"TropicRanks", List.mem_append_right _ (List.mem_of_getElem? (i := 357) (by decide +kernel))⟩
theorem ok_X2_removeLine : s_okm yX2_removeLine 2 := ⟨by decide +kernel, by decide +kernel, by decide +kernel, List.mem_append_right _ (List.mem_of_getElem? (i := 3) (by decide +kernel))⟩
theorem im_X2_removeLine : inT (.instanceMethod yX2_removeLine) := List.mem_append_right _ (List.mem_of_getElem? (i := 359) (by decide +kernel))
theorem se_X2_removeLine : inT (.selects RX2 yX2_removeLine yX2_removeLine) := List.mem_append_left _ (List.mem_of_getElem? (i := 19) (by decide +kernel))
abbrev mX9_turn : sM := (yX9_turn, cX9_turn, 3, (some FieldType.int), false)
theorem eX9_turn {G : sG} {d : Nat} {P : sQ} {w : sW} {κ : Nat × Nat} {a0 : Nat} {a1 : Int32} (k : wp G d mX9_turn P 0 [some (.ref a0), some (.int a1), none] [] w κ) : wpM G (d + 1) yX9_turn κ [.ref a0, .int a1] w P := wpM_in mX9_turn rfl (List.mem_append_right _ (List.mem_of_getElem? (i := 365) (by decide +kernel))) (by decide +kernel) (by simp [s_ent, Value.category]) (by decide) (by simp [Value.category]) (by decide +kernel) (by simp [s_loc, s_ent, Value.category, List.replicate]) k
theorem fl_RX9_45 : s_fl RX9 45 8 6 := ⟨_, _, _, "", rfl, by decide, Or.inl (List.mem_append_right _ (List.mem_of_getElem? (i := 206) (by decide +kernel)))⟩
theorem ml_RX9_159 : s_lnk RX9 159 yX2_becomeTurned := Or.inr ⟨"TropicRanks", List.mem_append_right _ (List.mem_of_getElem? (i := 366) (by decide +kernel))⟩
theorem ok_X2_becomeTurned : s_okm yX2_becomeTurned 1 := ⟨by decide +kernel, by decide +kernel, by decide +kernel, List.mem_append_right _ (List.mem_of_getElem? (i := 3) (by decide +kernel))⟩
theorem im_X2_becomeTurned : inT (.instanceMethod yX2_becomeTurned) := List.mem_append_right _ (List.mem_of_getElem? (i := 368) (by decide +kernel))
theorem se_X2_becomeTurned : inT (.selects RX2 yX2_becomeTurned yX2_becomeTurned) := List.mem_append_left _ (List.mem_of_getElem? (i := 20) (by decide +kernel))
theorem ml_RX9_162 : s_lnk RX9 162 yX2_become := Or.inr ⟨"TropicRanks", List.mem_append_right _ (List.mem_of_getElem? (i := 371) (by decide +kernel))⟩
theorem fl_RX9_165 : s_fl RX9 165 1 1 := ⟨_, _, _, "TropicRanks", rfl, by decide, Or.inr (List.mem_append_right _ (List.mem_of_getElem? (i := 44) (by decide +kernel)))⟩
abbrev mX9_product : sM := (yX9_product, cX9_product, 6, (some FieldType.int), false)
theorem eX9_product {G : sG} {d : Nat} {P : sQ} {w : sW} {κ : Nat × Nat} {a0 : Nat} {a1 : Int32} {a2 : Int32} {a3 : Int32} (k : wp G d mX9_product P 0 [some (.ref a0), some (.int a1), some (.int a2), some (.int a3), none, none] [] w κ) : wpM G (d + 1) yX9_product κ [.ref a0, .int a1, .int a2, .int a3] w P := wpM_in mX9_product rfl (List.mem_append_right _ (List.mem_of_getElem? (i := 375) (by decide +kernel))) (by decide +kernel) (by simp [s_ent, Value.category]) (by decide) (by simp [Value.category]) (by decide +kernel) (by simp [s_loc, s_ent, Value.category, List.replicate]) k
theorem fl_RX9_166 : s_fl RX9 166 1 2 := ⟨_, _, _, "TropicRanks", rfl, by decide, Or.inr (List.mem_append_right _ (List.mem_of_getElem? (i := 50) (by decide +kernel)))⟩
theorem fl_RX9_41 : s_fl RX9 41 8 5 := ⟨_, _, _, "", rfl, by decide, Or.inl (List.mem_append_right _ (List.mem_of_getElem? (i := 205) (by decide +kernel)))⟩
theorem ml_RX9_169 : s_lnk RX9 169 yX2_becomeProduct := Or.inr ⟨"TropicRanks", List.mem_append_right _ (List.mem_of_getElem? (i := 376) (by decide +kernel))⟩
theorem ok_X2_becomeProduct : s_okm yX2_becomeProduct 2 := ⟨by decide +kernel, by decide +kernel, by decide +kernel, List.mem_append_right _ (List.mem_of_getElem? (i := 3) (by decide +kernel))⟩
theorem im_X2_becomeProduct : inT (.instanceMethod yX2_becomeProduct) := List.mem_append_right _ (List.mem_of_getElem? (i := 378) (by decide +kernel))
theorem se_X2_becomeProduct : inT (.selects RX2 yX2_becomeProduct yX2_becomeProduct) := List.mem_append_left _ (List.mem_of_getElem? (i := 21) (by decide +kernel))
abbrev mX9_close : sM := (yX9_close, cX9_close, 3, (some FieldType.int), false)
theorem eX9_close {G : sG} {d : Nat} {P : sQ} {w : sW} {κ : Nat × Nat} {a0 : Nat} {a1 : Int32} (k : wp G d mX9_close P 0 [some (.ref a0), some (.int a1), none] [] w κ) : wpM G (d + 1) yX9_close κ [.ref a0, .int a1] w P := wpM_in mX9_close rfl (List.mem_append_right _ (List.mem_of_getElem? (i := 384) (by decide +kernel))) (by decide +kernel) (by simp [s_ent, Value.category]) (by decide) (by simp [Value.category]) (by decide +kernel) (by simp [s_loc, s_ent, Value.category, List.replicate]) k
theorem ml_RX9_173 : s_lnk RX9 173 yX2_shortenWays := Or.inr ⟨"TropicRanks", List.mem_append_right _ (List.mem_of_getElem? (i := 385) (by decide +kernel))⟩
theorem ok_X2_shortenWays : s_okm yX2_shortenWays 0 := ⟨by decide +kernel, by decide +kernel, by decide +kernel, List.mem_append_right _ (List.mem_of_getElem? (i := 3) (by decide +kernel))⟩
theorem im_X2_shortenWays : inT (.instanceMethod yX2_shortenWays) := List.mem_append_right _ (List.mem_of_getElem? (i := 387) (by decide +kernel))
theorem se_X2_shortenWays : inT (.selects RX2 yX2_shortenWays yX2_shortenWays) := List.mem_append_left _ (List.mem_of_getElem? (i := 22) (by decide +kernel))
theorem ml_RX9_176 : s_lnk RX9 176 yX2_unlikeIn := Or.inr ⟨"TropicRanks", List.mem_append_right _ (List.mem_of_getElem? (i := 389) (by decide +kernel))⟩
theorem ok_X2_unlikeIn : s_okm yX2_unlikeIn 1 := ⟨by decide +kernel, by decide +kernel, by decide +kernel, List.mem_append_right _ (List.mem_of_getElem? (i := 3) (by decide +kernel))⟩
theorem im_X2_unlikeIn : inT (.instanceMethod yX2_unlikeIn) := List.mem_append_right _ (List.mem_of_getElem? (i := 391) (by decide +kernel))
theorem se_X2_unlikeIn : inT (.selects RX2 yX2_unlikeIn yX2_unlikeIn) := List.mem_append_left _ (List.mem_of_getElem? (i := 23) (by decide +kernel))
abbrev mX9_entry : sM := (yX9_entry, cX9_entry, 4, (some FieldType.int), false)
theorem eX9_entry {G : sG} {d : Nat} {P : sQ} {w : sW} {κ : Nat × Nat} {a0 : Nat} {a1 : Int32} {a2 : Int32} {a3 : Int32} (k : wp G d mX9_entry P 0 [some (.ref a0), some (.int a1), some (.int a2), some (.int a3)] [] w κ) : wpM G (d + 1) yX9_entry κ [.ref a0, .int a1, .int a2, .int a3] w P := wpM_in mX9_entry rfl (List.mem_append_right _ (List.mem_of_getElem? (i := 560) (by decide +kernel))) (by decide +kernel) (by simp [s_ent, Value.category]) (by decide) (by simp [Value.category]) (by decide +kernel) (by simp [s_loc, s_ent, Value.category, List.replicate]) k
abbrev mX9_permanent : sM := (yX9_permanent, cX9_permanent, 6, (some FieldType.int), false)
theorem eX9_permanent {G : sG} {d : Nat} {P : sQ} {w : sW} {κ : Nat × Nat} {a0 : Nat} {a1 : Int32} {a2 : Int32} {a3 : Int32} {a4 : Int32} (k : wp G d mX9_permanent P 0 [some (.ref a0), some (.int a1), some (.int a2), some (.int a3), some (.int a4), none] [] w κ) : wpM G (d + 1) yX9_permanent κ [.ref a0, .int a1, .int a2, .int a3, .int a4] w P := wpM_in mX9_permanent rfl (List.mem_append_right _ (List.mem_of_getElem? (i := 588) (by decide +kernel))) (by decide +kernel) (by simp [s_ent, Value.category]) (by decide) (by simp [Value.category]) (by decide +kernel) (by simp [s_loc, s_ent, Value.category, List.replicate]) k
theorem ml_RX9_180 : s_lnk RX9 180 yX9_isPart := Or.inl (List.mem_append_right _ (List.mem_of_getElem? (i := 589) (by decide +kernel)))
theorem fl_RX9_51 : s_fl RX9 51 8 7 := ⟨_, _, _, "", rfl, by decide, Or.inl (List.mem_append_right _ (List.mem_of_getElem? (i := 207) (by decide +kernel)))⟩
theorem ml_RX9_184 : s_lnk RX9 184 yX8_gather := Or.inr ⟨"TropicRanks", List.mem_append_right _ (List.mem_of_getElem? (i := 590) (by decide +kernel))⟩
theorem ml_RX9_188 : s_lnk RX9 188 yX8_leastSum := Or.inr ⟨"TropicRanks", List.mem_append_right _ (List.mem_of_getElem? (i := 591) (by decide +kernel))⟩
theorem ml_RX9_191 : s_lnk RX9 191 yX8_withLeastSum := Or.inr ⟨"TropicRanks", List.mem_append_right _ (List.mem_of_getElem? (i := 592) (by decide +kernel))⟩
theorem ml_RX9_194 : s_lnk RX9 194 yX8_greatestSum := Or.inr ⟨"TropicRanks", List.mem_append_right _ (List.mem_of_getElem? (i := 593) (by decide +kernel))⟩
abbrev mX9_byParts : sM := (yX9_byParts, cX9_byParts, 3, (some FieldType.int), false)
theorem eX9_byParts {G : sG} {d : Nat} {P : sQ} {w : sW} {κ : Nat × Nat} {a0 : Nat} {a1 : Int32} {a2 : Int32} (k : wp G d mX9_byParts P 0 [some (.ref a0), some (.int a1), some (.int a2)] [] w κ) : wpM G (d + 1) yX9_byParts κ [.ref a0, .int a1, .int a2] w P := wpM_in mX9_byParts rfl (List.mem_append_right _ (List.mem_of_getElem? (i := 597) (by decide +kernel))) (by decide +kernel) (by simp [s_ent, Value.category]) (by decide) (by simp [Value.category]) (by decide +kernel) (by simp [s_loc, s_ent, Value.category, List.replicate]) k
theorem fl_RX9_58 : s_fl RX9 58 8 8 := ⟨_, _, _, "", rfl, by decide, Or.inl (List.mem_append_right _ (List.mem_of_getElem? (i := 208) (by decide +kernel)))⟩
theorem ml_RX9_197 : s_lnk RX9 197 yX5_study := Or.inr ⟨"TropicRanks", List.mem_append_right _ (List.mem_of_getElem? (i := 401) (by decide +kernel))⟩
theorem ok_X5_study : s_okm yX5_study 2 := ⟨by decide +kernel, by decide +kernel, by decide +kernel, List.mem_append_right _ (List.mem_of_getElem? (i := 7) (by decide +kernel))⟩
theorem im_X5_study : inT (.instanceMethod yX5_study) := List.mem_append_right _ (List.mem_of_getElem? (i := 403) (by decide +kernel))
theorem se_X5_study : inT (.selects RX5 yX5_study yX5_study) := List.mem_append_left _ (List.mem_of_getElem? (i := 25) (by decide +kernel))
theorem fl_RX9_201 : s_fl RX9 201 4 0 := ⟨_, _, _, "TropicRanks", rfl, by decide, Or.inr (List.mem_append_right _ (List.mem_of_getElem? (i := 144) (by decide +kernel)))⟩
theorem fl_RX9_204 : s_fl RX9 204 4 1 := ⟨_, _, _, "TropicRanks", rfl, by decide, Or.inr (List.mem_append_right _ (List.mem_of_getElem? (i := 146) (by decide +kernel)))⟩
theorem fl_RX9_205 : s_fl RX9 205 4 2 := ⟨_, _, _, "TropicRanks", rfl, by decide, Or.inr (List.mem_append_right _ (List.mem_of_getElem? (i := 148) (by decide +kernel)))⟩
theorem fl_RX9_206 : s_fl RX9 206 4 3 := ⟨_, _, _, "TropicRanks", rfl, by decide, Or.inr (List.mem_append_right _ (List.mem_of_getElem? (i := 150) (by decide +kernel)))⟩
abbrev mX9_canTouch : sM := (yX9_canTouch, cX9_canTouch, 4, (some FieldType.int), false)
theorem eX9_canTouch {G : sG} {d : Nat} {P : sQ} {w : sW} {κ : Nat × Nat} {a0 : Nat} {a1 : Int32} {a2 : Int32} (k : wp G d mX9_canTouch P 0 [some (.ref a0), some (.int a1), some (.int a2), none] [] w κ) : wpM G (d + 1) yX9_canTouch κ [.ref a0, .int a1, .int a2] w P := wpM_in mX9_canTouch rfl (List.mem_append_right _ (List.mem_of_getElem? (i := 605) (by decide +kernel))) (by decide +kernel) (by simp [s_ent, Value.category]) (by decide) (by simp [Value.category]) (by decide +kernel) (by simp [s_loc, s_ent, Value.category, List.replicate]) k
theorem ml_RX9_209 : s_lnk RX9 209 yX9_isSet := Or.inl (List.mem_append_right _ (List.mem_of_getElem? (i := 408) (by decide +kernel)))
theorem ok_X9_isSet : s_okm yX9_isSet 2 := ⟨by decide +kernel, by decide +kernel, by decide +kernel, List.mem_append_right _ (List.mem_of_getElem? (i := 1) (by decide +kernel))⟩
theorem st_X9_isSet : inT (.static yX9_isSet) := List.mem_append_right _ (List.mem_of_getElem? (i := 409) (by decide +kernel))
theorem fl_RX9_65 : s_fl RX9 65 8 9 := ⟨_, _, _, "", rfl, by decide, Or.inl (List.mem_append_right _ (List.mem_of_getElem? (i := 209) (by decide +kernel)))⟩
theorem ml_RX9_212 : s_lnk RX9 212 yX1_study := Or.inr ⟨"TropicRanks", List.mem_append_right _ (List.mem_of_getElem? (i := 444) (by decide +kernel))⟩
theorem ok_X1_study : s_okm yX1_study 2 := ⟨by decide +kernel, by decide +kernel, by decide +kernel, List.mem_append_right _ (List.mem_of_getElem? (i := 8) (by decide +kernel))⟩
theorem im_X1_study : inT (.instanceMethod yX1_study) := List.mem_append_right _ (List.mem_of_getElem? (i := 446) (by decide +kernel))
theorem se_X1_study : inT (.selects RX1 yX1_study yX1_study) := List.mem_append_left _ (List.mem_of_getElem? (i := 31) (by decide +kernel))
theorem ml_RX9_213 : s_lnk RX9 213 yX1_canTouchAll := Or.inr ⟨"TropicRanks", List.mem_append_right _ (List.mem_of_getElem? (i := 606) (by decide +kernel))⟩
abbrev mX9_byCovers : sM := (yX9_byCovers, cX9_byCovers, 3, (some FieldType.int), false)
theorem eX9_byCovers {G : sG} {d : Nat} {P : sQ} {w : sW} {κ : Nat × Nat} {a0 : Nat} {a1 : Int32} {a2 : Int32} (k : wp G d mX9_byCovers P 0 [some (.ref a0), some (.int a1), some (.int a2)] [] w κ) : wpM G (d + 1) yX9_byCovers κ [.ref a0, .int a1, .int a2] w P := wpM_in mX9_byCovers rfl (List.mem_append_right _ (List.mem_of_getElem? (i := 610) (by decide +kernel))) (by decide +kernel) (by simp [s_ent, Value.category]) (by decide) (by simp [Value.category]) (by decide +kernel) (by simp [s_loc, s_ent, Value.category, List.replicate]) k
theorem ml_RX9_216 : s_lnk RX9 216 yX1_findFirstRow := Or.inr ⟨"TropicRanks", List.mem_append_right _ (List.mem_of_getElem? (i := 467) (by decide +kernel))⟩
theorem ok_X1_findFirstRow : s_okm yX1_findFirstRow 0 := ⟨by decide +kernel, by decide +kernel, by decide +kernel, List.mem_append_right _ (List.mem_of_getElem? (i := 8) (by decide +kernel))⟩
theorem im_X1_findFirstRow : inT (.instanceMethod yX1_findFirstRow) := List.mem_append_right _ (List.mem_of_getElem? (i := 469) (by decide +kernel))
theorem se_X1_findFirstRow : inT (.selects RX1 yX1_findFirstRow yX1_findFirstRow) := List.mem_append_left _ (List.mem_of_getElem? (i := 35) (by decide +kernel))
theorem ml_RX9_219 : s_lnk RX9 219 yX1_touchableSets := Or.inr ⟨"TropicRanks", List.mem_append_right _ (List.mem_of_getElem? (i := 611) (by decide +kernel))⟩
theorem ok_X1_touchableSets : s_okm yX1_touchableSets 0 := ⟨by decide +kernel, by decide +kernel, by decide +kernel, List.mem_append_right _ (List.mem_of_getElem? (i := 8) (by decide +kernel))⟩
theorem im_X1_touchableSets : inT (.instanceMethod yX1_touchableSets) := List.mem_append_right _ (List.mem_of_getElem? (i := 613) (by decide +kernel))
theorem se_X1_touchableSets : inT (.selects RX1 yX1_touchableSets yX1_touchableSets) := List.mem_append_left _ (List.mem_of_getElem? (i := 42) (by decide +kernel))
theorem ml_RX9_222 : s_lnk RX9 222 yX1_greatestSet := Or.inr ⟨"TropicRanks", List.mem_append_right _ (List.mem_of_getElem? (i := 621) (by decide +kernel))⟩
theorem ok_X1_greatestSet : s_okm yX1_greatestSet 0 := ⟨by decide +kernel, by decide +kernel, by decide +kernel, List.mem_append_right _ (List.mem_of_getElem? (i := 8) (by decide +kernel))⟩
theorem im_X1_greatestSet : inT (.instanceMethod yX1_greatestSet) := List.mem_append_right _ (List.mem_of_getElem? (i := 623) (by decide +kernel))
theorem se_X1_greatestSet : inT (.selects RX1 yX1_greatestSet yX1_greatestSet) := List.mem_append_left _ (List.mem_of_getElem? (i := 43) (by decide +kernel))
abbrev mX9_cover : sM := (yX9_cover, cX9_cover, 3, (some FieldType.int), false)
theorem eX9_cover {G : sG} {d : Nat} {P : sQ} {w : sW} {κ : Nat × Nat} {a0 : Nat} {a1 : Int32} {a2 : Int32} (k : wp G d mX9_cover P 0 [some (.ref a0), some (.int a1), some (.int a2)] [] w κ) : wpM G (d + 1) yX9_cover κ [.ref a0, .int a1, .int a2] w P := wpM_in mX9_cover rfl (List.mem_append_right _ (List.mem_of_getElem? (i := 601) (by decide +kernel))) (by decide +kernel) (by simp [s_ent, Value.category]) (by decide) (by simp [Value.category]) (by decide +kernel) (by simp [s_loc, s_ent, Value.category, List.replicate]) k
theorem fl_RX9_225 : s_fl RX9 225 0 1 := ⟨_, _, _, "TropicRanks", rfl, by decide, Or.inr (List.mem_append_right _ (List.mem_of_getElem? (i := 168) (by decide +kernel)))⟩
abbrev mX9_cone : sM := (yX9_cone, cX9_cone, 7, (some FieldType.int), false)
theorem eX9_cone {G : sG} {d : Nat} {P : sQ} {w : sW} {κ : Nat × Nat} {a0 : Nat} {a1 : Int32} {a2 : Int32} {a3 : Int32} {a4 : Int32} (k : wp G d mX9_cone P 0 [some (.ref a0), some (.int a1), some (.int a2), some (.int a3), some (.int a4), none, none] [] w κ) : wpM G (d + 1) yX9_cone κ [.ref a0, .int a1, .int a2, .int a3, .int a4] w P := wpM_in mX9_cone rfl (List.mem_append_right _ (List.mem_of_getElem? (i := 629) (by decide +kernel))) (by decide +kernel) (by simp [s_ent, Value.category]) (by decide) (by simp [Value.category]) (by decide +kernel) (by simp [s_loc, s_ent, Value.category, List.replicate]) k
theorem ml_RX9_229 : s_lnk RX9 229 yX0_missedRows := Or.inr ⟨"TropicRanks", List.mem_append_right _ (List.mem_of_getElem? (i := 630) (by decide +kernel))⟩
abbrev mX9_factor : sM := (yX9_factor, cX9_factor, 4, (some FieldType.int), false)
theorem eX9_factor {G : sG} {d : Nat} {P : sQ} {w : sW} {κ : Nat × Nat} {a0 : Nat} {a1 : Int32} {a2 : Int32} {a3 : Int32} (k : wp G d mX9_factor P 0 [some (.ref a0), some (.int a1), some (.int a2), some (.int a3)] [] w κ) : wpM G (d + 1) yX9_factor κ [.ref a0, .int a1, .int a2, .int a3] w P := wpM_in mX9_factor rfl (List.mem_append_right _ (List.mem_of_getElem? (i := 638) (by decide +kernel))) (by decide +kernel) (by simp [s_ent, Value.category]) (by decide) (by simp [Value.category]) (by decide +kernel) (by simp [s_loc, s_ent, Value.category, List.replicate]) k
theorem ml_RX9_235 : s_lnk RX9 235 yX0_greatestDifference := Or.inr ⟨"TropicRanks", List.mem_append_right _ (List.mem_of_getElem? (i := 639) (by decide +kernel))⟩
abbrev mX9_byCone : sM := (yX9_byCone, cX9_byCone, 5, (some FieldType.int), false)
theorem eX9_byCone {G : sG} {d : Nat} {P : sQ} {w : sW} {κ : Nat × Nat} {a0 : Nat} {a1 : Int32} {a2 : Int32} {a3 : Int32} (k : wp G d mX9_byCone P 0 [some (.ref a0), some (.int a1), some (.int a2), some (.int a3), none] [] w κ) : wpM G (d + 1) yX9_byCone κ [.ref a0, .int a1, .int a2, .int a3] w P := wpM_in mX9_byCone rfl (List.mem_append_right _ (List.mem_of_getElem? (i := 634) (by decide +kernel))) (by decide +kernel) (by simp [s_ent, Value.category]) (by decide) (by simp [Value.category]) (by decide +kernel) (by simp [s_loc, s_ent, Value.category, List.replicate]) k
theorem ml_RX9_238 : s_lnk RX9 238 yX9_neededLines := Or.inl (List.mem_append_right _ (List.mem_of_getElem? (i := 478) (by decide +kernel)))
theorem ok_X9_neededLines : s_okm yX9_neededLines 2 := ⟨by decide +kernel, by decide +kernel, by decide +kernel, List.mem_append_right _ (List.mem_of_getElem? (i := 1) (by decide +kernel))⟩
theorem im_X9_neededLines : inT (.instanceMethod yX9_neededLines) := List.mem_append_right _ (List.mem_of_getElem? (i := 480) (by decide +kernel))
theorem se_X9_neededLines : inT (.selects RX9 yX9_neededLines yX9_neededLines) := List.mem_append_left _ (List.mem_of_getElem? (i := 37) (by decide +kernel))
theorem ml_RX9_242 : s_lnk RX9 242 yJ6_bitCount_0f7a4 := Or.inl (List.mem_append_right _ (List.mem_of_getElem? (i := 411) (by decide +kernel)))
abbrev mX9_arrayOf : sM := (yX9_arrayOf, cX9_arrayOf, 4, (some FieldType.int), false)
theorem eX9_arrayOf {G : sG} {d : Nat} {P : sQ} {w : sW} {κ : Nat × Nat} {a0 : Nat} {a1 : Int32} {a2 : Int32} (k : wp G d mX9_arrayOf P 0 [some (.ref a0), some (.int a1), some (.int a2), none] [] w κ) : wpM G (d + 1) yX9_arrayOf κ [.ref a0, .int a1, .int a2] w P := wpM_in mX9_arrayOf rfl (List.mem_append_right _ (List.mem_of_getElem? (i := 564) (by decide +kernel))) (by decide +kernel) (by simp [s_ent, Value.category]) (by decide) (by simp [Value.category]) (by decide +kernel) (by simp [s_loc, s_ent, Value.category, List.replicate]) k
theorem ml_RX9_248 : s_lnk RX9 248 yX2_least := Or.inr ⟨"TropicRanks", List.mem_append_right _ (List.mem_of_getElem? (i := 565) (by decide +kernel))⟩
theorem ok_X2_least : s_okm yX2_least 0 := ⟨by decide +kernel, by decide +kernel, by decide +kernel, List.mem_append_right _ (List.mem_of_getElem? (i := 3) (by decide +kernel))⟩
theorem im_X2_least : inT (.instanceMethod yX2_least) := List.mem_append_right _ (List.mem_of_getElem? (i := 567) (by decide +kernel))
theorem se_X2_least : inT (.selects RX2 yX2_least yX2_least) := List.mem_append_left _ (List.mem_of_getElem? (i := 39) (by decide +kernel))
theorem ml_RX9_251 : s_lnk RX9 251 yX2_unlikeEntries := Or.inr ⟨"TropicRanks", List.mem_append_right _ (List.mem_of_getElem? (i := 569) (by decide +kernel))⟩
theorem ok_X2_unlikeEntries : s_okm yX2_unlikeEntries 0 := ⟨by decide +kernel, by decide +kernel, by decide +kernel, List.mem_append_right _ (List.mem_of_getElem? (i := 3) (by decide +kernel))⟩
theorem im_X2_unlikeEntries : inT (.instanceMethod yX2_unlikeEntries) := List.mem_append_right _ (List.mem_of_getElem? (i := 571) (by decide +kernel))
theorem se_X2_unlikeEntries : inT (.selects RX2 yX2_unlikeEntries yX2_unlikeEntries) := List.mem_append_left _ (List.mem_of_getElem? (i := 40) (by decide +kernel))
abbrev mX9_ring : sM := (yX9_ring, cX9_ring, 4, (some FieldType.int), false)
theorem eX9_ring {G : sG} {d : Nat} {P : sQ} {w : sW} {κ : Nat × Nat} {a0 : Nat} {a1 : Int32} {a2 : Int32} (k : wp G d mX9_ring P 0 [some (.ref a0), some (.int a1), some (.int a2), none] [] w κ) : wpM G (d + 1) yX9_ring κ [.ref a0, .int a1, .int a2] w P := wpM_in mX9_ring rfl (List.mem_append_right _ (List.mem_of_getElem? (i := 643) (by decide +kernel))) (by decide +kernel) (by simp [s_ent, Value.category]) (by decide) (by simp [Value.category]) (by decide +kernel) (by simp [s_loc, s_ent, Value.category, List.replicate]) k
theorem fl_RX9_72 : s_fl RX9 72 8 10 := ⟨_, _, _, "", rfl, by decide, Or.inl (List.mem_append_right _ (List.mem_of_getElem? (i := 210) (by decide +kernel)))⟩
theorem ml_RX9_254 : s_lnk RX9 254 yX6_study := Or.inr ⟨"TropicRanks", List.mem_append_right _ (List.mem_of_getElem? (i := 644) (by decide +kernel))⟩
theorem ok_X6_study : s_okm yX6_study 1 := ⟨by decide +kernel, by decide +kernel, by decide +kernel, List.mem_append_right _ (List.mem_of_getElem? (i := 9) (by decide +kernel))⟩
theorem im_X6_study : inT (.instanceMethod yX6_study) := List.mem_append_right _ (List.mem_of_getElem? (i := 646) (by decide +kernel))
theorem se_X6_study : inT (.selects RX6 yX6_study yX6_study) := List.mem_append_left _ (List.mem_of_getElem? (i := 44) (by decide +kernel))
theorem fl_RX9_256 : s_fl RX9 256 5 0 := ⟨_, _, _, "TropicRanks", rfl, by decide, Or.inr (List.mem_append_right _ (List.mem_of_getElem? (i := 188) (by decide +kernel)))⟩
theorem fl_RX9_259 : s_fl RX9 259 5 1 := ⟨_, _, _, "TropicRanks", rfl, by decide, Or.inr (List.mem_append_right _ (List.mem_of_getElem? (i := 190) (by decide +kernel)))⟩
theorem fl_RX9_262 : s_fl RX9 262 5 2 := ⟨_, _, _, "TropicRanks", rfl, by decide, Or.inr (List.mem_append_right _ (List.mem_of_getElem? (i := 192) (by decide +kernel)))⟩
abbrev mX9_count : sM := (yX9_count, cX9_count, 2, (some FieldType.int), false)
theorem eX9_count {G : sG} {d : Nat} {P : sQ} {w : sW} {κ : Nat × Nat} {a0 : Nat} {a1 : Int32} (k : wp G d mX9_count P 0 [some (.ref a0), some (.int a1)] [] w κ) : wpM G (d + 1) yX9_count κ [.ref a0, .int a1] w P := wpM_in mX9_count rfl (List.mem_append_right _ (List.mem_of_getElem? (i := 576) (by decide +kernel))) (by decide +kernel) (by simp [s_ent, Value.category]) (by decide) (by simp [Value.category]) (by decide +kernel) (by simp [s_loc, s_ent, Value.category, List.replicate]) k
theorem ml_RX9_265 : s_lnk RX9 265 yX7_size := Or.inr ⟨"TropicRanks", List.mem_append_right _ (List.mem_of_getElem? (i := 577) (by decide +kernel))⟩
theorem ok_X7_size : s_okm yX7_size 0 := ⟨by decide +kernel, by decide +kernel, by decide +kernel, List.mem_append_right _ (List.mem_of_getElem? (i := 2) (by decide +kernel))⟩
theorem im_X7_size : inT (.instanceMethod yX7_size) := List.mem_append_right _ (List.mem_of_getElem? (i := 579) (by decide +kernel))
theorem se_X7_size : inT (.selects RX7 yX7_size yX7_size) := List.mem_append_left _ (List.mem_of_getElem? (i := 41) (by decide +kernel))
theorem fl_RX9_112 : s_fl RX9 112 3 1 := ⟨_, _, _, "TropicRanks", rfl, by decide, Or.inr (List.mem_append_right _ (List.mem_of_getElem? (i := 92) (by decide +kernel)))⟩
theorem fl_RX9_266 : s_fl RX9 266 2 2 := ⟨_, _, _, "TropicRanks", rfl, by decide, Or.inr (List.mem_append_right _ (List.mem_of_getElem? (i := 76) (by decide +kernel)))⟩
abbrev mX9_ifSet : sM := (yX9_ifSet, cX9_ifSet, 6, (some FieldType.int), false)
theorem eX9_ifSet {G : sG} {d : Nat} {P : sQ} {w : sW} {κ : Nat × Nat} {a0 : Nat} {a1 : Int32} {a2 : Int32} {a3 : Int32} {a4 : Int32} {a5 : Int32} (k : wp G d mX9_ifSet P 0 [some (.ref a0), some (.int a1), some (.int a2), some (.int a3), some (.int a4), some (.int a5)] [] w κ) : wpM G (d + 1) yX9_ifSet κ [.ref a0, .int a1, .int a2, .int a3, .int a4, .int a5] w P := wpM_in mX9_ifSet rfl (List.mem_append_right _ (List.mem_of_getElem? (i := 396) (by decide +kernel))) (by decide +kernel) (by simp [s_ent, Value.category]) (by decide) (by simp [Value.category]) (by decide +kernel) (by simp [s_loc, s_ent, Value.category, List.replicate]) k
theorem ml_RX9_268 : s_lnk RX9 268 yX9_rank := Or.inl (List.mem_append_right _ (List.mem_of_getElem? (i := 397) (by decide +kernel)))
theorem ok_X9_rank : s_okm yX9_rank 2 := ⟨by decide +kernel, by decide +kernel, by decide +kernel, List.mem_append_right _ (List.mem_of_getElem? (i := 1) (by decide +kernel))⟩
theorem im_X9_rank : inT (.instanceMethod yX9_rank) := List.mem_append_right _ (List.mem_of_getElem? (i := 399) (by decide +kernel))
theorem se_X9_rank : inT (.selects RX9 yX9_rank yX9_rank) := List.mem_append_left _ (List.mem_of_getElem? (i := 24) (by decide +kernel))
abbrev mX9_bestZero : sM := (yX9_bestZero, cX9_bestZero, 8, (some FieldType.int), false)
theorem eX9_bestZero {G : sG} {d : Nat} {P : sQ} {w : sW} {κ : Nat × Nat} {a0 : Nat} {a1 : Int32} (k : wp G d mX9_bestZero P 0 [some (.ref a0), some (.int a1), none, none, none, none, none, none] [] w κ) : wpM G (d + 1) yX9_bestZero κ [.ref a0, .int a1] w P := wpM_in mX9_bestZero rfl (List.mem_append_right _ (List.mem_of_getElem? (i := 496) (by decide +kernel))) (by decide +kernel) (by simp [s_ent, Value.category]) (by decide) (by simp [Value.category]) (by decide +kernel) (by simp [s_loc, s_ent, Value.category, List.replicate]) k
theorem ml_RX9_271 : s_lnk RX9 271 yX2_place := Or.inr ⟨"TropicRanks", List.mem_append_right _ (List.mem_of_getElem? (i := 497) (by decide +kernel))⟩
abbrev mX9_put : sM := (yX9_put, cX9_put, 4, (some FieldType.int), true)
theorem eX9_put {G : sG} {d : Nat} {P : sQ} {w : sW} {κ : Nat × Nat} {a0 : Nat} {a1 : Int64} (k : wp G d mX9_put P 0 [some (.ref a0), some (.long a1), none, none] [] w κ) : wpM G (d + 1) yX9_put κ [.ref a0, .long a1] w P := wpM_in mX9_put rfl (List.mem_append_right _ (List.mem_of_getElem? (i := 501) (by decide +kernel))) (by decide +kernel) (by simp [s_ent, Value.category]) (by decide) (by simp [Value.category]) (by decide +kernel) (by simp [s_loc, s_ent, Value.category, List.replicate]) k
theorem ml_RX9_274 : s_lnk RX9 274 yX4_charactersIn := Or.inr ⟨"TropicRanks", List.mem_append_right _ (List.mem_of_getElem? (i := 502) (by decide +kernel))⟩
theorem ok_X4_charactersIn : s_okm yX4_charactersIn 1 := ⟨by decide +kernel, by decide +kernel, by decide +kernel, List.mem_append_right _ (List.mem_of_getElem? (i := 5) (by decide +kernel))⟩
theorem st_X4_charactersIn : inT (.static yX4_charactersIn) := List.mem_append_right _ (List.mem_of_getElem? (i := 503) (by decide +kernel))
theorem ml_RX9_278 : s_lnk RX9 278 yX4_append := Or.inr ⟨"TropicRanks", List.mem_append_right _ (List.mem_of_getElem? (i := 506) (by decide +kernel))⟩
theorem ok_X4_append : s_okm yX4_append 2 := ⟨by decide +kernel, by decide +kernel, by decide +kernel, List.mem_append_right _ (List.mem_of_getElem? (i := 5) (by decide +kernel))⟩
theorem im_X4_append : inT (.instanceMethod yX4_append) := List.mem_append_right _ (List.mem_of_getElem? (i := 508) (by decide +kernel))
theorem se_X4_append : inT (.selects RX4 yX4_append yX4_append) := List.mem_append_left _ (List.mem_of_getElem? (i := 38) (by decide +kernel))
abbrev mX9_wipe : sM := (yX9_wipe, cX9_wipe, 2, (some FieldType.int), false)
theorem eX9_wipe {G : sG} {d : Nat} {P : sQ} {w : sW} {κ : Nat × Nat} {a0 : Nat} (k : wp G d mX9_wipe P 0 [some (.ref a0), none] [] w κ) : wpM G (d + 1) yX9_wipe κ [.ref a0] w P := wpM_in mX9_wipe rfl (List.mem_append_right _ (List.mem_of_getElem? (i := 513) (by decide +kernel))) (by decide +kernel) (by simp [s_ent, Value.category]) (by decide) (by simp [Value.category]) (by decide +kernel) (by simp [s_loc, s_ent, Value.category, List.replicate]) k
abbrev mX9_isArray : sM := (yX9_isArray, cX9_isArray, 1, (some FieldType.boolean), false)
theorem eX9_isArray {G : sG} {d : Nat} {P : sQ} {w : sW} {κ : Nat × Nat} {a1 : Int32} (k : wp G d mX9_isArray P 0 [some (.int a1)] [] w κ) : wpM G (d + 1) yX9_isArray κ [.int a1] w P := wpM_in mX9_isArray rfl (List.mem_append_right _ (List.mem_of_getElem? (i := 240) (by decide +kernel))) (by decide +kernel) (by simp [s_ent, Value.category]) (by decide) (by simp [Value.category]) (by decide +kernel) (by simp [s_loc, s_ent, Value.category, List.replicate]) k
abbrev mX9_isValue : sM := (yX9_isValue, cX9_isValue, 1, (some FieldType.boolean), false)
theorem eX9_isValue {G : sG} {d : Nat} {P : sQ} {w : sW} {κ : Nat × Nat} {a1 : Int32} (k : wp G d mX9_isValue P 0 [some (.int a1)] [] w κ) : wpM G (d + 1) yX9_isValue κ [.int a1] w P := wpM_in mX9_isValue rfl (List.mem_append_right _ (List.mem_of_getElem? (i := 300) (by decide +kernel))) (by decide +kernel) (by simp [s_ent, Value.category]) (by decide) (by simp [Value.category]) (by decide +kernel) (by simp [s_loc, s_ent, Value.category, List.replicate]) k
abbrev mX9_isSet : sM := (yX9_isSet, cX9_isSet, 2, (some FieldType.boolean), false)
theorem eX9_isSet {G : sG} {d : Nat} {P : sQ} {w : sW} {κ : Nat × Nat} {a1 : Int32} {a2 : Int32} (k : wp G d mX9_isSet P 0 [some (.int a1), some (.int a2)] [] w κ) : wpM G (d + 1) yX9_isSet κ [.int a1, .int a2] w P := wpM_in mX9_isSet rfl (List.mem_append_right _ (List.mem_of_getElem? (i := 410) (by decide +kernel))) (by decide +kernel) (by simp [s_ent, Value.category]) (by decide) (by simp [Value.category]) (by decide +kernel) (by simp [s_loc, s_ent, Value.category, List.replicate]) k
abbrev mX9_isPart : sM := (yX9_isPart, cX9_isPart, 3, (some FieldType.boolean), false)
theorem eX9_isPart {G : sG} {d : Nat} {P : sQ} {w : sW} {κ : Nat × Nat} {a1 : Nat} {a2 : Int32} {a3 : Int32} (k : wp G d mX9_isPart P 0 [some (.ref a1), some (.int a2), some (.int a3)] [] w κ) : wpM G (d + 1) yX9_isPart κ [.ref a1, .int a2, .int a3] w P := wpM_in mX9_isPart rfl (List.mem_append_right _ (List.mem_of_getElem? (i := 407) (by decide +kernel))) (by decide +kernel) (by simp [s_ent, Value.category]) (by decide) (by simp [Value.category]) (by decide +kernel) (by simp [s_loc, s_ent, Value.category, List.replicate]) k
abbrev mX9_rank : sM := (yX9_rank, cX9_rank, 3, (some FieldType.int), false)
theorem eX9_rank {G : sG} {d : Nat} {P : sQ} {w : sW} {κ : Nat × Nat} {a0 : Nat} {a1 : Nat} {a2 : Int32} (k : wp G d mX9_rank P 0 [some (.ref a0), some (.ref a1), some (.int a2)] [] w κ) : wpM G (d + 1) yX9_rank κ [.ref a0, .ref a1, .int a2] w P := wpM_in mX9_rank rfl (List.mem_append_right _ (List.mem_of_getElem? (i := 400) (by decide +kernel))) (by decide +kernel) (by simp [s_ent, Value.category]) (by decide) (by simp [Value.category]) (by decide +kernel) (by simp [s_loc, s_ent, Value.category, List.replicate]) k
abbrev mX9_neededLines : sM := (yX9_neededLines, cX9_neededLines, 3, (some FieldType.int), false)
theorem eX9_neededLines {G : sG} {d : Nat} {P : sQ} {w : sW} {κ : Nat × Nat} {a0 : Nat} {a1 : Nat} {a2 : Int32} (k : wp G d mX9_neededLines P 0 [some (.ref a0), some (.ref a1), some (.int a2)] [] w κ) : wpM G (d + 1) yX9_neededLines κ [.ref a0, .ref a1, .int a2] w P := wpM_in mX9_neededLines rfl (List.mem_append_right _ (List.mem_of_getElem? (i := 481) (by decide +kernel))) (by decide +kernel) (by simp [s_ent, Value.category]) (by decide) (by simp [Value.category]) (by decide +kernel) (by simp [s_loc, s_ent, Value.category, List.replicate]) k
theorem ml_RX9_290 : s_lnk RX9 290 yX0_neededColumns := Or.inr ⟨"TropicRanks", List.mem_append_right _ (List.mem_of_getElem? (i := 482) (by decide +kernel))⟩
theorem ok_X0_neededColumns : s_okm yX0_neededColumns 1 := ⟨by decide +kernel, by decide +kernel, by decide +kernel, List.mem_append_right _ (List.mem_of_getElem? (i := 14) (by decide +kernel))⟩
theorem st_X0_neededColumns : inT (.static yX0_neededColumns) := List.mem_append_right _ (List.mem_of_getElem? (i := 483) (by decide +kernel))
abbrev mL_cell : sM := (yL_cell, cL_cell, 2, (some FieldType.int), false)
theorem eL_cell {G : sG} {d : Nat} {P : sQ} {w : sW} {κ : Nat × Nat} {a1 : Nat} {a2 : Int32} (k : wp G d mL_cell P 0 [some (.ref a1), some (.int a2)] [] w κ) : wpM G (d + 1) yL_cell κ [.ref a1, .int a2] w P := wpM_in mL_cell rfl (List.mem_append_right _ (List.mem_of_getElem? (i := 516) (by decide +kernel))) (by decide +kernel) (by simp [s_ent, Value.category]) (by decide) (by simp [Value.category]) (by decide +kernel) (by simp [s_loc, s_ent, Value.category, List.replicate]) k
abbrev mL_low : sM := (yL_low, cL_low, 2, (some FieldType.int), false)
theorem eL_low {G : sG} {d : Nat} {P : sQ} {w : sW} {κ : Nat × Nat} {a1 : Int32} {a2 : Int32} (k : wp G d mL_low P 0 [some (.int a1), some (.int a2)] [] w κ) : wpM G (d + 1) yL_low κ [.int a1, .int a2] w P := wpM_in mL_low rfl (List.mem_append_right _ (List.mem_of_getElem? (i := 521) (by decide +kernel))) (by decide +kernel) (by simp [s_ent, Value.category]) (by decide) (by simp [Value.category]) (by decide +kernel) (by simp [s_loc, s_ent, Value.category, List.replicate]) k
abbrev mL_at : sM := (yL_at, cL_at, 4, (some FieldType.int), false)
theorem eL_at {G : sG} {d : Nat} {P : sQ} {w : sW} {κ : Nat × Nat} {a1 : Int32} {a2 : Int32} {a3 : Int32} {a4 : Nat} (k : wp G d mL_at P 0 [some (.int a1), some (.int a2), some (.int a3), some (.ref a4)] [] w κ) : wpM G (d + 1) yL_at κ [.int a1, .int a2, .int a3, .ref a4] w P := wpM_in mL_at rfl (List.mem_append_right _ (List.mem_of_getElem? (i := 525) (by decide +kernel))) (by decide +kernel) (by simp [s_ent, Value.category]) (by decide) (by simp [Value.category]) (by decide +kernel) (by simp [s_loc, s_ent, Value.category, List.replicate]) k
abbrev mL_many : sM := (yL_many, cL_many, 2, (some FieldType.int), false)
theorem eL_many {G : sG} {d : Nat} {P : sQ} {w : sW} {κ : Nat × Nat} {a1 : Int32} {a2 : Nat} (k : wp G d mL_many P 0 [some (.int a1), some (.ref a2)] [] w κ) : wpM G (d + 1) yL_many κ [.int a1, .ref a2] w P := wpM_in mL_many rfl (List.mem_append_right _ (List.mem_of_getElem? (i := 528) (by decide +kernel))) (by decide +kernel) (by simp [s_ent, Value.category]) (by decide) (by simp [Value.category]) (by decide +kernel) (by simp [s_loc, s_ent, Value.category, List.replicate]) k
abbrev mL_bits : sM := (yL_bits, cL_bits, 3, (some FieldType.int), false)
theorem eL_bits {G : sG} {d : Nat} {P : sQ} {w : sW} {κ : Nat × Nat} {a1 : Int32} (k : wp G d mL_bits P 0 [some (.int a1), none, none] [] w κ) : wpM G (d + 1) yL_bits κ [.int a1] w P := wpM_in mL_bits rfl (List.mem_append_right _ (List.mem_of_getElem? (i := 531) (by decide +kernel))) (by decide +kernel) (by simp [s_ent, Value.category]) (by decide) (by simp [Value.category]) (by decide +kernel) (by simp [s_loc, s_ent, Value.category, List.replicate]) k
abbrev mL_touches : sM := (yL_touches, cL_touches, 11, (some FieldType.boolean), false)
theorem eL_touches {G : sG} {d : Nat} {P : sQ} {w : sW} {κ : Nat × Nat} {a1 : Int32} {a2 : Int32} {a3 : Nat} {a4 : Nat} (k : wp G d mL_touches P 0 [some (.int a1), some (.int a2), some (.ref a3), some (.ref a4), none, none, none, none, none, none, none] [] w κ) : wpM G (d + 1) yL_touches κ [.int a1, .int a2, .ref a3, .ref a4] w P := wpM_in mL_touches rfl (List.mem_append_right _ (List.mem_of_getElem? (i := 537) (by decide +kernel))) (by decide +kernel) (by simp [s_ent, Value.category]) (by decide) (by simp [Value.category]) (by decide +kernel) (by simp [s_loc, s_ent, Value.category, List.replicate]) k
theorem ml_RL_10 : s_lnk RL 10 yL_at := Or.inl (List.mem_append_right _ (List.mem_of_getElem? (i := 523) (by decide +kernel)))
theorem ok_L_at : s_okm yL_at 4 := ⟨by decide +kernel, by decide +kernel, by decide +kernel, List.mem_append_right _ (List.mem_of_getElem? (i := 0) (by decide +kernel))⟩
theorem st_L_at : inT (.static yL_at) := List.mem_append_right _ (List.mem_of_getElem? (i := 524) (by decide +kernel))
abbrev mL_sets : sM := (yL_sets, cL_sets, 6, (some FieldType.int), false)
theorem eL_sets {G : sG} {d : Nat} {P : sQ} {w : sW} {κ : Nat × Nat} {a1 : Int32} {a2 : Nat} {a3 : Nat} {a4 : Nat} (k : wp G d mL_sets P 0 [some (.int a1), some (.ref a2), some (.ref a3), some (.ref a4), none, none] [] w κ) : wpM G (d + 1) yL_sets κ [.int a1, .ref a2, .ref a3, .ref a4] w P := wpM_in mL_sets rfl (List.mem_append_right _ (List.mem_of_getElem? (i := 534) (by decide +kernel))) (by decide +kernel) (by simp [s_ent, Value.category]) (by decide) (by simp [Value.category]) (by decide +kernel) (by simp [s_loc, s_ent, Value.category, List.replicate]) k
theorem ml_RL_16 : s_lnk RL 16 yL_many := Or.inl (List.mem_append_right _ (List.mem_of_getElem? (i := 526) (by decide +kernel)))
theorem ok_L_many : s_okm yL_many 2 := ⟨by decide +kernel, by decide +kernel, by decide +kernel, List.mem_append_right _ (List.mem_of_getElem? (i := 0) (by decide +kernel))⟩
theorem st_L_many : inT (.static yL_many) := List.mem_append_right _ (List.mem_of_getElem? (i := 527) (by decide +kernel))
theorem ml_RL_20 : s_lnk RL 20 yL_touches := Or.inl (List.mem_append_right _ (List.mem_of_getElem? (i := 535) (by decide +kernel)))
theorem ok_L_touches : s_okm yL_touches 4 := ⟨by decide +kernel, by decide +kernel, by decide +kernel, List.mem_append_right _ (List.mem_of_getElem? (i := 0) (by decide +kernel))⟩
theorem st_L_touches : inT (.static yL_touches) := List.mem_append_right _ (List.mem_of_getElem? (i := 536) (by decide +kernel))
abbrev mL_colors : sM := (yL_colors, cL_colors, 9, (some FieldType.int), false)
theorem eL_colors {G : sG} {d : Nat} {P : sQ} {w : sW} {κ : Nat × Nat} {a1 : Int32} {a2 : Nat} {a3 : Nat} {a4 : Nat} (k : wp G d mL_colors P 0 [some (.int a1), some (.ref a2), some (.ref a3), some (.ref a4), none, none, none, none, none] [] w κ) : wpM G (d + 1) yL_colors κ [.int a1, .ref a2, .ref a3, .ref a4] w P := wpM_in mL_colors rfl (List.mem_append_right _ (List.mem_of_getElem? (i := 540) (by decide +kernel))) (by decide +kernel) (by simp [s_ent, Value.category]) (by decide) (by simp [Value.category]) (by decide +kernel) (by simp [s_loc, s_ent, Value.category, List.replicate]) k
abbrev mL_ways : sM := (yL_ways, cL_ways, 15, (some FieldType.int), false)
theorem eL_ways {G : sG} {d : Nat} {P : sQ} {w : sW} {κ : Nat × Nat} {a1 : Int32} {a2 : Int32} {a3 : Int32} {a4 : Nat} (k : wp G d mL_ways P 0 [some (.int a1), some (.int a2), some (.int a3), some (.ref a4), none, none, none, none, none, none, none, none, none, none, none] [] w κ) : wpM G (d + 1) yL_ways κ [.int a1, .int a2, .int a3, .ref a4] w P := wpM_in mL_ways rfl (List.mem_append_right _ (List.mem_of_getElem? (i := 584) (by decide +kernel))) (by decide +kernel) (by simp [s_ent, Value.category]) (by decide) (by simp [Value.category]) (by decide +kernel) (by simp [s_loc, s_ent, Value.category, List.replicate]) k
theorem ml_RL_25 : s_lnk RL 25 yL_bits := Or.inl (List.mem_append_right _ (List.mem_of_getElem? (i := 529) (by decide +kernel)))
theorem ok_L_bits : s_okm yL_bits 1 := ⟨by decide +kernel, by decide +kernel, by decide +kernel, List.mem_append_right _ (List.mem_of_getElem? (i := 0) (by decide +kernel))⟩
theorem st_L_bits : inT (.static yL_bits) := List.mem_append_right _ (List.mem_of_getElem? (i := 530) (by decide +kernel))
abbrev mL_factor : sM := (yL_factor, cL_factor, 6, (some FieldType.int), false)
theorem eL_factor {G : sG} {d : Nat} {P : sQ} {w : sW} {κ : Nat × Nat} {a1 : Int32} {a2 : Int32} {a3 : Int32} {a4 : Nat} (k : wp G d mL_factor P 0 [some (.int a1), some (.int a2), some (.int a3), some (.ref a4), none, none] [] w κ) : wpM G (d + 1) yL_factor κ [.int a1, .int a2, .int a3, .ref a4] w P := wpM_in mL_factor rfl (List.mem_append_right _ (List.mem_of_getElem? (i := 550) (by decide +kernel))) (by decide +kernel) (by simp [s_ent, Value.category]) (by decide) (by simp [Value.category]) (by decide +kernel) (by simp [s_loc, s_ent, Value.category, List.replicate]) k
abbrev mL_misses : sM := (yL_misses, cL_misses, 8, (some FieldType.int), false)
theorem eL_misses {G : sG} {d : Nat} {P : sQ} {w : sW} {κ : Nat × Nat} {a1 : Int32} {a2 : Int32} {a3 : Int32} {a4 : Nat} (k : wp G d mL_misses P 0 [some (.int a1), some (.int a2), some (.int a3), some (.ref a4), none, none, none, none] [] w κ) : wpM G (d + 1) yL_misses κ [.int a1, .int a2, .int a3, .ref a4] w P := wpM_in mL_misses rfl (List.mem_append_right _ (List.mem_of_getElem? (i := 546) (by decide +kernel))) (by decide +kernel) (by simp [s_ent, Value.category]) (by decide) (by simp [Value.category]) (by decide +kernel) (by simp [s_loc, s_ent, Value.category, List.replicate]) k
theorem ml_RL_29 : s_lnk RL 29 yL_factor := Or.inl (List.mem_append_right _ (List.mem_of_getElem? (i := 548) (by decide +kernel)))
theorem ok_L_factor : s_okm yL_factor 4 := ⟨by decide +kernel, by decide +kernel, by decide +kernel, List.mem_append_right _ (List.mem_of_getElem? (i := 0) (by decide +kernel))⟩
theorem st_L_factor : inT (.static yL_factor) := List.mem_append_right _ (List.mem_of_getElem? (i := 549) (by decide +kernel))
abbrev mL_stay : sM := (yL_stay, cL_stay, 4, (some FieldType.int), false)
theorem eL_stay {G : sG} {d : Nat} {P : sQ} {w : sW} {κ : Nat × Nat} {a1 : Int32} {a2 : Nat} (k : wp G d mL_stay P 0 [some (.int a1), some (.ref a2), none, none] [] w κ) : wpM G (d + 1) yL_stay κ [.int a1, .ref a2] w P := wpM_in mL_stay rfl (List.mem_append_right _ (List.mem_of_getElem? (i := 543) (by decide +kernel))) (by decide +kernel) (by simp [s_ent, Value.category]) (by decide) (by simp [Value.category]) (by decide +kernel) (by simp [s_loc, s_ent, Value.category, List.replicate]) k
theorem ml_RL_32 : s_lnk RL 32 yL_misses := Or.inl (List.mem_append_right _ (List.mem_of_getElem? (i := 544) (by decide +kernel)))
theorem ok_L_misses : s_okm yL_misses 4 := ⟨by decide +kernel, by decide +kernel, by decide +kernel, List.mem_append_right _ (List.mem_of_getElem? (i := 0) (by decide +kernel))⟩
theorem st_L_misses : inT (.static yL_misses) := List.mem_append_right _ (List.mem_of_getElem? (i := 545) (by decide +kernel))
abbrev mL_turn : sM := (yL_turn, cL_turn, 7, (none : Option FieldType), false)
theorem eL_turn {G : sG} {d : Nat} {P : sQ} {w : sW} {κ : Nat × Nat} {a1 : Int32} {a2 : Nat} (k : wp G d mL_turn P 0 [some (.int a1), some (.ref a2), none, none, none, none, none] [] w κ) : wpM G (d + 1) yL_turn κ [.int a1, .ref a2] w P := wpM_in mL_turn rfl (List.mem_append_right _ (List.mem_of_getElem? (i := 553) (by decide +kernel))) (by decide +kernel) (by simp [s_ent, Value.category]) (by decide) (by simp [Value.category]) (by decide +kernel) (by simp [s_loc, s_ent, Value.category, List.replicate]) k
abbrev mL_same : sM := (yL_same, cL_same, 31, (some FieldType.boolean), false)
set_option maxRecDepth 1000000 in
set_option maxHeartbeats 4000000 in
theorem in_same : Jvm.Cond.code mL_same.1 mL_same.2.1 mL_same.2.2.1 mL_same.2.2.2.1 ∈ tables_1 := List.mem_of_getElem? (i := 556) rfl
theorem eL_same {G : sG} {d : Nat} {P : sQ} {w : sW} {κ : Nat × Nat} {a1 : Nat} {a2 : Int32} {a3 : Int32} {a4 : Nat} {a5 : Nat} {a6 : Nat} {a7 : Nat} (k : wp G d mL_same P 0 [some (.ref a1), some (.int a2), some (.int a3), some (.ref a4), some (.ref a5), some (.ref a6), some (.ref a7), none, none, none, none, none, none, none, none, none, none, none, none, none, none, none, none, none, none, none, none, none, none, none, none] [] w κ) : wpM G (d + 1) yL_same κ [.ref a1, .int a2, .int a3, .ref a4, .ref a5, .ref a6, .ref a7] w P := wpM_in mL_same rfl (List.mem_append_right _ in_same) (by decide +kernel) (by simp [s_ent, Value.category]) (by decide) (by simp [Value.category]) (by decide +kernel) (by simp [s_loc, s_ent, Value.category, List.replicate]) k
theorem ml_RL_35 : s_lnk RL 35 yX9_entry := Or.inl (List.mem_append_right _ (List.mem_of_getElem? (i := 557) (by decide +kernel)))
theorem ok_X9_entry : s_okm yX9_entry 3 := ⟨by decide +kernel, by decide +kernel, by decide +kernel, List.mem_append_right _ (List.mem_of_getElem? (i := 1) (by decide +kernel))⟩
theorem im_X9_entry : inT (.instanceMethod yX9_entry) := List.mem_append_right _ (List.mem_of_getElem? (i := 558) (by decide +kernel))
theorem se_X9_entry : inT (.selects RX9 yX9_entry yX9_entry) := List.mem_append_right _ (List.mem_of_getElem? (i := 559) (by decide +kernel))
theorem ml_RL_41 : s_lnk RL 41 yX9_arrayOf := Or.inl (List.mem_append_right _ (List.mem_of_getElem? (i := 561) (by decide +kernel)))
theorem ok_X9_arrayOf : s_okm yX9_arrayOf 2 := ⟨by decide +kernel, by decide +kernel, by decide +kernel, List.mem_append_right _ (List.mem_of_getElem? (i := 1) (by decide +kernel))⟩
theorem im_X9_arrayOf : inT (.instanceMethod yX9_arrayOf) := List.mem_append_right _ (List.mem_of_getElem? (i := 562) (by decide +kernel))
theorem se_X9_arrayOf : inT (.selects RX9 yX9_arrayOf yX9_arrayOf) := List.mem_append_right _ (List.mem_of_getElem? (i := 563) (by decide +kernel))
theorem ml_RL_45 : s_lnk RL 45 yX9_count := Or.inl (List.mem_append_right _ (List.mem_of_getElem? (i := 573) (by decide +kernel)))
theorem ok_X9_count : s_okm yX9_count 1 := ⟨by decide +kernel, by decide +kernel, by decide +kernel, List.mem_append_right _ (List.mem_of_getElem? (i := 1) (by decide +kernel))⟩
theorem im_X9_count : inT (.instanceMethod yX9_count) := List.mem_append_right _ (List.mem_of_getElem? (i := 574) (by decide +kernel))
theorem se_X9_count : inT (.selects RX9 yX9_count yX9_count) := List.mem_append_right _ (List.mem_of_getElem? (i := 575) (by decide +kernel))
theorem ml_RL_48 : s_lnk RL 48 yL_ways := Or.inl (List.mem_append_right _ (List.mem_of_getElem? (i := 582) (by decide +kernel)))
theorem ok_L_ways : s_okm yL_ways 4 := ⟨by decide +kernel, by decide +kernel, by decide +kernel, List.mem_append_right _ (List.mem_of_getElem? (i := 0) (by decide +kernel))⟩
theorem st_L_ways : inT (.static yL_ways) := List.mem_append_right _ (List.mem_of_getElem? (i := 583) (by decide +kernel))
theorem ml_RL_51 : s_lnk RL 51 yL_low := Or.inl (List.mem_append_right _ (List.mem_of_getElem? (i := 519) (by decide +kernel)))
theorem ok_L_low : s_okm yL_low 2 := ⟨by decide +kernel, by decide +kernel, by decide +kernel, List.mem_append_right _ (List.mem_of_getElem? (i := 0) (by decide +kernel))⟩
theorem st_L_low : inT (.static yL_low) := List.mem_append_right _ (List.mem_of_getElem? (i := 520) (by decide +kernel))
theorem ml_RL_54 : s_lnk RL 54 yX9_permanent := Or.inl (List.mem_append_right _ (List.mem_of_getElem? (i := 585) (by decide +kernel)))
theorem ok_X9_permanent : s_okm yX9_permanent 4 := ⟨by decide +kernel, by decide +kernel, by decide +kernel, List.mem_append_right _ (List.mem_of_getElem? (i := 1) (by decide +kernel))⟩
theorem im_X9_permanent : inT (.instanceMethod yX9_permanent) := List.mem_append_right _ (List.mem_of_getElem? (i := 586) (by decide +kernel))
theorem se_X9_permanent : inT (.selects RX9 yX9_permanent yX9_permanent) := List.mem_append_right _ (List.mem_of_getElem? (i := 587) (by decide +kernel))
theorem ml_RL_58 : s_lnk RL 58 yX9_byParts := Or.inl (List.mem_append_right _ (List.mem_of_getElem? (i := 594) (by decide +kernel)))
theorem ok_X9_byParts : s_okm yX9_byParts 2 := ⟨by decide +kernel, by decide +kernel, by decide +kernel, List.mem_append_right _ (List.mem_of_getElem? (i := 1) (by decide +kernel))⟩
theorem im_X9_byParts : inT (.instanceMethod yX9_byParts) := List.mem_append_right _ (List.mem_of_getElem? (i := 595) (by decide +kernel))
theorem se_X9_byParts : inT (.selects RX9 yX9_byParts yX9_byParts) := List.mem_append_right _ (List.mem_of_getElem? (i := 596) (by decide +kernel))
theorem ml_RL_61 : s_lnk RL 61 yL_sets := Or.inl (List.mem_append_right _ (List.mem_of_getElem? (i := 532) (by decide +kernel)))
theorem ok_L_sets : s_okm yL_sets 4 := ⟨by decide +kernel, by decide +kernel, by decide +kernel, List.mem_append_right _ (List.mem_of_getElem? (i := 0) (by decide +kernel))⟩
theorem st_L_sets : inT (.static yL_sets) := List.mem_append_right _ (List.mem_of_getElem? (i := 533) (by decide +kernel))
theorem ml_RL_65 : s_lnk RL 65 yL_colors := Or.inl (List.mem_append_right _ (List.mem_of_getElem? (i := 538) (by decide +kernel)))
theorem ok_L_colors : s_okm yL_colors 4 := ⟨by decide +kernel, by decide +kernel, by decide +kernel, List.mem_append_right _ (List.mem_of_getElem? (i := 0) (by decide +kernel))⟩
theorem st_L_colors : inT (.static yL_colors) := List.mem_append_right _ (List.mem_of_getElem? (i := 539) (by decide +kernel))
theorem ml_RL_69 : s_lnk RL 69 yX9_cover := Or.inl (List.mem_append_right _ (List.mem_of_getElem? (i := 598) (by decide +kernel)))
theorem ok_X9_cover : s_okm yX9_cover 2 := ⟨by decide +kernel, by decide +kernel, by decide +kernel, List.mem_append_right _ (List.mem_of_getElem? (i := 1) (by decide +kernel))⟩
theorem im_X9_cover : inT (.instanceMethod yX9_cover) := List.mem_append_right _ (List.mem_of_getElem? (i := 599) (by decide +kernel))
theorem se_X9_cover : inT (.selects RX9 yX9_cover yX9_cover) := List.mem_append_right _ (List.mem_of_getElem? (i := 600) (by decide +kernel))
theorem ml_RL_72 : s_lnk RL 72 yX9_canTouch := Or.inl (List.mem_append_right _ (List.mem_of_getElem? (i := 602) (by decide +kernel)))
theorem ok_X9_canTouch : s_okm yX9_canTouch 2 := ⟨by decide +kernel, by decide +kernel, by decide +kernel, List.mem_append_right _ (List.mem_of_getElem? (i := 1) (by decide +kernel))⟩
theorem im_X9_canTouch : inT (.instanceMethod yX9_canTouch) := List.mem_append_right _ (List.mem_of_getElem? (i := 603) (by decide +kernel))
theorem se_X9_canTouch : inT (.selects RX9 yX9_canTouch yX9_canTouch) := List.mem_append_right _ (List.mem_of_getElem? (i := 604) (by decide +kernel))
theorem ml_RL_75 : s_lnk RL 75 yX9_byCovers := Or.inl (List.mem_append_right _ (List.mem_of_getElem? (i := 607) (by decide +kernel)))
theorem ok_X9_byCovers : s_okm yX9_byCovers 2 := ⟨by decide +kernel, by decide +kernel, by decide +kernel, List.mem_append_right _ (List.mem_of_getElem? (i := 1) (by decide +kernel))⟩
theorem im_X9_byCovers : inT (.instanceMethod yX9_byCovers) := List.mem_append_right _ (List.mem_of_getElem? (i := 608) (by decide +kernel))
theorem se_X9_byCovers : inT (.selects RX9 yX9_byCovers yX9_byCovers) := List.mem_append_right _ (List.mem_of_getElem? (i := 609) (by decide +kernel))
theorem ml_RL_78 : s_lnk RL 78 yL_stay := Or.inl (List.mem_append_right _ (List.mem_of_getElem? (i := 541) (by decide +kernel)))
theorem ok_L_stay : s_okm yL_stay 2 := ⟨by decide +kernel, by decide +kernel, by decide +kernel, List.mem_append_right _ (List.mem_of_getElem? (i := 0) (by decide +kernel))⟩
theorem st_L_stay : inT (.static yL_stay) := List.mem_append_right _ (List.mem_of_getElem? (i := 542) (by decide +kernel))
theorem ml_RL_81 : s_lnk RL 81 yX9_cone := Or.inl (List.mem_append_right _ (List.mem_of_getElem? (i := 626) (by decide +kernel)))
theorem ok_X9_cone : s_okm yX9_cone 4 := ⟨by decide +kernel, by decide +kernel, by decide +kernel, List.mem_append_right _ (List.mem_of_getElem? (i := 1) (by decide +kernel))⟩
theorem im_X9_cone : inT (.instanceMethod yX9_cone) := List.mem_append_right _ (List.mem_of_getElem? (i := 627) (by decide +kernel))
theorem se_X9_cone : inT (.selects RX9 yX9_cone yX9_cone) := List.mem_append_right _ (List.mem_of_getElem? (i := 628) (by decide +kernel))
theorem ml_RL_84 : s_lnk RL 84 yX9_byCone := Or.inl (List.mem_append_right _ (List.mem_of_getElem? (i := 631) (by decide +kernel)))
theorem ok_X9_byCone : s_okm yX9_byCone 3 := ⟨by decide +kernel, by decide +kernel, by decide +kernel, List.mem_append_right _ (List.mem_of_getElem? (i := 1) (by decide +kernel))⟩
theorem im_X9_byCone : inT (.instanceMethod yX9_byCone) := List.mem_append_right _ (List.mem_of_getElem? (i := 632) (by decide +kernel))
theorem se_X9_byCone : inT (.selects RX9 yX9_byCone yX9_byCone) := List.mem_append_right _ (List.mem_of_getElem? (i := 633) (by decide +kernel))
theorem ml_RL_88 : s_lnk RL 88 yX9_factor := Or.inl (List.mem_append_right _ (List.mem_of_getElem? (i := 635) (by decide +kernel)))
theorem ok_X9_factor : s_okm yX9_factor 3 := ⟨by decide +kernel, by decide +kernel, by decide +kernel, List.mem_append_right _ (List.mem_of_getElem? (i := 1) (by decide +kernel))⟩
theorem im_X9_factor : inT (.instanceMethod yX9_factor) := List.mem_append_right _ (List.mem_of_getElem? (i := 636) (by decide +kernel))
theorem se_X9_factor : inT (.selects RX9 yX9_factor yX9_factor) := List.mem_append_right _ (List.mem_of_getElem? (i := 637) (by decide +kernel))
theorem ml_RL_90 : s_lnk RL 90 yL_turn := Or.inl (List.mem_append_right _ (List.mem_of_getElem? (i := 551) (by decide +kernel)))
theorem ok_L_turn : s_okm yL_turn 2 := ⟨by decide +kernel, by decide +kernel, by decide +kernel, List.mem_append_right _ (List.mem_of_getElem? (i := 0) (by decide +kernel))⟩
theorem st_L_turn : inT (.static yL_turn) := List.mem_append_right _ (List.mem_of_getElem? (i := 552) (by decide +kernel))
theorem ml_RL_94 : s_lnk RL 94 yX9_ring := Or.inl (List.mem_append_right _ (List.mem_of_getElem? (i := 640) (by decide +kernel)))
theorem ok_X9_ring : s_okm yX9_ring 2 := ⟨by decide +kernel, by decide +kernel, by decide +kernel, List.mem_append_right _ (List.mem_of_getElem? (i := 1) (by decide +kernel))⟩
theorem im_X9_ring : inT (.instanceMethod yX9_ring) := List.mem_append_right _ (List.mem_of_getElem? (i := 641) (by decide +kernel))
theorem se_X9_ring : inT (.selects RX9 yX9_ring yX9_ring) := List.mem_append_right _ (List.mem_of_getElem? (i := 642) (by decide +kernel))
theorem ml_RL_97 : s_lnk RL 97 yX9_init := Or.inl (List.mem_append_right _ (List.mem_of_getElem? (i := 17) (by decide +kernel)))
theorem ok_X9_init : s_okm yX9_init 0 := ⟨by decide +kernel, by decide +kernel, by decide +kernel, List.mem_append_right _ (List.mem_of_getElem? (i := 1) (by decide +kernel))⟩
theorem im_X9_init : inT (.instanceMethod yX9_init) := List.mem_append_right _ (List.mem_of_getElem? (i := 18) (by decide +kernel))
theorem ml_RL_98 : s_lnk RL 98 yL_cell := Or.inl (List.mem_append_right _ (List.mem_of_getElem? (i := 514) (by decide +kernel)))
theorem ok_L_cell : s_okm yL_cell 2 := ⟨by decide +kernel, by decide +kernel, by decide +kernel, List.mem_append_right _ (List.mem_of_getElem? (i := 0) (by decide +kernel))⟩
theorem st_L_cell : inT (.static yL_cell) := List.mem_append_right _ (List.mem_of_getElem? (i := 515) (by decide +kernel))
theorem ml_RL_102 : s_lnk RL 102 yX9_wipe := Or.inl (List.mem_append_right _ (List.mem_of_getElem? (i := 510) (by decide +kernel)))
theorem ok_X9_wipe : s_okm yX9_wipe 0 := ⟨by decide +kernel, by decide +kernel, by decide +kernel, List.mem_append_right _ (List.mem_of_getElem? (i := 1) (by decide +kernel))⟩
theorem im_X9_wipe : inT (.instanceMethod yX9_wipe) := List.mem_append_right _ (List.mem_of_getElem? (i := 511) (by decide +kernel))
theorem se_X9_wipe : inT (.selects RX9 yX9_wipe yX9_wipe) := List.mem_append_right _ (List.mem_of_getElem? (i := 512) (by decide +kernel))
theorem ml_RL_110 : s_lnk RL 110 yX9_put := Or.inl (List.mem_append_right _ (List.mem_of_getElem? (i := 498) (by decide +kernel)))
theorem ok_X9_put : s_okm yX9_put 1 := ⟨by decide +kernel, by decide +kernel, by decide +kernel, List.mem_append_right _ (List.mem_of_getElem? (i := 1) (by decide +kernel))⟩
theorem im_X9_put : inT (.instanceMethod yX9_put) := List.mem_append_right _ (List.mem_of_getElem? (i := 499) (by decide +kernel))
theorem se_X9_put : inT (.selects RX9 yX9_put yX9_put) := List.mem_append_right _ (List.mem_of_getElem? (i := 500) (by decide +kernel))
theorem ml_RL_114 : s_lnk RL 114 yX9_load := Or.inl (List.mem_append_right _ (List.mem_of_getElem? (i := 234) (by decide +kernel)))
theorem ok_X9_load : s_okm yX9_load 1 := ⟨by decide +kernel, by decide +kernel, by decide +kernel, List.mem_append_right _ (List.mem_of_getElem? (i := 1) (by decide +kernel))⟩
theorem im_X9_load : inT (.instanceMethod yX9_load) := List.mem_append_right _ (List.mem_of_getElem? (i := 235) (by decide +kernel))
theorem se_X9_load : inT (.selects RX9 yX9_load yX9_load) := List.mem_append_right _ (List.mem_of_getElem? (i := 236) (by decide +kernel))
theorem ml_RL_117 : s_lnk RL 117 yX9_set := Or.inl (List.mem_append_right _ (List.mem_of_getElem? (i := 290) (by decide +kernel)))
theorem ok_X9_set : s_okm yX9_set 4 := ⟨by decide +kernel, by decide +kernel, by decide +kernel, List.mem_append_right _ (List.mem_of_getElem? (i := 1) (by decide +kernel))⟩
theorem im_X9_set : inT (.instanceMethod yX9_set) := List.mem_append_right _ (List.mem_of_getElem? (i := 291) (by decide +kernel))
theorem se_X9_set : inT (.selects RX9 yX9_set yX9_set) := List.mem_append_right _ (List.mem_of_getElem? (i := 292) (by decide +kernel))
theorem ml_RL_120 : s_lnk RL 120 yX9_raise := Or.inl (List.mem_append_right _ (List.mem_of_getElem? (i := 313) (by decide +kernel)))
theorem ok_X9_raise : s_okm yX9_raise 4 := ⟨by decide +kernel, by decide +kernel, by decide +kernel, List.mem_append_right _ (List.mem_of_getElem? (i := 1) (by decide +kernel))⟩
theorem im_X9_raise : inT (.instanceMethod yX9_raise) := List.mem_append_right _ (List.mem_of_getElem? (i := 314) (by decide +kernel))
theorem se_X9_raise : inT (.selects RX9 yX9_raise yX9_raise) := List.mem_append_right _ (List.mem_of_getElem? (i := 315) (by decide +kernel))
theorem ml_RL_124 : s_lnk RL 124 yX9_exchange := Or.inl (List.mem_append_right _ (List.mem_of_getElem? (i := 344) (by decide +kernel)))
theorem ok_X9_exchange : s_okm yX9_exchange 4 := ⟨by decide +kernel, by decide +kernel, by decide +kernel, List.mem_append_right _ (List.mem_of_getElem? (i := 1) (by decide +kernel))⟩
theorem im_X9_exchange : inT (.instanceMethod yX9_exchange) := List.mem_append_right _ (List.mem_of_getElem? (i := 345) (by decide +kernel))
theorem se_X9_exchange : inT (.selects RX9 yX9_exchange yX9_exchange) := List.mem_append_right _ (List.mem_of_getElem? (i := 346) (by decide +kernel))
theorem ml_RL_127 : s_lnk RL 127 yX9_drop := Or.inl (List.mem_append_right _ (List.mem_of_getElem? (i := 352) (by decide +kernel)))
theorem ok_X9_drop : s_okm yX9_drop 3 := ⟨by decide +kernel, by decide +kernel, by decide +kernel, List.mem_append_right _ (List.mem_of_getElem? (i := 1) (by decide +kernel))⟩
theorem im_X9_drop : inT (.instanceMethod yX9_drop) := List.mem_append_right _ (List.mem_of_getElem? (i := 353) (by decide +kernel))
theorem se_X9_drop : inT (.selects RX9 yX9_drop yX9_drop) := List.mem_append_right _ (List.mem_of_getElem? (i := 354) (by decide +kernel))
theorem ml_RL_130 : s_lnk RL 130 yX9_turn := Or.inl (List.mem_append_right _ (List.mem_of_getElem? (i := 362) (by decide +kernel)))
theorem ok_X9_turn : s_okm yX9_turn 1 := ⟨by decide +kernel, by decide +kernel, by decide +kernel, List.mem_append_right _ (List.mem_of_getElem? (i := 1) (by decide +kernel))⟩
theorem im_X9_turn : inT (.instanceMethod yX9_turn) := List.mem_append_right _ (List.mem_of_getElem? (i := 363) (by decide +kernel))
theorem se_X9_turn : inT (.selects RX9 yX9_turn yX9_turn) := List.mem_append_right _ (List.mem_of_getElem? (i := 364) (by decide +kernel))
theorem ml_RL_132 : s_lnk RL 132 yX9_product := Or.inl (List.mem_append_right _ (List.mem_of_getElem? (i := 372) (by decide +kernel)))
theorem ok_X9_product : s_okm yX9_product 3 := ⟨by decide +kernel, by decide +kernel, by decide +kernel, List.mem_append_right _ (List.mem_of_getElem? (i := 1) (by decide +kernel))⟩
theorem im_X9_product : inT (.instanceMethod yX9_product) := List.mem_append_right _ (List.mem_of_getElem? (i := 373) (by decide +kernel))
theorem se_X9_product : inT (.selects RX9 yX9_product yX9_product) := List.mem_append_right _ (List.mem_of_getElem? (i := 374) (by decide +kernel))
theorem ml_RL_135 : s_lnk RL 135 yX9_close := Or.inl (List.mem_append_right _ (List.mem_of_getElem? (i := 381) (by decide +kernel)))
theorem ok_X9_close : s_okm yX9_close 1 := ⟨by decide +kernel, by decide +kernel, by decide +kernel, List.mem_append_right _ (List.mem_of_getElem? (i := 1) (by decide +kernel))⟩
theorem im_X9_close : inT (.instanceMethod yX9_close) := List.mem_append_right _ (List.mem_of_getElem? (i := 382) (by decide +kernel))
theorem se_X9_close : inT (.selects RX9 yX9_close yX9_close) := List.mem_append_right _ (List.mem_of_getElem? (i := 383) (by decide +kernel))
theorem ml_RL_138 : s_lnk RL 138 yL_same := Or.inl (List.mem_append_right _ (List.mem_of_getElem? (i := 554) (by decide +kernel)))
theorem ok_L_same : s_okm yL_same 7 := ⟨by decide +kernel, by decide +kernel, by decide +kernel, List.mem_append_right _ (List.mem_of_getElem? (i := 0) (by decide +kernel))⟩
theorem st_L_same : inT (.static yL_same) := List.mem_append_right _ (List.mem_of_getElem? (i := 555) (by decide +kernel))
theorem ml_RL_142 : s_lnk RL 142 yX9_ifSet := Or.inl (List.mem_append_right _ (List.mem_of_getElem? (i := 393) (by decide +kernel)))
theorem ok_X9_ifSet : s_okm yX9_ifSet 5 := ⟨by decide +kernel, by decide +kernel, by decide +kernel, List.mem_append_right _ (List.mem_of_getElem? (i := 1) (by decide +kernel))⟩
theorem im_X9_ifSet : inT (.instanceMethod yX9_ifSet) := List.mem_append_right _ (List.mem_of_getElem? (i := 394) (by decide +kernel))
theorem se_X9_ifSet : inT (.selects RX9 yX9_ifSet yX9_ifSet) := List.mem_append_right _ (List.mem_of_getElem? (i := 395) (by decide +kernel))
theorem ml_RL_146 : s_lnk RL 146 yX9_bestZero := Or.inl (List.mem_append_right _ (List.mem_of_getElem? (i := 493) (by decide +kernel)))
theorem ok_X9_bestZero : s_okm yX9_bestZero 1 := ⟨by decide +kernel, by decide +kernel, by decide +kernel, List.mem_append_right _ (List.mem_of_getElem? (i := 1) (by decide +kernel))⟩
theorem im_X9_bestZero : inT (.instanceMethod yX9_bestZero) := List.mem_append_right _ (List.mem_of_getElem? (i := 494) (by decide +kernel))
theorem se_X9_bestZero : inT (.selects RX9 yX9_bestZero yX9_bestZero) := List.mem_append_right _ (List.mem_of_getElem? (i := 495) (by decide +kernel))
