/-! the reference: put -/
theorem lU_and2 (u : Nat) : lU u &&& 255 = lU (u % 256) := by
  apply Int64.toBitVec_inj.mp
  apply BitVec.eq_of_toNat_eq
  have h1 : (Int64.toBitVec 255) = 255#64 := rfl
  simp only [Int64.toBitVec_and, lU, Int64.toBitVec_ofNat', h1, BitVec.toNat_and, BitVec.toNat_ofNat]
  rw [show 255 % 2 ^ 64 = 2 ^ 8 - 1 from rfl, Nat.and_two_pow_sub_one_eq_mod]
  omega
def ptT (f m r : Nat) (b : Bool) : Nat := if b = true ∧ vB m r = true then f + nB m r else 0
def dwI (n : Nat) : Int32 := match n with
  | 0 => -1
  | n + 1 => nI n
section REFP
variable {G : sG} {d D : Nat} {P : sQ} {w : sW} {v : M7} {st : Nat → Nat} {s : xS}
set_option maxHeartbeats 1000000 in
theorem m_put {u : Nat} (hu : u < 2 ^ 64) (h : mdAt G w D s) (ho : okS s) (k : ∀ w', Fr w w' (sD D) → mdAt G w' D (spPut s u).2 → P (some (.int (spPut s u).1)) w') : wpM G (d + 2) yX10_put (0, 0) [.ref D, .long (lU u)] w P := by
  obtain ⟨⟨v, o1, o2, o3⟩, p2, p3, p4, p5, ⟨pd, p6, p6'⟩, p7⟩ := id h
  have hln := ho.2.2.2.2.1
  have hm8 : putN u ≤ 8 := by
    unfold putN
    split
    · exact nB_le 8 _
    · omega
  unfold spPut at k
  refine eX10_put ?_
  refine qX10_put_0 ?_
  refine qX10_put_1 rfl ?_
  refine qX10_put_2 ?_
  refine qX10_put_3 rfl ?_
  refine qX10_put_5 ?_
  refine qX10_put_6 rfl ?_
  have L : ∀ m f r (b : Bool), f + m = 8 → r < 2 ^ 64 → r < 256 ^ m → ptT f m r b = putN u → wp G (d + 1) mX10_put P 8 [some (.ref D), some (.long (lU u)), none, some (.int (nI f)), some (.long (lU r)), none, some (.int (nI (tf b))), none] [] w (0, 0) := by
    have fin : ∀ m f r (b : Bool), f + m = 8 → r < 2 ^ 64 → ptT f m r b = putN u → (m = 0 ∧ r = 0 ∨ m ≠ 0 ∧ r % 256 = 0) → wp G (d + 1) mX10_put P 67 [some (.ref D), some (.long (lU u)), none, some (.int (nI f)), some (.long (lU r)), none, some (.int (nI (tf b))), none] [] w (0, 0) := by
      intro m f r b hf hr he hm
      have bad : putN u = 0 → wp G (d + 1) mX10_put P 83 [some (.ref D), some (.long (lU u)), none, some (.int (nI f)), some (.long (lU r)), none, some (.int (nI (tf b))), none] [] w (0, 0) := by
        intro h0
        rw [if_pos h0] at k
        refine qX10_put_83 ?_
        refine qX10_put_85 ?_
        exact k w Fr.rf h
      refine qX10_put_67 ?_
      refine nX10_put_68 (by omega) (fun h68 => ?_) (fun h68 => ?_)
      · refine bad ?_
        rw [← he]
        unfold ptT
        rcases hm with ⟨hm, _⟩ | ⟨hm, hm2⟩
        · omega
        · obtain ⟨m', rfl⟩ : ∃ m', m = m' + 1 := ⟨m - 1, by omega⟩
          by_cases hr0 : r = 0
          · subst hr0
            simp [nB]
            omega
          · rw [if_neg]
            intro e
            have := e.2
            simp [vB, hr0, hm2] at this
      · refine qX10_put_71 ?_
        cases b with
        | false =>
          have h0 : putN u = 0 := by rw [← he]; simp [ptT]
          show wp G (d + 1) mX10_put P 73 _ (.int (nI 0) :: []) w (0, 0)
          refine nX10_put_73 (by omega) (fun h73 => ?_) (fun h73 => by exfalso; omega)
          exact bad h0
        | true =>
          show wp G (d + 1) mX10_put P 73 _ (.int (nI 1) :: []) w (0, 0)
          refine nX10_put_73 (by omega) (fun h73 => by exfalso; omega) (fun h73 => ?_)
          refine qX10_put_76 ?_
          refine qX10_put_78 ?_
          refine qX10_put_79 ?_
          refine qX10_put_80 (fun h80 => ?_) (fun h80 => ?_)
          · have hr0 : r = 0 := (lU_cmp0 hr).mp h80
            have hv : vB m r = true ∧ nB m r = 0 := by
              subst hr0
              cases m <;> simp [vB, nB]
            have hfn : putN u = f := by
              rw [← he]
              unfold ptT
              rw [if_pos ⟨rfl, hv.1⟩, hv.2]
              rfl
            rw [if_neg (by omega)] at k
            refine qX10_put_86 ?_
            refine qX10_put_87 (by assumption) ?_
            refine qX10_put_90 ?_
            rw [o3]
            first | refine nX10_put_91 ?_ | refine qX10_put_91 ?_
            refine qX10_put_92 ?_
            refine nX10_put_94 (by omega) (by omega) (fun h94 => ?_) (fun h94 => ?_)
            · rw [if_neg (by omega)] at k
              refine qX10_put_100 ?_
              refine qX10_put_101 ?_
              first | refine nX10_put_102 (by omega) ?_ | refine qX10_put_102 ?_
              refine qX10_put_103 rfl ?_
              have L2 : ∀ n i (w' : sW) (pd' : Nat → Nat), i + n = f → Fr w w' (fun q => q = D ∨ q = D + 5) → mO w' D (v.1, ln s + i, v.2.2.1, v.2.2.2.1, v.2.2.2.2.1, v.2.2.2.2.2.1, v.2.2.2.2.2.2) → w'.1 (D + 5) = aN G 80 pd' → (∀ j, j < ln s + i → pd' j = if ln s ≤ j ∧ j < ln s + f then u / 2 ^ (8 * (f - 1 - (j - ln s))) % 256 else lc s j) → wp G (d + 1) mX10_put P 105 [some (.ref D), some (.long (lU u)), none, some (.int (nI f)), some (.long (lU r)), none, some (.int (nI (tf true))), some (.int (dwI n))] [] w' (0, 0) := by
                intro n
                induction n with
                | zero =>
                  intro i w' pd' hi hF m1 hpd hq
                  have hif : i = f := by omega
                  subst hif
                  refine qX10_put_105 ?_
                  refine qX10_put_107 (fun _ => ?_) (fun h => absurd (by decide) h)
                  refine qX10_put_147 ?_
                  refine qX10_put_148 (by assumption) ?_
                  refine qX10_put_151 ?_
                  have : P (some (.int (nI (ln s + putN u)))) w' := k w' (hF.mono (fun q hq => by unfold sD; omega)) ⟨⟨_, m1, o2, by show ln s + i = ln s + putN u; rw [hfn]⟩, p2.fr hF (by omega), p3.fr hF (by omega), p4.fr hF (by omega), p5.fr hF (by omega), ⟨pd', hpd, fun j hj => by
                    have hj : j < ln s + putN u := hj
                    show pd' j = if ln s ≤ j ∧ j < ln s + putN u then u / 2 ^ (8 * (putN u - 1 - (j - ln s))) % 256 else lc s j
                    rw [hfn] at hj ⊢
                    exact hq j hj⟩, p7.fr hF (fun q a1 a2 => by omega)⟩
                  rw [hfn] at this
                  exact this
                | succ n ih =>
                  intro i w' pd' hi hF m1 hpd hq
                  show wp G (d + 1) mX10_put P 105 [some (.ref D), some (.long (lU u)), none, some (.int (nI f)), some (.long (lU r)), none, some (.int (nI (tf true))), some (.int (nI n))] [] w' (0, 0)
                  refine qX10_put_105 ?_
                  refine nX10_put_107 (by omega) (fun h => absurd h (Nat.not_lt_zero _)) (fun _ => ?_)
                  refine qX10_put_110 ?_
                  refine qX10_put_111 (by assumption) ?_
                  refine qX10_put_114 ?_
                  refine qX10_put_115 (by assumption) ?_
                  refine qX10_put_118 ?_
                  refine qX10_put_119 ?_
                  refine qX10_put_121 ?_
                  first | refine nX10_put_123 ?_ | refine qX10_put_123 ?_
                  refine qX10_put_124 ?_
                  rw [lU_shr hu (by omega)]
                  refine qX10_put_125 ?_
                  refine qX10_put_128 ?_
                  refine qX10_put_129 ?_
                  rw [lU_and]
                  have hlt : u / 2 ^ (8 * n) % 256 < 256 := Nat.mod_lt _ (by decide)
                  refine fX10_put_130 hpd (show ln s + i < 80 by omega) (by decide) ?_
                  generalize hw2 : s_up w' (D + 5) _ = w2
                  have hF2 : Fr w' w2 (fun q => q = D + 5) := by rw [← hw2]; exact Fr.rf.up rfl
                  have m2 : mO w2 D _ := (hF2.2 D (by omega)).trans m1
                  have q2 : w2.1 (D + 5) = aN G 80 (updN pd' (ln s + i) (u / 2 ^ (8 * n) % 256)) := by rw [← hw2]; exact s_upS
                  refine qX10_put_131 ?_
                  refine qX10_put_132 rfl ?_
                  refine qX10_put_133 (by assumption) ?_
                  refine qX10_put_136 ?_
                  first | refine nX10_put_137 ?_ | refine qX10_put_137 ?_
                  refine qX10_put_138 (by assumption) ?_
                  generalize hw3 : s_up w2 D _ = w3
                  have hF3 : Fr w2 w3 (fun q => q = D) := by rw [← hw3]; exact Fr.rf.up rfl
                  have m3 : mO w3 D (v.1, ln s + (i + 1), v.2.2.1, v.2.2.2.1, v.2.2.2.2.1, v.2.2.2.2.2.1, v.2.2.2.2.2.2) := by rw [← hw3]; exact s_upS
                  have st : wp G (d + 1) mX10_put P 105 [some (.ref D), some (.long (lU u)), none, some (.int (nI f)), some (.long (lU r)), none, some (.int (nI (tf true))), some (.int (dwI n))] [] w3 (0, 0) := by
                    refine ih (i + 1) w3 _ (by omega) ((hF.tr hF2 (fun q hq => Or.inr hq)).tr hF3 (fun q hq => Or.inl hq)) m3 (by rw [hF3.2 _ (by omega)]; exact q2) (fun j hj => ?_)
                    by_cases hji : j = ln s + i
                    · subst hji
                      rw [updN_s, if_pos (by omega), show f - 1 - (ln s + i - ln s) = n by omega]
                    · rw [updN_n hji]
                      exact hq j (by omega)
                  cases n with
                  | zero =>
                    refine qX10_put_141 rfl ?_
                    rw [show nI 0 + Int32.ofInt (-1) = -1 by decide]
                    refine qX10_put_144 ?_
                    exact st
                  | succ n =>
                    refine nX10_put_141 rfl ?_
                    refine qX10_put_144 ?_
                    exact st
              have hf0 : f ≠ 0 := h68
              obtain ⟨f', rfl⟩ : ∃ f', f = f' + 1 := ⟨f - 1, by omega⟩
              rw [show f' + 1 - 1 = f' from rfl]
              have := L2 (f' + 1) 0 w pd (by omega) Fr.rf (by
                have e : v.2.1 = ln s + 0 := o3
                rw [← e]
                exact o1) p6 (fun j hj => by rw [if_neg (by omega)]; exact p6' j hj)
              exact this
            · rw [if_pos (by omega)] at k
              refine qX10_put_97 ?_
              refine qX10_put_99 ?_
              exact k w Fr.rf h
          · refine bad ?_
            have hr0 : r ≠ 0 := fun z => h80 ((lU_cmp0 hr).mpr z)
            rw [← he]
            unfold ptT
            rcases hm with ⟨_, hm⟩ | ⟨hm, hm2⟩
            · exact absurd hm hr0
            · obtain ⟨m', rfl⟩ : ∃ m', m = m' + 1 := ⟨m - 1, by omega⟩
              rw [if_neg]
              intro e
              have := e.2
              simp [vB, hr0, hm2] at this
    intro m
    induction m with
    | zero =>
      intro f r b hf hr hr2 he
      refine qX10_put_8 ?_
      refine qX10_put_9 ?_
      refine nX10_put_11 (by omega) (by omega) (fun h11 => ?_) (fun h11 => by exfalso; omega)
      exact fin 0 f r b hf hr he (Or.inl ⟨rfl, by omega⟩)
    | succ m ih =>
      intro f r b hf hr hr2 he
      have hm := Nat.mod_lt r (show 256 > 0 by decide)
      refine qX10_put_8 ?_
      refine qX10_put_9 ?_
      refine nX10_put_11 (by omega) (by omega) (fun h11 => by exfalso; omega) (fun h11 => ?_)
      refine qX10_put_14 ?_
      refine qX10_put_16 ?_
      refine qX10_put_19 ?_
      rw [lU_and2]
      refine qX10_put_20 ?_
      refine qX10_put_21 ?_
      refine qX10_put_22 (fun h22 => ?_) (fun h22 => ?_)
      · have h0 : r % 256 = 0 := (lU_cmp0 (by omega)).mp h22
        exact fin (m + 1) f r b hf hr he (Or.inr ⟨by omega, h0⟩)
      · have h0 : r % 256 ≠ 0 := fun z => h22 ((lU_cmp0 (by omega)).mpr z)
        have hr0 : r ≠ 0 := fun z => h0 (by rw [z])
        have e1 : vB (m + 1) r = (decide (33 ≤ r % 256) && decide (r % 256 ≤ 126) && vB m (r / 256)) := by simp [vB, hr0]
        have e2 : nB (m + 1) r = nB m (r / 256) + 1 := by simp [nB, hr0]
        have rest : ∀ b' : Bool, b' = (b && (decide (33 ≤ r % 256) && decide (r % 256 ≤ 126))) → wp G (d + 1) mX10_put P 52 [some (.ref D), some (.long (lU u)), none, some (.int (nI f)), some (.long (lU r)), none, some (.int (nI (tf b))), none] [.int (nI (tf b'))] w (0, 0) := by
          intro b' hb'
          refine qX10_put_52 rfl ?_
          refine qX10_put_54 ?_
          refine qX10_put_56 ?_
          refine qX10_put_58 ?_
          rw [lU_shr hr (by decide), show (2 : Nat) ^ 8 = 256 from rfl]
          refine qX10_put_59 rfl ?_
          refine nX10_put_61 rfl ?_
          refine qX10_put_64 ?_
          refine ih (f + 1) (r / 256) b' (by omega) (by omega) (by rw [Nat.pow_succ] at hr2; omega) ?_
          rw [← he]
          unfold ptT
          rw [hb', e1, e2]
          cases b <;> cases decide (33 ≤ r % 256) <;> cases decide (r % 256 ≤ 126) <;> cases vB m (r / 256) <;> simp
          omega
        refine qX10_put_25 ?_
        cases b with
        | false =>
          show wp G (d + 1) mX10_put P 27 _ (.int (nI 0) :: []) w (0, 0)
          refine nX10_put_27 (by omega) (fun h27 => ?_) (fun h27 => by exfalso; omega)
          refine qX10_put_51 ?_
          exact rest false rfl
        | true =>
          show wp G (d + 1) mX10_put P 27 _ (.int (nI 1) :: []) w (0, 0)
          refine nX10_put_27 (by omega) (fun h27 => by exfalso; omega) (fun h27 => ?_)
          refine qX10_put_30 ?_
          refine qX10_put_32 ?_
          refine qX10_put_35 ?_
          refine qX10_put_36 ?_
          rw [lU_and]
          refine qX10_put_37 ?_
          refine qX10_put_39 ?_
          refine qX10_put_41 (Nat.le_of_ble_eq_true rfl) (m_within (fun h1 h2 => ?_) (fun hno => ?_))
          · rw [nI_leI (by decide) (by omega)] at h1
            rw [nI_leI (by omega) (by decide)] at h2
            refine nX10_put_44 (by omega) (fun h44 => by exfalso; omega) (fun h44 => ?_)
            refine qX10_put_47 ?_
            refine qX10_put_48 ?_
            exact rest true (by simp [h1, h2])
          · rw [nI_leI (by decide) (by omega), nI_leI (by omega) (by decide)] at hno
            refine nX10_put_44 (by omega) (fun h44 => ?_) (fun h44 => by exfalso; omega)
            refine qX10_put_51 ?_
            refine rest false ?_
            cases hq : (true && (decide (33 ≤ r % 256) && decide (r % 256 ≤ 126))) with
            | false => rfl
            | true =>
              simp only [Bool.true_and, Bool.and_eq_true, decide_eq_true_eq] at hq
              exact absurd hq hno
  refine L 8 0 u true rfl hu hu ?_
  unfold ptT putN
  simp
end REFP
