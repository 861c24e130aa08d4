theorem mStalk {N i : Nat} {V : Int} {s q : Nat} (hN : 100 < N) (hi : i < 2147483648) (hV : -20971520 ≤ V ∧ V ≤ 20971520) (h0 : V ≠ 0) (hsq : V % 1048576 ≠ 0 → V.natAbs = 2 ^ s * (2 * q + 1) ∧ s < 20) (σ : Ms) : F12_stalkOf N (zL (V.natAbs : Int)) (nI i) σ = some (if cst V s i = 2 then -nI 1 else nI (cst V s i), σ) := by
  have res : ∀ c : Nat, c < 2 → cst V s i = c → (if cst V s i = 2 then -nI 1 else nI (cst V s i)) = nI c := fun c hc e => by
    rw [e, if_neg (by omega)]
  unfold F12_stalkOf
  rw [ckU, ck_t, div_U (by omega), lt_e, ck_t]
  by_cases hw : V % 1048576 = 0
  · rw [if_neg (by exact fun z => z ((rem_eq (by omega)).mpr (by omega)))]
    have hbd : bday V s = V.natAbs / 1048576 := if_pos hw
    unfold F12_stalkOf_b22 F12_stalkOf_b37
    rw [if_neg (by decide)]
    by_cases c1 : V.natAbs / 1048576 ≤ i
    · have : cst V s i = 2 := if_pos (by omega)
      rw [if_pos (nI_le c1 hi), if_neg (by decide), if_pos this]
      rfl
    · rw [if_neg (nI_ge (by omega) (by omega)), res 0 (by omega) (by unfold cst; rw [if_neg (by omega), if_pos (Or.inl hw)])]
      rfl
  rw [if_pos (by exact fun z => hw (by have := (rem_eq (by omega)).mp z; omega))]
  obtain ⟨e, hs⟩ := hsq hw
  obtain ⟨r, q', r1, r2, r3, r4⟩ := nat_split hw e hs
  have hbd : bday V s = V.natAbs / 1048576 + (20 - s) + 1 := if_neg hw
  unfold F12_stalkOf_b22 F12_stalkOf_b37
  rw [if_pos (by rfl), show (1 : Int32) = nI 1 from rfl, nI_add]
  by_cases c1 : V.natAbs / 1048576 + 1 ≤ i
  rotate_left
  · rw [if_neg (nI_ge (by omega) (by omega)), res 0 (by omega) (by unfold cst; rw [if_neg (by omega), if_pos (Or.inr (by omega))])]
    rfl
  rw [if_pos (nI_le c1 hi), if_pos (by rfl)]
  by_cases c2 : i = V.natAbs / 1048576 + 1
  · rw [if_neg (by exact fun z => z (by rw [c2])), res 1 (by omega) (by unfold cst; rw [if_neg (by omega), if_neg (by omega), if_pos c2])]
  rw [if_pos (by exact fun z => c2 ((nI_eq (by omega) (by omega)).mp z)), nI_zL (by omega), UNIT_z, zL_mul, show (524288 : Int64) = zL 524288 by decide, zL_add, lt_e, show (2 : Int32) = nI 2 from rfl, nI_add, lt_e]
  refine wp_eq ?_
  unfold F12_stalkOf_b80
  refine wp_fx (fun m x => ∃ j, j + m = 19 - s ∧ V.natAbs / 1048576 + 2 + j ≤ i ∧ x = (zL (V.natAbs : Int), nI i, zL (sof V.natAbs (V.natAbs / 1048576 : Nat) j), zL ((2 ^ 18 / 2 ^ j : Nat) : Int), nI (V.natAbs / 1048576 + 2 + j), σ)) ?_ (n := 19 - s) (by omega) ⟨0, by omega, by omega, rfl⟩
  rintro m c _ ⟨j, hj, hji, rfl⟩ hc
  simp only
  unfold F12_stalkOf_b80B F12_stalkOf_b99 F12_stalkOf_b125
  obtain ⟨⟨a1, a2⟩, -⟩ := sof_ok ⟨r1, r2⟩ r3 r4 hs j (by omega)
  have p1 : (2 : Int) ^ (19 - j) ≤ 2 ^ 19 := by
    have q1 : (0 : Int) < 2 ^ (19 - (19 - j)) := Int.pow_pos (by decide)
    have q0 : (0 : Int) < 2 ^ (19 - j) := Int.pow_pos (by decide)
    have q2 : (2 : Int) ^ (19 - j) * 1 ≤ 2 ^ (19 - j) * 2 ^ (19 - (19 - j)) := Int.mul_le_mul_of_nonneg_left (by omega) (by omega)
    rw [← p2s 19 (19 - j) (by omega)] at q2
    omega
  have es : sof V.natAbs (V.natAbs / 1048576 : Nat) (j + 1) = if sof V.natAbs (V.natAbs / 1048576 : Nat) j < V.natAbs then sof V.natAbs (V.natAbs / 1048576 : Nat) j + 2 ^ (18 - j) else sof V.natAbs (V.natAbs / 1048576 : Nat) j - 2 ^ (18 - j) := rfl
  have rb : -9223372036854775808 ≤ sof V.natAbs (V.natAbs / 1048576 : Nat) j ∧ sof V.natAbs (V.natAbs / 1048576 : Nat) j < 9223372036854775808 := by omega
  have rv : -9223372036854775808 ≤ (V.natAbs : Int) ∧ (V.natAbs : Int) < 9223372036854775808 := by omega
  by_cases z : j = 19 - s
  · have he := sof_end ⟨r1, r2⟩ r3 r4 hs
    rw [← z] at he
    have h2 : cst V s i = 2 := if_pos (by omega)
    rw [if_pos ((zL_eq rb rv).mpr he), if_pos h2]
    exact wp_some.mpr ⟨rfl, rfl⟩
  have hne := sof_ne ⟨r1, r2⟩ r3 r4 hs (show j < 19 - s by omega)
  have hpart : (2 ^ 18 / 2 ^ j : Nat) = 2 ^ (18 - j) := Nat.pow_div (by omega) (by decide)
  have hpi : ((2 ^ 18 / 2 ^ j : Nat) : Int) = 2 ^ (18 - j) := by rw [hpart, Int.natCast_pow]; rfl
  have hnext : zL ((2 ^ 18 / 2 ^ j : Nat) : Int) / (2 : Int64) = zL ((2 ^ 18 / 2 ^ (j + 1) : Nat) : Int) := by
    have hle : 2 ^ 18 / 2 ^ j ≤ 2 ^ 18 := Nat.div_le_self _ _
    rw [show (2 : Int64) = zL ((2 : Nat) : Int) by decide, zL_divn (by omega) (by decide) (by decide), Nat.div_div_eq_div_mul, ← Nat.pow_succ]
  rw [if_neg (by exact fun y => hne ((zL_eq rb rv).mp y))]
  by_cases y : sof V.natAbs (V.natAbs / 1048576 : Nat) j < V.natAbs
  · rw [if_neg (by exact fun w => by have := (zL_ge rb rv).mp w; omega)]
    by_cases ei : V.natAbs / 1048576 + 2 + j = i
    · rw [if_neg (by exact fun w => w (by rw [ei])), res 0 (by omega) (by unfold cst; rw [if_neg (by omega), if_neg (by omega), if_neg c2, show i - V.natAbs / 1048576 - 2 = j by omega, if_pos y])]
      exact wp_some.mpr ⟨rfl, rfl⟩
    · rw [if_pos (by exact fun w => ei ((nI_eq (by omega) hi).mp w)), if_neg (by exact fun w => w rfl), lt_e, show (!((2 : Int64) == 0)) = true by decide, ck_t, lt_e, hnext, zL_add, hpi, nI_1]
      exact hc (m - 1) _ (by omega) ⟨j + 1, by omega, by omega, by rw [es, if_pos y]; rfl⟩
  · rw [if_pos ((zL_ge rb rv).mpr (by omega))]
    by_cases ei : V.natAbs / 1048576 + 2 + j = i
    · rw [if_neg (by exact fun w => w (by rw [ei])), res 1 (by omega) (by unfold cst; rw [if_neg (by omega), if_neg (by omega), if_neg c2, show i - V.natAbs / 1048576 - 2 = j by omega, if_neg y])]
      exact wp_some.mpr ⟨rfl, rfl⟩
    · rw [if_pos (by exact fun w => ei ((nI_eq (by omega) hi).mp w)), if_pos (by decide), lt_e, show (!((2 : Int64) == 0)) = true by decide, ck_t, lt_e, hnext, zL_neg, zL_add, hpi, nI_1]
      exact hc (m - 1) _ (by omega) ⟨j + 1, by omega, by omega, by rw [es, if_neg y, Int.sub_eq_add_neg]; rfl⟩
theorem cst_lt {V : Int} {s i : Nat} : cst V s i ≤ 2 := by
  unfold cst
  split
  · omega
  · split
    · omega
    · split
      · omega
      · split <;> omega
theorem R_stalkAt {N : Nat} (hN : 100 < N) (p k i : Int32) (σ : Ms) : wp (F11_stalkAt N p k i σ) fun r t => wp (F12_stalkAt N p k i t) fun r' t' => r = r' ∧ t'.1 11 17 = t'.1 0 0 := by
  unfold F11_stalkAt
  rcases num_both p k with ⟨V, h1, h2, c1, c2, m1, m2⟩ | ⟨c1, m1⟩
  rotate_left
  · try simp (disch := first | omega | assumption) only [lt_e, bn_s, ck_t, nk0, nk1, nk_b, bI_t, bI_f, L_0, L_1, L_2, L_3, L_4, L_5, L_6, L_7, L_8, L_9, L_10, L_11, L_12, L_15, L_20, L_25, L_30, L_45, L_60, L_65, L_69, L_74, L_79, L_84, L_85, L_86, L_99, L_100, L_255, L_300, L_356, L_900, L_1424, L_1425, L_1489, L_1510, L_9999, L_10000, nI_add, nI_mul, u_lt_t, u_lt_f, u_le_t, u_le_f, u_eq_t, u_eq_f, u_mlt, u_ltm, u_eqm, u_meq, u_mle, u_b0, u_b1, u_ix, u_cl, u_sub, u_suc, u_z0, u_0m, cI_0, cI_s, rI_e, rI_k, rI_j, rI_l, rL_e, rL_k, rL_j, rL_i, told11, none11, refuse12, no11q, no12q, yes11q, if_true, if_false, ite_true, ite_false, ne_eq, not_true_eq_false, not_false_eq_true, Classical.not_not, Bool.not_eq_true, Bool.not_eq_false, reduceCtorEq, Nat.add_zero, Nat.zero_add, Nat.mul_zero, and_self, and_true, true_and, Bool.true_eq_false, Bool.false_eq_true, eq_self, c1]
    refine wp_some.mpr ?_
    unfold F12_stalkAt
    try simp (disch := first | omega | assumption) only [lt_e, bn_s, ck_t, nk0, nk1, nk_b, bI_t, bI_f, L_0, L_1, L_2, L_3, L_4, L_5, L_6, L_7, L_8, L_9, L_10, L_11, L_12, L_15, L_20, L_25, L_30, L_45, L_60, L_65, L_69, L_74, L_79, L_84, L_85, L_86, L_99, L_100, L_255, L_300, L_356, L_900, L_1424, L_1425, L_1489, L_1510, L_9999, L_10000, nI_add, nI_mul, u_lt_t, u_lt_f, u_le_t, u_le_f, u_eq_t, u_eq_f, u_mlt, u_ltm, u_eqm, u_meq, u_mle, u_b0, u_b1, u_ix, u_cl, u_sub, u_suc, u_z0, u_0m, cI_0, cI_s, rI_e, rI_k, rI_j, rI_l, rL_e, rL_k, rL_j, rL_i, told11, none11, refuse12, no11q, no12q, yes11q, if_true, if_false, ite_true, ite_false, ne_eq, not_true_eq_false, not_false_eq_true, Classical.not_not, Bool.not_eq_true, Bool.not_eq_false, reduceCtorEq, Nat.add_zero, Nat.zero_add, Nat.mul_zero, and_self, and_true, true_and, Bool.true_eq_false, Bool.false_eq_true, eq_self, m1]
    exact wp_some.mpr ⟨rfl, by try simp (disch := first | omega | assumption) only [lt_e, bn_s, ck_t, nk0, nk1, nk_b, bI_t, bI_f, L_0, L_1, L_2, L_3, L_4, L_5, L_6, L_7, L_8, L_9, L_10, L_11, L_12, L_15, L_20, L_25, L_30, L_45, L_60, L_65, L_69, L_74, L_79, L_84, L_85, L_86, L_99, L_100, L_255, L_300, L_356, L_900, L_1424, L_1425, L_1489, L_1510, L_9999, L_10000, nI_add, nI_mul, u_lt_t, u_lt_f, u_le_t, u_le_f, u_eq_t, u_eq_f, u_mlt, u_ltm, u_eqm, u_meq, u_mle, u_b0, u_b1, u_ix, u_cl, u_sub, u_suc, u_z0, u_0m, cI_0, cI_s, rI_e, rI_k, rI_j, rI_l, rL_e, rL_k, rL_j, rL_i, told11, none11, refuse12, no11q, no12q, yes11q, if_true, if_false, ite_true, ite_false, ne_eq, not_true_eq_false, not_false_eq_true, Classical.not_not, Bool.not_eq_true, Bool.not_eq_false, reduceCtorEq, Nat.add_zero, Nat.zero_add, Nat.mul_zero, and_self, and_true, true_and, Bool.true_eq_false, Bool.false_eq_true, eq_self]⟩
  obtain ⟨s, q, hsq⟩ := low_ex V
  have none : wp (some (-nI 1, sI σ 11 17 (nI 8))) (fun r t => wp (F12_stalkAt N p k i t) fun r' t' => r = r' ∧ t'.1 11 17 = t'.1 0 0) ∨ (¬ i < 0 ∧ V ≠ 0) := by
    by_cases a : ¬ i < 0 ∧ V ≠ 0
    · exact Or.inr a
    refine Or.inl (wp_some.mpr ?_)
    unfold F12_stalkAt F12_stalkAt_b42 F12_stalkAt_b55
    rw [lt_e, lt_e, m1, bn_s, if_pos (by decide), m2, bn_s]
    have fin : wp (if (0 : Int32) ≤ (-1 : Int32) then (if lg_cmp (zL V) (0 : Int64) ≤ 0 then some ((1 : Int32) - (-1 : Int32), sI (sI (sI σ 11 17 (nI 8)) 0 1 0) 0 0 0) else some ((-1 : Int32), sI (sI (sI σ 11 17 (nI 8)) 0 1 0) 0 0 0)) else bn (F12_refuse (8 : Int32) (sI (sI (sI σ 11 17 (nI 8)) 0 1 0) 0 0 0)) fun r1 t2 => some (r1, t2)) fun r' t' => -nI 1 = r' ∧ t'.1 11 17 = t'.1 0 0 := by
      rw [if_neg (by decide), refuse12, bn_s]
      exact wp_some.mpr ⟨rfl, by try simp (disch := first | omega | assumption) only [lt_e, bn_s, ck_t, nk0, nk1, nk_b, bI_t, bI_f, L_0, L_1, L_2, L_3, L_4, L_5, L_6, L_7, L_8, L_9, L_10, L_11, L_12, L_15, L_20, L_25, L_30, L_45, L_60, L_65, L_69, L_74, L_79, L_84, L_85, L_86, L_99, L_100, L_255, L_300, L_356, L_900, L_1424, L_1425, L_1489, L_1510, L_9999, L_10000, nI_add, nI_mul, u_lt_t, u_lt_f, u_le_t, u_le_f, u_eq_t, u_eq_f, u_mlt, u_ltm, u_eqm, u_meq, u_mle, u_b0, u_b1, u_ix, u_cl, u_sub, u_suc, u_z0, u_0m, cI_0, cI_s, rI_e, rI_k, rI_j, rI_l, rL_e, rL_k, rL_j, rL_i, told11, none11, refuse12, no11q, no12q, yes11q, if_true, if_false, ite_true, ite_false, ne_eq, not_true_eq_false, not_false_eq_true, Classical.not_not, Bool.not_eq_true, Bool.not_eq_false, reduceCtorEq, Nat.add_zero, Nat.zero_add, Nat.mul_zero, and_self, and_true, true_and, Bool.true_eq_false, Bool.false_eq_true, eq_self]⟩
    by_cases b : i < 0
    · rw [if_pos b]
      exact fin
    · rw [if_neg b, if_neg (by exact fun z => z (by
        have : V = 0 := Classical.byContradiction fun y => a ⟨b, y⟩
        rw [this, ← Z0_z]
        decide))]
      exact fin
  rw [c1, bn_s, if_pos (by decide), c2, bn_s]
  by_cases hi0 : i < 0
  · rcases none with none | ⟨a, -⟩
    · unfold F3_stalkColour
      rw [if_pos hi0, bn_s, if_neg (by exact fun z => z rfl), none11, bn_s]
      exact none
    · exact absurd hi0 a
  obtain ⟨j, hj, rfl⟩ := nI_of hi0
  rw [cStalk hN hj ⟨h1, h2⟩ hsq, bn_s]
  have hcl := cst_lt (V := V) (s := s) (i := j)
  have none2 : cst V s j = 2 → wp (some (-nI 1, sI σ 11 17 (nI 8))) fun r t => wp (F12_stalkAt N p k (nI j) t) fun r' t' => r = r' ∧ t'.1 11 17 = t'.1 0 0 := fun h => by
    rcases none with none | ⟨-, hV0⟩
    · exact none
    refine wp_some.mpr ?_
    unfold F12_stalkAt F12_stalkAt_b55
    rw [lt_e, lt_e, m1, bn_s, if_pos (by decide), m2, bn_s, if_neg (nI_pos hj), Z0_z, if_pos (by exact fun z => hV0 ((zL_eq (by omega) (by omega)).mp z)), zL_abs (by omega) (by omega), bn_s, mStalk hN hj ⟨h1, h2⟩ hV0 hsq, bn_s, if_pos h, if_neg (by decide), refuse12, bn_s]
    exact wp_some.mpr ⟨rfl, by try simp (disch := first | omega | assumption) only [lt_e, bn_s, ck_t, nk0, nk1, nk_b, bI_t, bI_f, L_0, L_1, L_2, L_3, L_4, L_5, L_6, L_7, L_8, L_9, L_10, L_11, L_12, L_15, L_20, L_25, L_30, L_45, L_60, L_65, L_69, L_74, L_79, L_84, L_85, L_86, L_99, L_100, L_255, L_300, L_356, L_900, L_1424, L_1425, L_1489, L_1510, L_9999, L_10000, nI_add, nI_mul, u_lt_t, u_lt_f, u_le_t, u_le_f, u_eq_t, u_eq_f, u_mlt, u_ltm, u_eqm, u_meq, u_mle, u_b0, u_b1, u_ix, u_cl, u_sub, u_suc, u_z0, u_0m, cI_0, cI_s, rI_e, rI_k, rI_j, rI_l, rL_e, rL_k, rL_j, rL_i, told11, none11, refuse12, no11q, no12q, yes11q, if_true, if_false, ite_true, ite_false, ne_eq, not_true_eq_false, not_false_eq_true, Classical.not_not, Bool.not_eq_true, Bool.not_eq_false, reduceCtorEq, Nat.add_zero, Nat.zero_add, Nat.mul_zero, and_self, and_true, true_and, Bool.true_eq_false, Bool.false_eq_true, eq_self]⟩
  by_cases h : cst V s j = 2
  · rw [if_pos h, if_neg (by exact fun z => z rfl), none11, bn_s]
    exact none2 h
  have hV0 : V ≠ 0 := fun z => h (if_pos (by rw [z]; exact Nat.zero_le _))
  rw [if_neg h, if_pos (by exact fun z => (u_eqm (a := if 0 ≤ V then cst V s j else 1 - cst V s j) (by split <;> omega)).mp z), told11, bn_s]
  refine wp_some.mpr ?_
  unfold F12_stalkAt F12_stalkAt_b55
  rw [lt_e, lt_e, m1, bn_s, if_pos (by decide), m2, bn_s, if_neg (nI_pos hj), Z0_z, if_pos (by exact fun z => hV0 ((zL_eq (by omega) (by omega)).mp z)), zL_abs (by omega) (by omega), bn_s, mStalk hN hj ⟨h1, h2⟩ hV0 hsq, bn_s, if_neg h, if_pos (nI_pos' (by omega))]
  by_cases hs : 0 ≤ V
  · rw [if_neg (by exact fun z => by have := (zL_le (b := 0) (by omega) (by omega)).mp z; omega), if_pos hs]
    exact wp_some.mpr ⟨rfl, by try simp (disch := first | omega | assumption) only [lt_e, bn_s, ck_t, nk0, nk1, nk_b, bI_t, bI_f, L_0, L_1, L_2, L_3, L_4, L_5, L_6, L_7, L_8, L_9, L_10, L_11, L_12, L_15, L_20, L_25, L_30, L_45, L_60, L_65, L_69, L_74, L_79, L_84, L_85, L_86, L_99, L_100, L_255, L_300, L_356, L_900, L_1424, L_1425, L_1489, L_1510, L_9999, L_10000, nI_add, nI_mul, u_lt_t, u_lt_f, u_le_t, u_le_f, u_eq_t, u_eq_f, u_mlt, u_ltm, u_eqm, u_meq, u_mle, u_b0, u_b1, u_ix, u_cl, u_sub, u_suc, u_z0, u_0m, cI_0, cI_s, rI_e, rI_k, rI_j, rI_l, rL_e, rL_k, rL_j, rL_i, told11, none11, refuse12, no11q, no12q, yes11q, if_true, if_false, ite_true, ite_false, ne_eq, not_true_eq_false, not_false_eq_true, Classical.not_not, Bool.not_eq_true, Bool.not_eq_false, reduceCtorEq, Nat.add_zero, Nat.zero_add, Nat.mul_zero, and_self, and_true, true_and, Bool.true_eq_false, Bool.false_eq_true, eq_self]⟩
  · rw [if_pos ((zL_le (by omega) (by omega)).mpr (by omega)), if_neg hs, show (1 : Int32) = nI 1 from rfl, u_sub (by omega)]
    exact wp_some.mpr ⟨rfl, by try simp (disch := first | omega | assumption) only [lt_e, bn_s, ck_t, nk0, nk1, nk_b, bI_t, bI_f, L_0, L_1, L_2, L_3, L_4, L_5, L_6, L_7, L_8, L_9, L_10, L_11, L_12, L_15, L_20, L_25, L_30, L_45, L_60, L_65, L_69, L_74, L_79, L_84, L_85, L_86, L_99, L_100, L_255, L_300, L_356, L_900, L_1424, L_1425, L_1489, L_1510, L_9999, L_10000, nI_add, nI_mul, u_lt_t, u_lt_f, u_le_t, u_le_f, u_eq_t, u_eq_f, u_mlt, u_ltm, u_eqm, u_meq, u_mle, u_b0, u_b1, u_ix, u_cl, u_sub, u_suc, u_z0, u_0m, cI_0, cI_s, rI_e, rI_k, rI_j, rI_l, rL_e, rL_k, rL_j, rL_i, told11, none11, refuse12, no11q, no12q, yes11q, if_true, if_false, ite_true, ite_false, ne_eq, not_true_eq_false, not_false_eq_true, Classical.not_not, Bool.not_eq_true, Bool.not_eq_false, reduceCtorEq, Nat.add_zero, Nat.zero_add, Nat.mul_zero, and_self, and_true, true_and, Bool.true_eq_false, Bool.false_eq_true, eq_self]⟩
