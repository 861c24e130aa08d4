theorem tellNumber_g {N : Nat} {R : Int} (hN : 100 < N) (h1 : -(2 ^ 60) < R) (h2 : R < 2 ^ 60) (σ : Ms) : F11_tellNumber N (zL R) σ = some (nI 1, sI (sL (sL σ 11 18 (zL (frT R 1073741824))) 11 19 (zL (frB R 1073741824))) 11 17 (nI 0)) := by
  unfold F11_tellNumber
  rw [show (1073741824 : Int64) = zL ((1073741824 : Nat) : Int) by decide, fr11 hN (by omega) (by omega) (by decide) (by decide), bn_s, show nkB (nI 1) = true by decide, ck_t]
def Rv (L H : Int) (K : Nat) : Int := if L < 0 ∧ 0 < H then 0 else if 0 ≤ L then mm L K * 2 ^ (30 - K) else -(mm (-H) K * 2 ^ (30 - K))
theorem between_ok {N K : Nat} {L H : Int} (hN : 100 < N) (hL : -20971520 ≤ L ∧ L ≤ 20971520) (hH : -20971520 ≤ H ∧ H ≤ 20971520) (hK : K ≤ 21) (hC : CC L H K) (hf : ∀ j, j < K → ¬ CC L H j) (σ : Ms) : F3_between N (zL (1024 * L)) (zL (1024 * H)) σ = some (zL (Rv L H K), σ) := by
  have rL : -9223372036854775808 ≤ 1024 * L ∧ 1024 * L < 9223372036854775808 := by omega
  have rH : -9223372036854775808 ≤ 1024 * H ∧ 1024 * H < 9223372036854775808 := by omega
  have r0 : -9223372036854775808 ≤ (0 : Int) ∧ (0 : Int) < 9223372036854775808 := by omega
  unfold F3_between F3_between_b14 Rv
  rw [Z0_z]
  by_cases c1 : 0 ≤ L
  · have y : 0 ≤ lg_cmp (zL (1024 * L)) (zL 0) := (zL_ge rL r0).mpr (by omega)
    rw [if_pos y, if_pos y, nextAbove_ok hN hL hH hK hC hf, bn_s, if_neg (by omega), if_pos c1]
  have y : ¬ 0 ≤ lg_cmp (zL (1024 * L)) (zL 0) := fun z => c1 (by have := (zL_ge rL r0).mp z; omega)
  rw [if_neg y]
  by_cases c2 : H ≤ 0
  · rw [if_pos ((zL_le rH r0).mpr (by omega)), if_neg y, zL_neg, zL_neg, show -(1024 * H) = 1024 * -H by omega, show -(1024 * L) = 1024 * -L by omega, nextAbove_ok hN (by omega) (by omega) hK ((CC_neg L H K).mpr hC) (fun j hj z => hf j hj ((CC_neg L H j).mp z)), bn_s, zL_neg, if_neg (by omega), if_neg c1]
  · rw [if_neg (by exact fun z => c2 (by have := (zL_le rH r0).mp z; omega)), if_pos ⟨by omega, by omega⟩]
theorem R_simplest {N : Nat} (hN : 100 < N) (p k q m : Int32) (σ : Ms) (hm : I_misc σ) : wp (F11_simplest N p k q m σ) fun r t => wp (F12_simplest N p k q m t) fun r' t' => r = r' ∧ I_misc t' := by
  have no : ∀ a : Int32, I_misc (sI (sI (sI (sI σ 11 17 a) 0 1 (nI 0)) 0 0 (nI 0)) 0 0 a) := fun a => by
    unfold I_misc at *
    try simp (disch := first | omega | assumption) only [lt_e, bn_s, ck_t, nk0, nk1, nk_b, bI_t, bI_f, L_0, L_1, L_2, L_3, L_4, L_5, L_6, L_7, L_8, L_9, L_10, L_11, L_12, L_15, L_20, L_25, L_30, L_45, L_60, L_65, L_69, L_74, L_79, L_84, L_85, L_86, L_99, L_100, L_255, L_300, L_356, L_900, L_1424, L_1425, L_1489, L_1510, L_9999, L_10000, nI_add, nI_mul, u_lt_t, u_lt_f, u_le_t, u_le_f, u_eq_t, u_eq_f, u_mlt, u_ltm, u_eqm, u_meq, u_mle, u_b0, u_b1, u_ix, u_cl, u_sub, u_suc, u_z0, u_0m, cI_0, cI_s, rI_e, rI_k, rI_j, rI_l, rL_e, rL_k, rL_j, rL_i, told11, none11, refuse12, no11q, no12q, yes11q, if_true, if_false, ite_true, ite_false, ne_eq, not_true_eq_false, not_false_eq_true, Classical.not_not, Bool.not_eq_true, Bool.not_eq_false, reduceCtorEq, Nat.add_zero, Nat.zero_add, Nat.mul_zero, and_self, and_true, true_and, Bool.true_eq_false, Bool.false_eq_true, eq_self]
    exact hm.2
  unfold F11_simplest F11_simplest_b17
  rcases num_both p k with ⟨L, h1, h2, c1, c2, m1, m2⟩ | ⟨c1, m1⟩
  rotate_left
  · try simp (disch := first | omega | assumption) only [lt_e, bn_s, ck_t, nk0, nk1, nk_b, bI_t, bI_f, L_0, L_1, L_2, L_3, L_4, L_5, L_6, L_7, L_8, L_9, L_10, L_11, L_12, L_15, L_20, L_25, L_30, L_45, L_60, L_65, L_69, L_74, L_79, L_84, L_85, L_86, L_99, L_100, L_255, L_300, L_356, L_900, L_1424, L_1425, L_1489, L_1510, L_9999, L_10000, nI_add, nI_mul, u_lt_t, u_lt_f, u_le_t, u_le_f, u_eq_t, u_eq_f, u_mlt, u_ltm, u_eqm, u_meq, u_mle, u_b0, u_b1, u_ix, u_cl, u_sub, u_suc, u_z0, u_0m, cI_0, cI_s, rI_e, rI_k, rI_j, rI_l, rL_e, rL_k, rL_j, rL_i, told11, none11, refuse12, no11q, no12q, yes11q, if_true, if_false, ite_true, ite_false, ne_eq, not_true_eq_false, not_false_eq_true, Classical.not_not, Bool.not_eq_true, Bool.not_eq_false, reduceCtorEq, Nat.add_zero, Nat.zero_add, Nat.mul_zero, and_self, and_true, true_and, Bool.true_eq_false, Bool.false_eq_true, eq_self, c1]
    refine wp_some.mpr ?_
    unfold F12_simplest F12_simplest_b27
    try simp (disch := first | omega | assumption) only [lt_e, bn_s, ck_t, nk0, nk1, nk_b, bI_t, bI_f, L_0, L_1, L_2, L_3, L_4, L_5, L_6, L_7, L_8, L_9, L_10, L_11, L_12, L_15, L_20, L_25, L_30, L_45, L_60, L_65, L_69, L_74, L_79, L_84, L_85, L_86, L_99, L_100, L_255, L_300, L_356, L_900, L_1424, L_1425, L_1489, L_1510, L_9999, L_10000, nI_add, nI_mul, u_lt_t, u_lt_f, u_le_t, u_le_f, u_eq_t, u_eq_f, u_mlt, u_ltm, u_eqm, u_meq, u_mle, u_b0, u_b1, u_ix, u_cl, u_sub, u_suc, u_z0, u_0m, cI_0, cI_s, rI_e, rI_k, rI_j, rI_l, rL_e, rL_k, rL_j, rL_i, told11, none11, refuse12, no11q, no12q, yes11q, if_true, if_false, ite_true, ite_false, ne_eq, not_true_eq_false, not_false_eq_true, Classical.not_not, Bool.not_eq_true, Bool.not_eq_false, reduceCtorEq, Nat.add_zero, Nat.zero_add, Nat.mul_zero, and_self, and_true, true_and, Bool.true_eq_false, Bool.false_eq_true, eq_self, m1]
    exact wp_some.mpr ⟨rfl, no _⟩
  rcases num_both q m with ⟨H, g1, g2, d1, d2, n1, n2⟩ | ⟨d1, n1⟩
  rotate_left
  · try simp (disch := first | omega | assumption) only [lt_e, bn_s, ck_t, nk0, nk1, nk_b, bI_t, bI_f, L_0, L_1, L_2, L_3, L_4, L_5, L_6, L_7, L_8, L_9, L_10, L_11, L_12, L_15, L_20, L_25, L_30, L_45, L_60, L_65, L_69, L_74, L_79, L_84, L_85, L_86, L_99, L_100, L_255, L_300, L_356, L_900, L_1424, L_1425, L_1489, L_1510, L_9999, L_10000, nI_add, nI_mul, u_lt_t, u_lt_f, u_le_t, u_le_f, u_eq_t, u_eq_f, u_mlt, u_ltm, u_eqm, u_meq, u_mle, u_b0, u_b1, u_ix, u_cl, u_sub, u_suc, u_z0, u_0m, cI_0, cI_s, rI_e, rI_k, rI_j, rI_l, rL_e, rL_k, rL_j, rL_i, told11, none11, refuse12, no11q, no12q, yes11q, if_true, if_false, ite_true, ite_false, ne_eq, not_true_eq_false, not_false_eq_true, Classical.not_not, Bool.not_eq_true, Bool.not_eq_false, reduceCtorEq, Nat.add_zero, Nat.zero_add, Nat.mul_zero, and_self, and_true, true_and, Bool.true_eq_false, Bool.false_eq_true, eq_self, c1, d1]
    refine wp_some.mpr ?_
    unfold F12_simplest F12_simplest_b27
    try simp (disch := first | omega | assumption) only [lt_e, bn_s, ck_t, nk0, nk1, nk_b, bI_t, bI_f, L_0, L_1, L_2, L_3, L_4, L_5, L_6, L_7, L_8, L_9, L_10, L_11, L_12, L_15, L_20, L_25, L_30, L_45, L_60, L_65, L_69, L_74, L_79, L_84, L_85, L_86, L_99, L_100, L_255, L_300, L_356, L_900, L_1424, L_1425, L_1489, L_1510, L_9999, L_10000, nI_add, nI_mul, u_lt_t, u_lt_f, u_le_t, u_le_f, u_eq_t, u_eq_f, u_mlt, u_ltm, u_eqm, u_meq, u_mle, u_b0, u_b1, u_ix, u_cl, u_sub, u_suc, u_z0, u_0m, cI_0, cI_s, rI_e, rI_k, rI_j, rI_l, rL_e, rL_k, rL_j, rL_i, told11, none11, refuse12, no11q, no12q, yes11q, if_true, if_false, ite_true, ite_false, ne_eq, not_true_eq_false, not_false_eq_true, Classical.not_not, Bool.not_eq_true, Bool.not_eq_false, reduceCtorEq, Nat.add_zero, Nat.zero_add, Nat.mul_zero, and_self, and_true, true_and, Bool.true_eq_false, Bool.false_eq_true, eq_self, m1, n1]
    exact wp_some.mpr ⟨rfl, no _⟩
  have rL : -9223372036854775808 ≤ L ∧ L < 9223372036854775808 := by omega
  have rH : -9223372036854775808 ≤ H ∧ H < 9223372036854775808 := by omega
  have r0 : -9223372036854775808 ≤ (0 : Int) ∧ (0 : Int) < 9223372036854775808 := by omega
  rw [c1, bn_s, if_neg (by decide), d1, bn_s, if_pos (by decide), c2, bn_s, d2, bn_s]
  by_cases hlt : L < H
  rotate_left
  · rw [if_neg (by exact fun z => hlt (by have := (zL_lt (a := 1024 * L) (b := 1024 * H) (by omega) (by omega)).mp z; omega))]
    try simp (disch := first | omega | assumption) only [lt_e, bn_s, ck_t, nk0, nk1, nk_b, bI_t, bI_f, L_0, L_1, L_2, L_3, L_4, L_5, L_6, L_7, L_8, L_9, L_10, L_11, L_12, L_15, L_20, L_25, L_30, L_45, L_60, L_65, L_69, L_74, L_79, L_84, L_85, L_86, L_99, L_100, L_255, L_300, L_356, L_900, L_1424, L_1425, L_1489, L_1510, L_9999, L_10000, nI_add, nI_mul, u_lt_t, u_lt_f, u_le_t, u_le_f, u_eq_t, u_eq_f, u_mlt, u_ltm, u_eqm, u_meq, u_mle, u_b0, u_b1, u_ix, u_cl, u_sub, u_suc, u_z0, u_0m, cI_0, cI_s, rI_e, rI_k, rI_j, rI_l, rL_e, rL_k, rL_j, rL_i, told11, none11, refuse12, no11q, no12q, yes11q, if_true, if_false, ite_true, ite_false, ne_eq, not_true_eq_false, not_false_eq_true, Classical.not_not, Bool.not_eq_true, Bool.not_eq_false, reduceCtorEq, Nat.add_zero, Nat.zero_add, Nat.mul_zero, and_self, and_true, true_and, Bool.true_eq_false, Bool.false_eq_true, eq_self]
    refine wp_some.mpr ?_
    unfold F12_simplest
    rw [lt_e, lt_e, m1, bn_s, if_neg (by decide), n1, bn_s, if_pos (by decide), m2, bn_s, n2, bn_s, if_neg (by exact fun z => hlt ((zL_lt rL rH).mp z))]
    try simp (disch := first | omega | assumption) only [lt_e, bn_s, ck_t, nk0, nk1, nk_b, bI_t, bI_f, L_0, L_1, L_2, L_3, L_4, L_5, L_6, L_7, L_8, L_9, L_10, L_11, L_12, L_15, L_20, L_25, L_30, L_45, L_60, L_65, L_69, L_74, L_79, L_84, L_85, L_86, L_99, L_100, L_255, L_300, L_356, L_900, L_1424, L_1425, L_1489, L_1510, L_9999, L_10000, nI_add, nI_mul, u_lt_t, u_lt_f, u_le_t, u_le_f, u_eq_t, u_eq_f, u_mlt, u_ltm, u_eqm, u_meq, u_mle, u_b0, u_b1, u_ix, u_cl, u_sub, u_suc, u_z0, u_0m, cI_0, cI_s, rI_e, rI_k, rI_j, rI_l, rL_e, rL_k, rL_j, rL_i, told11, none11, refuse12, no11q, no12q, yes11q, if_true, if_false, ite_true, ite_false, ne_eq, not_true_eq_false, not_false_eq_true, Classical.not_not, Bool.not_eq_true, Bool.not_eq_false, reduceCtorEq, Nat.add_zero, Nat.zero_add, Nat.mul_zero, and_self, and_true, true_and, Bool.true_eq_false, Bool.false_eq_true, eq_self]
    exact wp_some.mpr ⟨rfl, no _⟩
  obtain ⟨K, hK, hC, hf⟩ := first_C hlt
  have hR : -(2 ^ 60) < Rv L H K ∧ Rv L H K < 2 ^ 60 := by
    have a1 := mm_abs (L := L) (k := K) (by omega) (by omega)
    have a2 := mm_abs (L := -H) (k := K) (by omega) (by omega)
    unfold Rv
    split
    · omega
    · split <;> omega
  rw [if_pos ((zL_lt (a := 1024 * L) (b := 1024 * H) (by omega) (by omega)).mpr (by omega)), between_ok hN (by omega) (by omega) hK hC hf, bn_s, tellNumber_g hN hR.1 hR.2, bn_s, show nkB (nI 1) = true by decide, ck_t]
  refine wp_some.mpr ?_
  unfold F12_simplest
  rw [lt_e, lt_e, m1, bn_s, if_neg (by decide), n1, bn_s, if_pos (by decide), m2, bn_s, n2, bn_s, if_pos ((zL_lt rL rH).mpr hlt), floorDiv_ok (by omega) (by omega), bn_s, show (1 : Int64) = zL 1 by decide, zL_add, lt_e, zL_neg, floorDiv_ok (by omega) (by omega), bn_s, zL_neg, zL_sub, lt_e]
  -- the model's end, for a fraction that is the same
  have fin : ∀ (T : Int) (j : Nat), j ≤ 21 → -(2 ^ 60) < T → T < 2 ^ 60 → Rv L H K = T * 2 ^ (30 - j) → wp (bn (F12_fraction N (zL T) (zL ((2 ^ j : Nat) : Int)) (sI (sI (sI (sL (sL σ 11 18 (zL (frT (Rv L H K) 1073741824))) 11 19 (zL (frB (Rv L H K) 1073741824))) 11 17 (nI 0)) 0 1 (0 : Int32)) 0 0 (0 : Int32))) fun r t => ck (nkB r) (some (r, t))) fun r' t' => nI 1 = r' ∧ I_misc t' := fun T j hj t1 t2 e => by
    have hp : (2 : Nat) ^ j ≤ 2 ^ 21 := Nat.pow_le_pow_right (by decide) hj
    have hp0 : 0 < (2 : Nat) ^ j := Nat.two_pow_pos j
    rw [fr12 hN (by omega) (by omega) (by omega) hp0, bn_s, show nkB (nI 1) = true by decide, ck_t]
    have sc := fr_scale T (2 ^ j) (2 ^ (30 - j)) (Nat.two_pow_pos _)
    have e1 : ((2 ^ (30 - j) : Nat) : Int) * T = Rv L H K := by rw [e, Int.natCast_pow, Int.mul_comm]; rfl
    have e2 : 2 ^ (30 - j) * 2 ^ j = 1073741824 := by rw [← Nat.pow_add, show 30 - j + j = 30 by omega]
    rw [e1, e2] at sc
    exact wp_some.mpr ⟨rfl, fr_misc (T := Rv L H K) (B := 1073741824) (T' := T) (B' := 2 ^ j) sc (by try simp (disch := first | omega | assumption) only [lt_e, bn_s, ck_t, nk0, nk1, nk_b, bI_t, bI_f, L_0, L_1, L_2, L_3, L_4, L_5, L_6, L_7, L_8, L_9, L_10, L_11, L_12, L_15, L_20, L_25, L_30, L_45, L_60, L_65, L_69, L_74, L_79, L_84, L_85, L_86, L_99, L_100, L_255, L_300, L_356, L_900, L_1424, L_1425, L_1489, L_1510, L_9999, L_10000, nI_add, nI_mul, u_lt_t, u_lt_f, u_le_t, u_le_f, u_eq_t, u_eq_f, u_mlt, u_ltm, u_eqm, u_meq, u_mle, u_b0, u_b1, u_ix, u_cl, u_sub, u_suc, u_z0, u_0m, cI_0, cI_s, rI_e, rI_k, rI_j, rI_l, rL_e, rL_k, rL_j, rL_i, told11, none11, refuse12, no11q, no12q, yes11q, if_true, if_false, ite_true, ite_false, ne_eq, not_true_eq_false, not_false_eq_true, Classical.not_not, Bool.not_eq_true, Bool.not_eq_false, reduceCtorEq, Nat.add_zero, Nat.zero_add, Nat.mul_zero, and_self, and_true, true_and, Bool.true_eq_false, Bool.false_eq_true, eq_self]) (by try simp (disch := first | omega | assumption) only [lt_e, bn_s, ck_t, nk0, nk1, nk_b, bI_t, bI_f, L_0, L_1, L_2, L_3, L_4, L_5, L_6, L_7, L_8, L_9, L_10, L_11, L_12, L_15, L_20, L_25, L_30, L_45, L_60, L_65, L_69, L_74, L_79, L_84, L_85, L_86, L_99, L_100, L_255, L_300, L_356, L_900, L_1424, L_1425, L_1489, L_1510, L_9999, L_10000, nI_add, nI_mul, u_lt_t, u_lt_f, u_le_t, u_le_f, u_eq_t, u_eq_f, u_mlt, u_ltm, u_eqm, u_meq, u_mle, u_b0, u_b1, u_ix, u_cl, u_sub, u_suc, u_z0, u_0m, cI_0, cI_s, rI_e, rI_k, rI_j, rI_l, rL_e, rL_k, rL_j, rL_i, told11, none11, refuse12, no11q, no12q, yes11q, if_true, if_false, ite_true, ite_false, ne_eq, not_true_eq_false, not_false_eq_true, Classical.not_not, Bool.not_eq_true, Bool.not_eq_false, reduceCtorEq, Nat.add_zero, Nat.zero_add, Nat.mul_zero, and_self, and_true, true_and, Bool.true_eq_false, Bool.false_eq_true, eq_self]) (by try simp (disch := first | omega | assumption) only [lt_e, bn_s, ck_t, nk0, nk1, nk_b, bI_t, bI_f, L_0, L_1, L_2, L_3, L_4, L_5, L_6, L_7, L_8, L_9, L_10, L_11, L_12, L_15, L_20, L_25, L_30, L_45, L_60, L_65, L_69, L_74, L_79, L_84, L_85, L_86, L_99, L_100, L_255, L_300, L_356, L_900, L_1424, L_1425, L_1489, L_1510, L_9999, L_10000, nI_add, nI_mul, u_lt_t, u_lt_f, u_le_t, u_le_f, u_eq_t, u_eq_f, u_mlt, u_ltm, u_eqm, u_meq, u_mle, u_b0, u_b1, u_ix, u_cl, u_sub, u_suc, u_z0, u_0m, cI_0, cI_s, rI_e, rI_k, rI_j, rI_l, rL_e, rL_k, rL_j, rL_i, told11, none11, refuse12, no11q, no12q, yes11q, if_true, if_false, ite_true, ite_false, ne_eq, not_true_eq_false, not_false_eq_true, Classical.not_not, Bool.not_eq_true, Bool.not_eq_false, reduceCtorEq, Nat.add_zero, Nat.zero_add, Nat.mul_zero, and_self, and_true, true_and, Bool.true_eq_false, Bool.false_eq_true, eq_self]) (by try simp (disch := first | omega | assumption) only [lt_e, bn_s, ck_t, nk0, nk1, nk_b, bI_t, bI_f, L_0, L_1, L_2, L_3, L_4, L_5, L_6, L_7, L_8, L_9, L_10, L_11, L_12, L_15, L_20, L_25, L_30, L_45, L_60, L_65, L_69, L_74, L_79, L_84, L_85, L_86, L_99, L_100, L_255, L_300, L_356, L_900, L_1424, L_1425, L_1489, L_1510, L_9999, L_10000, nI_add, nI_mul, u_lt_t, u_lt_f, u_le_t, u_le_f, u_eq_t, u_eq_f, u_mlt, u_ltm, u_eqm, u_meq, u_mle, u_b0, u_b1, u_ix, u_cl, u_sub, u_suc, u_z0, u_0m, cI_0, cI_s, rI_e, rI_k, rI_j, rI_l, rL_e, rL_k, rL_j, rL_i, told11, none11, refuse12, no11q, no12q, yes11q, if_true, if_false, ite_true, ite_false, ne_eq, not_true_eq_false, not_false_eq_true, Classical.not_not, Bool.not_eq_true, Bool.not_eq_false, reduceCtorEq, Nat.add_zero, Nat.zero_add, Nat.mul_zero, and_self, and_true, true_and, Bool.true_eq_false, Bool.false_eq_true, eq_self]) (by try simp (disch := first | omega | assumption) only [lt_e, bn_s, ck_t, nk0, nk1, nk_b, bI_t, bI_f, L_0, L_1, L_2, L_3, L_4, L_5, L_6, L_7, L_8, L_9, L_10, L_11, L_12, L_15, L_20, L_25, L_30, L_45, L_60, L_65, L_69, L_74, L_79, L_84, L_85, L_86, L_99, L_100, L_255, L_300, L_356, L_900, L_1424, L_1425, L_1489, L_1510, L_9999, L_10000, nI_add, nI_mul, u_lt_t, u_lt_f, u_le_t, u_le_f, u_eq_t, u_eq_f, u_mlt, u_ltm, u_eqm, u_meq, u_mle, u_b0, u_b1, u_ix, u_cl, u_sub, u_suc, u_z0, u_0m, cI_0, cI_s, rI_e, rI_k, rI_j, rI_l, rL_e, rL_k, rL_j, rL_i, told11, none11, refuse12, no11q, no12q, yes11q, if_true, if_false, ite_true, ite_false, ne_eq, not_true_eq_false, not_false_eq_true, Classical.not_not, Bool.not_eq_true, Bool.not_eq_false, reduceCtorEq, Nat.add_zero, Nat.zero_add, Nat.mul_zero, and_self, and_true, true_and, Bool.true_eq_false, Bool.false_eq_true, eq_self])⟩
  have b0 : (1 : Int64) = zL ((2 ^ 0 : Nat) : Int) := by decide
  by_cases hC0 : CC L H 0
  · have hK0 : K = 0 := Nat.eq_zero_of_not_pos fun z => hf 0 z hC0
    subst hK0
    have hC0' := (CC_0 L H).mp hC0
    have em : mm L 0 = L / 1048576 + 1 := by unfold mm; rw [Int.pow_zero, Int.mul_one]
    have em' : mm (-H) 0 = -H / 1048576 + 1 := by unfold mm; rw [Int.pow_zero, Int.mul_one]
    rw [if_neg (by exact fun z => by have := (zL_gt (a := L / 1048576 + 1) (b := -(-H / 1048576) - 1) (by omega) (by omega)).mp z; omega), Z0_z]
    unfold F12_simplest_b123
    by_cases w : 0 < L / 1048576 + 1
    · rw [if_neg (by exact fun z => by have := (zL_le (a := L / 1048576 + 1) (b := 0) (by omega) r0).mp z; omega), b0]
      refine fin (L / 1048576 + 1) 0 (by omega) (by omega) (by omega) ?_
      unfold Rv
      rw [if_neg (by omega), if_pos (by omega), em]
    · rw [if_pos ((zL_le (a := L / 1048576 + 1) (b := 0) (by omega) r0).mpr (by omega))]
      by_cases y : -(-H / 1048576) - 1 < 0
      · rw [if_neg (by exact fun z => by have := (zL_ge (a := -(-H / 1048576) - 1) (b := 0) (by omega) r0).mp z; omega), b0]
        refine fin (-(-H / 1048576) - 1) 0 (by omega) (by omega) (by omega) ?_
        unfold Rv
        rw [if_neg (by omega), if_neg (by omega), em']
        have : (2 : Int) ^ (30 - 0) = 1073741824 := by decide
        rw [this]
        omega
      · rw [if_pos ((zL_ge (a := -(-H / 1048576) - 1) (b := 0) (by omega) r0).mpr (by omega)), b0]
        refine fin 0 0 (by omega) (by omega) (by omega) ?_
        unfold Rv
        rw [if_pos (by omega), Int.zero_mul]
  have hK1 : 1 ≤ K := Nat.one_le_iff_ne_zero.mpr fun z => hC0 (by rw [← z]; exact hC)
  have hC0' : ¬ (L / 1048576 + 1) * 1048576 < H := fun z => hC0 ((CC_0 L H).mpr z)
  rw [if_pos ((zL_gt (a := L / 1048576 + 1) (b := -(-H / 1048576) - 1) (by omega) (by omega)).mpr (by omega))]
  unfold F12_simplest_b134
  refine wp_fx (fun n x => ∃ i, i + n = K - 1 ∧ x = (zL L, zL H, zL ((2 ^ i : Nat) : Int), nI i, sI (sI (sI (sL (sL σ 11 18 (zL (frT (Rv L H K) 1073741824))) 11 19 (zL (frB (Rv L H K) 1073741824))) 11 17 (nI 0)) 0 1 (0 : Int32)) 0 0 (0 : Int32))) ?_ (n := K - 1) (by omega) ⟨0, by omega, rfl⟩
  rintro n c _ ⟨i, hi, rfl⟩ hc
  simp only
  unfold F12_simplest_b134B
  have p2 : zL ((2 ^ i : Nat) : Int) * (2 : Int64) = zL ((2 ^ (i + 1) : Nat) : Int) := by
    rw [show (2 : Int64) = zL 2 by decide, zL_mul, Nat.pow_succ, Int.natCast_mul]
    rfl
  have hpw : (2 : Nat) ^ (i + 1) ≤ 2 ^ 21 := Nat.pow_le_pow_right (by decide) (by omega)
  have hpi : ((2 ^ (i + 1) : Nat) : Int) = 2 ^ (i + 1) := by rw [Int.natCast_pow]; rfl
  have pos : (0 : Int) < 2 ^ (i + 1) := Int.pow_pos (by decide)
  have ple : (2 : Int) ^ (i + 1) ≤ 2097152 := by rw [← hpi]; omega
  have bd : ∀ V : Int, -20971520 ≤ V ∧ V ≤ 20971520 → -(2 ^ 46) ≤ V * 2 ^ (i + 1) ∧ V * 2 ^ (i + 1) ≤ 2 ^ 46 := fun V hV => by
    have a1 : V * 2 ^ (i + 1) ≤ 20971520 * 2 ^ (i + 1) := Int.mul_le_mul_of_nonneg_right hV.2 (by omega)
    have a2 : -20971520 * 2 ^ (i + 1) ≤ V * 2 ^ (i + 1) := Int.mul_le_mul_of_nonneg_right hV.1 (by omega)
    omega
  have bL := bd L (by omega)
  have bH := bd H (by omega)
  have emm : L * 2 ^ (i + 1) / 1048576 + 1 = mm L (i + 1) := rfl
  have hcc : mm L (i + 1) * 1048576 < H * 2 ^ (i + 1) ↔ CC L H (i + 1) := Iff.rfl
  rw [if_neg (by exact fun z => by have := (lit_le (c := 21) 21 rfl (by omega) (by omega)).mp z; omega), p2, lt_e, zL_mul, zL_mul, hpi, floorDiv_ok (by omega) (by omega), bn_s, show (1 : Int64) = zL 1 by decide, zL_add, emm, lt_e, UNIT_z, zL_mul]
  have rm : -9223372036854775808 ≤ mm L (i + 1) * 1048576 ∧ mm L (i + 1) * 1048576 < 9223372036854775808 := by
    rw [← emm]
    omega
  have rb : -9223372036854775808 ≤ H * 2 ^ (i + 1) ∧ H * 2 ^ (i + 1) < 9223372036854775808 := by omega
  by_cases e : i + 1 = K
  · have hCi : CC L H (i + 1) := by rw [e]; exact hC
    rw [if_neg (by exact fun z => by have := (zL_ge rm rb).mp z; have := hcc.mpr hCi; omega), ← hpi]
    have ht : -(2 ^ 60) < mm L (i + 1) ∧ mm L (i + 1) < 2 ^ 60 := by
      rw [← emm]
      omega
    refine fin (mm L (i + 1)) (i + 1) (by omega) ht.1 ht.2 ?_
    have hno : ¬ CC L H i := hf i (by omega)
    have hn := mm_neg hCi hno
    have h00 : ¬ (L < 0 ∧ 0 < H) := by omega
    unfold Rv
    rw [if_neg h00, ← e]
    split
    · rfl
    · rw [hn, Int.neg_mul]
  · rw [if_pos ((zL_ge rm rb).mpr (Int.not_lt.mp fun z => hf (i + 1) (by omega) (hcc.mp z))), nI_1, ← hpi]
    exact hc (n - 1) _ (by omega) ⟨i + 1, by omega, rfl⟩
