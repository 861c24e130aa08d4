theorem R_oddsBlue {N : Nat} (hN : 2000 < N) (p q k s : Int32) (σ : Ms) (hm : I_misc σ) (hh : I_hg 0 22 σ) : wp (F11_oddsBlue N p q k s σ) fun r t => wp (F12_oddsBlue N p q k s t) fun r' t' => r = r' ∧ I_misc t' := by
  obtain ⟨H, w, c, m, -⟩ := hh
  have hn := w.n
  unfold F11_oddsBlue
  rcases ix_or s (gn H) (by omega) with ⟨i, hi, rfl⟩ | ho
  rotate_left
  · rw [hasSprig_out hn c.1.1 ho, bn_s, if_neg (by decide)]
    try simp (disch := first | omega | assumption) only [lt_e, bn_s, ck_t, nk0, nk1, nk_b, bI_t, bI_f, L_0, L_1, L_2, L_3, L_4, L_5, L_6, L_7, L_8, L_9, L_10, L_11, L_12, L_15, L_20, L_25, L_30, L_45, L_60, L_65, L_69, L_74, L_79, L_84, L_85, L_86, L_99, L_100, L_255, L_300, L_356, L_900, L_1424, L_1425, L_1489, L_1510, L_9999, L_10000, nI_add, nI_mul, u_lt_t, u_lt_f, u_le_t, u_le_f, u_eq_t, u_eq_f, u_mlt, u_ltm, u_eqm, u_meq, u_mle, u_b0, u_b1, u_ix, u_cl, u_sub, u_suc, u_z0, u_0m, cI_0, cI_s, rI_e, rI_k, rI_j, rI_l, rL_e, rL_k, rL_j, rL_i, told11, none11, refuse12, no11q, no12q, yes11q, if_true, if_false, ite_true, ite_false, ne_eq, not_true_eq_false, not_false_eq_true, Classical.not_not, Bool.not_eq_true, Bool.not_eq_false, reduceCtorEq, Nat.add_zero, Nat.zero_add, Nat.mul_zero, and_self, and_true, true_and, Bool.true_eq_false, Bool.false_eq_true, eq_self]
    refine wp_some.mpr ?_
    unfold F12_oddsBlue
    rw [lt_e, isSprigAt_out (n := gn H) (by omega) (by try simp (disch := first | omega | assumption) only [lt_e, bn_s, ck_t, nk0, nk1, nk_b, bI_t, bI_f, L_0, L_1, L_2, L_3, L_4, L_5, L_6, L_7, L_8, L_9, L_10, L_11, L_12, L_15, L_20, L_25, L_30, L_45, L_60, L_65, L_69, L_74, L_79, L_84, L_85, L_86, L_99, L_100, L_255, L_300, L_356, L_900, L_1424, L_1425, L_1489, L_1510, L_9999, L_10000, nI_add, nI_mul, u_lt_t, u_lt_f, u_le_t, u_le_f, u_eq_t, u_eq_f, u_mlt, u_ltm, u_eqm, u_meq, u_mle, u_b0, u_b1, u_ix, u_cl, u_sub, u_suc, u_z0, u_0m, cI_0, cI_s, rI_e, rI_k, rI_j, rI_l, rL_e, rL_k, rL_j, rL_i, told11, none11, refuse12, no11q, no12q, yes11q, if_true, if_false, ite_true, ite_false, ne_eq, not_true_eq_false, not_false_eq_true, Classical.not_not, Bool.not_eq_true, Bool.not_eq_false, reduceCtorEq, Nat.add_zero, Nat.zero_add, Nat.mul_zero, and_self, and_true, true_and, Bool.true_eq_false, Bool.false_eq_true, eq_self]; exact m.1.at0.1) ho, bn_s, if_neg (by decide)]
    try simp (disch := first | omega | assumption) only [lt_e, bn_s, ck_t, nk0, nk1, nk_b, bI_t, bI_f, L_0, L_1, L_2, L_3, L_4, L_5, L_6, L_7, L_8, L_9, L_10, L_11, L_12, L_15, L_20, L_25, L_30, L_45, L_60, L_65, L_69, L_74, L_79, L_84, L_85, L_86, L_99, L_100, L_255, L_300, L_356, L_900, L_1424, L_1425, L_1489, L_1510, L_9999, L_10000, nI_add, nI_mul, u_lt_t, u_lt_f, u_le_t, u_le_f, u_eq_t, u_eq_f, u_mlt, u_ltm, u_eqm, u_meq, u_mle, u_b0, u_b1, u_ix, u_cl, u_sub, u_suc, u_z0, u_0m, cI_0, cI_s, rI_e, rI_k, rI_j, rI_l, rL_e, rL_k, rL_j, rL_i, told11, none11, refuse12, no11q, no12q, yes11q, if_true, if_false, ite_true, ite_false, ne_eq, not_true_eq_false, not_false_eq_true, Classical.not_not, Bool.not_eq_true, Bool.not_eq_false, reduceCtorEq, Nat.add_zero, Nat.zero_add, Nat.mul_zero, and_self, and_true, true_and, Bool.true_eq_false, Bool.false_eq_true, eq_self]
    refine wp_some.mpr ⟨rfl, ?_⟩
    unfold I_misc at *
    try simp (disch := first | omega | assumption) only [lt_e, bn_s, ck_t, nk0, nk1, nk_b, bI_t, bI_f, L_0, L_1, L_2, L_3, L_4, L_5, L_6, L_7, L_8, L_9, L_10, L_11, L_12, L_15, L_20, L_25, L_30, L_45, L_60, L_65, L_69, L_74, L_79, L_84, L_85, L_86, L_99, L_100, L_255, L_300, L_356, L_900, L_1424, L_1425, L_1489, L_1510, L_9999, L_10000, nI_add, nI_mul, u_lt_t, u_lt_f, u_le_t, u_le_f, u_eq_t, u_eq_f, u_mlt, u_ltm, u_eqm, u_meq, u_mle, u_b0, u_b1, u_ix, u_cl, u_sub, u_suc, u_z0, u_0m, cI_0, cI_s, rI_e, rI_k, rI_j, rI_l, rL_e, rL_k, rL_j, rL_i, told11, none11, refuse12, no11q, no12q, yes11q, if_true, if_false, ite_true, ite_false, ne_eq, not_true_eq_false, not_false_eq_true, Classical.not_not, Bool.not_eq_true, Bool.not_eq_false, reduceCtorEq, Nat.add_zero, Nat.zero_add, Nat.mul_zero, and_self, and_true, true_and, Bool.true_eq_false, Bool.false_eq_true, eq_self]
    exact hm.2
  rw [hasSprig_in hn c.1.1 hi, bn_s, if_pos (by decide)]
  refine wp_bn.mpr (wp_mono (cAsk hN w c p q k) ?_)
  rintro r τ ⟨h, F⟩
  have f5 : ∀ j, τ.1 5 j = σ.1 5 j := fun j => (F.keep (D := [(5, none)]) rfl (In_a 0 rfl)).1
  have mt : ∀ ρ : Ms, (∀ j, ρ.1 5 j = τ.1 5 j) → MG 0 H (sI ρ 0 1 (nI 0)) := fun ρ h => m.mv fun j => by
    try simp (disch := first | omega | assumption) only [lt_e, bn_s, ck_t, nk0, nk1, nk_b, bI_t, bI_f, L_0, L_1, L_2, L_3, L_4, L_5, L_6, L_7, L_8, L_9, L_10, L_11, L_12, L_15, L_20, L_25, L_30, L_45, L_60, L_65, L_69, L_74, L_79, L_84, L_85, L_86, L_99, L_100, L_255, L_300, L_356, L_900, L_1424, L_1425, L_1489, L_1510, L_9999, L_10000, nI_add, nI_mul, u_lt_t, u_lt_f, u_le_t, u_le_f, u_eq_t, u_eq_f, u_mlt, u_ltm, u_eqm, u_meq, u_mle, u_b0, u_b1, u_ix, u_cl, u_sub, u_suc, u_z0, u_0m, cI_0, cI_s, rI_e, rI_k, rI_j, rI_l, rL_e, rL_k, rL_j, rL_i, told11, none11, refuse12, no11q, no12q, yes11q, if_true, if_false, ite_true, ite_false, ne_eq, not_true_eq_false, not_false_eq_true, Classical.not_not, Bool.not_eq_true, Bool.not_eq_false, reduceCtorEq, Nat.add_zero, Nat.zero_add, Nat.mul_zero, and_self, and_true, true_and, Bool.true_eq_false, Bool.false_eq_true, eq_self]
    rw [h, f5]
  have sp : ∀ ρ : Ms, (∀ j, ρ.1 5 j = τ.1 5 j) → F12_isSprigAt (nI i) (sI ρ 0 1 (nI 0)) = some (nI 1, sI ρ 0 1 (nI 0)) := fun ρ h => isSprigAt_in (n := gn H) (by omega) (by try simp (disch := first | omega | assumption) only [lt_e, bn_s, ck_t, nk0, nk1, nk_b, bI_t, bI_f, L_0, L_1, L_2, L_3, L_4, L_5, L_6, L_7, L_8, L_9, L_10, L_11, L_12, L_15, L_20, L_25, L_30, L_45, L_60, L_65, L_69, L_74, L_79, L_84, L_85, L_86, L_99, L_100, L_255, L_300, L_356, L_900, L_1424, L_1425, L_1489, L_1510, L_9999, L_10000, nI_add, nI_mul, u_lt_t, u_lt_f, u_le_t, u_le_f, u_eq_t, u_eq_f, u_mlt, u_ltm, u_eqm, u_meq, u_mle, u_b0, u_b1, u_ix, u_cl, u_sub, u_suc, u_z0, u_0m, cI_0, cI_s, rI_e, rI_k, rI_j, rI_l, rL_e, rL_k, rL_j, rL_i, told11, none11, refuse12, no11q, no12q, yes11q, if_true, if_false, ite_true, ite_false, ne_eq, not_true_eq_false, not_false_eq_true, Classical.not_not, Bool.not_eq_true, Bool.not_eq_false, reduceCtorEq, Nat.add_zero, Nat.zero_add, Nat.mul_zero, and_self, and_true, true_and, Bool.true_eq_false, Bool.false_eq_true, eq_self]; rw [h, f5]; exact m.1.at0.1) hi
  have n18 : τ.2 11 18 = τ.2 0 2 := by
    rw [(F.keep (D := [(11, some 18)]) rfl (In_o 0 rfl)).2, (F.keep (D := [(0, some 2)]) rfl (In_o 0 rfl)).2]
    exact hm.2.1
  have n19 : τ.2 11 19 = τ.2 0 3 := by
    rw [(F.keep (D := [(11, some 19)]) rfl (In_o 0 rfl)).2, (F.keep (D := [(0, some 3)]) rfl (In_o 0 rfl)).2]
    exact hm.2.2
  rcases h with ⟨P, V, ha, rfl, h1, h2, h3⟩ | ⟨rfl, hna⟩
  rotate_left
  · rw [if_neg (by decide)]
    try simp (disch := first | omega | assumption) only [lt_e, bn_s, ck_t, nk0, nk1, nk_b, bI_t, bI_f, L_0, L_1, L_2, L_3, L_4, L_5, L_6, L_7, L_8, L_9, L_10, L_11, L_12, L_15, L_20, L_25, L_30, L_45, L_60, L_65, L_69, L_74, L_79, L_84, L_85, L_86, L_99, L_100, L_255, L_300, L_356, L_900, L_1424, L_1425, L_1489, L_1510, L_9999, L_10000, nI_add, nI_mul, u_lt_t, u_lt_f, u_le_t, u_le_f, u_eq_t, u_eq_f, u_mlt, u_ltm, u_eqm, u_meq, u_mle, u_b0, u_b1, u_ix, u_cl, u_sub, u_suc, u_z0, u_0m, cI_0, cI_s, rI_e, rI_k, rI_j, rI_l, rL_e, rL_k, rL_j, rL_i, told11, none11, refuse12, no11q, no12q, yes11q, if_true, if_false, ite_true, ite_false, ne_eq, not_true_eq_false, not_false_eq_true, Classical.not_not, Bool.not_eq_true, Bool.not_eq_false, reduceCtorEq, Nat.add_zero, Nat.zero_add, Nat.mul_zero, and_self, and_true, true_and, Bool.true_eq_false, Bool.false_eq_true, eq_self]
    refine wp_some.mpr ?_
    unfold F12_oddsBlue
    rw [lt_e, show (0 : Int32) = nI 0 from rfl, sp _ (fun j => rI_k (by decide)), bn_s, if_pos (by decide), mNot hN w (mt _ fun j => rI_k (by decide)) hna, bn_s, if_neg (by decide)]
    refine wp_some.mpr ⟨rfl, ?_⟩
    unfold I_misc
    try simp (disch := first | omega | assumption) only [lt_e, bn_s, ck_t, nk0, nk1, nk_b, bI_t, bI_f, L_0, L_1, L_2, L_3, L_4, L_5, L_6, L_7, L_8, L_9, L_10, L_11, L_12, L_15, L_20, L_25, L_30, L_45, L_60, L_65, L_69, L_74, L_79, L_84, L_85, L_86, L_99, L_100, L_255, L_300, L_356, L_900, L_1424, L_1425, L_1489, L_1510, L_9999, L_10000, nI_add, nI_mul, u_lt_t, u_lt_f, u_le_t, u_le_f, u_eq_t, u_eq_f, u_mlt, u_ltm, u_eqm, u_meq, u_mle, u_b0, u_b1, u_ix, u_cl, u_sub, u_suc, u_z0, u_0m, cI_0, cI_s, rI_e, rI_k, rI_j, rI_l, rL_e, rL_k, rL_j, rL_i, told11, none11, refuse12, no11q, no12q, yes11q, if_true, if_false, ite_true, ite_false, ne_eq, not_true_eq_false, not_false_eq_true, Classical.not_not, Bool.not_eq_true, Bool.not_eq_false, reduceCtorEq, Nat.add_zero, Nat.zero_add, Nat.mul_zero, and_self, and_true, true_and, Bool.true_eq_false, Bool.false_eq_true, eq_self]
    exact ⟨n18, n19⟩
  have hK : 2 ^ pc P 20 ≤ 1024 := Nat.pow_le_pow_right (n := 2) (by decide) ha.2.1.2.1
  have cl := cntw_le H P V (2 ^ pc P 20)
  have bl := bluw_le H P V i (2 ^ pc P 20)
  have hP := okS_31 hn ha.2.1
  have hp := ha.1
  have misc : ∀ (a : Int32) (t : Ms), Fr W12_isAsked (sI (sI τ 11 17 a) 0 1 (nI 0)) t → I_misc (sI t 0 0 a) := fun a t F2 => by
    unfold I_misc
    have e17 := (F2.keep (D := [(11, some 17)]) rfl (In_o 0 rfl)).1
    have e18 := (F2.keep (D := [(11, some 18)]) rfl (In_o 0 rfl)).2
    have e19 := (F2.keep (D := [(11, some 19)]) rfl (In_o 0 rfl)).2
    have e2 := (F2.keep (D := [(0, some 2)]) rfl (In_o 0 rfl)).2
    have e3 := (F2.keep (D := [(0, some 3)]) rfl (In_o 0 rfl)).2
    try simp (disch := first | omega | assumption) only [lt_e, bn_s, ck_t, nk0, nk1, nk_b, bI_t, bI_f, L_0, L_1, L_2, L_3, L_4, L_5, L_6, L_7, L_8, L_9, L_10, L_11, L_12, L_15, L_20, L_25, L_30, L_45, L_60, L_65, L_69, L_74, L_79, L_84, L_85, L_86, L_99, L_100, L_255, L_300, L_356, L_900, L_1424, L_1425, L_1489, L_1510, L_9999, L_10000, nI_add, nI_mul, u_lt_t, u_lt_f, u_le_t, u_le_f, u_eq_t, u_eq_f, u_mlt, u_ltm, u_eqm, u_meq, u_mle, u_b0, u_b1, u_ix, u_cl, u_sub, u_suc, u_z0, u_0m, cI_0, cI_s, rI_e, rI_k, rI_j, rI_l, rL_e, rL_k, rL_j, rL_i, told11, none11, refuse12, no11q, no12q, yes11q, if_true, if_false, ite_true, ite_false, ne_eq, not_true_eq_false, not_false_eq_true, Classical.not_not, Bool.not_eq_true, Bool.not_eq_false, reduceCtorEq, Nat.add_zero, Nat.zero_add, Nat.mul_zero, and_self, and_true, true_and, Bool.true_eq_false, Bool.false_eq_true, eq_self, e17, e18, e19, e2, e3]
    exact ⟨n18, n19⟩
  rw [if_pos (by decide), h1]
  by_cases z : cntw H P V (2 ^ pc P 20) = 0
  · rw [z, if_neg (by exact fun y => y rfl)]
    try simp (disch := first | omega | assumption) only [lt_e, bn_s, ck_t, nk0, nk1, nk_b, bI_t, bI_f, L_0, L_1, L_2, L_3, L_4, L_5, L_6, L_7, L_8, L_9, L_10, L_11, L_12, L_15, L_20, L_25, L_30, L_45, L_60, L_65, L_69, L_74, L_79, L_84, L_85, L_86, L_99, L_100, L_255, L_300, L_356, L_900, L_1424, L_1425, L_1489, L_1510, L_9999, L_10000, nI_add, nI_mul, u_lt_t, u_lt_f, u_le_t, u_le_f, u_eq_t, u_eq_f, u_mlt, u_ltm, u_eqm, u_meq, u_mle, u_b0, u_b1, u_ix, u_cl, u_sub, u_suc, u_z0, u_0m, cI_0, cI_s, rI_e, rI_k, rI_j, rI_l, rL_e, rL_k, rL_j, rL_i, told11, none11, refuse12, no11q, no12q, yes11q, if_true, if_false, ite_true, ite_false, ne_eq, not_true_eq_false, not_false_eq_true, Classical.not_not, Bool.not_eq_true, Bool.not_eq_false, reduceCtorEq, Nat.add_zero, Nat.zero_add, Nat.mul_zero, and_self, and_true, true_and, Bool.true_eq_false, Bool.false_eq_true, eq_self]
    refine wp_some.mpr ?_
    unfold F12_oddsBlue
    rw [lt_e, show (0 : Int32) = nI 0 from rfl, sp _ (fun j => rI_k (by decide)), bn_s, if_pos (by decide)]
    refine wp_bn.mpr (wp_mono (mAsk hN w (mt _ fun j => rI_k (by decide)) ha) ?_)
    rintro _ t ⟨⟨rfl, h0, -, y, -⟩, F2⟩
    rw [if_pos (by decide), y, z, if_neg (by exact fun y => y rfl)]
    try simp (disch := first | omega | assumption) only [lt_e, bn_s, ck_t, nk0, nk1, nk_b, bI_t, bI_f, L_0, L_1, L_2, L_3, L_4, L_5, L_6, L_7, L_8, L_9, L_10, L_11, L_12, L_15, L_20, L_25, L_30, L_45, L_60, L_65, L_69, L_74, L_79, L_84, L_85, L_86, L_99, L_100, L_255, L_300, L_356, L_900, L_1424, L_1425, L_1489, L_1510, L_9999, L_10000, nI_add, nI_mul, u_lt_t, u_lt_f, u_le_t, u_le_f, u_eq_t, u_eq_f, u_mlt, u_ltm, u_eqm, u_meq, u_mle, u_b0, u_b1, u_ix, u_cl, u_sub, u_suc, u_z0, u_0m, cI_0, cI_s, rI_e, rI_k, rI_j, rI_l, rL_e, rL_k, rL_j, rL_i, told11, none11, refuse12, no11q, no12q, yes11q, if_true, if_false, ite_true, ite_false, ne_eq, not_true_eq_false, not_false_eq_true, Classical.not_not, Bool.not_eq_true, Bool.not_eq_false, reduceCtorEq, Nat.add_zero, Nat.zero_add, Nat.mul_zero, and_self, and_true, true_and, Bool.true_eq_false, Bool.false_eq_true, eq_self]
    exact wp_some.mpr ⟨rfl, misc _ t F2⟩
  have z1 : nI (cntw H P V (2 ^ pc P 20)) ≠ (0 : Int32) := fun y => z ((nI_eq (b := 0) (by omega) (by omega)).mp y)
  have z2 : nI (cntw H P V (2 ^ pc P 20)) ≠ nI 0 := z1
  rw [if_pos z1, hp, isIn11 hP (by omega), bn_s]
  by_cases b : P.testBit i = true
  rotate_left
  · have b' := Bool.eq_false_iff.mpr b
    rw [b', bI_f, if_neg (by exact fun y => y rfl)]
    try simp (disch := first | omega | assumption) only [lt_e, bn_s, ck_t, nk0, nk1, nk_b, bI_t, bI_f, L_0, L_1, L_2, L_3, L_4, L_5, L_6, L_7, L_8, L_9, L_10, L_11, L_12, L_15, L_20, L_25, L_30, L_45, L_60, L_65, L_69, L_74, L_79, L_84, L_85, L_86, L_99, L_100, L_255, L_300, L_356, L_900, L_1424, L_1425, L_1489, L_1510, L_9999, L_10000, nI_add, nI_mul, u_lt_t, u_lt_f, u_le_t, u_le_f, u_eq_t, u_eq_f, u_mlt, u_ltm, u_eqm, u_meq, u_mle, u_b0, u_b1, u_ix, u_cl, u_sub, u_suc, u_z0, u_0m, cI_0, cI_s, rI_e, rI_k, rI_j, rI_l, rL_e, rL_k, rL_j, rL_i, told11, none11, refuse12, no11q, no12q, yes11q, if_true, if_false, ite_true, ite_false, ne_eq, not_true_eq_false, not_false_eq_true, Classical.not_not, Bool.not_eq_true, Bool.not_eq_false, reduceCtorEq, Nat.add_zero, Nat.zero_add, Nat.mul_zero, and_self, and_true, true_and, Bool.true_eq_false, Bool.false_eq_true, eq_self]
    refine wp_some.mpr ?_
    unfold F12_oddsBlue
    rw [lt_e, show (0 : Int32) = nI 0 from rfl, sp _ (fun j => rI_k (by decide)), bn_s, if_pos (by decide), ← hp]
    refine wp_bn.mpr (wp_mono (mAsk hN w (mt _ fun j => rI_k (by decide)) ha) ?_)
    rintro _ t ⟨⟨rfl, h0, -, y, -⟩, F2⟩
    rw [if_pos (by decide), y, if_pos z2, hp, has12 hP (by omega), bn_s, b', bI_f, if_pos (by rfl)]
    try simp (disch := first | omega | assumption) only [lt_e, bn_s, ck_t, nk0, nk1, nk_b, bI_t, bI_f, L_0, L_1, L_2, L_3, L_4, L_5, L_6, L_7, L_8, L_9, L_10, L_11, L_12, L_15, L_20, L_25, L_30, L_45, L_60, L_65, L_69, L_74, L_79, L_84, L_85, L_86, L_99, L_100, L_255, L_300, L_356, L_900, L_1424, L_1425, L_1489, L_1510, L_9999, L_10000, nI_add, nI_mul, u_lt_t, u_lt_f, u_le_t, u_le_f, u_eq_t, u_eq_f, u_mlt, u_ltm, u_eqm, u_meq, u_mle, u_b0, u_b1, u_ix, u_cl, u_sub, u_suc, u_z0, u_0m, cI_0, cI_s, rI_e, rI_k, rI_j, rI_l, rL_e, rL_k, rL_j, rL_i, told11, none11, refuse12, no11q, no12q, yes11q, if_true, if_false, ite_true, ite_false, ne_eq, not_true_eq_false, not_false_eq_true, Classical.not_not, Bool.not_eq_true, Bool.not_eq_false, reduceCtorEq, Nat.add_zero, Nat.zero_add, Nat.mul_zero, and_self, and_true, true_and, Bool.true_eq_false, Bool.false_eq_true, eq_self]
    exact wp_some.mpr ⟨rfl, misc _ t F2⟩
  rw [b, bI_t, if_pos (by decide), ixb_nI (by omega) (by omega), ck_t, nI_clamp (by omega), h3 i (by omega), h1, nI_zL (by omega), nI_zL (by omega), fr11 (by omega) (by omega) (by omega) (by omega) (by omega), bn_s, show nkB (nI 1) = true by decide, ck_t]
  refine wp_some.mpr ?_
  unfold F12_oddsBlue
  rw [lt_e, show (0 : Int32) = nI 0 from rfl, sp _ (fun j => by try simp (disch := first | omega | assumption) only [lt_e, bn_s, ck_t, nk0, nk1, nk_b, bI_t, bI_f, L_0, L_1, L_2, L_3, L_4, L_5, L_6, L_7, L_8, L_9, L_10, L_11, L_12, L_15, L_20, L_25, L_30, L_45, L_60, L_65, L_69, L_74, L_79, L_84, L_85, L_86, L_99, L_100, L_255, L_300, L_356, L_900, L_1424, L_1425, L_1489, L_1510, L_9999, L_10000, nI_add, nI_mul, u_lt_t, u_lt_f, u_le_t, u_le_f, u_eq_t, u_eq_f, u_mlt, u_ltm, u_eqm, u_meq, u_mle, u_b0, u_b1, u_ix, u_cl, u_sub, u_suc, u_z0, u_0m, cI_0, cI_s, rI_e, rI_k, rI_j, rI_l, rL_e, rL_k, rL_j, rL_i, told11, none11, refuse12, no11q, no12q, yes11q, if_true, if_false, ite_true, ite_false, ne_eq, not_true_eq_false, not_false_eq_true, Classical.not_not, Bool.not_eq_true, Bool.not_eq_false, reduceCtorEq, Nat.add_zero, Nat.zero_add, Nat.mul_zero, and_self, and_true, true_and, Bool.true_eq_false, Bool.false_eq_true, eq_self]), bn_s, if_pos (by decide), ← hp]
  refine wp_bn.mpr (wp_mono (mAsk hN w (mt _ fun j => by try simp (disch := first | omega | assumption) only [lt_e, bn_s, ck_t, nk0, nk1, nk_b, bI_t, bI_f, L_0, L_1, L_2, L_3, L_4, L_5, L_6, L_7, L_8, L_9, L_10, L_11, L_12, L_15, L_20, L_25, L_30, L_45, L_60, L_65, L_69, L_74, L_79, L_84, L_85, L_86, L_99, L_100, L_255, L_300, L_356, L_900, L_1424, L_1425, L_1489, L_1510, L_9999, L_10000, nI_add, nI_mul, u_lt_t, u_lt_f, u_le_t, u_le_f, u_eq_t, u_eq_f, u_mlt, u_ltm, u_eqm, u_meq, u_mle, u_b0, u_b1, u_ix, u_cl, u_sub, u_suc, u_z0, u_0m, cI_0, cI_s, rI_e, rI_k, rI_j, rI_l, rL_e, rL_k, rL_j, rL_i, told11, none11, refuse12, no11q, no12q, yes11q, if_true, if_false, ite_true, ite_false, ne_eq, not_true_eq_false, not_false_eq_true, Classical.not_not, Bool.not_eq_true, Bool.not_eq_false, reduceCtorEq, Nat.add_zero, Nat.zero_add, Nat.mul_zero, and_self, and_true, true_and, Bool.true_eq_false, Bool.false_eq_true, eq_self]) ha) ?_)
  rintro _ t ⟨⟨rfl, h0, -, y, -, y9⟩, F2⟩
  rw [if_pos (by decide), y, if_pos z2, hp, has12 hP (by omega), bn_s, b, bI_t, if_neg (by decide), ixb_nI (by omega) (by omega), ck_t, nI_clamp (by omega), y9 i hi, y, nI_zL (by omega), nI_zL (by omega), fr12 (by omega) (by omega) (by omega) (by omega) (by omega), bn_s, show nkB (nI 1) = true by decide, ck_t]
  have e17 := (F2.keep (D := [(11, some 17)]) rfl (In_o 0 rfl)).1
  have e18 := (F2.keep (D := [(11, some 18)]) rfl (In_o 0 rfl)).2
  have e19 := (F2.keep (D := [(11, some 19)]) rfl (In_o 0 rfl)).2
  refine wp_some.mpr ⟨rfl, ?_⟩
  unfold I_misc
  try simp (disch := first | omega | assumption) only [lt_e, bn_s, ck_t, nk0, nk1, nk_b, bI_t, bI_f, L_0, L_1, L_2, L_3, L_4, L_5, L_6, L_7, L_8, L_9, L_10, L_11, L_12, L_15, L_20, L_25, L_30, L_45, L_60, L_65, L_69, L_74, L_79, L_84, L_85, L_86, L_99, L_100, L_255, L_300, L_356, L_900, L_1424, L_1425, L_1489, L_1510, L_9999, L_10000, nI_add, nI_mul, u_lt_t, u_lt_f, u_le_t, u_le_f, u_eq_t, u_eq_f, u_mlt, u_ltm, u_eqm, u_meq, u_mle, u_b0, u_b1, u_ix, u_cl, u_sub, u_suc, u_z0, u_0m, cI_0, cI_s, rI_e, rI_k, rI_j, rI_l, rL_e, rL_k, rL_j, rL_i, told11, none11, refuse12, no11q, no12q, yes11q, if_true, if_false, ite_true, ite_false, ne_eq, not_true_eq_false, not_false_eq_true, Classical.not_not, Bool.not_eq_true, Bool.not_eq_false, reduceCtorEq, Nat.add_zero, Nat.zero_add, Nat.mul_zero, and_self, and_true, true_and, Bool.true_eq_false, Bool.false_eq_true, eq_self, e17, e18, e19, h0]
