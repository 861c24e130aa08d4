/-- sprigs: n of them, S stand, their colours, on which (0 the ground, j + 1 the sprig j) -/
def WS (n S : Nat) (col on : Nat → Nat) : Prop := n ≤ 20 ∧ S < 2 ^ n ∧ ∀ i, i < n → col i ≤ 2 ∧ on i ≤ i ∧ ∀ j, on i = j + 1 → (col i = 2 ↔ col j = 2) ∧ (S.testBit i = true → S.testBit j = true)
def RS (h n S : Nat) (col on : Nat → Nat) (σ : Ms) : Prop := σ.1 h 5 = nI n ∧ σ.1 h 6 = nI S ∧ ∀ i, i < n → σ.1 (h + 1) i = nI (col i) ∧ σ.1 (h + 2) i = cI (on i)
def MS (B n S : Nat) (col on : Nat → Nat) (σ : Ms) : Prop := σ.1 5 B = nI n ∧ ∀ i, i < n → σ.1 5 (B + (5 + i)) = nI (col i) ∧ σ.1 5 (B + (25 + i)) = nI (on i) ∧ σ.1 5 (B + (45 + i)) = bI (S.testBit i)
theorem MS.at0 {n S : Nat} {col on : Nat → Nat} {σ : Ms} (h : MS 0 n S col on σ) : σ.1 5 0 = nI n ∧ ∀ i, i < n → σ.1 5 (5 + i) = nI (col i) ∧ σ.1 5 (25 + i) = nI (on i) ∧ σ.1 5 (45 + i) = bI (S.testBit i) := ⟨h.1, fun i hi => by have := h.2 i hi; rwa [Nat.zero_add, Nat.zero_add, Nat.zero_add] at this⟩
theorem hasSprig_in {h n i : Nat} {σ : Ms} (hn : n ≤ 20) (e : σ.1 h 5 = nI n) (hi : i < n) : F0_hasSprig h (nI i) σ = some (nI 1, σ) := by
  unfold F0_hasSprig
  simp (disch := first | omega | assumption) only [lt_e, bn_s, ck_t, nk0, nk1, nk_b, bI_t, bI_f, L_0, L_1, L_2, L_3, L_4, L_5, L_6, L_7, L_8, L_9, L_10, L_11, L_12, L_15, L_20, L_25, L_30, L_45, L_60, L_65, L_69, L_74, L_79, L_84, L_85, L_86, L_99, L_100, L_255, L_300, L_356, L_900, L_1424, L_1425, L_1489, L_1510, L_9999, L_10000, nI_add, nI_mul, u_lt_t, u_lt_f, u_le_t, u_le_f, u_eq_t, u_eq_f, u_mlt, u_ltm, u_eqm, u_meq, u_mle, u_b0, u_b1, u_ix, u_cl, u_sub, u_suc, u_z0, u_0m, cI_0, cI_s, rI_e, rI_k, rI_j, rI_l, rL_e, rL_k, rL_j, rL_i, told11, none11, refuse12, no11q, no12q, yes11q, if_true, if_false, ite_true, ite_false, ne_eq, not_true_eq_false, not_false_eq_true, Classical.not_not, Bool.not_eq_true, Bool.not_eq_false, reduceCtorEq, Nat.add_zero, Nat.zero_add, Nat.mul_zero, and_self, and_true, true_and, Bool.true_eq_false, Bool.false_eq_true, eq_self, e]
theorem hasSprig_out {h n : Nat} {p : Int32} {σ : Ms} (hn : n ≤ 20) (e : σ.1 h 5 = nI n) (hp : ¬ ∃ i, i < n ∧ p = nI i) : F0_hasSprig h p σ = some (nI 0, σ) := by
  unfold F0_hasSprig
  by_cases h0 : p < 0
  · rw [if_pos h0]; rfl
  obtain ⟨j, hj, rfl⟩ := nI_of h0
  have : n ≤ j := Nat.le_of_not_lt fun z => hp ⟨j, z, rfl⟩
  simp (disch := first | omega | assumption) only [lt_e, bn_s, ck_t, nk0, nk1, nk_b, bI_t, bI_f, L_0, L_1, L_2, L_3, L_4, L_5, L_6, L_7, L_8, L_9, L_10, L_11, L_12, L_15, L_20, L_25, L_30, L_45, L_60, L_65, L_69, L_74, L_79, L_84, L_85, L_86, L_99, L_100, L_255, L_300, L_356, L_900, L_1424, L_1425, L_1489, L_1510, L_9999, L_10000, nI_add, nI_mul, u_lt_t, u_lt_f, u_le_t, u_le_f, u_eq_t, u_eq_f, u_mlt, u_ltm, u_eqm, u_meq, u_mle, u_b0, u_b1, u_ix, u_cl, u_sub, u_suc, u_z0, u_0m, cI_0, cI_s, rI_e, rI_k, rI_j, rI_l, rL_e, rL_k, rL_j, rL_i, told11, none11, refuse12, no11q, no12q, yes11q, if_true, if_false, ite_true, ite_false, ne_eq, not_true_eq_false, not_false_eq_true, Classical.not_not, Bool.not_eq_true, Bool.not_eq_false, reduceCtorEq, Nat.add_zero, Nat.zero_add, Nat.mul_zero, and_self, and_true, true_and, Bool.true_eq_false, Bool.false_eq_true, eq_self, e]
theorem hasSprig_m {h n : Nat} {σ : Ms} (e : σ.1 h 5 = nI n) (hn : n ≤ 20) : F0_hasSprig h (-nI 1) σ = some (nI 0, σ) := hasSprig_out hn e fun ⟨i, hi, z⟩ => (u_meq (a := i) (by omega)).mp z
theorem isStanding_in {h n S i : Nat} {σ : Ms} (hn : n ≤ 20) (hS : S < 2 ^ n) (e : σ.1 h 5 = nI n) (e6 : σ.1 h 6 = nI S) (hi : i < n) : F0_isStanding h (nI i) σ = some (bI (S.testBit i), σ) := by
  unfold F0_isStanding
  rw [hasSprig_in hn e hi, bn_s, e6, isIn11 (set_lt hS hn) (by omega)]
  cases S.testBit i <;> simp (disch := first | omega | assumption) only [lt_e, bn_s, ck_t, nk0, nk1, nk_b, bI_t, bI_f, L_0, L_1, L_2, L_3, L_4, L_5, L_6, L_7, L_8, L_9, L_10, L_11, L_12, L_15, L_20, L_25, L_30, L_45, L_60, L_65, L_69, L_74, L_79, L_84, L_85, L_86, L_99, L_100, L_255, L_300, L_356, L_900, L_1424, L_1425, L_1489, L_1510, L_9999, L_10000, nI_add, nI_mul, u_lt_t, u_lt_f, u_le_t, u_le_f, u_eq_t, u_eq_f, u_mlt, u_ltm, u_eqm, u_meq, u_mle, u_b0, u_b1, u_ix, u_cl, u_sub, u_suc, u_z0, u_0m, cI_0, cI_s, rI_e, rI_k, rI_j, rI_l, rL_e, rL_k, rL_j, rL_i, told11, none11, refuse12, no11q, no12q, yes11q, if_true, if_false, ite_true, ite_false, ne_eq, not_true_eq_false, not_false_eq_true, Classical.not_not, Bool.not_eq_true, Bool.not_eq_false, reduceCtorEq, Nat.add_zero, Nat.zero_add, Nat.mul_zero, and_self, and_true, true_and, Bool.true_eq_false, Bool.false_eq_true, eq_self]
theorem isStanding_out {h n : Nat} {p : Int32} {σ : Ms} (hn : n ≤ 20) (e : σ.1 h 5 = nI n) (hp : ¬ ∃ i, i < n ∧ p = nI i) : F0_isStanding h p σ = some (nI 0, σ) := by
  unfold F0_isStanding
  rw [hasSprig_out hn e hp]
  simp (disch := first | omega | assumption) only [lt_e, bn_s, ck_t, nk0, nk1, nk_b, bI_t, bI_f, L_0, L_1, L_2, L_3, L_4, L_5, L_6, L_7, L_8, L_9, L_10, L_11, L_12, L_15, L_20, L_25, L_30, L_45, L_60, L_65, L_69, L_74, L_79, L_84, L_85, L_86, L_99, L_100, L_255, L_300, L_356, L_900, L_1424, L_1425, L_1489, L_1510, L_9999, L_10000, nI_add, nI_mul, u_lt_t, u_lt_f, u_le_t, u_le_f, u_eq_t, u_eq_f, u_mlt, u_ltm, u_eqm, u_meq, u_mle, u_b0, u_b1, u_ix, u_cl, u_sub, u_suc, u_z0, u_0m, cI_0, cI_s, rI_e, rI_k, rI_j, rI_l, rL_e, rL_k, rL_j, rL_i, told11, none11, refuse12, no11q, no12q, yes11q, if_true, if_false, ite_true, ite_false, ne_eq, not_true_eq_false, not_false_eq_true, Classical.not_not, Bool.not_eq_true, Bool.not_eq_false, reduceCtorEq, Nat.add_zero, Nat.zero_add, Nat.mul_zero, and_self, and_true, true_and, Bool.true_eq_false, Bool.false_eq_true, eq_self]
theorem hasWorth_in {h n S i c : Nat} {σ : Ms} (hn : n ≤ 20) (hS : S < 2 ^ n) (e : σ.1 h 5 = nI n) (e6 : σ.1 h 6 = nI S) (hi : i < n) (ec : σ.1 (h + 1) i = nI c) (hc : c ≤ 2) : F0_hasWorth h (nI i) σ = some (bI (S.testBit i && c != 2), σ) := by
  unfold F0_hasWorth
  rw [isStanding_in hn hS e e6 hi]
  cases S.testBit i
  · simp (disch := first | omega | assumption) only [lt_e, bn_s, ck_t, nk0, nk1, nk_b, bI_t, bI_f, L_0, L_1, L_2, L_3, L_4, L_5, L_6, L_7, L_8, L_9, L_10, L_11, L_12, L_15, L_20, L_25, L_30, L_45, L_60, L_65, L_69, L_74, L_79, L_84, L_85, L_86, L_99, L_100, L_255, L_300, L_356, L_900, L_1424, L_1425, L_1489, L_1510, L_9999, L_10000, nI_add, nI_mul, u_lt_t, u_lt_f, u_le_t, u_le_f, u_eq_t, u_eq_f, u_mlt, u_ltm, u_eqm, u_meq, u_mle, u_b0, u_b1, u_ix, u_cl, u_sub, u_suc, u_z0, u_0m, cI_0, cI_s, rI_e, rI_k, rI_j, rI_l, rL_e, rL_k, rL_j, rL_i, told11, none11, refuse12, no11q, no12q, yes11q, if_true, if_false, ite_true, ite_false, ne_eq, not_true_eq_false, not_false_eq_true, Classical.not_not, Bool.not_eq_true, Bool.not_eq_false, reduceCtorEq, Nat.add_zero, Nat.zero_add, Nat.mul_zero, and_self, and_true, true_and, Bool.true_eq_false, Bool.false_eq_true, eq_self, Bool.false_and]
  · by_cases q : c = 2
    · subst q
      simp (disch := first | omega | assumption) only [lt_e, bn_s, ck_t, nk0, nk1, nk_b, bI_t, bI_f, L_0, L_1, L_2, L_3, L_4, L_5, L_6, L_7, L_8, L_9, L_10, L_11, L_12, L_15, L_20, L_25, L_30, L_45, L_60, L_65, L_69, L_74, L_79, L_84, L_85, L_86, L_99, L_100, L_255, L_300, L_356, L_900, L_1424, L_1425, L_1489, L_1510, L_9999, L_10000, nI_add, nI_mul, u_lt_t, u_lt_f, u_le_t, u_le_f, u_eq_t, u_eq_f, u_mlt, u_ltm, u_eqm, u_meq, u_mle, u_b0, u_b1, u_ix, u_cl, u_sub, u_suc, u_z0, u_0m, cI_0, cI_s, rI_e, rI_k, rI_j, rI_l, rL_e, rL_k, rL_j, rL_i, told11, none11, refuse12, no11q, no12q, yes11q, if_true, if_false, ite_true, ite_false, ne_eq, not_true_eq_false, not_false_eq_true, Classical.not_not, Bool.not_eq_true, Bool.not_eq_false, reduceCtorEq, Nat.add_zero, Nat.zero_add, Nat.mul_zero, and_self, and_true, true_and, Bool.true_eq_false, Bool.false_eq_true, eq_self, ec, Bool.true_and, bne_self_eq_false]
    · have : (c != 2) = true := by simpa using q
      simp (disch := first | omega | assumption) only [lt_e, bn_s, ck_t, nk0, nk1, nk_b, bI_t, bI_f, L_0, L_1, L_2, L_3, L_4, L_5, L_6, L_7, L_8, L_9, L_10, L_11, L_12, L_15, L_20, L_25, L_30, L_45, L_60, L_65, L_69, L_74, L_79, L_84, L_85, L_86, L_99, L_100, L_255, L_300, L_356, L_900, L_1424, L_1425, L_1489, L_1510, L_9999, L_10000, nI_add, nI_mul, u_lt_t, u_lt_f, u_le_t, u_le_f, u_eq_t, u_eq_f, u_mlt, u_ltm, u_eqm, u_meq, u_mle, u_b0, u_b1, u_ix, u_cl, u_sub, u_suc, u_z0, u_0m, cI_0, cI_s, rI_e, rI_k, rI_j, rI_l, rL_e, rL_k, rL_j, rL_i, told11, none11, refuse12, no11q, no12q, yes11q, if_true, if_false, ite_true, ite_false, ne_eq, not_true_eq_false, not_false_eq_true, Classical.not_not, Bool.not_eq_true, Bool.not_eq_false, reduceCtorEq, Nat.add_zero, Nat.zero_add, Nat.mul_zero, and_self, and_true, true_and, Bool.true_eq_false, Bool.false_eq_true, eq_self, ec, Bool.true_and, this]
theorem mayCut_in {h n S i c s : Nat} {σ : Ms} (hn : n ≤ 20) (hS : S < 2 ^ n) (e : σ.1 h 5 = nI n) (e6 : σ.1 h 6 = nI S) (hi : i < n) (ec : σ.1 (h + 1) i = nI c) (hc : c ≤ 2) (hs : s < 2) : F0_mayCut h (nI s) (nI i) σ = some (bI (S.testBit i && c != 1 - s), σ) := by
  unfold F0_mayCut F0_mayCut_b23
  rw [isStanding_in hn hS e e6 hi]
  cases S.testBit i
  · simp (disch := first | omega | assumption) only [lt_e, bn_s, ck_t, nk0, nk1, nk_b, bI_t, bI_f, L_0, L_1, L_2, L_3, L_4, L_5, L_6, L_7, L_8, L_9, L_10, L_11, L_12, L_15, L_20, L_25, L_30, L_45, L_60, L_65, L_69, L_74, L_79, L_84, L_85, L_86, L_99, L_100, L_255, L_300, L_356, L_900, L_1424, L_1425, L_1489, L_1510, L_9999, L_10000, nI_add, nI_mul, u_lt_t, u_lt_f, u_le_t, u_le_f, u_eq_t, u_eq_f, u_mlt, u_ltm, u_eqm, u_meq, u_mle, u_b0, u_b1, u_ix, u_cl, u_sub, u_suc, u_z0, u_0m, cI_0, cI_s, rI_e, rI_k, rI_j, rI_l, rL_e, rL_k, rL_j, rL_i, told11, none11, refuse12, no11q, no12q, yes11q, if_true, if_false, ite_true, ite_false, ne_eq, not_true_eq_false, not_false_eq_true, Classical.not_not, Bool.not_eq_true, Bool.not_eq_false, reduceCtorEq, Nat.add_zero, Nat.zero_add, Nat.mul_zero, and_self, and_true, true_and, Bool.true_eq_false, Bool.false_eq_true, eq_self, Bool.false_and]
  · by_cases q : c = 1 - s
    · have : (c != 1 - s) = false := by simp [q]
      by_cases z : s = 0
      · simp (disch := first | omega | assumption) only [lt_e, bn_s, ck_t, nk0, nk1, nk_b, bI_t, bI_f, L_0, L_1, L_2, L_3, L_4, L_5, L_6, L_7, L_8, L_9, L_10, L_11, L_12, L_15, L_20, L_25, L_30, L_45, L_60, L_65, L_69, L_74, L_79, L_84, L_85, L_86, L_99, L_100, L_255, L_300, L_356, L_900, L_1424, L_1425, L_1489, L_1510, L_9999, L_10000, nI_add, nI_mul, u_lt_t, u_lt_f, u_le_t, u_le_f, u_eq_t, u_eq_f, u_mlt, u_ltm, u_eqm, u_meq, u_mle, u_b0, u_b1, u_ix, u_cl, u_sub, u_suc, u_z0, u_0m, cI_0, cI_s, rI_e, rI_k, rI_j, rI_l, rL_e, rL_k, rL_j, rL_i, told11, none11, refuse12, no11q, no12q, yes11q, if_true, if_false, ite_true, ite_false, ne_eq, not_true_eq_false, not_false_eq_true, Classical.not_not, Bool.not_eq_true, Bool.not_eq_false, reduceCtorEq, Nat.add_zero, Nat.zero_add, Nat.mul_zero, and_self, and_true, true_and, Bool.true_eq_false, Bool.false_eq_true, eq_self, ec, Bool.true_and, this]
      · simp (disch := first | omega | assumption) only [lt_e, bn_s, ck_t, nk0, nk1, nk_b, bI_t, bI_f, L_0, L_1, L_2, L_3, L_4, L_5, L_6, L_7, L_8, L_9, L_10, L_11, L_12, L_15, L_20, L_25, L_30, L_45, L_60, L_65, L_69, L_74, L_79, L_84, L_85, L_86, L_99, L_100, L_255, L_300, L_356, L_900, L_1424, L_1425, L_1489, L_1510, L_9999, L_10000, nI_add, nI_mul, u_lt_t, u_lt_f, u_le_t, u_le_f, u_eq_t, u_eq_f, u_mlt, u_ltm, u_eqm, u_meq, u_mle, u_b0, u_b1, u_ix, u_cl, u_sub, u_suc, u_z0, u_0m, cI_0, cI_s, rI_e, rI_k, rI_j, rI_l, rL_e, rL_k, rL_j, rL_i, told11, none11, refuse12, no11q, no12q, yes11q, if_true, if_false, ite_true, ite_false, ne_eq, not_true_eq_false, not_false_eq_true, Classical.not_not, Bool.not_eq_true, Bool.not_eq_false, reduceCtorEq, Nat.add_zero, Nat.zero_add, Nat.mul_zero, and_self, and_true, true_and, Bool.true_eq_false, Bool.false_eq_true, eq_self, ec, Bool.true_and, this]
    · have : (c != 1 - s) = true := by simpa using q
      by_cases z : s = 0
      · simp (disch := first | omega | assumption) only [lt_e, bn_s, ck_t, nk0, nk1, nk_b, bI_t, bI_f, L_0, L_1, L_2, L_3, L_4, L_5, L_6, L_7, L_8, L_9, L_10, L_11, L_12, L_15, L_20, L_25, L_30, L_45, L_60, L_65, L_69, L_74, L_79, L_84, L_85, L_86, L_99, L_100, L_255, L_300, L_356, L_900, L_1424, L_1425, L_1489, L_1510, L_9999, L_10000, nI_add, nI_mul, u_lt_t, u_lt_f, u_le_t, u_le_f, u_eq_t, u_eq_f, u_mlt, u_ltm, u_eqm, u_meq, u_mle, u_b0, u_b1, u_ix, u_cl, u_sub, u_suc, u_z0, u_0m, cI_0, cI_s, rI_e, rI_k, rI_j, rI_l, rL_e, rL_k, rL_j, rL_i, told11, none11, refuse12, no11q, no12q, yes11q, if_true, if_false, ite_true, ite_false, ne_eq, not_true_eq_false, not_false_eq_true, Classical.not_not, Bool.not_eq_true, Bool.not_eq_false, reduceCtorEq, Nat.add_zero, Nat.zero_add, Nat.mul_zero, and_self, and_true, true_and, Bool.true_eq_false, Bool.false_eq_true, eq_self, ec, Bool.true_and, this]
      · simp (disch := first | omega | assumption) only [lt_e, bn_s, ck_t, nk0, nk1, nk_b, bI_t, bI_f, L_0, L_1, L_2, L_3, L_4, L_5, L_6, L_7, L_8, L_9, L_10, L_11, L_12, L_15, L_20, L_25, L_30, L_45, L_60, L_65, L_69, L_74, L_79, L_84, L_85, L_86, L_99, L_100, L_255, L_300, L_356, L_900, L_1424, L_1425, L_1489, L_1510, L_9999, L_10000, nI_add, nI_mul, u_lt_t, u_lt_f, u_le_t, u_le_f, u_eq_t, u_eq_f, u_mlt, u_ltm, u_eqm, u_meq, u_mle, u_b0, u_b1, u_ix, u_cl, u_sub, u_suc, u_z0, u_0m, cI_0, cI_s, rI_e, rI_k, rI_j, rI_l, rL_e, rL_k, rL_j, rL_i, told11, none11, refuse12, no11q, no12q, yes11q, if_true, if_false, ite_true, ite_false, ne_eq, not_true_eq_false, not_false_eq_true, Classical.not_not, Bool.not_eq_true, Bool.not_eq_false, reduceCtorEq, Nat.add_zero, Nat.zero_add, Nat.mul_zero, and_self, and_true, true_and, Bool.true_eq_false, Bool.false_eq_true, eq_self, ec, Bool.true_and, this]
/-- the branch of a sprig -/
def brf (S : Nat) (on : Nat → Nat) (k : Nat) : Nat → Nat → Bool := fun r i => S.testBit i && (i == k || (decide (k < i) && on i != 0 && r.testBit (on i - 1)))
def brs (n S : Nat) (on : Nat → Nat) (k : Nat) : Nat := pass (brf S on k) n
theorem brs_lt (n S : Nat) (on : Nat → Nat) (k : Nat) : brs n S on k < 2 ^ n := pass_lt _ n
theorem brs_0 (S : Nat) (on : Nat → Nat) (k : Nat) : pass (brf S on k) (k + 1) = S &&& 2 ^ k := by
  apply Nat.eq_of_testBit_eq
  intro j
  rw [Nat.testBit_and, Nat.testBit_two_pow]
  by_cases h : j < k + 1
  · rw [pass_bit _ h]
    unfold brf
    by_cases q : j = k
    · subst q
      simp
    · have h2 : ¬ k < j := by omega
      have h3 : ¬ k = j := fun z => q z.symm
      simp [q, h2, h3]
  · rw [bit_lt (pass_lt _ (k + 1)) (by omega), decide_eq_false (show ¬ k = j by omega), Bool.and_false]
theorem branchSet_in {N h n S k : Nat} {col on : Nat → Nat} {σ : Ms} (hN : 20 < N) (hW : WS n S col on) (hR : RS h n S col on σ) (hk : k < n) : F0_branchSet N h (nI k) σ = some (nI (brs n S on k), σ) := by
  obtain ⟨hn, hS, hw⟩ := hW
  obtain ⟨e, e6, er⟩ := hR
  have hS31 := set_lt hS hn
  refine wp_eq ?_
  unfold F0_branchSet
  rw [hasSprig_in hn e hk]
  simp (disch := first | omega | assumption) only [lt_e, bn_s, ck_t, nk0, nk1, nk_b, bI_t, bI_f, L_0, L_1, L_2, L_3, L_4, L_5, L_6, L_7, L_8, L_9, L_10, L_11, L_12, L_15, L_20, L_25, L_30, L_45, L_60, L_65, L_69, L_74, L_79, L_84, L_85, L_86, L_99, L_100, L_255, L_300, L_356, L_900, L_1424, L_1425, L_1489, L_1510, L_9999, L_10000, nI_add, nI_mul, u_lt_t, u_lt_f, u_le_t, u_le_f, u_eq_t, u_eq_f, u_mlt, u_ltm, u_eqm, u_meq, u_mle, u_b0, u_b1, u_ix, u_cl, u_sub, u_suc, u_z0, u_0m, cI_0, cI_s, rI_e, rI_k, rI_j, rI_l, rL_e, rL_k, rL_j, rL_i, told11, none11, refuse12, no11q, no12q, yes11q, if_true, if_false, ite_true, ite_false, ne_eq, not_true_eq_false, not_false_eq_true, Classical.not_not, Bool.not_eq_true, Bool.not_eq_false, reduceCtorEq, Nat.add_zero, Nat.zero_add, Nat.mul_zero, and_self, and_true, true_and, Bool.true_eq_false, Bool.false_eq_true, eq_self, e6]
  have ini : nI S &&& (nI 1 <<< (nI k &&& 31)) = nI (pass (brf S on k) (k + 1)) := by
    rw [u_shl1 k (by omega), fa_and, brs_0]
  rw [ini]
  unfold F0_branchSet_b23
  refine wp_fx (fun m x => ∃ i, k + 1 ≤ i ∧ i + m = n ∧ x = (nI (pass (brf S on k) i), nI i, σ)) ?_ (n := n - (k + 1)) (by omega) ⟨k + 1, by omega, by omega, rfl⟩
  rintro m c _ ⟨i, hki, hi, rfl⟩ hc
  simp only
  unfold F0_branchSet_b23B F0_branchSet_b71
  by_cases q : n ≤ i
  · have ei : i = n := by omega
    subst ei
    simp (disch := first | omega | assumption) only [lt_e, bn_s, ck_t, nk0, nk1, nk_b, bI_t, bI_f, L_0, L_1, L_2, L_3, L_4, L_5, L_6, L_7, L_8, L_9, L_10, L_11, L_12, L_15, L_20, L_25, L_30, L_45, L_60, L_65, L_69, L_74, L_79, L_84, L_85, L_86, L_99, L_100, L_255, L_300, L_356, L_900, L_1424, L_1425, L_1489, L_1510, L_9999, L_10000, nI_add, nI_mul, u_lt_t, u_lt_f, u_le_t, u_le_f, u_eq_t, u_eq_f, u_mlt, u_ltm, u_eqm, u_meq, u_mle, u_b0, u_b1, u_ix, u_cl, u_sub, u_suc, u_z0, u_0m, cI_0, cI_s, rI_e, rI_k, rI_j, rI_l, rL_e, rL_k, rL_j, rL_i, told11, none11, refuse12, no11q, no12q, yes11q, if_true, if_false, ite_true, ite_false, ne_eq, not_true_eq_false, not_false_eq_true, Classical.not_not, Bool.not_eq_true, Bool.not_eq_false, reduceCtorEq, Nat.add_zero, Nat.zero_add, Nat.mul_zero, and_self, and_true, true_and, Bool.true_eq_false, Bool.false_eq_true, eq_self, e]
    exact wp_some.mpr ⟨rfl, rfl⟩
  have hin : i < n := by omega
  obtain ⟨ec, eo⟩ := er i hin
  obtain ⟨-, ho, -⟩ := hw i hin
  have hp : pass (brf S on k) i < 2 ^ 31 := Nat.lt_trans (pass_lt _ i) (pow_le31 (by omega))
  have go : ∀ v : Nat, v = pass (brf S on k) (i + 1) → wp (c (nI v, nI (i + 1), σ)) fun r τ => r = nI (brs n S on k) ∧ τ = σ := fun v hv => hc (m - 1) _ (by omega) ⟨i + 1, by omega, by omega, by rw [hv]⟩
  cases hoi : on i with
  | zero =>
    have hf : brf S on k (pass (brf S on k) i) i = false := by
      unfold brf
      have : (i == k) = false := by simp; omega
      simp [hoi, this]
    simp (disch := first | omega | assumption) only [lt_e, bn_s, ck_t, nk0, nk1, nk_b, bI_t, bI_f, L_0, L_1, L_2, L_3, L_4, L_5, L_6, L_7, L_8, L_9, L_10, L_11, L_12, L_15, L_20, L_25, L_30, L_45, L_60, L_65, L_69, L_74, L_79, L_84, L_85, L_86, L_99, L_100, L_255, L_300, L_356, L_900, L_1424, L_1425, L_1489, L_1510, L_9999, L_10000, nI_add, nI_mul, u_lt_t, u_lt_f, u_le_t, u_le_f, u_eq_t, u_eq_f, u_mlt, u_ltm, u_eqm, u_meq, u_mle, u_b0, u_b1, u_ix, u_cl, u_sub, u_suc, u_z0, u_0m, cI_0, cI_s, rI_e, rI_k, rI_j, rI_l, rL_e, rL_k, rL_j, rL_i, told11, none11, refuse12, no11q, no12q, yes11q, if_true, if_false, ite_true, ite_false, ne_eq, not_true_eq_false, not_false_eq_true, Classical.not_not, Bool.not_eq_true, Bool.not_eq_false, reduceCtorEq, Nat.add_zero, Nat.zero_add, Nat.mul_zero, and_self, and_true, true_and, Bool.true_eq_false, Bool.false_eq_true, eq_self, e, eo, hoi]
    exact go _ (pass_no hf).symm
  | succ j =>
    have hf : brf S on k (pass (brf S on k) i) i = (S.testBit i && (pass (brf S on k) i).testBit j) := by
      unfold brf
      have h1 : (i == k) = false := by simp; omega
      have h2 : decide (k < i) = true := by simp; omega
      simp [hoi, h1, h2]
    simp (disch := first | omega | assumption) only [lt_e, bn_s, ck_t, nk0, nk1, nk_b, bI_t, bI_f, L_0, L_1, L_2, L_3, L_4, L_5, L_6, L_7, L_8, L_9, L_10, L_11, L_12, L_15, L_20, L_25, L_30, L_45, L_60, L_65, L_69, L_74, L_79, L_84, L_85, L_86, L_99, L_100, L_255, L_300, L_356, L_900, L_1424, L_1425, L_1489, L_1510, L_9999, L_10000, nI_add, nI_mul, u_lt_t, u_lt_f, u_le_t, u_le_f, u_eq_t, u_eq_f, u_mlt, u_ltm, u_eqm, u_meq, u_mle, u_b0, u_b1, u_ix, u_cl, u_sub, u_suc, u_z0, u_0m, cI_0, cI_s, rI_e, rI_k, rI_j, rI_l, rL_e, rL_k, rL_j, rL_i, told11, none11, refuse12, no11q, no12q, yes11q, if_true, if_false, ite_true, ite_false, ne_eq, not_true_eq_false, not_false_eq_true, Classical.not_not, Bool.not_eq_true, Bool.not_eq_false, reduceCtorEq, Nat.add_zero, Nat.zero_add, Nat.mul_zero, and_self, and_true, true_and, Bool.true_eq_false, Bool.false_eq_true, eq_self, e, eo, hoi]
    rw [isIn11 hp (by omega)]
    cases hb : (pass (brf S on k) i).testBit j
    · simp (disch := first | omega | assumption) only [lt_e, bn_s, ck_t, nk0, nk1, nk_b, bI_t, bI_f, L_0, L_1, L_2, L_3, L_4, L_5, L_6, L_7, L_8, L_9, L_10, L_11, L_12, L_15, L_20, L_25, L_30, L_45, L_60, L_65, L_69, L_74, L_79, L_84, L_85, L_86, L_99, L_100, L_255, L_300, L_356, L_900, L_1424, L_1425, L_1489, L_1510, L_9999, L_10000, nI_add, nI_mul, u_lt_t, u_lt_f, u_le_t, u_le_f, u_eq_t, u_eq_f, u_mlt, u_ltm, u_eqm, u_meq, u_mle, u_b0, u_b1, u_ix, u_cl, u_sub, u_suc, u_z0, u_0m, cI_0, cI_s, rI_e, rI_k, rI_j, rI_l, rL_e, rL_k, rL_j, rL_i, told11, none11, refuse12, no11q, no12q, yes11q, if_true, if_false, ite_true, ite_false, ne_eq, not_true_eq_false, not_false_eq_true, Classical.not_not, Bool.not_eq_true, Bool.not_eq_false, reduceCtorEq, Nat.add_zero, Nat.zero_add, Nat.mul_zero, and_self, and_true, true_and, Bool.true_eq_false, Bool.false_eq_true, eq_self]
      exact go _ (pass_no (by rw [hf, hb, Bool.and_false])).symm
    · simp (disch := first | omega | assumption) only [lt_e, bn_s, ck_t, nk0, nk1, nk_b, bI_t, bI_f, L_0, L_1, L_2, L_3, L_4, L_5, L_6, L_7, L_8, L_9, L_10, L_11, L_12, L_15, L_20, L_25, L_30, L_45, L_60, L_65, L_69, L_74, L_79, L_84, L_85, L_86, L_99, L_100, L_255, L_300, L_356, L_900, L_1424, L_1425, L_1489, L_1510, L_9999, L_10000, nI_add, nI_mul, u_lt_t, u_lt_f, u_le_t, u_le_f, u_eq_t, u_eq_f, u_mlt, u_ltm, u_eqm, u_meq, u_mle, u_b0, u_b1, u_ix, u_cl, u_sub, u_suc, u_z0, u_0m, cI_0, cI_s, rI_e, rI_k, rI_j, rI_l, rL_e, rL_k, rL_j, rL_i, told11, none11, refuse12, no11q, no12q, yes11q, if_true, if_false, ite_true, ite_false, ne_eq, not_true_eq_false, not_false_eq_true, Classical.not_not, Bool.not_eq_true, Bool.not_eq_false, reduceCtorEq, Nat.add_zero, Nat.zero_add, Nat.mul_zero, and_self, and_true, true_and, Bool.true_eq_false, Bool.false_eq_true, eq_self, e6]
      rw [u_shl1 i (by omega), fa_and, fa_or, and_pow]
      refine go _ ?_
      cases hs : S.testBit i
      · rw [pass_no (by rw [hf, hs]; rfl)]
        simp
      · rw [pass_yes (by rw [hf, hs, hb]; rfl)]
        simp
/-- what stands, the model's way -/
theorem standing_ok {N n S : Nat} {col on : Nat → Nat} {σ : Ms} (hN : 20 < N) (hW : WS n S col on) (hM : MS 0 n S col on σ) : F12_standing N σ = some (nI S, σ) := by
  obtain ⟨hn, hS, -⟩ := hW
  obtain ⟨e, er⟩ := hM.at0
  refine wp_eq ?_
  unfold F12_standing F12_standing_b4
  refine wp_fx (fun m x => ∃ i, i + m = n ∧ x = (nI (pass (fun _ i => S.testBit i) i), nI i, σ)) ?_ (n := n) (by omega) ⟨0, by omega, rfl⟩
  rintro m c _ ⟨i, hi, rfl⟩ hc
  simp only
  unfold F12_standing_b4B
  by_cases q : n ≤ i
  · have ei : i = n := by omega
    subst ei
    simp (disch := first | omega | assumption) only [lt_e, bn_s, ck_t, nk0, nk1, nk_b, bI_t, bI_f, L_0, L_1, L_2, L_3, L_4, L_5, L_6, L_7, L_8, L_9, L_10, L_11, L_12, L_15, L_20, L_25, L_30, L_45, L_60, L_65, L_69, L_74, L_79, L_84, L_85, L_86, L_99, L_100, L_255, L_300, L_356, L_900, L_1424, L_1425, L_1489, L_1510, L_9999, L_10000, nI_add, nI_mul, u_lt_t, u_lt_f, u_le_t, u_le_f, u_eq_t, u_eq_f, u_mlt, u_ltm, u_eqm, u_meq, u_mle, u_b0, u_b1, u_ix, u_cl, u_sub, u_suc, u_z0, u_0m, cI_0, cI_s, rI_e, rI_k, rI_j, rI_l, rL_e, rL_k, rL_j, rL_i, told11, none11, refuse12, no11q, no12q, yes11q, if_true, if_false, ite_true, ite_false, ne_eq, not_true_eq_false, not_false_eq_true, Classical.not_not, Bool.not_eq_true, Bool.not_eq_false, reduceCtorEq, Nat.add_zero, Nat.zero_add, Nat.mul_zero, and_self, and_true, true_and, Bool.true_eq_false, Bool.false_eq_true, eq_self, e]
    exact wp_some.mpr ⟨by rw [pass_self hS], rfl⟩
  obtain ⟨-, -, es⟩ := er i (by omega)
  have go : ∀ v : Nat, v = pass (fun _ i => S.testBit i) (i + 1) → wp (c (nI v, nI (i + 1), σ)) fun r τ => r = nI S ∧ τ = σ := fun v hv => hc (m - 1) _ (by omega) ⟨i + 1, by omega, by rw [hv]⟩
  cases hb : S.testBit i
  · simp (disch := first | omega | assumption) only [lt_e, bn_s, ck_t, nk0, nk1, nk_b, bI_t, bI_f, L_0, L_1, L_2, L_3, L_4, L_5, L_6, L_7, L_8, L_9, L_10, L_11, L_12, L_15, L_20, L_25, L_30, L_45, L_60, L_65, L_69, L_74, L_79, L_84, L_85, L_86, L_99, L_100, L_255, L_300, L_356, L_900, L_1424, L_1425, L_1489, L_1510, L_9999, L_10000, nI_add, nI_mul, u_lt_t, u_lt_f, u_le_t, u_le_f, u_eq_t, u_eq_f, u_mlt, u_ltm, u_eqm, u_meq, u_mle, u_b0, u_b1, u_ix, u_cl, u_sub, u_suc, u_z0, u_0m, cI_0, cI_s, rI_e, rI_k, rI_j, rI_l, rL_e, rL_k, rL_j, rL_i, told11, none11, refuse12, no11q, no12q, yes11q, if_true, if_false, ite_true, ite_false, ne_eq, not_true_eq_false, not_false_eq_true, Classical.not_not, Bool.not_eq_true, Bool.not_eq_false, reduceCtorEq, Nat.add_zero, Nat.zero_add, Nat.mul_zero, and_self, and_true, true_and, Bool.true_eq_false, Bool.false_eq_true, eq_self, e, es, hb]
    rw [u_shl0 i (by omega), fa_or]
    exact go _ (by rw [pass_no hb, Nat.or_zero])
  · simp (disch := first | omega | assumption) only [lt_e, bn_s, ck_t, nk0, nk1, nk_b, bI_t, bI_f, L_0, L_1, L_2, L_3, L_4, L_5, L_6, L_7, L_8, L_9, L_10, L_11, L_12, L_15, L_20, L_25, L_30, L_45, L_60, L_65, L_69, L_74, L_79, L_84, L_85, L_86, L_99, L_100, L_255, L_300, L_356, L_900, L_1424, L_1425, L_1489, L_1510, L_9999, L_10000, nI_add, nI_mul, u_lt_t, u_lt_f, u_le_t, u_le_f, u_eq_t, u_eq_f, u_mlt, u_ltm, u_eqm, u_meq, u_mle, u_b0, u_b1, u_ix, u_cl, u_sub, u_suc, u_z0, u_0m, cI_0, cI_s, rI_e, rI_k, rI_j, rI_l, rL_e, rL_k, rL_j, rL_i, told11, none11, refuse12, no11q, no12q, yes11q, if_true, if_false, ite_true, ite_false, ne_eq, not_true_eq_false, not_false_eq_true, Classical.not_not, Bool.not_eq_true, Bool.not_eq_false, reduceCtorEq, Nat.add_zero, Nat.zero_add, Nat.mul_zero, and_self, and_true, true_and, Bool.true_eq_false, Bool.false_eq_true, eq_self, e, es, hb]
    rw [u_shl1 i (by omega), fa_or]
    exact go _ (pass_yes hb).symm
/-- what is left of a set, if some more are cut -/
def stf (A B : Nat) (on : Nat → Nat) : Nat → Nat → Bool := fun r i => A.testBit i && !B.testBit i && (on i == 0 || r.testBit (on i - 1))
def stb (n A B : Nat) (on : Nat → Nat) : Nat := pass (stf A B on) n
theorem stb_lt (n A B : Nat) (on : Nat → Nat) : stb n A B on < 2 ^ n := pass_lt _ n
theorem standsBut_ok {N n S A B : Nat} {col on : Nat → Nat} {σ : Ms} (hN : 20 < N) (hW : WS n S col on) (hM : MS 0 n S col on σ) (hA : A < 2 ^ 31) (hB : B < 2 ^ 31) : F12_standsBut N (nI A) (nI B) σ = some (nI (stb n A B on), σ) := by
  obtain ⟨hn, hS, hw⟩ := hW
  obtain ⟨e, er⟩ := hM.at0
  refine wp_eq ?_
  unfold F12_standsBut F12_standsBut_b5
  refine wp_fx (fun m x => ∃ i, i + m = n ∧ x = (nI A, nI B, nI (pass (stf A B on) i), nI i, σ)) ?_ (n := n) (by omega) ⟨0, by omega, rfl⟩
  rintro m c _ ⟨i, hi, rfl⟩ hc
  simp only
  unfold F12_standsBut_b5B F12_standsBut_b74 F12_standsBut_b67 F12_standsBut_b75
  by_cases q : n ≤ i
  · have ei : i = n := by omega
    subst ei
    simp (disch := first | omega | assumption) only [lt_e, bn_s, ck_t, nk0, nk1, nk_b, bI_t, bI_f, L_0, L_1, L_2, L_3, L_4, L_5, L_6, L_7, L_8, L_9, L_10, L_11, L_12, L_15, L_20, L_25, L_30, L_45, L_60, L_65, L_69, L_74, L_79, L_84, L_85, L_86, L_99, L_100, L_255, L_300, L_356, L_900, L_1424, L_1425, L_1489, L_1510, L_9999, L_10000, nI_add, nI_mul, u_lt_t, u_lt_f, u_le_t, u_le_f, u_eq_t, u_eq_f, u_mlt, u_ltm, u_eqm, u_meq, u_mle, u_b0, u_b1, u_ix, u_cl, u_sub, u_suc, u_z0, u_0m, cI_0, cI_s, rI_e, rI_k, rI_j, rI_l, rL_e, rL_k, rL_j, rL_i, told11, none11, refuse12, no11q, no12q, yes11q, if_true, if_false, ite_true, ite_false, ne_eq, not_true_eq_false, not_false_eq_true, Classical.not_not, Bool.not_eq_true, Bool.not_eq_false, reduceCtorEq, Nat.add_zero, Nat.zero_add, Nat.mul_zero, and_self, and_true, true_and, Bool.true_eq_false, Bool.false_eq_true, eq_self, e]
    exact wp_some.mpr ⟨rfl, rfl⟩
  obtain ⟨-, eo, -⟩ := er i (by omega)
  obtain ⟨-, ho, -⟩ := hw i (by omega)
  have hp : pass (stf A B on) i < 2 ^ 31 := Nat.lt_trans (pass_lt _ i) (pow_le31 (by omega))
  have go : ∀ v : Nat, v = pass (stf A B on) (i + 1) → wp (c (nI A, nI B, nI v, nI (i + 1), σ)) fun r τ => r = nI (stb n A B on) ∧ τ = σ := fun v hv => hc (m - 1) _ (by omega) ⟨i + 1, by omega, by rw [hv]⟩
  have no : stf A B on (pass (stf A B on) i) i = false → wp (c (nI A, nI B, nI (pass (stf A B on) i ||| 0), nI (i + 1), σ)) fun r τ => r = nI (stb n A B on) ∧ τ = σ := fun h => go _ (by rw [pass_no h, Nat.or_zero])
  have hA' : ∀ τ, F12_has (nI A) (nI i) τ = some (bI (A.testBit i), τ) := fun τ => has12 hA (by omega) τ
  have hB' : ∀ τ, F12_has (nI B) (nI i) τ = some (bI (B.testBit i), τ) := fun τ => has12 hB (by omega) τ
  cases hAi : A.testBit i
  · simp (disch := first | omega | assumption) only [lt_e, bn_s, ck_t, nk0, nk1, nk_b, bI_t, bI_f, L_0, L_1, L_2, L_3, L_4, L_5, L_6, L_7, L_8, L_9, L_10, L_11, L_12, L_15, L_20, L_25, L_30, L_45, L_60, L_65, L_69, L_74, L_79, L_84, L_85, L_86, L_99, L_100, L_255, L_300, L_356, L_900, L_1424, L_1425, L_1489, L_1510, L_9999, L_10000, nI_add, nI_mul, u_lt_t, u_lt_f, u_le_t, u_le_f, u_eq_t, u_eq_f, u_mlt, u_ltm, u_eqm, u_meq, u_mle, u_b0, u_b1, u_ix, u_cl, u_sub, u_suc, u_z0, u_0m, cI_0, cI_s, rI_e, rI_k, rI_j, rI_l, rL_e, rL_k, rL_j, rL_i, told11, none11, refuse12, no11q, no12q, yes11q, if_true, if_false, ite_true, ite_false, ne_eq, not_true_eq_false, not_false_eq_true, Classical.not_not, Bool.not_eq_true, Bool.not_eq_false, reduceCtorEq, Nat.add_zero, Nat.zero_add, Nat.mul_zero, and_self, and_true, true_and, Bool.true_eq_false, Bool.false_eq_true, eq_self, e, fa_or, hA', hB', hAi]
    exact no (by unfold stf; rw [hAi]; rfl)
  cases hBi : B.testBit i
  rotate_left
  · simp (disch := first | omega | assumption) only [lt_e, bn_s, ck_t, nk0, nk1, nk_b, bI_t, bI_f, L_0, L_1, L_2, L_3, L_4, L_5, L_6, L_7, L_8, L_9, L_10, L_11, L_12, L_15, L_20, L_25, L_30, L_45, L_60, L_65, L_69, L_74, L_79, L_84, L_85, L_86, L_99, L_100, L_255, L_300, L_356, L_900, L_1424, L_1425, L_1489, L_1510, L_9999, L_10000, nI_add, nI_mul, u_lt_t, u_lt_f, u_le_t, u_le_f, u_eq_t, u_eq_f, u_mlt, u_ltm, u_eqm, u_meq, u_mle, u_b0, u_b1, u_ix, u_cl, u_sub, u_suc, u_z0, u_0m, cI_0, cI_s, rI_e, rI_k, rI_j, rI_l, rL_e, rL_k, rL_j, rL_i, told11, none11, refuse12, no11q, no12q, yes11q, if_true, if_false, ite_true, ite_false, ne_eq, not_true_eq_false, not_false_eq_true, Classical.not_not, Bool.not_eq_true, Bool.not_eq_false, reduceCtorEq, Nat.add_zero, Nat.zero_add, Nat.mul_zero, and_self, and_true, true_and, Bool.true_eq_false, Bool.false_eq_true, eq_self, e, fa_or, hA', hB', hAi, hBi]
    exact no (by unfold stf; rw [hAi, hBi]; rfl)
  cases hoi : on i with
  | zero =>
    have hf : stf A B on (pass (stf A B on) i) i = true := by
      unfold stf
      rw [hAi, hBi, hoi]
      rfl
    simp (disch := first | omega | assumption) only [lt_e, bn_s, ck_t, nk0, nk1, nk_b, bI_t, bI_f, L_0, L_1, L_2, L_3, L_4, L_5, L_6, L_7, L_8, L_9, L_10, L_11, L_12, L_15, L_20, L_25, L_30, L_45, L_60, L_65, L_69, L_74, L_79, L_84, L_85, L_86, L_99, L_100, L_255, L_300, L_356, L_900, L_1424, L_1425, L_1489, L_1510, L_9999, L_10000, nI_add, nI_mul, u_lt_t, u_lt_f, u_le_t, u_le_f, u_eq_t, u_eq_f, u_mlt, u_ltm, u_eqm, u_meq, u_mle, u_b0, u_b1, u_ix, u_cl, u_sub, u_suc, u_z0, u_0m, cI_0, cI_s, rI_e, rI_k, rI_j, rI_l, rL_e, rL_k, rL_j, rL_i, told11, none11, refuse12, no11q, no12q, yes11q, if_true, if_false, ite_true, ite_false, ne_eq, not_true_eq_false, not_false_eq_true, Classical.not_not, Bool.not_eq_true, Bool.not_eq_false, reduceCtorEq, Nat.add_zero, Nat.zero_add, Nat.mul_zero, and_self, and_true, true_and, Bool.true_eq_false, Bool.false_eq_true, eq_self, e, eo, hoi, hA', hB', hAi, hBi]
    rw [u_shl1 i (by omega), fa_or]
    exact go _ (pass_yes hf).symm
  | succ j =>
    have hf : stf A B on (pass (stf A B on) i) i = (pass (stf A B on) i).testBit j := by
      unfold stf
      rw [hAi, hBi, hoi]
      simp
    simp (disch := first | omega | assumption) only [lt_e, bn_s, ck_t, nk0, nk1, nk_b, bI_t, bI_f, L_0, L_1, L_2, L_3, L_4, L_5, L_6, L_7, L_8, L_9, L_10, L_11, L_12, L_15, L_20, L_25, L_30, L_45, L_60, L_65, L_69, L_74, L_79, L_84, L_85, L_86, L_99, L_100, L_255, L_300, L_356, L_900, L_1424, L_1425, L_1489, L_1510, L_9999, L_10000, nI_add, nI_mul, u_lt_t, u_lt_f, u_le_t, u_le_f, u_eq_t, u_eq_f, u_mlt, u_ltm, u_eqm, u_meq, u_mle, u_b0, u_b1, u_ix, u_cl, u_sub, u_suc, u_z0, u_0m, cI_0, cI_s, rI_e, rI_k, rI_j, rI_l, rL_e, rL_k, rL_j, rL_i, told11, none11, refuse12, no11q, no12q, yes11q, if_true, if_false, ite_true, ite_false, ne_eq, not_true_eq_false, not_false_eq_true, Classical.not_not, Bool.not_eq_true, Bool.not_eq_false, reduceCtorEq, Nat.add_zero, Nat.zero_add, Nat.mul_zero, and_self, and_true, true_and, Bool.true_eq_false, Bool.false_eq_true, eq_self, e, eo, hoi, Nat.add_sub_cancel, hA', hB', hAi, hBi]
    rw [has12 hp (by omega)]
    cases hb : (pass (stf A B on) i).testBit j
    · simp (disch := first | omega | assumption) only [lt_e, bn_s, ck_t, nk0, nk1, nk_b, bI_t, bI_f, L_0, L_1, L_2, L_3, L_4, L_5, L_6, L_7, L_8, L_9, L_10, L_11, L_12, L_15, L_20, L_25, L_30, L_45, L_60, L_65, L_69, L_74, L_79, L_84, L_85, L_86, L_99, L_100, L_255, L_300, L_356, L_900, L_1424, L_1425, L_1489, L_1510, L_9999, L_10000, nI_add, nI_mul, u_lt_t, u_lt_f, u_le_t, u_le_f, u_eq_t, u_eq_f, u_mlt, u_ltm, u_eqm, u_meq, u_mle, u_b0, u_b1, u_ix, u_cl, u_sub, u_suc, u_z0, u_0m, cI_0, cI_s, rI_e, rI_k, rI_j, rI_l, rL_e, rL_k, rL_j, rL_i, told11, none11, refuse12, no11q, no12q, yes11q, if_true, if_false, ite_true, ite_false, ne_eq, not_true_eq_false, not_false_eq_true, Classical.not_not, Bool.not_eq_true, Bool.not_eq_false, reduceCtorEq, Nat.add_zero, Nat.zero_add, Nat.mul_zero, and_self, and_true, true_and, Bool.true_eq_false, Bool.false_eq_true, eq_self, fa_or]
      exact no (by rw [hf, hb])
    · simp (disch := first | omega | assumption) only [lt_e, bn_s, ck_t, nk0, nk1, nk_b, bI_t, bI_f, L_0, L_1, L_2, L_3, L_4, L_5, L_6, L_7, L_8, L_9, L_10, L_11, L_12, L_15, L_20, L_25, L_30, L_45, L_60, L_65, L_69, L_74, L_79, L_84, L_85, L_86, L_99, L_100, L_255, L_300, L_356, L_900, L_1424, L_1425, L_1489, L_1510, L_9999, L_10000, nI_add, nI_mul, u_lt_t, u_lt_f, u_le_t, u_le_f, u_eq_t, u_eq_f, u_mlt, u_ltm, u_eqm, u_meq, u_mle, u_b0, u_b1, u_ix, u_cl, u_sub, u_suc, u_z0, u_0m, cI_0, cI_s, rI_e, rI_k, rI_j, rI_l, rL_e, rL_k, rL_j, rL_i, told11, none11, refuse12, no11q, no12q, yes11q, if_true, if_false, ite_true, ite_false, ne_eq, not_true_eq_false, not_false_eq_true, Classical.not_not, Bool.not_eq_true, Bool.not_eq_false, reduceCtorEq, Nat.add_zero, Nat.zero_add, Nat.mul_zero, and_self, and_true, true_and, Bool.true_eq_false, Bool.false_eq_true, eq_self]
      rw [u_shl1 i (by omega), fa_or]
      exact go _ (pass_yes (by rw [hf, hb])).symm
theorem stb_bit {n A B i : Nat} {on : Nat → Nat} (hi : i < n) (ho : on i ≤ i) : (stb n A B on).testBit i = (A.testBit i && !B.testBit i && (on i == 0 || (stb n A B on).testBit (on i - 1))) := by
  show (pass (stf A B on) n).testBit i = _
  rw [pass_bit _ hi]
  show (A.testBit i && !B.testBit i && (on i == 0 || (pass (stf A B on) i).testBit (on i - 1))) = (A.testBit i && !B.testBit i && (on i == 0 || (pass (stf A B on) n).testBit (on i - 1)))
  by_cases q : on i = 0
  · simp [q]
  · rw [pass_le _ (i := i) (n := n) (show on i - 1 < i by omega) (by omega)]
theorem brs_bit {n S i k : Nat} {on : Nat → Nat} (hi : i < n) (ho : on i ≤ i) : (brs n S on k).testBit i = (S.testBit i && (i == k || (decide (k < i) && on i != 0 && (brs n S on k).testBit (on i - 1)))) := by
  show (pass (brf S on k) n).testBit i = _
  rw [pass_bit _ hi]
  show (S.testBit i && (i == k || (decide (k < i) && on i != 0 && (pass (brf S on k) i).testBit (on i - 1)))) = (S.testBit i && (i == k || (decide (k < i) && on i != 0 && (pass (brf S on k) n).testBit (on i - 1))))
  by_cases q : on i = 0
  · simp [q]
  · rw [pass_le _ (i := i) (n := n) (show on i - 1 < i by omega) (by omega)]
theorem brs_ge {n S k : Nat} {on : Nat → Nat} {i : Nat} (h : i < k) : (brs n S on k).testBit i = false := by
  by_cases q : i < n
  · show (pass (brf S on k) n).testBit i = _
    rw [pass_bit _ q]
    unfold brf
    have h1 : (i == k) = false := by simp; omega
    have h2 : decide (k < i) = false := by simp; omega
    simp [h1, h2]
  · exact bit_lt (brs_lt n S on k) (by omega)
/-- what is left if a sprig is cut: all but its branch -/
theorem stb_brs {n S k : Nat} {col on : Nat → Nat} (hW : WS n S col on) : ∀ i, i < n → (stb n S (2 ^ k) on).testBit i = (S.testBit i && !(brs n S on k).testBit i) := by
  intro i
  induction i using Nat.strongRecOn with
  | ind i ih =>
    intro hi
    obtain ⟨-, ho, hd⟩ := hW.2.2 i hi
    rw [stb_bit hi ho, brs_bit hi ho, Nat.testBit_two_pow]
    by_cases qk : i = k
    · subst qk
      cases S.testBit i <;> simp
    have k1 : decide (k = i) = false := decide_eq_false fun z => qk z.symm
    have k2 : (i == k) = false := by simp [qk]
    rw [k1, k2]
    cases hoi : on i with
    | zero => cases S.testBit i <;> simp
    | succ j =>
      have hj := ih j (by omega) (by omega)
      rw [Nat.add_sub_cancel, hj]
      cases hs : S.testBit i
      · rfl
      have hsj := (hd j hoi).2 hs
      rw [hsj]
      by_cases qi : k < i
      · have k3 : decide (k < i) = true := decide_eq_true qi
        rw [k3]
        cases (brs n S on k).testBit j <;> rfl
      · have k3 : decide (k < i) = false := decide_eq_false qi
        rw [k3, brs_ge (show j < k by omega)]
        rfl
theorem stb_dif {n S k : Nat} {col on : Nat → Nat} (hW : WS n S col on) : stb n S (2 ^ k) on = dif S (brs n S on k) := bits_eq (stb_lt n S _ on) (dif_lt hW.2.1) fun i hi => by rw [stb_brs hW i hi, dif_bit]
theorem brs_sub {n S k i : Nat} {on : Nat → Nat} (h : (brs n S on k).testBit i = true) : S.testBit i = true := by
  have hi : i < n := bit_of (brs_lt n S on k) h
  have h' : (pass (brf S on k) n).testBit i = true := h
  rw [pass_bit _ hi] at h'
  unfold brf at h'
  cases hs : S.testBit i
  · rw [hs] at h'
    cases h'
  · rfl
theorem pc_brs {n S k : Nat} {col on : Nat → Nat} (hW : WS n S col on) : pc S 20 = pc (brs n S on k) 20 + pc (stb n S (2 ^ k) on) 20 := by
  refine pc_add fun i _ => ?_
  by_cases hi : i < n
  · rw [stb_brs hW i hi]
    cases hb : (brs n S on k).testBit i
    · cases S.testBit i <;> rfl
    · rw [brs_sub hb]
      rfl
  · rw [bit_lt hW.2.1 (by omega), bit_lt (brs_lt n S on k) (by omega), bit_lt (stb_lt n S _ on) (by omega)]
    rfl
