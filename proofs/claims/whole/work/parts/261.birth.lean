theorem ckU : (!((1048576 : Int64) == 0)) = true := by decide
theorem rem_U {a : Nat} (ha : a < 4611686018427387904) : zL (a : Int) - zL (a : Int) / (1048576 : Int64) * (1048576 : Int64) = zL ((a % 1048576 : Nat) : Int) := by
  rw [show (1048576 : Int64) = zL ((1048576 : Nat) : Int) by decide]
  exact zL_rem ha (by decide) (by decide)
theorem div_U {a : Nat} (ha : a < 4611686018427387904) : (zL (a : Int) / (1048576 : Int64)).toInt32 = nI (a / 1048576) := by
  rw [show (1048576 : Int64) = zL ((1048576 : Nat) : Int) by decide, zL_divn ha (by decide) (by decide), zL_i]
  rfl
theorem rem_eq {a : Nat} (ha : a < 4611686018427387904) : lg_cmp (zL (a : Int) - zL (a : Int) / (1048576 : Int64) * (1048576 : Int64)) (0 : Int64) = 0 ↔ a % 1048576 = 0 := by
  rw [rem_U ha, Z0_z, zL_eq (by omega) (by omega)]
  omega
theorem low_ex (V : Int) : ∃ s q, V % 1048576 ≠ 0 → V.natAbs = 2 ^ s * (2 * q + 1) ∧ s < 20 := by
  by_cases h : V % 1048576 = 0
  · exact ⟨0, 0, fun z => absurd h z⟩
  · obtain ⟨s, q, e⟩ := low_bit V.natAbs (by omega)
    exact ⟨s, q, fun _ => ⟨e, low_lt e (by omega)⟩⟩
theorem R_birthday {N : Nat} (hN : 100 < N) (p k : Int32) (σ : Ms) : wp (F11_birthday p k σ) fun r t => wp (F12_birthday N p k t) fun r' t' => r = r' ∧ t'.1 11 17 = t'.1 0 0 := by
  unfold F11_birthday
  rcases num_both p k with ⟨V, h1, h2, c1, c2, m1, m2⟩ | ⟨c1, m1⟩
  rotate_left
  · try simp (disch := first | omega | assumption) only [lt_e, bn_s, ck_t, nk0, nk1, nk_b, bI_t, bI_f, L_0, L_1, L_2, L_3, L_4, L_5, L_6, L_7, L_8, L_9, L_10, L_11, L_12, L_15, L_20, L_25, L_30, L_45, L_60, L_65, L_69, L_74, L_79, L_84, L_85, L_86, L_99, L_100, L_255, L_300, L_356, L_900, L_1424, L_1425, L_1489, L_1510, L_9999, L_10000, nI_add, nI_mul, u_lt_t, u_lt_f, u_le_t, u_le_f, u_eq_t, u_eq_f, u_mlt, u_ltm, u_eqm, u_meq, u_mle, u_b0, u_b1, u_ix, u_cl, u_sub, u_suc, u_z0, u_0m, cI_0, cI_s, rI_e, rI_k, rI_j, rI_l, rL_e, rL_k, rL_j, rL_i, told11, none11, refuse12, no11q, no12q, yes11q, if_true, if_false, ite_true, ite_false, ne_eq, not_true_eq_false, not_false_eq_true, Classical.not_not, Bool.not_eq_true, Bool.not_eq_false, reduceCtorEq, Nat.add_zero, Nat.zero_add, Nat.mul_zero, and_self, and_true, true_and, Bool.true_eq_false, Bool.false_eq_true, eq_self, c1]
    refine wp_some.mpr ?_
    unfold F12_birthday
    try simp (disch := first | omega | assumption) only [lt_e, bn_s, ck_t, nk0, nk1, nk_b, bI_t, bI_f, L_0, L_1, L_2, L_3, L_4, L_5, L_6, L_7, L_8, L_9, L_10, L_11, L_12, L_15, L_20, L_25, L_30, L_45, L_60, L_65, L_69, L_74, L_79, L_84, L_85, L_86, L_99, L_100, L_255, L_300, L_356, L_900, L_1424, L_1425, L_1489, L_1510, L_9999, L_10000, nI_add, nI_mul, u_lt_t, u_lt_f, u_le_t, u_le_f, u_eq_t, u_eq_f, u_mlt, u_ltm, u_eqm, u_meq, u_mle, u_b0, u_b1, u_ix, u_cl, u_sub, u_suc, u_z0, u_0m, cI_0, cI_s, rI_e, rI_k, rI_j, rI_l, rL_e, rL_k, rL_j, rL_i, told11, none11, refuse12, no11q, no12q, yes11q, if_true, if_false, ite_true, ite_false, ne_eq, not_true_eq_false, not_false_eq_true, Classical.not_not, Bool.not_eq_true, Bool.not_eq_false, reduceCtorEq, Nat.add_zero, Nat.zero_add, Nat.mul_zero, and_self, and_true, true_and, Bool.true_eq_false, Bool.false_eq_true, eq_self, m1]
    exact wp_some.mpr ⟨rfl, by try simp (disch := first | omega | assumption) only [lt_e, bn_s, ck_t, nk0, nk1, nk_b, bI_t, bI_f, L_0, L_1, L_2, L_3, L_4, L_5, L_6, L_7, L_8, L_9, L_10, L_11, L_12, L_15, L_20, L_25, L_30, L_45, L_60, L_65, L_69, L_74, L_79, L_84, L_85, L_86, L_99, L_100, L_255, L_300, L_356, L_900, L_1424, L_1425, L_1489, L_1510, L_9999, L_10000, nI_add, nI_mul, u_lt_t, u_lt_f, u_le_t, u_le_f, u_eq_t, u_eq_f, u_mlt, u_ltm, u_eqm, u_meq, u_mle, u_b0, u_b1, u_ix, u_cl, u_sub, u_suc, u_z0, u_0m, cI_0, cI_s, rI_e, rI_k, rI_j, rI_l, rL_e, rL_k, rL_j, rL_i, told11, none11, refuse12, no11q, no12q, yes11q, if_true, if_false, ite_true, ite_false, ne_eq, not_true_eq_false, not_false_eq_true, Classical.not_not, Bool.not_eq_true, Bool.not_eq_false, reduceCtorEq, Nat.add_zero, Nat.zero_add, Nat.mul_zero, and_self, and_true, true_and, Bool.true_eq_false, Bool.false_eq_true, eq_self]⟩
  obtain ⟨s, q, hsq⟩ := low_ex V
  try simp (disch := first | omega | assumption) only [lt_e, bn_s, ck_t, nk0, nk1, nk_b, bI_t, bI_f, L_0, L_1, L_2, L_3, L_4, L_5, L_6, L_7, L_8, L_9, L_10, L_11, L_12, L_15, L_20, L_25, L_30, L_45, L_60, L_65, L_69, L_74, L_79, L_84, L_85, L_86, L_99, L_100, L_255, L_300, L_356, L_900, L_1424, L_1425, L_1489, L_1510, L_9999, L_10000, nI_add, nI_mul, u_lt_t, u_lt_f, u_le_t, u_le_f, u_eq_t, u_eq_f, u_mlt, u_ltm, u_eqm, u_meq, u_mle, u_b0, u_b1, u_ix, u_cl, u_sub, u_suc, u_z0, u_0m, cI_0, cI_s, rI_e, rI_k, rI_j, rI_l, rL_e, rL_k, rL_j, rL_i, told11, none11, refuse12, no11q, no12q, yes11q, if_true, if_false, ite_true, ite_false, ne_eq, not_true_eq_false, not_false_eq_true, Classical.not_not, Bool.not_eq_true, Bool.not_eq_false, reduceCtorEq, Nat.add_zero, Nat.zero_add, Nat.mul_zero, and_self, and_true, true_and, Bool.true_eq_false, Bool.false_eq_true, eq_self, c1, c2, age_ok ⟨h1, h2⟩ hsq]
  refine wp_some.mpr ?_
  unfold F12_birthday
  rw [lt_e, lt_e, show (0 : Int32) = nI 0 from rfl, m1, bn_s, if_pos (by decide), m2, bn_s, zL_abs (by omega) (by omega), bn_s, ckU, ck_t, div_U (by omega), lt_e, ck_t]
  unfold bday
  by_cases h : V % 1048576 = 0
  · rw [if_neg (by exact fun z => z ((rem_eq (by omega)).mpr (by omega))), if_pos h]
    exact wp_some.mpr ⟨rfl, by try simp (disch := first | omega | assumption) only [lt_e, bn_s, ck_t, nk0, nk1, nk_b, bI_t, bI_f, L_0, L_1, L_2, L_3, L_4, L_5, L_6, L_7, L_8, L_9, L_10, L_11, L_12, L_15, L_20, L_25, L_30, L_45, L_60, L_65, L_69, L_74, L_79, L_84, L_85, L_86, L_99, L_100, L_255, L_300, L_356, L_900, L_1424, L_1425, L_1489, L_1510, L_9999, L_10000, nI_add, nI_mul, u_lt_t, u_lt_f, u_le_t, u_le_f, u_eq_t, u_eq_f, u_mlt, u_ltm, u_eqm, u_meq, u_mle, u_b0, u_b1, u_ix, u_cl, u_sub, u_suc, u_z0, u_0m, cI_0, cI_s, rI_e, rI_k, rI_j, rI_l, rL_e, rL_k, rL_j, rL_i, told11, none11, refuse12, no11q, no12q, yes11q, if_true, if_false, ite_true, ite_false, ne_eq, not_true_eq_false, not_false_eq_true, Classical.not_not, Bool.not_eq_true, Bool.not_eq_false, reduceCtorEq, Nat.add_zero, Nat.zero_add, Nat.mul_zero, and_self, and_true, true_and, Bool.true_eq_false, Bool.false_eq_true, eq_self]⟩
  obtain ⟨e, hs⟩ := hsq h
  rw [if_pos (by exact fun z => h (by have := (rem_eq (by omega)).mp z; omega)), if_neg h]
  unfold F12_birthday_b57
  refine wp_fx (fun m x => ∃ i, i + m = 20 - s ∧ x = (zL (V.natAbs : Int), nI (V.natAbs / 1048576), nI i, sI (sI (sI σ 11 17 (nI 0)) 0 1 (nI 0)) 0 0 (nI 0))) ?_ (n := 20 - s) (by omega) ⟨0, by omega, rfl⟩
  rintro m c _ ⟨i, hi, rfl⟩ hc
  simp only
  unfold F12_birthday_b57B
  have hp : (2 : Nat) ^ i ≤ 2 ^ 20 := Nat.pow_le_pow_right (by decide) (by omega)
  have hb : V.natAbs * 2 ^ i < 4611686018427387904 := by
    have : V.natAbs * 2 ^ i ≤ 20971520 * 2 ^ 20 := Nat.mul_le_mul (by omega) hp
    omega
  have ec : (V.natAbs : Int) * 2 ^ i = ((V.natAbs * 2 ^ i : Nat) : Int) := by rw [Int.natCast_mul, Int.natCast_pow]; rfl
  rw [ckU, ck_t, zL_shl _ (by omega), ec]
  by_cases z : 20 - s ≤ i
  · rw [if_pos ((rem_eq hb).mpr ((low_dbl e hs).mpr z)), nI_add, show (1 : Int32) = nI 1 from rfl, nI_add, show i = 20 - s by omega]
    exact wp_some.mpr ⟨rfl, by try simp (disch := first | omega | assumption) only [lt_e, bn_s, ck_t, nk0, nk1, nk_b, bI_t, bI_f, L_0, L_1, L_2, L_3, L_4, L_5, L_6, L_7, L_8, L_9, L_10, L_11, L_12, L_15, L_20, L_25, L_30, L_45, L_60, L_65, L_69, L_74, L_79, L_84, L_85, L_86, L_99, L_100, L_255, L_300, L_356, L_900, L_1424, L_1425, L_1489, L_1510, L_9999, L_10000, nI_add, nI_mul, u_lt_t, u_lt_f, u_le_t, u_le_f, u_eq_t, u_eq_f, u_mlt, u_ltm, u_eqm, u_meq, u_mle, u_b0, u_b1, u_ix, u_cl, u_sub, u_suc, u_z0, u_0m, cI_0, cI_s, rI_e, rI_k, rI_j, rI_l, rL_e, rL_k, rL_j, rL_i, told11, none11, refuse12, no11q, no12q, yes11q, if_true, if_false, ite_true, ite_false, ne_eq, not_true_eq_false, not_false_eq_true, Classical.not_not, Bool.not_eq_true, Bool.not_eq_false, reduceCtorEq, Nat.add_zero, Nat.zero_add, Nat.mul_zero, and_self, and_true, true_and, Bool.true_eq_false, Bool.false_eq_true, eq_self]⟩
  · rw [if_neg (by exact fun y => z ((low_dbl e hs).mp ((rem_eq hb).mp y))), nI_1]
    exact hc (m - 1) _ (by omega) ⟨i + 1, by omega, rfl⟩
/-- the row of sprigs that comes to a number -/
def sof (v w : Int) : Nat → Int
  | 0 => w * 1048576 + 524288
  | j + 1 => if sof v w j < v then sof v w j + 2 ^ (18 - j) else sof v w j - 2 ^ (18 - j)
theorem sof_ok {v w r : Int} {s q : Nat} (hr : 0 < r ∧ r < 1048576) (hv : v = w * 1048576 + r) (e : r = 2 ^ s * (2 * q + 1)) (hs : s < 20) : ∀ j, j ≤ 19 - s → (-(2 ^ (19 - j)) < v - sof v w j ∧ v - sof v w j < 2 ^ (19 - j)) ∧ ∃ t, sof v w j = 2 ^ (19 - j) * t
  | 0, _ => by
    refine ⟨?_, 2 * w + 1, ?_⟩
    · show -(2 ^ 19) < v - (w * 1048576 + 524288) ∧ v - (w * 1048576 + 524288) < 2 ^ 19
      omega
    · show w * 1048576 + 524288 = 2 ^ 19 * (2 * w + 1)
      omega
  | j + 1, hj => by
    obtain ⟨⟨a1, a2⟩, t, ht⟩ := sof_ok hr hv e hs j (by omega)
    have pe : (2 : Int) ^ (19 - j) = 2 * 2 ^ (18 - j) := by rw [show 19 - j = (18 - j) + 1 by omega, Int.pow_succ, Int.mul_comm]
    have pp : (0 : Int) < 2 ^ (18 - j) := Int.pow_pos (by decide)
    have ne : sof v w j ≠ v := fun z => by
      have h1 : (2 : Int) ^ (19 - j) = 2 ^ (s + 1) * 2 ^ (18 - j - s) := by rw [← Int.pow_add, show s + 1 + (18 - j - s) = 19 - j by omega]
      have h2 : (1048576 : Int) = 2 ^ (s + 1) * 2 ^ (19 - s) := by rw [← Int.pow_add, show s + 1 + (19 - s) = 20 by omega]; decide
      have h3 : (2 : Int) ^ (s + 1) = 2 ^ s * 2 := Int.pow_succ 2 s
      have ps : (0 : Int) < 2 ^ s := Int.pow_pos (by decide)
      have h4 : (2 : Int) ^ s * (2 * (2 ^ (18 - j - s) * t - w * 2 ^ (19 - s))) = 2 ^ s * (2 * q + 1) := by
        rw [← e]
        have : v = 2 ^ (s + 1) * 2 ^ (18 - j - s) * t := by rw [← h1, ← ht, z]
        have h5 : r = v - w * 1048576 := by omega
        rw [h5, this, h2, h3]
        rw [Int.mul_sub, Int.mul_sub, Int.mul_left_comm w]
        simp only [Int.mul_assoc, Int.mul_left_comm]
      have h6 := Int.eq_of_mul_eq_mul_left (by omega) h4
      omega
    have e19 : 19 - (j + 1) = 18 - j := by omega
    rw [e19]
    show (-(2 ^ (18 - j)) < v - (if sof v w j < v then sof v w j + 2 ^ (18 - j) else sof v w j - 2 ^ (18 - j)) ∧ v - (if sof v w j < v then sof v w j + 2 ^ (18 - j) else sof v w j - 2 ^ (18 - j)) < 2 ^ (18 - j)) ∧ ∃ t, (if sof v w j < v then sof v w j + 2 ^ (18 - j) else sof v w j - 2 ^ (18 - j)) = 2 ^ (18 - j) * t
    rw [pe] at a1 a2 ht
    by_cases y : sof v w j < v
    · rw [if_pos y]
      refine ⟨by omega, 2 * t + 1, ?_⟩
      rw [ht, Int.mul_add, Int.mul_one, Int.mul_comm 2, Int.mul_assoc]
    · rw [if_neg y]
      refine ⟨by omega, 2 * t - 1, ?_⟩
      rw [ht, Int.mul_sub, Int.mul_one, Int.mul_comm 2, Int.mul_assoc]
theorem sof_ne {v w r : Int} {s q : Nat} (hr : 0 < r ∧ r < 1048576) (hv : v = w * 1048576 + r) (e : r = 2 ^ s * (2 * q + 1)) (hs : s < 20) {j : Nat} (hj : j < 19 - s) : sof v w j ≠ v := fun z => by
  obtain ⟨-, t, ht⟩ := sof_ok hr hv e hs j (by omega)
  have h1 : (2 : Int) ^ (19 - j) = 2 ^ (s + 1) * 2 ^ (18 - j - s) := by rw [← Int.pow_add, show s + 1 + (18 - j - s) = 19 - j by omega]
  have h2 : (1048576 : Int) = 2 ^ (s + 1) * 2 ^ (19 - s) := by rw [← Int.pow_add, show s + 1 + (19 - s) = 20 by omega]; decide
  have h3 : (2 : Int) ^ (s + 1) = 2 ^ s * 2 := Int.pow_succ 2 s
  have ps : (0 : Int) < 2 ^ s := Int.pow_pos (by decide)
  have h4 : (2 : Int) ^ s * (2 * (2 ^ (18 - j - s) * t - w * 2 ^ (19 - s))) = 2 ^ s * (2 * q + 1) := by
    rw [← e]
    have : v = 2 ^ (s + 1) * 2 ^ (18 - j - s) * t := by rw [← h1, ← ht, z]
    have h5 : r = v - w * 1048576 := by omega
    rw [h5, this, h2, h3]
    rw [Int.mul_sub, Int.mul_sub, Int.mul_left_comm w]
    simp only [Int.mul_assoc, Int.mul_left_comm]
  have h6 := Int.eq_of_mul_eq_mul_left (by omega) h4
  omega
theorem sof_end {v w r : Int} {s q : Nat} (hr : 0 < r ∧ r < 1048576) (hv : v = w * 1048576 + r) (e : r = 2 ^ s * (2 * q + 1)) (hs : s < 20) : sof v w (19 - s) = v := by
  obtain ⟨⟨a1, a2⟩, t, ht⟩ := sof_ok hr hv e hs (19 - s) (Nat.le_refl _)
  rw [show 19 - (19 - s) = s by omega] at a1 a2 ht
  have h2 : (1048576 : Int) = 2 ^ s * 2 ^ (20 - s) := by rw [← Int.pow_add, show s + (20 - s) = 20 by omega]; decide
  have ps : (0 : Int) < 2 ^ s := Int.pow_pos (by decide)
  have h3 : v - sof v w (19 - s) = 2 ^ s * (w * 2 ^ (20 - s) + (2 * q + 1) - t) := by
    rw [ht, hv, e, h2, Int.mul_sub, Int.mul_add (2 ^ s) (w * 2 ^ (20 - s)), Int.mul_left_comm w]
  rw [h3] at a1 a2
  have b1 : w * 2 ^ (20 - s) + (2 * q + 1) - t < 1 := by
    refine Int.lt_of_mul_lt_mul_left (a := 2 ^ s) ?_ (by omega)
    rw [Int.mul_one]
    exact a2
  have b2 : -1 < w * 2 ^ (20 - s) + (2 * q + 1) - t := by
    refine Int.lt_of_mul_lt_mul_left (a := 2 ^ s) ?_ (by omega)
    rw [Int.mul_neg, Int.mul_one]
    exact a1
  have : w * 2 ^ (20 - s) + (2 * q + 1) - t = 0 := by omega
  rw [this, Int.mul_zero] at h3
  omega
