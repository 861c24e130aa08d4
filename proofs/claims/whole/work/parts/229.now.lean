theorem lays_b62 {N n S X P R h0 : Nat} {col cc on : Nat → Nat} {s : Int} {σ : Ms} (hN : 30 < N) (hW : WS n S cc on) (hM : MS 0 n S col on σ) (hcc : ∀ i, i < n → cc i = if P.testBit i = true then (if R.testBit i = true then 1 else 0) else col i) (hX : X < 2 ^ 31) (hP : P < 2 ^ 31) (hR : R < 2 ^ 31) {τ₀ : Ms} (h5 : ∀ j, τ₀.1 5 j = σ.1 5 j) (h25 : τ₀.2 0 25 = zL s) (h26 : τ₀.1 0 26 = nI h0) : wp (F12_laysWorths_b62 N (nI X) (nI P) (nI R) (0 : Int32) τ₀) fun _ τ => LD n X cc on h0 s σ τ := by
  have hn := hW.1
  have e0 := hM.at0.1
  unfold F12_laysWorths_b62
  refine wp_fx (fun k x => ∃ i τ, i + k = n ∧ x = (nI X, nI P, nI R, nI i, τ) ∧ (∀ j, τ.1 5 j = σ.1 5 j) ∧ (∀ j, j < i → τ.2 7 j = zL 0) ∧ (∀ j, j < i → τ.1 8 j = nI 0) ∧ τ.2 0 25 = zL s ∧ τ.1 0 26 = nI h0) ?_ (n := n) (by omega) ⟨0, τ₀, by omega, rfl, h5, fun j hj => absurd hj (Nat.not_lt_zero j), fun j hj => absurd hj (Nat.not_lt_zero j), h25, h26⟩
  rintro k c _ ⟨i, τ, hi, rfl, g5, g7, g8, g25, g26⟩ hc
  simp only
  unfold F12_laysWorths_b62B
  have c0 : (0 : Int32).toNatClampNeg = 0 := by decide
  rw [show ixb (0 : Int32) 1780 = true by decide, ck_t, c0, g5, e0]
  by_cases q : n ≤ i
  · have ei : i = n := by omega
    subst ei
    rw [if_pos (nI_le (Nat.le_refl _) (by omega)), ck_t, lt_e]
    exact lays_b105 hN hW hM hcc hX hP hR g5 g7 g8 g25 g26
  · rw [if_neg (nI_ge (by omega) (by omega)), u_ix (show i < 20 by omega) (by omega), ck_t, lt_e, ck_t, lt_e, u_cl (by omega)]
    first | rw [nI_1] | rw [nI_add] | skip
    refine hc (k - 1) _ (by omega) ⟨i + 1, _, by omega, rfl, fun j => by try simp (disch := first | omega | assumption) only [lt_e, bn_s, ck_t, nk0, nk1, nk_b, bI_t, bI_f, L_0, L_1, L_2, L_3, L_4, L_5, L_6, L_7, L_8, L_9, L_10, L_11, L_12, L_15, L_20, L_25, L_30, L_45, L_60, L_65, L_69, L_74, L_79, L_84, L_85, L_86, L_99, L_100, L_255, L_300, L_356, L_900, L_1424, L_1425, L_1489, L_1510, L_9999, L_10000, nI_add, nI_mul, u_lt_t, u_lt_f, u_le_t, u_le_f, u_eq_t, u_eq_f, u_mlt, u_ltm, u_eqm, u_meq, u_mle, u_b0, u_b1, u_ix, u_cl, u_sub, u_suc, u_z0, u_0m, cI_0, cI_s, rI_e, rI_k, rI_j, rI_l, rL_e, rL_k, rL_j, rL_i, told11, none11, refuse12, no11q, no12q, yes11q, if_true, if_false, ite_true, ite_false, ne_eq, not_true_eq_false, not_false_eq_true, Classical.not_not, Bool.not_eq_true, Bool.not_eq_false, reduceCtorEq, Nat.add_zero, Nat.zero_add, Nat.mul_zero, and_self, and_true, true_and, Bool.true_eq_false, Bool.false_eq_true, eq_self, g5], fun j hj => ?_, fun j hj => ?_, ?_, ?_⟩
    · show (if 7 = 7 ∧ j = i then (0 : Int64) else τ.2 7 j) = _
      by_cases z : j = i
      · rw [if_pos ⟨rfl, z⟩]; rfl
      · rw [if_neg fun y => z y.2]
        exact g7 j (by omega)
    · show (if 8 = 8 ∧ j = i then (0 : Int32) else τ.1 8 j) = _
      by_cases z : j = i
      · rw [if_pos ⟨rfl, z⟩]; rfl
      · rw [if_neg fun y => z y.2]
        exact g8 j (by omega)
    · try simp (disch := first | omega | assumption) only [lt_e, bn_s, ck_t, nk0, nk1, nk_b, bI_t, bI_f, L_0, L_1, L_2, L_3, L_4, L_5, L_6, L_7, L_8, L_9, L_10, L_11, L_12, L_15, L_20, L_25, L_30, L_45, L_60, L_65, L_69, L_74, L_79, L_84, L_85, L_86, L_99, L_100, L_255, L_300, L_356, L_900, L_1424, L_1425, L_1489, L_1510, L_9999, L_10000, nI_add, nI_mul, u_lt_t, u_lt_f, u_le_t, u_le_f, u_eq_t, u_eq_f, u_mlt, u_ltm, u_eqm, u_meq, u_mle, u_b0, u_b1, u_ix, u_cl, u_sub, u_suc, u_z0, u_0m, cI_0, cI_s, rI_e, rI_k, rI_j, rI_l, rL_e, rL_k, rL_j, rL_i, told11, none11, refuse12, no11q, no12q, yes11q, if_true, if_false, ite_true, ite_false, ne_eq, not_true_eq_false, not_false_eq_true, Classical.not_not, Bool.not_eq_true, Bool.not_eq_false, reduceCtorEq, Nat.add_zero, Nat.zero_add, Nat.mul_zero, and_self, and_true, true_and, Bool.true_eq_false, Bool.false_eq_true, eq_self]
      exact g25
    · try simp (disch := first | omega | assumption) only [lt_e, bn_s, ck_t, nk0, nk1, nk_b, bI_t, bI_f, L_0, L_1, L_2, L_3, L_4, L_5, L_6, L_7, L_8, L_9, L_10, L_11, L_12, L_15, L_20, L_25, L_30, L_45, L_60, L_65, L_69, L_74, L_79, L_84, L_85, L_86, L_99, L_100, L_255, L_300, L_356, L_900, L_1424, L_1425, L_1489, L_1510, L_9999, L_10000, nI_add, nI_mul, u_lt_t, u_lt_f, u_le_t, u_le_f, u_eq_t, u_eq_f, u_mlt, u_ltm, u_eqm, u_meq, u_mle, u_b0, u_b1, u_ix, u_cl, u_sub, u_suc, u_z0, u_0m, cI_0, cI_s, rI_e, rI_k, rI_j, rI_l, rL_e, rL_k, rL_j, rL_i, told11, none11, refuse12, no11q, no12q, yes11q, if_true, if_false, ite_true, ite_false, ne_eq, not_true_eq_false, not_false_eq_true, Classical.not_not, Bool.not_eq_true, Bool.not_eq_false, reduceCtorEq, Nat.add_zero, Nat.zero_add, Nat.mul_zero, and_self, and_true, true_and, Bool.true_eq_false, Bool.false_eq_true, eq_self]
      exact g26
theorem lays_ok {N n S X P R m : Nat} {col cc on hp : Nat → Nat} {z : Int} {σ : Ms} (hN : 30 < N) (hW : WS n S cc on) (hM : MS 0 n S col on σ) (hcc : ∀ i, i < n → cc i = if P.testBit i = true then (if R.testBit i = true then 1 else 0) else col i) (hX : X < 2 ^ 31) (hP : P < 2 ^ 31) (hR : R < 2 ^ 31) (hWh : WH m hp) (hMh : MH 0 m hp σ) (hz : σ.1 5 3 = Int32.ofInt z) (hz1 : -1000 ≤ z ∧ z ≤ 1000) : wp (F12_laysWorths N (nI X) (nI P) (nI R) σ) fun _ τ => LD n X cc on (hxo hp m) (z * 1048576) σ τ := by
  obtain ⟨e1, er⟩ := hMh.at0
  have hm := hWh.1
  unfold F12_laysWorths F12_laysWorths_b23
  rw [show ixb (3 : Int32) 1780 = true by decide, ck_t, show (3 : Int32).toNatClampNeg = 3 by decide, hz, zI_zL (by omega) (by omega), UNIT_z, zL_mul, lt_e, lt_e]
  refine wp_fx (fun k x => ∃ i τ, i + k = m ∧ x = (nI X, nI P, nI R, nI i, τ) ∧ (∀ j, τ.1 5 j = σ.1 5 j) ∧ τ.2 0 25 = zL (z * 1048576) ∧ τ.1 0 26 = nI (hxo hp i)) ?_ (n := m) (by omega) ⟨0, _, by omega, rfl, fun j => by try simp (disch := first | omega | assumption) only [lt_e, bn_s, ck_t, nk0, nk1, nk_b, bI_t, bI_f, L_0, L_1, L_2, L_3, L_4, L_5, L_6, L_7, L_8, L_9, L_10, L_11, L_12, L_15, L_20, L_25, L_30, L_45, L_60, L_65, L_69, L_74, L_79, L_84, L_85, L_86, L_99, L_100, L_255, L_300, L_356, L_900, L_1424, L_1425, L_1489, L_1510, L_9999, L_10000, nI_add, nI_mul, u_lt_t, u_lt_f, u_le_t, u_le_f, u_eq_t, u_eq_f, u_mlt, u_ltm, u_eqm, u_meq, u_mle, u_b0, u_b1, u_ix, u_cl, u_sub, u_suc, u_z0, u_0m, cI_0, cI_s, rI_e, rI_k, rI_j, rI_l, rL_e, rL_k, rL_j, rL_i, told11, none11, refuse12, no11q, no12q, yes11q, if_true, if_false, ite_true, ite_false, ne_eq, not_true_eq_false, not_false_eq_true, Classical.not_not, Bool.not_eq_true, Bool.not_eq_false, reduceCtorEq, Nat.add_zero, Nat.zero_add, Nat.mul_zero, and_self, and_true, true_and, Bool.true_eq_false, Bool.false_eq_true, eq_self], by try simp (disch := first | omega | assumption) only [lt_e, bn_s, ck_t, nk0, nk1, nk_b, bI_t, bI_f, L_0, L_1, L_2, L_3, L_4, L_5, L_6, L_7, L_8, L_9, L_10, L_11, L_12, L_15, L_20, L_25, L_30, L_45, L_60, L_65, L_69, L_74, L_79, L_84, L_85, L_86, L_99, L_100, L_255, L_300, L_356, L_900, L_1424, L_1425, L_1489, L_1510, L_9999, L_10000, nI_add, nI_mul, u_lt_t, u_lt_f, u_le_t, u_le_f, u_eq_t, u_eq_f, u_mlt, u_ltm, u_eqm, u_meq, u_mle, u_b0, u_b1, u_ix, u_cl, u_sub, u_suc, u_z0, u_0m, cI_0, cI_s, rI_e, rI_k, rI_j, rI_l, rL_e, rL_k, rL_j, rL_i, told11, none11, refuse12, no11q, no12q, yes11q, if_true, if_false, ite_true, ite_false, ne_eq, not_true_eq_false, not_false_eq_true, Classical.not_not, Bool.not_eq_true, Bool.not_eq_false, reduceCtorEq, Nat.add_zero, Nat.zero_add, Nat.mul_zero, and_self, and_true, true_and, Bool.true_eq_false, Bool.false_eq_true, eq_self], by try simp (disch := first | omega | assumption) only [lt_e, bn_s, ck_t, nk0, nk1, nk_b, bI_t, bI_f, L_0, L_1, L_2, L_3, L_4, L_5, L_6, L_7, L_8, L_9, L_10, L_11, L_12, L_15, L_20, L_25, L_30, L_45, L_60, L_65, L_69, L_74, L_79, L_84, L_85, L_86, L_99, L_100, L_255, L_300, L_356, L_900, L_1424, L_1425, L_1489, L_1510, L_9999, L_10000, nI_add, nI_mul, u_lt_t, u_lt_f, u_le_t, u_le_f, u_eq_t, u_eq_f, u_mlt, u_ltm, u_eqm, u_meq, u_mle, u_b0, u_b1, u_ix, u_cl, u_sub, u_suc, u_z0, u_0m, cI_0, cI_s, rI_e, rI_k, rI_j, rI_l, rL_e, rL_k, rL_j, rL_i, told11, none11, refuse12, no11q, no12q, yes11q, if_true, if_false, ite_true, ite_false, ne_eq, not_true_eq_false, not_false_eq_true, Classical.not_not, Bool.not_eq_true, Bool.not_eq_false, reduceCtorEq, Nat.add_zero, Nat.zero_add, Nat.mul_zero, and_self, and_true, true_and, Bool.true_eq_false, Bool.false_eq_true, eq_self]; rfl⟩
  rintro k c _ ⟨i, τ, hi, rfl, g5, g25, g26⟩ hc
  simp only
  unfold F12_laysWorths_b23B
  rw [show ixb (1 : Int32) 1780 = true by decide, ck_t, show (1 : Int32).toNatClampNeg = 1 by decide, g5, e1]
  by_cases q : m ≤ i
  · have ei : i = m := by omega
    subst ei
    rw [if_pos (nI_le (Nat.le_refl _) (by omega))]
    exact lays_b62 hN hW hM hcc hX hP hR g5 g25 g26
  · rw [if_neg (nI_ge (by omega) (by omega)), show (65 : Int32) = nI 65 from rfl, nI_add, u_ix (show 65 + i < 1780 by omega) (by omega), ck_t, lt_e, u_cl (by omega), g5, er i (by omega), g26, nx_xor]
    first | rw [nI_1] | rw [nI_add] | skip
    exact hc (k - 1) _ (by omega) ⟨i + 1, _, by omega, rfl, fun j => by try simp (disch := first | omega | assumption) only [lt_e, bn_s, ck_t, nk0, nk1, nk_b, bI_t, bI_f, L_0, L_1, L_2, L_3, L_4, L_5, L_6, L_7, L_8, L_9, L_10, L_11, L_12, L_15, L_20, L_25, L_30, L_45, L_60, L_65, L_69, L_74, L_79, L_84, L_85, L_86, L_99, L_100, L_255, L_300, L_356, L_900, L_1424, L_1425, L_1489, L_1510, L_9999, L_10000, nI_add, nI_mul, u_lt_t, u_lt_f, u_le_t, u_le_f, u_eq_t, u_eq_f, u_mlt, u_ltm, u_eqm, u_meq, u_mle, u_b0, u_b1, u_ix, u_cl, u_sub, u_suc, u_z0, u_0m, cI_0, cI_s, rI_e, rI_k, rI_j, rI_l, rL_e, rL_k, rL_j, rL_i, told11, none11, refuse12, no11q, no12q, yes11q, if_true, if_false, ite_true, ite_false, ne_eq, not_true_eq_false, not_false_eq_true, Classical.not_not, Bool.not_eq_true, Bool.not_eq_false, reduceCtorEq, Nat.add_zero, Nat.zero_add, Nat.mul_zero, and_self, and_true, true_and, Bool.true_eq_false, Bool.false_eq_true, eq_self, g5], g25, by try simp (disch := first | omega | assumption) only [lt_e, bn_s, ck_t, nk0, nk1, nk_b, bI_t, bI_f, L_0, L_1, L_2, L_3, L_4, L_5, L_6, L_7, L_8, L_9, L_10, L_11, L_12, L_15, L_20, L_25, L_30, L_45, L_60, L_65, L_69, L_74, L_79, L_84, L_85, L_86, L_99, L_100, L_255, L_300, L_356, L_900, L_1424, L_1425, L_1489, L_1510, L_9999, L_10000, nI_add, nI_mul, u_lt_t, u_lt_f, u_le_t, u_le_f, u_eq_t, u_eq_f, u_mlt, u_ltm, u_eqm, u_meq, u_mle, u_b0, u_b1, u_ix, u_cl, u_sub, u_suc, u_z0, u_0m, cI_0, cI_s, rI_e, rI_k, rI_j, rI_l, rL_e, rL_k, rL_j, rL_i, told11, none11, refuse12, no11q, no12q, yes11q, if_true, if_false, ite_true, ite_false, ne_eq, not_true_eq_false, not_false_eq_true, Classical.not_not, Bool.not_eq_true, Bool.not_eq_false, reduceCtorEq, Nat.add_zero, Nat.zero_add, Nat.mul_zero, and_self, and_true, true_and, Bool.true_eq_false, Bool.false_eq_true, eq_self]; rfl⟩
/-- the model weighs the hedge as it stands -/
theorem laysNow_ok {N n S m : Nat} {col on hp : Nat → Nat} {z : Int} {σ : Ms} (hN : 30 < N) (hW : WS n S col on) (hM : MS 0 n S col on σ) (hWh : WH m hp) (hMh : MH 0 m hp σ) (hz : σ.1 5 3 = Int32.ofInt z) (hz1 : -1000 ≤ z ∧ z ≤ 1000) : wp (F12_laysNow N σ) fun _ τ => LD n S col on (hxo hp m) (z * 1048576) σ τ := by
  unfold F12_laysNow
  rw [standing_ok (by omega) hW hM, bn_s]
  refine wp_bn.mpr (wp_mono (lays_ok (P := 0) (R := 0) (cc := col) hN hW hM (fun i _ => by rw [Nat.zero_testBit]; rfl) (set_lt hW.2.1 hW.1) (by decide) (by decide) hWh hMh hz hz1) fun _ τ h => ?_)
  exact wp_some.mpr h
/-- the greatest divisor -/
def fin : Nat → Nat → Nat → Prop
  | 0, _, y => y = 0
  | t + 1, x, y => y = 0 ∨ fin t y (x % y)
theorem fin_0 : ∀ t x, fin t x 0
  | 0, _ => rfl
  | _ + 1, _ => Or.inl rfl
theorem fin_mono : ∀ {t u x y : Nat}, fin t x y → t ≤ u → fin u x y
  | 0, u, x, y, h, _ => by
    have e : y = 0 := h
    rw [e]
    exact fin_0 u x
  | t + 1, 0, _, _, _, hu => absurd hu (by omega)
  | t + 1, u + 1, x, y, h, hu => by
    rcases h with h | h
    · exact Or.inl h
    · exact Or.inr (fin_mono h (by omega))
theorem fin_pow : ∀ k x y : Nat, y < 2 ^ k → fin (2 * k) x y
  | 0, x, y, h => by
    show y = 0
    omega
  | k + 1, x, y, h => by
    show fin (2 * k + 1 + 1) x y
    by_cases hy : y = 0
    · exact Or.inl hy
    refine Or.inr ?_
    by_cases hr : x % y = 0
    · exact Or.inl hr
    refine Or.inr (fin_pow k _ _ ?_)
    have h1 : x % y < y := Nat.mod_lt _ (by omega)
    have h2 : y % (x % y) < x % y := Nat.mod_lt _ (by omega)
    have h3 : y = (x % y) * (y / (x % y)) + y % (x % y) := (Nat.div_add_mod _ _).symm
    have h4 : 1 ≤ y / (x % y) := (Nat.one_le_div_iff (by omega)).mpr (by omega)
    have h5 : (x % y) * 1 ≤ (x % y) * (y / (x % y)) := Nat.mul_le_mul_left _ h4
    have e : 2 ^ (k + 1) = 2 * 2 ^ k := by rw [Nat.pow_succ, Nat.mul_comm]
    omega
theorem zL_divn {a b : Nat} (ha : a < 2 ^ 62) (hb : b < 2 ^ 62) (h0 : 0 < b) : zL a / zL b = zL ((a / b : Nat) : Int) := by
  apply Int64.toInt_inj.mp
  have hle : a / b ≤ a := Nat.div_le_self a b
  have hnn : (0 : Int) ≤ (a : Int) / (b : Int) := Int.ediv_nonneg (by omega) (by omega)
  rw [Int64.toInt_div, zL_int (by omega) (by omega), zL_int (by omega) (by omega), zL_int (by omega) (by omega), Int.tdiv_eq_ediv_of_nonneg (by omega), ← Int.natCast_ediv]
  exact Int.bmod_eq_of_le (by omega) (by omega)
theorem zL_rem {a b : Nat} (ha : a < 2 ^ 62) (hb : b < 2 ^ 62) (h0 : 0 < b) : zL a - zL a / zL b * zL b = zL ((a % b : Nat) : Int) := by
  rw [zL_divn ha hb h0, zL_mul, zL_sub]
  congr 1
  have : a = b * (a / b) + a % b := (Nat.div_add_mod a b).symm
  have e : ((a / b : Nat) : Int) * (b : Int) = ((b * (a / b) : Nat) : Int) := by rw [Int.natCast_mul, Int.mul_comm]
  rw [e]
  omega
theorem zL_ne0 {b : Nat} (hb : b < 2 ^ 62) (h0 : 0 < b) : (!(zL (b : Int) == 0)) = true := by
  have : zL (b : Int) ≠ 0 := fun z => by
    rw [Z0_z] at z
    have := (zL_inj (by omega) (by omega)).mp z
    omega
  simp [this]
theorem cd_ok {N a b : Nat} (hN : 100 < N) (ha : a < 2 ^ 62) (hb : b < 2 ^ 50) (σ : Ms) : F3_commonDivisor N (zL a) (zL b) σ = some (zL ((Nat.gcd a b : Nat) : Int), σ) := by
  refine wp_eq ?_
  unfold F3_commonDivisor F3_commonDivisor_b9
  refine wp_fx (fun k q => ∃ i x y, i + k = 100 ∧ q = (zL ((x : Nat) : Int), zL ((y : Nat) : Int), nI i, σ) ∧ Nat.gcd x y = Nat.gcd a b ∧ fin k x y ∧ x < 2 ^ 62 ∧ y < 2 ^ 62) ?_ (n := 100) (by omega) ⟨0, a, b, rfl, rfl, rfl, fin_mono (fin_pow 50 a b hb) (by omega), ha, by omega⟩
  rintro k c _ ⟨i, x, y, hi, rfl, hg, hf, hx, hy⟩ hc
  simp only
  unfold F3_commonDivisor_b9B
  have ex : y = 0 → x = Nat.gcd a b := fun z => by rw [← hg, z, Nat.gcd_zero_right]
  by_cases q : 100 ≤ i
  · have ek : k = 0 := by omega
    have ei : i = 100 := by omega
    subst ek
    subst ei
    rw [if_pos (by decide)]
    exact wp_some.mpr ⟨by rw [ex hf], rfl⟩
  · rw [if_neg (by exact fun z => q ((lit_le (c := 100) 100 rfl (by omega) (by omega)).mp z)), Z0_z]
    by_cases h0 : y = 0
    · rw [if_pos ((zL_le (by omega) (by omega)).mpr (by omega))]
      exact wp_some.mpr ⟨by rw [ex h0], rfl⟩
    · rw [if_neg (by exact fun z => h0 (by have := (zL_le (by omega) (by omega)).mp z; omega)), ← Z0_z, zL_ne0 hy (by omega), ck_t, lt_e, zL_rem hx hy (by omega)]
      obtain ⟨k, rfl⟩ : ∃ k', k = k' + 1 := ⟨k - 1, by omega⟩
      rw [nI_1]
      refine hc k _ (by omega) ⟨i + 1, y, x % y, by omega, rfl, ?_, ?_, hy, ?_⟩
      · rw [← hg, Nat.gcd_comm x y, Nat.gcd_rec y x, Nat.gcd_comm]
      · rcases hf with hf | hf
        · exact absurd hf h0
        · exact hf
      · have := Nat.mod_lt x (show y > 0 by omega)
        omega
theorem zL_abs {a : Int} (h1 : -4611686018427387904 < a) (h2 : a < 4611686018427387904) (σ : Ms) : FJ9_abs_067f4 (zL a) σ = some (zL (a.natAbs : Int), σ) := by
  unfold FJ9_abs_067f4
  rw [Z0_z]
  by_cases h : 0 ≤ a
  · rw [if_pos ((zL_ge (by omega) (by omega)).mpr h), show (a.natAbs : Int) = a by omega]
  · rw [if_neg (by exact fun z => h ((zL_ge (by omega) (by omega)).mp z)), zL_neg, show (a.natAbs : Int) = -a by omega]
theorem zL_divz {a : Int} {b : Nat} (h1 : -4611686018427387904 < a) (h2 : a < 4611686018427387904) (hb : b < 2 ^ 62) (h0 : 0 < b) : zL a / zL b = zL (a.tdiv b) := by
  apply Int64.toInt_inj.mp
  have hle : (a.tdiv b).natAbs ≤ a.natAbs := by
    rw [Int.natAbs_tdiv]
    exact Nat.div_le_self _ _
  rw [Int64.toInt_div, zL_int (by omega) (by omega), zL_int (by omega) (by omega), zL_int (by omega) (by omega)]
  exact Int.bmod_eq_of_le (by omega) (by omega)
/-- a fraction in its least terms -/
def frT (T : Int) (B : Nat) : Int := T.tdiv (Nat.gcd T.natAbs B : Nat)
def frB (T : Int) (B : Nat) : Nat := B / Nat.gcd T.natAbs B
theorem fr_scale (T : Int) (B c : Nat) (hc : 0 < c) : frT (c * T) (c * B) = frT T B ∧ frB (c * T) (c * B) = frB T B := by
  have e : Nat.gcd ((c : Int) * T).natAbs (c * B) = c * Nat.gcd T.natAbs B := by
    rw [Int.natAbs_mul, Int.natAbs_natCast, Nat.gcd_mul_left]
  unfold frT frB
  rw [e]
  refine ⟨?_, Nat.mul_div_mul_left _ _ hc⟩
  rw [Int.natCast_mul, Int.mul_tdiv_mul_of_pos _ _ (by omega)]
theorem fr11 {N B : Nat} {T : Int} (hN : 100 < N) (h1 : -4611686018427387904 < T) (h2 : T < 4611686018427387904) (hB : B < 2 ^ 50) (h0 : 0 < B) (σ : Ms) : F11_tellFraction N (zL T) (zL B) σ = some (nI 1, sI (sL (sL σ 11 18 (zL (frT T B))) 11 19 (zL (frB T B))) 11 17 (nI 0)) := by
  have hg : 0 < Nat.gcd T.natAbs B := Nat.gcd_pos_of_pos_right _ h0
  have hg2 : Nat.gcd T.natAbs B ≤ B := Nat.gcd_le_right _ h0
  unfold F11_tellFraction F11_tellFraction_b33
  rw [zL_abs h1 h2, bn_s, cd_ok hN (by omega) hB, bn_s, Z0_z, if_neg (by exact fun z => by have := (zL_le (by omega) (by omega)).mp z; omega), ← Z0_z, zL_ne0 (by omega) hg, ck_t, lt_e, ck_t, lt_e, zL_divz h1 h2 (by omega) hg, zL_divn (by omega) (by omega) hg, yes11q, bn_s, show nkB (nI 1) = true by decide, ck_t]
  rfl
theorem fr12 {N B : Nat} {T : Int} (hN : 100 < N) (h1 : -4611686018427387904 < T) (h2 : T < 4611686018427387904) (hB : B < 2 ^ 50) (h0 : 0 < B) (σ : Ms) : F12_fraction N (zL T) (zL B) σ = some (nI 1, sL (sL σ 0 2 (zL (frT T B))) 0 3 (zL (frB T B))) := by
  have hg : 0 < Nat.gcd T.natAbs B := Nat.gcd_pos_of_pos_right _ h0
  have hg2 : Nat.gcd T.natAbs B ≤ B := Nat.gcd_le_right _ h0
  unfold F12_fraction
  rw [zL_abs h1 h2, bn_s]
  refine wp_eq ?_
  unfold F12_fraction_b9
  refine wp_fx (fun k q => ∃ x y, q = (zL T, zL (B : Int), zL ((x : Nat) : Int), zL ((y : Nat) : Int), σ) ∧ Nat.gcd x y = Nat.gcd T.natAbs B ∧ fin k x y ∧ x < 2 ^ 62 ∧ y < 2 ^ 62) ?_ (n := 100) (by omega) ⟨T.natAbs, B, rfl, rfl, fin_mono (fin_pow 50 _ B hB) (by omega), by omega, by omega⟩
  rintro k c _ ⟨x, y, rfl, hgg, hf, hx, hy⟩ hc
  simp only
  unfold F12_fraction_b9B
  rw [Z0_z]
  by_cases hy0 : y = 0
  · have e : x = Nat.gcd T.natAbs B := by rw [← hgg, hy0, Nat.gcd_zero_right]
    rw [if_pos ((zL_eq (by omega) (by omega)).mpr (by omega)), e, ← Z0_z, zL_ne0 (by omega) hg, ck_t, lt_e, ck_t, lt_e, zL_divz h1 h2 (by omega) hg, zL_divn (by omega) (by omega) hg]
    exact wp_some.mpr ⟨rfl, rfl⟩
  · rw [if_neg (by exact fun z => hy0 (by have := (zL_eq (by omega) (by omega)).mp z; omega)), ← Z0_z, zL_ne0 hy (by omega), ck_t, lt_e, zL_rem hx hy (by omega)]
    cases k with
    | zero => exact absurd hf hy0
    | succ k =>
      refine hc k _ (by omega) ⟨y, x % y, rfl, ?_, ?_, hy, ?_⟩
      · rw [← hgg, Nat.gcd_comm x y, Nat.gcd_rec y x, Nat.gcd_comm]
      · rcases hf with hf | hf
        · exact absurd hf hy0
        · exact hf
      · have := Nat.mod_lt x (show y > 0 by omega)
        omega
/-- two fractions, one told by the class, one by the model -/
theorem fr_misc {T T' : Int} {B B' : Nat} {σ : Ms} (h : frT T B = frT T' B' ∧ frB T B = frB T' B') (h1 : σ.2 11 18 = zL (frT T B)) (h2 : σ.2 11 19 = zL (frB T B)) (h3 : σ.2 0 2 = zL (frT T' B')) (h4 : σ.2 0 3 = zL (frB T' B')) (h5 : σ.1 11 17 = σ.1 0 0) : I_misc σ := ⟨h5, by rw [h1, h3, h.1], by rw [h2, h4, h.2]⟩
