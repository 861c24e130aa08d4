theorem ix_or (p : Int32) (n : Nat) (hn : n < 2147483648) : (∃ i, i < n ∧ p = nI i) ∨ ¬ ∃ i, i < n ∧ p = nI i := Classical.em _
theorem isInN {i c : Nat} {C : Int64} (hC : C.toInt = (c : Int)) (hi : i < 2147483648) (σ : Ms) : F12_isIn (nI i).toInt64 0 C σ = some (bI (decide (i ≤ c)), σ) := by
  rw [isIn_ok, Int32.toInt_toInt64, nI_toInt hi, hC, show (0 : Int64).toInt = 0 from rfl]
  by_cases h : i ≤ c
  · rw [if_pos ⟨by omega, by omega⟩, decide_eq_true h]; rfl
  · rw [if_neg (by omega), decide_eq_false h]; rfl
theorem isIn_neg {p : Int32} {C : Int64} (hp : p < 0) (σ : Ms) : F12_isIn p.toInt64 0 C σ = some (nI 0, σ) := by
  have h1 : p.toInt < 0 := by simpa using Int32.lt_iff_toInt_lt.mp hp
  rw [isIn_ok, Int32.toInt_toInt64, show (0 : Int64).toInt = 0 from rfl, if_neg (by omega)]
  rfl
theorem isInO {p : Int32} {c : Nat} {C : Int64} (hC : C.toInt = (c : Int)) (hp : ¬ ∃ i, i < c + 1 ∧ p = nI i) (σ : Ms) : F12_isIn p.toInt64 0 C σ = some (nI 0, σ) := by
  by_cases h0 : p < 0
  · exact isIn_neg h0 σ
  obtain ⟨j, hj, rfl⟩ := nI_of h0
  rw [isInN hC hj, decide_eq_false fun z => hp ⟨j, by omega, rfl⟩]
  rfl
theorem isSprigAt_in {n i : Nat} {σ : Ms} (hn : n < 2147483648) (e : σ.1 5 0 = nI n) (hi : i < n) : F12_isSprigAt (nI i) σ = some (nI 1, σ) := by
  unfold F12_isSprigAt
  rw [show ixb (0 : Int32) 1780 = true by decide, ck_t, show (0 : Int32).toNatClampNeg = 0 by decide, e]
  rcases isIn_ix (n := n) hn (nI i) σ with ⟨_, -, -, q⟩ | ⟨q, -⟩
  · rw [q, bn_s, nk1, ck_t]; rfl
  · exact absurd ⟨i, hi, rfl⟩ q
theorem isSprigAt_out {n : Nat} {p : Int32} {σ : Ms} (hn : n < 2147483648) (e : σ.1 5 0 = nI n) (hp : ¬ ∃ i, i < n ∧ p = nI i) : F12_isSprigAt p σ = some (nI 0, σ) := by
  unfold F12_isSprigAt
  rw [show ixb (0 : Int32) 1780 = true by decide, ck_t, show (0 : Int32).toNatClampNeg = 0 by decide, e]
  rcases isIn_ix (n := n) hn p σ with ⟨i, hi, hp', -⟩ | ⟨-, q⟩
  · exact absurd ⟨i, hi, hp'⟩ hp
  · rw [q, bn_s, nk0, ck_t]; rfl
theorem isHeapAt_in {n i : Nat} {σ : Ms} (hn : n < 2147483648) (e : σ.1 5 1 = nI n) (hi : i < n) : F12_isHeapAt (nI i) σ = some (nI 1, σ) := by
  unfold F12_isHeapAt
  rw [show ixb (1 : Int32) 1780 = true by decide, ck_t, show (1 : Int32).toNatClampNeg = 1 by decide, e]
  rcases isIn_ix (n := n) hn (nI i) σ with ⟨_, -, -, q⟩ | ⟨q, -⟩
  · rw [q, bn_s, nk1, ck_t]; rfl
  · exact absurd ⟨i, hi, rfl⟩ q
theorem isHeapAt_out {n : Nat} {p : Int32} {σ : Ms} (hn : n < 2147483648) (e : σ.1 5 1 = nI n) (hp : ¬ ∃ i, i < n ∧ p = nI i) : F12_isHeapAt p σ = some (nI 0, σ) := by
  unfold F12_isHeapAt
  rw [show ixb (1 : Int32) 1780 = true by decide, ck_t, show (1 : Int32).toNatClampNeg = 1 by decide, e]
  rcases isIn_ix (n := n) hn p σ with ⟨i, hi, hp', -⟩ | ⟨-, q⟩
  · exact absurd ⟨i, hi, hp'⟩ hp
  · rw [q, bn_s, nk0, ck_t]; rfl
theorem isBetAt_in {n i : Nat} {σ : Ms} (hn : n < 2147483648) (e : σ.1 5 2 = nI n) (hi : i < n) : F12_isBetAt (nI i) σ = some (nI 1, σ) := by
  unfold F12_isBetAt
  rw [show ixb (2 : Int32) 1780 = true by decide, ck_t, show (2 : Int32).toNatClampNeg = 2 by decide, e]
  rcases isIn_ix (n := n) hn (nI i) σ with ⟨_, -, -, q⟩ | ⟨q, -⟩
  · rw [q, bn_s, nk1, ck_t]; rfl
  · exact absurd ⟨i, hi, rfl⟩ q
theorem isBetAt_out {n : Nat} {p : Int32} {σ : Ms} (hn : n < 2147483648) (e : σ.1 5 2 = nI n) (hp : ¬ ∃ i, i < n ∧ p = nI i) : F12_isBetAt p σ = some (nI 0, σ) := by
  unfold F12_isBetAt
  rw [show ixb (2 : Int32) 1780 = true by decide, ck_t, show (2 : Int32).toNatClampNeg = 2 by decide, e]
  rcases isIn_ix (n := n) hn p σ with ⟨i, hi, hp', -⟩ | ⟨-, q⟩
  · exact absurd ⟨i, hi, hp'⟩ hp
  · rw [q, bn_s, nk0, ck_t]; rfl
theorem hasBet_in {h n i : Nat} {σ : Ms} (hn : n ≤ 5) (e : σ.1 h 8 = nI n) (hi : i < n) : F0_hasBet h (nI i) σ = some (nI 1, σ) := by
  unfold F0_hasBet
  simp (disch := first | omega | assumption) only [lt_e, bn_s, ck_t, nk0, nk1, nk_b, bI_t, bI_f, L_0, L_1, L_2, L_3, L_4, L_5, L_6, L_7, L_8, L_9, L_10, L_11, L_12, L_15, L_20, L_25, L_30, L_45, L_60, L_65, L_69, L_74, L_79, L_84, L_85, L_86, L_99, L_100, L_255, L_300, L_356, L_900, L_1424, L_1425, L_1489, L_1510, L_9999, L_10000, nI_add, nI_mul, u_lt_t, u_lt_f, u_le_t, u_le_f, u_eq_t, u_eq_f, u_mlt, u_ltm, u_eqm, u_meq, u_mle, u_b0, u_b1, u_ix, u_cl, u_sub, u_suc, u_z0, u_0m, cI_0, cI_s, rI_e, rI_k, rI_j, rI_l, rL_e, rL_k, rL_j, rL_i, told11, none11, refuse12, no11q, no12q, yes11q, if_true, if_false, ite_true, ite_false, ne_eq, not_true_eq_false, not_false_eq_true, Classical.not_not, Bool.not_eq_true, Bool.not_eq_false, reduceCtorEq, Nat.add_zero, Nat.zero_add, Nat.mul_zero, and_self, and_true, true_and, Bool.true_eq_false, Bool.false_eq_true, eq_self, e]
theorem hasBet_out {h n : Nat} {p : Int32} {σ : Ms} (hn : n ≤ 5) (e : σ.1 h 8 = nI n) (hp : ¬ ∃ i, i < n ∧ p = nI i) : F0_hasBet h p σ = some (nI 0, σ) := by
  unfold F0_hasBet
  by_cases h0 : p < 0
  · rw [if_pos h0]; rfl
  obtain ⟨j, hj, rfl⟩ := nI_of h0
  have : n ≤ j := Nat.le_of_not_lt fun z => hp ⟨j, z, rfl⟩
  simp (disch := first | omega | assumption) only [lt_e, bn_s, ck_t, nk0, nk1, nk_b, bI_t, bI_f, L_0, L_1, L_2, L_3, L_4, L_5, L_6, L_7, L_8, L_9, L_10, L_11, L_12, L_15, L_20, L_25, L_30, L_45, L_60, L_65, L_69, L_74, L_79, L_84, L_85, L_86, L_99, L_100, L_255, L_300, L_356, L_900, L_1424, L_1425, L_1489, L_1510, L_9999, L_10000, nI_add, nI_mul, u_lt_t, u_lt_f, u_le_t, u_le_f, u_eq_t, u_eq_f, u_mlt, u_ltm, u_eqm, u_meq, u_mle, u_b0, u_b1, u_ix, u_cl, u_sub, u_suc, u_z0, u_0m, cI_0, cI_s, rI_e, rI_k, rI_j, rI_l, rL_e, rL_k, rL_j, rL_i, told11, none11, refuse12, no11q, no12q, yes11q, if_true, if_false, ite_true, ite_false, ne_eq, not_true_eq_false, not_false_eq_true, Classical.not_not, Bool.not_eq_true, Bool.not_eq_false, reduceCtorEq, Nat.add_zero, Nat.zero_add, Nat.mul_zero, and_self, and_true, true_and, Bool.true_eq_false, Bool.false_eq_true, eq_self, e]
theorem isSide_in {s : Nat} (hs : s < 2) (σ : Ms) : F11_isSide (nI s) σ = some (nI 1, σ) := by
  unfold F11_isSide F11_isSide_b9
  by_cases z : s = 0
  · simp (disch := first | omega | assumption) only [lt_e, bn_s, ck_t, nk0, nk1, nk_b, bI_t, bI_f, L_0, L_1, L_2, L_3, L_4, L_5, L_6, L_7, L_8, L_9, L_10, L_11, L_12, L_15, L_20, L_25, L_30, L_45, L_60, L_65, L_69, L_74, L_79, L_84, L_85, L_86, L_99, L_100, L_255, L_300, L_356, L_900, L_1424, L_1425, L_1489, L_1510, L_9999, L_10000, nI_add, nI_mul, u_lt_t, u_lt_f, u_le_t, u_le_f, u_eq_t, u_eq_f, u_mlt, u_ltm, u_eqm, u_meq, u_mle, u_b0, u_b1, u_ix, u_cl, u_sub, u_suc, u_z0, u_0m, cI_0, cI_s, rI_e, rI_k, rI_j, rI_l, rL_e, rL_k, rL_j, rL_i, told11, none11, refuse12, no11q, no12q, yes11q, if_true, if_false, ite_true, ite_false, ne_eq, not_true_eq_false, not_false_eq_true, Classical.not_not, Bool.not_eq_true, Bool.not_eq_false, reduceCtorEq, Nat.add_zero, Nat.zero_add, Nat.mul_zero, and_self, and_true, true_and, Bool.true_eq_false, Bool.false_eq_true, eq_self]
  · simp (disch := first | omega | assumption) only [lt_e, bn_s, ck_t, nk0, nk1, nk_b, bI_t, bI_f, L_0, L_1, L_2, L_3, L_4, L_5, L_6, L_7, L_8, L_9, L_10, L_11, L_12, L_15, L_20, L_25, L_30, L_45, L_60, L_65, L_69, L_74, L_79, L_84, L_85, L_86, L_99, L_100, L_255, L_300, L_356, L_900, L_1424, L_1425, L_1489, L_1510, L_9999, L_10000, nI_add, nI_mul, u_lt_t, u_lt_f, u_le_t, u_le_f, u_eq_t, u_eq_f, u_mlt, u_ltm, u_eqm, u_meq, u_mle, u_b0, u_b1, u_ix, u_cl, u_sub, u_suc, u_z0, u_0m, cI_0, cI_s, rI_e, rI_k, rI_j, rI_l, rL_e, rL_k, rL_j, rL_i, told11, none11, refuse12, no11q, no12q, yes11q, if_true, if_false, ite_true, ite_false, ne_eq, not_true_eq_false, not_false_eq_true, Classical.not_not, Bool.not_eq_true, Bool.not_eq_false, reduceCtorEq, Nat.add_zero, Nat.zero_add, Nat.mul_zero, and_self, and_true, true_and, Bool.true_eq_false, Bool.false_eq_true, eq_self]
theorem ne_0 {p : Int32} (hp : ¬ ∃ s, s < 2 ∧ p = nI s) : ¬ p = 0 := fun z => hp ⟨0, by omega, z⟩
theorem ne_1 {p : Int32} (hp : ¬ ∃ s, s < 2 ∧ p = nI s) : ¬ p = 1 := fun z => hp ⟨1, by omega, z⟩
theorem isSide_out {p : Int32} (hp : ¬ ∃ s, s < 2 ∧ p = nI s) (σ : Ms) : F11_isSide p σ = some (nI 0, σ) := by
  unfold F11_isSide
  rw [if_neg (ne_0 hp), if_pos (ne_1 hp)]
  rfl
theorem isSideAt_in {s : Nat} (hs : s < 2) (σ : Ms) : F12_isSideAt (nI s) σ = some (nI 1, σ) := by
  unfold F12_isSideAt F12_isSideAt_b9
  by_cases z : s = 0
  · simp (disch := first | omega | assumption) only [lt_e, bn_s, ck_t, nk0, nk1, nk_b, bI_t, bI_f, L_0, L_1, L_2, L_3, L_4, L_5, L_6, L_7, L_8, L_9, L_10, L_11, L_12, L_15, L_20, L_25, L_30, L_45, L_60, L_65, L_69, L_74, L_79, L_84, L_85, L_86, L_99, L_100, L_255, L_300, L_356, L_900, L_1424, L_1425, L_1489, L_1510, L_9999, L_10000, nI_add, nI_mul, u_lt_t, u_lt_f, u_le_t, u_le_f, u_eq_t, u_eq_f, u_mlt, u_ltm, u_eqm, u_meq, u_mle, u_b0, u_b1, u_ix, u_cl, u_sub, u_suc, u_z0, u_0m, cI_0, cI_s, rI_e, rI_k, rI_j, rI_l, rL_e, rL_k, rL_j, rL_i, told11, none11, refuse12, no11q, no12q, yes11q, if_true, if_false, ite_true, ite_false, ne_eq, not_true_eq_false, not_false_eq_true, Classical.not_not, Bool.not_eq_true, Bool.not_eq_false, reduceCtorEq, Nat.add_zero, Nat.zero_add, Nat.mul_zero, and_self, and_true, true_and, Bool.true_eq_false, Bool.false_eq_true, eq_self]
  · simp (disch := first | omega | assumption) only [lt_e, bn_s, ck_t, nk0, nk1, nk_b, bI_t, bI_f, L_0, L_1, L_2, L_3, L_4, L_5, L_6, L_7, L_8, L_9, L_10, L_11, L_12, L_15, L_20, L_25, L_30, L_45, L_60, L_65, L_69, L_74, L_79, L_84, L_85, L_86, L_99, L_100, L_255, L_300, L_356, L_900, L_1424, L_1425, L_1489, L_1510, L_9999, L_10000, nI_add, nI_mul, u_lt_t, u_lt_f, u_le_t, u_le_f, u_eq_t, u_eq_f, u_mlt, u_ltm, u_eqm, u_meq, u_mle, u_b0, u_b1, u_ix, u_cl, u_sub, u_suc, u_z0, u_0m, cI_0, cI_s, rI_e, rI_k, rI_j, rI_l, rL_e, rL_k, rL_j, rL_i, told11, none11, refuse12, no11q, no12q, yes11q, if_true, if_false, ite_true, ite_false, ne_eq, not_true_eq_false, not_false_eq_true, Classical.not_not, Bool.not_eq_true, Bool.not_eq_false, reduceCtorEq, Nat.add_zero, Nat.zero_add, Nat.mul_zero, and_self, and_true, true_and, Bool.true_eq_false, Bool.false_eq_true, eq_self]
theorem isSideAt_out {p : Int32} (hp : ¬ ∃ s, s < 2 ∧ p = nI s) (σ : Ms) : F12_isSideAt p σ = some (nI 0, σ) := by
  unfold F12_isSideAt
  rw [if_neg (ne_0 hp), if_pos (ne_1 hp)]
  rfl
/-- bets and score of a hedge h and of the model's block at B -/
def WB (k T : Nat) (bl br : Nat → Nat) (z : Int) : Prop := k ≤ 5 ∧ T < 2 ^ k ∧ (∀ i, i < k → bl i ≤ 20 ∧ br i ≤ 20 ∧ 0 < bl i + br i) ∧ z ≤ 20 * pc T 5 ∧ -(20 * pc T 5 : Int) ≤ z
def RB (h k T : Nat) (bl br : Nat → Nat) (z : Int) (σ : Ms) : Prop := σ.1 h 8 = nI k ∧ σ.1 h 9 = nI T ∧ σ.1 h 10 = Int32.ofInt z ∧ ∀ i, i < k → σ.1 (h + 4) i = nI (bl i) ∧ σ.1 (h + 5) i = nI (br i)
def MB (B k T : Nat) (bl br : Nat → Nat) (z : Int) (σ : Ms) : Prop := σ.1 5 (B + 2) = nI k ∧ σ.1 5 (B + 3) = Int32.ofInt z ∧ ∀ i, i < k → σ.1 5 (B + (69 + i)) = nI (bl i) ∧ σ.1 5 (B + (74 + i)) = nI (br i) ∧ σ.1 5 (B + (79 + i)) = bI (T.testBit i)
theorem MB.at0 {k T : Nat} {bl br : Nat → Nat} {z : Int} {σ : Ms} (h : MB 0 k T bl br z σ) : σ.1 5 2 = nI k ∧ σ.1 5 3 = Int32.ofInt z ∧ ∀ i, i < k → σ.1 5 (69 + i) = nI (bl i) ∧ σ.1 5 (74 + i) = nI (br i) ∧ σ.1 5 (79 + i) = bI (T.testBit i) := ⟨h.1, h.2.1, fun i hi => by have := h.2.2 i hi; rwa [Nat.zero_add, Nat.zero_add, Nat.zero_add] at this⟩
def I_sp (B h : Nat) (σ : Ms) : Prop := ∃ n S col on, WS n S col on ∧ RS h n S col on σ ∧ MS B n S col on σ
def I_bt (B h : Nat) (σ : Ms) : Prop := ∃ k T bl br z, WB k T bl br z ∧ RB h k T bl br z σ ∧ MB B k T bl br z σ
def I_ct (B h : Nat) (σ : Ms) : Prop := σ.1 h 11 = σ.1 5 (B + 4)
theorem taken_ok {N k T : Nat} {bl br : Nat → Nat} {z : Int} {σ : Ms} (hN : 20 < N) (hW : WB k T bl br z) (hM : MB 0 k T bl br z σ) : F12_taken N σ = some (nI T, σ) := by
  obtain ⟨hn, hS, -⟩ := hW
  obtain ⟨e, -, er⟩ := hM.at0
  refine wp_eq ?_
  unfold F12_taken F12_taken_b4
  refine wp_fx (fun m x => ∃ i, i + m = k ∧ x = (nI (pass (fun _ i => T.testBit i) i), nI i, σ)) ?_ (n := k) (by omega) ⟨0, by omega, rfl⟩
  rintro m c _ ⟨i, hi, rfl⟩ hc
  simp only
  unfold F12_taken_b4B
  by_cases q : k ≤ i
  · have ei : i = k := by omega
    subst ei
    simp (disch := first | omega | assumption) only [lt_e, bn_s, ck_t, nk0, nk1, nk_b, bI_t, bI_f, L_0, L_1, L_2, L_3, L_4, L_5, L_6, L_7, L_8, L_9, L_10, L_11, L_12, L_15, L_20, L_25, L_30, L_45, L_60, L_65, L_69, L_74, L_79, L_84, L_85, L_86, L_99, L_100, L_255, L_300, L_356, L_900, L_1424, L_1425, L_1489, L_1510, L_9999, L_10000, nI_add, nI_mul, u_lt_t, u_lt_f, u_le_t, u_le_f, u_eq_t, u_eq_f, u_mlt, u_ltm, u_eqm, u_meq, u_mle, u_b0, u_b1, u_ix, u_cl, u_sub, u_suc, u_z0, u_0m, cI_0, cI_s, rI_e, rI_k, rI_j, rI_l, rL_e, rL_k, rL_j, rL_i, told11, none11, refuse12, no11q, no12q, yes11q, if_true, if_false, ite_true, ite_false, ne_eq, not_true_eq_false, not_false_eq_true, Classical.not_not, Bool.not_eq_true, Bool.not_eq_false, reduceCtorEq, Nat.add_zero, Nat.zero_add, Nat.mul_zero, and_self, and_true, true_and, Bool.true_eq_false, Bool.false_eq_true, eq_self, e]
    exact wp_some.mpr ⟨by rw [pass_self hS], rfl⟩
  obtain ⟨-, -, es⟩ := er i (by omega)
  have go : ∀ v : Nat, v = pass (fun _ i => T.testBit i) (i + 1) → wp (c (nI v, nI (i + 1), σ)) fun r τ => r = nI T ∧ τ = σ := fun v hv => hc (m - 1) _ (by omega) ⟨i + 1, by omega, by rw [hv]⟩
  cases hb : T.testBit i
  · simp (disch := first | omega | assumption) only [lt_e, bn_s, ck_t, nk0, nk1, nk_b, bI_t, bI_f, L_0, L_1, L_2, L_3, L_4, L_5, L_6, L_7, L_8, L_9, L_10, L_11, L_12, L_15, L_20, L_25, L_30, L_45, L_60, L_65, L_69, L_74, L_79, L_84, L_85, L_86, L_99, L_100, L_255, L_300, L_356, L_900, L_1424, L_1425, L_1489, L_1510, L_9999, L_10000, nI_add, nI_mul, u_lt_t, u_lt_f, u_le_t, u_le_f, u_eq_t, u_eq_f, u_mlt, u_ltm, u_eqm, u_meq, u_mle, u_b0, u_b1, u_ix, u_cl, u_sub, u_suc, u_z0, u_0m, cI_0, cI_s, rI_e, rI_k, rI_j, rI_l, rL_e, rL_k, rL_j, rL_i, told11, none11, refuse12, no11q, no12q, yes11q, if_true, if_false, ite_true, ite_false, ne_eq, not_true_eq_false, not_false_eq_true, Classical.not_not, Bool.not_eq_true, Bool.not_eq_false, reduceCtorEq, Nat.add_zero, Nat.zero_add, Nat.mul_zero, and_self, and_true, true_and, Bool.true_eq_false, Bool.false_eq_true, eq_self, e, es, hb]
    rw [u_shl0 i (by omega), fa_or]
    exact go _ (by rw [pass_no hb, Nat.or_zero])
  · simp (disch := first | omega | assumption) only [lt_e, bn_s, ck_t, nk0, nk1, nk_b, bI_t, bI_f, L_0, L_1, L_2, L_3, L_4, L_5, L_6, L_7, L_8, L_9, L_10, L_11, L_12, L_15, L_20, L_25, L_30, L_45, L_60, L_65, L_69, L_74, L_79, L_84, L_85, L_86, L_99, L_100, L_255, L_300, L_356, L_900, L_1424, L_1425, L_1489, L_1510, L_9999, L_10000, nI_add, nI_mul, u_lt_t, u_lt_f, u_le_t, u_le_f, u_eq_t, u_eq_f, u_mlt, u_ltm, u_eqm, u_meq, u_mle, u_b0, u_b1, u_ix, u_cl, u_sub, u_suc, u_z0, u_0m, cI_0, cI_s, rI_e, rI_k, rI_j, rI_l, rL_e, rL_k, rL_j, rL_i, told11, none11, refuse12, no11q, no12q, yes11q, if_true, if_false, ite_true, ite_false, ne_eq, not_true_eq_false, not_false_eq_true, Classical.not_not, Bool.not_eq_true, Bool.not_eq_false, reduceCtorEq, Nat.add_zero, Nat.zero_add, Nat.mul_zero, and_self, and_true, true_and, Bool.true_eq_false, Bool.false_eq_true, eq_self, e, es, hb]
    rw [u_shl1 i (by omega), fa_or]
    exact go _ (pass_yes hb).symm
/-- what stands right on a sprig -/
def rof (S : Nat) (on : Nat → Nat) (k : Nat) : Nat → Nat → Bool := fun _ i => S.testBit i && on i == k + 1
def rofn (n S : Nat) (on : Nat → Nat) (k : Nat) : Nat := pass (rof S on k) n
theorem rightOn11 {N h n S k : Nat} {col on : Nat → Nat} {σ : Ms} (hN : 20 < N) (hW : WS n S col on) (hR : RS h n S col on σ) (hk : k < n) : F0_rightOn N h (nI k) σ = some (nI (rofn n S on k), σ) := by
  obtain ⟨hn, hS, hw⟩ := hW
  obtain ⟨e, e6, er⟩ := hR
  refine wp_eq ?_
  unfold F0_rightOn F0_rightOn_b4
  refine wp_fx (fun m x => ∃ i, i + m = n ∧ x = (nI k, nI (pass (rof S on k) i), nI i, σ)) ?_ (n := n) (by omega) ⟨0, by omega, rfl⟩
  rintro m c _ ⟨i, hi, rfl⟩ hc
  simp only
  unfold F0_rightOn_b4B F0_rightOn_b36
  by_cases q : n ≤ i
  · have ei : i = n := by omega
    subst ei
    simp (disch := first | omega | assumption) only [lt_e, bn_s, ck_t, nk0, nk1, nk_b, bI_t, bI_f, L_0, L_1, L_2, L_3, L_4, L_5, L_6, L_7, L_8, L_9, L_10, L_11, L_12, L_15, L_20, L_25, L_30, L_45, L_60, L_65, L_69, L_74, L_79, L_84, L_85, L_86, L_99, L_100, L_255, L_300, L_356, L_900, L_1424, L_1425, L_1489, L_1510, L_9999, L_10000, nI_add, nI_mul, u_lt_t, u_lt_f, u_le_t, u_le_f, u_eq_t, u_eq_f, u_mlt, u_ltm, u_eqm, u_meq, u_mle, u_b0, u_b1, u_ix, u_cl, u_sub, u_suc, u_z0, u_0m, cI_0, cI_s, rI_e, rI_k, rI_j, rI_l, rL_e, rL_k, rL_j, rL_i, told11, none11, refuse12, no11q, no12q, yes11q, if_true, if_false, ite_true, ite_false, ne_eq, not_true_eq_false, not_false_eq_true, Classical.not_not, Bool.not_eq_true, Bool.not_eq_false, reduceCtorEq, Nat.add_zero, Nat.zero_add, Nat.mul_zero, and_self, and_true, true_and, Bool.true_eq_false, Bool.false_eq_true, eq_self, e]
    exact wp_some.mpr ⟨rfl, rfl⟩
  have hin : i < n := by omega
  obtain ⟨ec, eo⟩ := er i hin
  obtain ⟨-, ho, -⟩ := hw i hin
  have go : ∀ v : Nat, v = pass (rof S on k) (i + 1) → wp (c (nI k, nI v, nI (i + 1), σ)) fun r τ => r = nI (rofn n S on k) ∧ τ = σ := fun v hv => hc (m - 1) _ (by omega) ⟨i + 1, by omega, by rw [hv]⟩
  rw [isStanding_in hn hS e e6 hin]
  cases hb : S.testBit i
  · simp (disch := first | omega | assumption) only [lt_e, bn_s, ck_t, nk0, nk1, nk_b, bI_t, bI_f, L_0, L_1, L_2, L_3, L_4, L_5, L_6, L_7, L_8, L_9, L_10, L_11, L_12, L_15, L_20, L_25, L_30, L_45, L_60, L_65, L_69, L_74, L_79, L_84, L_85, L_86, L_99, L_100, L_255, L_300, L_356, L_900, L_1424, L_1425, L_1489, L_1510, L_9999, L_10000, nI_add, nI_mul, u_lt_t, u_lt_f, u_le_t, u_le_f, u_eq_t, u_eq_f, u_mlt, u_ltm, u_eqm, u_meq, u_mle, u_b0, u_b1, u_ix, u_cl, u_sub, u_suc, u_z0, u_0m, cI_0, cI_s, rI_e, rI_k, rI_j, rI_l, rL_e, rL_k, rL_j, rL_i, told11, none11, refuse12, no11q, no12q, yes11q, if_true, if_false, ite_true, ite_false, ne_eq, not_true_eq_false, not_false_eq_true, Classical.not_not, Bool.not_eq_true, Bool.not_eq_false, reduceCtorEq, Nat.add_zero, Nat.zero_add, Nat.mul_zero, and_self, and_true, true_and, Bool.true_eq_false, Bool.false_eq_true, eq_self, e]
    exact go _ (pass_no (by unfold rof; rw [hb]; rfl)).symm
  by_cases hok : on i = k + 1
  · have hf : rof S on k (pass (rof S on k) i) i = true := by unfold rof; rw [hb, hok]; simp
    simp (disch := first | omega | assumption) only [lt_e, bn_s, ck_t, nk0, nk1, nk_b, bI_t, bI_f, L_0, L_1, L_2, L_3, L_4, L_5, L_6, L_7, L_8, L_9, L_10, L_11, L_12, L_15, L_20, L_25, L_30, L_45, L_60, L_65, L_69, L_74, L_79, L_84, L_85, L_86, L_99, L_100, L_255, L_300, L_356, L_900, L_1424, L_1425, L_1489, L_1510, L_9999, L_10000, nI_add, nI_mul, u_lt_t, u_lt_f, u_le_t, u_le_f, u_eq_t, u_eq_f, u_mlt, u_ltm, u_eqm, u_meq, u_mle, u_b0, u_b1, u_ix, u_cl, u_sub, u_suc, u_z0, u_0m, cI_0, cI_s, rI_e, rI_k, rI_j, rI_l, rL_e, rL_k, rL_j, rL_i, told11, none11, refuse12, no11q, no12q, yes11q, if_true, if_false, ite_true, ite_false, ne_eq, not_true_eq_false, not_false_eq_true, Classical.not_not, Bool.not_eq_true, Bool.not_eq_false, reduceCtorEq, Nat.add_zero, Nat.zero_add, Nat.mul_zero, and_self, and_true, true_and, Bool.true_eq_false, Bool.false_eq_true, eq_self, e, eo, hok]
    rw [u_shl1 i (by omega), fa_or]
    exact go _ (pass_yes hf).symm
  · have hf : rof S on k (pass (rof S on k) i) i = false := by unfold rof; simp [hok]
    have hx : (cI (on i) = nI k) = False := eq_false fun z => by
      cases hoi : on i with
      | zero => rw [hoi, cI_0] at z; exact (u_meq (a := k) (by omega)).mp z
      | succ j => rw [hoi, cI_s] at z; exact hok (by rw [hoi, (nI_eq (by omega) (by omega)).mp z])
    simp (disch := first | omega | assumption) only [lt_e, bn_s, ck_t, nk0, nk1, nk_b, bI_t, bI_f, L_0, L_1, L_2, L_3, L_4, L_5, L_6, L_7, L_8, L_9, L_10, L_11, L_12, L_15, L_20, L_25, L_30, L_45, L_60, L_65, L_69, L_74, L_79, L_84, L_85, L_86, L_99, L_100, L_255, L_300, L_356, L_900, L_1424, L_1425, L_1489, L_1510, L_9999, L_10000, nI_add, nI_mul, u_lt_t, u_lt_f, u_le_t, u_le_f, u_eq_t, u_eq_f, u_mlt, u_ltm, u_eqm, u_meq, u_mle, u_b0, u_b1, u_ix, u_cl, u_sub, u_suc, u_z0, u_0m, cI_0, cI_s, rI_e, rI_k, rI_j, rI_l, rL_e, rL_k, rL_j, rL_i, told11, none11, refuse12, no11q, no12q, yes11q, if_true, if_false, ite_true, ite_false, ne_eq, not_true_eq_false, not_false_eq_true, Classical.not_not, Bool.not_eq_true, Bool.not_eq_false, reduceCtorEq, Nat.add_zero, Nat.zero_add, Nat.mul_zero, and_self, and_true, true_and, Bool.true_eq_false, Bool.false_eq_true, eq_self, e, eo, hx]
    exact go _ (pass_no hf).symm
theorem rightOn12 {N n S k : Nat} {col on : Nat → Nat} {σ : Ms} (hN : 20 < N) (hW : WS n S col on) (hM : MS 0 n S col on σ) (hk : k < n) : F12_rightOn N (nI k) σ = some (nI (rofn n S on k), σ) := by
  obtain ⟨hn, hS, hw⟩ := hW
  obtain ⟨e, er⟩ := hM.at0
  refine wp_eq ?_
  unfold F12_rightOn F12_rightOn_b4
  refine wp_fx (fun m x => ∃ i, i + m = n ∧ x = (nI k, nI (pass (rof S on k) i), nI i, σ)) ?_ (n := n) (by omega) ⟨0, by omega, rfl⟩
  rintro m c _ ⟨i, hi, rfl⟩ hc
  simp only
  unfold F12_rightOn_b4B F12_rightOn_b49 F12_rightOn_b50
  by_cases q : n ≤ i
  · have ei : i = n := by omega
    subst ei
    simp (disch := first | omega | assumption) only [lt_e, bn_s, ck_t, nk0, nk1, nk_b, bI_t, bI_f, L_0, L_1, L_2, L_3, L_4, L_5, L_6, L_7, L_8, L_9, L_10, L_11, L_12, L_15, L_20, L_25, L_30, L_45, L_60, L_65, L_69, L_74, L_79, L_84, L_85, L_86, L_99, L_100, L_255, L_300, L_356, L_900, L_1424, L_1425, L_1489, L_1510, L_9999, L_10000, nI_add, nI_mul, u_lt_t, u_lt_f, u_le_t, u_le_f, u_eq_t, u_eq_f, u_mlt, u_ltm, u_eqm, u_meq, u_mle, u_b0, u_b1, u_ix, u_cl, u_sub, u_suc, u_z0, u_0m, cI_0, cI_s, rI_e, rI_k, rI_j, rI_l, rL_e, rL_k, rL_j, rL_i, told11, none11, refuse12, no11q, no12q, yes11q, if_true, if_false, ite_true, ite_false, ne_eq, not_true_eq_false, not_false_eq_true, Classical.not_not, Bool.not_eq_true, Bool.not_eq_false, reduceCtorEq, Nat.add_zero, Nat.zero_add, Nat.mul_zero, and_self, and_true, true_and, Bool.true_eq_false, Bool.false_eq_true, eq_self, e]
    exact wp_some.mpr ⟨rfl, rfl⟩
  have hin : i < n := by omega
  obtain ⟨ec, eo, es⟩ := er i hin
  obtain ⟨-, ho, -⟩ := hw i hin
  have go : ∀ v : Nat, v = pass (rof S on k) (i + 1) → wp (c (nI k, nI v, nI (i + 1), σ)) fun r τ => r = nI (rofn n S on k) ∧ τ = σ := fun v hv => hc (m - 1) _ (by omega) ⟨i + 1, by omega, by rw [hv]⟩
  cases hb : S.testBit i
  · simp (disch := first | omega | assumption) only [lt_e, bn_s, ck_t, nk0, nk1, nk_b, bI_t, bI_f, L_0, L_1, L_2, L_3, L_4, L_5, L_6, L_7, L_8, L_9, L_10, L_11, L_12, L_15, L_20, L_25, L_30, L_45, L_60, L_65, L_69, L_74, L_79, L_84, L_85, L_86, L_99, L_100, L_255, L_300, L_356, L_900, L_1424, L_1425, L_1489, L_1510, L_9999, L_10000, nI_add, nI_mul, u_lt_t, u_lt_f, u_le_t, u_le_f, u_eq_t, u_eq_f, u_mlt, u_ltm, u_eqm, u_meq, u_mle, u_b0, u_b1, u_ix, u_cl, u_sub, u_suc, u_z0, u_0m, cI_0, cI_s, rI_e, rI_k, rI_j, rI_l, rL_e, rL_k, rL_j, rL_i, told11, none11, refuse12, no11q, no12q, yes11q, if_true, if_false, ite_true, ite_false, ne_eq, not_true_eq_false, not_false_eq_true, Classical.not_not, Bool.not_eq_true, Bool.not_eq_false, reduceCtorEq, Nat.add_zero, Nat.zero_add, Nat.mul_zero, and_self, and_true, true_and, Bool.true_eq_false, Bool.false_eq_true, eq_self, e, es, hb, fa_or, Nat.or_zero]
    exact go _ (pass_no (by unfold rof; rw [hb]; rfl)).symm
  by_cases hok : on i = k + 1
  · have hf : rof S on k (pass (rof S on k) i) i = true := by unfold rof; rw [hb, hok]; simp
    simp (disch := first | omega | assumption) only [lt_e, bn_s, ck_t, nk0, nk1, nk_b, bI_t, bI_f, L_0, L_1, L_2, L_3, L_4, L_5, L_6, L_7, L_8, L_9, L_10, L_11, L_12, L_15, L_20, L_25, L_30, L_45, L_60, L_65, L_69, L_74, L_79, L_84, L_85, L_86, L_99, L_100, L_255, L_300, L_356, L_900, L_1424, L_1425, L_1489, L_1510, L_9999, L_10000, nI_add, nI_mul, u_lt_t, u_lt_f, u_le_t, u_le_f, u_eq_t, u_eq_f, u_mlt, u_ltm, u_eqm, u_meq, u_mle, u_b0, u_b1, u_ix, u_cl, u_sub, u_suc, u_z0, u_0m, cI_0, cI_s, rI_e, rI_k, rI_j, rI_l, rL_e, rL_k, rL_j, rL_i, told11, none11, refuse12, no11q, no12q, yes11q, if_true, if_false, ite_true, ite_false, ne_eq, not_true_eq_false, not_false_eq_true, Classical.not_not, Bool.not_eq_true, Bool.not_eq_false, reduceCtorEq, Nat.add_zero, Nat.zero_add, Nat.mul_zero, and_self, and_true, true_and, Bool.true_eq_false, Bool.false_eq_true, eq_self, e, es, hb, eo, hok]
    rw [u_shl1 i (by omega), fa_or]
    exact go _ (pass_yes hf).symm
  · have hf : rof S on k (pass (rof S on k) i) i = false := by unfold rof; simp [hok]
    simp (disch := first | omega | assumption) only [lt_e, bn_s, ck_t, nk0, nk1, nk_b, bI_t, bI_f, L_0, L_1, L_2, L_3, L_4, L_5, L_6, L_7, L_8, L_9, L_10, L_11, L_12, L_15, L_20, L_25, L_30, L_45, L_60, L_65, L_69, L_74, L_79, L_84, L_85, L_86, L_99, L_100, L_255, L_300, L_356, L_900, L_1424, L_1425, L_1489, L_1510, L_9999, L_10000, nI_add, nI_mul, u_lt_t, u_lt_f, u_le_t, u_le_f, u_eq_t, u_eq_f, u_mlt, u_ltm, u_eqm, u_meq, u_mle, u_b0, u_b1, u_ix, u_cl, u_sub, u_suc, u_z0, u_0m, cI_0, cI_s, rI_e, rI_k, rI_j, rI_l, rL_e, rL_k, rL_j, rL_i, told11, none11, refuse12, no11q, no12q, yes11q, if_true, if_false, ite_true, ite_false, ne_eq, not_true_eq_false, not_false_eq_true, Classical.not_not, Bool.not_eq_true, Bool.not_eq_false, reduceCtorEq, Nat.add_zero, Nat.zero_add, Nat.mul_zero, and_self, and_true, true_and, Bool.true_eq_false, Bool.false_eq_true, eq_self, e, es, hb, eo, fa_or, Nat.or_zero]
    exact go _ (pass_no hf).symm
theorem fallsBy_ok {N n S k : Nat} {col on : Nat → Nat} {σ : Ms} (hN : 20 < N) (hW : WS n S col on) (hM : MS 0 n S col on σ) (hk : k < n) : F12_fallsBy N (nI k) σ = some (nI (pc (brs n S on k) 20), σ) := by
  have hS := hW.2.1
  have hn := hW.1
  unfold F12_fallsBy
  have e1 : (1 : Int32) <<< (nI k &&& 31) = nI (2 ^ k) := u_shl1 k (by omega)
  have hp : (2 : Nat) ^ k < 2 ^ 31 := Nat.pow_lt_pow_right (by decide) (by omega)
  have hd : dif S (stb n S (2 ^ k) on) < 2 ^ 31 := set_lt (dif_lt hS) hn
  rw [standing_ok hN hW hM, bn_s, standing_ok hN hW hM, bn_s, e1, standsBut_ok hN hW hM (set_lt hS hn) hp, bn_s, u_dif, sizeOf_ok hN hd, bn_s]
  have : pc (dif S (stb n S (2 ^ k) on)) 20 = pc (brs n S on k) 20 := pc_cong fun i _ => by
    rw [dif_bit]
    by_cases hi : i < n
    · rw [stb_brs hW i hi]
      cases hb : (brs n S on k).testBit i
      · cases S.testBit i <;> rfl
      · rw [brs_sub hb]; rfl
    · rw [bit_lt hS (by omega), bit_lt (brs_lt n S on k) (by omega)]
      rfl
  rw [this]
