def cpL (σ : Ms) (K B : Nat) (W : Nat → Int64) (j : Nat) : Ms := (σ.1, fun k i => if k = K ∧ B ≤ i ∧ i < B + j then W (i - B) else σ.2 k i)
theorem cpL_0 (σ : Ms) (K B : Nat) (W : Nat → Int64) : cpL σ K B W 0 = σ := by
  unfold cpL
  refine Prod.ext rfl ?_
  funext k i
  exact if_neg (by omega)
theorem cpL_s (σ : Ms) (K B : Nat) (W : Nat → Int64) (j : Nat) : sL (cpL σ K B W j) K (B + j) (W j) = cpL σ K B W (j + 1) := by
  unfold cpL sL
  refine Prod.ext rfl ?_
  funext k i
  show (if k = K ∧ i = B + j then W j else if k = K ∧ B ≤ i ∧ i < B + j then W (i - B) else σ.2 k i) = if k = K ∧ B ≤ i ∧ i < B + (j + 1) then W (i - B) else σ.2 k i
  by_cases q : k = K ∧ i = B + j
  · rw [if_pos q, if_pos ⟨q.1, by omega, by omega⟩, q.2, Nat.add_sub_cancel_left]
  rw [if_neg q]
  by_cases q2 : k = K ∧ B ≤ i ∧ i < B + j
  · rw [if_pos q2, if_pos ⟨q2.1, q2.2.1, by omega⟩]
  · rw [if_neg q2, if_neg (by omega)]
theorem sI_self {σ : Ms} {k j : Nat} {v : Int32} (h : σ.1 k j = v) : sI σ k j v = σ := by
  unfold sI
  refine Prod.ext ?_ rfl
  funext k' j'
  show (if k' = k ∧ j' = j then v else σ.1 k' j') = σ.1 k' j'
  split
  · next z => rw [z.1, z.2, h]
  · rfl
def cpv (S : Nat) (col : Nat → Nat) (i : Nat) : Int64 := if S.testBit i then (nI (col i)).toInt64 else 3
theorem cpC_ok {N t n S k : Nat} {col on : Nat → Nat} {W : Nat → Int64} {σ : Ms} (hN : 100 < N) (ht : t < 4) (hk : k ≤ 60) (e : σ.1 15 t = nI k) (hW : WS n S col on) (hR : RS 22 n S col on σ) (hn : n ≤ k) (w : ∀ i τ, F9_fitted (cpv S col i) (σ.1 14 t) τ = some (W i, τ)) : F11_copyColours_b57 N (nI t) (nI 0) σ = some (nI n, sI (cpL σ (16 + t) 0 W n) 11 17 (nI 0)) := by
  obtain ⟨hn20, hS, -⟩ := hW
  obtain ⟨r5, r6, rc⟩ := hR
  refine wp_eq ?_
  unfold F11_copyColours_b57
  refine wp_fx (fun m x => ∃ i, i + m = n ∧ x = (nI t, nI i, cpL σ (16 + t) 0 W i)) ?_ (n := n) (by omega) ⟨0, by omega, by rw [cpL_0]⟩
  rintro m c _ ⟨i, hi, rfl⟩ hc
  simp only
  unfold F11_copyColours_b57B
  have h5 : (cpL σ (16 + t) 0 W i).1 22 5 = nI n := r5
  by_cases q : n ≤ i
  · have : i = n := by omega
    subst this
    rw [h5, if_pos (nI_le (by omega) (by omega)), told11, bn_s]
    exact wp_some.mpr ⟨rfl, rfl⟩
  rw [h5, if_neg (nI_ge (by omega) (by omega)), isStanding_in hn20 hS h5 r6 (by omega), bn_s]
  have put : F9_put (nI t) (nI i) (cpv S col i) (cpL σ (16 + t) 0 W i) = some ((), cpL σ (16 + t) 0 W (i + 1)) := by
    unfold F9_put
    rw [show (1 : Int32) = nI 1 from rfl, holds_yes (σ := cpL σ (16 + t) 0 W i) ht hk e (by omega), bn_s, if_neg (by decide), ixb_nI ht (by omega), ck_t, ck_t, nI_clamp (by omega), show (cpL σ (16 + t) 0 W i).1 14 t = σ.1 14 t from rfl, w, bn_s, ixb_nI (by omega) (by omega), ck_t, nI_clamp (by omega), lt_e, ← cpL_s, Nat.zero_add]
  by_cases b : S.testBit i
  · have hv : (nI (col i)).toInt64 = cpv S col i := (if_pos b).symm
    have h23 : (cpL σ (16 + t) 0 W i).1 23 i = nI (col i) := (rc i (by omega)).1
    rw [b, bI_t, if_neg (by decide), ixb_nI (by omega) (by omega), ck_t, nI_clamp (by omega), h23, hv]
    unfold F11_copyColours_b101
    rw [put, bn_s, show (1 : Int32) = nI 1 from rfl, nI_add]
    exact hc (m - 1) _ (by omega) ⟨i + 1, by omega, rfl⟩
  · have hv : (3 : Int64) = cpv S col i := (if_neg b).symm
    rw [Bool.eq_false_iff.mpr b, bI_f, if_pos (by rfl), hv]
    unfold F11_copyColours_b101
    rw [put, bn_s, show (1 : Int32) = nI 1 from rfl, nI_add]
    exact hc (m - 1) _ (by omega) ⟨i + 1, by omega, rfl⟩
theorem cpM_ok {N t n S k : Nat} {col on : Nat → Nat} {W : Nat → Int64} {σ : Ms} (hN : 100 < N) (ht : t < 4) (hk : k ≤ 60) (e : σ.1 2 t = nI k) (e0 : σ.1 0 1 = 0) (e1 : σ.1 0 0 = 0) (hW : WS n S col on) (hM : MS 0 n S col on σ) (hn : n ≤ k) (w : ∀ i τ, F12_trims (σ.1 1 t) (cpv S col i) τ = some (W i, τ)) : F12_copyColours_b62 N (nI t) (nI 0) σ = some (nI n, cpL σ 3 (60 * t) W n) := by
  obtain ⟨hn20, hS, -⟩ := hW
  obtain ⟨r5, rc⟩ := hM.at0
  refine wp_eq ?_
  unfold F12_copyColours_b62
  refine wp_fx (fun m x => ∃ i, i + m = n ∧ x = (nI t, nI i, cpL σ 3 (60 * t) W i)) ?_ (n := n) (by omega) ⟨0, by omega, by rw [cpL_0]⟩
  rintro m c _ ⟨i, hi, rfl⟩ hc
  simp only
  unfold F12_copyColours_b62B
  have h5 : (cpL σ 3 (60 * t) W i).1 5 0 = nI n := r5
  rw [show ixb (0 : Int32) 1780 = true by decide, ck_t, show (0 : Int32).toNatClampNeg = 0 by decide]
  by_cases q : n ≤ i
  · have : i = n := by omega
    subst this
    rw [h5, if_pos (nI_le (by omega) (by omega)), ck_t]
    exact wp_some.mpr ⟨rfl, rfl⟩
  rw [h5, if_neg (nI_ge (by omega) (by omega))]
  obtain ⟨c1, -, c3⟩ := rc i (by omega)
  have wr : F12_write (nI t) (nI i) (cpv S col i) (cpL σ 3 (60 * t) W i) = some (1, cpL σ 3 (60 * t) W (i + 1)) := by
    unfold F12_write F12_placed
    have h2 : (cpL σ 3 (60 * t) W i).1 2 t = nI k := e
    rw [lt_e, sI_self (σ := cpL σ 3 (60 * t) W i) e0, trayed_in ht, bn_s, h2, if_pos (show (0 : Int32) ≤ nI k from nI_pos' (by omega)), if_pos (by rfl), if_neg (nI_pos (by omega)), ixb_nI ht (by omega), ck_t, nI_clamp (by omega), h2, if_pos (nI_lt (by omega) (by omega)), bn_s, lt_e, sI_self (σ := cpL σ 3 (60 * t) W i) e1, if_pos (by rw [show (cpL σ 3 (60 * t) W i).1 0 0 = σ.1 0 0 from rfl, e1]; decide), ck_t, show (cpL σ 3 (60 * t) W i).1 1 t = σ.1 1 t from rfl, w, bn_s, show (60 : Int32) = nI 60 from rfl, nI_mul, nI_add, ixb_nI (by omega) (by omega), ck_t, nI_clamp (by omega), lt_e, cpL_s]
  rw [show (45 : Int32) = nI 45 from rfl, show (5 : Int32) = nI 5 from rfl, nI_add, nI_add, ixb_nI (by omega) (by omega), ck_t, nI_clamp (by omega), show (cpL σ 3 (60 * t) W i).1 5 (45 + i) = _ from c3]
  by_cases b : S.testBit i
  · have hv : (nI (col i)).toInt64 = cpv S col i := (if_pos b).symm
    have h23 : (cpL σ 3 (60 * t) W i).1 5 (5 + i) = nI (col i) := c1
    rw [b, bI_t, if_neg (by decide), ixb_nI (by omega) (by omega), ck_t, nI_clamp (by omega), h23, hv]
    unfold F12_copyColours_b103
    rw [wr, bn_s, show (1 : Int32) = nI 1 from rfl, nI_add]
    exact hc (m - 1) _ (by omega) ⟨i + 1, by omega, rfl⟩
  · have hv : (3 : Int64) = cpv S col i := (if_neg b).symm
    rw [Bool.eq_false_iff.mpr b, bI_f, if_pos (by decide), hv]
    unfold F12_copyColours_b103
    rw [wr, bn_s, show (1 : Int32) = nI 1 from rfl, nI_add]
    exact hc (m - 1) _ (by omega) ⟨i + 1, by omega, rfl⟩
theorem R_copyColours {N : Nat} (hN : 100 < N) (p : Int32) (σ : Ms) (hT : I_tray σ) (hh : I_hg 0 22 σ) : wp (F11_copyColours N p σ) fun r t => wp (F12_copyColours N p t) fun r' t' => r = r' ∧ t'.1 11 17 = t'.1 0 0 ∧ I_tray t' := by
  have no : ∀ a : Int32, (sI (sI (sI (sI σ 11 17 a) 0 1 (nI 0)) 0 0 (nI 0)) 0 0 a).1 11 17 = (sI (sI (sI (sI σ 11 17 a) 0 1 (nI 0)) 0 0 (nI 0)) 0 0 a).1 0 0 := fun a => by
    try simp (disch := first | omega | assumption) only [lt_e, bn_s, ck_t, nk0, nk1, nk_b, bI_t, bI_f, L_0, L_1, L_2, L_3, L_4, L_5, L_6, L_7, L_8, L_9, L_10, L_11, L_12, L_15, L_20, L_25, L_30, L_45, L_60, L_65, L_69, L_74, L_79, L_84, L_85, L_86, L_99, L_100, L_255, L_300, L_356, L_900, L_1424, L_1425, L_1489, L_1510, L_9999, L_10000, nI_add, nI_mul, u_lt_t, u_lt_f, u_le_t, u_le_f, u_eq_t, u_eq_f, u_mlt, u_ltm, u_eqm, u_meq, u_mle, u_b0, u_b1, u_ix, u_cl, u_sub, u_suc, u_z0, u_0m, cI_0, cI_s, rI_e, rI_k, rI_j, rI_l, rL_e, rL_k, rL_j, rL_i, told11, none11, refuse12, no11q, no12q, yes11q, if_true, if_false, ite_true, ite_false, ne_eq, not_true_eq_false, not_false_eq_true, Classical.not_not, Bool.not_eq_true, Bool.not_eq_false, reduceCtorEq, Nat.add_zero, Nat.zero_add, Nat.mul_zero, and_self, and_true, true_and, Bool.true_eq_false, Bool.false_eq_true, eq_self]
  have tr : ∀ a : Int32, I_tray (sI (sI (sI (sI σ 11 17 a) 0 1 (nI 0)) 0 0 (nI 0)) 0 0 a) := fun a => hT
  unfold F11_copyColours
  obtain ⟨H, w, c, m, -⟩ := hh
  by_cases hp : ∃ t, t < 4 ∧ p = nI t
  rotate_left
  · rw [isTray_out hp, bn_s, if_neg (by decide)]
    try simp (disch := first | omega | assumption) only [lt_e, bn_s, ck_t, nk0, nk1, nk_b, bI_t, bI_f, L_0, L_1, L_2, L_3, L_4, L_5, L_6, L_7, L_8, L_9, L_10, L_11, L_12, L_15, L_20, L_25, L_30, L_45, L_60, L_65, L_69, L_74, L_79, L_84, L_85, L_86, L_99, L_100, L_255, L_300, L_356, L_900, L_1424, L_1425, L_1489, L_1510, L_9999, L_10000, nI_add, nI_mul, u_lt_t, u_lt_f, u_le_t, u_le_f, u_eq_t, u_eq_f, u_mlt, u_ltm, u_eqm, u_meq, u_mle, u_b0, u_b1, u_ix, u_cl, u_sub, u_suc, u_z0, u_0m, cI_0, cI_s, rI_e, rI_k, rI_j, rI_l, rL_e, rL_k, rL_j, rL_i, told11, none11, refuse12, no11q, no12q, yes11q, if_true, if_false, ite_true, ite_false, ne_eq, not_true_eq_false, not_false_eq_true, Classical.not_not, Bool.not_eq_true, Bool.not_eq_false, reduceCtorEq, Nat.add_zero, Nat.zero_add, Nat.mul_zero, and_self, and_true, true_and, Bool.true_eq_false, Bool.false_eq_true, eq_self]
    refine wp_some.mpr ?_
    unfold F12_copyColours
    try simp (disch := first | omega | assumption) only [lt_e, bn_s, ck_t, nk0, nk1, nk_b, bI_t, bI_f, L_0, L_1, L_2, L_3, L_4, L_5, L_6, L_7, L_8, L_9, L_10, L_11, L_12, L_15, L_20, L_25, L_30, L_45, L_60, L_65, L_69, L_74, L_79, L_84, L_85, L_86, L_99, L_100, L_255, L_300, L_356, L_900, L_1424, L_1425, L_1489, L_1510, L_9999, L_10000, nI_add, nI_mul, u_lt_t, u_lt_f, u_le_t, u_le_f, u_eq_t, u_eq_f, u_mlt, u_ltm, u_eqm, u_meq, u_mle, u_b0, u_b1, u_ix, u_cl, u_sub, u_suc, u_z0, u_0m, cI_0, cI_s, rI_e, rI_k, rI_j, rI_l, rL_e, rL_k, rL_j, rL_i, told11, none11, refuse12, no11q, no12q, yes11q, if_true, if_false, ite_true, ite_false, ne_eq, not_true_eq_false, not_false_eq_true, Classical.not_not, Bool.not_eq_true, Bool.not_eq_false, reduceCtorEq, Nat.add_zero, Nat.zero_add, Nat.mul_zero, and_self, and_true, true_and, Bool.true_eq_false, Bool.false_eq_true, eq_self, isTray12_out hp]
    exact wp_some.mpr ⟨rfl, no _, tr _⟩
  obtain ⟨t, ht, rfl⟩ := hp
  obtain ⟨e15, e2, e14, -, ec⟩ := hT t ht
  rw [isTray_in ht, bn_s, if_pos (by decide)]
  have i4 : ixb (nI t) 4 = true := ixb_nI ht (by omega)
  have m0 : σ.1 5 0 = nI (gn H) := m.1.at0.1
  have c5 : σ.1 22 5 = nI (gn H) := c.1.1
  have hn20 : gn H ≤ 20 := w.1.1
  rcases e2 with e2 | ⟨k, hk, e2⟩
  · rw [missing_yes ht (by rw [e15, e2]), bn_s, if_neg (by decide)]
    try simp (disch := first | omega | assumption) only [lt_e, bn_s, ck_t, nk0, nk1, nk_b, bI_t, bI_f, L_0, L_1, L_2, L_3, L_4, L_5, L_6, L_7, L_8, L_9, L_10, L_11, L_12, L_15, L_20, L_25, L_30, L_45, L_60, L_65, L_69, L_74, L_79, L_84, L_85, L_86, L_99, L_100, L_255, L_300, L_356, L_900, L_1424, L_1425, L_1489, L_1510, L_9999, L_10000, nI_add, nI_mul, u_lt_t, u_lt_f, u_le_t, u_le_f, u_eq_t, u_eq_f, u_mlt, u_ltm, u_eqm, u_meq, u_mle, u_b0, u_b1, u_ix, u_cl, u_sub, u_suc, u_z0, u_0m, cI_0, cI_s, rI_e, rI_k, rI_j, rI_l, rL_e, rL_k, rL_j, rL_i, told11, none11, refuse12, no11q, no12q, yes11q, if_true, if_false, ite_true, ite_false, ne_eq, not_true_eq_false, not_false_eq_true, Classical.not_not, Bool.not_eq_true, Bool.not_eq_false, reduceCtorEq, Nat.add_zero, Nat.zero_add, Nat.mul_zero, and_self, and_true, true_and, Bool.true_eq_false, Bool.false_eq_true, eq_self]
    refine wp_some.mpr ?_
    unfold F12_copyColours
    try simp (disch := first | omega | assumption) only [lt_e, bn_s, ck_t, nk0, nk1, nk_b, bI_t, bI_f, L_0, L_1, L_2, L_3, L_4, L_5, L_6, L_7, L_8, L_9, L_10, L_11, L_12, L_15, L_20, L_25, L_30, L_45, L_60, L_65, L_69, L_74, L_79, L_84, L_85, L_86, L_99, L_100, L_255, L_300, L_356, L_900, L_1424, L_1425, L_1489, L_1510, L_9999, L_10000, nI_add, nI_mul, u_lt_t, u_lt_f, u_le_t, u_le_f, u_eq_t, u_eq_f, u_mlt, u_ltm, u_eqm, u_meq, u_mle, u_b0, u_b1, u_ix, u_cl, u_sub, u_suc, u_z0, u_0m, cI_0, cI_s, rI_e, rI_k, rI_j, rI_l, rL_e, rL_k, rL_j, rL_i, told11, none11, refuse12, no11q, no12q, yes11q, if_true, if_false, ite_true, ite_false, ne_eq, not_true_eq_false, not_false_eq_true, Classical.not_not, Bool.not_eq_true, Bool.not_eq_false, reduceCtorEq, Nat.add_zero, Nat.zero_add, Nat.mul_zero, and_self, and_true, true_and, Bool.true_eq_false, Bool.false_eq_true, eq_self, isTray12_in ht, e2, show ¬ (0 : Int32) ≤ -1 by decide, show ¬ nI 0 ≤ (-1 : Int32) by decide]
    exact wp_some.mpr ⟨rfl, no _, tr _⟩
  rw [missing_no ht hk (by rw [e15, e2]), bn_s, if_pos (by rfl), c5]
  by_cases hnk : gn H ≤ k
  rotate_left
  · rw [show (0 : Int32) = nI 0 from rfl, holds_no ht hk (by rw [e15, e2]) (by rintro ⟨i, j, h1, h2, h3⟩; have hj : j % 2 ^ 32 = gn H := by { have := congrArg Int32.toBitVec h2; have := congrArg BitVec.toNat this; have e1 : (nI (gn H)).toBitVec.toNat = gn H % 2 ^ 32 := rfl; have e3 : (nI j).toBitVec.toNat = j % 2 ^ 32 := rfl; omega }; omega), bn_s, if_neg (by decide)]
    try simp (disch := first | omega | assumption) only [lt_e, bn_s, ck_t, nk0, nk1, nk_b, bI_t, bI_f, L_0, L_1, L_2, L_3, L_4, L_5, L_6, L_7, L_8, L_9, L_10, L_11, L_12, L_15, L_20, L_25, L_30, L_45, L_60, L_65, L_69, L_74, L_79, L_84, L_85, L_86, L_99, L_100, L_255, L_300, L_356, L_900, L_1424, L_1425, L_1489, L_1510, L_9999, L_10000, nI_add, nI_mul, u_lt_t, u_lt_f, u_le_t, u_le_f, u_eq_t, u_eq_f, u_mlt, u_ltm, u_eqm, u_meq, u_mle, u_b0, u_b1, u_ix, u_cl, u_sub, u_suc, u_z0, u_0m, cI_0, cI_s, rI_e, rI_k, rI_j, rI_l, rL_e, rL_k, rL_j, rL_i, told11, none11, refuse12, no11q, no12q, yes11q, if_true, if_false, ite_true, ite_false, ne_eq, not_true_eq_false, not_false_eq_true, Classical.not_not, Bool.not_eq_true, Bool.not_eq_false, reduceCtorEq, Nat.add_zero, Nat.zero_add, Nat.mul_zero, and_self, and_true, true_and, Bool.true_eq_false, Bool.false_eq_true, eq_self]
    refine wp_some.mpr ?_
    unfold F12_copyColours
    try simp (disch := first | omega | assumption) only [lt_e, bn_s, ck_t, nk0, nk1, nk_b, bI_t, bI_f, L_0, L_1, L_2, L_3, L_4, L_5, L_6, L_7, L_8, L_9, L_10, L_11, L_12, L_15, L_20, L_25, L_30, L_45, L_60, L_65, L_69, L_74, L_79, L_84, L_85, L_86, L_99, L_100, L_255, L_300, L_356, L_900, L_1424, L_1425, L_1489, L_1510, L_9999, L_10000, nI_add, nI_mul, u_lt_t, u_lt_f, u_le_t, u_le_f, u_eq_t, u_eq_f, u_mlt, u_ltm, u_eqm, u_meq, u_mle, u_b0, u_b1, u_ix, u_cl, u_sub, u_suc, u_z0, u_0m, cI_0, cI_s, rI_e, rI_k, rI_j, rI_l, rL_e, rL_k, rL_j, rL_i, told11, none11, refuse12, no11q, no12q, yes11q, if_true, if_false, ite_true, ite_false, ne_eq, not_true_eq_false, not_false_eq_true, Classical.not_not, Bool.not_eq_true, Bool.not_eq_false, reduceCtorEq, Nat.add_zero, Nat.zero_add, Nat.mul_zero, and_self, and_true, true_and, Bool.true_eq_false, Bool.false_eq_true, eq_self, isTray12_in ht, e2, m0]
    exact wp_some.mpr ⟨rfl, no _, tr _⟩
  rw [show (0 : Int32) = nI 0 from rfl, holds_yes ht hk (by rw [e15, e2]) (by omega), bn_s, if_pos (by decide)]
  have hw := fun i => fits_both (cpv (gS H) (gc H) i) (σ.1 14 t)
  obtain ⟨W, hW⟩ : ∃ W : Nat → Int64, ∀ i, (∀ τ, F9_fitted (cpv (gS H) (gc H) i) (σ.1 14 t) τ = some (W i, τ)) ∧ ∀ τ, F12_trims (σ.1 14 t) (cpv (gS H) (gc H) i) τ = some (W i, τ) := ⟨fun i => Classical.choose (hw i), fun i => Classical.choose_spec (hw i)⟩
  rw [cpC_ok (W := W) hN ht hk (by rw [e15, e2]) w.1 c.1 hnk fun i => (hW i).1]
  refine wp_some.mpr ?_
  unfold F12_copyColours
  have q2 : (sI (sI (sI (cpL σ (16 + t) 0 W (gn H)) 11 17 (nI 0)) 0 1 (nI 0)) 0 0 (nI 0)).1 2 t = nI k := by try simp (disch := first | omega | assumption) only [lt_e, bn_s, ck_t, nk0, nk1, nk_b, bI_t, bI_f, L_0, L_1, L_2, L_3, L_4, L_5, L_6, L_7, L_8, L_9, L_10, L_11, L_12, L_15, L_20, L_25, L_30, L_45, L_60, L_65, L_69, L_74, L_79, L_84, L_85, L_86, L_99, L_100, L_255, L_300, L_356, L_900, L_1424, L_1425, L_1489, L_1510, L_9999, L_10000, nI_add, nI_mul, u_lt_t, u_lt_f, u_le_t, u_le_f, u_eq_t, u_eq_f, u_mlt, u_ltm, u_eqm, u_meq, u_mle, u_b0, u_b1, u_ix, u_cl, u_sub, u_suc, u_z0, u_0m, cI_0, cI_s, rI_e, rI_k, rI_j, rI_l, rL_e, rL_k, rL_j, rL_i, told11, none11, refuse12, no11q, no12q, yes11q, if_true, if_false, ite_true, ite_false, ne_eq, not_true_eq_false, not_false_eq_true, Classical.not_not, Bool.not_eq_true, Bool.not_eq_false, reduceCtorEq, Nat.add_zero, Nat.zero_add, Nat.mul_zero, and_self, and_true, true_and, Bool.true_eq_false, Bool.false_eq_true, eq_self]; exact e2
  have q5 : (sI (sI (sI (cpL σ (16 + t) 0 W (gn H)) 11 17 (nI 0)) 0 1 (nI 0)) 0 0 (nI 0)).1 5 0 = nI (gn H) := by try simp (disch := first | omega | assumption) only [lt_e, bn_s, ck_t, nk0, nk1, nk_b, bI_t, bI_f, L_0, L_1, L_2, L_3, L_4, L_5, L_6, L_7, L_8, L_9, L_10, L_11, L_12, L_15, L_20, L_25, L_30, L_45, L_60, L_65, L_69, L_74, L_79, L_84, L_85, L_86, L_99, L_100, L_255, L_300, L_356, L_900, L_1424, L_1425, L_1489, L_1510, L_9999, L_10000, nI_add, nI_mul, u_lt_t, u_lt_f, u_le_t, u_le_f, u_eq_t, u_eq_f, u_mlt, u_ltm, u_eqm, u_meq, u_mle, u_b0, u_b1, u_ix, u_cl, u_sub, u_suc, u_z0, u_0m, cI_0, cI_s, rI_e, rI_k, rI_j, rI_l, rL_e, rL_k, rL_j, rL_i, told11, none11, refuse12, no11q, no12q, yes11q, if_true, if_false, ite_true, ite_false, ne_eq, not_true_eq_false, not_false_eq_true, Classical.not_not, Bool.not_eq_true, Bool.not_eq_false, reduceCtorEq, Nat.add_zero, Nat.zero_add, Nat.mul_zero, and_self, and_true, true_and, Bool.true_eq_false, Bool.false_eq_true, eq_self]; exact m0
  rw [lt_e, lt_e, show (0 : Int32) = nI 0 from rfl, isTray12_in ht, bn_s, if_pos (by decide), i4, ck_t, nI_clamp (by omega), q2, if_pos (show nI 0 ≤ nI k from nI_pos' (by omega)), ck_t, show ixb (nI 0) 1780 = true by decide, ck_t, show (nI 0).toNatClampNeg = 0 by decide, q5, if_pos (nI_le hnk (by omega))]
  rw [cpM_ok (W := W) hN ht hk q2 rfl rfl w.1 (m.1.mv fun j => ?_) hnk fun i τ => ?_]
  · refine wp_some.mpr ⟨rfl, ?_, ?_⟩
    · show (sI (sI (sI (cpL σ (16 + t) 0 W (gn H)) 11 17 (nI 0)) 0 1 (nI 0)) 0 0 (nI 0)).1 11 17 = (sI (sI (sI (cpL σ (16 + t) 0 W (gn H)) 11 17 (nI 0)) 0 1 (nI 0)) 0 0 (nI 0)).1 0 0
      try simp (disch := first | omega | assumption) only [lt_e, bn_s, ck_t, nk0, nk1, nk_b, bI_t, bI_f, L_0, L_1, L_2, L_3, L_4, L_5, L_6, L_7, L_8, L_9, L_10, L_11, L_12, L_15, L_20, L_25, L_30, L_45, L_60, L_65, L_69, L_74, L_79, L_84, L_85, L_86, L_99, L_100, L_255, L_300, L_356, L_900, L_1424, L_1425, L_1489, L_1510, L_9999, L_10000, nI_add, nI_mul, u_lt_t, u_lt_f, u_le_t, u_le_f, u_eq_t, u_eq_f, u_mlt, u_ltm, u_eqm, u_meq, u_mle, u_b0, u_b1, u_ix, u_cl, u_sub, u_suc, u_z0, u_0m, cI_0, cI_s, rI_e, rI_k, rI_j, rI_l, rL_e, rL_k, rL_j, rL_i, told11, none11, refuse12, no11q, no12q, yes11q, if_true, if_false, ite_true, ite_false, ne_eq, not_true_eq_false, not_false_eq_true, Classical.not_not, Bool.not_eq_true, Bool.not_eq_false, reduceCtorEq, Nat.add_zero, Nat.zero_add, Nat.mul_zero, and_self, and_true, true_and, Bool.true_eq_false, Bool.false_eq_true, eq_self]
    · intro u hu
      obtain ⟨a, b, c', d, e⟩ := hT u hu
      refine ⟨a, b, c', d, fun i hi => ?_⟩
      show (if 16 + u = 3 ∧ 60 * t ≤ i ∧ i < 60 * t + gn H then W (i - 60 * t) else if 16 + u = 16 + t ∧ 0 ≤ i ∧ i < 0 + gn H then W (i - 0) else σ.2 (16 + u) i) = (if 3 = 3 ∧ 60 * t ≤ 60 * u + i ∧ 60 * u + i < 60 * t + gn H then W (60 * u + i - 60 * t) else if 3 = 16 + t ∧ 0 ≤ 60 * u + i ∧ 60 * u + i < 0 + gn H then W (60 * u + i - 0) else σ.2 3 (60 * u + i))
      rw [if_neg (by omega)]
      by_cases q : u = t ∧ i < gn H
      · rw [if_pos (by omega), if_pos (by omega)]
        congr 1
        omega
      · rw [if_neg (by omega), if_neg (by omega), if_neg (by omega)]
        exact e i hi
  · try simp (disch := first | omega | assumption) only [lt_e, bn_s, ck_t, nk0, nk1, nk_b, bI_t, bI_f, L_0, L_1, L_2, L_3, L_4, L_5, L_6, L_7, L_8, L_9, L_10, L_11, L_12, L_15, L_20, L_25, L_30, L_45, L_60, L_65, L_69, L_74, L_79, L_84, L_85, L_86, L_99, L_100, L_255, L_300, L_356, L_900, L_1424, L_1425, L_1489, L_1510, L_9999, L_10000, nI_add, nI_mul, u_lt_t, u_lt_f, u_le_t, u_le_f, u_eq_t, u_eq_f, u_mlt, u_ltm, u_eqm, u_meq, u_mle, u_b0, u_b1, u_ix, u_cl, u_sub, u_suc, u_z0, u_0m, cI_0, cI_s, rI_e, rI_k, rI_j, rI_l, rL_e, rL_k, rL_j, rL_i, told11, none11, refuse12, no11q, no12q, yes11q, if_true, if_false, ite_true, ite_false, ne_eq, not_true_eq_false, not_false_eq_true, Classical.not_not, Bool.not_eq_true, Bool.not_eq_false, reduceCtorEq, Nat.add_zero, Nat.zero_add, Nat.mul_zero, and_self, and_true, true_and, Bool.true_eq_false, Bool.false_eq_true, eq_self]
    rfl
  · have := (hW i).2 τ
    rw [e14] at this
    exact this
