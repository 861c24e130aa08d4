theorem R_luck {N : Nat} (hN : 100 < N) (p : Int32) (σ : Ms) (hm : I_misc σ) (hh : I_hg 0 22 σ) : wp (F11_luck N p σ) fun r t => wp (F12_luck N p t) fun r' t' => r = r' ∧ I_misc t' := by
  obtain ⟨H, w, c, m, -⟩ := hh
  have no : ∀ a : Int32, I_misc (sI (sI (sI (sI σ 11 17 a) 0 1 (nI 0)) 0 0 (nI 0)) 0 0 a) := fun a => by
    unfold I_misc at *
    try simp (disch := first | omega | assumption) only [lt_e, bn_s, ck_t, nk0, nk1, nk_b, bI_t, bI_f, L_0, L_1, L_2, L_3, L_4, L_5, L_6, L_7, L_8, L_9, L_10, L_11, L_12, L_15, L_20, L_25, L_30, L_45, L_60, L_65, L_69, L_74, L_79, L_84, L_85, L_86, L_99, L_100, L_255, L_300, L_356, L_900, L_1424, L_1425, L_1489, L_1510, L_9999, L_10000, nI_add, nI_mul, u_lt_t, u_lt_f, u_le_t, u_le_f, u_eq_t, u_eq_f, u_mlt, u_ltm, u_eqm, u_meq, u_mle, u_b0, u_b1, u_ix, u_cl, u_sub, u_suc, u_z0, u_0m, cI_0, cI_s, rI_e, rI_k, rI_j, rI_l, rL_e, rL_k, rL_j, rL_i, told11, none11, refuse12, no11q, no12q, yes11q, if_true, if_false, ite_true, ite_false, ne_eq, not_true_eq_false, not_false_eq_true, Classical.not_not, Bool.not_eq_true, Bool.not_eq_false, reduceCtorEq, Nat.add_zero, Nat.zero_add, Nat.mul_zero, and_self, and_true, true_and, Bool.true_eq_false, Bool.false_eq_true, eq_self]
    exact hm.2
  unfold F11_luck
  rcases ix_or p 2 (by omega) with ⟨s, hs, rfl⟩ | ho
  rotate_left
  · rw [isSide_out ho, bn_s, if_neg (by decide)]
    try simp (disch := first | omega | assumption) only [lt_e, bn_s, ck_t, nk0, nk1, nk_b, bI_t, bI_f, L_0, L_1, L_2, L_3, L_4, L_5, L_6, L_7, L_8, L_9, L_10, L_11, L_12, L_15, L_20, L_25, L_30, L_45, L_60, L_65, L_69, L_74, L_79, L_84, L_85, L_86, L_99, L_100, L_255, L_300, L_356, L_900, L_1424, L_1425, L_1489, L_1510, L_9999, L_10000, nI_add, nI_mul, u_lt_t, u_lt_f, u_le_t, u_le_f, u_eq_t, u_eq_f, u_mlt, u_ltm, u_eqm, u_meq, u_mle, u_b0, u_b1, u_ix, u_cl, u_sub, u_suc, u_z0, u_0m, cI_0, cI_s, rI_e, rI_k, rI_j, rI_l, rL_e, rL_k, rL_j, rL_i, told11, none11, refuse12, no11q, no12q, yes11q, if_true, if_false, ite_true, ite_false, ne_eq, not_true_eq_false, not_false_eq_true, Classical.not_not, Bool.not_eq_true, Bool.not_eq_false, reduceCtorEq, Nat.add_zero, Nat.zero_add, Nat.mul_zero, and_self, and_true, true_and, Bool.true_eq_false, Bool.false_eq_true, eq_self]
    refine wp_some.mpr ?_
    unfold F12_luck
    rw [lt_e, lt_e, isSideAt_out ho, bn_s, if_neg (by decide)]
    try simp (disch := first | omega | assumption) only [lt_e, bn_s, ck_t, nk0, nk1, nk_b, bI_t, bI_f, L_0, L_1, L_2, L_3, L_4, L_5, L_6, L_7, L_8, L_9, L_10, L_11, L_12, L_15, L_20, L_25, L_30, L_45, L_60, L_65, L_69, L_74, L_79, L_84, L_85, L_86, L_99, L_100, L_255, L_300, L_356, L_900, L_1424, L_1425, L_1489, L_1510, L_9999, L_10000, nI_add, nI_mul, u_lt_t, u_lt_f, u_le_t, u_le_f, u_eq_t, u_eq_f, u_mlt, u_ltm, u_eqm, u_meq, u_mle, u_b0, u_b1, u_ix, u_cl, u_sub, u_suc, u_z0, u_0m, cI_0, cI_s, rI_e, rI_k, rI_j, rI_l, rL_e, rL_k, rL_j, rL_i, told11, none11, refuse12, no11q, no12q, yes11q, if_true, if_false, ite_true, ite_false, ne_eq, not_true_eq_false, not_false_eq_true, Classical.not_not, Bool.not_eq_true, Bool.not_eq_false, reduceCtorEq, Nat.add_zero, Nat.zero_add, Nat.mul_zero, and_self, and_true, true_and, Bool.true_eq_false, Bool.false_eq_true, eq_self]
    exact wp_some.mpr ⟨rfl, no _⟩
  rw [isSide_in hs, bn_s, if_pos (by decide)]
  have hk5 : gk H ≤ 5 := w.2.2.1
  have hpl := pc_le (gS H) 20
  -- the model
  have model : ∀ (τ : Ms) (Q : Int32 → Ms → Prop), (∀ j, τ.1 5 j = σ.1 5 j) → (¬ LL H → Q (nI 0) (sI (sI (sI τ 0 1 (nI 0)) 0 0 (nI 0)) 0 0 (nI 9))) → (LL H → Q (nI 1) (sL (sL (sI (sI τ 0 1 (nI 0)) 0 0 (nI 0)) 0 2 (zL (frT ((lk (gn H) (gc H) (go H) 7 (gS H) s : Nat) : Int) (wh (pc (gS H) 20))))) 0 3 (zL (frB ((lk (gn H) (gc H) (go H) 7 (gS H) s : Nat) : Int) (wh (pc (gS H) 20)))))) → wp (F12_luck N (nI s) τ) Q := fun τ Q h5 hno hyes => by
    have mg : MG 0 H (sI (sI τ 0 1 (nI 0)) 0 0 (nI 0)) := m.mv fun j => by
      try simp (disch := first | omega | assumption) only [lt_e, bn_s, ck_t, nk0, nk1, nk_b, bI_t, bI_f, L_0, L_1, L_2, L_3, L_4, L_5, L_6, L_7, L_8, L_9, L_10, L_11, L_12, L_15, L_20, L_25, L_30, L_45, L_60, L_65, L_69, L_74, L_79, L_84, L_85, L_86, L_99, L_100, L_255, L_300, L_356, L_900, L_1424, L_1425, L_1489, L_1510, L_9999, L_10000, nI_add, nI_mul, u_lt_t, u_lt_f, u_le_t, u_le_f, u_eq_t, u_eq_f, u_mlt, u_ltm, u_eqm, u_meq, u_mle, u_b0, u_b1, u_ix, u_cl, u_sub, u_suc, u_z0, u_0m, cI_0, cI_s, rI_e, rI_k, rI_j, rI_l, rL_e, rL_k, rL_j, rL_i, told11, none11, refuse12, no11q, no12q, yes11q, if_true, if_false, ite_true, ite_false, ne_eq, not_true_eq_false, not_false_eq_true, Classical.not_not, Bool.not_eq_true, Bool.not_eq_false, reduceCtorEq, Nat.add_zero, Nat.zero_add, Nat.mul_zero, and_self, and_true, true_and, Bool.true_eq_false, Bool.false_eq_true, eq_self]
      exact h5 j
    unfold F12_luck F12_luck_b65 F12_luck_b66
    rw [lt_e, lt_e, show (0 : Int32) = nI 0 from rfl, isSideAt_in hs, bn_s, if_pos (by decide), standing_ok (by omega) w.1 mg.1, bn_s, sizeOf_ok (by omega) w.S, bn_s]
    have f0 : ¬ LL H → wp (F12_luck_b69 N (nI s) (nI 0) 0 (sI (sI τ 0 1 (nI 0)) 0 0 (nI 0))) Q := fun z => mLL_h hN w mg hs (by omega) (fun _ => hno z) fun v => absurd v (by decide)
    by_cases q1 : pc (gS H) 20 ≤ 6
    rotate_left
    · rw [show (6 : Int32) = nI 6 from rfl, if_pos (nI_lt (by omega) (by omega))]
      exact f0 fun z => q1 z.1
    rw [show (6 : Int32) = nI 6 from rfl, if_neg (nI_nlt (by omega) (by omega)), taken_ok (by omega) w.2.2 mg.2.2, bn_s, show ixb (2 : Int32) 1780 = true by decide, ck_t, show (2 : Int32).toNatClampNeg = 2 by decide, mg.2.2.at0.1, show (1 : Int32) = nI 1 from rfl, u_shl1 _ (by omega), nI_sub (Nat.two_pow_pos _)]
    have hT : gT H < 2 ^ gk H := w.2.2.2.1
    have hk32 : 2 ^ gk H ≤ 32 := Nat.pow_le_pow_right (n := 2) (by decide) hk5
    have hall : (∀ i, i < gk H → (gT H).testBit i = true) ↔ gT H = 2 ^ gk H - 1 := by
      constructor
      · intro h
        refine bits_eq (n := gk H) hT (by have := Nat.two_pow_pos (gk H); omega) fun i hi => ?_
        rw [h i hi, Nat.testBit_two_pow_sub_one, decide_eq_true hi]
      · intro h i hi
        rw [h, Nat.testBit_two_pow_sub_one, decide_eq_true hi]
    by_cases q2 : gT H = 2 ^ gk H - 1
    rotate_left
    · rw [if_pos (by exact fun z => q2 ((nI_eq (by omega) (by omega)).mp z))]
      exact f0 fun z => q2 (hall.mp z.2.2.1)
    rw [if_neg (by exact fun z => z (by rw [q2])), show ixb (3 : Int32) 1780 = true by decide, ck_t, show (3 : Int32).toNatClampNeg = 3 by decide, mg.2.2.at0.2.1]
    by_cases q3 : gz H = 0
    rotate_left
    · rw [if_pos (by exact fun z => q3 ((z_0 w.z).mp z))]
      exact f0 fun z => q3 z.2.1
    rw [if_neg (by exact fun z => z ((z_0 w.z).mpr q3))]
    refine mLL_h hN w mg hs (by omega) (fun z => hno fun v => ?_) fun _ h => ⟨q1, hyes ⟨q1, q3, hall.mpr q2, h⟩⟩
    rcases z with z | ⟨i, hi, z⟩
    · exact absurd z (by decide)
    · exact z (v.2.2.2 i hi)
  refine wp_bn.mpr (wp_mono (cLL hN w c) ?_)
  rintro r τ ⟨⟨hL, rfl⟩ | ⟨hL, rfl⟩, rfl⟩
  rotate_left
  · rw [if_neg (by decide)]
    try simp (disch := first | omega | assumption) only [lt_e, bn_s, ck_t, nk0, nk1, nk_b, bI_t, bI_f, L_0, L_1, L_2, L_3, L_4, L_5, L_6, L_7, L_8, L_9, L_10, L_11, L_12, L_15, L_20, L_25, L_30, L_45, L_60, L_65, L_69, L_74, L_79, L_84, L_85, L_86, L_99, L_100, L_255, L_300, L_356, L_900, L_1424, L_1425, L_1489, L_1510, L_9999, L_10000, nI_add, nI_mul, u_lt_t, u_lt_f, u_le_t, u_le_f, u_eq_t, u_eq_f, u_mlt, u_ltm, u_eqm, u_meq, u_mle, u_b0, u_b1, u_ix, u_cl, u_sub, u_suc, u_z0, u_0m, cI_0, cI_s, rI_e, rI_k, rI_j, rI_l, rL_e, rL_k, rL_j, rL_i, told11, none11, refuse12, no11q, no12q, yes11q, if_true, if_false, ite_true, ite_false, ne_eq, not_true_eq_false, not_false_eq_true, Classical.not_not, Bool.not_eq_true, Bool.not_eq_false, reduceCtorEq, Nat.add_zero, Nat.zero_add, Nat.mul_zero, and_self, and_true, true_and, Bool.true_eq_false, Bool.false_eq_true, eq_self]
    refine wp_some.mpr (model _ _ (fun j => by try simp (disch := first | omega | assumption) only [lt_e, bn_s, ck_t, nk0, nk1, nk_b, bI_t, bI_f, L_0, L_1, L_2, L_3, L_4, L_5, L_6, L_7, L_8, L_9, L_10, L_11, L_12, L_15, L_20, L_25, L_30, L_45, L_60, L_65, L_69, L_74, L_79, L_84, L_85, L_86, L_99, L_100, L_255, L_300, L_356, L_900, L_1424, L_1425, L_1489, L_1510, L_9999, L_10000, nI_add, nI_mul, u_lt_t, u_lt_f, u_le_t, u_le_f, u_eq_t, u_eq_f, u_mlt, u_ltm, u_eqm, u_meq, u_mle, u_b0, u_b1, u_ix, u_cl, u_sub, u_suc, u_z0, u_0m, cI_0, cI_s, rI_e, rI_k, rI_j, rI_l, rL_e, rL_k, rL_j, rL_i, told11, none11, refuse12, no11q, no12q, yes11q, if_true, if_false, ite_true, ite_false, ne_eq, not_true_eq_false, not_false_eq_true, Classical.not_not, Bool.not_eq_true, Bool.not_eq_false, reduceCtorEq, Nat.add_zero, Nat.zero_add, Nat.mul_zero, and_self, and_true, true_and, Bool.true_eq_false, Bool.false_eq_true, eq_self]) (fun _ => ⟨rfl, no _⟩) fun z => absurd z hL)
  rw [if_pos (by decide)]
  refine wp_bn.mpr (wp_mono (wp_fr (left_ok hN w.1 hL.1 c.1 hs) (fr_F7_oddsOfLeft 22 N (nI s) _)) ?_)
  rintro r t ⟨hr, F⟩
  have hl := lk_le (col := gc H) w.o w.n 7 (gS H) s (by have := hL.1; omega)
  have hw := wh_6 _ hL.1
  have hX := X_0 _ hL.1
  have hXp : 0 < Xw (pc (gS H) 20) := Nat.pos_of_ne_zero fun z => by rw [z] at hX; omega
  have hb : lk (gn H) (gc H) (go H) 7 (gS H) s * Xw (pc (gS H) 20) ≤ 46656000000 := by
    rw [← hX]
    exact Nat.mul_le_mul_right _ hl
  rw [hr 7 (by have := hL.1; omega), show (46656000000 : Int64) = zL ((46656000000 : Nat) : Int) by decide, fr11 hN (by omega) (by omega) (by decide) (by decide), bn_s, show nkB (nI 1) = true by decide, ck_t]
  refine wp_some.mpr (model _ _ (fun j => ?_) (fun z => absurd hL z) fun _ => ⟨rfl, ?_⟩)
  · try simp (disch := first | omega | assumption) only [lt_e, bn_s, ck_t, nk0, nk1, nk_b, bI_t, bI_f, L_0, L_1, L_2, L_3, L_4, L_5, L_6, L_7, L_8, L_9, L_10, L_11, L_12, L_15, L_20, L_25, L_30, L_45, L_60, L_65, L_69, L_74, L_79, L_84, L_85, L_86, L_99, L_100, L_255, L_300, L_356, L_900, L_1424, L_1425, L_1489, L_1510, L_9999, L_10000, nI_add, nI_mul, u_lt_t, u_lt_f, u_le_t, u_le_f, u_eq_t, u_eq_f, u_mlt, u_ltm, u_eqm, u_meq, u_mle, u_b0, u_b1, u_ix, u_cl, u_sub, u_suc, u_z0, u_0m, cI_0, cI_s, rI_e, rI_k, rI_j, rI_l, rL_e, rL_k, rL_j, rL_i, told11, none11, refuse12, no11q, no12q, yes11q, if_true, if_false, ite_true, ite_false, ne_eq, not_true_eq_false, not_false_eq_true, Classical.not_not, Bool.not_eq_true, Bool.not_eq_false, reduceCtorEq, Nat.add_zero, Nat.zero_add, Nat.mul_zero, and_self, and_true, true_and, Bool.true_eq_false, Bool.false_eq_true, eq_self]
    exact (F.keep (D := [(5, none)]) rfl (In_a 0 rfl)).1
  have e := fr_scale ((lk (gn H) (gc H) (go H) 7 (gS H) s : Nat) : Int) (wh (pc (gS H) 20)) (Xw (pc (gS H) 20)) hXp
  rw [← Int.natCast_mul, Nat.mul_comm (Xw _), Nat.mul_comm (Xw _), hX] at e
  exact fr_misc (T := ((lk (gn H) (gc H) (go H) 7 (gS H) s * Xw (pc (gS H) 20) : Nat) : Int)) (B := 46656000000) (T' := ((lk (gn H) (gc H) (go H) 7 (gS H) s : Nat) : Int)) (B' := wh (pc (gS H) 20)) e (by try simp (disch := first | omega | assumption) only [lt_e, bn_s, ck_t, nk0, nk1, nk_b, bI_t, bI_f, L_0, L_1, L_2, L_3, L_4, L_5, L_6, L_7, L_8, L_9, L_10, L_11, L_12, L_15, L_20, L_25, L_30, L_45, L_60, L_65, L_69, L_74, L_79, L_84, L_85, L_86, L_99, L_100, L_255, L_300, L_356, L_900, L_1424, L_1425, L_1489, L_1510, L_9999, L_10000, nI_add, nI_mul, u_lt_t, u_lt_f, u_le_t, u_le_f, u_eq_t, u_eq_f, u_mlt, u_ltm, u_eqm, u_meq, u_mle, u_b0, u_b1, u_ix, u_cl, u_sub, u_suc, u_z0, u_0m, cI_0, cI_s, rI_e, rI_k, rI_j, rI_l, rL_e, rL_k, rL_j, rL_i, told11, none11, refuse12, no11q, no12q, yes11q, if_true, if_false, ite_true, ite_false, ne_eq, not_true_eq_false, not_false_eq_true, Classical.not_not, Bool.not_eq_true, Bool.not_eq_false, reduceCtorEq, Nat.add_zero, Nat.zero_add, Nat.mul_zero, and_self, and_true, true_and, Bool.true_eq_false, Bool.false_eq_true, eq_self]) (by try simp (disch := first | omega | assumption) only [lt_e, bn_s, ck_t, nk0, nk1, nk_b, bI_t, bI_f, L_0, L_1, L_2, L_3, L_4, L_5, L_6, L_7, L_8, L_9, L_10, L_11, L_12, L_15, L_20, L_25, L_30, L_45, L_60, L_65, L_69, L_74, L_79, L_84, L_85, L_86, L_99, L_100, L_255, L_300, L_356, L_900, L_1424, L_1425, L_1489, L_1510, L_9999, L_10000, nI_add, nI_mul, u_lt_t, u_lt_f, u_le_t, u_le_f, u_eq_t, u_eq_f, u_mlt, u_ltm, u_eqm, u_meq, u_mle, u_b0, u_b1, u_ix, u_cl, u_sub, u_suc, u_z0, u_0m, cI_0, cI_s, rI_e, rI_k, rI_j, rI_l, rL_e, rL_k, rL_j, rL_i, told11, none11, refuse12, no11q, no12q, yes11q, if_true, if_false, ite_true, ite_false, ne_eq, not_true_eq_false, not_false_eq_true, Classical.not_not, Bool.not_eq_true, Bool.not_eq_false, reduceCtorEq, Nat.add_zero, Nat.zero_add, Nat.mul_zero, and_self, and_true, true_and, Bool.true_eq_false, Bool.false_eq_true, eq_self]) (by try simp (disch := first | omega | assumption) only [lt_e, bn_s, ck_t, nk0, nk1, nk_b, bI_t, bI_f, L_0, L_1, L_2, L_3, L_4, L_5, L_6, L_7, L_8, L_9, L_10, L_11, L_12, L_15, L_20, L_25, L_30, L_45, L_60, L_65, L_69, L_74, L_79, L_84, L_85, L_86, L_99, L_100, L_255, L_300, L_356, L_900, L_1424, L_1425, L_1489, L_1510, L_9999, L_10000, nI_add, nI_mul, u_lt_t, u_lt_f, u_le_t, u_le_f, u_eq_t, u_eq_f, u_mlt, u_ltm, u_eqm, u_meq, u_mle, u_b0, u_b1, u_ix, u_cl, u_sub, u_suc, u_z0, u_0m, cI_0, cI_s, rI_e, rI_k, rI_j, rI_l, rL_e, rL_k, rL_j, rL_i, told11, none11, refuse12, no11q, no12q, yes11q, if_true, if_false, ite_true, ite_false, ne_eq, not_true_eq_false, not_false_eq_true, Classical.not_not, Bool.not_eq_true, Bool.not_eq_false, reduceCtorEq, Nat.add_zero, Nat.zero_add, Nat.mul_zero, and_self, and_true, true_and, Bool.true_eq_false, Bool.false_eq_true, eq_self]) (by try simp (disch := first | omega | assumption) only [lt_e, bn_s, ck_t, nk0, nk1, nk_b, bI_t, bI_f, L_0, L_1, L_2, L_3, L_4, L_5, L_6, L_7, L_8, L_9, L_10, L_11, L_12, L_15, L_20, L_25, L_30, L_45, L_60, L_65, L_69, L_74, L_79, L_84, L_85, L_86, L_99, L_100, L_255, L_300, L_356, L_900, L_1424, L_1425, L_1489, L_1510, L_9999, L_10000, nI_add, nI_mul, u_lt_t, u_lt_f, u_le_t, u_le_f, u_eq_t, u_eq_f, u_mlt, u_ltm, u_eqm, u_meq, u_mle, u_b0, u_b1, u_ix, u_cl, u_sub, u_suc, u_z0, u_0m, cI_0, cI_s, rI_e, rI_k, rI_j, rI_l, rL_e, rL_k, rL_j, rL_i, told11, none11, refuse12, no11q, no12q, yes11q, if_true, if_false, ite_true, ite_false, ne_eq, not_true_eq_false, not_false_eq_true, Classical.not_not, Bool.not_eq_true, Bool.not_eq_false, reduceCtorEq, Nat.add_zero, Nat.zero_add, Nat.mul_zero, and_self, and_true, true_and, Bool.true_eq_false, Bool.false_eq_true, eq_self]) (by try simp (disch := first | omega | assumption) only [lt_e, bn_s, ck_t, nk0, nk1, nk_b, bI_t, bI_f, L_0, L_1, L_2, L_3, L_4, L_5, L_6, L_7, L_8, L_9, L_10, L_11, L_12, L_15, L_20, L_25, L_30, L_45, L_60, L_65, L_69, L_74, L_79, L_84, L_85, L_86, L_99, L_100, L_255, L_300, L_356, L_900, L_1424, L_1425, L_1489, L_1510, L_9999, L_10000, nI_add, nI_mul, u_lt_t, u_lt_f, u_le_t, u_le_f, u_eq_t, u_eq_f, u_mlt, u_ltm, u_eqm, u_meq, u_mle, u_b0, u_b1, u_ix, u_cl, u_sub, u_suc, u_z0, u_0m, cI_0, cI_s, rI_e, rI_k, rI_j, rI_l, rL_e, rL_k, rL_j, rL_i, told11, none11, refuse12, no11q, no12q, yes11q, if_true, if_false, ite_true, ite_false, ne_eq, not_true_eq_false, not_false_eq_true, Classical.not_not, Bool.not_eq_true, Bool.not_eq_false, reduceCtorEq, Nat.add_zero, Nat.zero_add, Nat.mul_zero, and_self, and_true, true_and, Bool.true_eq_false, Bool.false_eq_true, eq_self])
