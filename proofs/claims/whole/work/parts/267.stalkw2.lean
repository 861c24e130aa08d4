def gd (A : Nat → Int64) (n : Nat) : Prop := ∀ j, j < n → A j = 0 ∨ A j = 1
def dz (A : Nat → Int64) (j : Nat) : Nat := if A j = 0 then 0 else 1
theorem dz_i {A : Nat → Int64} {j : Nat} (h : A j = 0 ∨ A j = 1) : (A j).toInt32 = nI (dz A j) := by
  unfold dz
  rcases h with h | h <;> rw [h] <;> rfl
theorem dz_le (A : Nat → Int64) (j : Nat) : dz A j ≤ 2 := by
  unfold dz
  split <;> omega
theorem in01 (x : Int64) (σ : Ms) : F12_isIn x 0 1 σ = some (if x = 0 ∨ x = 1 then nI 1 else nI 0, σ) := by
  rw [isIn_ok, show (0 : Int64).toInt = 0 from rfl, show (1 : Int64).toInt = 1 from by decide]
  have h0 : x = 0 ↔ x.toInt = 0 := Int64.toInt_inj.symm
  have h1 : x = 1 ↔ x.toInt = 1 := Int64.toInt_inj.symm
  by_cases h : x = 0 ∨ x = 1
  · rw [if_pos h, if_pos (by rw [h0, h1] at h; omega)]; rfl
  · rw [if_neg h, if_neg (by rw [h0, h1] at h; omega)]; rfl
theorem cI_suc (m : Nat) : nI m + (-1 : Int32) = cI m := u_dec m
theorem cI_lt (m : Nat) (hm : m < 100) : (cI m < 0) ↔ m = 0 := by
  rcases Nat.eq_zero_or_pos m with rfl | h
  · exact ⟨fun _ => rfl, fun _ => by decide⟩
  · obtain ⟨k, rfl⟩ : ∃ k, m = k + 1 := ⟨m - 1, by omega⟩
    rw [cI_s]
    exact ⟨fun z => absurd z (nI_pos (by omega)), fun z => by omega⟩
theorem cStalkw {N t n k : Nat} {σ : Ms} (hN : 100 < N) (ht : t < 4) (hk : k ≤ 60) (e : σ.1 15 t = nI k) (hn : n ≤ k) (hn2 : n ≤ 20) : wp (F11_stalkWorth_b76 N (nI t) 0 (cI n) σ) fun r τ => (gd (σ.2 (16 + t)) n ∧ r = nI 1 ∧ τ = sI (sL (sL σ 11 18 (zL (frT (stw (dz (σ.2 (16 + t))) n n) 1048576))) 11 19 (zL (frB (stw (dz (σ.2 (16 + t))) n n) 1048576))) 11 17 (nI 0)) ∨ (¬ gd (σ.2 (16 + t)) n ∧ r = nI 0 ∧ τ = sI σ 11 17 (nI 5)) := by
  unfold F11_stalkWorth_b76
  refine wp_fx (fun m x => m ≤ n ∧ (∀ j, m ≤ j → j < n → σ.2 (16 + t) j = 0 ∨ σ.2 (16 + t) j = 1) ∧ x = (nI t, zL (1024 * stw (dz (σ.2 (16 + t))) n (n - m)), cI m, σ)) ?_ (n := n) (by omega) ⟨Nat.le_refl _, fun j h1 h2 => by omega, by rw [Nat.sub_self]; rfl⟩
  rintro m c _ ⟨hm, hg, rfl⟩ hc
  simp only
  unfold F11_stalkWorth_b76B
  have hok := stw_ok (dz (σ.2 (16 + t))) n (n - m) (by omega)
  rcases Nat.eq_zero_or_pos m with rfl | h
  · rw [if_pos ((cI_lt 0 (by omega)).mpr rfl)]
    rw [Nat.sub_zero] at hok ⊢
    have hb : -1125899906842624 < stw (dz (σ.2 (16 + t))) n n ∧ stw (dz (σ.2 (16 + t))) n n < 1125899906842624 := by
      obtain ⟨d, _, h2, _⟩ := hok
      omega
    rw [tellNumber_ok hN hb.1 hb.2, bn_s, show nkB (nI 1) = true by decide, ck_t]
    exact wp_some.mpr (Or.inl ⟨fun j hj => hg j (by omega) hj, rfl, rfl⟩)
  obtain ⟨m', rfl⟩ : ∃ k, m = k + 1 := ⟨m - 1, by omega⟩
  rw [if_neg (by exact fun z => by have := (cI_lt _ (by omega)).mp z; omega), cI_s, at_ok ht hk e (by omega), bn_s]
  have step : (σ.2 (16 + t) m' = 0 ∨ σ.2 (16 + t) m' = 1) → wp (F11_stalkWorth_b113 N c (nI t) (zL (1024 * stw (dz (σ.2 (16 + t))) n (n - (m' + 1)))) (nI m') (σ.2 (16 + t) m') σ) fun r τ => (gd (σ.2 (16 + t)) n ∧ r = nI 1 ∧ τ = sI (sL (sL σ 11 18 (zL (frT (stw (dz (σ.2 (16 + t))) n n) 1048576))) 11 19 (zL (frB (stw (dz (σ.2 (16 + t))) n n) 1048576))) 11 17 (nI 0)) ∨ (¬ gd (σ.2 (16 + t)) n ∧ r = nI 0 ∧ τ = sI σ 11 17 (nI 5)) := fun hx => by
    unfold F11_stalkWorth_b113
    rw [dz_i hx, branch_ok hok (by omega) (dz_le _ _), bn_s, cI_suc]
    refine hc m' _ (by omega) ⟨by omega, fun j h1 h2 => ?_, ?_⟩
    · rcases Nat.eq_or_lt_of_le h1 with rfl | h3
      · exact hx
      · exact hg j h3 h2
    · rw [show n - m' = (n - (m' + 1)) + 1 by omega]
      unfold stw
      rw [show n - ((n - (m' + 1)) + 1) = m' by omega]
      cases n - (m' + 1) <;> rfl
  by_cases h0 : σ.2 (16 + t) m' = 0
  · rw [if_pos (cmp_eq.mpr h0)]
    exact step (Or.inl h0)
  rw [if_neg (by exact fun z => h0 (cmp_eq.mp z))]
  by_cases h1 : σ.2 (16 + t) m' = 1
  · rw [if_pos (cmp_eq.mpr h1)]
    exact step (Or.inr h1)
  rw [if_neg (by exact fun z => h1 (cmp_eq.mp z)), show (5 : Int32) = nI 5 from rfl, no11q, bn_s, show nkB (nI 0) = true by decide, ck_t]
  exact wp_some.mpr (Or.inr ⟨fun z => (z m' (by omega)).elim h0 h1, rfl, rfl⟩)
theorem mStalkw {N t n : Nat} {σ : Ms} (hN : 100 < N) (ht : t < 4) (hn2 : n ≤ 20) (hg : gd (fun j => σ.2 3 (60 * t + j)) n) (hf : wp (F12_fraction N (zL (stw (dz fun j => σ.2 3 (60 * t + j)) n n)) (1048576 : Int64) σ) fun r τ => r = nI 1 ∧ I_misc τ) : wp (F12_stalkWorth_b113 N (nI t) 0 (cI n) σ) fun r τ => r = nI 1 ∧ I_misc τ := by
  unfold F12_stalkWorth_b113
  refine wp_fx (fun m x => m ≤ n ∧ x = (nI t, zL (stw (dz fun j => σ.2 3 (60 * t + j)) n (n - m)), cI m, σ)) ?_ (n := n) (by omega) ⟨Nat.le_refl _, by rw [Nat.sub_self]; rfl⟩
  rintro m c _ ⟨hm, rfl⟩ hc
  simp only
  unfold F12_stalkWorth_b113B
  have hok := stw_ok (dz fun j => σ.2 3 (60 * t + j)) n (n - m) (by omega)
  rcases Nat.eq_zero_or_pos m with rfl | h
  · rw [if_pos ((cI_lt 0 (by omega)).mpr rfl)]
    rw [Nat.sub_zero]
    refine wp_bn.mpr (wp_mono hf ?_)
    rintro _ τ ⟨rfl, h⟩
    rw [show nkB (nI 1) = true by decide, ck_t]
    exact wp_some.mpr ⟨rfl, h⟩
  obtain ⟨m', rfl⟩ : ∃ k, m = k + 1 := ⟨m - 1, by omega⟩
  rw [if_neg (by exact fun z => by have := (cI_lt _ (by omega)).mp z; omega), cI_s, numberOf_ok ht (by omega), bn_s, dz_i (A := fun j => σ.2 3 (60 * t + j)) (hg m' (by omega)), branchWorth_ok (by omega) hok (by omega) (dz_le _ _), bn_s, cI_suc]
  refine hc m' _ (by omega) ⟨by omega, ?_⟩
  rw [show n - m' = (n - (m' + 1)) + 1 by omega]
  unfold stw
  rw [show n - ((n - (m' + 1)) + 1) = m' by omega]
  cases n - (m' + 1) <;> rfl
theorem mStalkc {N t n : Nat} {σ : Ms} (hN : 100 < N) (ht : t < 4) (hn2 : n ≤ 20) (hm : ¬ gd (fun j => σ.2 3 (60 * t + j)) n → I_misc (sI σ 0 0 (nI 5))) (hf : gd (fun j => σ.2 3 (60 * t + j)) n → wp (F12_fraction N (zL (stw (dz fun j => σ.2 3 (60 * t + j)) n n)) (1048576 : Int64) σ) fun r τ => r = nI 1 ∧ I_misc τ) : wp (F12_stalkWorth_b75 N (nI t) (nI n) 0 σ) fun r τ => (gd (fun j => σ.2 3 (60 * t + j)) n ∧ r = nI 1 ∧ I_misc τ) ∨ (¬ gd (fun j => σ.2 3 (60 * t + j)) n ∧ r = nI 0 ∧ I_misc τ) := by
  unfold F12_stalkWorth_b75
  refine wp_fx (fun m x => m ≤ n ∧ (∀ j, j < n - m → σ.2 3 (60 * t + j) = 0 ∨ σ.2 3 (60 * t + j) = 1) ∧ x = (nI t, nI n, nI (n - m), σ)) ?_ (n := n) (by omega) ⟨Nat.le_refl _, fun j h => by omega, by rw [Nat.sub_self]; rfl⟩
  rintro m c _ ⟨hmn, hg, rfl⟩ hc
  simp only
  unfold F12_stalkWorth_b75B
  rcases Nat.eq_zero_or_pos m with rfl | h
  · have hg' : gd (fun j => σ.2 3 (60 * t + j)) n := fun j hj => hg j (by omega)
    rw [if_pos (nI_le (by omega) (by omega)), show nI n - (1 : Int32) = cI n from rfl, lt_e]
    exact wp_mono (mStalkw hN ht hn2 hg' (hf hg')) fun r τ h => Or.inl ⟨hg', h⟩
  rw [if_neg (nI_ge (by omega) (by omega)), numberOf_ok ht (by omega), bn_s, in01, bn_s]
  by_cases hx : σ.2 3 (60 * t + (n - m)) = 0 ∨ σ.2 3 (60 * t + (n - m)) = 1
  · rw [if_pos hx, if_pos (by decide), show (1 : Int32) = nI 1 from rfl, nI_add]
    refine hc (m - 1) _ (by omega) ⟨by omega, fun j hj => ?_, by rw [show n - (m - 1) = n - m + 1 by omega]⟩
    rcases Nat.eq_or_lt_of_le (show j ≤ n - m by omega) with rfl | h3
    · exact hx
    · exact hg j h3
  · have hng : ¬ gd (fun j => σ.2 3 (60 * t + j)) n := fun z => hx (z (n - m) (by omega))
    rw [if_neg hx, if_neg (by decide), show (5 : Int32) = nI 5 from rfl, no12q, bn_s, show nkB (nI 0) = true by decide, ck_t]
    exact wp_some.mpr (Or.inr ⟨hng, rfl, hm hng⟩)
theorem isTray12_out {p : Int32} (hp : ¬ ∃ t, t < 4 ∧ p = nI t) (σ : Ms) : F12_isTray p σ = some (nI 0, σ) := by
  unfold F12_isTray
  rw [isInO (c := 3) rfl hp, bn_s]
  rfl
theorem R_stalkWorth {N : Nat} (hN : 100 < N) (p q : Int32) (σ : Ms) (hm : I_misc σ) (hT : I_tray σ) : wp (F11_stalkWorth N p q σ) fun r t => wp (F12_stalkWorth N p q t) fun r' t' => r = r' ∧ I_misc t' := by
  have no : ∀ a : Int32, I_misc (sI (sI (sI (sI σ 11 17 a) 0 1 (nI 0)) 0 0 (nI 0)) 0 0 a) := fun a => by
    unfold I_misc at *
    try simp (disch := first | omega | assumption) only [lt_e, bn_s, ck_t, nk0, nk1, nk_b, bI_t, bI_f, L_0, L_1, L_2, L_3, L_4, L_5, L_6, L_7, L_8, L_9, L_10, L_11, L_12, L_15, L_20, L_25, L_30, L_45, L_60, L_65, L_69, L_74, L_79, L_84, L_85, L_86, L_99, L_100, L_255, L_300, L_356, L_900, L_1424, L_1425, L_1489, L_1510, L_9999, L_10000, nI_add, nI_mul, u_lt_t, u_lt_f, u_le_t, u_le_f, u_eq_t, u_eq_f, u_mlt, u_ltm, u_eqm, u_meq, u_mle, u_b0, u_b1, u_ix, u_cl, u_sub, u_suc, u_z0, u_0m, cI_0, cI_s, rI_e, rI_k, rI_j, rI_l, rL_e, rL_k, rL_j, rL_i, told11, none11, refuse12, no11q, no12q, yes11q, if_true, if_false, ite_true, ite_false, ne_eq, not_true_eq_false, not_false_eq_true, Classical.not_not, Bool.not_eq_true, Bool.not_eq_false, reduceCtorEq, Nat.add_zero, Nat.zero_add, Nat.mul_zero, and_self, and_true, true_and, Bool.true_eq_false, Bool.false_eq_true, eq_self]
    exact hm.2
  unfold F11_stalkWorth
  by_cases hp : ∃ t, t < 4 ∧ p = nI t
  rotate_left
  · rw [isTray_out hp, bn_s, if_neg (by decide)]
    try simp (disch := first | omega | assumption) only [lt_e, bn_s, ck_t, nk0, nk1, nk_b, bI_t, bI_f, L_0, L_1, L_2, L_3, L_4, L_5, L_6, L_7, L_8, L_9, L_10, L_11, L_12, L_15, L_20, L_25, L_30, L_45, L_60, L_65, L_69, L_74, L_79, L_84, L_85, L_86, L_99, L_100, L_255, L_300, L_356, L_900, L_1424, L_1425, L_1489, L_1510, L_9999, L_10000, nI_add, nI_mul, u_lt_t, u_lt_f, u_le_t, u_le_f, u_eq_t, u_eq_f, u_mlt, u_ltm, u_eqm, u_meq, u_mle, u_b0, u_b1, u_ix, u_cl, u_sub, u_suc, u_z0, u_0m, cI_0, cI_s, rI_e, rI_k, rI_j, rI_l, rL_e, rL_k, rL_j, rL_i, told11, none11, refuse12, no11q, no12q, yes11q, if_true, if_false, ite_true, ite_false, ne_eq, not_true_eq_false, not_false_eq_true, Classical.not_not, Bool.not_eq_true, Bool.not_eq_false, reduceCtorEq, Nat.add_zero, Nat.zero_add, Nat.mul_zero, and_self, and_true, true_and, Bool.true_eq_false, Bool.false_eq_true, eq_self]
    refine wp_some.mpr ?_
    unfold F12_stalkWorth
    try simp (disch := first | omega | assumption) only [lt_e, bn_s, ck_t, nk0, nk1, nk_b, bI_t, bI_f, L_0, L_1, L_2, L_3, L_4, L_5, L_6, L_7, L_8, L_9, L_10, L_11, L_12, L_15, L_20, L_25, L_30, L_45, L_60, L_65, L_69, L_74, L_79, L_84, L_85, L_86, L_99, L_100, L_255, L_300, L_356, L_900, L_1424, L_1425, L_1489, L_1510, L_9999, L_10000, nI_add, nI_mul, u_lt_t, u_lt_f, u_le_t, u_le_f, u_eq_t, u_eq_f, u_mlt, u_ltm, u_eqm, u_meq, u_mle, u_b0, u_b1, u_ix, u_cl, u_sub, u_suc, u_z0, u_0m, cI_0, cI_s, rI_e, rI_k, rI_j, rI_l, rL_e, rL_k, rL_j, rL_i, told11, none11, refuse12, no11q, no12q, yes11q, if_true, if_false, ite_true, ite_false, ne_eq, not_true_eq_false, not_false_eq_true, Classical.not_not, Bool.not_eq_true, Bool.not_eq_false, reduceCtorEq, Nat.add_zero, Nat.zero_add, Nat.mul_zero, and_self, and_true, true_and, Bool.true_eq_false, Bool.false_eq_true, eq_self, isTray12_out hp]
    exact wp_some.mpr ⟨rfl, no _⟩
  obtain ⟨t, ht, rfl⟩ := hp
  obtain ⟨e15, e2, -, -, ec⟩ := hT t ht
  rw [isTray_in ht, bn_s, if_pos (by decide)]
  have i4 : ∀ {n : Nat}, ixb (nI t) 4 = true := fun {n} => ixb_nI ht (by omega)
  rcases e2 with e2 | ⟨k, hk, e2⟩
  · rw [missing_yes ht (by rw [e15, e2]), bn_s, if_neg (by decide)]
    try simp (disch := first | omega | assumption) only [lt_e, bn_s, ck_t, nk0, nk1, nk_b, bI_t, bI_f, L_0, L_1, L_2, L_3, L_4, L_5, L_6, L_7, L_8, L_9, L_10, L_11, L_12, L_15, L_20, L_25, L_30, L_45, L_60, L_65, L_69, L_74, L_79, L_84, L_85, L_86, L_99, L_100, L_255, L_300, L_356, L_900, L_1424, L_1425, L_1489, L_1510, L_9999, L_10000, nI_add, nI_mul, u_lt_t, u_lt_f, u_le_t, u_le_f, u_eq_t, u_eq_f, u_mlt, u_ltm, u_eqm, u_meq, u_mle, u_b0, u_b1, u_ix, u_cl, u_sub, u_suc, u_z0, u_0m, cI_0, cI_s, rI_e, rI_k, rI_j, rI_l, rL_e, rL_k, rL_j, rL_i, told11, none11, refuse12, no11q, no12q, yes11q, if_true, if_false, ite_true, ite_false, ne_eq, not_true_eq_false, not_false_eq_true, Classical.not_not, Bool.not_eq_true, Bool.not_eq_false, reduceCtorEq, Nat.add_zero, Nat.zero_add, Nat.mul_zero, and_self, and_true, true_and, Bool.true_eq_false, Bool.false_eq_true, eq_self]
    refine wp_some.mpr ?_
    unfold F12_stalkWorth
    try simp (disch := first | omega | assumption) only [lt_e, bn_s, ck_t, nk0, nk1, nk_b, bI_t, bI_f, L_0, L_1, L_2, L_3, L_4, L_5, L_6, L_7, L_8, L_9, L_10, L_11, L_12, L_15, L_20, L_25, L_30, L_45, L_60, L_65, L_69, L_74, L_79, L_84, L_85, L_86, L_99, L_100, L_255, L_300, L_356, L_900, L_1424, L_1425, L_1489, L_1510, L_9999, L_10000, nI_add, nI_mul, u_lt_t, u_lt_f, u_le_t, u_le_f, u_eq_t, u_eq_f, u_mlt, u_ltm, u_eqm, u_meq, u_mle, u_b0, u_b1, u_ix, u_cl, u_sub, u_suc, u_z0, u_0m, cI_0, cI_s, rI_e, rI_k, rI_j, rI_l, rL_e, rL_k, rL_j, rL_i, told11, none11, refuse12, no11q, no12q, yes11q, if_true, if_false, ite_true, ite_false, ne_eq, not_true_eq_false, not_false_eq_true, Classical.not_not, Bool.not_eq_true, Bool.not_eq_false, reduceCtorEq, Nat.add_zero, Nat.zero_add, Nat.mul_zero, and_self, and_true, true_and, Bool.true_eq_false, Bool.false_eq_true, eq_self, isTray12_in ht, e2, show ¬ (0 : Int32) ≤ -1 by decide, show ¬ nI 0 ≤ (-1 : Int32) by decide]
    exact wp_some.mpr ⟨rfl, no _⟩
  rw [missing_no ht hk (by rw [e15, e2]), bn_s, if_pos (by rfl)]
  by_cases hq : q < 0
  · rw [if_pos hq]
    unfold F11_stalkWorth_b53
    rw [if_pos hq]
    unfold F11_stalkWorth_b63
    try simp (disch := first | omega | assumption) only [lt_e, bn_s, ck_t, nk0, nk1, nk_b, bI_t, bI_f, L_0, L_1, L_2, L_3, L_4, L_5, L_6, L_7, L_8, L_9, L_10, L_11, L_12, L_15, L_20, L_25, L_30, L_45, L_60, L_65, L_69, L_74, L_79, L_84, L_85, L_86, L_99, L_100, L_255, L_300, L_356, L_900, L_1424, L_1425, L_1489, L_1510, L_9999, L_10000, nI_add, nI_mul, u_lt_t, u_lt_f, u_le_t, u_le_f, u_eq_t, u_eq_f, u_mlt, u_ltm, u_eqm, u_meq, u_mle, u_b0, u_b1, u_ix, u_cl, u_sub, u_suc, u_z0, u_0m, cI_0, cI_s, rI_e, rI_k, rI_j, rI_l, rL_e, rL_k, rL_j, rL_i, told11, none11, refuse12, no11q, no12q, yes11q, if_true, if_false, ite_true, ite_false, ne_eq, not_true_eq_false, not_false_eq_true, Classical.not_not, Bool.not_eq_true, Bool.not_eq_false, reduceCtorEq, Nat.add_zero, Nat.zero_add, Nat.mul_zero, and_self, and_true, true_and, Bool.true_eq_false, Bool.false_eq_true, eq_self]
    refine wp_some.mpr ?_
    unfold F12_stalkWorth
    have hle : q ≤ nI k := by
      refine Int32.le_iff_toInt_le.mpr ?_
      have := Int32.lt_iff_toInt_lt.mp hq
      rw [nI_toInt (by omega)]
      rw [show (0 : Int32).toInt = 0 from rfl] at this
      omega
    try simp (disch := first | omega | assumption) only [lt_e, bn_s, ck_t, nk0, nk1, nk_b, bI_t, bI_f, L_0, L_1, L_2, L_3, L_4, L_5, L_6, L_7, L_8, L_9, L_10, L_11, L_12, L_15, L_20, L_25, L_30, L_45, L_60, L_65, L_69, L_74, L_79, L_84, L_85, L_86, L_99, L_100, L_255, L_300, L_356, L_900, L_1424, L_1425, L_1489, L_1510, L_9999, L_10000, nI_add, nI_mul, u_lt_t, u_lt_f, u_le_t, u_le_f, u_eq_t, u_eq_f, u_mlt, u_ltm, u_eqm, u_meq, u_mle, u_b0, u_b1, u_ix, u_cl, u_sub, u_suc, u_z0, u_0m, cI_0, cI_s, rI_e, rI_k, rI_j, rI_l, rL_e, rL_k, rL_j, rL_i, told11, none11, refuse12, no11q, no12q, yes11q, if_true, if_false, ite_true, ite_false, ne_eq, not_true_eq_false, not_false_eq_true, Classical.not_not, Bool.not_eq_true, Bool.not_eq_false, reduceCtorEq, Nat.add_zero, Nat.zero_add, Nat.mul_zero, and_self, and_true, true_and, Bool.true_eq_false, Bool.false_eq_true, eq_self, isTray12_in ht, e2]
    rw [if_pos hle, isIn_neg hq]
    try simp (disch := first | omega | assumption) only [lt_e, bn_s, ck_t, nk0, nk1, nk_b, bI_t, bI_f, L_0, L_1, L_2, L_3, L_4, L_5, L_6, L_7, L_8, L_9, L_10, L_11, L_12, L_15, L_20, L_25, L_30, L_45, L_60, L_65, L_69, L_74, L_79, L_84, L_85, L_86, L_99, L_100, L_255, L_300, L_356, L_900, L_1424, L_1425, L_1489, L_1510, L_9999, L_10000, nI_add, nI_mul, u_lt_t, u_lt_f, u_le_t, u_le_f, u_eq_t, u_eq_f, u_mlt, u_ltm, u_eqm, u_meq, u_mle, u_b0, u_b1, u_ix, u_cl, u_sub, u_suc, u_z0, u_0m, cI_0, cI_s, rI_e, rI_k, rI_j, rI_l, rL_e, rL_k, rL_j, rL_i, told11, none11, refuse12, no11q, no12q, yes11q, if_true, if_false, ite_true, ite_false, ne_eq, not_true_eq_false, not_false_eq_true, Classical.not_not, Bool.not_eq_true, Bool.not_eq_false, reduceCtorEq, Nat.add_zero, Nat.zero_add, Nat.mul_zero, and_self, and_true, true_and, Bool.true_eq_false, Bool.false_eq_true, eq_self]
    exact wp_some.mpr ⟨rfl, no _⟩
  obtain ⟨n, hn, rfl⟩ := nI_of hq
  rw [if_neg hq]
  by_cases hnk : n ≤ k
  rotate_left
  · rw [show (0 : Int32) = nI 0 from rfl, holds_no ht hk (by rw [e15, e2]) (by rintro ⟨i, j, h1, h2, h3⟩; have := (nI_eq (b := j) hn (by omega)).mp h2; omega), bn_s, if_neg (by decide)]
    try simp (disch := first | omega | assumption) only [lt_e, bn_s, ck_t, nk0, nk1, nk_b, bI_t, bI_f, L_0, L_1, L_2, L_3, L_4, L_5, L_6, L_7, L_8, L_9, L_10, L_11, L_12, L_15, L_20, L_25, L_30, L_45, L_60, L_65, L_69, L_74, L_79, L_84, L_85, L_86, L_99, L_100, L_255, L_300, L_356, L_900, L_1424, L_1425, L_1489, L_1510, L_9999, L_10000, nI_add, nI_mul, u_lt_t, u_lt_f, u_le_t, u_le_f, u_eq_t, u_eq_f, u_mlt, u_ltm, u_eqm, u_meq, u_mle, u_b0, u_b1, u_ix, u_cl, u_sub, u_suc, u_z0, u_0m, cI_0, cI_s, rI_e, rI_k, rI_j, rI_l, rL_e, rL_k, rL_j, rL_i, told11, none11, refuse12, no11q, no12q, yes11q, if_true, if_false, ite_true, ite_false, ne_eq, not_true_eq_false, not_false_eq_true, Classical.not_not, Bool.not_eq_true, Bool.not_eq_false, reduceCtorEq, Nat.add_zero, Nat.zero_add, Nat.mul_zero, and_self, and_true, true_and, Bool.true_eq_false, Bool.false_eq_true, eq_self]
    refine wp_some.mpr ?_
    unfold F12_stalkWorth
    try simp (disch := first | omega | assumption) only [lt_e, bn_s, ck_t, nk0, nk1, nk_b, bI_t, bI_f, L_0, L_1, L_2, L_3, L_4, L_5, L_6, L_7, L_8, L_9, L_10, L_11, L_12, L_15, L_20, L_25, L_30, L_45, L_60, L_65, L_69, L_74, L_79, L_84, L_85, L_86, L_99, L_100, L_255, L_300, L_356, L_900, L_1424, L_1425, L_1489, L_1510, L_9999, L_10000, nI_add, nI_mul, u_lt_t, u_lt_f, u_le_t, u_le_f, u_eq_t, u_eq_f, u_mlt, u_ltm, u_eqm, u_meq, u_mle, u_b0, u_b1, u_ix, u_cl, u_sub, u_suc, u_z0, u_0m, cI_0, cI_s, rI_e, rI_k, rI_j, rI_l, rL_e, rL_k, rL_j, rL_i, told11, none11, refuse12, no11q, no12q, yes11q, if_true, if_false, ite_true, ite_false, ne_eq, not_true_eq_false, not_false_eq_true, Classical.not_not, Bool.not_eq_true, Bool.not_eq_false, reduceCtorEq, Nat.add_zero, Nat.zero_add, Nat.mul_zero, and_self, and_true, true_and, Bool.true_eq_false, Bool.false_eq_true, eq_self, isTray12_in ht, e2]
    exact wp_some.mpr ⟨rfl, no _⟩
  rw [show (0 : Int32) = nI 0 from rfl, holds_yes ht hk (by rw [e15, e2]) (by omega), bn_s, if_pos (by decide)]
  unfold F11_stalkWorth_b53
  rw [if_neg (nI_pos hn)]
  by_cases hn2 : n ≤ 20
  rotate_left
  · rw [show (20 : Int32) = nI 20 from rfl, if_neg (nI_ge (by omega) hn)]
    unfold F11_stalkWorth_b63
    try simp (disch := first | omega | assumption) only [lt_e, bn_s, ck_t, nk0, nk1, nk_b, bI_t, bI_f, L_0, L_1, L_2, L_3, L_4, L_5, L_6, L_7, L_8, L_9, L_10, L_11, L_12, L_15, L_20, L_25, L_30, L_45, L_60, L_65, L_69, L_74, L_79, L_84, L_85, L_86, L_99, L_100, L_255, L_300, L_356, L_900, L_1424, L_1425, L_1489, L_1510, L_9999, L_10000, nI_add, nI_mul, u_lt_t, u_lt_f, u_le_t, u_le_f, u_eq_t, u_eq_f, u_mlt, u_ltm, u_eqm, u_meq, u_mle, u_b0, u_b1, u_ix, u_cl, u_sub, u_suc, u_z0, u_0m, cI_0, cI_s, rI_e, rI_k, rI_j, rI_l, rL_e, rL_k, rL_j, rL_i, told11, none11, refuse12, no11q, no12q, yes11q, if_true, if_false, ite_true, ite_false, ne_eq, not_true_eq_false, not_false_eq_true, Classical.not_not, Bool.not_eq_true, Bool.not_eq_false, reduceCtorEq, Nat.add_zero, Nat.zero_add, Nat.mul_zero, and_self, and_true, true_and, Bool.true_eq_false, Bool.false_eq_true, eq_self]
    refine wp_some.mpr ?_
    unfold F12_stalkWorth
    try simp (disch := first | omega | assumption) only [lt_e, bn_s, ck_t, nk0, nk1, nk_b, bI_t, bI_f, L_0, L_1, L_2, L_3, L_4, L_5, L_6, L_7, L_8, L_9, L_10, L_11, L_12, L_15, L_20, L_25, L_30, L_45, L_60, L_65, L_69, L_74, L_79, L_84, L_85, L_86, L_99, L_100, L_255, L_300, L_356, L_900, L_1424, L_1425, L_1489, L_1510, L_9999, L_10000, nI_add, nI_mul, u_lt_t, u_lt_f, u_le_t, u_le_f, u_eq_t, u_eq_f, u_mlt, u_ltm, u_eqm, u_meq, u_mle, u_b0, u_b1, u_ix, u_cl, u_sub, u_suc, u_z0, u_0m, cI_0, cI_s, rI_e, rI_k, rI_j, rI_l, rL_e, rL_k, rL_j, rL_i, told11, none11, refuse12, no11q, no12q, yes11q, if_true, if_false, ite_true, ite_false, ne_eq, not_true_eq_false, not_false_eq_true, Classical.not_not, Bool.not_eq_true, Bool.not_eq_false, reduceCtorEq, Nat.add_zero, Nat.zero_add, Nat.mul_zero, and_self, and_true, true_and, Bool.true_eq_false, Bool.false_eq_true, eq_self, isTray12_in ht, e2, isInN (c := 20) (C := (20 : Int64)) rfl hn]
    rw [decide_eq_false hn2]
    try simp (disch := first | omega | assumption) only [lt_e, bn_s, ck_t, nk0, nk1, nk_b, bI_t, bI_f, L_0, L_1, L_2, L_3, L_4, L_5, L_6, L_7, L_8, L_9, L_10, L_11, L_12, L_15, L_20, L_25, L_30, L_45, L_60, L_65, L_69, L_74, L_79, L_84, L_85, L_86, L_99, L_100, L_255, L_300, L_356, L_900, L_1424, L_1425, L_1489, L_1510, L_9999, L_10000, nI_add, nI_mul, u_lt_t, u_lt_f, u_le_t, u_le_f, u_eq_t, u_eq_f, u_mlt, u_ltm, u_eqm, u_meq, u_mle, u_b0, u_b1, u_ix, u_cl, u_sub, u_suc, u_z0, u_0m, cI_0, cI_s, rI_e, rI_k, rI_j, rI_l, rL_e, rL_k, rL_j, rL_i, told11, none11, refuse12, no11q, no12q, yes11q, if_true, if_false, ite_true, ite_false, ne_eq, not_true_eq_false, not_false_eq_true, Classical.not_not, Bool.not_eq_true, Bool.not_eq_false, reduceCtorEq, Nat.add_zero, Nat.zero_add, Nat.mul_zero, and_self, and_true, true_and, Bool.true_eq_false, Bool.false_eq_true, eq_self]
    exact wp_some.mpr ⟨rfl, no _⟩
  rw [show (20 : Int32) = nI 20 from rfl, if_pos (nI_le hn2 (by omega)), lt_e, show nI n - (1 : Int32) = cI n from rfl]
  refine wp_mono (cStalkw hN ht hk (by rw [e15, e2]) hnk hn2) ?_
  have hA : ∀ j, j < n → σ.2 (16 + t) j = σ.2 3 (60 * t + j) := fun j hj => ec j (by omega)
  have hgd : gd (σ.2 (16 + t)) n ↔ gd (fun j => σ.2 3 (60 * t + j)) n := ⟨fun z j hj => by have := z j hj; rw [hA j hj] at this; exact this, fun z j hj => by rw [hA j hj]; exact z j hj⟩
  have hst : ∀ m, m ≤ n → stw (dz (σ.2 (16 + t))) n m = stw (dz fun j => σ.2 3 (60 * t + j)) n m := by
    intro m
    induction m with
    | zero => exact fun _ => rfl
    | succ m ih =>
      intro h
      unfold stw
      rw [ih (by omega)]
      unfold dz
      rw [hA _ (by omega)]
  have hb : -1125899906842624 < stw (dz fun j => σ.2 3 (60 * t + j)) n n ∧ stw (dz fun j => σ.2 3 (60 * t + j)) n n < 1125899906842624 := by
    obtain ⟨d, _, h2, _⟩ := stw_ok (dz fun j => σ.2 3 (60 * t + j)) n n hn2
    omega
  have fin : ∀ τ : Ms, τ.1 2 t = nI k → τ.2 3 = σ.2 3 → (¬ gd (fun j => σ.2 3 (60 * t + j)) n → I_misc (sI (sI (sI τ 0 1 (nI 0)) 0 0 (nI 0)) 0 0 (nI 5))) → (gd (fun j => σ.2 3 (60 * t + j)) n → wp (F12_fraction N (zL (stw (dz fun j => σ.2 3 (60 * t + j)) n n)) (1048576 : Int64) (sI (sI τ 0 1 (nI 0)) 0 0 (nI 0))) fun r τ => r = nI 1 ∧ I_misc τ) → wp (F12_stalkWorth N (nI t) (nI n) τ) fun r τ => (gd (fun j => σ.2 3 (60 * t + j)) n ∧ r = nI 1 ∧ I_misc τ) ∨ (¬ gd (fun j => σ.2 3 (60 * t + j)) n ∧ r = nI 0 ∧ I_misc τ) := fun τ h1 h2 h3 h5 => by
    unfold F12_stalkWorth
    try simp (disch := first | omega | assumption) only [lt_e, bn_s, ck_t, nk0, nk1, nk_b, bI_t, bI_f, L_0, L_1, L_2, L_3, L_4, L_5, L_6, L_7, L_8, L_9, L_10, L_11, L_12, L_15, L_20, L_25, L_30, L_45, L_60, L_65, L_69, L_74, L_79, L_84, L_85, L_86, L_99, L_100, L_255, L_300, L_356, L_900, L_1424, L_1425, L_1489, L_1510, L_9999, L_10000, nI_add, nI_mul, u_lt_t, u_lt_f, u_le_t, u_le_f, u_eq_t, u_eq_f, u_mlt, u_ltm, u_eqm, u_meq, u_mle, u_b0, u_b1, u_ix, u_cl, u_sub, u_suc, u_z0, u_0m, cI_0, cI_s, rI_e, rI_k, rI_j, rI_l, rL_e, rL_k, rL_j, rL_i, told11, none11, refuse12, no11q, no12q, yes11q, if_true, if_false, ite_true, ite_false, ne_eq, not_true_eq_false, not_false_eq_true, Classical.not_not, Bool.not_eq_true, Bool.not_eq_false, reduceCtorEq, Nat.add_zero, Nat.zero_add, Nat.mul_zero, and_self, and_true, true_and, Bool.true_eq_false, Bool.false_eq_true, eq_self, isTray12_in ht, h1, isInN (c := 20) (C := (20 : Int64)) rfl hn]
    rw [decide_eq_true hn2]
    try simp (disch := first | omega | assumption) only [lt_e, bn_s, ck_t, nk0, nk1, nk_b, bI_t, bI_f, L_0, L_1, L_2, L_3, L_4, L_5, L_6, L_7, L_8, L_9, L_10, L_11, L_12, L_15, L_20, L_25, L_30, L_45, L_60, L_65, L_69, L_74, L_79, L_84, L_85, L_86, L_99, L_100, L_255, L_300, L_356, L_900, L_1424, L_1425, L_1489, L_1510, L_9999, L_10000, nI_add, nI_mul, u_lt_t, u_lt_f, u_le_t, u_le_f, u_eq_t, u_eq_f, u_mlt, u_ltm, u_eqm, u_meq, u_mle, u_b0, u_b1, u_ix, u_cl, u_sub, u_suc, u_z0, u_0m, cI_0, cI_s, rI_e, rI_k, rI_j, rI_l, rL_e, rL_k, rL_j, rL_i, told11, none11, refuse12, no11q, no12q, yes11q, if_true, if_false, ite_true, ite_false, ne_eq, not_true_eq_false, not_false_eq_true, Classical.not_not, Bool.not_eq_true, Bool.not_eq_false, reduceCtorEq, Nat.add_zero, Nat.zero_add, Nat.mul_zero, and_self, and_true, true_and, Bool.true_eq_false, Bool.false_eq_true, eq_self]
    have := mStalkc (σ := sI (sI τ 0 1 (nI 0)) 0 0 (nI 0)) hN ht hn2
    simp only [rI_l, h2] at this
    exact this h3 h5
  rintro r τ (⟨g, rfl, rfl⟩ | ⟨g, rfl, rfl⟩)
  · rw [hst n (Nat.le_refl _)]
    refine wp_mono (fin _ ?_ ?_ ?_ ?_) ?_
    · try simp (disch := first | omega | assumption) only [lt_e, bn_s, ck_t, nk0, nk1, nk_b, bI_t, bI_f, L_0, L_1, L_2, L_3, L_4, L_5, L_6, L_7, L_8, L_9, L_10, L_11, L_12, L_15, L_20, L_25, L_30, L_45, L_60, L_65, L_69, L_74, L_79, L_84, L_85, L_86, L_99, L_100, L_255, L_300, L_356, L_900, L_1424, L_1425, L_1489, L_1510, L_9999, L_10000, nI_add, nI_mul, u_lt_t, u_lt_f, u_le_t, u_le_f, u_eq_t, u_eq_f, u_mlt, u_ltm, u_eqm, u_meq, u_mle, u_b0, u_b1, u_ix, u_cl, u_sub, u_suc, u_z0, u_0m, cI_0, cI_s, rI_e, rI_k, rI_j, rI_l, rL_e, rL_k, rL_j, rL_i, told11, none11, refuse12, no11q, no12q, yes11q, if_true, if_false, ite_true, ite_false, ne_eq, not_true_eq_false, not_false_eq_true, Classical.not_not, Bool.not_eq_true, Bool.not_eq_false, reduceCtorEq, Nat.add_zero, Nat.zero_add, Nat.mul_zero, and_self, and_true, true_and, Bool.true_eq_false, Bool.false_eq_true, eq_self, e2]
    · rfl
    · exact fun z => absurd (hgd.mp g) z
    · exact fun _ => m_tell hN hb.1 hb.2 (by try simp (disch := first | omega | assumption) only [lt_e, bn_s, ck_t, nk0, nk1, nk_b, bI_t, bI_f, L_0, L_1, L_2, L_3, L_4, L_5, L_6, L_7, L_8, L_9, L_10, L_11, L_12, L_15, L_20, L_25, L_30, L_45, L_60, L_65, L_69, L_74, L_79, L_84, L_85, L_86, L_99, L_100, L_255, L_300, L_356, L_900, L_1424, L_1425, L_1489, L_1510, L_9999, L_10000, nI_add, nI_mul, u_lt_t, u_lt_f, u_le_t, u_le_f, u_eq_t, u_eq_f, u_mlt, u_ltm, u_eqm, u_meq, u_mle, u_b0, u_b1, u_ix, u_cl, u_sub, u_suc, u_z0, u_0m, cI_0, cI_s, rI_e, rI_k, rI_j, rI_l, rL_e, rL_k, rL_j, rL_i, told11, none11, refuse12, no11q, no12q, yes11q, if_true, if_false, ite_true, ite_false, ne_eq, not_true_eq_false, not_false_eq_true, Classical.not_not, Bool.not_eq_true, Bool.not_eq_false, reduceCtorEq, Nat.add_zero, Nat.zero_add, Nat.mul_zero, and_self, and_true, true_and, Bool.true_eq_false, Bool.false_eq_true, eq_self]) (by try simp (disch := first | omega | assumption) only [lt_e, bn_s, ck_t, nk0, nk1, nk_b, bI_t, bI_f, L_0, L_1, L_2, L_3, L_4, L_5, L_6, L_7, L_8, L_9, L_10, L_11, L_12, L_15, L_20, L_25, L_30, L_45, L_60, L_65, L_69, L_74, L_79, L_84, L_85, L_86, L_99, L_100, L_255, L_300, L_356, L_900, L_1424, L_1425, L_1489, L_1510, L_9999, L_10000, nI_add, nI_mul, u_lt_t, u_lt_f, u_le_t, u_le_f, u_eq_t, u_eq_f, u_mlt, u_ltm, u_eqm, u_meq, u_mle, u_b0, u_b1, u_ix, u_cl, u_sub, u_suc, u_z0, u_0m, cI_0, cI_s, rI_e, rI_k, rI_j, rI_l, rL_e, rL_k, rL_j, rL_i, told11, none11, refuse12, no11q, no12q, yes11q, if_true, if_false, ite_true, ite_false, ne_eq, not_true_eq_false, not_false_eq_true, Classical.not_not, Bool.not_eq_true, Bool.not_eq_false, reduceCtorEq, Nat.add_zero, Nat.zero_add, Nat.mul_zero, and_self, and_true, true_and, Bool.true_eq_false, Bool.false_eq_true, eq_self]) (by try simp (disch := first | omega | assumption) only [lt_e, bn_s, ck_t, nk0, nk1, nk_b, bI_t, bI_f, L_0, L_1, L_2, L_3, L_4, L_5, L_6, L_7, L_8, L_9, L_10, L_11, L_12, L_15, L_20, L_25, L_30, L_45, L_60, L_65, L_69, L_74, L_79, L_84, L_85, L_86, L_99, L_100, L_255, L_300, L_356, L_900, L_1424, L_1425, L_1489, L_1510, L_9999, L_10000, nI_add, nI_mul, u_lt_t, u_lt_f, u_le_t, u_le_f, u_eq_t, u_eq_f, u_mlt, u_ltm, u_eqm, u_meq, u_mle, u_b0, u_b1, u_ix, u_cl, u_sub, u_suc, u_z0, u_0m, cI_0, cI_s, rI_e, rI_k, rI_j, rI_l, rL_e, rL_k, rL_j, rL_i, told11, none11, refuse12, no11q, no12q, yes11q, if_true, if_false, ite_true, ite_false, ne_eq, not_true_eq_false, not_false_eq_true, Classical.not_not, Bool.not_eq_true, Bool.not_eq_false, reduceCtorEq, Nat.add_zero, Nat.zero_add, Nat.mul_zero, and_self, and_true, true_and, Bool.true_eq_false, Bool.false_eq_true, eq_self])
    · rintro r' τ' (⟨-, rfl, h⟩ | ⟨z, -, -⟩)
      · exact ⟨rfl, h⟩
      · exact absurd (hgd.mp g) z
  · refine wp_mono (fin _ ?_ ?_ ?_ ?_) ?_
    · try simp (disch := first | omega | assumption) only [lt_e, bn_s, ck_t, nk0, nk1, nk_b, bI_t, bI_f, L_0, L_1, L_2, L_3, L_4, L_5, L_6, L_7, L_8, L_9, L_10, L_11, L_12, L_15, L_20, L_25, L_30, L_45, L_60, L_65, L_69, L_74, L_79, L_84, L_85, L_86, L_99, L_100, L_255, L_300, L_356, L_900, L_1424, L_1425, L_1489, L_1510, L_9999, L_10000, nI_add, nI_mul, u_lt_t, u_lt_f, u_le_t, u_le_f, u_eq_t, u_eq_f, u_mlt, u_ltm, u_eqm, u_meq, u_mle, u_b0, u_b1, u_ix, u_cl, u_sub, u_suc, u_z0, u_0m, cI_0, cI_s, rI_e, rI_k, rI_j, rI_l, rL_e, rL_k, rL_j, rL_i, told11, none11, refuse12, no11q, no12q, yes11q, if_true, if_false, ite_true, ite_false, ne_eq, not_true_eq_false, not_false_eq_true, Classical.not_not, Bool.not_eq_true, Bool.not_eq_false, reduceCtorEq, Nat.add_zero, Nat.zero_add, Nat.mul_zero, and_self, and_true, true_and, Bool.true_eq_false, Bool.false_eq_true, eq_self, e2]
    · rfl
    · exact fun _ => no _
    · exact fun z => absurd (hgd.mpr z) g
    · rintro r' τ' (⟨z, -, -⟩ | ⟨-, rfl, h⟩)
      · exact absurd (hgd.mpr z) g
      · exact ⟨rfl, h⟩
