def AS (H : HG) (p q k : Int32) (P : Nat) (V : Int) : Prop := p = nI P ∧ okS (gn H) (gS H) (gc H) P ∧ (-20971520 ≤ V ∧ V ≤ 20971520) ∧ (∀ σ, F12_isNumber q k σ = some (nI 1, σ)) ∧ ∀ σ, F12_partsOf q k σ = some (zL V, σ)
def NA (H : HG) (p q k : Int32) : Prop := (¬ ∃ P, P < 2 ^ 31 ∧ p = nI P ∧ okS (gn H) (gS H) (gc H) P) ∨ ∀ σ, F12_isNumber q k σ = some (nI 0, σ)
theorem okS_31 {n S P : Nat} {col : Nat → Nat} (hn : n ≤ 20) (h : okS n S col P) : P < 2 ^ 31 := set_lt h.1 hn
theorem cAsk {N : Nat} {H : HG} {σ : Ms} (hN : 2000 < N) (w : WG H) (c : CG 22 H σ) (p q k : Int32) : wp (F11_findWays N p q k σ) fun r τ => ((∃ P V, AS H p q k P V ∧ r = nI 1 ∧ τ.1 100 0 = nI (cntw H P V (2 ^ pc P 20)) ∧ τ.1 100 1 = nI (fstw H P V (2 ^ pc P 20)) ∧ ∀ i, i < 20 → τ.1 101 i = nI (bluw H P V i (2 ^ pc P 20))) ∨ (r = nI 0 ∧ NA H p q k)) ∧ Fr W11_findWays σ τ := by
  refine wp_fr ?_ (fr_F11_findWays N p q k σ)
  unfold F11_findWays
  rcases cSet (N := N) (by omega) w.1 c.1 p with ⟨P, rfl, hp, e⟩ | ⟨hp, e⟩
  rotate_left
  · rw [e, bn_s, if_pos (by rfl)]
    exact wp_some.mpr (Or.inr ⟨rfl, Or.inl hp⟩)
  rw [e, bn_s, if_neg (by decide)]
  rcases num_both q k with ⟨V, v1, v2, c1, c2, m1, m2⟩ | ⟨c1, m1⟩
  rotate_left
  · rw [c1, bn_s, if_neg (by decide)]
    exact wp_some.mpr (Or.inr ⟨rfl, Or.inr m1⟩)
  rw [c1, bn_s, if_pos (by decide), copy0_ok (by omega) (by omega), bn_s, c2, bn_s]
  have cg : CG 30 H (cpH 22 30 Phg σ) := by
    have z1 : ∀ r j, Phg r j → (cpH 22 30 Phg σ).1 (30 + r) j = σ.1 (22 + r) j := fun r j h => H_in (by unfold Phg at h; omega) h
    have c0 : ∀ j, 5 ≤ j → j ≤ 11 → (cpH 22 30 Phg σ).1 30 j = σ.1 22 j := fun j h1 h2 => z1 0 j (Or.inl ⟨rfl, h1, h2⟩)
    unfold CG RS RH RB at *
    obtain ⟨⟨a1, a2, a3⟩, ⟨b1, b2⟩, d1, d2, d3, d4⟩ := c
    have w1 := w.n
    obtain ⟨-, ⟨w2, -⟩, w3, -⟩ := w
    rw [c0 5 (by omega) (by omega), c0 6 (by omega) (by omega), c0 7 (by omega) (by omega), c0 8 (by omega) (by omega), c0 9 (by omega) (by omega), c0 10 (by omega) (by omega)]
    refine ⟨⟨a1, a2, fun i hi => ?_⟩, ⟨b1, fun i hi => ?_⟩, d1, d2, d3, fun i hi => ?_⟩
    · rw [z1 1 i (Or.inr (Or.inl ⟨by omega, by omega⟩)), z1 2 i (Or.inr (Or.inl ⟨by omega, by omega⟩))]
      exact a3 i hi
    · rw [z1 3 i (Or.inr (Or.inr (Or.inl ⟨by omega, by omega⟩)))]
      exact b2 i hi
    · rw [z1 4 i (Or.inr (Or.inr (Or.inr ⟨by omega, by omega⟩))), z1 5 i (Or.inr (Or.inr (Or.inr ⟨by omega, by omega⟩)))]
      exact d4 i hi
  refine wp_bn.mpr (wp_mono (cFind hN w cg hp ⟨v1, v2⟩) ?_)
  rintro _ τ ⟨h1, h2, h3⟩
  exact wp_some.mpr (Or.inl ⟨P, V, ⟨rfl, hp, ⟨v1, v2⟩, m1, m2⟩, rfl, h1, h2, h3⟩)
theorem mAsk {N P : Nat} {V : Int} {H : HG} {p q k : Int32} {τ : Ms} (hN : 2000 < N) (w : WG H) (m : MG 0 H τ) (h : AS H p q k P V) : wp (F12_isAsked N p q k τ) fun r t => (r = nI 1 ∧ t.1 0 0 = nI 0 ∧ YM H P V τ (2 ^ pc P 20) t) ∧ Fr W12_isAsked τ t := by
  refine wp_fr ?_ (fr_F12_isAsked N p q k τ)
  obtain ⟨rfl, hp, hV, m1, m2⟩ := h
  unfold F12_isAsked F12_isAsked_b22
  rw [(mSet (by omega) w.1 m.1 (nI P)).1 P (okS_31 w.n hp) rfl hp, bn_s, if_neg (by decide), m1, bn_s, if_neg (by decide), lt_e, rI_e rfl rfl, if_pos (by decide), m2, bn_s]
  refine wp_bn.mpr (wp_mono (wp_fr (mWays (σ := sI τ 0 0 0) hN w (m.mv fun j => rI_k (by decide)) hp hV) (fr_F12_laysWays N (nI P) (zL V) _)) ?_)
  rintro _ t ⟨⟨y1, y2⟩, F⟩
  refine wp_some.mpr ⟨rfl, ?_, fun j => ?_, y2⟩
  · rw [(F.keep (D := [(0, some 0)]) rfl (In_o 0 rfl)).1, rI_e rfl rfl]
    rfl
  · rw [y1]
    exact rI_k (by decide)
theorem mNot {N : Nat} {H : HG} {p q k : Int32} {τ : Ms} (hN : 2000 < N) (w : WG H) (m : MG 0 H τ) (h : NA H p q k) : F12_isAsked N p q k τ = some (nI 0, sI τ 0 0 (nI 5)) := by
  have fin : F12_isAsked_b21 N p q k τ = some (nI 0, sI τ 0 0 (nI 5)) := by
    unfold F12_isAsked_b21 F12_isAsked_b22
    rw [lt_e, rI_e rfl rfl, if_neg (by decide)]
    rfl
  unfold F12_isAsked
  by_cases hp : ∃ P, P < 2 ^ 31 ∧ p = nI P ∧ okS (gn H) (gS H) (gc H) P
  · rcases h with h | h
    · exact absurd hp h
    · obtain ⟨P, h1, h2, h3⟩ := hp
      rw [(mSet (by omega) w.1 m.1 p).1 P h1 h2 h3, bn_s, if_neg (by decide), h, bn_s, if_pos (by rfl), fin]
  · rw [(mSet (by omega) w.1 m.1 p).2 hp, bn_s, if_pos (by rfl), fin]
theorem R_colourings {N : Nat} (hN : 2000 < N) (p q k : Int32) (σ : Ms) (hh : I_hg 0 22 σ) : wp (F11_colourings N p q k σ) fun r t => wp (F12_colourings N p q k t) fun r' t' => r = r' ∧ t'.1 11 17 = t'.1 0 0 := by
  obtain ⟨H, w, c, m, -⟩ := hh
  unfold F11_colourings
  refine wp_bn.mpr (wp_mono (cAsk hN w c p q k) ?_)
  rintro r τ ⟨h, F⟩
  have mt : ∀ a : Int32, MG 0 H (sI (sI τ 11 17 a) 0 1 (nI 0)) := fun a => m.mv fun j => by
    try simp (disch := first | omega | assumption) only [lt_e, bn_s, ck_t, nk0, nk1, nk_b, bI_t, bI_f, L_0, L_1, L_2, L_3, L_4, L_5, L_6, L_7, L_8, L_9, L_10, L_11, L_12, L_15, L_20, L_25, L_30, L_45, L_60, L_65, L_69, L_74, L_79, L_84, L_85, L_86, L_99, L_100, L_255, L_300, L_356, L_900, L_1424, L_1425, L_1489, L_1510, L_9999, L_10000, nI_add, nI_mul, u_lt_t, u_lt_f, u_le_t, u_le_f, u_eq_t, u_eq_f, u_mlt, u_ltm, u_eqm, u_meq, u_mle, u_b0, u_b1, u_ix, u_cl, u_sub, u_suc, u_z0, u_0m, cI_0, cI_s, rI_e, rI_k, rI_j, rI_l, rL_e, rL_k, rL_j, rL_i, told11, none11, refuse12, no11q, no12q, yes11q, if_true, if_false, ite_true, ite_false, ne_eq, not_true_eq_false, not_false_eq_true, Classical.not_not, Bool.not_eq_true, Bool.not_eq_false, reduceCtorEq, Nat.add_zero, Nat.zero_add, Nat.mul_zero, and_self, and_true, true_and, Bool.true_eq_false, Bool.false_eq_true, eq_self]
    exact (F.keep (D := [(5, none)]) rfl (In_a 0 rfl)).1
  rcases h with ⟨P, V, ha, rfl, h1, h2, h3⟩ | ⟨rfl, hn⟩
  · rw [if_pos (by decide), h1]
    try simp (disch := first | omega | assumption) only [lt_e, bn_s, ck_t, nk0, nk1, nk_b, bI_t, bI_f, L_0, L_1, L_2, L_3, L_4, L_5, L_6, L_7, L_8, L_9, L_10, L_11, L_12, L_15, L_20, L_25, L_30, L_45, L_60, L_65, L_69, L_74, L_79, L_84, L_85, L_86, L_99, L_100, L_255, L_300, L_356, L_900, L_1424, L_1425, L_1489, L_1510, L_9999, L_10000, nI_add, nI_mul, u_lt_t, u_lt_f, u_le_t, u_le_f, u_eq_t, u_eq_f, u_mlt, u_ltm, u_eqm, u_meq, u_mle, u_b0, u_b1, u_ix, u_cl, u_sub, u_suc, u_z0, u_0m, cI_0, cI_s, rI_e, rI_k, rI_j, rI_l, rL_e, rL_k, rL_j, rL_i, told11, none11, refuse12, no11q, no12q, yes11q, if_true, if_false, ite_true, ite_false, ne_eq, not_true_eq_false, not_false_eq_true, Classical.not_not, Bool.not_eq_true, Bool.not_eq_false, reduceCtorEq, Nat.add_zero, Nat.zero_add, Nat.mul_zero, and_self, and_true, true_and, Bool.true_eq_false, Bool.false_eq_true, eq_self]
    refine wp_some.mpr ?_
    unfold F12_colourings
    rw [lt_e, show (0 : Int32) = nI 0 from rfl]
    refine wp_bn.mpr (wp_mono (mAsk hN w (mt _) ha) ?_)
    rintro _ t ⟨⟨rfl, h0, -, y, -⟩, F2⟩
    rw [if_neg (by decide), y]
    refine wp_some.mpr ⟨rfl, ?_⟩
    rw [(F2.keep (D := [(11, some 17)]) rfl (In_o 0 rfl)).1, h0]
    try simp (disch := first | omega | assumption) only [lt_e, bn_s, ck_t, nk0, nk1, nk_b, bI_t, bI_f, L_0, L_1, L_2, L_3, L_4, L_5, L_6, L_7, L_8, L_9, L_10, L_11, L_12, L_15, L_20, L_25, L_30, L_45, L_60, L_65, L_69, L_74, L_79, L_84, L_85, L_86, L_99, L_100, L_255, L_300, L_356, L_900, L_1424, L_1425, L_1489, L_1510, L_9999, L_10000, nI_add, nI_mul, u_lt_t, u_lt_f, u_le_t, u_le_f, u_eq_t, u_eq_f, u_mlt, u_ltm, u_eqm, u_meq, u_mle, u_b0, u_b1, u_ix, u_cl, u_sub, u_suc, u_z0, u_0m, cI_0, cI_s, rI_e, rI_k, rI_j, rI_l, rL_e, rL_k, rL_j, rL_i, told11, none11, refuse12, no11q, no12q, yes11q, if_true, if_false, ite_true, ite_false, ne_eq, not_true_eq_false, not_false_eq_true, Classical.not_not, Bool.not_eq_true, Bool.not_eq_false, reduceCtorEq, Nat.add_zero, Nat.zero_add, Nat.mul_zero, and_self, and_true, true_and, Bool.true_eq_false, Bool.false_eq_true, eq_self]
  · rw [if_neg (by decide)]
    try simp (disch := first | omega | assumption) only [lt_e, bn_s, ck_t, nk0, nk1, nk_b, bI_t, bI_f, L_0, L_1, L_2, L_3, L_4, L_5, L_6, L_7, L_8, L_9, L_10, L_11, L_12, L_15, L_20, L_25, L_30, L_45, L_60, L_65, L_69, L_74, L_79, L_84, L_85, L_86, L_99, L_100, L_255, L_300, L_356, L_900, L_1424, L_1425, L_1489, L_1510, L_9999, L_10000, nI_add, nI_mul, u_lt_t, u_lt_f, u_le_t, u_le_f, u_eq_t, u_eq_f, u_mlt, u_ltm, u_eqm, u_meq, u_mle, u_b0, u_b1, u_ix, u_cl, u_sub, u_suc, u_z0, u_0m, cI_0, cI_s, rI_e, rI_k, rI_j, rI_l, rL_e, rL_k, rL_j, rL_i, told11, none11, refuse12, no11q, no12q, yes11q, if_true, if_false, ite_true, ite_false, ne_eq, not_true_eq_false, not_false_eq_true, Classical.not_not, Bool.not_eq_true, Bool.not_eq_false, reduceCtorEq, Nat.add_zero, Nat.zero_add, Nat.mul_zero, and_self, and_true, true_and, Bool.true_eq_false, Bool.false_eq_true, eq_self]
    refine wp_some.mpr ?_
    unfold F12_colourings
    rw [lt_e, show (0 : Int32) = nI 0 from rfl, mNot hN w (mt _) hn, bn_s, if_pos (by rfl)]
    refine wp_some.mpr ⟨rfl, ?_⟩
    try simp (disch := first | omega | assumption) only [lt_e, bn_s, ck_t, nk0, nk1, nk_b, bI_t, bI_f, L_0, L_1, L_2, L_3, L_4, L_5, L_6, L_7, L_8, L_9, L_10, L_11, L_12, L_15, L_20, L_25, L_30, L_45, L_60, L_65, L_69, L_74, L_79, L_84, L_85, L_86, L_99, L_100, L_255, L_300, L_356, L_900, L_1424, L_1425, L_1489, L_1510, L_9999, L_10000, nI_add, nI_mul, u_lt_t, u_lt_f, u_le_t, u_le_f, u_eq_t, u_eq_f, u_mlt, u_ltm, u_eqm, u_meq, u_mle, u_b0, u_b1, u_ix, u_cl, u_sub, u_suc, u_z0, u_0m, cI_0, cI_s, rI_e, rI_k, rI_j, rI_l, rL_e, rL_k, rL_j, rL_i, told11, none11, refuse12, no11q, no12q, yes11q, if_true, if_false, ite_true, ite_false, ne_eq, not_true_eq_false, not_false_eq_true, Classical.not_not, Bool.not_eq_true, Bool.not_eq_false, reduceCtorEq, Nat.add_zero, Nat.zero_add, Nat.mul_zero, and_self, and_true, true_and, Bool.true_eq_false, Bool.false_eq_true, eq_self]
theorem R_firstRed {N : Nat} (hN : 2000 < N) (p q k : Int32) (σ : Ms) (hh : I_hg 0 22 σ) : wp (F11_firstRed N p q k σ) fun r t => wp (F12_firstRed N p q k t) fun r' t' => r = r' ∧ t'.1 11 17 = t'.1 0 0 := by
  obtain ⟨H, w, c, m, -⟩ := hh
  unfold F11_firstRed
  refine wp_bn.mpr (wp_mono (cAsk hN w c p q k) ?_)
  rintro r τ ⟨h, F⟩
  have mt : ∀ a : Int32, MG 0 H (sI (sI τ 11 17 a) 0 1 (nI 0)) := fun a => m.mv fun j => by
    try simp (disch := first | omega | assumption) only [lt_e, bn_s, ck_t, nk0, nk1, nk_b, bI_t, bI_f, L_0, L_1, L_2, L_3, L_4, L_5, L_6, L_7, L_8, L_9, L_10, L_11, L_12, L_15, L_20, L_25, L_30, L_45, L_60, L_65, L_69, L_74, L_79, L_84, L_85, L_86, L_99, L_100, L_255, L_300, L_356, L_900, L_1424, L_1425, L_1489, L_1510, L_9999, L_10000, nI_add, nI_mul, u_lt_t, u_lt_f, u_le_t, u_le_f, u_eq_t, u_eq_f, u_mlt, u_ltm, u_eqm, u_meq, u_mle, u_b0, u_b1, u_ix, u_cl, u_sub, u_suc, u_z0, u_0m, cI_0, cI_s, rI_e, rI_k, rI_j, rI_l, rL_e, rL_k, rL_j, rL_i, told11, none11, refuse12, no11q, no12q, yes11q, if_true, if_false, ite_true, ite_false, ne_eq, not_true_eq_false, not_false_eq_true, Classical.not_not, Bool.not_eq_true, Bool.not_eq_false, reduceCtorEq, Nat.add_zero, Nat.zero_add, Nat.mul_zero, and_self, and_true, true_and, Bool.true_eq_false, Bool.false_eq_true, eq_self]
    exact (F.keep (D := [(5, none)]) rfl (In_a 0 rfl)).1
  rcases h with ⟨P, V, ha, rfl, h1, h2, h3⟩ | ⟨rfl, hn⟩
  · have hK : 2 ^ pc P 20 ≤ 1024 := Nat.pow_le_pow_right (n := 2) (by decide) ha.2.1.2.1
    have cl := cntw_le H P V (2 ^ pc P 20)
    rw [if_pos (by decide), h1]
    by_cases z : cntw H P V (2 ^ pc P 20) = 0
    · rw [z, if_neg (by exact fun y => y rfl)]
      try simp (disch := first | omega | assumption) only [lt_e, bn_s, ck_t, nk0, nk1, nk_b, bI_t, bI_f, L_0, L_1, L_2, L_3, L_4, L_5, L_6, L_7, L_8, L_9, L_10, L_11, L_12, L_15, L_20, L_25, L_30, L_45, L_60, L_65, L_69, L_74, L_79, L_84, L_85, L_86, L_99, L_100, L_255, L_300, L_356, L_900, L_1424, L_1425, L_1489, L_1510, L_9999, L_10000, nI_add, nI_mul, u_lt_t, u_lt_f, u_le_t, u_le_f, u_eq_t, u_eq_f, u_mlt, u_ltm, u_eqm, u_meq, u_mle, u_b0, u_b1, u_ix, u_cl, u_sub, u_suc, u_z0, u_0m, cI_0, cI_s, rI_e, rI_k, rI_j, rI_l, rL_e, rL_k, rL_j, rL_i, told11, none11, refuse12, no11q, no12q, yes11q, if_true, if_false, ite_true, ite_false, ne_eq, not_true_eq_false, not_false_eq_true, Classical.not_not, Bool.not_eq_true, Bool.not_eq_false, reduceCtorEq, Nat.add_zero, Nat.zero_add, Nat.mul_zero, and_self, and_true, true_and, Bool.true_eq_false, Bool.false_eq_true, eq_self]
      refine wp_some.mpr ?_
      unfold F12_firstRed
      rw [lt_e, show (0 : Int32) = nI 0 from rfl]
      refine wp_bn.mpr (wp_mono (mAsk hN w (mt _) ha) ?_)
      rintro _ t ⟨⟨rfl, h0, -, y, -⟩, F2⟩
      rw [if_pos (by decide), y, z, if_neg (by exact fun y => y rfl)]
      try simp (disch := first | omega | assumption) only [lt_e, bn_s, ck_t, nk0, nk1, nk_b, bI_t, bI_f, L_0, L_1, L_2, L_3, L_4, L_5, L_6, L_7, L_8, L_9, L_10, L_11, L_12, L_15, L_20, L_25, L_30, L_45, L_60, L_65, L_69, L_74, L_79, L_84, L_85, L_86, L_99, L_100, L_255, L_300, L_356, L_900, L_1424, L_1425, L_1489, L_1510, L_9999, L_10000, nI_add, nI_mul, u_lt_t, u_lt_f, u_le_t, u_le_f, u_eq_t, u_eq_f, u_mlt, u_ltm, u_eqm, u_meq, u_mle, u_b0, u_b1, u_ix, u_cl, u_sub, u_suc, u_z0, u_0m, cI_0, cI_s, rI_e, rI_k, rI_j, rI_l, rL_e, rL_k, rL_j, rL_i, told11, none11, refuse12, no11q, no12q, yes11q, if_true, if_false, ite_true, ite_false, ne_eq, not_true_eq_false, not_false_eq_true, Classical.not_not, Bool.not_eq_true, Bool.not_eq_false, reduceCtorEq, Nat.add_zero, Nat.zero_add, Nat.mul_zero, and_self, and_true, true_and, Bool.true_eq_false, Bool.false_eq_true, eq_self]
      refine wp_some.mpr ⟨rfl, ?_⟩
      try simp (disch := first | omega | assumption) only [lt_e, bn_s, ck_t, nk0, nk1, nk_b, bI_t, bI_f, L_0, L_1, L_2, L_3, L_4, L_5, L_6, L_7, L_8, L_9, L_10, L_11, L_12, L_15, L_20, L_25, L_30, L_45, L_60, L_65, L_69, L_74, L_79, L_84, L_85, L_86, L_99, L_100, L_255, L_300, L_356, L_900, L_1424, L_1425, L_1489, L_1510, L_9999, L_10000, nI_add, nI_mul, u_lt_t, u_lt_f, u_le_t, u_le_f, u_eq_t, u_eq_f, u_mlt, u_ltm, u_eqm, u_meq, u_mle, u_b0, u_b1, u_ix, u_cl, u_sub, u_suc, u_z0, u_0m, cI_0, cI_s, rI_e, rI_k, rI_j, rI_l, rL_e, rL_k, rL_j, rL_i, told11, none11, refuse12, no11q, no12q, yes11q, if_true, if_false, ite_true, ite_false, ne_eq, not_true_eq_false, not_false_eq_true, Classical.not_not, Bool.not_eq_true, Bool.not_eq_false, reduceCtorEq, Nat.add_zero, Nat.zero_add, Nat.mul_zero, and_self, and_true, true_and, Bool.true_eq_false, Bool.false_eq_true, eq_self]
      rw [(F2.keep (D := [(11, some 17)]) rfl (In_o 0 rfl)).1]
      try simp (disch := first | omega | assumption) only [lt_e, bn_s, ck_t, nk0, nk1, nk_b, bI_t, bI_f, L_0, L_1, L_2, L_3, L_4, L_5, L_6, L_7, L_8, L_9, L_10, L_11, L_12, L_15, L_20, L_25, L_30, L_45, L_60, L_65, L_69, L_74, L_79, L_84, L_85, L_86, L_99, L_100, L_255, L_300, L_356, L_900, L_1424, L_1425, L_1489, L_1510, L_9999, L_10000, nI_add, nI_mul, u_lt_t, u_lt_f, u_le_t, u_le_f, u_eq_t, u_eq_f, u_mlt, u_ltm, u_eqm, u_meq, u_mle, u_b0, u_b1, u_ix, u_cl, u_sub, u_suc, u_z0, u_0m, cI_0, cI_s, rI_e, rI_k, rI_j, rI_l, rL_e, rL_k, rL_j, rL_i, told11, none11, refuse12, no11q, no12q, yes11q, if_true, if_false, ite_true, ite_false, ne_eq, not_true_eq_false, not_false_eq_true, Classical.not_not, Bool.not_eq_true, Bool.not_eq_false, reduceCtorEq, Nat.add_zero, Nat.zero_add, Nat.mul_zero, and_self, and_true, true_and, Bool.true_eq_false, Bool.false_eq_true, eq_self]
    · rw [if_pos (by exact fun y => z ((nI_eq (b := 0) (by omega) (by omega)).mp y)), h2]
      try simp (disch := first | omega | assumption) only [lt_e, bn_s, ck_t, nk0, nk1, nk_b, bI_t, bI_f, L_0, L_1, L_2, L_3, L_4, L_5, L_6, L_7, L_8, L_9, L_10, L_11, L_12, L_15, L_20, L_25, L_30, L_45, L_60, L_65, L_69, L_74, L_79, L_84, L_85, L_86, L_99, L_100, L_255, L_300, L_356, L_900, L_1424, L_1425, L_1489, L_1510, L_9999, L_10000, nI_add, nI_mul, u_lt_t, u_lt_f, u_le_t, u_le_f, u_eq_t, u_eq_f, u_mlt, u_ltm, u_eqm, u_meq, u_mle, u_b0, u_b1, u_ix, u_cl, u_sub, u_suc, u_z0, u_0m, cI_0, cI_s, rI_e, rI_k, rI_j, rI_l, rL_e, rL_k, rL_j, rL_i, told11, none11, refuse12, no11q, no12q, yes11q, if_true, if_false, ite_true, ite_false, ne_eq, not_true_eq_false, not_false_eq_true, Classical.not_not, Bool.not_eq_true, Bool.not_eq_false, reduceCtorEq, Nat.add_zero, Nat.zero_add, Nat.mul_zero, and_self, and_true, true_and, Bool.true_eq_false, Bool.false_eq_true, eq_self]
      refine wp_some.mpr ?_
      unfold F12_firstRed
      rw [lt_e, show (0 : Int32) = nI 0 from rfl]
      refine wp_bn.mpr (wp_mono (mAsk hN w (mt _) ha) ?_)
      rintro _ t ⟨⟨rfl, h0, -, y, y2, -⟩, F2⟩
      rw [if_pos (by decide), y, if_pos (by exact fun y => z ((nI_eq (b := 0) (by omega) (by omega)).mp y)), y2 z]
      refine wp_some.mpr ⟨rfl, ?_⟩
      rw [(F2.keep (D := [(11, some 17)]) rfl (In_o 0 rfl)).1, h0]
      try simp (disch := first | omega | assumption) only [lt_e, bn_s, ck_t, nk0, nk1, nk_b, bI_t, bI_f, L_0, L_1, L_2, L_3, L_4, L_5, L_6, L_7, L_8, L_9, L_10, L_11, L_12, L_15, L_20, L_25, L_30, L_45, L_60, L_65, L_69, L_74, L_79, L_84, L_85, L_86, L_99, L_100, L_255, L_300, L_356, L_900, L_1424, L_1425, L_1489, L_1510, L_9999, L_10000, nI_add, nI_mul, u_lt_t, u_lt_f, u_le_t, u_le_f, u_eq_t, u_eq_f, u_mlt, u_ltm, u_eqm, u_meq, u_mle, u_b0, u_b1, u_ix, u_cl, u_sub, u_suc, u_z0, u_0m, cI_0, cI_s, rI_e, rI_k, rI_j, rI_l, rL_e, rL_k, rL_j, rL_i, told11, none11, refuse12, no11q, no12q, yes11q, if_true, if_false, ite_true, ite_false, ne_eq, not_true_eq_false, not_false_eq_true, Classical.not_not, Bool.not_eq_true, Bool.not_eq_false, reduceCtorEq, Nat.add_zero, Nat.zero_add, Nat.mul_zero, and_self, and_true, true_and, Bool.true_eq_false, Bool.false_eq_true, eq_self]
  · rw [if_neg (by decide)]
    try simp (disch := first | omega | assumption) only [lt_e, bn_s, ck_t, nk0, nk1, nk_b, bI_t, bI_f, L_0, L_1, L_2, L_3, L_4, L_5, L_6, L_7, L_8, L_9, L_10, L_11, L_12, L_15, L_20, L_25, L_30, L_45, L_60, L_65, L_69, L_74, L_79, L_84, L_85, L_86, L_99, L_100, L_255, L_300, L_356, L_900, L_1424, L_1425, L_1489, L_1510, L_9999, L_10000, nI_add, nI_mul, u_lt_t, u_lt_f, u_le_t, u_le_f, u_eq_t, u_eq_f, u_mlt, u_ltm, u_eqm, u_meq, u_mle, u_b0, u_b1, u_ix, u_cl, u_sub, u_suc, u_z0, u_0m, cI_0, cI_s, rI_e, rI_k, rI_j, rI_l, rL_e, rL_k, rL_j, rL_i, told11, none11, refuse12, no11q, no12q, yes11q, if_true, if_false, ite_true, ite_false, ne_eq, not_true_eq_false, not_false_eq_true, Classical.not_not, Bool.not_eq_true, Bool.not_eq_false, reduceCtorEq, Nat.add_zero, Nat.zero_add, Nat.mul_zero, and_self, and_true, true_and, Bool.true_eq_false, Bool.false_eq_true, eq_self]
    refine wp_some.mpr ?_
    unfold F12_firstRed
    rw [lt_e, show (0 : Int32) = nI 0 from rfl, mNot hN w (mt _) hn, bn_s, if_neg (by decide)]
    refine wp_some.mpr ⟨rfl, ?_⟩
    try simp (disch := first | omega | assumption) only [lt_e, bn_s, ck_t, nk0, nk1, nk_b, bI_t, bI_f, L_0, L_1, L_2, L_3, L_4, L_5, L_6, L_7, L_8, L_9, L_10, L_11, L_12, L_15, L_20, L_25, L_30, L_45, L_60, L_65, L_69, L_74, L_79, L_84, L_85, L_86, L_99, L_100, L_255, L_300, L_356, L_900, L_1424, L_1425, L_1489, L_1510, L_9999, L_10000, nI_add, nI_mul, u_lt_t, u_lt_f, u_le_t, u_le_f, u_eq_t, u_eq_f, u_mlt, u_ltm, u_eqm, u_meq, u_mle, u_b0, u_b1, u_ix, u_cl, u_sub, u_suc, u_z0, u_0m, cI_0, cI_s, rI_e, rI_k, rI_j, rI_l, rL_e, rL_k, rL_j, rL_i, told11, none11, refuse12, no11q, no12q, yes11q, if_true, if_false, ite_true, ite_false, ne_eq, not_true_eq_false, not_false_eq_true, Classical.not_not, Bool.not_eq_true, Bool.not_eq_false, reduceCtorEq, Nat.add_zero, Nat.zero_add, Nat.mul_zero, and_self, and_true, true_and, Bool.true_eq_false, Bool.false_eq_true, eq_self]
