theorem max_ok {a b : Nat} (ha : a < 2147483648) (hb : b < 2147483648) (σ : Ms) : FJ9_max_7cf53 (nI a) (nI b) σ = some (nI (if a < b then b else a), σ) := by
  unfold FJ9_max_7cf53
  by_cases h : a < b
  · rw [if_pos (nI_lt h hb), if_pos h]
  · rw [if_neg (nI_nlt (by omega) ha), if_neg h]
def mxw (b c : Nat → Nat) (i : Nat) : Nat := if b i < c 0 - b i then c 0 - b i else b i
/-- by which it is parted best, and how well -/
def bpt (P : Nat) (b : Nat → Nat) (f : Nat) : Nat → Nat × Nat
  | 0 => (0, f + 1)
  | i + 1 => if P.testBit i = true ∧ mxw b (fun _ => f) i < (bpt P b f i).2 then (i + 1, mxw b (fun _ => f) i) else bpt P b f i
theorem bpt_0 {P f : Nat} {b : Nat → Nat} : ∀ i, ((bpt P b f i).1 = 0 → (bpt P b f i).2 = f + 1) ∧ (bpt P b f i).1 ≤ i ∧ (bpt P b f i).2 ≤ f + 1
  | 0 => ⟨fun _ => rfl, Nat.le_refl _, Nat.le_refl _⟩
  | i + 1 => by
    have := bpt_0 (P := P) (f := f) (b := b) i
    unfold bpt
    split
    · next h => exact ⟨fun z => absurd z (Nat.succ_ne_zero _), Nat.le_refl _, by have := h.2; omega⟩
    · exact ⟨this.1, by omega, this.2.2⟩
theorem bpt_st {P f n : Nat} {b : Nat → Nat} (hP : P < 2 ^ n) : ∀ m, bpt P b f (n + m) = bpt P b f n
  | 0 => rfl
  | m + 1 => by
    have := bpt_st (f := f) (b := b) hP m
    show bpt P b f (n + m + 1) = _
    unfold bpt
    rw [if_neg (by rw [bit_lt hP (by omega)]; exact fun z => absurd z.1 (by decide)), this]
    cases n <;> rfl
theorem cPart {N P f : Nat} {b : Nat → Nat} {τ : Ms} (hN : 100 < N) (hP : P < 2 ^ 31) (hf : f ≤ 1024) (h0 : τ.1 100 0 = nI f) (h1 : ∀ i, i < 20 → τ.1 101 i = nI (b i)) (hb : ∀ i, b i ≤ f) : F10_bestParting N (nI P) τ = some (cI (bpt P b f 20).1, τ) := by
  refine wp_eq ?_
  unfold F10_bestParting F10_bestParting_b12
  rw [h0, show (1 : Int32) = nI 1 from rfl, nI_add, lt_e]
  refine wp_fx (fun m x => ∃ i, i + m = 20 ∧ x = (nI P, cI (bpt P b f i).1, nI (bpt P b f i).2, nI i, τ)) ?_ (n := 20) (by omega) ⟨0, by omega, rfl⟩
  rintro m k _ ⟨i, hi, rfl⟩ hk
  dsimp only
  unfold F10_bestParting_b12B F10_bestParting_b64
  by_cases q : i = 20
  · subst q
    rw [if_pos (by decide)]
    exact wp_some.mpr ⟨rfl, rfl⟩
  have hbi := hb i
  have hl := (bpt_0 (P := P) (f := f) (b := b) i).2.2
  have hm : mxw b (fun _ => f) i = if b i < f - b i then f - b i else b i := rfl
  have hmf : mxw b (fun _ => f) i ≤ f := by rw [hm]; split <;> omega
  rw [show (20 : Int32) = nI 20 from rfl, if_neg (nI_ge (by omega) (by omega)), ixb_nI (by omega) (by omega), ck_t, ck_t, nI_clamp (by omega), h0, h1 i (by omega), nI_sub hbi, max_ok (by omega) (by omega), bn_s, ← hm, isIn11 hP (by omega), bn_s, show (1 : Int32) = nI 1 from rfl, nI_add]
  have st : bpt P b f (i + 1) = if P.testBit i = true ∧ mxw b (fun _ => f) i < (bpt P b f i).2 then (i + 1, mxw b (fun _ => f) i) else bpt P b f i := rfl
  cases y : P.testBit i
  · rw [y, if_neg (by exact fun z => absurd z.1 (by decide))] at st
    rw [bI_f, if_pos (by rfl), ← st]
    exact hk (m - 1) _ (by omega) ⟨i + 1, by omega, rfl⟩
  · rw [bI_t, if_neg (by decide)]
    by_cases z : mxw b (fun _ => f) i < (bpt P b f i).2
    · rw [if_pos ⟨y, z⟩] at st
      rw [if_neg (nI_ge z (by omega))]
      refine hk (m - 1) _ (by omega) ⟨i + 1, by omega, ?_⟩
      rw [st, cI_s]
    · rw [if_neg fun w => z w.2] at st
      rw [if_pos (nI_le (by omega) (by omega)), ← st]
      exact hk (m - 1) _ (by omega) ⟨i + 1, by omega, rfl⟩
theorem mPart {N P f n : Nat} {b : Nat → Nat} {τ : Ms} (hN : 100 < N) (hP : P < 2 ^ n) (hn : n ≤ 20) (hf : f ≤ 1024) (h5 : τ.1 5 0 = nI n) (h0 : τ.1 0 33 = nI f) (h1 : ∀ i, i < n → τ.1 9 i = nI (b i)) (hb : ∀ i, b i ≤ f) : F12_ask_b41 N (nI P) (-1) 0 0 τ = some (cI (bpt P b f 20).1, τ) := by
  have hP31 := set_lt hP hn
  refine wp_eq ?_
  unfold F12_ask_b41
  refine wp_fx (fun m x => ∃ i, i + m = n ∧ x = (nI P, cI (bpt P b f i).1, nI (if (bpt P b f i).1 = 0 then 0 else (bpt P b f i).2), nI i, τ)) ?_ (n := n) (by omega) ⟨0, by omega, rfl⟩
  rintro m k _ ⟨i, hi, rfl⟩ hk
  dsimp only
  unfold F12_ask_b41B F12_ask_b100 F12_ask_b108
  rw [show ixb (0 : Int32) 1780 = true by decide, ck_t, show (0 : Int32).toNatClampNeg = 0 by decide, h5]
  by_cases q : i = n
  · subst q
    rw [if_pos (nI_le (by omega) (by omega))]
    have := bpt_st (f := f) (b := b) hP (20 - i)
    rw [show i + (20 - i) = 20 by omega] at this
    exact wp_some.mpr ⟨by rw [this], rfl⟩
  have hbi := hb i
  obtain ⟨l1, l2, hl⟩ := bpt_0 (P := P) (f := f) (b := b) i
  have hm : mxw b (fun _ => f) i = if b i < f - b i then f - b i else b i := rfl
  have hmf : mxw b (fun _ => f) i ≤ f := by rw [hm]; split <;> omega
  rw [if_neg (nI_ge (by omega) (by omega)), ixb_nI (by omega) (by omega), ck_t, ck_t, nI_clamp (by omega), h0, h1 i (by omega), nI_sub hbi, max_ok (by omega) (by omega), bn_s, ← hm, has12 hP31 (by omega), bn_s, show (1 : Int32) = nI 1 from rfl, nI_add]
  have st : bpt P b f (i + 1) = if P.testBit i = true ∧ mxw b (fun _ => f) i < (bpt P b f i).2 then (i + 1, mxw b (fun _ => f) i) else bpt P b f i := rfl
  cases y : P.testBit i
  · rw [y, if_neg (by exact fun z => absurd z.1 (by decide))] at st
    rw [bI_f, if_pos (by rfl), ← st]
    exact hk (m - 1) _ (by omega) ⟨i + 1, by omega, rfl⟩
  · rw [bI_t, if_neg (by decide)]
    by_cases z0 : (bpt P b f i).1 = 0
    · have := l1 z0
      rw [if_pos ⟨y, by omega⟩] at st
      rw [if_pos ((cI_lt _ (by omega)).mpr z0)]
      refine hk (m - 1) _ (by omega) ⟨i + 1, by omega, ?_⟩
      rw [st, cI_s, if_neg (Nat.succ_ne_zero i)]
    · rw [if_neg (by exact fun z => z0 ((cI_lt _ (by omega)).mp z)), if_neg z0]
      by_cases z : mxw b (fun _ => f) i < (bpt P b f i).2
      · rw [if_pos ⟨y, z⟩] at st
        rw [if_pos (nI_lt z (by omega))]
        refine hk (m - 1) _ (by omega) ⟨i + 1, by omega, ?_⟩
        rw [st, cI_s, if_neg (Nat.succ_ne_zero i)]
      · rw [if_neg fun w => z w.2] at st
        rw [if_neg (nI_nlt (by omega) (by omega))]
        refine hk (m - 1) _ (by omega) ⟨i + 1, by omega, ?_⟩
        rw [st, if_neg z0]
theorem R_ask {N : Nat} (hN : 2000 < N) (p q k : Int32) (σ : Ms) (hh : I_hg 0 22 σ) : wp (F11_ask N p q k σ) fun r t => wp (F12_ask N p q k t) fun r' t' => r = r' ∧ t'.1 11 17 = t'.1 0 0 := by
  obtain ⟨H, w, c, m, -⟩ := hh
  have hn := w.n
  unfold F11_ask
  refine wp_bn.mpr (wp_mono (cAsk hN w c p q k) ?_)
  rintro r τ ⟨h, F⟩
  have mt : ∀ a : Int32, MG 0 H (sI (sI τ 11 17 a) 0 1 (nI 0)) := fun a => m.mv fun j => by
    try simp (disch := first | omega | assumption) only [lt_e, bn_s, ck_t, nk0, nk1, nk_b, bI_t, bI_f, L_0, L_1, L_2, L_3, L_4, L_5, L_6, L_7, L_8, L_9, L_10, L_11, L_12, L_15, L_20, L_25, L_30, L_45, L_60, L_65, L_69, L_74, L_79, L_84, L_85, L_86, L_99, L_100, L_255, L_300, L_356, L_900, L_1424, L_1425, L_1489, L_1510, L_9999, L_10000, nI_add, nI_mul, u_lt_t, u_lt_f, u_le_t, u_le_f, u_eq_t, u_eq_f, u_mlt, u_ltm, u_eqm, u_meq, u_mle, u_b0, u_b1, u_ix, u_cl, u_sub, u_suc, u_z0, u_0m, cI_0, cI_s, rI_e, rI_k, rI_j, rI_l, rL_e, rL_k, rL_j, rL_i, told11, none11, refuse12, no11q, no12q, yes11q, if_true, if_false, ite_true, ite_false, ne_eq, not_true_eq_false, not_false_eq_true, Classical.not_not, Bool.not_eq_true, Bool.not_eq_false, reduceCtorEq, Nat.add_zero, Nat.zero_add, Nat.mul_zero, and_self, and_true, true_and, Bool.true_eq_false, Bool.false_eq_true, eq_self]
    exact (F.keep (D := [(5, none)]) rfl (In_a 0 rfl)).1
  rcases h with ⟨P, V, ha, rfl, h1, h2, h3⟩ | ⟨rfl, hna⟩
  · have hK : 2 ^ pc P 20 ≤ 1024 := Nat.pow_le_pow_right (n := 2) (by decide) ha.2.1.2.1
    have cl := cntw_le H P V (2 ^ pc P 20)
    have hb : ∀ i, bluw H P V i (2 ^ pc P 20) ≤ cntw H P V (2 ^ pc P 20) := fun i => bluw_le H P V i _
    have hP := okS_31 hn ha.2.1
    have hPn := ha.2.1.1
    have hp := ha.1
    rw [if_pos (by decide), h1]
    by_cases z : 2 ≤ cntw H P V (2 ^ pc P 20)
    rotate_left
    · rw [show (2 : Int32) = nI 2 from rfl, if_neg (nI_ge (by omega) (by omega))]
      try simp (disch := first | omega | assumption) only [lt_e, bn_s, ck_t, nk0, nk1, nk_b, bI_t, bI_f, L_0, L_1, L_2, L_3, L_4, L_5, L_6, L_7, L_8, L_9, L_10, L_11, L_12, L_15, L_20, L_25, L_30, L_45, L_60, L_65, L_69, L_74, L_79, L_84, L_85, L_86, L_99, L_100, L_255, L_300, L_356, L_900, L_1424, L_1425, L_1489, L_1510, L_9999, L_10000, nI_add, nI_mul, u_lt_t, u_lt_f, u_le_t, u_le_f, u_eq_t, u_eq_f, u_mlt, u_ltm, u_eqm, u_meq, u_mle, u_b0, u_b1, u_ix, u_cl, u_sub, u_suc, u_z0, u_0m, cI_0, cI_s, rI_e, rI_k, rI_j, rI_l, rL_e, rL_k, rL_j, rL_i, told11, none11, refuse12, no11q, no12q, yes11q, if_true, if_false, ite_true, ite_false, ne_eq, not_true_eq_false, not_false_eq_true, Classical.not_not, Bool.not_eq_true, Bool.not_eq_false, reduceCtorEq, Nat.add_zero, Nat.zero_add, Nat.mul_zero, and_self, and_true, true_and, Bool.true_eq_false, Bool.false_eq_true, eq_self]
      refine wp_some.mpr ?_
      unfold F12_ask
      rw [lt_e, show (0 : Int32) = nI 0 from rfl]
      refine wp_bn.mpr (wp_mono (mAsk hN w (mt _) ha) ?_)
      rintro _ t ⟨⟨rfl, h0, -, y, -⟩, F2⟩
      rw [if_pos (by decide), y, show (2 : Int32) = nI 2 from rfl, if_neg (nI_ge (by omega) (by omega))]
      try simp (disch := first | omega | assumption) only [lt_e, bn_s, ck_t, nk0, nk1, nk_b, bI_t, bI_f, L_0, L_1, L_2, L_3, L_4, L_5, L_6, L_7, L_8, L_9, L_10, L_11, L_12, L_15, L_20, L_25, L_30, L_45, L_60, L_65, L_69, L_74, L_79, L_84, L_85, L_86, L_99, L_100, L_255, L_300, L_356, L_900, L_1424, L_1425, L_1489, L_1510, L_9999, L_10000, nI_add, nI_mul, u_lt_t, u_lt_f, u_le_t, u_le_f, u_eq_t, u_eq_f, u_mlt, u_ltm, u_eqm, u_meq, u_mle, u_b0, u_b1, u_ix, u_cl, u_sub, u_suc, u_z0, u_0m, cI_0, cI_s, rI_e, rI_k, rI_j, rI_l, rL_e, rL_k, rL_j, rL_i, told11, none11, refuse12, no11q, no12q, yes11q, if_true, if_false, ite_true, ite_false, ne_eq, not_true_eq_false, not_false_eq_true, Classical.not_not, Bool.not_eq_true, Bool.not_eq_false, reduceCtorEq, Nat.add_zero, Nat.zero_add, Nat.mul_zero, and_self, and_true, true_and, Bool.true_eq_false, Bool.false_eq_true, eq_self]
      refine wp_some.mpr ⟨rfl, ?_⟩
      try simp (disch := first | omega | assumption) only [lt_e, bn_s, ck_t, nk0, nk1, nk_b, bI_t, bI_f, L_0, L_1, L_2, L_3, L_4, L_5, L_6, L_7, L_8, L_9, L_10, L_11, L_12, L_15, L_20, L_25, L_30, L_45, L_60, L_65, L_69, L_74, L_79, L_84, L_85, L_86, L_99, L_100, L_255, L_300, L_356, L_900, L_1424, L_1425, L_1489, L_1510, L_9999, L_10000, nI_add, nI_mul, u_lt_t, u_lt_f, u_le_t, u_le_f, u_eq_t, u_eq_f, u_mlt, u_ltm, u_eqm, u_meq, u_mle, u_b0, u_b1, u_ix, u_cl, u_sub, u_suc, u_z0, u_0m, cI_0, cI_s, rI_e, rI_k, rI_j, rI_l, rL_e, rL_k, rL_j, rL_i, told11, none11, refuse12, no11q, no12q, yes11q, if_true, if_false, ite_true, ite_false, ne_eq, not_true_eq_false, not_false_eq_true, Classical.not_not, Bool.not_eq_true, Bool.not_eq_false, reduceCtorEq, Nat.add_zero, Nat.zero_add, Nat.mul_zero, and_self, and_true, true_and, Bool.true_eq_false, Bool.false_eq_true, eq_self]
      rw [(F2.keep (D := [(11, some 17)]) rfl (In_o 0 rfl)).1]
      try simp (disch := first | omega | assumption) only [lt_e, bn_s, ck_t, nk0, nk1, nk_b, bI_t, bI_f, L_0, L_1, L_2, L_3, L_4, L_5, L_6, L_7, L_8, L_9, L_10, L_11, L_12, L_15, L_20, L_25, L_30, L_45, L_60, L_65, L_69, L_74, L_79, L_84, L_85, L_86, L_99, L_100, L_255, L_300, L_356, L_900, L_1424, L_1425, L_1489, L_1510, L_9999, L_10000, nI_add, nI_mul, u_lt_t, u_lt_f, u_le_t, u_le_f, u_eq_t, u_eq_f, u_mlt, u_ltm, u_eqm, u_meq, u_mle, u_b0, u_b1, u_ix, u_cl, u_sub, u_suc, u_z0, u_0m, cI_0, cI_s, rI_e, rI_k, rI_j, rI_l, rL_e, rL_k, rL_j, rL_i, told11, none11, refuse12, no11q, no12q, yes11q, if_true, if_false, ite_true, ite_false, ne_eq, not_true_eq_false, not_false_eq_true, Classical.not_not, Bool.not_eq_true, Bool.not_eq_false, reduceCtorEq, Nat.add_zero, Nat.zero_add, Nat.mul_zero, and_self, and_true, true_and, Bool.true_eq_false, Bool.false_eq_true, eq_self]
    · rw [show (2 : Int32) = nI 2 from rfl, if_pos (nI_le z (by omega)), hp, cPart (f := cntw H P V (2 ^ pc P 20)) (b := fun i => bluw H P V i (2 ^ pc P 20)) (by omega) hP (by omega) h1 h3 hb, bn_s, told11, bn_s]
      refine wp_some.mpr ?_
      unfold F12_ask
      rw [lt_e, show (0 : Int32) = nI 0 from rfl]
      rw [← hp]
      refine wp_bn.mpr (wp_mono (mAsk hN w (mt _) ha) ?_)
      rintro _ t ⟨⟨rfl, h0, y5, y, -, y9⟩, F2⟩
      rw [if_pos (by decide), y, show (2 : Int32) = nI 2 from rfl, if_pos (nI_le z (by omega)), hp]
      rw [show nI 0 = (0 : Int32) from rfl, mPart (n := gn H) (f := cntw H P V (2 ^ pc P 20)) (b := fun i => bluw H P V i (2 ^ pc P 20)) (by omega) hPn hn (by omega) (by rw [y5]; exact (mt _).1.at0.1) y y9 hb]
      refine wp_some.mpr ⟨rfl, ?_⟩
      rw [(F2.keep (D := [(11, some 17)]) rfl (In_o 0 rfl)).1, h0]
      try simp (disch := first | omega | assumption) only [lt_e, bn_s, ck_t, nk0, nk1, nk_b, bI_t, bI_f, L_0, L_1, L_2, L_3, L_4, L_5, L_6, L_7, L_8, L_9, L_10, L_11, L_12, L_15, L_20, L_25, L_30, L_45, L_60, L_65, L_69, L_74, L_79, L_84, L_85, L_86, L_99, L_100, L_255, L_300, L_356, L_900, L_1424, L_1425, L_1489, L_1510, L_9999, L_10000, nI_add, nI_mul, u_lt_t, u_lt_f, u_le_t, u_le_f, u_eq_t, u_eq_f, u_mlt, u_ltm, u_eqm, u_meq, u_mle, u_b0, u_b1, u_ix, u_cl, u_sub, u_suc, u_z0, u_0m, cI_0, cI_s, rI_e, rI_k, rI_j, rI_l, rL_e, rL_k, rL_j, rL_i, told11, none11, refuse12, no11q, no12q, yes11q, if_true, if_false, ite_true, ite_false, ne_eq, not_true_eq_false, not_false_eq_true, Classical.not_not, Bool.not_eq_true, Bool.not_eq_false, reduceCtorEq, Nat.add_zero, Nat.zero_add, Nat.mul_zero, and_self, and_true, true_and, Bool.true_eq_false, Bool.false_eq_true, eq_self]
  · rw [if_neg (by decide)]
    try simp (disch := first | omega | assumption) only [lt_e, bn_s, ck_t, nk0, nk1, nk_b, bI_t, bI_f, L_0, L_1, L_2, L_3, L_4, L_5, L_6, L_7, L_8, L_9, L_10, L_11, L_12, L_15, L_20, L_25, L_30, L_45, L_60, L_65, L_69, L_74, L_79, L_84, L_85, L_86, L_99, L_100, L_255, L_300, L_356, L_900, L_1424, L_1425, L_1489, L_1510, L_9999, L_10000, nI_add, nI_mul, u_lt_t, u_lt_f, u_le_t, u_le_f, u_eq_t, u_eq_f, u_mlt, u_ltm, u_eqm, u_meq, u_mle, u_b0, u_b1, u_ix, u_cl, u_sub, u_suc, u_z0, u_0m, cI_0, cI_s, rI_e, rI_k, rI_j, rI_l, rL_e, rL_k, rL_j, rL_i, told11, none11, refuse12, no11q, no12q, yes11q, if_true, if_false, ite_true, ite_false, ne_eq, not_true_eq_false, not_false_eq_true, Classical.not_not, Bool.not_eq_true, Bool.not_eq_false, reduceCtorEq, Nat.add_zero, Nat.zero_add, Nat.mul_zero, and_self, and_true, true_and, Bool.true_eq_false, Bool.false_eq_true, eq_self]
    refine wp_some.mpr ?_
    unfold F12_ask
    rw [lt_e, show (0 : Int32) = nI 0 from rfl, mNot hN w (mt _) hna, bn_s, if_neg (by decide)]
    refine wp_some.mpr ⟨rfl, ?_⟩
    try simp (disch := first | omega | assumption) only [lt_e, bn_s, ck_t, nk0, nk1, nk_b, bI_t, bI_f, L_0, L_1, L_2, L_3, L_4, L_5, L_6, L_7, L_8, L_9, L_10, L_11, L_12, L_15, L_20, L_25, L_30, L_45, L_60, L_65, L_69, L_74, L_79, L_84, L_85, L_86, L_99, L_100, L_255, L_300, L_356, L_900, L_1424, L_1425, L_1489, L_1510, L_9999, L_10000, nI_add, nI_mul, u_lt_t, u_lt_f, u_le_t, u_le_f, u_eq_t, u_eq_f, u_mlt, u_ltm, u_eqm, u_meq, u_mle, u_b0, u_b1, u_ix, u_cl, u_sub, u_suc, u_z0, u_0m, cI_0, cI_s, rI_e, rI_k, rI_j, rI_l, rL_e, rL_k, rL_j, rL_i, told11, none11, refuse12, no11q, no12q, yes11q, if_true, if_false, ite_true, ite_false, ne_eq, not_true_eq_false, not_false_eq_true, Classical.not_not, Bool.not_eq_true, Bool.not_eq_false, reduceCtorEq, Nat.add_zero, Nat.zero_add, Nat.mul_zero, and_self, and_true, true_and, Bool.true_eq_false, Bool.false_eq_true, eq_self]
