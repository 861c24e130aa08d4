theorem counts_5 {σ τ : Ms} (hF : Fr W12_counts σ τ) : ∀ j, τ.1 5 j = σ.1 5 j := fun j => (hF.keep (D := [(5, none)]) rfl (In_a 0 rfl)).1
theorem may_ok {n S i d : Nat} {col on : Nat → Nat} {σ : Ms} (hW : WS n S col on) (hM : MS 0 n S col on σ) (hi : i < n) (hd : d < 2) : F12_may (nI d) (nI i) σ = some (bI (decide (col i ≠ 1 - d)), σ) := by
  obtain ⟨ec, -, -⟩ := hM.at0.2 i hi
  have hn := hW.1
  have hc2 := (hW.2.2 i hi).1
  unfold F12_may F12_may_b24
  rw [show (5 : Int32) = nI 5 from rfl, nI_add, u_ix (show 5 + i < 1780 by omega) (by omega), ck_t, ck_t, u_cl (by omega), ec]
  by_cases q : col i = 2
  · rw [if_pos (by rw [q]; rfl), decide_eq_true (by omega)]
    rfl
  · rw [if_neg (by exact fun z => q ((nI_eq (b := 2) (by omega) (by omega)).mp z))]
    by_cases r : col i = d
    · rw [if_neg (by exact fun z => z (by rw [r])), decide_eq_true (by omega)]
      rfl
    · rw [if_pos (by exact fun z => r ((nI_eq (by omega) (by omega)).mp z)), decide_eq_false (by omega)]
      rfl
/-- the model's moves: a heap -/
theorem m188 {N i d : Nat} {H : HG} {σ : Ms} {co : Int32 × Int64 × Int32 × Int32 × Ms → Option (Unit × Ms)} {Q : Unit → Ms → Prop} (hN : 60 < N) (w : WG H) (c : MG 0 H σ) (hd : d < 2) (hi : i < gm H) (hq : mQs (seqH H d i) σ)
    (hc : ∀ τ : Ms, MG 0 H τ → mQs (seqH H d (i + 1)) τ → wp (co (nI d, zL (gw H (gS H)), nI (gx H (gS H)), nI (i + 1), τ)) Q) : wp (F12_laysMoves_b188 N co (nI d) (zL (gw H (gS H))) (nI (gx H (gS H))) (nI i) (0 : Int32) σ) Q := by
  have hm := w.2.1.1
  have hn := w.n
  have hkk := w.2.2.1
  have ha := gw_abs w (gS H)
  have hx := gx_lt w (gS H)
  have hv := w.2.1.2 i hi
  have hle := seqH_le w d i (by omega)
  have hxx : ∀ j, j < 16 → gx H (gS H) ^^^ gh H i ^^^ j < 16777216 := fun j hj => Nat.xor_lt_two_pow (n := 24) (Nat.xor_lt_two_pow (n := 24) hx (by omega)) (by omega)
  unfold F12_laysMoves_b188
  refine wp_fx (fun k x => ∃ j τ, j + k = gh H i ∧ x = (nI d, zL (gw H (gS H)), nI (gx H (gS H)), nI i, nI j, τ) ∧ mQs (seqI H d i (seqH H d i) j) τ ∧ MG 0 H τ) ?_ (n := gh H i) (by omega) ⟨0, σ, by omega, rfl, hq, c⟩
  rintro k co' _ ⟨j, τ, hj, rfl, hq', c'⟩ hc'
  simp only
  unfold F12_laysMoves_b188B
  rw [show (65 : Int32) = nI 65 from rfl, nI_add, u_ix (show 65 + i < 1780 by omega) (by omega), ck_t, ck_t, u_cl (by omega), c'.2.1.at0.2 i hi]
  by_cases qj : gh H i ≤ j
  · have ej : j = gh H i := by omega
    subst ej
    rw [if_pos (nI_le (Nat.le_refl _) (by omega)), show (1 : Int32) = nI 1 from rfl, nI_add]
    exact hc τ c' hq'
  have hle2 := seqI_le H d i hle.1 j
  rw [if_neg (nI_ge (by omega) (by omega)), taken_ok (by omega) w.2.2 c'.2.2, bn_s, nx_xor, nx_xor, show (2 : Int32) = nI 2 from rfl]
  refine wp_bn.mpr (wp_mono (counts_ok (by omega) w c' hq' (by omega) w.T hd (by have := hxx j (by omega); omega) (by omega)) ?_)
  rintro _ τ3 ⟨q3, hF⟩
  first | rw [nI_1] | rw [nI_add] | skip
  exact hc' (k - 1) _ (by omega) ⟨j + 1, τ3, by omega, rfl, q3, c'.mv (counts_5 hF)⟩
theorem spending_ok {d : Nat} {H : HG} {σ : Ms} (w : WG H) (c : MG 0 H σ) (hd : d < 2) : F12_spending (nI d) σ = some (if (d = 0 ∧ 0 < gz H) ∨ (d = 1 ∧ gz H < 0) then (if d = 0 then -nI 1 else nI 1) else nI 0, σ) := by
  have hz := w.z
  have e3 := c.2.2.at0.2.1
  unfold F12_spending F12_spending_b17
  rw [show ixb (3 : Int32) 1780 = true by decide, ck_t, ck_t, show (3 : Int32).toNatClampNeg = 3 by decide, e3]
  by_cases d0 : d = 0
  · subst d0
    rw [if_neg (by exact fun z => z rfl)]
    by_cases p : gz H ≤ 0
    · rw [if_pos ((zI_le0 hz).mpr p), if_pos (by decide), if_neg (by omega)]
      rfl
    · rw [if_neg (by exact fun z => p ((zI_le0 hz).mp z)), if_pos (Or.inl ⟨rfl, by omega⟩), if_pos (by rfl)]
      rfl
  · have d1 : d = 1 := by omega
    subst d1
    rw [if_pos (by decide), if_neg (by exact fun z => z rfl)]
    by_cases p : 0 ≤ gz H
    · rw [if_pos ((zI_0le hz).mpr p), if_neg (by omega)]
      rfl
    · rw [if_neg (by exact fun z => p ((zI_0le hz).mp z)), if_pos (Or.inr ⟨rfl, by omega⟩), if_neg (by decide)]
      rfl
theorem m174 {N d : Nat} {H : HG} {σ : Ms} (hN : 60 < N) (w : WG H) (c : MG 0 H σ) (hd : d < 2) (hq : mQs (seqH H d 0) σ) : wp (F12_laysMoves_b174 N (nI d) (zL (gw H (gS H))) (nI (gx H (gS H))) (0 : Int32) σ) fun _ τ => mQs (seqS H d) τ := by
  have hm := w.2.1.1
  have hn := w.n
  have hkk := w.2.2.1
  have ha := gw_abs w (gS H)
  have hx := gx_lt w (gS H)
  have hz := w.z
  unfold F12_laysMoves_b174
  refine wp_fx (fun k x => ∃ i τ, i + k = gm H ∧ x = (nI d, zL (gw H (gS H)), nI (gx H (gS H)), nI i, τ) ∧ mQs (seqH H d i) τ ∧ MG 0 H τ) ?_ (n := gm H) (by omega) ⟨0, σ, by omega, rfl, hq, c⟩
  rintro k co _ ⟨i, τ, hi, rfl, hq, c⟩ hc
  simp only
  unfold F12_laysMoves_b174B
  rw [show ixb (1 : Int32) 1780 = true by decide, ck_t, show (1 : Int32).toNatClampNeg = 1 by decide, c.2.1.at0.1]
  by_cases q : gm H ≤ i
  rotate_left
  · rw [if_neg (nI_ge (by omega) (by omega))]
    exact m188 hN w c hd (by omega) hq fun τ' c' q' => hc (k - 1) _ (by omega) ⟨i + 1, τ', by omega, rfl, q', c'⟩
  have ei : i = gm H := by omega
  subst ei
  have hle := seqH_le w d (gm H) (Nat.le_refl _)
  rw [if_pos (nI_le (Nat.le_refl _) (by omega)), spending_ok w c hd, bn_s]
  by_cases p : (d = 0 ∧ 0 < gz H) ∨ (d = 1 ∧ gz H < 0)
  rotate_left
  · rw [if_neg p, if_pos (by rfl)]
    refine wp_some.mpr ?_
    unfold seqS
    rw [if_neg p]
    exact hq
  have hsp : (if d = 0 then -nI 1 else nI 1) ≠ (0 : Int32) := by split <;> decide
  have hsv : (if d = 0 then -nI 1 else nI 1).toInt64 * (1048576 : Int64) = zL ((if d = 0 then -1 else 1) * 1048576) := by split <;> decide
  rw [if_pos p, if_neg hsp, spending_ok w c hd, bn_s, if_pos p, taken_ok (by omega) w.2.2 c.2.2, bn_s, hsv, zL_add, show (3 : Int32) = nI 3 from rfl, show (0 : Int32) = nI 0 from rfl]
  refine wp_bn.mpr (wp_mono (counts_ok (by omega) w c hq (by omega) w.T hd (by omega) (by split <;> omega)) ?_)
  rintro _ τ3 ⟨q3, hF⟩
  refine wp_some.mpr ?_
  unfold seqS
  rw [if_pos p]
  exact q3
theorem m107 {N d : Nat} {H : HG} {σ : Ms} (hN : 60 < N) (w : WG H) (c : MG 0 H σ) (hd : d < 2) (hq : mQs (seqB H d 0) σ) : wp (F12_laysMoves_b107 N (nI d) (zL (gw H (gS H))) (nI (gx H (gS H))) (0 : Int32) σ) fun _ τ => mQs (seqS H d) τ := by
  have hn := w.n
  have hkk := w.2.2.1
  have ha := gw_abs w (gS H)
  have hx := gx_lt w (gS H)
  unfold F12_laysMoves_b107
  refine wp_fx (fun k x => ∃ i τ, i + k = gk H ∧ x = (nI d, zL (gw H (gS H)), nI (gx H (gS H)), nI i, τ) ∧ mQs (seqB H d i) τ ∧ MG 0 H τ) ?_ (n := gk H) (by omega) ⟨0, σ, by omega, rfl, hq, c⟩
  rintro k co _ ⟨i, τ, hi, rfl, hq, c⟩ hc
  simp only
  unfold F12_laysMoves_b107B F12_laysMoves_b165
  rw [show ixb (2 : Int32) 1780 = true by decide, ck_t, show (2 : Int32).toNatClampNeg = 2 by decide, c.2.2.at0.1]
  by_cases q : gk H ≤ i
  · have ei : i = gk H := by omega
    subst ei
    rw [if_pos (nI_le (Nat.le_refl _) (by omega))]
    exact m174 hN w c hd hq
  have hik : i < gk H := by omega
  obtain ⟨-, -, es⟩ := c.2.2.at0.2.2 i hik
  have hg := gain_abs w (d := d) hik
  rw [if_neg (nI_ge hik (by omega)), show (79 : Int32) = nI 79 from rfl, nI_add, u_ix (show 79 + i < 1780 by omega) (by omega), ck_t, u_cl (by omega), es]
  cases hb : (gT H).testBit i
  rotate_left
  · rw [if_pos (by decide), show (1 : Int32) = nI 1 from rfl, nI_add]
    first | rw [nI_1] | rw [nI_add] | skip
    refine hc (k - 1) _ (by omega) ⟨i + 1, τ, by omega, rfl, ?_, c⟩
    unfold seqB
    rw [if_neg (by rw [hb]; decide)]
    exact hq
  have hle := seqB_le H d i
  have hT' : gT H ||| 2 ^ i < 32 := or_lt (k := 5) w.T (by omega)
  rw [if_neg (by decide), mGain w c hik hd, bn_s, taken_ok (by omega) w.2.2 c.2.2, bn_s, zI_zL (by omega) (by omega), UNIT_z, zL_mul, zL_add, show (1 : Int32) = nI 1 from rfl, u_shl1 i (by omega), fa_or, show (0 : Int32) = nI 0 from rfl, nI_add]
  refine wp_bn.mpr (wp_mono (counts_ok (by omega) w c hq (by omega) hT' hd (by omega) (by omega)) ?_)
  rintro _ τ3 ⟨q3, hF⟩
  first | rw [nI_1] | rw [nI_add] | skip
  refine hc (k - 1) _ (by omega) ⟨i + 1, τ3, by omega, rfl, ?_, c.mv (counts_5 hF)⟩
  unfold seqB
  rw [if_pos hb]
  exact q3
theorem mLook {N d : Nat} {H : HG} {σ : Ms} (hN : 60 < N) (w : WG H) (c : MG 0 H σ) (hd : d < 2) : wp (F12_laysMoves N (nI d) σ) fun _ τ => mQs (seqS H d) τ ∧ Fr W12_laysMoves σ τ := by
  refine wp_fr ?_ (fr_F12_laysMoves N (nI d) σ)
  have hn := w.n
  have hS := w.S
  unfold F12_laysMoves F12_laysMoves_b12
  rw [lt_e, lt_e]
  refine wp_fx (fun k x => ∃ i τ, i + k = gn H ∧ x = (nI d, nI i, τ) ∧ mQs (seqC H d i) τ ∧ MG 0 H τ) ?_ (n := gn H) (by omega) ⟨0, _, by omega, rfl, ⟨by try simp (disch := first | omega | assumption) only [lt_e, bn_s, ck_t, nk0, nk1, nk_b, bI_t, bI_f, L_0, L_1, L_2, L_3, L_4, L_5, L_6, L_7, L_8, L_9, L_10, L_11, L_12, L_15, L_20, L_25, L_30, L_45, L_60, L_65, L_69, L_74, L_79, L_84, L_85, L_86, L_99, L_100, L_255, L_300, L_356, L_900, L_1424, L_1425, L_1489, L_1510, L_9999, L_10000, nI_add, nI_mul, u_lt_t, u_lt_f, u_le_t, u_le_f, u_eq_t, u_eq_f, u_mlt, u_ltm, u_eqm, u_meq, u_mle, u_b0, u_b1, u_ix, u_cl, u_sub, u_suc, u_z0, u_0m, cI_0, cI_s, rI_e, rI_k, rI_j, rI_l, rL_e, rL_k, rL_j, rL_i, told11, none11, refuse12, no11q, no12q, yes11q, if_true, if_false, ite_true, ite_false, ne_eq, not_true_eq_false, not_false_eq_true, Classical.not_not, Bool.not_eq_true, Bool.not_eq_false, reduceCtorEq, Nat.add_zero, Nat.zero_add, Nat.mul_zero, and_self, and_true, true_and, Bool.true_eq_false, Bool.false_eq_true, eq_self]; rfl, by try simp (disch := first | omega | assumption) only [lt_e, bn_s, ck_t, nk0, nk1, nk_b, bI_t, bI_f, L_0, L_1, L_2, L_3, L_4, L_5, L_6, L_7, L_8, L_9, L_10, L_11, L_12, L_15, L_20, L_25, L_30, L_45, L_60, L_65, L_69, L_74, L_79, L_84, L_85, L_86, L_99, L_100, L_255, L_300, L_356, L_900, L_1424, L_1425, L_1489, L_1510, L_9999, L_10000, nI_add, nI_mul, u_lt_t, u_lt_f, u_le_t, u_le_f, u_eq_t, u_eq_f, u_mlt, u_ltm, u_eqm, u_meq, u_mle, u_b0, u_b1, u_ix, u_cl, u_sub, u_suc, u_z0, u_0m, cI_0, cI_s, rI_e, rI_k, rI_j, rI_l, rL_e, rL_k, rL_j, rL_i, told11, none11, refuse12, no11q, no12q, yes11q, if_true, if_false, ite_true, ite_false, ne_eq, not_true_eq_false, not_false_eq_true, Classical.not_not, Bool.not_eq_true, Bool.not_eq_false, reduceCtorEq, Nat.add_zero, Nat.zero_add, Nat.mul_zero, and_self, and_true, true_and, Bool.true_eq_false, Bool.false_eq_true, eq_self]; rfl, fun z => absurd rfl z⟩, c.mv fun j => by try simp (disch := first | omega | assumption) only [lt_e, bn_s, ck_t, nk0, nk1, nk_b, bI_t, bI_f, L_0, L_1, L_2, L_3, L_4, L_5, L_6, L_7, L_8, L_9, L_10, L_11, L_12, L_15, L_20, L_25, L_30, L_45, L_60, L_65, L_69, L_74, L_79, L_84, L_85, L_86, L_99, L_100, L_255, L_300, L_356, L_900, L_1424, L_1425, L_1489, L_1510, L_9999, L_10000, nI_add, nI_mul, u_lt_t, u_lt_f, u_le_t, u_le_f, u_eq_t, u_eq_f, u_mlt, u_ltm, u_eqm, u_meq, u_mle, u_b0, u_b1, u_ix, u_cl, u_sub, u_suc, u_z0, u_0m, cI_0, cI_s, rI_e, rI_k, rI_j, rI_l, rL_e, rL_k, rL_j, rL_i, told11, none11, refuse12, no11q, no12q, yes11q, if_true, if_false, ite_true, ite_false, ne_eq, not_true_eq_false, not_false_eq_true, Classical.not_not, Bool.not_eq_true, Bool.not_eq_false, reduceCtorEq, Nat.add_zero, Nat.zero_add, Nat.mul_zero, and_self, and_true, true_and, Bool.true_eq_false, Bool.false_eq_true, eq_self]⟩
  rintro k co _ ⟨i, τ, hi, rfl, hq, c⟩ hc
  simp only
  unfold F12_laysMoves_b12B F12_laysMoves_b83
  rw [show ixb (0 : Int32) 1780 = true by decide, ck_t, show (0 : Int32).toNatClampNeg = 0 by decide, c.1.at0.1]
  by_cases q : gn H ≤ i
  · have ei : i = gn H := by omega
    subst ei
    rw [if_pos (nI_le (Nat.le_refl _) (by omega))]
    refine wp_bn.mpr (wp_mono (mNow (by omega) w c) ?_)
    rintro _ τ' hL
    rw [lt_e, lt_e, hL.1, hL.2.1]
    exact m107 hN w (c.mv hL.five) hd (hq.mv fun j h1 h2 => (hL.2.2.2.2.1 0 j (fun ⟨w, hw, e, e2⟩ => by
      simp [W12_laysWorths] at hw
      rcases hw with rfl | rfl | rfl | rfl
      · have := e2 25 rfl; omega
      · have := e2 26 rfl; omega
      · simp at e
      · simp at e)))
  have hin : i < gn H := by omega
  obtain ⟨-, -, es⟩ := c.1.at0.2 i hin
  have p2 : (2 : Nat) ^ i < 2 ^ 31 := Nat.pow_lt_pow_right (by decide) (by omega)
  rw [if_neg (nI_ge hin (by omega)), show (45 : Int32) = nI 45 from rfl, nI_add, u_ix (show 45 + i < 1780 by omega) (by omega), ck_t, u_cl (by omega), es]
  have skip : ¬ ((gS H).testBit i = true ∧ gc H i ≠ 1 - d) → wp (co (nI d, nI i + (1 : Int32), τ)) fun _ τ => mQs (seqS H d) τ := fun hb => by
    first | rw [nI_1] | rw [nI_add] | skip
    refine hc (k - 1) _ (by omega) ⟨i + 1, τ, by omega, rfl, ?_, c⟩
    unfold seqC
    rw [if_neg hb]
    exact hq
  cases hb : (gS H).testBit i
  · rw [if_pos (by rfl)]
    exact skip (by rw [hb]; exact fun z => absurd z.1 (by decide))
  rw [if_neg (by decide), may_ok w.1 c.1 hin hd, bn_s]
  by_cases hcd : gc H i ≠ 1 - d
  rotate_left
  · rw [decide_eq_false hcd, if_neg (by exact fun z => z rfl)]
    exact skip fun z => hcd z.2
  have hX := dif_x w i
  have ha := gw_abs w (dif (gS H) (brs (gn H) (gS H) (go H) i))
  have hx := gx_lt w (dif (gS H) (brs (gn H) (gS H) (go H) i))
  rw [decide_eq_true hcd, if_pos (by decide), standing_ok (by omega) w.1 c.1, bn_s, show (1 : Int32) = nI 1 from rfl, u_shl1 i (by omega), standsBut_ok (by omega) w.1 c.1 hS p2, bn_s, stb_dif w.1, show (0 : Int32) = nI 0 from rfl]
  refine wp_bn.mpr (wp_mono (mWorth (by omega) w c hX) ?_)
  rintro _ τ' hL
  have c1 := c.mv hL.five
  have hle := seqC_le H d i
  have q1 : mQs (seqC H d i) τ' := hq.mv fun j h1 h2 => (hL.2.2.2.2.1 0 j (fun ⟨w, hw, e, e2⟩ => by
      simp [W12_laysWorths] at hw
      rcases hw with rfl | rfl | rfl | rfl
      · have := e2 25 rfl; omega
      · have := e2 26 rfl; omega
      · simp at e
      · simp at e))
  rw [taken_ok (by omega) w.2.2 c1.2.2, bn_s, hL.1, hL.2.1]
  refine wp_bn.mpr (wp_mono (counts_ok (by omega) w c1 q1 (by omega) w.T hd (by omega) (by omega)) ?_)
  rintro _ τ3 ⟨q3, hF⟩
  first | rw [nI_1] | rw [nI_add] | skip
  refine hc (k - 1) _ (by omega) ⟨i + 1, τ3, by omega, rfl, ?_, c1.mv (counts_5 hF)⟩
  unfold seqC
  rw [if_pos ⟨hb, hcd⟩]
  exact q3
