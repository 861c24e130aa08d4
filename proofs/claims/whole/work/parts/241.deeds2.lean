theorem CG.cut {h S' : Nat} {H : HG} {σ τ : Ms} (c : CG h H σ) (e6 : τ.1 h 6 = nI S') (e : ∀ j, 5 ≤ j → j ≤ 10 → j ≠ 6 → τ.1 h j = σ.1 h j) (e' : ∀ k j, h + 1 ≤ k → k ≤ h + 5 → τ.1 k j = σ.1 k j) : CG h (hSt H S') τ :=
  ⟨⟨(e 5 (by omega) (by omega) (by omega)).trans c.1.1, e6, fun i hi => ⟨(e' _ _ (by omega) (by omega)).trans (c.1.2.2 i hi).1, (e' _ _ (by omega) (by omega)).trans (c.1.2.2 i hi).2⟩⟩, ⟨(e 7 (by omega) (by omega) (by omega)).trans c.2.1.1, fun i hi => (e' _ _ (by omega) (by omega)).trans (c.2.1.2 i hi)⟩, (e 8 (by omega) (by omega) (by omega)).trans c.2.2.1, (e 9 (by omega) (by omega) (by omega)).trans c.2.2.2.1, (e 10 (by omega) (by omega) (by omega)).trans c.2.2.2.2.1, fun i hi => ⟨(e' _ _ (by omega) (by omega)).trans (c.2.2.2.2.2 i hi).1, (e' _ _ (by omega) (by omega)).trans (c.2.2.2.2.2 i hi).2⟩⟩
theorem CG.bt {h T' : Nat} {z' : Int} {H : HG} {σ τ : Ms} (c : CG h H σ) (e9 : τ.1 h 9 = nI T') (e10 : τ.1 h 10 = Int32.ofInt z') (e : ∀ j, 5 ≤ j → j ≤ 8 → τ.1 h j = σ.1 h j) (e' : ∀ k j, h + 1 ≤ k → k ≤ h + 5 → τ.1 k j = σ.1 k j) : CG h (hBt H T' z') τ :=
  ⟨⟨(e 5 (by omega) (by omega)).trans c.1.1, (e 6 (by omega) (by omega)).trans c.1.2.1, fun i hi => ⟨(e' _ _ (by omega) (by omega)).trans (c.1.2.2 i hi).1, (e' _ _ (by omega) (by omega)).trans (c.1.2.2 i hi).2⟩⟩, ⟨(e 7 (by omega) (by omega)).trans c.2.1.1, fun i hi => (e' _ _ (by omega) (by omega)).trans (c.2.1.2 i hi)⟩, (e 8 (by omega) (by omega)).trans c.2.2.1, e9, e10, fun i hi => ⟨(e' _ _ (by omega) (by omega)).trans (c.2.2.2.2.2 i hi).1, (e' _ _ (by omega) (by omega)).trans (c.2.2.2.2.2 i hi).2⟩⟩
/-- the cells of the model's block 0, by their places -/
theorem MG.upd {H H' : HG} {σ τ : Ms} (w : WG H) (c : MG 0 H σ) (hn : gn H' = gn H) (hm : gm H' = gm H) (hk : gk H' = gk H) (e0 : τ.1 5 0 = σ.1 5 0) (e1 : τ.1 5 1 = σ.1 5 1) (e2 : τ.1 5 2 = σ.1 5 2) (e3 : τ.1 5 3 = Int32.ofInt (gz H')) (f1 : ∀ i, i < gn H → τ.1 5 (5 + i) = nI (gc H' i)) (f2 : ∀ i, i < gn H → τ.1 5 (25 + i) = nI (go H' i)) (f3 : ∀ i, i < gn H → τ.1 5 (45 + i) = bI ((gS H').testBit i)) (f4 : ∀ i, i < gm H → τ.1 5 (65 + i) = nI (gh H' i)) (f5 : ∀ i, i < gk H → τ.1 5 (69 + i) = nI (gl H' i)) (f6 : ∀ i, i < gk H → τ.1 5 (74 + i) = nI (gr H' i)) (f7 : ∀ i, i < gk H → τ.1 5 (79 + i) = bI ((gT H').testBit i)) : MG 0 H' τ := by
  refine ⟨⟨?_, fun i hi => ?_⟩, ⟨?_, fun i hi => ?_⟩, ?_, ?_, fun i hi => ?_⟩
  · rw [e0, hn]; exact c.1.1
  · rw [hn] at hi
    rw [Nat.zero_add, Nat.zero_add, Nat.zero_add]
    exact ⟨f1 i hi, f2 i hi, f3 i hi⟩
  · rw [hm, Nat.zero_add, e1]; exact c.2.1.at0.1
  · rw [hm] at hi
    rw [Nat.zero_add]
    exact f4 i hi
  · rw [hk, Nat.zero_add, e2]; exact c.2.2.at0.1
  · rw [Nat.zero_add]; exact e3
  · rw [hk] at hi
    rw [Nat.zero_add, Nat.zero_add, Nat.zero_add]
    exact ⟨f5 i hi, f6 i hi, f7 i hi⟩
/-- a bet taken -/
theorem WG_take {H : HG} (w : WG H) {b d : Nat} (hb : b < gk H) (hf : (gT H).testBit b = false) : WG (hBt H (gT H ||| 2 ^ b) (gz H + gain H b d)) := by
  obtain ⟨h1, h2, h3, h4, h5, h6, h7⟩ := w
  have hg := gain_abs ⟨h1, h2, h3, h4, h5, h6, h7⟩ (d := d) hb
  have hp := pc_or hf (show b < 5 by omega)
  refine ⟨h1, h2, h3, or_lt h4 hb, h5, ?_, ?_⟩
  · show gz H + gain H b d ≤ 20 * ((pc (gT H ||| 2 ^ b) 5 : Nat) : Int)
    omega
  · show -(20 * ((pc (gT H ||| 2 ^ b) 5 : Nat) : Int)) ≤ gz H + gain H b d
    omega
theorem cTake {h b d : Nat} {H : HG} {σ : Ms} (w : WG H) (c : CG h H σ) (hb : b < gk H) (hf : (gT H).testBit b = false) (hd : d < 2) : wp (F0_winBet h (nI d) (nI b) σ) fun _ τ => CG h (hBt H (gT H ||| 2 ^ b) (gz H + gain H b d)) τ ∧ τ.1 h 11 = σ.1 h 11 ∧ Fr (W0_winBet h) σ τ := by
  have hk := w.2.2.1
  refine wp_mono (wp_fr (P := fun r τ => CG h (hBt H (gT H ||| 2 ^ b) (gz H + gain H b d)) τ ∧ τ.1 h 11 = σ.1 h 11) ?_ (fr_F0_winBet h (nI d) (nI b) σ)) fun r τ hh => ⟨hh.1.1, hh.1.2, hh.2⟩
  unfold F0_winBet
  rw [mayTake_in w c hb, hf, bn_s, if_pos (by decide), cGain w c hb hd, bn_s, lt_e, lt_e, c.2.2.2.2.1, ← Int32.ofInt_add, rI_j (show 9 ≠ 10 by omega), c.2.2.2.1, show (1 : Int32) = nI 1 from rfl, u_shl1 b (by omega), fa_or]
  refine wp_some.mpr ⟨c.bt (by rw [rI_e rfl rfl]) (by rw [rI_j (by omega), rI_e rfl rfl]) (fun j h1 h2 => by rw [rI_j (by omega), rI_j (by omega)]) (fun k j h1 h2 => by rw [rI_k (by omega), rI_k (by omega)]), by rw [rI_j (by omega), rI_j (by omega)]⟩
theorem mTake {b d : Nat} {H : HG} {σ : Ms} (w : WG H) (c : MG 0 H σ) (hb : b < gk H) (hf : (gT H).testBit b = false) (hd : d < 2) : wp (F12_takes (nI d) (nI b) σ) fun r τ => r = nI 1 ∧ MG 0 (hBt H (gT H ||| 2 ^ b) (gz H + gain H b d)) τ ∧ τ.1 5 4 = σ.1 5 4 ∧ K5 σ τ := by
  have hk := w.2.2.1
  have hn := w.n
  have hm := w.2.1.1
  obtain ⟨x1, x2, x3⟩ := c.2.2.at0.2.2 b hb
  have hT := w.T
  unfold F12_takes
  have hg : F12_gainBy (nI d) (nI b) (sI σ 5 (79 + b) (1 : Int32)) = some (Int32.ofInt (gain H b d), sI σ 5 (79 + b) (1 : Int32)) := by
    unfold F12_gainBy gain
    by_cases q : d = 0
    · subst q
      try simp (disch := first | omega | assumption) only [lt_e, bn_s, ck_t, nk0, nk1, nk_b, bI_t, bI_f, L_0, L_1, L_2, L_3, L_4, L_5, L_6, L_7, L_8, L_9, L_10, L_11, L_12, L_15, L_20, L_25, L_30, L_45, L_60, L_65, L_69, L_74, L_79, L_84, L_85, L_86, L_99, L_100, L_255, L_300, L_356, L_900, L_1424, L_1425, L_1489, L_1510, L_9999, L_10000, nI_add, nI_mul, u_lt_t, u_lt_f, u_le_t, u_le_f, u_eq_t, u_eq_f, u_mlt, u_ltm, u_eqm, u_meq, u_mle, u_b0, u_b1, u_ix, u_cl, u_sub, u_suc, u_z0, u_0m, cI_0, cI_s, rI_e, rI_k, rI_j, rI_l, rL_e, rL_k, rL_j, rL_i, told11, none11, refuse12, no11q, no12q, yes11q, if_true, if_false, ite_true, ite_false, ne_eq, not_true_eq_false, not_false_eq_true, Classical.not_not, Bool.not_eq_true, Bool.not_eq_false, reduceCtorEq, Nat.add_zero, Nat.zero_add, Nat.mul_zero, and_self, and_true, true_and, Bool.true_eq_false, Bool.false_eq_true, eq_self, x1]
      rfl
    · try simp (disch := first | omega | assumption) only [lt_e, bn_s, ck_t, nk0, nk1, nk_b, bI_t, bI_f, L_0, L_1, L_2, L_3, L_4, L_5, L_6, L_7, L_8, L_9, L_10, L_11, L_12, L_15, L_20, L_25, L_30, L_45, L_60, L_65, L_69, L_74, L_79, L_84, L_85, L_86, L_99, L_100, L_255, L_300, L_356, L_900, L_1424, L_1425, L_1489, L_1510, L_9999, L_10000, nI_add, nI_mul, u_lt_t, u_lt_f, u_le_t, u_le_f, u_eq_t, u_eq_f, u_mlt, u_ltm, u_eqm, u_meq, u_mle, u_b0, u_b1, u_ix, u_cl, u_sub, u_suc, u_z0, u_0m, cI_0, cI_s, rI_e, rI_k, rI_j, rI_l, rL_e, rL_k, rL_j, rL_i, told11, none11, refuse12, no11q, no12q, yes11q, if_true, if_false, ite_true, ite_false, ne_eq, not_true_eq_false, not_false_eq_true, Classical.not_not, Bool.not_eq_true, Bool.not_eq_false, reduceCtorEq, Nat.add_zero, Nat.zero_add, Nat.mul_zero, and_self, and_true, true_and, Bool.true_eq_false, Bool.false_eq_true, eq_self, x2]
      rw [if_neg q, zI_neg]
  rw [isBetAt_in (n := gk H) (by omega) c.2.2.at0.1 hb, bn_s, if_neg (by decide), show (79 : Int32) = nI 79 from rfl, nI_add, u_ix (show 79 + b < 1780 by omega) (by omega), ck_t, ck_t, u_cl (by omega), x3, hf, if_pos (by decide), lt_e, show ixb (3 : Int32) 1780 = true by decide, ck_t, hg, bn_s, ck_t, show (3 : Int32).toNatClampNeg = 3 by decide, rI_j (show 3 ≠ 79 + b by omega), c.2.2.at0.2.1, ← Int32.ofInt_add, lt_e]
  refine wp_some.mpr ⟨rfl, ?_, by rw [rI_j (by omega), rI_j (by omega)], (K5.s (by omega)).tr (K5.s (by omega))⟩
  refine c.upd w rfl rfl rfl (by rw [rI_j (by omega), rI_j (by omega)]) (by rw [rI_j (by omega), rI_j (by omega)]) (by rw [rI_j (by omega), rI_j (by omega)]) (by rw [rI_e rfl rfl]; rfl) (fun i hi => ?_) (fun i hi => ?_) (fun i hi => ?_) (fun i hi => ?_) (fun i hi => ?_) (fun i hi => ?_) (fun i hi => ?_)
  · rw [rI_j (by omega), rI_j (by omega)]; exact (c.1.at0.2 i hi).1
  · rw [rI_j (by omega), rI_j (by omega)]; exact (c.1.at0.2 i hi).2.1
  · rw [rI_j (by omega), rI_j (by omega)]; exact (c.1.at0.2 i hi).2.2
  · rw [rI_j (by omega), rI_j (by omega)]; exact c.2.1.at0.2 i hi
  · rw [rI_j (by omega), rI_j (by omega)]; exact (c.2.2.at0.2.2 i hi).1
  · rw [rI_j (by omega), rI_j (by omega)]; exact (c.2.2.at0.2.2 i hi).2.1
  · rw [rI_j (by omega)]
    show _ = bI ((gT H ||| 2 ^ b).testBit i)
    rw [Nat.testBit_or, Nat.testBit_two_pow]
    by_cases z : i = b
    · rw [rI_e rfl (by omega), decide_eq_true z.symm, Bool.or_true]
      rfl
    · rw [rI_j (by omega), decide_eq_false (fun y => z y.symm), Bool.or_false]
      exact (c.2.2.at0.2.2 i hi).2.2
theorem takes_no {p q : Int32} {H : HG} {σ : Ms} (w : WG H) (c : MG 0 H σ) (hp : ¬ ∃ b, p = nI b ∧ b < gk H ∧ (gT H).testBit b = false) : F12_takes q p σ = some (nI 0, σ) := by
  have hk := w.2.2.1
  unfold F12_takes
  rcases ix_or p (gk H) (by omega) with ⟨b, hb, rfl⟩ | ho
  rotate_left
  · rw [isBetAt_out (n := gk H) (by omega) c.2.2.at0.1 ho, bn_s, if_pos (by rfl)]
    rfl
  obtain ⟨x1, x2, x3⟩ := c.2.2.at0.2.2 b hb
  have ht : (gT H).testBit b = true := by
    cases h : (gT H).testBit b
    · exact absurd ⟨b, rfl, hb, h⟩ hp
    · rfl
  rw [isBetAt_in (n := gk H) (by omega) c.2.2.at0.1 hb, bn_s, if_neg (by decide), show (79 : Int32) = nI 79 from rfl, nI_add, u_ix (show 79 + b < 1780 by omega) (by omega), ck_t, u_cl (by omega), x3, ht, if_neg (by exact fun z => z rfl)]
  rfl
/-- a heap lessened -/
theorem WG_less {H : HG} (w : WG H) {i v : Nat} (hv : v ≤ 15) : WG (hHp H i v) := by
  refine ⟨w.1, ⟨w.2.1.1, fun k hk => ?_⟩, w.2.2⟩
  show (if k = i then v else gh H k) ≤ 15
  split
  · exact hv
  · exact w.2.1.2 k hk
theorem mayLessen_in {h i v : Nat} {H : HG} {σ : Ms} (w : WG H) (c : CG h H σ) (hi : i < gm H) (hv : v < 2147483648) : F0_mayLessen h (nI i) (nI v) σ = some (bI (decide (v < gh H i)), σ) := by
  have hm := w.2.1.1
  have hh := w.2.1.2 i hi
  have e := c.2.1.2 i hi
  unfold F0_mayLessen
  rw [hasHeap_in' hm c.2.1.1 hi]
  by_cases q : v < gh H i
  · try simp (disch := first | omega | assumption) only [lt_e, bn_s, ck_t, nk0, nk1, nk_b, bI_t, bI_f, L_0, L_1, L_2, L_3, L_4, L_5, L_6, L_7, L_8, L_9, L_10, L_11, L_12, L_15, L_20, L_25, L_30, L_45, L_60, L_65, L_69, L_74, L_79, L_84, L_85, L_86, L_99, L_100, L_255, L_300, L_356, L_900, L_1424, L_1425, L_1489, L_1510, L_9999, L_10000, nI_add, nI_mul, u_lt_t, u_lt_f, u_le_t, u_le_f, u_eq_t, u_eq_f, u_mlt, u_ltm, u_eqm, u_meq, u_mle, u_b0, u_b1, u_ix, u_cl, u_sub, u_suc, u_z0, u_0m, cI_0, cI_s, rI_e, rI_k, rI_j, rI_l, rL_e, rL_k, rL_j, rL_i, told11, none11, refuse12, no11q, no12q, yes11q, if_true, if_false, ite_true, ite_false, ne_eq, not_true_eq_false, not_false_eq_true, Classical.not_not, Bool.not_eq_true, Bool.not_eq_false, reduceCtorEq, Nat.add_zero, Nat.zero_add, Nat.mul_zero, and_self, and_true, true_and, Bool.true_eq_false, Bool.false_eq_true, eq_self, e, decide_eq_true q]
  · try simp (disch := first | omega | assumption) only [lt_e, bn_s, ck_t, nk0, nk1, nk_b, bI_t, bI_f, L_0, L_1, L_2, L_3, L_4, L_5, L_6, L_7, L_8, L_9, L_10, L_11, L_12, L_15, L_20, L_25, L_30, L_45, L_60, L_65, L_69, L_74, L_79, L_84, L_85, L_86, L_99, L_100, L_255, L_300, L_356, L_900, L_1424, L_1425, L_1489, L_1510, L_9999, L_10000, nI_add, nI_mul, u_lt_t, u_lt_f, u_le_t, u_le_f, u_eq_t, u_eq_f, u_mlt, u_ltm, u_eqm, u_meq, u_mle, u_b0, u_b1, u_ix, u_cl, u_sub, u_suc, u_z0, u_0m, cI_0, cI_s, rI_e, rI_k, rI_j, rI_l, rL_e, rL_k, rL_j, rL_i, told11, none11, refuse12, no11q, no12q, yes11q, if_true, if_false, ite_true, ite_false, ne_eq, not_true_eq_false, not_false_eq_true, Classical.not_not, Bool.not_eq_true, Bool.not_eq_false, reduceCtorEq, Nat.add_zero, Nat.zero_add, Nat.mul_zero, and_self, and_true, true_and, Bool.true_eq_false, Bool.false_eq_true, eq_self, e, decide_eq_false q]
theorem cLess {h i v : Nat} {H : HG} {σ : Ms} (w : WG H) (c : CG h H σ) (hi : i < gm H) (hv : v < gh H i) : wp (F0_lessen h (nI i) (nI v) σ) fun _ τ => CG h (hHp H i v) τ ∧ τ.1 h 11 = σ.1 h 11 ∧ Fr (W0_lessen h) σ τ := by
  have hm := w.2.1.1
  have hh := w.2.1.2 i hi
  refine wp_mono (wp_fr (P := fun r τ => CG h (hHp H i v) τ ∧ τ.1 h 11 = σ.1 h 11) ?_ (fr_F0_lessen h (nI i) (nI v) σ)) fun r τ hh => ⟨hh.1.1, hh.1.2, hh.2⟩
  unfold F0_lessen
  rw [mayLessen_in w c hi (by omega), decide_eq_true hv, bn_s, if_neg (by decide), u_ix (show i < 4 by omega) (by omega), ck_t, lt_e, u_cl (by omega)]
  refine wp_some.mpr ⟨⟨⟨by rw [rI_k (by omega)]; exact c.1.1, by rw [rI_k (by omega)]; exact c.1.2.1, fun k hk => by rw [rI_k (by omega), rI_k (by omega)]; exact c.1.2.2 k hk⟩, ⟨by rw [rI_k (by omega)]; exact c.2.1.1, fun k hk => ?_⟩, by rw [rI_k (by omega)]; exact c.2.2.1, by rw [rI_k (by omega)]; exact c.2.2.2.1, by rw [rI_k (by omega)]; exact c.2.2.2.2.1, fun k hk => by rw [rI_k (by omega), rI_k (by omega)]; exact c.2.2.2.2.2 k hk⟩, by rw [rI_k (by omega)]⟩
  show _ = nI (if k = i then v else gh H k)
  by_cases z : k = i
  · rw [rI_e rfl z, if_pos z]
  · rw [rI_j z, if_neg z]
    exact c.2.1.2 k hk
theorem mLess {i v : Nat} {H : HG} {σ : Ms} (w : WG H) (c : MG 0 H σ) (hi : i < gm H) (hv : v < gh H i) : wp (F12_lessens (nI i) (nI v) σ) fun r τ => r = nI 1 ∧ MG 0 (hHp H i v) τ ∧ τ.1 5 4 = σ.1 5 4 ∧ K5 σ τ := by
  have hk := w.2.2.1
  have hn := w.n
  have hm := w.2.1.1
  have hh := w.2.1.2 i hi
  unfold F12_lessens
  rw [isHeapAt_in (n := gm H) (by omega) c.2.1.at0.1 hi, bn_s, if_neg (by decide), show (65 : Int32) = nI 65 from rfl, nI_add, u_ix (show 65 + i < 1780 by omega) (by omega), ck_t, ck_t, u_cl (by omega), c.2.1.at0.2 i hi, if_pos (nI_lt hv (by omega)), lt_e]
  refine wp_some.mpr ⟨rfl, ?_, by rw [rI_j (by omega)], K5.s (by omega)⟩
  refine c.upd w rfl rfl rfl (by rw [rI_j (by omega)]) (by rw [rI_j (by omega)]) (by rw [rI_j (by omega)]) (by rw [rI_j (by omega)]; exact c.2.2.at0.2.1) (fun k hk => ?_) (fun k hk => ?_) (fun k hk => ?_) (fun k hk => ?_) (fun k hk => ?_) (fun k hk => ?_) (fun k hk => ?_)
  · rw [rI_j (by omega)]; exact (c.1.at0.2 k hk).1
  · rw [rI_j (by omega)]; exact (c.1.at0.2 k hk).2.1
  · rw [rI_j (by omega)]; exact (c.1.at0.2 k hk).2.2
  · show _ = nI (if k = i then v else gh H k)
    by_cases z : k = i
    · rw [rI_e rfl (by omega), if_pos z]
    · rw [rI_j (by omega), if_neg z]
      exact c.2.1.at0.2 k hk
  · rw [rI_j (by omega)]; exact (c.2.2.at0.2.2 k hk).1
  · rw [rI_j (by omega)]; exact (c.2.2.at0.2.2 k hk).2.1
  · rw [rI_j (by omega)]; exact (c.2.2.at0.2.2 k hk).2.2
theorem lessens_no {p : Int32} {v : Nat} {H : HG} {σ : Ms} (w : WG H) (c : MG 0 H σ) (hv : v < 2147483648) (hp : ¬ ∃ i, p = nI i ∧ i < gm H ∧ v < gh H i) : F12_lessens p (nI v) σ = some (nI 0, σ) := by
  have hm := w.2.1.1
  unfold F12_lessens
  rcases ix_or p (gm H) (by omega) with ⟨i, hi, rfl⟩ | ho
  rotate_left
  · rw [isHeapAt_out (n := gm H) (by omega) c.2.1.at0.1 ho, bn_s, if_pos (by rfl)]
    rfl
  have hh := w.2.1.2 i hi
  have hge : gh H i ≤ v := Nat.le_of_not_lt fun z => hp ⟨i, rfl, hi, z⟩
  rw [isHeapAt_in (n := gm H) (by omega) c.2.1.at0.1 hi, bn_s, if_neg (by decide), show (65 : Int32) = nI 65 from rfl, nI_add, u_ix (show 65 + i < 1780 by omega) (by omega), ck_t, u_cl (by omega), c.2.1.at0.2 i hi, if_neg (nI_nlt hge (by omega))]
  rfl
