theorem dif_x {H : HG} (w : WG H) (i : Nat) : dif (gS H) (brs (gn H) (gS H) (go H) i) < 2 ^ 31 := set_lt (dif_lt w.1.2.1) w.n
/-- the class looks at the cuts -/
theorem cCuts {N h d : Nat} {H : HG} {σ : Ms} (hN : 60 < N) (h99 : h + 7 < 99) (w : WG H) (c : CG h H σ) (hd : d < 2) (hq : cQs (0, 0, 0, 0, 0) σ) : wp (F4_lookAtCuts N h (nI d) σ) fun _ τ => cQs (seqC H d (gn H)) τ ∧ CG h H τ := by
  have hn := w.n
  unfold F4_lookAtCuts F4_lookAtCuts_b2
  refine wp_fx (fun k x => ∃ i τ, i + k = gn H ∧ x = (nI d, nI i, τ) ∧ cQs (seqC H d i) τ ∧ CG h H τ) ?_ (n := gn H) (by omega) ⟨0, σ, by omega, rfl, hq, c⟩
  rintro k co _ ⟨i, τ, hi, rfl, hq, c⟩ hc
  simp only
  unfold F4_lookAtCuts_b2B F4_lookAtCuts_b64
  rw [c.1.1]
  by_cases q : gn H ≤ i
  · have ei : i = gn H := by omega
    subst ei
    rw [if_pos (nI_le (Nat.le_refl _) (by omega))]
    exact wp_some.mpr ⟨hq, c⟩
  have hin : i < gn H := by omega
  obtain ⟨ec, -⟩ := c.1.2.2 i hin
  have hc2 := (w.1.2.2 i hin).1
  rw [if_neg (nI_ge hin (by omega)), mayCut_in hn w.1.2.1 c.1.1 c.1.2.1 hin ec hc2 hd, bn_s]
  by_cases hb : (gS H).testBit i = true ∧ gc H i ≠ 1 - d
  rotate_left
  · have hf : ((gS H).testBit i && gc H i != 1 - d) = false := by
      cases h : (gS H).testBit i
      · rfl
      · have : gc H i = 1 - d := Classical.byContradiction fun z => hb ⟨h, z⟩
        simp [this]
    rw [hf, if_neg (by exact fun z => z rfl)]
    first | rw [nI_1] | rw [nI_add] | skip
    refine hc (k - 1) _ (by omega) ⟨i + 1, τ, by omega, rfl, ?_, c⟩
    unfold seqC
    rw [if_neg hb]
    exact hq
  have ht : ((gS H).testBit i && gc H i != 1 - d) = true := by simp [hb.1, hb.2]
  have hX := dif_x w i
  have ha := gw_abs w (dif (gS H) (brs (gn H) (gS H) (go H) i))
  have hx := gx_lt w (dif (gS H) (brs (gn H) (gS H) (go H) i))
  rw [ht, if_pos (by decide), branchSet_in (by omega) w.1 c.1 hin, bn_s, c.1.2.1, u_dif, lt_e]
  refine wp_bn.mpr (wp_mono (cWorth (by omega) w c hX) ?_)
  rintro _ τ1 ⟨rfl, e1, -, e3⟩
  have c1 := c.mv1 e1
  have q1 := hq.mv fun j => by rw [e1]
  refine wp_bn.mpr (wp_mono (cNim (by omega) w c1 hX) ?_)
  rintro _ τ2 ⟨rfl, f1, -, f3⟩
  have c2 : CG h H τ2 := c1.mv (fun j _ _ => f3 _ _ (by omega)) (fun k j h1 h2 => f3 _ _ (by omega))
  have q2 := q1.mv (τ := τ2) fun j => f3 _ _ (by omega)
  rw [c2.2.2.2.1, cWonBy (by omega) w c2 w.2.2.2.1 hd (by omega) (by omega), bn_s]
  have hle := seqC_le H d i
  refine wp_bn.mpr (wp_mono (note_ok (kd := 0) (lf := 0) q2 (by omega)) ?_)
  rintro _ τ3 ⟨q3, hF⟩
  have c3 : CG h H τ3 := c2.mv (fun j _ _ => (hF.1 _ _ (fun ⟨w, hw, e, _⟩ => by simp [W4_note] at hw; rcases hw with rfl | rfl | rfl | rfl | rfl <;> simp at e <;> omega))) (fun k j h1 h2 => (hF.1 _ _ (fun ⟨w, hw, e, _⟩ => by simp [W4_note] at hw; rcases hw with rfl | rfl | rfl | rfl | rfl <;> simp at e <;> omega)))
  first | rw [nI_1] | rw [nI_add] | skip
  refine hc (k - 1) _ (by omega) ⟨i + 1, τ3, by omega, rfl, ?_, c3⟩
  unfold seqC
  rw [if_pos hb]
  exact q3
theorem note_cg {h : Nat} {H : HG} {σ τ : Ms} (h99 : h + 7 < 99) (c : CG h H σ) (hF : Fr W4_note σ τ) : CG h H τ := c.mv (fun j _ _ => (hF.1 _ _ (fun ⟨w, hw, e, _⟩ => by simp [W4_note] at hw; rcases hw with rfl | rfl | rfl | rfl | rfl <;> simp at e <;> omega))) (fun k j h1 h2 => (hF.1 _ _ (fun ⟨w, hw, e, _⟩ => by simp [W4_note] at hw; rcases hw with rfl | rfl | rfl | rfl | rfl <;> simp at e <;> omega)))
theorem mayTake_in {h b : Nat} {H : HG} {σ : Ms} (w : WG H) (c : CG h H σ) (hb : b < gk H) : F0_mayTake h (nI b) σ = some (bI (!(gT H).testBit b), σ) := by
  have hk := w.2.2.1
  have hT := w.T
  unfold F0_mayTake
  rw [hasBet_in hk c.2.2.1 hb, bn_s, if_neg (by decide), c.2.2.2.1, isIn11 (by omega) (by omega), bn_s]
  cases (gT H).testBit b <;> rfl
theorem cBets {N h d : Nat} {H : HG} {σ : Ms} (hN : 60 < N) (h99 : h + 7 < 99) (w : WG H) (c : CG h H σ) (hd : d < 2) (hq : cQs (seqB H d 0) σ) : wp (F4_lookAtBets N h (nI d) (zL (1024 * gw H (gS H))) (nI (gx H (gS H))) σ) fun _ τ => cQs (seqB H d (gk H)) τ ∧ CG h H τ := by
  have hk := w.2.2.1
  have hn := w.n
  have ha := gw_abs w (gS H)
  have hx := gx_lt w (gS H)
  unfold F4_lookAtBets F4_lookAtBets_b3
  refine wp_fx (fun k x => ∃ i τ, i + k = gk H ∧ x = (nI d, zL (1024 * gw H (gS H)), nI (gx H (gS H)), nI i, τ) ∧ cQs (seqB H d i) τ ∧ CG h H τ) ?_ (n := gk H) (by omega) ⟨0, σ, by omega, rfl, hq, c⟩
  rintro k co _ ⟨i, τ, hi, rfl, hq, c⟩ hc
  simp only
  unfold F4_lookAtBets_b3B F4_lookAtBets_b66
  rw [c.2.2.1]
  by_cases q : gk H ≤ i
  · have ei : i = gk H := by omega
    subst ei
    rw [if_pos (nI_le (Nat.le_refl _) (by omega))]
    exact wp_some.mpr ⟨hq, c⟩
  have hik : i < gk H := by omega
  have hg := gain_abs w (d := d) hik
  rw [if_neg (nI_ge hik (by omega)), mayTake_in w c hik, bn_s]
  cases hb : (gT H).testBit i
  rotate_left
  · rw [if_neg (by exact fun z => z rfl)]
    first | rw [nI_1] | rw [nI_add] | skip
    refine hc (k - 1) _ (by omega) ⟨i + 1, τ, by omega, rfl, ?_, c⟩
    unfold seqB
    rw [if_neg (by rw [hb]; decide)]
    exact hq
  have hT' : gT H ||| 2 ^ i < 2 ^ gk H := or_lt w.2.2.2.1 hik
  rw [if_pos (by decide), cGain w c hik hd, bn_s, zI_zL (by omega) (by omega), ONE_z, zL_mul, zL_add, lt_e, c.2.2.2.1, show (1 : Int32) = nI 1 from rfl, u_shl1 i (by omega), fa_or, show 1024 * gw H (gS H) + gain H i d * 1073741824 = 1024 * (gw H (gS H) + gain H i d * 1048576) by omega, cWonBy (by omega) w c hT' hd (by omega) (by omega), bn_s]
  have hle := seqB_le H d i
  refine wp_bn.mpr (wp_mono (note_ok (kd := 1) (lf := 0) hq (by omega)) ?_)
  rintro _ τ3 ⟨q3, hF⟩
  first | rw [nI_1] | rw [nI_add] | skip
  refine hc (k - 1) _ (by omega) ⟨i + 1, τ3, by omega, rfl, ?_, note_cg h99 c hF⟩
  unfold seqB
  rw [if_pos hb]
  exact q3
theorem cHeaps {N h d : Nat} {H : HG} {σ : Ms} (hN : 60 < N) (h99 : h + 7 < 99) (w : WG H) (c : CG h H σ) (hd : d < 2) (hq : cQs (seqH H d 0) σ) : wp (F4_lookAtHeaps N h (nI d) (zL (1024 * gw H (gS H))) (nI (gx H (gS H))) σ) fun _ τ => cQs (seqH H d (gm H)) τ ∧ CG h H τ := by
  have hm := w.2.1.1
  have hn := w.n
  have hkk := w.2.2.1
  have ha := gw_abs w (gS H)
  have hx := gx_lt w (gS H)
  unfold F4_lookAtHeaps F4_lookAtHeaps_b3
  refine wp_fx (fun k x => ∃ i τ, i + k = 4 ∧ x = (nI d, zL (1024 * gw H (gS H)), nI (gx H (gS H)), nI i, τ) ∧ cQs (seqH H d (min i (gm H))) τ ∧ CG h H τ) ?_ (n := 4) (by omega) ⟨0, σ, by omega, rfl, by rw [Nat.zero_min]; exact hq, c⟩
  rintro k co _ ⟨i, τ, hi, rfl, hq, c⟩ hc
  simp only
  unfold F4_lookAtHeaps_b3B F4_lookAtHeaps_b78
  by_cases q : 4 ≤ i
  · have ei : i = 4 := by omega
    subst ei
    rw [if_pos (by decide)]
    rw [show min 4 (gm H) = gm H by omega] at hq
    exact wp_some.mpr ⟨hq, c⟩
  rw [if_neg (by exact fun z => q ((lit_le (c := 4) 4 rfl (by omega) (by omega)).mp z))]
  by_cases r : i < gm H
  rotate_left
  · rw [hasHeap_out' hm c.2.1.1 (fun ⟨j, hj, z⟩ => r (by have := (nI_eq (a := i) (b := j) (by omega) (by omega)).mp z; omega)), bn_s, if_neg (by exact fun z => z rfl)]
    first | rw [nI_1] | rw [nI_add] | skip
    exact hc (k - 1) _ (by omega) ⟨i + 1, τ, by omega, rfl, by rw [show min (i + 1) (gm H) = min i (gm H) by omega]; exact hq, c⟩
  have hv := w.2.1.2 i r
  have ev := c.2.1.2 i r
  rw [show min i (gm H) = i by omega] at hq
  rw [hasHeap_in' hm c.2.1.1 r, bn_s, if_pos (by decide), u_ix (show i < 4 by omega) (by omega), ck_t, u_cl (by omega), ev, nx_xor, lt_e]
  have hle := seqH_le w d i (by omega)
  have hxx : ∀ j, j < 16 → gx H (gS H) ^^^ gh H i ^^^ j < 16777216 := fun j hj => Nat.xor_lt_two_pow (n := 24) (Nat.xor_lt_two_pow (n := 24) hx (by omega)) (by omega)
  unfold F4_lookAtHeaps_b36
  refine wp_fx (fun k' x => ∃ j τ, j + k' = gh H i ∧ x = (nI d, zL (1024 * gw H (gS H)), nI (gx H (gS H)), nI i, nI (gx H (gS H) ^^^ gh H i), nI j, τ) ∧ cQs (seqI H d i (seqH H d i) j) τ ∧ CG h H τ) ?_ (n := gh H i) (by omega) ⟨0, τ, by omega, rfl, hq, c⟩
  rintro k' co' _ ⟨j, τ', hj, rfl, hq', c'⟩ hc'
  simp only
  unfold F4_lookAtHeaps_b36B F4_lookAtHeaps_b78
  rw [u_ix (show i < 4 by omega) (by omega), ck_t, u_cl (by omega), c'.2.1.2 i r]
  by_cases qj : gh H i ≤ j
  · have ej : j = gh H i := by omega
    subst ej
    rw [if_pos (nI_le (Nat.le_refl _) (by omega))]
    first | rw [nI_1] | rw [nI_add] | skip
    exact hc (k - 1) _ (by omega) ⟨i + 1, τ', by omega, rfl, by rw [show min (i + 1) (gm H) = i + 1 by omega]; exact hq', c'⟩
  have hle2 := seqI_le H d i hle.1 j
  rw [if_neg (nI_ge (by omega) (by omega)), nx_xor, c'.2.2.2.1, cWonBy (by omega) w c' w.2.2.2.1 hd (by have := hxx j (by omega); omega) (by omega), bn_s]
  refine wp_bn.mpr (wp_mono (note_ok (kd := 2) hq' (by omega)) ?_)
  rintro _ τ3 ⟨q3, hF⟩
  first | rw [nI_1] | rw [nI_add] | skip
  exact hc' (k' - 1) _ (by omega) ⟨j + 1, τ3, by omega, rfl, q3, note_cg h99 c' hF⟩
theorem zI_le0 {z : Int} (h : -1000 ≤ z ∧ z ≤ 1000) : (Int32.ofInt z ≤ 0) ↔ z ≤ 0 := by
  rw [Int32.le_iff_toInt_le, Int32.toInt_ofInt, show Int32.size = 4294967296 from rfl, Int.bmod_eq_of_le (by omega) (by omega)]
  rfl
theorem zI_0le {z : Int} (h : -1000 ≤ z ∧ z ≤ 1000) : (0 ≤ Int32.ofInt z) ↔ 0 ≤ z := by
  rw [Int32.le_iff_toInt_le, Int32.toInt_ofInt, show Int32.size = 4294967296 from rfl, Int.bmod_eq_of_le (by omega) (by omega)]
  rfl
theorem cLook {N h d : Nat} {H : HG} {σ : Ms} (hN : 60 < N) (h99 : h + 7 < 99) (w : WG H) (c : CG h H σ) (hd : d < 2) : wp (F4_look N h (nI d) σ) fun _ τ => cQs (seqS H d) τ ∧ (seqS H d).2.1 < 200 ∧ Fr (W4_look h) σ τ := by
  have hm := w.2.1.1
  have hn := w.n
  have hkk := w.2.2.1
  have hz := w.z
  have ha := gw_abs w (gS H)
  have hx := gx_lt w (gS H)
  have hle := seqH_le w d (gm H) (Nat.le_refl _)
  have hsl : (seqS H d).2.1 < 200 := by
    unfold seqS
    split
    · have := nt_2 (seqH H d (gm H)) 3 0 0 (decide (winr H (gw H (gS H) + (if d = 0 then -1 else 1) * 1048576) (gx H (gS H)) (gT H) (1 - d) = d)) hle.1
      rw [nt_1] at this
      omega
    · omega
  refine wp_mono (wp_fr (P := fun _ τ => cQs (seqS H d) τ) ?_ (fr_F4_look h N (nI d) σ)) fun _ τ hh => ⟨hh.1, hsl, hh.2⟩
  unfold F4_look F4_look_b75
  rw [lt_e, lt_e]
  have c0 : CG h H (sI (sI σ 99 0 (0 : Int32)) 99 1 (0 : Int32)) := c.mv (fun j _ _ => by rw [rI_k (by omega), rI_k (by omega)]) (fun k j _ _ => by rw [rI_k (by omega), rI_k (by omega)])
  have q0 : cQs (0, 0, 0, 0, 0) (sI (sI σ 99 0 (0 : Int32)) 99 1 (0 : Int32)) := ⟨by try simp (disch := first | omega | assumption) only [lt_e, bn_s, ck_t, nk0, nk1, nk_b, bI_t, bI_f, L_0, L_1, L_2, L_3, L_4, L_5, L_6, L_7, L_8, L_9, L_10, L_11, L_12, L_15, L_20, L_25, L_30, L_45, L_60, L_65, L_69, L_74, L_79, L_84, L_85, L_86, L_99, L_100, L_255, L_300, L_356, L_900, L_1424, L_1425, L_1489, L_1510, L_9999, L_10000, nI_add, nI_mul, u_lt_t, u_lt_f, u_le_t, u_le_f, u_eq_t, u_eq_f, u_mlt, u_ltm, u_eqm, u_meq, u_mle, u_b0, u_b1, u_ix, u_cl, u_sub, u_suc, u_z0, u_0m, cI_0, cI_s, rI_e, rI_k, rI_j, rI_l, rL_e, rL_k, rL_j, rL_i, told11, none11, refuse12, no11q, no12q, yes11q, if_true, if_false, ite_true, ite_false, ne_eq, not_true_eq_false, not_false_eq_true, Classical.not_not, Bool.not_eq_true, Bool.not_eq_false, reduceCtorEq, Nat.add_zero, Nat.zero_add, Nat.mul_zero, and_self, and_true, true_and, Bool.true_eq_false, Bool.false_eq_true, eq_self], by try simp (disch := first | omega | assumption) only [lt_e, bn_s, ck_t, nk0, nk1, nk_b, bI_t, bI_f, L_0, L_1, L_2, L_3, L_4, L_5, L_6, L_7, L_8, L_9, L_10, L_11, L_12, L_15, L_20, L_25, L_30, L_45, L_60, L_65, L_69, L_74, L_79, L_84, L_85, L_86, L_99, L_100, L_255, L_300, L_356, L_900, L_1424, L_1425, L_1489, L_1510, L_9999, L_10000, nI_add, nI_mul, u_lt_t, u_lt_f, u_le_t, u_le_f, u_eq_t, u_eq_f, u_mlt, u_ltm, u_eqm, u_meq, u_mle, u_b0, u_b1, u_ix, u_cl, u_sub, u_suc, u_z0, u_0m, cI_0, cI_s, rI_e, rI_k, rI_j, rI_l, rL_e, rL_k, rL_j, rL_i, told11, none11, refuse12, no11q, no12q, yes11q, if_true, if_false, ite_true, ite_false, ne_eq, not_true_eq_false, not_false_eq_true, Classical.not_not, Bool.not_eq_true, Bool.not_eq_false, reduceCtorEq, Nat.add_zero, Nat.zero_add, Nat.mul_zero, and_self, and_true, true_and, Bool.true_eq_false, Bool.false_eq_true, eq_self], fun z => absurd rfl z⟩
  rw [c0.1.2.1]
  refine wp_bn.mpr (wp_mono (cWorth (by omega) w c0 w.S) ?_)
  rintro _ τ1 ⟨rfl, e1, -, e3⟩
  have c1 := c0.mv1 e1
  have q1 := q0.mv (τ := τ1) fun j => by rw [e1]
  rw [c1.1.2.1]
  refine wp_bn.mpr (wp_mono (cNim (by omega) w c1 w.S) ?_)
  rintro _ τ2 ⟨rfl, f1, -, f3⟩
  have c2 : CG h H τ2 := c1.mv (fun j _ _ => f3 _ _ (by omega)) (fun k j h1 h2 => f3 _ _ (by omega))
  have q2 := q1.mv (τ := τ2) fun j => f3 _ _ (by omega)
  refine wp_bn.mpr (wp_mono (cCuts hN h99 w c2 hd q2) ?_)
  rintro _ τ3 ⟨q3, c3⟩
  refine wp_bn.mpr (wp_mono (cBets hN h99 w c3 hd q3) ?_)
  rintro _ τ4 ⟨q4, c4⟩
  refine wp_bn.mpr (wp_mono (cHeaps hN h99 w c4 hd q4) ?_)
  rintro _ τ5 ⟨q5, c5⟩
  unfold F0_maySpend
  rw [c5.2.2.2.2.1]
  by_cases d0 : d = 0
  · subst d0
    rw [if_neg (by exact fun z => z rfl)]
    by_cases p : gz H ≤ 0
    · rw [if_pos ((zI_le0 hz).mpr p), bn_s, if_pos (by rfl)]
      refine wp_some.mpr ?_
      unfold seqS
      rw [if_neg (by omega)]
      exact q5
    · rw [if_neg (by exact fun z => p ((zI_le0 hz).mp z)), bn_s, if_neg (by decide), if_neg (by exact fun z => z rfl), show (-1073741824 : Int64) = zL (-1073741824) by decide, zL_add, lt_e, c5.2.2.2.1, show 1024 * gw H (gS H) + -1073741824 = 1024 * (gw H (gS H) + -1 * 1048576) by omega, cWonBy (by omega) w c5 w.2.2.2.1 hd (by omega) (by omega), bn_s]
      refine wp_bn.mpr (wp_mono (note_ok (kd := 3) (pl := 0) (lf := 0) q5 (by omega)) ?_)
      rintro _ τ6 ⟨q6, -⟩
      refine wp_some.mpr ?_
      unfold seqS
      rw [if_pos (Or.inl ⟨rfl, by omega⟩), if_pos (by rfl)]
      exact q6
  · have d1 : d = 1 := by omega
    subst d1
    rw [if_pos (by decide)]
    by_cases p : 0 ≤ gz H
    · rw [if_pos ((zI_0le hz).mpr p), bn_s, if_pos (by rfl)]
      refine wp_some.mpr ?_
      unfold seqS
      rw [if_neg (by omega)]
      exact q5
    · rw [if_neg (by exact fun z => p ((zI_0le hz).mp z)), bn_s, if_neg (by decide), if_pos (by decide), ONE_z, zL_add, lt_e, c5.2.2.2.1, show 1024 * gw H (gS H) + 1073741824 = 1024 * (gw H (gS H) + 1 * 1048576) by omega, cWonBy (by omega) w c5 w.2.2.2.1 hd (by omega) (by omega), bn_s]
      refine wp_bn.mpr (wp_mono (note_ok (kd := 3) (pl := 0) (lf := 0) q5 (by omega)) ?_)
      rintro _ τ6 ⟨q6, -⟩
      refine wp_some.mpr ?_
      unfold seqS
      rw [if_pos (Or.inr ⟨rfl, by omega⟩), if_neg (by decide)]
      exact q6
