theorem zI_neg (n : Nat) : -nI n = Int32.ofInt (-(n : Int)) := (Int32.ofInt_neg (n : Int)).symm
theorem cGain {h b d : Nat} {H : HG} {σ : Ms} (w : WG H) (c : CG h H σ) (hb : b < gk H) (hd : d < 2) : F0_gain h (nI b) (nI d) σ = some (Int32.ofInt (gain H b d), σ) := by
  have hk := w.2.2.1
  obtain ⟨x1, x2⟩ := c.2.2.2.2.2 b hb
  unfold F0_gain gain
  rw [hasBet_in hk c.2.2.1 hb, bn_s, if_pos (by decide), u_ix (show b < 5 by omega) (by omega), ck_t, ck_t, u_cl (by omega), x1, x2]
  by_cases q : d = 0
  · subst q
    rw [if_neg (by exact fun z => z rfl), if_pos (by rfl)]
    rfl
  · rw [if_pos (by exact fun z => q ((nI_eq (b := 0) (by omega) (by omega)).mp z)), if_neg q, zI_neg]
theorem mGain {b d : Nat} {H : HG} {σ : Ms} (w : WG H) (c : MG 0 H σ) (hb : b < gk H) (hd : d < 2) : F12_gainBy (nI d) (nI b) σ = some (Int32.ofInt (gain H b d), σ) := by
  have hk := w.2.2.1
  obtain ⟨x1, x2, -⟩ := c.2.2.at0.2.2 b hb
  unfold F12_gainBy gain
  rw [show (74 : Int32) = nI 74 from rfl, show (69 : Int32) = nI 69 from rfl, nI_add, nI_add, u_ix (show 74 + b < 1780 by omega) (by omega), u_ix (show 69 + b < 1780 by omega) (by omega), ck_t, ck_t, u_cl (by omega), u_cl (by omega), x1, x2]
  by_cases q : d = 0
  · subst q
    rw [if_neg (by exact fun z => z rfl), if_pos (by rfl)]
    rfl
  · rw [if_pos (by exact fun z => q ((nI_eq (b := 0) (by omega) (by omega)).mp z)), if_neg q, zI_neg]
theorem gain_abs {H : HG} (w : WG H) {b d : Nat} (hb : b < gk H) : -20 ≤ gain H b d ∧ gain H b d ≤ 20 := by
  have h1 := w.2.2.2.2.1 b hb
  unfold gain
  split <;> omega
theorem other_ok {d : Nat} (hd : d < 2) (σ : Ms) : F11_other (nI d) σ = some (nI (1 - d), σ) := by
  unfold F11_other
  by_cases q : d = 0
  · subst q
    rw [if_neg (by exact fun z => z rfl)]
    rfl
  · have : d = 1 := by omega
    subst this
    rw [if_pos (by decide)]
    rfl
theorem cSettled {N h T d : Nat} {W : Int} {H : HG} {σ : Ms} (hN : 20 < N) (w : WG H) (c : CG h H σ) (hT : T < 32) (hd : d < 2) : F4_settled N h (zL (1024 * W)) (nI T) (nI d) σ = some (zL (1024 * (sett H 5 W T d).1), σ) := by
  refine wp_eq ?_
  unfold F4_settled F4_settled_b13
  refine wp_fx (fun k x => ∃ i W' T' d', i + k = 5 ∧ x = (zL (1024 * W'), nI T', nI d', nI i, σ) ∧ sett H (5 - i) W' T' d' = sett H 5 W T d ∧ T' < 32 ∧ d' < 2) ?_ (n := 5) (by omega) ⟨0, W, T, d, rfl, rfl, rfl, hT, hd⟩
  rintro k co _ ⟨i, W', T', d', hi, rfl, hs, hT', hd'⟩ hc
  simp only
  unfold F4_settled_b13B
  by_cases q : 5 ≤ i
  · have ei : i = 5 := by omega
    subst ei
    rw [if_pos (by decide), ← hs]
    exact wp_some.mpr ⟨rfl, rfl⟩
  rw [if_neg (by exact fun z => q ((lit_le (c := 5) 5 rfl (by omega) (by omega)).mp z)), cHot hN w.2.2 c.2.2 (show T' < 2 ^ 31 by omega), bn_s]
  cases hb : hotb T' (gl H) (gr H) (gk H) with
  | zero =>
    rw [sett_no hb] at hs
    rw [cI_0, if_neg (by exact fun z => z rfl), ← hs]
    exact wp_some.mpr ⟨rfl, rfl⟩
  | succ b =>
    have hbk : b < gk H := by have := hotb_le T' (gl H) (gr H) (gk H); omega
    have hk := w.2.2.1
    have hg := gain_abs w (d := d') hbk
    rw [show 5 - i = (4 - i) + 1 by omega, sett_yes hb] at hs
    rw [cI_s, if_pos (by exact fun z => (u_eqm (a := b) (by omega)).mp z), cGain w c hbk hd', bn_s, zI_zL (by omega) (by omega), ONE_z, zL_mul, zL_add, lt_e, show (1 : Int32) = nI 1 from rfl, u_shl1 b (by omega), fa_or, lt_e, other_ok hd', bn_s, nI_add]
    first | rw [nI_1] | rw [nI_add] | skip
    refine hc (k - 1) _ (by omega) ⟨i + 1, W' + gain H b d' * 1048576, T' ||| 2 ^ b, 1 - d', by omega, ?_, by rw [show 5 - (i + 1) = 4 - i by omega]; exact hs, or_lt (k := 5) hT' (by omega), by omega⟩
    rw [show 1024 * (W' + gain H b d' * 1048576) = 1024 * W' + gain H b d' * 1073741824 by omega]
theorem mEnds {N T d : Nat} {W : Int} {H : HG} {σ : Ms} (hN : 20 < N) (w : WG H) (c : MG 0 H σ) (hT : T < 32) (hd : d < 2) : wp (F12_endsWith N (zL W) (nI T) (nI d) σ) fun r τ => r = nI (sett H 5 W T d).2 ∧ τ.2 0 27 = zL (sett H 5 W T d).1 ∧ τ.1 = σ.1 ∧ ∀ k j, ¬ (k = 0 ∧ j = 27) → τ.2 k j = σ.2 k j := by
  unfold F12_endsWith F12_endsWith_b15
  rw [lt_e]
  refine wp_fx (fun k x => ∃ i W' T' d' τ, i + k = 5 ∧ x = (nI T', nI d', nI i, τ) ∧ sett H (5 - i) W' T' d' = sett H 5 W T d ∧ T' < 32 ∧ d' < 2 ∧ τ.2 0 27 = zL W' ∧ τ.1 = σ.1 ∧ ∀ k j, ¬ (k = 0 ∧ j = 27) → τ.2 k j = σ.2 k j) ?_ (n := 5) (by omega) ⟨0, W, T, d, _, rfl, rfl, rfl, hT, hd, by try simp (disch := first | omega | assumption) only [lt_e, bn_s, ck_t, nk0, nk1, nk_b, bI_t, bI_f, L_0, L_1, L_2, L_3, L_4, L_5, L_6, L_7, L_8, L_9, L_10, L_11, L_12, L_15, L_20, L_25, L_30, L_45, L_60, L_65, L_69, L_74, L_79, L_84, L_85, L_86, L_99, L_100, L_255, L_300, L_356, L_900, L_1424, L_1425, L_1489, L_1510, L_9999, L_10000, nI_add, nI_mul, u_lt_t, u_lt_f, u_le_t, u_le_f, u_eq_t, u_eq_f, u_mlt, u_ltm, u_eqm, u_meq, u_mle, u_b0, u_b1, u_ix, u_cl, u_sub, u_suc, u_z0, u_0m, cI_0, cI_s, rI_e, rI_k, rI_j, rI_l, rL_e, rL_k, rL_j, rL_i, told11, none11, refuse12, no11q, no12q, yes11q, if_true, if_false, ite_true, ite_false, ne_eq, not_true_eq_false, not_false_eq_true, Classical.not_not, Bool.not_eq_true, Bool.not_eq_false, reduceCtorEq, Nat.add_zero, Nat.zero_add, Nat.mul_zero, and_self, and_true, true_and, Bool.true_eq_false, Bool.false_eq_true, eq_self], rfl, fun k j h => if_neg h⟩
  rintro k co _ ⟨i, W', T', d', τ, hi, rfl, hs, hT', hd', g1, g2, g3⟩ hc
  simp only
  unfold F12_endsWith_b15B F12_endsWith_b74
  by_cases q : 5 ≤ i
  · have ei : i = 5 := by omega
    subst ei
    rw [if_pos (by decide), ← hs]
    exact wp_some.mpr ⟨rfl, g1, g2, g3⟩
  have hm : MG 0 H τ := c.mv fun j => by rw [g2]
  rw [if_neg (by exact fun z => q ((lit_le (c := 5) 5 rfl (by omega) (by omega)).mp z)), mHot hN w.2.2 hm.2.2 (show T' < 2 ^ 31 by omega), bn_s]
  cases hb : hotb T' (gl H) (gr H) (gk H) with
  | zero =>
    rw [sett_no hb] at hs
    rw [cI_0, if_neg (by decide)]
    first | rw [nI_1] | rw [nI_add] | skip
    exact hc (k - 1) _ (by omega) ⟨i + 1, W', T', d', τ, by omega, rfl, by rw [sett_no hb]; exact hs, hT', hd', g1, g2, g3⟩
  | succ b =>
    have hbk : b < gk H := by have := hotb_le T' (gl H) (gr H) (gk H); omega
    have hk := w.2.2.1
    have hg := gain_abs w (d := d') hbk
    rw [show 5 - i = (4 - i) + 1 by omega, sett_yes hb] at hs
    rw [cI_s, if_pos (nI_pos' (by omega)), mGain w hm hbk hd', bn_s, zI_zL (by omega) (by omega), UNIT_z, zL_mul, g1, zL_add, lt_e, show (1 : Int32) = nI 1 from rfl, u_shl1 b (by omega), fa_or, lt_e, u_sub (by omega), lt_e]
    first | rw [nI_1] | rw [nI_add] | skip
    refine hc (k - 1) _ (by omega) ⟨i + 1, W' + gain H b d' * 1048576, T' ||| 2 ^ b, 1 - d', _, by omega, rfl, by rw [show 5 - (i + 1) = 4 - i by omega]; exact hs, or_lt (k := 5) hT' (by omega), by omega, by try simp (disch := first | omega | assumption) only [lt_e, bn_s, ck_t, nk0, nk1, nk_b, bI_t, bI_f, L_0, L_1, L_2, L_3, L_4, L_5, L_6, L_7, L_8, L_9, L_10, L_11, L_12, L_15, L_20, L_25, L_30, L_45, L_60, L_65, L_69, L_74, L_79, L_84, L_85, L_86, L_99, L_100, L_255, L_300, L_356, L_900, L_1424, L_1425, L_1489, L_1510, L_9999, L_10000, nI_add, nI_mul, u_lt_t, u_lt_f, u_le_t, u_le_f, u_eq_t, u_eq_f, u_mlt, u_ltm, u_eqm, u_meq, u_mle, u_b0, u_b1, u_ix, u_cl, u_sub, u_suc, u_z0, u_0m, cI_0, cI_s, rI_e, rI_k, rI_j, rI_l, rL_e, rL_k, rL_j, rL_i, told11, none11, refuse12, no11q, no12q, yes11q, if_true, if_false, ite_true, ite_false, ne_eq, not_true_eq_false, not_false_eq_true, Classical.not_not, Bool.not_eq_true, Bool.not_eq_false, reduceCtorEq, Nat.add_zero, Nat.zero_add, Nat.mul_zero, and_self, and_true, true_and, Bool.true_eq_false, Bool.false_eq_true, eq_self], g2, fun a j h => (if_neg h).trans (g3 a j h)⟩
/-- who wins -/
def winr (H : HG) (W : Int) (x T d : Nat) : Nat := if (sett H 5 W T d).1 ≠ 0 then (if 0 < (sett H 5 W T d).1 then 0 else 1) else if x ≠ 0 then (sett H 5 W T d).2 else 1 - (sett H 5 W T d).2
theorem sett_lt {H : HG} {W : Int} {T d : Nat} (w : WG H) (hd : d < 2) : (sett H 5 W T d).2 < 2 := by
  rw [sett_who 5 W T d hd (by have := w.2.2.1; omega)]
  split <;> omega
theorem winr_lt {H : HG} {W : Int} {x T d : Nat} (w : WG H) (hd : d < 2) : winr H W x T d < 2 := by
  have := sett_lt (W := W) (T := T) w hd
  unfold winr
  split
  · split <;> omega
  · split <;> omega
theorem mWinner {N T d x : Nat} {W : Int} {H : HG} {σ : Ms} (hN : 20 < N) (w : WG H) (c : MG 0 H σ) (hT : T < 32) (hd : d < 2) (hx : x < 2147483648) (hW : -1125899906842624 < W ∧ W < 1125899906842624) : wp (F12_winnerOf N (zL W) (nI x) (nI T) (nI d) σ) fun r τ => r = nI (winr H W x T d) ∧ τ.1 = σ.1 ∧ ∀ k j, ¬ (k = 0 ∧ j = 27) → τ.2 k j = σ.2 k j := by
  have ha := sett_abs w 5 W T d
  have hl := sett_lt (W := W) (T := T) w hd
  unfold F12_winnerOf
  refine wp_bn.mpr (wp_mono (mEnds hN w c hT hd) ?_)
  rintro _ τ ⟨rfl, g1, g2, g3⟩
  rw [g1, Z0_z]
  unfold winr
  by_cases q : (sett H 5 W T d).1 = 0
  · rw [if_pos ((zL_eq (by omega) (by omega)).mpr q), if_neg (show ¬ (sett H 5 W T d).1 ≠ 0 from fun z => z q)]
    by_cases y : x = 0
    · subst y
      rw [if_pos (show nI 0 = (0 : Int32) from rfl), if_neg (show ¬ (0 : Nat) ≠ 0 from fun z => z rfl), show (1 : Int32) = nI 1 from rfl, u_sub (by omega)]
      exact wp_some.mpr ⟨rfl, g2, g3⟩
    · rw [if_neg (show ¬ nI x = (0 : Int32) from fun z => y ((nI_eq (b := 0) hx (by omega)).mp z)), if_pos (show x ≠ 0 from y)]
      exact wp_some.mpr ⟨rfl, g2, g3⟩
  · rw [if_neg (show ¬ lg_cmp (zL (sett H 5 W T d).1) (zL 0) = 0 from fun z => q ((zL_eq (by omega) (by omega)).mp z)), if_pos (show (sett H 5 W T d).1 ≠ 0 from q)]
    by_cases y : 0 < (sett H 5 W T d).1
    · rw [if_neg (by exact fun z => by have := (zL_le (by omega) (by omega)).mp z; omega), if_pos (show 0 < (sett H 5 W T d).1 from y)]
      exact wp_some.mpr ⟨rfl, g2, g3⟩
    · rw [if_pos ((zL_le (by omega) (by omega)).mpr (by omega)), if_neg (show ¬ 0 < (sett H 5 W T d).1 from y)]
      exact wp_some.mpr ⟨rfl, g2, g3⟩
theorem isOdd_ok {h T : Nat} {H : HG} {σ : Ms} (w : WG H) (c : CG h H σ) (hT : T < 2 ^ gk H) : F4_isOdd h (nI T) σ = some (bI (decide ((gk H - pc T (gk H)) % 2 = 1)), σ) := by
  have hk := w.2.2.1
  have hT20 : T < 2 ^ 20 := Nat.lt_of_lt_of_le hT (Nat.pow_le_pow_right (by decide) (by omega))
  have hp := pc_le T (gk H)
  unfold F4_isOdd
  rw [bitCount_ok hT20, bn_s, c.2.2.1, pc_big hT 20 (by omega), u_sub hp, show (1 : Int32) = nI 1 from rfl, fa_and, Nat.and_one_is_mod]
  by_cases q : (gk H - pc T (gk H)) % 2 = 1
  · rw [q, decide_eq_true rfl]
    rfl
  · rw [show (gk H - pc T (gk H)) % 2 = 0 by omega]
    rfl
theorem decides_ok {H : HG} {W : Int} {x T d : Nat} (w : WG H) (hd : d < 2) (hx : x < 2147483648) (hW : -1125899906842624 < W ∧ W < 1125899906842624) (σ : Ms) : F4_decides (zL (1024 * (sett H 5 W T d).1)) (nI x) (bI (decide ((gk H - pc T (gk H)) % 2 = 1))) (nI d) σ = some (bI (decide (winr H W x T d = d)), σ) := by
  have ha := sett_abs w 5 W T d
  have hk := w.2.2.1
  have hwho := sett_who (H := H) 5 W T d hd (by omega)
  unfold F4_decides F4_decides_b45 F4_decides_b17 F4_decides_b27
  rw [Z0_z]
  by_cases q : (sett H 5 W T d).1 = 0
  · rw [if_pos ((zL_eq (by omega) (by omega)).mpr (by omega))]
    have hv : winr H W x T d = if x ≠ 0 then (sett H 5 W T d).2 else 1 - (sett H 5 W T d).2 := by
      unfold winr
      rw [if_neg (show ¬ (sett H 5 W T d).1 ≠ 0 from fun z => z q)]
    by_cases y : x = 0
    · rw [if_pos (show nI x = (0 : Int32) by rw [y]; rfl)]
      by_cases o : (gk H - pc T (gk H)) % 2 = 1
      · rw [decide_eq_true o, if_neg (by decide)]
        have : decide (winr H W x T d = d) = true := by
          rw [hv, hwho]
          rw [if_neg (show ¬ x ≠ 0 from fun z => z y), if_neg (by omega)]
          exact decide_eq_true (by omega)
        rw [this]
        rfl
      · rw [decide_eq_false o, if_pos (by rfl)]
        have : decide (winr H W x T d = d) = false := by
          rw [hv, hwho]
          rw [if_neg (show ¬ x ≠ 0 from fun z => z y), if_pos (by omega)]
          exact decide_eq_false (by omega)
        rw [this]
        rfl
    · rw [if_neg (by exact fun z => y ((nI_eq (b := 0) hx (by omega)).mp z))]
      by_cases o : (gk H - pc T (gk H)) % 2 = 1
      · rw [decide_eq_true o, if_pos (by rfl)]
        have : decide (winr H W x T d = d) = false := by
          rw [hv, hwho]
          rw [if_pos y, if_neg (by omega)]
          exact decide_eq_false (by omega)
        rw [this]
        rfl
      · rw [decide_eq_false o, if_neg (by decide)]
        have : decide (winr H W x T d = d) = true := by
          rw [hv, hwho]
          rw [if_pos y, if_pos (by omega)]
          exact decide_eq_true rfl
        rw [this]
        rfl
  · rw [if_neg (by exact fun z => q (by have := (zL_eq (by omega) (by omega)).mp z; omega))]
    have hv : winr H W x T d = if 0 < (sett H 5 W T d).1 then 0 else 1 := by
      unfold winr
      rw [if_pos q]
    have hd2 : d = 0 ∨ d = 1 := by omega
    by_cases y : 0 < (sett H 5 W T d).1
    · rw [if_neg (by exact fun z => by have := (zL_le (by omega) (by omega)).mp z; omega), hv, if_pos y]
      rcases hd2 with rfl | rfl <;> rfl
    · rw [if_pos ((zL_le (by omega) (by omega)).mpr (by omega)), hv, if_neg y]
      rcases hd2 with rfl | rfl <;> rfl
theorem cWonBy {N h T d x : Nat} {W : Int} {H : HG} {σ : Ms} (hN : 20 < N) (w : WG H) (c : CG h H σ) (hT : T < 2 ^ gk H) (hd : d < 2) (hx : x < 2147483648) (hW : -1125899906842624 < W ∧ W < 1125899906842624) : F4_wonBy N h (zL (1024 * W)) (nI x) (nI T) (nI d) σ = some (bI (decide (winr H W x T (1 - d) = d)), σ) := by
  have hk := w.2.2.1
  have hT5 : T < 32 := Nat.lt_of_lt_of_le hT (Nat.pow_le_pow_right (n := 2) (by decide) hk)
  have hl := winr_lt (W := W) (x := x) (T := T) (d := 1 - d) w (by omega)
  unfold F4_wonBy
  rw [other_ok hd, bn_s, cSettled hN w c hT5 (by omega), bn_s, isOdd_ok w c hT, bn_s, decides_ok w (by omega) hx hW, bn_s]
  by_cases q : winr H W x T (1 - d) = d
  · rw [decide_eq_true q, decide_eq_false (by omega)]
    rfl
  · rw [decide_eq_false q, decide_eq_true (show winr H W x T (1 - d) = 1 - d by omega)]
    rfl
theorem cWins {N h d : Nat} {H : HG} {σ : Ms} (hN : 20 < N) (w : WG H) (c : CG h H σ) (hd : d < 2) : wp (F4_winsBeginning N h (nI d) σ) fun r τ => r = bI (decide (winr H (gw H (gS H)) (gx H (gS H)) (gT H) d = d)) ∧ (∀ k j, k ≠ h + 7 → τ.1 k j = σ.1 k j) ∧ ∀ k j, k ≠ h + 6 → τ.2 k j = σ.2 k j := by
  have ha := gw_abs w (gS H)
  have hx := gx_lt w (gS H)
  unfold F4_winsBeginning
  rw [c.1.2.1]
  refine wp_bn.mpr (wp_mono (cWorth hN w c w.S) ?_)
  rintro _ τ ⟨rfl, e1, -, e3⟩
  have c1 := c.mv1 e1
  rw [c1.1.2.1]
  refine wp_bn.mpr (wp_mono (cNim hN w c1 w.S) ?_)
  rintro _ τ' ⟨rfl, f1, -, f3⟩
  have c2 : CG h H τ' := c1.mv (fun j _ _ => f3 _ _ (by omega)) (fun k j h1 h2 => f3 _ _ (by omega))
  rw [c2.2.2.2.1, cSettled hN w c2 w.T hd, bn_s, c2.2.2.2.1, isOdd_ok w c2 w.2.2.2.1, bn_s, decides_ok w hd (by omega) (by omega), bn_s, nk_b, ck_t]
  exact wp_some.mpr ⟨rfl, fun k j hk => (f3 k j hk).trans (by rw [e1]), fun k j hk => by rw [f1]; exact e3 k j hk⟩
theorem mWins {N d : Nat} {H : HG} {σ : Ms} (hN : 30 < N) (w : WG H) (c : MG 0 H σ) (hd : d < 2) : wp (F12_winnerNow N (nI d) σ) fun r τ => r = nI (winr H (gw H (gS H)) (gx H (gS H)) (gT H) d) ∧ Fr W12_winnerNow σ τ := by
  have ha := gw_abs w (gS H)
  have hx := gx_lt w (gS H)
  refine wp_fr ?_ (fr_F12_winnerNow N (nI d) σ)
  unfold F12_winnerNow
  refine wp_bn.mpr (wp_mono (mNow hN w c) ?_)
  rintro _ τ hL
  have c1 := c.mv hL.five
  rw [taken_ok (by omega) w.2.2 c1.2.2, bn_s, hL.1, hL.2.1]
  refine wp_bn.mpr (wp_mono (mWinner (by omega) w c1 w.T hd (by omega) (by omega)) ?_)
  rintro _ τ' ⟨rfl, -, -⟩
  exact wp_some.mpr rfl
