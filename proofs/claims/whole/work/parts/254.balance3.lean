theorem pw_lt {k : Nat} (h : k < 31) : (2 : Nat) ^ k < 2 ^ 31 := Nat.pow_lt_pow_right (by decide) h
theorem nI_nm {X : Nat} (h : X < 2147483648) : nI X ≠ -nI 1 := fun z => (u_eqm h).mp z
theorem cBalancing {N : Nat} {H : HG} {σ : Ms} (hN : 2000 < N) (w : WG H) (c : CG 22 H σ) : wp (F7_balancing N 22 σ) fun r τ => YA (balB H) (gn H) r := by
  have h20 := w.n
  unfold F7_balancing F7_balancing_b2
  refine wp_fx (fun m x => ∃ i τ, i + m = 20 ∧ x = (nI i, τ) ∧ CG 22 H τ ∧ ∀ j, j < i → j < gn H → τ.1 103 j = nI (brs (gn H) (gS H) (go H) j)) ?_ (n := 20) (by omega) ⟨0, σ, by omega, rfl, c, fun j h => absurd h (Nat.not_lt_zero j)⟩
  rintro m co _ ⟨i, τ, hm, rfl, c, hb⟩ hc
  simp only
  unfold F7_balancing_b2B
  by_cases q : 20 ≤ i
  rotate_left
  · rw [if_neg (by exact fun z => q ((lit_le (c := 20) 20 rfl (by omega) (by omega)).mp z))]
    have wr : ∀ v : Int32, (i < gn H → v = nI (brs (gn H) (gS H) (go H) i)) → wp (co (nI i + (1 : Int32), sI τ 103 i v)) fun r τ => YA (balB H) (gn H) r := fun v hv => by
      first | rw [nI_1] | rw [nI_add] | skip
      refine hc (m - 1) _ (by omega) ⟨i + 1, _, by omega, rfl, c.mv (fun j _ _ => rI_k (by omega)) (fun k j h1 h2 => rI_k (by omega)), fun j hj hjn => ?_⟩
      by_cases e : j = i
      · rw [rI_e rfl e, hv (by omega), e]
      · rw [rI_j e]
        exact hb j (by omega) hjn
    by_cases r : i < gn H
    · rw [branchSet_in (by omega) w.1 c.1 r, bn_s, u_ix (show i < 20 by omega) (by omega), ck_t, lt_e, u_cl (by omega)]
      exact wr _ fun _ => rfl
    · have e0 : F0_branchSet N 22 (nI i) τ = some ((0 : Int32), τ) := by
        unfold F0_branchSet
        rw [hasSprig_out h20 c.1.1 (fun ⟨j, hj, z⟩ => r (by have := (nI_eq (a := i) (b := j) (by omega) (by omega)).mp z; omega)), bn_s, if_neg (by exact fun z => z rfl)]
      rw [e0, bn_s, u_ix (show i < 20 by omega) (by omega), ck_t, lt_e, u_cl (by omega)]
      exact wr _ fun z => absurd z r
  have ei : i = 20 := by omega
  subst ei
  rw [if_pos (by decide)]
  have b0 : BR H τ := fun j hj => hb j (by omega) hj
  unfold F7_balancing_b29
  refine wp_fx (fun m x => ∃ s r τ, s + m = 4 ∧ x = (r, nI s, τ) ∧ CG 22 H τ ∧ BR H τ ∧ ((r = -nI 1 ∧ (1 ≤ s → balB H 0 = false) ∧ (2 ≤ s → N1 (balB H) (gn H)) ∧ (3 ≤ s → N2 (balB H) (gn H)) ∧ (4 ≤ s → N3 (balB H) (gn H))) ∨ (r ≠ -nI 1 ∧ YA (balB H) (gn H) r))) ?_ (n := 4) (by omega) ⟨0, -nI 1, τ, by omega, rfl, c, b0, Or.inl ⟨rfl, fun h => by omega, fun h => by omega, fun h => by omega, fun h => by omega⟩⟩
  rintro m co' _ ⟨s, r, τ1, hm, rfl, c1, b1, hJ⟩ hc'
  simp only
  unfold F7_balancing_b29B
  by_cases hs : 3 < s
  · rw [if_pos ((lit_lt (c := 3) 3 rfl (by omega) (by omega)).mpr hs)]
    rcases hJ with ⟨rfl, j1, j2, j3, j4⟩ | ⟨-, hY⟩
    · exact wp_some.mpr (Or.inr ⟨j1 (by omega), Or.inr ⟨j2 (by omega), Or.inr ⟨j3 (by omega), Or.inr ⟨j4 (by omega), rfl⟩⟩⟩⟩)
    · exact wp_some.mpr hY
  rw [if_neg (by exact fun z => hs ((lit_lt (c := 3) 3 rfl (by omega) (by omega)).mp z))]
  rcases hJ with ⟨rfl, j1, j2, j3, j4⟩ | ⟨hne, hY⟩
  rotate_left
  · rw [if_pos (show r ≠ (-1 : Int32) from hne)]
    exact wp_some.mpr hY
  rw [if_neg (by exact fun z => z rfl)]
  have hs4 : s = 0 ∨ s = 1 ∨ s = 2 ∨ s = 3 := by omega
  rcases hs4 with rfl | rfl | rfl | rfl
  · refine wp_bn.mpr (wp_mono (least0 hN w c1 b1) ?_)
    rintro r τ2 ⟨c2, b2, ⟨h1, rfl⟩ | ⟨h1, rfl⟩⟩
    · first | rw [nI_1] | rw [nI_add] | skip
      exact hc' (m - 1) _ (by omega) ⟨1, nI 0, τ2, by omega, rfl, c2, b2, Or.inr ⟨nI_nm (by omega), Or.inl ⟨h1, rfl⟩⟩⟩
    · first | rw [nI_1] | rw [nI_add] | skip
      exact hc' (m - 1) _ (by omega) ⟨1, -nI 1, τ2, by omega, rfl, c2, b2, Or.inl ⟨rfl, fun _ => h1, fun h => by omega, fun h => by omega, fun h => by omega⟩⟩
  · have h0 := j1 (by omega)
    refine wp_bn.mpr (wp_mono (least1 hN w c1 b1) ?_)
    rintro r τ2 ⟨c2, b2, h1 | ⟨h1, rfl⟩⟩
    · first | rw [nI_1] | rw [nI_add] | skip
      refine hc' (m - 1) _ (by omega) ⟨2, r, τ2, by omega, rfl, c2, b2, Or.inr ⟨?_, Or.inr ⟨h0, Or.inl h1⟩⟩⟩
      obtain ⟨k, hk, rfl, -⟩ := h1
      exact nI_nm (by have := pw_lt (k := k) (by omega); omega)
    · first | rw [nI_1] | rw [nI_add] | skip
      exact hc' (m - 1) _ (by omega) ⟨2, -nI 1, τ2, by omega, rfl, c2, b2, Or.inl ⟨rfl, fun _ => h0, fun _ => h1, fun h => by omega, fun h => by omega⟩⟩
  · have h0 := j1 (by omega)
    have h0' := j2 (by omega)
    refine wp_bn.mpr (wp_mono (least2 hN w c1 b1) ?_)
    rintro r τ2 ⟨c2, b2, h1 | ⟨h1, rfl⟩⟩
    · first | rw [nI_1] | rw [nI_add] | skip
      refine hc' (m - 1) _ (by omega) ⟨3, r, τ2, by omega, rfl, c2, b2, Or.inr ⟨?_, Or.inr ⟨h0, Or.inr ⟨h0', Or.inl h1⟩⟩⟩⟩
      obtain ⟨q, k, hq, hk, rfl, -⟩ := h1
      have : s2 q k < 2 ^ 20 := (s2_lt hk).mpr (by omega)
      exact nI_nm (by omega)
    · first | rw [nI_1] | rw [nI_add] | skip
      exact hc' (m - 1) _ (by omega) ⟨3, -nI 1, τ2, by omega, rfl, c2, b2, Or.inl ⟨rfl, fun _ => h0, fun _ => h0', fun _ => h1, fun h => by omega⟩⟩
  · have h0 := j1 (by omega)
    have h0' := j2 (by omega)
    have h0'' := j3 (by omega)
    refine wp_bn.mpr (wp_mono (least3 hN w c1 b1) ?_)
    rintro r τ2 ⟨c2, b2, h1 | ⟨h1, rfl⟩⟩
    · first | rw [nI_1] | rw [nI_add] | skip
      refine hc' (m - 1) _ (by omega) ⟨4, r, τ2, by omega, rfl, c2, b2, Or.inr ⟨?_, Or.inr ⟨h0, Or.inr ⟨h0', Or.inr ⟨h0'', Or.inl h1⟩⟩⟩⟩⟩
      obtain ⟨r, q, k, hr, hq, hk, rfl, -⟩ := h1
      have : s3 r q k < 2 ^ 20 := (s3_lt hq hk).mpr (by omega)
      exact nI_nm (by omega)
    · first | rw [nI_1] | rw [nI_add] | skip
      exact hc' (m - 1) _ (by omega) ⟨4, -nI 1, τ2, by omega, rfl, c2, b2, Or.inl ⟨rfl, fun _ => h0, fun _ => h0', fun _ => h0'', fun _ => h1⟩⟩
/-- the model's search -/
theorem mBal1 {N k : Nat} {H : HG} {σ : Ms} (hN : 30 < N) (w : WG H) (c : MG 0 H σ) (hk : k < 31) : wp (F12_isBalanced N ((1 : Int32) <<< (nI k &&& 31)) σ) fun r τ => r = bI (balB H (2 ^ k)) ∧ MG 0 H τ := by
  rw [show (1 : Int32) = nI 1 from rfl, u_shl1 k hk]
  exact wp_mono (mBal hN w c (pw_lt hk)) fun r τ h => ⟨h.1, h.2.1⟩
theorem mBalances {N : Nat} {H : HG} {σ : Ms} (hN : 2000 < N) (w : WG H) (c : MG 0 H σ) : wp (F12_balances N σ) fun r τ => YA (balB H) (gn H) r ∧ MG 0 H τ := by
  have h20 := w.n
  have x0 : ixb (0 : Int32) 1780 = true := by decide
  have z0 : (0 : Int32).toNatClampNeg = 0 := by decide
  have e1 : (1 : Int32) = nI 1 := rfl
  unfold F12_balances
  refine wp_bn.mpr (wp_mono (mBal (X := 0) (by omega) w c (by decide)) ?_)
  rintro _ τ ⟨rfl, c, -⟩
  cases h0 : balB H 0
  rotate_left
  · rw [if_neg (by decide)]
    exact wp_some.mpr ⟨Or.inl ⟨h0, rfl⟩, c⟩
  rw [if_pos (by rfl)]
  unfold F12_balances_b12
  refine wp_fx (fun m x => ∃ k τ, k + m = gn H ∧ x = (nI k, τ) ∧ MG 0 H τ ∧ ∀ k', k' < k → balB H (2 ^ k') = false) ?_ (n := gn H) (by omega) ⟨0, τ, by omega, rfl, c, fun k' h => absurd h (Nat.not_lt_zero k')⟩
  rintro m co _ ⟨k, τ, hm, rfl, c, hf⟩ hc
  simp only
  unfold F12_balances_b12B
  rw [x0, ck_t, z0, c.1.at0.1]
  by_cases q : gn H ≤ k
  rotate_left
  · rw [if_neg (nI_ge (by omega) (by omega))]
    refine wp_bn.mpr (wp_mono (mBal1 (by omega) w c (by omega)) ?_)
    rintro _ τ1 ⟨rfl, c1⟩
    cases h1 : balB H (2 ^ k)
    · rw [if_pos (by rfl)]
      first | rw [nI_1] | rw [nI_add] | skip
      refine hc (m - 1) _ (by omega) ⟨k + 1, τ1, by omega, rfl, c1, fun k' hk' => ?_⟩
      by_cases e : k' = k
      · rw [e]; exact h1
      · exact hf k' (by omega)
    · rw [if_neg (by decide), e1, u_shl1 k (by omega)]
      exact wp_some.mpr ⟨Or.inr ⟨h0, Or.inl ⟨k, by omega, rfl, h1, hf⟩⟩, c1⟩
  have hN1 : N1 (balB H) (gn H) := fun k' hk' => hf k' (by omega)
  rw [if_pos (nI_le q (by omega))]
  clear hc hf
  unfold F12_balances_b44
  refine wp_fx (fun m x => ∃ q τ, q + m = gn H ∧ x = (nI q, τ) ∧ MG 0 H τ ∧ ∀ q' k', k' < q' → q' < q → balB H (s2 q' k') = false) ?_ (n := gn H) (by omega) ⟨0, τ, by omega, rfl, c, fun q' k' h1 h2 => absurd h2 (Nat.not_lt_zero q')⟩
  rintro m co _ ⟨q, τ, hm, rfl, c, hf⟩ hc
  simp only
  unfold F12_balances_b44B
  rw [x0, ck_t, z0, c.1.at0.1]
  by_cases hq : gn H ≤ q
  rotate_left
  · rw [if_neg (nI_ge (by omega) (by omega))]
    unfold F12_balances_b56
    refine wp_fx (fun m x => ∃ k τ, k + m = q ∧ x = (nI q, nI k, τ) ∧ MG 0 H τ ∧ ∀ k', k' < k → balB H (s2 q k') = false) ?_ (n := q) (by omega) ⟨0, τ, by omega, rfl, c, fun k' h => absurd h (Nat.not_lt_zero k')⟩
    rintro m' co' _ ⟨k, τ, hm', rfl, c, hf'⟩ hc'
    simp only
    unfold F12_balances_b56B
    by_cases hk : q ≤ k
    · rw [if_pos (nI_le hk (by omega))]
      first | rw [nI_1] | rw [nI_add] | skip
      refine hc (m - 1) _ (by omega) ⟨q + 1, τ, by omega, rfl, c, fun q' k' h1 h2 => ?_⟩
      by_cases e : q' = q
      · subst e; exact hf' k' (by omega)
      · exact hf q' k' h1 (by omega)
    rw [if_neg (nI_ge (by omega) (by omega)), e1, u_shl1 q (by omega), u_shl1 k (by omega), fa_or, show 2 ^ q ||| 2 ^ k = s2 q k from rfl]
    have hX : s2 q k < 2 ^ 31 := (s2_lt (by omega)).mpr (by omega)
    refine wp_bn.mpr (wp_mono (mBal (by omega) w c hX) ?_)
    rintro _ τ1 ⟨rfl, c1, -⟩
    cases h1 : balB H (s2 q k)
    · rw [if_pos (by rfl)]
      first | rw [nI_1] | rw [nI_add] | skip
      refine hc' (m' - 1) _ (by omega) ⟨k + 1, τ1, by omega, rfl, c1, fun k' hk' => ?_⟩
      by_cases e : k' = k
      · rw [e]; exact h1
      · exact hf' k' (by omega)
    · rw [if_neg (by decide)]
      refine wp_some.mpr ⟨Or.inr ⟨h0, Or.inr ⟨hN1, Or.inl ⟨q, k, by omega, by omega, rfl, h1, fun q' k' g1 g2 => ?_⟩⟩⟩, c1⟩
      by_cases e : q' = q
      · subst e; exact hf' k' (by omega)
      · exact hf q' k' g1 (by omega)
  have hN2 : N2 (balB H) (gn H) := fun q' k' h1 h2 => hf q' k' h2 (by omega)
  rw [if_pos (nI_le hq (by omega))]
  clear hc hf
  unfold F12_balances_b97
  refine wp_fx (fun m x => ∃ r τ, r + m = gn H ∧ x = (nI r, τ) ∧ MG 0 H τ ∧ ∀ r' q' k', q' < r' → k' < q' → r' < r → balB H (s3 r' q' k') = false) ?_ (n := gn H) (by omega) ⟨0, τ, by omega, rfl, c, fun r' q' k' h1 h2 h3 => absurd h3 (Nat.not_lt_zero r')⟩
  rintro m co _ ⟨r, τ, hm, rfl, c, hf⟩ hc
  simp only
  unfold F12_balances_b97B
  rw [x0, ck_t, z0, c.1.at0.1]
  by_cases hr : gn H ≤ r
  · rw [if_pos (nI_le hr (by omega))]
    exact wp_some.mpr ⟨Or.inr ⟨h0, Or.inr ⟨hN1, Or.inr ⟨hN2, Or.inr ⟨fun r' q' k' h1 h2 h3 => hf r' q' k' h2 h3 (by omega), rfl⟩⟩⟩⟩, c⟩
  rw [if_neg (nI_ge (by omega) (by omega))]
  unfold F12_balances_b109
  refine wp_fx (fun m x => ∃ q τ, q + m = r ∧ x = (nI r, nI q, τ) ∧ MG 0 H τ ∧ ∀ q' k', k' < q' → q' < q → balB H (s3 r q' k') = false) ?_ (n := r) (by omega) ⟨0, τ, by omega, rfl, c, fun q' k' h1 h2 => absurd h2 (Nat.not_lt_zero q')⟩
  rintro m' co' _ ⟨q, τ, hm', rfl, c, hf'⟩ hc'
  simp only
  unfold F12_balances_b109B
  by_cases hq' : r ≤ q
  · rw [if_pos (nI_le hq' (by omega))]
    first | rw [nI_1] | rw [nI_add] | skip
    refine hc (m - 1) _ (by omega) ⟨r + 1, τ, by omega, rfl, c, fun r' q1 k1 h1 h2 h3 => ?_⟩
    by_cases e : r' = r
    · subst e; exact hf' q1 k1 h2 (by omega)
    · exact hf r' q1 k1 h1 h2 (by omega)
  rw [if_neg (nI_ge (by omega) (by omega))]
  unfold F12_balances_b116
  refine wp_fx (fun m x => ∃ k τ, k + m = q ∧ x = (nI r, nI q, nI k, τ) ∧ MG 0 H τ ∧ ∀ k', k' < k → balB H (s3 r q k') = false) ?_ (n := q) (by omega) ⟨0, τ, by omega, rfl, c, fun k' h => absurd h (Nat.not_lt_zero k')⟩
  rintro m'' co'' _ ⟨k, τ, hm'', rfl, c, hf''⟩ hc''
  simp only
  unfold F12_balances_b116B
  by_cases hk : q ≤ k
  · rw [if_pos (nI_le hk (by omega))]
    first | rw [nI_1] | rw [nI_add] | skip
    refine hc' (m' - 1) _ (by omega) ⟨q + 1, τ, by omega, rfl, c, fun q1 k1 h1 h2 => ?_⟩
    by_cases e : q1 = q
    · subst e; exact hf'' k1 (by omega)
    · exact hf' q1 k1 h1 (by omega)
  rw [if_neg (nI_ge (by omega) (by omega)), e1, u_shl1 r (by omega), u_shl1 q (by omega), u_shl1 k (by omega), fa_or, fa_or, show 2 ^ r ||| 2 ^ q ||| 2 ^ k = s3 r q k from rfl]
  have hX : s3 r q k < 2 ^ 31 := (s3_lt (by omega) (by omega)).mpr (by omega)
  refine wp_bn.mpr (wp_mono (mBal (by omega) w c hX) ?_)
  rintro _ τ1 ⟨rfl, c1, -⟩
  cases h1 : balB H (s3 r q k)
  · rw [if_pos (by rfl)]
    first | rw [nI_1] | rw [nI_add] | skip
    refine hc'' (m'' - 1) _ (by omega) ⟨k + 1, τ1, by omega, rfl, c1, fun k' hk' => ?_⟩
    by_cases e : k' = k
    · rw [e]; exact h1
    · exact hf'' k' (by omega)
  · rw [if_neg (by decide)]
    refine wp_some.mpr ⟨Or.inr ⟨h0, Or.inr ⟨hN1, Or.inr ⟨hN2, Or.inl ⟨r, q, k, by omega, by omega, by omega, rfl, h1, fun r' q' k' g1 g2 g3 => ?_⟩⟩⟩⟩, c1⟩
    by_cases e : r' = r
    · subst e
      by_cases e' : q' = q
      · subst e'; exact hf'' k' (by omega)
      · exact hf' q' k' g2 (by omega)
    · exact hf r' q' k' g1 g2 (by omega)
theorem R_balanceSet {N : Nat} (hN : 2000 < N) (σ : Ms) (hh : I_hg 0 22 σ) : wp (F11_balanceSet N σ) fun r t => wp (F12_balanceSet N t) fun r' t' => r = r' ∧ t'.1 11 17 = t'.1 0 0 := by
  obtain ⟨H, w, c, m, -⟩ := hh
  unfold F11_balanceSet F12_balanceSet
  refine wp_bn.mpr (wp_mono (wp_fr (cBalancing hN w c) (fr_F7_balancing 22 N σ)) ?_)
  rintro r τ ⟨hY, hF⟩
  have t5 : ∀ j, τ.1 5 j = σ.1 5 j := fun j => (hF.keep (D := [(5, none)]) rfl (In_a 0 rfl)).1
  rcases YA_set w.n hY with rfl | ⟨X, hX, rfl⟩
  · try simp (disch := first | omega | assumption) only [lt_e, bn_s, ck_t, nk0, nk1, nk_b, bI_t, bI_f, L_0, L_1, L_2, L_3, L_4, L_5, L_6, L_7, L_8, L_9, L_10, L_11, L_12, L_15, L_20, L_25, L_30, L_45, L_60, L_65, L_69, L_74, L_79, L_84, L_85, L_86, L_99, L_100, L_255, L_300, L_356, L_900, L_1424, L_1425, L_1489, L_1510, L_9999, L_10000, nI_add, nI_mul, u_lt_t, u_lt_f, u_le_t, u_le_f, u_eq_t, u_eq_f, u_mlt, u_ltm, u_eqm, u_meq, u_mle, u_b0, u_b1, u_ix, u_cl, u_sub, u_suc, u_z0, u_0m, cI_0, cI_s, rI_e, rI_k, rI_j, rI_l, rL_e, rL_k, rL_j, rL_i, told11, none11, refuse12, no11q, no12q, yes11q, if_true, if_false, ite_true, ite_false, ne_eq, not_true_eq_false, not_false_eq_true, Classical.not_not, Bool.not_eq_true, Bool.not_eq_false, reduceCtorEq, Nat.add_zero, Nat.zero_add, Nat.mul_zero, and_self, and_true, true_and, Bool.true_eq_false, Bool.false_eq_true, eq_self]
    refine wp_some.mpr ?_
    refine wp_bn.mpr (wp_mono (wp_fr (mBalances hN w (m.mv (τ := sI (sI _ 0 1 _) 0 0 _) fun j => by try simp (disch := first | omega | assumption) only [lt_e, bn_s, ck_t, nk0, nk1, nk_b, bI_t, bI_f, L_0, L_1, L_2, L_3, L_4, L_5, L_6, L_7, L_8, L_9, L_10, L_11, L_12, L_15, L_20, L_25, L_30, L_45, L_60, L_65, L_69, L_74, L_79, L_84, L_85, L_86, L_99, L_100, L_255, L_300, L_356, L_900, L_1424, L_1425, L_1489, L_1510, L_9999, L_10000, nI_add, nI_mul, u_lt_t, u_lt_f, u_le_t, u_le_f, u_eq_t, u_eq_f, u_mlt, u_ltm, u_eqm, u_meq, u_mle, u_b0, u_b1, u_ix, u_cl, u_sub, u_suc, u_z0, u_0m, cI_0, cI_s, rI_e, rI_k, rI_j, rI_l, rL_e, rL_k, rL_j, rL_i, told11, none11, refuse12, no11q, no12q, yes11q, if_true, if_false, ite_true, ite_false, ne_eq, not_true_eq_false, not_false_eq_true, Classical.not_not, Bool.not_eq_true, Bool.not_eq_false, reduceCtorEq, Nat.add_zero, Nat.zero_add, Nat.mul_zero, and_self, and_true, true_and, Bool.true_eq_false, Bool.false_eq_true, eq_self, t5])) (fr_F12_balances N _)) ?_)
    rintro r' τ' ⟨⟨hY', -⟩, hF'⟩
    rw [← YA_un hY hY']
    try simp (disch := first | omega | assumption) only [lt_e, bn_s, ck_t, nk0, nk1, nk_b, bI_t, bI_f, L_0, L_1, L_2, L_3, L_4, L_5, L_6, L_7, L_8, L_9, L_10, L_11, L_12, L_15, L_20, L_25, L_30, L_45, L_60, L_65, L_69, L_74, L_79, L_84, L_85, L_86, L_99, L_100, L_255, L_300, L_356, L_900, L_1424, L_1425, L_1489, L_1510, L_9999, L_10000, nI_add, nI_mul, u_lt_t, u_lt_f, u_le_t, u_le_f, u_eq_t, u_eq_f, u_mlt, u_ltm, u_eqm, u_meq, u_mle, u_b0, u_b1, u_ix, u_cl, u_sub, u_suc, u_z0, u_0m, cI_0, cI_s, rI_e, rI_k, rI_j, rI_l, rL_e, rL_k, rL_j, rL_i, told11, none11, refuse12, no11q, no12q, yes11q, if_true, if_false, ite_true, ite_false, ne_eq, not_true_eq_false, not_false_eq_true, Classical.not_not, Bool.not_eq_true, Bool.not_eq_false, reduceCtorEq, Nat.add_zero, Nat.zero_add, Nat.mul_zero, and_self, and_true, true_and, Bool.true_eq_false, Bool.false_eq_true, eq_self]
    refine wp_some.mpr ⟨rfl, ?_⟩
    try simp (disch := first | omega | assumption) only [lt_e, bn_s, ck_t, nk0, nk1, nk_b, bI_t, bI_f, L_0, L_1, L_2, L_3, L_4, L_5, L_6, L_7, L_8, L_9, L_10, L_11, L_12, L_15, L_20, L_25, L_30, L_45, L_60, L_65, L_69, L_74, L_79, L_84, L_85, L_86, L_99, L_100, L_255, L_300, L_356, L_900, L_1424, L_1425, L_1489, L_1510, L_9999, L_10000, nI_add, nI_mul, u_lt_t, u_lt_f, u_le_t, u_le_f, u_eq_t, u_eq_f, u_mlt, u_ltm, u_eqm, u_meq, u_mle, u_b0, u_b1, u_ix, u_cl, u_sub, u_suc, u_z0, u_0m, cI_0, cI_s, rI_e, rI_k, rI_j, rI_l, rL_e, rL_k, rL_j, rL_i, told11, none11, refuse12, no11q, no12q, yes11q, if_true, if_false, ite_true, ite_false, ne_eq, not_true_eq_false, not_false_eq_true, Classical.not_not, Bool.not_eq_true, Bool.not_eq_false, reduceCtorEq, Nat.add_zero, Nat.zero_add, Nat.mul_zero, and_self, and_true, true_and, Bool.true_eq_false, Bool.false_eq_true, eq_self]
    rw [(hF'.keep (D := [(11, some 17)]) rfl (In_o 0 rfl)).1]
    try simp (disch := first | omega | assumption) only [lt_e, bn_s, ck_t, nk0, nk1, nk_b, bI_t, bI_f, L_0, L_1, L_2, L_3, L_4, L_5, L_6, L_7, L_8, L_9, L_10, L_11, L_12, L_15, L_20, L_25, L_30, L_45, L_60, L_65, L_69, L_74, L_79, L_84, L_85, L_86, L_99, L_100, L_255, L_300, L_356, L_900, L_1424, L_1425, L_1489, L_1510, L_9999, L_10000, nI_add, nI_mul, u_lt_t, u_lt_f, u_le_t, u_le_f, u_eq_t, u_eq_f, u_mlt, u_ltm, u_eqm, u_meq, u_mle, u_b0, u_b1, u_ix, u_cl, u_sub, u_suc, u_z0, u_0m, cI_0, cI_s, rI_e, rI_k, rI_j, rI_l, rL_e, rL_k, rL_j, rL_i, told11, none11, refuse12, no11q, no12q, yes11q, if_true, if_false, ite_true, ite_false, ne_eq, not_true_eq_false, not_false_eq_true, Classical.not_not, Bool.not_eq_true, Bool.not_eq_false, reduceCtorEq, Nat.add_zero, Nat.zero_add, Nat.mul_zero, and_self, and_true, true_and, Bool.true_eq_false, Bool.false_eq_true, eq_self]
  · try simp (disch := first | omega | assumption) only [lt_e, bn_s, ck_t, nk0, nk1, nk_b, bI_t, bI_f, L_0, L_1, L_2, L_3, L_4, L_5, L_6, L_7, L_8, L_9, L_10, L_11, L_12, L_15, L_20, L_25, L_30, L_45, L_60, L_65, L_69, L_74, L_79, L_84, L_85, L_86, L_99, L_100, L_255, L_300, L_356, L_900, L_1424, L_1425, L_1489, L_1510, L_9999, L_10000, nI_add, nI_mul, u_lt_t, u_lt_f, u_le_t, u_le_f, u_eq_t, u_eq_f, u_mlt, u_ltm, u_eqm, u_meq, u_mle, u_b0, u_b1, u_ix, u_cl, u_sub, u_suc, u_z0, u_0m, cI_0, cI_s, rI_e, rI_k, rI_j, rI_l, rL_e, rL_k, rL_j, rL_i, told11, none11, refuse12, no11q, no12q, yes11q, if_true, if_false, ite_true, ite_false, ne_eq, not_true_eq_false, not_false_eq_true, Classical.not_not, Bool.not_eq_true, Bool.not_eq_false, reduceCtorEq, Nat.add_zero, Nat.zero_add, Nat.mul_zero, and_self, and_true, true_and, Bool.true_eq_false, Bool.false_eq_true, eq_self]
    refine wp_some.mpr ?_
    refine wp_bn.mpr (wp_mono (wp_fr (mBalances hN w (m.mv (τ := sI (sI _ 0 1 _) 0 0 _) fun j => by try simp (disch := first | omega | assumption) only [lt_e, bn_s, ck_t, nk0, nk1, nk_b, bI_t, bI_f, L_0, L_1, L_2, L_3, L_4, L_5, L_6, L_7, L_8, L_9, L_10, L_11, L_12, L_15, L_20, L_25, L_30, L_45, L_60, L_65, L_69, L_74, L_79, L_84, L_85, L_86, L_99, L_100, L_255, L_300, L_356, L_900, L_1424, L_1425, L_1489, L_1510, L_9999, L_10000, nI_add, nI_mul, u_lt_t, u_lt_f, u_le_t, u_le_f, u_eq_t, u_eq_f, u_mlt, u_ltm, u_eqm, u_meq, u_mle, u_b0, u_b1, u_ix, u_cl, u_sub, u_suc, u_z0, u_0m, cI_0, cI_s, rI_e, rI_k, rI_j, rI_l, rL_e, rL_k, rL_j, rL_i, told11, none11, refuse12, no11q, no12q, yes11q, if_true, if_false, ite_true, ite_false, ne_eq, not_true_eq_false, not_false_eq_true, Classical.not_not, Bool.not_eq_true, Bool.not_eq_false, reduceCtorEq, Nat.add_zero, Nat.zero_add, Nat.mul_zero, and_self, and_true, true_and, Bool.true_eq_false, Bool.false_eq_true, eq_self, t5])) (fr_F12_balances N _)) ?_)
    rintro r' τ' ⟨⟨hY', -⟩, hF'⟩
    rw [← YA_un hY hY']
    try simp (disch := first | omega | assumption) only [lt_e, bn_s, ck_t, nk0, nk1, nk_b, bI_t, bI_f, L_0, L_1, L_2, L_3, L_4, L_5, L_6, L_7, L_8, L_9, L_10, L_11, L_12, L_15, L_20, L_25, L_30, L_45, L_60, L_65, L_69, L_74, L_79, L_84, L_85, L_86, L_99, L_100, L_255, L_300, L_356, L_900, L_1424, L_1425, L_1489, L_1510, L_9999, L_10000, nI_add, nI_mul, u_lt_t, u_lt_f, u_le_t, u_le_f, u_eq_t, u_eq_f, u_mlt, u_ltm, u_eqm, u_meq, u_mle, u_b0, u_b1, u_ix, u_cl, u_sub, u_suc, u_z0, u_0m, cI_0, cI_s, rI_e, rI_k, rI_j, rI_l, rL_e, rL_k, rL_j, rL_i, told11, none11, refuse12, no11q, no12q, yes11q, if_true, if_false, ite_true, ite_false, ne_eq, not_true_eq_false, not_false_eq_true, Classical.not_not, Bool.not_eq_true, Bool.not_eq_false, reduceCtorEq, Nat.add_zero, Nat.zero_add, Nat.mul_zero, and_self, and_true, true_and, Bool.true_eq_false, Bool.false_eq_true, eq_self]
    refine wp_some.mpr ⟨rfl, ?_⟩
    rw [(hF'.keep (D := [(11, some 17)]) rfl (In_o 0 rfl)).1, (hF'.keep (D := [(0, some 0)]) rfl (In_o 0 rfl)).1]
    try simp (disch := first | omega | assumption) only [lt_e, bn_s, ck_t, nk0, nk1, nk_b, bI_t, bI_f, L_0, L_1, L_2, L_3, L_4, L_5, L_6, L_7, L_8, L_9, L_10, L_11, L_12, L_15, L_20, L_25, L_30, L_45, L_60, L_65, L_69, L_74, L_79, L_84, L_85, L_86, L_99, L_100, L_255, L_300, L_356, L_900, L_1424, L_1425, L_1489, L_1510, L_9999, L_10000, nI_add, nI_mul, u_lt_t, u_lt_f, u_le_t, u_le_f, u_eq_t, u_eq_f, u_mlt, u_ltm, u_eqm, u_meq, u_mle, u_b0, u_b1, u_ix, u_cl, u_sub, u_suc, u_z0, u_0m, cI_0, cI_s, rI_e, rI_k, rI_j, rI_l, rL_e, rL_k, rL_j, rL_i, told11, none11, refuse12, no11q, no12q, yes11q, if_true, if_false, ite_true, ite_false, ne_eq, not_true_eq_false, not_false_eq_true, Classical.not_not, Bool.not_eq_true, Bool.not_eq_false, reduceCtorEq, Nat.add_zero, Nat.zero_add, Nat.mul_zero, and_self, and_true, true_and, Bool.true_eq_false, Bool.false_eq_true, eq_self]
theorem R_balance {N : Nat} (hN : 2000 < N) (σ : Ms) (hh : I_hg 0 22 σ) : wp (F11_balance N σ) fun r t => wp (F12_balance N t) fun r' t' => r = r' ∧ t'.1 11 17 = t'.1 0 0 := by
  obtain ⟨H, w, c, m, -⟩ := hh
  unfold F11_balance F12_balance
  refine wp_bn.mpr (wp_mono (wp_fr (cBalancing hN w c) (fr_F7_balancing 22 N σ)) ?_)
  rintro r τ ⟨hY, hF⟩
  have t5 : ∀ j, τ.1 5 j = σ.1 5 j := fun j => (hF.keep (D := [(5, none)]) rfl (In_a 0 rfl)).1
  rcases YA_set w.n hY with rfl | ⟨X, hX, rfl⟩
  · try simp (disch := first | omega | assumption) only [lt_e, bn_s, ck_t, nk0, nk1, nk_b, bI_t, bI_f, L_0, L_1, L_2, L_3, L_4, L_5, L_6, L_7, L_8, L_9, L_10, L_11, L_12, L_15, L_20, L_25, L_30, L_45, L_60, L_65, L_69, L_74, L_79, L_84, L_85, L_86, L_99, L_100, L_255, L_300, L_356, L_900, L_1424, L_1425, L_1489, L_1510, L_9999, L_10000, nI_add, nI_mul, u_lt_t, u_lt_f, u_le_t, u_le_f, u_eq_t, u_eq_f, u_mlt, u_ltm, u_eqm, u_meq, u_mle, u_b0, u_b1, u_ix, u_cl, u_sub, u_suc, u_z0, u_0m, cI_0, cI_s, rI_e, rI_k, rI_j, rI_l, rL_e, rL_k, rL_j, rL_i, told11, none11, refuse12, no11q, no12q, yes11q, if_true, if_false, ite_true, ite_false, ne_eq, not_true_eq_false, not_false_eq_true, Classical.not_not, Bool.not_eq_true, Bool.not_eq_false, reduceCtorEq, Nat.add_zero, Nat.zero_add, Nat.mul_zero, and_self, and_true, true_and, Bool.true_eq_false, Bool.false_eq_true, eq_self]
    refine wp_some.mpr ?_
    refine wp_bn.mpr (wp_mono (wp_fr (mBalances hN w (m.mv (τ := sI (sI _ 0 1 _) 0 0 _) fun j => by try simp (disch := first | omega | assumption) only [lt_e, bn_s, ck_t, nk0, nk1, nk_b, bI_t, bI_f, L_0, L_1, L_2, L_3, L_4, L_5, L_6, L_7, L_8, L_9, L_10, L_11, L_12, L_15, L_20, L_25, L_30, L_45, L_60, L_65, L_69, L_74, L_79, L_84, L_85, L_86, L_99, L_100, L_255, L_300, L_356, L_900, L_1424, L_1425, L_1489, L_1510, L_9999, L_10000, nI_add, nI_mul, u_lt_t, u_lt_f, u_le_t, u_le_f, u_eq_t, u_eq_f, u_mlt, u_ltm, u_eqm, u_meq, u_mle, u_b0, u_b1, u_ix, u_cl, u_sub, u_suc, u_z0, u_0m, cI_0, cI_s, rI_e, rI_k, rI_j, rI_l, rL_e, rL_k, rL_j, rL_i, told11, none11, refuse12, no11q, no12q, yes11q, if_true, if_false, ite_true, ite_false, ne_eq, not_true_eq_false, not_false_eq_true, Classical.not_not, Bool.not_eq_true, Bool.not_eq_false, reduceCtorEq, Nat.add_zero, Nat.zero_add, Nat.mul_zero, and_self, and_true, true_and, Bool.true_eq_false, Bool.false_eq_true, eq_self, t5])) (fr_F12_balances N _)) ?_)
    rintro r' τ' ⟨⟨hY', -⟩, hF'⟩
    rw [← YA_un hY hY']
    try simp (disch := first | omega | assumption) only [lt_e, bn_s, ck_t, nk0, nk1, nk_b, bI_t, bI_f, L_0, L_1, L_2, L_3, L_4, L_5, L_6, L_7, L_8, L_9, L_10, L_11, L_12, L_15, L_20, L_25, L_30, L_45, L_60, L_65, L_69, L_74, L_79, L_84, L_85, L_86, L_99, L_100, L_255, L_300, L_356, L_900, L_1424, L_1425, L_1489, L_1510, L_9999, L_10000, nI_add, nI_mul, u_lt_t, u_lt_f, u_le_t, u_le_f, u_eq_t, u_eq_f, u_mlt, u_ltm, u_eqm, u_meq, u_mle, u_b0, u_b1, u_ix, u_cl, u_sub, u_suc, u_z0, u_0m, cI_0, cI_s, rI_e, rI_k, rI_j, rI_l, rL_e, rL_k, rL_j, rL_i, told11, none11, refuse12, no11q, no12q, yes11q, if_true, if_false, ite_true, ite_false, ne_eq, not_true_eq_false, not_false_eq_true, Classical.not_not, Bool.not_eq_true, Bool.not_eq_false, reduceCtorEq, Nat.add_zero, Nat.zero_add, Nat.mul_zero, and_self, and_true, true_and, Bool.true_eq_false, Bool.false_eq_true, eq_self]
    refine wp_some.mpr ⟨rfl, ?_⟩
    try simp (disch := first | omega | assumption) only [lt_e, bn_s, ck_t, nk0, nk1, nk_b, bI_t, bI_f, L_0, L_1, L_2, L_3, L_4, L_5, L_6, L_7, L_8, L_9, L_10, L_11, L_12, L_15, L_20, L_25, L_30, L_45, L_60, L_65, L_69, L_74, L_79, L_84, L_85, L_86, L_99, L_100, L_255, L_300, L_356, L_900, L_1424, L_1425, L_1489, L_1510, L_9999, L_10000, nI_add, nI_mul, u_lt_t, u_lt_f, u_le_t, u_le_f, u_eq_t, u_eq_f, u_mlt, u_ltm, u_eqm, u_meq, u_mle, u_b0, u_b1, u_ix, u_cl, u_sub, u_suc, u_z0, u_0m, cI_0, cI_s, rI_e, rI_k, rI_j, rI_l, rL_e, rL_k, rL_j, rL_i, told11, none11, refuse12, no11q, no12q, yes11q, if_true, if_false, ite_true, ite_false, ne_eq, not_true_eq_false, not_false_eq_true, Classical.not_not, Bool.not_eq_true, Bool.not_eq_false, reduceCtorEq, Nat.add_zero, Nat.zero_add, Nat.mul_zero, and_self, and_true, true_and, Bool.true_eq_false, Bool.false_eq_true, eq_self]
    rw [(hF'.keep (D := [(11, some 17)]) rfl (In_o 0 rfl)).1]
    try simp (disch := first | omega | assumption) only [lt_e, bn_s, ck_t, nk0, nk1, nk_b, bI_t, bI_f, L_0, L_1, L_2, L_3, L_4, L_5, L_6, L_7, L_8, L_9, L_10, L_11, L_12, L_15, L_20, L_25, L_30, L_45, L_60, L_65, L_69, L_74, L_79, L_84, L_85, L_86, L_99, L_100, L_255, L_300, L_356, L_900, L_1424, L_1425, L_1489, L_1510, L_9999, L_10000, nI_add, nI_mul, u_lt_t, u_lt_f, u_le_t, u_le_f, u_eq_t, u_eq_f, u_mlt, u_ltm, u_eqm, u_meq, u_mle, u_b0, u_b1, u_ix, u_cl, u_sub, u_suc, u_z0, u_0m, cI_0, cI_s, rI_e, rI_k, rI_j, rI_l, rL_e, rL_k, rL_j, rL_i, told11, none11, refuse12, no11q, no12q, yes11q, if_true, if_false, ite_true, ite_false, ne_eq, not_true_eq_false, not_false_eq_true, Classical.not_not, Bool.not_eq_true, Bool.not_eq_false, reduceCtorEq, Nat.add_zero, Nat.zero_add, Nat.mul_zero, and_self, and_true, true_and, Bool.true_eq_false, Bool.false_eq_true, eq_self]
  · try simp (disch := first | omega | assumption) only [lt_e, bn_s, ck_t, nk0, nk1, nk_b, bI_t, bI_f, L_0, L_1, L_2, L_3, L_4, L_5, L_6, L_7, L_8, L_9, L_10, L_11, L_12, L_15, L_20, L_25, L_30, L_45, L_60, L_65, L_69, L_74, L_79, L_84, L_85, L_86, L_99, L_100, L_255, L_300, L_356, L_900, L_1424, L_1425, L_1489, L_1510, L_9999, L_10000, nI_add, nI_mul, u_lt_t, u_lt_f, u_le_t, u_le_f, u_eq_t, u_eq_f, u_mlt, u_ltm, u_eqm, u_meq, u_mle, u_b0, u_b1, u_ix, u_cl, u_sub, u_suc, u_z0, u_0m, cI_0, cI_s, rI_e, rI_k, rI_j, rI_l, rL_e, rL_k, rL_j, rL_i, told11, none11, refuse12, no11q, no12q, yes11q, if_true, if_false, ite_true, ite_false, ne_eq, not_true_eq_false, not_false_eq_true, Classical.not_not, Bool.not_eq_true, Bool.not_eq_false, reduceCtorEq, Nat.add_zero, Nat.zero_add, Nat.mul_zero, and_self, and_true, true_and, Bool.true_eq_false, Bool.false_eq_true, eq_self, bitCount_ok hX]
    refine wp_some.mpr ?_
    refine wp_bn.mpr (wp_mono (wp_fr (mBalances hN w (m.mv (τ := sI (sI _ 0 1 _) 0 0 _) fun j => by try simp (disch := first | omega | assumption) only [lt_e, bn_s, ck_t, nk0, nk1, nk_b, bI_t, bI_f, L_0, L_1, L_2, L_3, L_4, L_5, L_6, L_7, L_8, L_9, L_10, L_11, L_12, L_15, L_20, L_25, L_30, L_45, L_60, L_65, L_69, L_74, L_79, L_84, L_85, L_86, L_99, L_100, L_255, L_300, L_356, L_900, L_1424, L_1425, L_1489, L_1510, L_9999, L_10000, nI_add, nI_mul, u_lt_t, u_lt_f, u_le_t, u_le_f, u_eq_t, u_eq_f, u_mlt, u_ltm, u_eqm, u_meq, u_mle, u_b0, u_b1, u_ix, u_cl, u_sub, u_suc, u_z0, u_0m, cI_0, cI_s, rI_e, rI_k, rI_j, rI_l, rL_e, rL_k, rL_j, rL_i, told11, none11, refuse12, no11q, no12q, yes11q, if_true, if_false, ite_true, ite_false, ne_eq, not_true_eq_false, not_false_eq_true, Classical.not_not, Bool.not_eq_true, Bool.not_eq_false, reduceCtorEq, Nat.add_zero, Nat.zero_add, Nat.mul_zero, and_self, and_true, true_and, Bool.true_eq_false, Bool.false_eq_true, eq_self, t5])) (fr_F12_balances N _)) ?_)
    rintro r' τ' ⟨⟨hY', -⟩, hF'⟩
    rw [← YA_un hY hY']
    try simp (disch := first | omega | assumption) only [lt_e, bn_s, ck_t, nk0, nk1, nk_b, bI_t, bI_f, L_0, L_1, L_2, L_3, L_4, L_5, L_6, L_7, L_8, L_9, L_10, L_11, L_12, L_15, L_20, L_25, L_30, L_45, L_60, L_65, L_69, L_74, L_79, L_84, L_85, L_86, L_99, L_100, L_255, L_300, L_356, L_900, L_1424, L_1425, L_1489, L_1510, L_9999, L_10000, nI_add, nI_mul, u_lt_t, u_lt_f, u_le_t, u_le_f, u_eq_t, u_eq_f, u_mlt, u_ltm, u_eqm, u_meq, u_mle, u_b0, u_b1, u_ix, u_cl, u_sub, u_suc, u_z0, u_0m, cI_0, cI_s, rI_e, rI_k, rI_j, rI_l, rL_e, rL_k, rL_j, rL_i, told11, none11, refuse12, no11q, no12q, yes11q, if_true, if_false, ite_true, ite_false, ne_eq, not_true_eq_false, not_false_eq_true, Classical.not_not, Bool.not_eq_true, Bool.not_eq_false, reduceCtorEq, Nat.add_zero, Nat.zero_add, Nat.mul_zero, and_self, and_true, true_and, Bool.true_eq_false, Bool.false_eq_true, eq_self, sizeOf_ok (show 20 < N by omega) (show X < 2 ^ 31 by omega)]
    refine wp_some.mpr ⟨rfl, ?_⟩
    rw [(hF'.keep (D := [(11, some 17)]) rfl (In_o 0 rfl)).1, (hF'.keep (D := [(0, some 0)]) rfl (In_o 0 rfl)).1]
    try simp (disch := first | omega | assumption) only [lt_e, bn_s, ck_t, nk0, nk1, nk_b, bI_t, bI_f, L_0, L_1, L_2, L_3, L_4, L_5, L_6, L_7, L_8, L_9, L_10, L_11, L_12, L_15, L_20, L_25, L_30, L_45, L_60, L_65, L_69, L_74, L_79, L_84, L_85, L_86, L_99, L_100, L_255, L_300, L_356, L_900, L_1424, L_1425, L_1489, L_1510, L_9999, L_10000, nI_add, nI_mul, u_lt_t, u_lt_f, u_le_t, u_le_f, u_eq_t, u_eq_f, u_mlt, u_ltm, u_eqm, u_meq, u_mle, u_b0, u_b1, u_ix, u_cl, u_sub, u_suc, u_z0, u_0m, cI_0, cI_s, rI_e, rI_k, rI_j, rI_l, rL_e, rL_k, rL_j, rL_i, told11, none11, refuse12, no11q, no12q, yes11q, if_true, if_false, ite_true, ite_false, ne_eq, not_true_eq_false, not_false_eq_true, Classical.not_not, Bool.not_eq_true, Bool.not_eq_false, reduceCtorEq, Nat.add_zero, Nat.zero_add, Nat.mul_zero, and_self, and_true, true_and, Bool.true_eq_false, Bool.false_eq_true, eq_self]
