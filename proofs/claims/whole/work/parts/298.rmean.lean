/-- the sums of a mean -/
def mS (P : Nat → HG) : Nat → Int
  | 0 => 0
  | i + 1 => mS P i + gw (P i) (gS (P i))
theorem mS_abs {P : Nat → HG} (hP : ∀ i, i < 20 → WG (P i)) : ∀ i, i ≤ 20 → -(i * (1100 * 1048576 : Int)) ≤ mS P i ∧ mS P i ≤ i * (1100 * 1048576 : Int)
  | 0, _ => by
    show -(((0 : Nat) : Int) * (1100 * 1048576)) ≤ (0 : Int) ∧ (0 : Int) ≤ ((0 : Nat) : Int) * (1100 * 1048576)
    omega
  | i + 1, hi => by
    have h1 := mS_abs hP i (by omega)
    have h2 := gw_abs (hP i (by omega)) (gS (P i))
    show -(((i + 1 : Nat) : Int) * (1100 * 1048576)) ≤ mS P i + gw (P i) (gS (P i)) ∧ mS P i + gw (P i) (gS (P i)) ≤ ((i + 1 : Nat) : Int) * (1100 * 1048576)
    omega
def lastH (σ : Ms) (f n : Nat) (H : HG) (sd i : Nat) : HG := (aSeq (mD σ) f 0 n (H, 0, 0, 0, 0, 0, sd + i)).1.1
/-- what a mean of the class leaves alone -/
def KTr (σ τ : Ms) : Prop := ∀ k j, (k < 30 ∨ 37 < k) → k ≠ 111 → k ≠ 112 → τ.1 k j = σ.1 k j ∧ τ.2 k j = σ.2 k j
theorem KTr.rf (σ : Ms) : KTr σ σ := fun _ _ _ _ _ => ⟨rfl, rfl⟩
theorem KTr.tr {a b c : Ms} (h : KTr a b) (h' : KTr b c) : KTr a c := fun k j h1 h2 h3 => ⟨((h' k j h1 h2 h3).1).trans (h k j h1 h2 h3).1, ((h' k j h1 h2 h3).2).trans (h k j h1 h2 h3).2⟩
theorem KTr.run {σ τ : Ms} (F : Fr (W2_run 111 30 62) σ τ) : KTr σ τ := fun k j h1 h2 h3 => by
  have hn : ¬ InW (W2_run 111 30 62) k j := fun ⟨w, hw, e1, _⟩ => by
    simp only [W2_run, List.mem_cons, List.not_mem_nil, or_false] at hw
    rcases hw with rfl | rfl | rfl | rfl | rfl | rfl | rfl | rfl | rfl | rfl | rfl | rfl | rfl | rfl | rfl | rfl | rfl | rfl <;> (dsimp only at e1; omega)
  exact ⟨F.1 k j hn, F.2 k j hn⟩
theorem CG_copy {a b : Nat} {H : HG} {σ : Ms} (hd : a + 5 < b ∨ b + 5 < a) (w : WG H) (c : CG a H σ) : CG b H (cpH a b Phg σ) := by
  have z : ∀ r j, Phg r j → (cpH a b Phg σ).1 (b + r) j = σ.1 (a + r) j := fun r j hP => H_in (by unfold Phg at hP; omega) hP
  have z0 : ∀ j, 5 ≤ j → j ≤ 11 → (cpH a b Phg σ).1 b j = σ.1 a j := fun j h1 h2 => z 0 j (Or.inl ⟨rfl, h1, h2⟩)
  obtain ⟨⟨a1, a2, a3⟩, ⟨b1, b2⟩, d1, d2, d3, d4⟩ := c
  obtain ⟨⟨w1, -⟩, ⟨w2, -⟩, w3, -⟩ := w
  refine ⟨⟨(z0 5 (by omega) (by omega)).trans a1, (z0 6 (by omega) (by omega)).trans a2, fun i hi => ⟨(z 1 i (Or.inr (Or.inl ⟨by omega, by omega⟩))).trans (a3 i hi).1, (z 2 i (Or.inr (Or.inl ⟨by omega, by omega⟩))).trans (a3 i hi).2⟩⟩, ⟨(z0 7 (by omega) (by omega)).trans b1, fun i hi => (z 3 i (Or.inr (Or.inr (Or.inl ⟨by omega, by omega⟩)))).trans (b2 i hi)⟩, (z0 8 (by omega) (by omega)).trans d1, (z0 9 (by omega) (by omega)).trans d2, (z0 10 (by omega) (by omega)).trans d3, fun i hi => ⟨(z 4 i (Or.inr (Or.inr (Or.inr ⟨by omega, by omega⟩)))).trans (d4 i hi).1, (z 5 i (Or.inr (Or.inr (Or.inr ⟨by omega, by omega⟩)))).trans (d4 i hi).2⟩⟩
theorem KTr.cp {σ : Ms} : KTr σ (cpH 22 30 Phg σ) := fun k j h1 _ _ => by
  by_cases q : k = 36 ∨ k = 37
  · omega
  · exact ⟨H_out (by omega), rfl⟩
/-- the class's mean -/
theorem cMean {N E n f sd m : Nat} {σ : Ms} {H : HG} (hN : 40000 < N) (hE : E ≤ 60) (h2 : σ.1 62 2 = nI E) (hS : Seg (σ.1 63) (σ.1 64) (σ.1 65) (σ.1 66) (σ.1 67) (mD σ) f 3 0 0 E n) (hn : n ≤ 30) (w : WG H) (c : CG 22 H σ) (hm : 1 ≤ m) (hm2 : m ≤ 20) (hsd : sd ≤ 10000) : wp (F11_mean_b52 N (nI sd) (nI m) (0 : Int64) (0 : Int32) σ) fun r τ => r = nI 1 ∧ τ.1 11 17 = nI 0 ∧ τ.2 11 18 = zL (frT (mS (lastH σ f n H sd) m) (m * 1048576)) ∧ τ.2 11 19 = zL (frB (mS (lastH σ f n H sd) m) (m * 1048576)) ∧ (∀ k j, (k < 30 ∨ 37 < k) → k ≠ 111 → k ≠ 112 → k ≠ 11 → τ.1 k j = σ.1 k j) := by
  have hO : ∀ i, i < 20 → LO (aSeq (mD σ) f 0 n (H, 0, 0, 0, 0, 0, sd + i)).1 := fun i hi => aSeq_O hS (by omega) _ ⟨⟨w, show sd + i < 65536 by omega⟩, Nat.zero_le _⟩
  have hP : ∀ i, i < 20 → WG (lastH σ f n H sd i) := fun i hi => (hO i hi).1.1
  unfold F11_mean_b52
  refine wp_fx (fun k x => ∃ i τ, i + k = m ∧ x = (nI sd, nI m, zL (1024 * mS (lastH σ f n H sd) i), nI i, τ) ∧ KTr σ τ) ?_ (n := m) (by omega) ⟨0, σ, by omega, rfl, KTr.rf σ⟩
  rintro k co _ ⟨i, τ, hi, rfl, kt⟩ hco
  dsimp only
  unfold F11_mean_b52B
  have hab := mS_abs hP i (by omega)
  by_cases q : m ≤ i
  · have ei : i = m := by omega
    subst ei
    have e := fr_scale (mS (lastH σ f n H sd) i) (i * 1048576) 1024 (by decide)
    rw [show ((1024 : Nat) : Int) * mS (lastH σ f n H sd) i = 1024 * mS (lastH σ f n H sd) i from rfl] at e
    rw [if_pos (nI_le (Nat.le_refl _) (by omega)), nI_zL (by omega), ONE_z, zL_mul, show ((i : Nat) : Int) * 1073741824 = ((1024 * (i * 1048576) : Nat) : Int) by omega, fr11 (by omega) (by omega) (by omega) (by omega) (by omega), bn_s, show nkB (nI 1) = true by decide, ck_t, e.1, e.2]
    refine wp_some.mpr ⟨rfl, by try simp (disch := first | omega | assumption) only [lt_e, bn_s, ck_t, nk0, nk1, nk_b, bI_t, bI_f, L_0, L_1, L_2, L_3, L_4, L_5, L_6, L_7, L_8, L_9, L_10, L_11, L_12, L_15, L_20, L_25, L_30, L_45, L_60, L_65, L_69, L_74, L_79, L_84, L_85, L_86, L_99, L_100, L_255, L_300, L_356, L_900, L_1424, L_1425, L_1489, L_1510, L_9999, L_10000, nI_add, nI_mul, u_lt_t, u_lt_f, u_le_t, u_le_f, u_eq_t, u_eq_f, u_mlt, u_ltm, u_eqm, u_meq, u_mle, u_b0, u_b1, u_ix, u_cl, u_sub, u_suc, u_z0, u_0m, cI_0, cI_s, rI_e, rI_k, rI_j, rI_l, rL_e, rL_k, rL_j, rL_i, told11, none11, refuse12, no11q, no12q, yes11q, if_true, if_false, ite_true, ite_false, ne_eq, not_true_eq_false, not_false_eq_true, Classical.not_not, Bool.not_eq_true, Bool.not_eq_false, reduceCtorEq, Nat.add_zero, Nat.zero_add, Nat.mul_zero, and_self, and_true, true_and, Bool.true_eq_false, Bool.false_eq_true, eq_self], by try simp (disch := first | omega | assumption) only [lt_e, bn_s, ck_t, nk0, nk1, nk_b, bI_t, bI_f, L_0, L_1, L_2, L_3, L_4, L_5, L_6, L_7, L_8, L_9, L_10, L_11, L_12, L_15, L_20, L_25, L_30, L_45, L_60, L_65, L_69, L_74, L_79, L_84, L_85, L_86, L_99, L_100, L_255, L_300, L_356, L_900, L_1424, L_1425, L_1489, L_1510, L_9999, L_10000, nI_add, nI_mul, u_lt_t, u_lt_f, u_le_t, u_le_f, u_eq_t, u_eq_f, u_mlt, u_ltm, u_eqm, u_meq, u_mle, u_b0, u_b1, u_ix, u_cl, u_sub, u_suc, u_z0, u_0m, cI_0, cI_s, rI_e, rI_k, rI_j, rI_l, rL_e, rL_k, rL_j, rL_i, told11, none11, refuse12, no11q, no12q, yes11q, if_true, if_false, ite_true, ite_false, ne_eq, not_true_eq_false, not_false_eq_true, Classical.not_not, Bool.not_eq_true, Bool.not_eq_false, reduceCtorEq, Nat.add_zero, Nat.zero_add, Nat.mul_zero, and_self, and_true, true_and, Bool.true_eq_false, Bool.false_eq_true, eq_self], by try simp (disch := first | omega | assumption) only [lt_e, bn_s, ck_t, nk0, nk1, nk_b, bI_t, bI_f, L_0, L_1, L_2, L_3, L_4, L_5, L_6, L_7, L_8, L_9, L_10, L_11, L_12, L_15, L_20, L_25, L_30, L_45, L_60, L_65, L_69, L_74, L_79, L_84, L_85, L_86, L_99, L_100, L_255, L_300, L_356, L_900, L_1424, L_1425, L_1489, L_1510, L_9999, L_10000, nI_add, nI_mul, u_lt_t, u_lt_f, u_le_t, u_le_f, u_eq_t, u_eq_f, u_mlt, u_ltm, u_eqm, u_meq, u_mle, u_b0, u_b1, u_ix, u_cl, u_sub, u_suc, u_z0, u_0m, cI_0, cI_s, rI_e, rI_k, rI_j, rI_l, rL_e, rL_k, rL_j, rL_i, told11, none11, refuse12, no11q, no12q, yes11q, if_true, if_false, ite_true, ite_false, ne_eq, not_true_eq_false, not_false_eq_true, Classical.not_not, Bool.not_eq_true, Bool.not_eq_false, reduceCtorEq, Nat.add_zero, Nat.zero_add, Nat.mul_zero, and_self, and_true, true_and, Bool.true_eq_false, Bool.false_eq_true, eq_self], fun k' j h1 h2 h3 h4 => ?_⟩
    rw [rI_k h4]
    exact (kt k' j h1 h2 h3).1
  have hd : 22 + 5 < 30 ∨ 30 + 5 < 22 := by omega
  have cH : CG 22 H τ := c.mv (fun j _ _ => (kt _ _ (by omega) (by omega) (by omega)).1) (fun k j _ _ => (kt _ _ (by omega) (by omega) (by omega)).1)
  have kt1 : KTr σ (cpH 22 30 Phg τ) := kt.tr KTr.cp
  have e62 : ∀ k j, 62 ≤ k → k ≤ 67 → (cpH 22 30 Phg τ).1 k j = σ.1 k j := fun k j _ _ => (kt1 k j (by omega) (by omega) (by omega)).1
  have ek : ∀ k, 62 ≤ k → k ≤ 67 → (cpH 22 30 Phg τ).1 k = σ.1 k := fun k h1 h2 => funext fun j => e62 k j h1 h2
  rw [if_neg (nI_ge (by omega) (by omega)), copy0_ok (by omega) hd, bn_s, nI_add]
  refine wp_bn.mpr (wp_mono (wp_fr (cRun (N := N) (h := 30) (L := 111) (E := E) (n := n) (f := f) (g := 3) (sd := sd + i) (σ := cpH 22 30 Phg τ) (H := H) (D := mD σ) hN (Or.inr ⟨rfl, rfl⟩) hE ((e62 _ _ (by omega) (by omega)).trans h2) (by rw [ek 63 (by omega) (by omega), ek 64 (by omega) (by omega), ek 65 (by omega) (by omega), ek 66 (by omega) (by omega), ek 67 (by omega) (by omega)]; exact hS) hn w (CG_copy hd w cH) (by omega)) (fr_F2_run 111 30 62 N (nI (sd + i)) (cpH 22 30 Phg τ))) ?_)
  rintro _ t ⟨⟨c1, -⟩, hF⟩
  have hwi := hP i (by omega)
  have c2 : CG 30 (lastH σ f n H sd i) t := c1.1
  have hga := gw_abs hwi (gS (lastH σ f n H sd i))
  rw [c2.1.2.1]
  refine wp_bn.mpr (wp_mono (cWorth (by omega) hwi c2 hwi.S) ?_)
  rintro _ t' ⟨rfl, e1, -, e3⟩
  rw [zL_add, lt_e, L_1, nI_add]
  refine hco (k - 1) _ (by omega) ⟨i + 1, t', by omega, ?_, (kt1.tr (KTr.run hF)).tr fun k' j h1 h2 h3 => ⟨by rw [e1], e3 k' j (by omega)⟩⟩
  show _ = (nI sd, nI m, zL (1024 * (mS (lastH σ f n H sd) i + gw (lastH σ f n H sd i) (gS (lastH σ f n H sd i)))), nI (i + 1), t')
  rw [show 1024 * (mS (lastH σ f n H sd) i + gw (lastH σ f n H sd i) (gS (lastH σ f n H sd i))) = 1024 * mS (lastH σ f n H sd) i + 1024 * gw (lastH σ f n H sd i) (gS (lastH σ f n H sd i)) by omega]
/-- the model's mean -/
def KRr (σ τ : Ms) : Prop := (∀ j, τ.1 5 j = σ.1 5 j) ∧ (∀ k j, 11 ≤ k → τ.1 k j = σ.1 k j ∧ τ.2 k j = σ.2 k j) ∧ τ.1 0 0 = σ.1 0 0
theorem KRr.fr {W : List (Nat × Option Nat)} {σ τ : Ms} (F : Fr W σ τ) (hW : ∀ w ∈ W, w.1 < 11 ∧ (w.1 = 0 → w.2 ≠ some 0 ∧ w.2 ≠ none)) : (∀ k j, 11 ≤ k → τ.1 k j = σ.1 k j ∧ τ.2 k j = σ.2 k j) ∧ τ.1 0 0 = σ.1 0 0 := by
  refine ⟨fun k j hk => ?_, ?_⟩
  · have hn : ¬ InW W k j := fun ⟨w, hw, e1, _⟩ => by have := (hW w hw).1; omega
    exact ⟨F.1 k j hn, F.2 k j hn⟩
  · refine F.1 0 0 fun ⟨w, hw, e1, e2⟩ => ?_
    obtain ⟨-, h⟩ := hW w hw
    obtain ⟨h1, h2⟩ := h e1
    cases hc : w.2 with
    | none => exact h2 hc
    | some s =>
      have := e2 s hc
      rw [hc, this] at h1
      exact h1 rfl
theorem KR_run : ∀ w ∈ W12_runsSeasons, w.1 < 11 ∧ (w.1 = 0 → w.2 ≠ some 0 ∧ w.2 ≠ none) := by decide
theorem KR_lay : ∀ w ∈ W12_laysWorths, w.1 < 11 ∧ (w.1 = 0 → w.2 ≠ some 0 ∧ w.2 ≠ none) := by decide
theorem mMean {N E n f sd m : Nat} {K A B C M : Nat → Int32} {σ : Ms} {H : HG} (hN : 40000 < N) (hS : Seg K A B C M (mD σ) f 3 0 0 E n) (hn : n ≤ 30) (h85 : σ.1 5 85 = nI n) (w : WG H) (c : MG 0 H σ) (hm : 1 ≤ m) (hm2 : m ≤ 20) (hsd : sd ≤ 10000) : wp (F12_mean_b62 N (nI sd) (nI m) (0 : Int32) σ) fun r τ => r = nI 1 ∧ τ.2 0 2 = zL (frT (mS (lastH σ f n H sd) m) (m * 1048576)) ∧ τ.2 0 3 = zL (frB (mS (lastH σ f n H sd) m) (m * 1048576)) ∧ KRr σ τ := by
  have hO : ∀ i, i < 20 → LO (aSeq (mD σ) f 0 n (H, 0, 0, 0, 0, 0, sd + i)).1 := fun i hi => aSeq_O hS (by omega) _ ⟨⟨w, show sd + i < 65536 by omega⟩, Nat.zero_le _⟩
  have hP : ∀ i, i < 20 → WG (lastH σ f n H sd i) := fun i hi => (hO i hi).1.1
  unfold F12_mean_b62
  refine wp_fx (fun k x => ∃ i τ, i + k = 84 ∧ x = (nI sd, nI m, nI i, τ) ∧ KRr σ τ ∧ ∀ j, j < i → τ.1 6 j = σ.1 5 j) ?_ (n := 84) (by omega) ⟨0, σ, by omega, rfl, ⟨fun _ => rfl, fun _ _ _ => ⟨rfl, rfl⟩, rfl⟩, fun j hj => absurd hj (Nat.not_lt_zero j)⟩
  rintro k co _ ⟨i, τ, hi, rfl, kr, h6⟩ hco
  dsimp only
  unfold F12_mean_b62B
  by_cases q : 84 ≤ i
  rotate_left
  · rw [if_neg (by exact nI_ge (b := 84) (by omega) (by omega)), u_ix (show i < 1780 by omega) (by omega), u_ix (show i < 84 by omega) (by omega), ck_t, ck_t, u_cl (by omega), lt_e, L_1, nI_add]
    refine hco (k - 1) _ (by omega) ⟨i + 1, _, by omega, rfl, ⟨fun j => by rw [rI_k (by omega)]; exact kr.1 j, fun a j ha => ⟨by rw [rI_k (by omega)]; exact (kr.2.1 a j ha).1, (kr.2.1 a j ha).2⟩, by rw [rI_k (by omega)]; exact kr.2.2⟩, fun j hj => ?_⟩
    by_cases z : j = i
    · rw [rI_e rfl z, kr.1, z]
    · rw [rI_j z]
      exact h6 j (by omega)
  rw [if_pos (by exact nI_le (a := 84) q (by omega))]
  clear hco co
  have h84 : i = 84 := by omega
  subst h84
  unfold F12_mean_b91
  refine wp_fx (fun k x => ∃ i τ, i + k = m ∧ x = (nI sd, nI m, zL (mS (lastH σ f n H sd) i), nI i, τ) ∧ KRr σ τ ∧ ∀ j, j < 84 → τ.1 6 j = σ.1 5 j) ?_ (n := m) (by omega) ⟨0, τ, by omega, rfl, kr, h6⟩
  clear kr h6 hi k τ q
  rintro k co _ ⟨i, τ, hi, rfl, kr, h6⟩ hco
  dsimp only
  unfold F12_mean_b91B
  have hab := mS_abs hP i (by omega)
  by_cases q : m ≤ i
  · have ei : i = m := by omega
    subst ei
    rw [if_pos (nI_le (Nat.le_refl _) (by omega)), nI_zL (by omega), UNIT_z, zL_mul, show ((i : Nat) : Int) * 1048576 = ((i * 1048576 : Nat) : Int) by omega, fr12 (by omega) (by omega) (by omega) (by omega) (by omega), bn_s, show nkB (nI 1) = true by decide, ck_t]
    exact wp_some.mpr ⟨rfl, by try simp (disch := first | omega | assumption) only [lt_e, bn_s, ck_t, nk0, nk1, nk_b, bI_t, bI_f, L_0, L_1, L_2, L_3, L_4, L_5, L_6, L_7, L_8, L_9, L_10, L_11, L_12, L_15, L_20, L_25, L_30, L_45, L_60, L_65, L_69, L_74, L_79, L_84, L_85, L_86, L_99, L_100, L_255, L_300, L_356, L_900, L_1424, L_1425, L_1489, L_1510, L_9999, L_10000, nI_add, nI_mul, u_lt_t, u_lt_f, u_le_t, u_le_f, u_eq_t, u_eq_f, u_mlt, u_ltm, u_eqm, u_meq, u_mle, u_b0, u_b1, u_ix, u_cl, u_sub, u_suc, u_z0, u_0m, cI_0, cI_s, rI_e, rI_k, rI_j, rI_l, rL_e, rL_k, rL_j, rL_i, told11, none11, refuse12, no11q, no12q, yes11q, if_true, if_false, ite_true, ite_false, ne_eq, not_true_eq_false, not_false_eq_true, Classical.not_not, Bool.not_eq_true, Bool.not_eq_false, reduceCtorEq, Nat.add_zero, Nat.zero_add, Nat.mul_zero, and_self, and_true, true_and, Bool.true_eq_false, Bool.false_eq_true, eq_self], by try simp (disch := first | omega | assumption) only [lt_e, bn_s, ck_t, nk0, nk1, nk_b, bI_t, bI_f, L_0, L_1, L_2, L_3, L_4, L_5, L_6, L_7, L_8, L_9, L_10, L_11, L_12, L_15, L_20, L_25, L_30, L_45, L_60, L_65, L_69, L_74, L_79, L_84, L_85, L_86, L_99, L_100, L_255, L_300, L_356, L_900, L_1424, L_1425, L_1489, L_1510, L_9999, L_10000, nI_add, nI_mul, u_lt_t, u_lt_f, u_le_t, u_le_f, u_eq_t, u_eq_f, u_mlt, u_ltm, u_eqm, u_meq, u_mle, u_b0, u_b1, u_ix, u_cl, u_sub, u_suc, u_z0, u_0m, cI_0, cI_s, rI_e, rI_k, rI_j, rI_l, rL_e, rL_k, rL_j, rL_i, told11, none11, refuse12, no11q, no12q, yes11q, if_true, if_false, ite_true, ite_false, ne_eq, not_true_eq_false, not_false_eq_true, Classical.not_not, Bool.not_eq_true, Bool.not_eq_false, reduceCtorEq, Nat.add_zero, Nat.zero_add, Nat.mul_zero, and_self, and_true, true_and, Bool.true_eq_false, Bool.false_eq_true, eq_self], kr.1, fun a j ha => ⟨(kr.2.1 a j ha).1, by rw [rL_k (by omega), rL_k (by omega)]; exact (kr.2.1 a j ha).2⟩, kr.2.2⟩
  have hmD : mD τ = mD σ := by
    funext a b
    exact kr.1 _
  rw [if_neg (nI_ge (by omega) (by omega)), nI_add]
  refine wp_bn.mpr (wp_mono (wp_fr (mRun (N := N) (E := E) (n := n) (f := f) (sd := sd + i) (K := K) (A := A) (B := B) (C := C) (M := M) (σ := τ) (H := H) (by omega) (by rw [hmD]; exact hS) hn (by rw [kr.1]; exact h85) w (c.mv kr.1) (by omega)) (fr_F12_runsSeasons N (nI (sd + i)) τ)) ?_)
  rw [hmD]
  rintro _ t ⟨⟨ml, s84, -, -⟩, hF⟩
  have hwi := hP i (by omega)
  have m2 : MG 0 (lastH σ f n H sd i) t := ml.1
  have hga := gw_abs hwi (gS (lastH σ f n H sd i))
  refine wp_bn.mpr (wp_mono (mNow (by omega) hwi m2) ?_)
  rintro _ t' hl
  rw [hl.1, zL_add, lt_e]
  have g1 := KRr.fr hF KR_run
  have g2 := KRr.fr hl.2.2.2.2 KR_lay
  have g5 : ∀ j, 84 ≤ j → t'.1 5 j = σ.1 5 j := fun j hj => by rw [hl.five, s84 j hj, kr.1]
  have g6 : ∀ j, t'.1 6 j = τ.1 6 j := fun j => ((hl.2.2.2.2.keep (D := [(6, none)]) rfl (In_a 0 rfl)).1).trans (hF.keep (D := [(6, none)]) rfl (In_a 0 rfl)).1
  have gk : ∀ a j, 11 ≤ a → t'.1 a j = σ.1 a j ∧ t'.2 a j = σ.2 a j := fun a j ha => ⟨((g2.1 a j ha).1.trans (g1.1 a j ha).1).trans (kr.2.1 a j ha).1, ((g2.1 a j ha).2.trans (g1.1 a j ha).2).trans (kr.2.1 a j ha).2⟩
  have g0 : t'.1 0 0 = σ.1 0 0 := (g2.2.trans g1.2).trans kr.2.2
  unfold F12_mean_b119
  refine wp_fx (fun k' x => ∃ a u, a + k' = 84 ∧ x = (nI sd, nI m, zL (mS (lastH σ f n H sd) i + gw (lastH σ f n H sd i) (gS (lastH σ f n H sd i))), nI i, nI a, u) ∧ (∀ j, (j < a ∨ 84 ≤ j) → u.1 5 j = σ.1 5 j) ∧ (∀ j, j < 84 → u.1 6 j = σ.1 5 j) ∧ (∀ a j, 11 ≤ a → u.1 a j = σ.1 a j ∧ u.2 a j = σ.2 a j) ∧ u.1 0 0 = σ.1 0 0) ?_ (n := 84) (by omega) ⟨0, t', by omega, rfl, fun j hj => g5 j (by omega), fun j hj => by rw [g6]; exact h6 j hj, gk, g0⟩
  rintro k' co' _ ⟨a, u, ha, rfl, u5, u6, uk, u0⟩ hco'
  dsimp only
  unfold F12_mean_b119B
  by_cases q2 : 84 ≤ a
  · rw [if_pos (by exact nI_le (a := 84) q2 (by omega)), L_1, nI_add]
    exact hco (k - 1) _ (by omega) ⟨i + 1, u, by omega, rfl, ⟨fun j => u5 j (by omega), uk, u0⟩, u6⟩
  · rw [if_neg (by exact nI_ge (b := 84) (by omega) (by omega)), u_ix (show a < 84 by omega) (by omega), u_ix (show a < 1780 by omega) (by omega), ck_t, ck_t, u_cl (by omega), lt_e, L_1, nI_add]
    refine hco' (k' - 1) _ (by omega) ⟨a + 1, _, by omega, rfl, fun j hj => ?_, fun j hj => by rw [rI_k (by omega)]; exact u6 j hj, fun b j hb => ⟨by rw [rI_k (by omega)]; exact (uk b j hb).1, (uk b j hb).2⟩, by rw [rI_k (by omega)]; exact u0⟩
    by_cases z : j = a
    · rw [rI_e rfl z, u6 a (by omega), z]
    · rw [rI_j z]
      exact u5 j (by omega)
theorem R_mean {N : Nat} (hN : 40000 < N) (p0 p1 : Int32) (σ : Ms) (hmi : I_misc σ) (hh : I_hg 0 22 σ) (hse : I_se 0 62 σ) : wp (F11_mean N p0 p1 σ) fun r t => wp (F12_mean N p0 p1 t) fun r' t' => r = r' ∧ I_misc t' ∧ I_hg 0 22 t' ∧ ∀ j, 84 ≤ j → t'.1 5 j = σ.1 5 j := by
  have no : ∀ a : Int32, ∀ t', t' = sI (sI (sI (sI σ 11 17 a) 0 1 (nI 0)) 0 0 (nI 0)) 0 0 a → I_misc t' ∧ I_hg 0 22 t' ∧ ∀ j, 84 ≤ j → t'.1 5 j = σ.1 5 j := fun a t' e => by
    subst e
    refine ⟨⟨by try simp (disch := first | omega | assumption) only [lt_e, bn_s, ck_t, nk0, nk1, nk_b, bI_t, bI_f, L_0, L_1, L_2, L_3, L_4, L_5, L_6, L_7, L_8, L_9, L_10, L_11, L_12, L_15, L_20, L_25, L_30, L_45, L_60, L_65, L_69, L_74, L_79, L_84, L_85, L_86, L_99, L_100, L_255, L_300, L_356, L_900, L_1424, L_1425, L_1489, L_1510, L_9999, L_10000, nI_add, nI_mul, u_lt_t, u_lt_f, u_le_t, u_le_f, u_eq_t, u_eq_f, u_mlt, u_ltm, u_eqm, u_meq, u_mle, u_b0, u_b1, u_ix, u_cl, u_sub, u_suc, u_z0, u_0m, cI_0, cI_s, rI_e, rI_k, rI_j, rI_l, rL_e, rL_k, rL_j, rL_i, told11, none11, refuse12, no11q, no12q, yes11q, if_true, if_false, ite_true, ite_false, ne_eq, not_true_eq_false, not_false_eq_true, Classical.not_not, Bool.not_eq_true, Bool.not_eq_false, reduceCtorEq, Nat.add_zero, Nat.zero_add, Nat.mul_zero, and_self, and_true, true_and, Bool.true_eq_false, Bool.false_eq_true, eq_self], by try simp (disch := first | omega | assumption) only [lt_e, bn_s, ck_t, nk0, nk1, nk_b, bI_t, bI_f, L_0, L_1, L_2, L_3, L_4, L_5, L_6, L_7, L_8, L_9, L_10, L_11, L_12, L_15, L_20, L_25, L_30, L_45, L_60, L_65, L_69, L_74, L_79, L_84, L_85, L_86, L_99, L_100, L_255, L_300, L_356, L_900, L_1424, L_1425, L_1489, L_1510, L_9999, L_10000, nI_add, nI_mul, u_lt_t, u_lt_f, u_le_t, u_le_f, u_eq_t, u_eq_f, u_mlt, u_ltm, u_eqm, u_meq, u_mle, u_b0, u_b1, u_ix, u_cl, u_sub, u_suc, u_z0, u_0m, cI_0, cI_s, rI_e, rI_k, rI_j, rI_l, rL_e, rL_k, rL_j, rL_i, told11, none11, refuse12, no11q, no12q, yes11q, if_true, if_false, ite_true, ite_false, ne_eq, not_true_eq_false, not_false_eq_true, Classical.not_not, Bool.not_eq_true, Bool.not_eq_false, reduceCtorEq, Nat.add_zero, Nat.zero_add, Nat.mul_zero, and_self, and_true, true_and, Bool.true_eq_false, Bool.false_eq_true, eq_self]; exact hmi.2.1, by try simp (disch := first | omega | assumption) only [lt_e, bn_s, ck_t, nk0, nk1, nk_b, bI_t, bI_f, L_0, L_1, L_2, L_3, L_4, L_5, L_6, L_7, L_8, L_9, L_10, L_11, L_12, L_15, L_20, L_25, L_30, L_45, L_60, L_65, L_69, L_74, L_79, L_84, L_85, L_86, L_99, L_100, L_255, L_300, L_356, L_900, L_1424, L_1425, L_1489, L_1510, L_9999, L_10000, nI_add, nI_mul, u_lt_t, u_lt_f, u_le_t, u_le_f, u_eq_t, u_eq_f, u_mlt, u_ltm, u_eqm, u_meq, u_mle, u_b0, u_b1, u_ix, u_cl, u_sub, u_suc, u_z0, u_0m, cI_0, cI_s, rI_e, rI_k, rI_j, rI_l, rL_e, rL_k, rL_j, rL_i, told11, none11, refuse12, no11q, no12q, yes11q, if_true, if_false, ite_true, ite_false, ne_eq, not_true_eq_false, not_false_eq_true, Classical.not_not, Bool.not_eq_true, Bool.not_eq_false, reduceCtorEq, Nat.add_zero, Nat.zero_add, Nat.mul_zero, and_self, and_true, true_and, Bool.true_eq_false, Bool.false_eq_true, eq_self]; exact hmi.2.2⟩, hh.mv (fun j => by try simp (disch := first | omega | assumption) only [lt_e, bn_s, ck_t, nk0, nk1, nk_b, bI_t, bI_f, L_0, L_1, L_2, L_3, L_4, L_5, L_6, L_7, L_8, L_9, L_10, L_11, L_12, L_15, L_20, L_25, L_30, L_45, L_60, L_65, L_69, L_74, L_79, L_84, L_85, L_86, L_99, L_100, L_255, L_300, L_356, L_900, L_1424, L_1425, L_1489, L_1510, L_9999, L_10000, nI_add, nI_mul, u_lt_t, u_lt_f, u_le_t, u_le_f, u_eq_t, u_eq_f, u_mlt, u_ltm, u_eqm, u_meq, u_mle, u_b0, u_b1, u_ix, u_cl, u_sub, u_suc, u_z0, u_0m, cI_0, cI_s, rI_e, rI_k, rI_j, rI_l, rL_e, rL_k, rL_j, rL_i, told11, none11, refuse12, no11q, no12q, yes11q, if_true, if_false, ite_true, ite_false, ne_eq, not_true_eq_false, not_false_eq_true, Classical.not_not, Bool.not_eq_true, Bool.not_eq_false, reduceCtorEq, Nat.add_zero, Nat.zero_add, Nat.mul_zero, and_self, and_true, true_and, Bool.true_eq_false, Bool.false_eq_true, eq_self]) (fun k j h1 h2 => by try simp (disch := first | omega | assumption) only [lt_e, bn_s, ck_t, nk0, nk1, nk_b, bI_t, bI_f, L_0, L_1, L_2, L_3, L_4, L_5, L_6, L_7, L_8, L_9, L_10, L_11, L_12, L_15, L_20, L_25, L_30, L_45, L_60, L_65, L_69, L_74, L_79, L_84, L_85, L_86, L_99, L_100, L_255, L_300, L_356, L_900, L_1424, L_1425, L_1489, L_1510, L_9999, L_10000, nI_add, nI_mul, u_lt_t, u_lt_f, u_le_t, u_le_f, u_eq_t, u_eq_f, u_mlt, u_ltm, u_eqm, u_meq, u_mle, u_b0, u_b1, u_ix, u_cl, u_sub, u_suc, u_z0, u_0m, cI_0, cI_s, rI_e, rI_k, rI_j, rI_l, rL_e, rL_k, rL_j, rL_i, told11, none11, refuse12, no11q, no12q, yes11q, if_true, if_false, ite_true, ite_false, ne_eq, not_true_eq_false, not_false_eq_true, Classical.not_not, Bool.not_eq_true, Bool.not_eq_false, reduceCtorEq, Nat.add_zero, Nat.zero_add, Nat.mul_zero, and_self, and_true, true_and, Bool.true_eq_false, Bool.false_eq_true, eq_self]), fun j _ => by try simp (disch := first | omega | assumption) only [lt_e, bn_s, ck_t, nk0, nk1, nk_b, bI_t, bI_f, L_0, L_1, L_2, L_3, L_4, L_5, L_6, L_7, L_8, L_9, L_10, L_11, L_12, L_15, L_20, L_25, L_30, L_45, L_60, L_65, L_69, L_74, L_79, L_84, L_85, L_86, L_99, L_100, L_255, L_300, L_356, L_900, L_1424, L_1425, L_1489, L_1510, L_9999, L_10000, nI_add, nI_mul, u_lt_t, u_lt_f, u_le_t, u_le_f, u_eq_t, u_eq_f, u_mlt, u_ltm, u_eqm, u_meq, u_mle, u_b0, u_b1, u_ix, u_cl, u_sub, u_suc, u_z0, u_0m, cI_0, cI_s, rI_e, rI_k, rI_j, rI_l, rL_e, rL_k, rL_j, rL_i, told11, none11, refuse12, no11q, no12q, yes11q, if_true, if_false, ite_true, ite_false, ne_eq, not_true_eq_false, not_false_eq_true, Classical.not_not, Bool.not_eq_true, Bool.not_eq_false, reduceCtorEq, Nat.add_zero, Nat.zero_add, Nat.mul_zero, and_self, and_true, true_and, Bool.true_eq_false, Bool.false_eq_true, eq_self]⟩
  have five : (wp (F12_mean N p0 p1 (sI σ 11 17 (nI 5))) fun r' t' => r' = nI 0 ∧ t' = sI (sI (sI (sI σ 11 17 (nI 5)) 0 1 (nI 0)) 0 0 (nI 0)) 0 0 (nI 5)) → wp (F11_mean_b24 N σ) fun r t => wp (F12_mean N p0 p1 t) fun r' t' => r = r' ∧ I_misc t' ∧ I_hg 0 22 t' ∧ ∀ j, 84 ≤ j → t'.1 5 j = σ.1 5 j := fun h => by
    unfold F11_mean_b24
    rw [no11q, bn_s, show nkB (nI 0) = true by decide, ck_t]
    refine wp_some.mpr (wp_mono h ?_)
    rintro _ t' ⟨rfl, e⟩
    exact ⟨rfl, no _ t' e⟩
  have i20 : ∀ (p : Int32) (τ : Ms), F12_isIn p.toInt64 1 20 τ = some (if 1 ≤ p.toInt ∧ p.toInt ≤ 20 then 1 else 0, τ) := fun p τ => by
    rw [isIn_ok, Int32.toInt_toInt64]
    rfl
  unfold F11_mean
  by_cases hp1 : ∃ m, 1 ≤ m ∧ m ≤ 20 ∧ p1 = nI m
  rotate_left
  · have out : ¬ (1 ≤ p1.toInt ∧ p1.toInt ≤ 20) := fun ⟨h1, h2⟩ => hp1 ⟨p1.toInt.toNat, by omega, by omega, Int32.toInt_inj.mp (by rw [nI_toInt (by omega)]; omega)⟩
    have fv := five (by
      unfold F12_mean F12_mean_b37
      rw [lt_e, lt_e, i20, if_neg out, bn_s, if_pos (by rfl), no12q, bn_s]
      exact wp_some.mpr ⟨rfl, rfl⟩)
    by_cases a0 : p0 < 0
    · rw [if_pos a0]; exact fv
    rw [if_neg a0]
    by_cases a1 : p1 < (1 : Int32)
    · rw [if_pos a1]; exact fv
    rw [if_neg a1]
    by_cases a2 : (20 : Int32) < p1
    · rw [if_pos a2]; exact fv
    · exfalso
      refine out ⟨?_, ?_⟩
      · have := (Int32.not_lt.mp a1)
        exact Int32.le_iff_toInt_le.mp this
      · have := (Int32.not_lt.mp a2)
        exact Int32.le_iff_toInt_le.mp this
  obtain ⟨m, hm1, hm2, rfl⟩ := hp1
  have hin : ∀ τ : Ms, F12_isIn (nI m).toInt64 1 20 τ = some (1, τ) := fun τ => by
    rw [i20, if_pos]
    rw [nI_toInt (by omega)]
    omega
  have hsub : (10000 : Int32) - nI m = nI (10000 - m) := u_sub (a := 10000) (by omega)
  have hC : (nI (10000 - m)).toInt64.toInt = ((10000 - m : Nat) : Int) := by rw [Int32.toInt_toInt64, nI_toInt (by omega)]
  rcases ix_or p0 (10000 - m + 1) (by omega) with ⟨sd, hsd, rfl⟩ | ho
  rotate_left
  · have fv := five (by
      unfold F12_mean F12_mean_b37
      rw [lt_e, lt_e, hin, bn_s, if_neg (by decide), hsub, isInO hC ho, bn_s, if_neg (by exact fun z => z rfl), no12q, bn_s]
      exact wp_some.mpr ⟨rfl, rfl⟩)
    by_cases a0 : p0 < 0
    · rw [if_pos a0]; exact fv
    rw [if_neg a0, if_neg (by exact nI_nlt (b := 1) hm1 (by omega)), if_neg (by exact nI_nlt (a := 20) hm2 (by omega)), hsub, if_neg (le_out (10000 - m) rfl (by omega) a0 ho)]
    exact fv
  have hin0 : ∀ τ : Ms, F12_isIn (nI sd).toInt64 0 (nI (10000 - m)).toInt64 τ = some (nI 1, τ) := fun τ => by
    rw [isInN hC (by omega), decide_eq_true (by omega)]
    rfl
  rw [if_neg (nI_pos (by omega)), if_neg (by exact nI_nlt (b := 1) hm1 (by omega)), if_neg (by exact nI_nlt (a := 20) hm2 (by omega)), hsub, if_pos (nI_le (by omega) (by omega))]
  rcases hse with ⟨s0, m0⟩ | ⟨s0, m0, E, n, f, hE, hn, hsE, -, hsn, hS⟩
  · rw [s0, if_neg (by exact fun z => z rfl), no11q, bn_s, show nkB (nI 0) = true by decide, ck_t]
    refine wp_some.mpr ?_
    rw [Nat.mul_zero, Nat.zero_add] at m0
    unfold F12_mean
    rw [lt_e, lt_e, hin, bn_s, if_neg (by decide), hsub, hin0, bn_s, if_pos (by decide), show ixb (84 : Int32) 1780 = true by decide, ck_t, show (84 : Int32).toNatClampNeg = 84 by decide, rI_k (by omega), rI_k (by omega), rI_k (by omega), m0, if_neg (by exact fun z => z rfl), no12q, bn_s]
    exact wp_some.mpr ⟨rfl, no (nI 8) _ rfl⟩
  rw [Nat.mul_zero, Nat.zero_add] at m0 hsn
  rw [s0, if_pos (by decide)]
  have hh' := hh
  obtain ⟨H, w, c, mg, hx⟩ := hh
  have hS' : Seg (σ.1 63) (σ.1 64) (σ.1 65) (σ.1 66) (σ.1 67) (mD σ) f 3 0 0 E n := Seg_mv (fun e _ => ⟨rfl, rfl, rfl, rfl, rfl⟩) (fun s o _ _ => by unfold mD; rw [Nat.mul_zero, Nat.zero_add]) hS
  refine wp_mono (cMean hN hE hsE hS' hn w c hm1 hm2 (by omega)) ?_
  rintro _ τ ⟨rfl, x17, x18, x19, xk⟩
  unfold F12_mean
  rw [lt_e, lt_e, hin, bn_s, if_neg (by decide), hsub, hin0, bn_s, if_pos (by decide), show ixb (84 : Int32) 1780 = true by decide, ck_t, show (84 : Int32).toNatClampNeg = 84 by decide]
  have u5 : ∀ j, (sI (sI τ 0 1 (0 : Int32)) 0 0 (0 : Int32)).1 5 j = σ.1 5 j := fun j => by
    rw [rI_k (by omega), rI_k (by omega)]
    exact xk 5 j (by omega) (by omega) (by omega) (by omega)
  have uk : ∀ k j, k ≠ 0 → (sI (sI τ 0 1 (0 : Int32)) 0 0 (0 : Int32)).1 k j = τ.1 k j := fun k j h => by rw [rI_k h, rI_k h]
  have u0 : (sI (sI τ 0 1 (0 : Int32)) 0 0 (0 : Int32)).1 0 0 = nI 0 := rI_e rfl rfl
  have ul : (sI (sI τ 0 1 (0 : Int32)) 0 0 (0 : Int32)).2 = τ.2 := rfl
  generalize sI (sI τ 0 1 (0 : Int32)) 0 0 (0 : Int32) = t at u5 uk u0 ul
  rw [u5, m0, if_pos (by decide)]
  have hmD : mD t = mD σ := by
    funext a b
    exact u5 _
  have hlast : lastH t f n H sd = lastH σ f n H sd := by
    unfold lastH
    rw [hmD]
  refine wp_mono (mMean (N := N) (E := E) (n := n) (f := f) (sd := sd) (m := m) (K := σ.1 63) (A := σ.1 64) (B := σ.1 65) (C := σ.1 66) (M := σ.1 67) (σ := t) (H := H) hN (by rw [hmD]; exact hS') hn (by rw [u5]; exact hsn) w (mg.mv u5) hm1 hm2 (by omega)) ?_
  rintro _ s ⟨rfl, y2, y3, yr⟩
  rw [hlast] at y2 y3
  refine ⟨rfl, ⟨?_, ?_, ?_⟩, hh'.mv (fun j => (yr.1 j).trans (u5 j)) (fun k j h1 h2 => ?_), fun j _ => (yr.1 j).trans (u5 j)⟩
  · rw [(yr.2.1 11 17 (by omega)).1, uk _ _ (by omega), x17, yr.2.2, u0]
  · rw [(yr.2.1 11 18 (by omega)).2, ul, x18, y2]
  · rw [(yr.2.1 11 19 (by omega)).2, ul, x19, y3]
  · rw [(yr.2.1 k j (by omega)).1, uk _ _ (by omega)]
    exact xk k j (by omega) (by omega) (by omega) (by omega)
