/-- a hedge: sprigs (n, S, col, on), heaps (m, hp), bets and score (k, T, bl, br, z) -/
abbrev HG : Type := (Nat × Nat × (Nat → Nat) × (Nat → Nat)) × (Nat × (Nat → Nat)) × (Nat × Nat × (Nat → Nat) × (Nat → Nat) × Int)
def gn (H : HG) : Nat := H.1.1
def gS (H : HG) : Nat := H.1.2.1
def gc (H : HG) : Nat → Nat := H.1.2.2.1
def go (H : HG) : Nat → Nat := H.1.2.2.2
def gm (H : HG) : Nat := H.2.1.1
def gh (H : HG) : Nat → Nat := H.2.1.2
def gk (H : HG) : Nat := H.2.2.1
def gT (H : HG) : Nat := H.2.2.2.1
def gl (H : HG) : Nat → Nat := H.2.2.2.2.1
def gr (H : HG) : Nat → Nat := H.2.2.2.2.2.1
def gz (H : HG) : Int := H.2.2.2.2.2.2
def WG (H : HG) : Prop := WS (gn H) (gS H) (gc H) (go H) ∧ WH (gm H) (gh H) ∧ WB (gk H) (gT H) (gl H) (gr H) (gz H)
def CG (h : Nat) (H : HG) (σ : Ms) : Prop := RS h (gn H) (gS H) (gc H) (go H) σ ∧ RH h (gm H) (gh H) σ ∧ RB h (gk H) (gT H) (gl H) (gr H) (gz H) σ
def MG (B : Nat) (H : HG) (σ : Ms) : Prop := MS B (gn H) (gS H) (gc H) (go H) σ ∧ MH B (gm H) (gh H) σ ∧ MB B (gk H) (gT H) (gl H) (gr H) (gz H) σ
def I_hg (B h : Nat) (σ : Ms) : Prop := ∃ H, WG H ∧ CG h H σ ∧ MG B H σ ∧ σ.1 h 11 = σ.1 5 (B + 4)
theorem CG.mv {h : Nat} {H : HG} {σ τ : Ms} (c : CG h H σ) (e0 : ∀ j, 5 ≤ j → j ≤ 10 → τ.1 h j = σ.1 h j) (e : ∀ k j, h + 1 ≤ k → k ≤ h + 5 → τ.1 k j = σ.1 k j) : CG h H τ := by
  unfold CG RS RH RB at *
  simp only [e0 5 (by omega) (by omega), e0 6 (by omega) (by omega), e0 7 (by omega) (by omega), e0 8 (by omega) (by omega), e0 9 (by omega) (by omega), e0 10 (by omega) (by omega), e (h + 1) _ (by omega) (by omega), e (h + 2) _ (by omega) (by omega), e (h + 3) _ (by omega) (by omega), e (h + 4) _ (by omega) (by omega), e (h + 5) _ (by omega) (by omega)]
  exact c
theorem CG.mv1 {h : Nat} {H : HG} {σ τ : Ms} (c : CG h H σ) (e : τ.1 = σ.1) : CG h H τ := c.mv (fun j _ _ => by rw [e]) (fun k j _ _ => by rw [e])
theorem MG.mv {B : Nat} {H : HG} {σ τ : Ms} (c : MG B H σ) (e : ∀ j, τ.1 5 j = σ.1 5 j) : MG B H τ := by
  unfold MG MS MH MB at *
  simp only [e]
  exact c
theorem WG.z {H : HG} (w : WG H) : -1000 ≤ gz H ∧ gz H ≤ 1000 := by
  obtain ⟨-, -, -, -, -, h1, h2⟩ := w
  have := pc_le (gT H) 5
  omega
theorem WG.n {H : HG} (w : WG H) : gn H ≤ 20 := w.1.1
theorem WG.S {H : HG} (w : WG H) : gS H < 2 ^ 31 := set_lt w.1.2.1 w.1.1
theorem WG.o {H : HG} (w : WG H) : ∀ i, i < gn H → go H i ≤ i := fun i hi => (w.1.2.2 i hi).2.1
theorem WG.T {H : HG} (w : WG H) : gT H < 32 := Nat.lt_of_lt_of_le w.2.2.2.1 (Nat.pow_le_pow_right (n := 2) (by decide) w.2.2.1)
/-- what the hedge is worth, and its nimber, if just X stands -/
def gw (H : HG) (X : Nat) : Int := gz H * 1048576 + (wA (gn H) X (gc H) (go H) (gn H)).2
def gx (H : HG) (X : Nat) : Nat := (xA (gn H) X (gc H) (go H) (hxo (gh H) (gm H)) (gn H)).2
/-- of one branch -/
def gwb (H : HG) (X k : Nat) : Int := brw (gc H k) ((wA (gn H) X (gc H) (go H) (gn H)).1 k)
def gxb (H : HG) (X k : Nat) : Nat := (xA (gn H) X (gc H) (go H) (hxo (gh H) (gm H)) (gn H)).1 k + 1
theorem gw_abs {H : HG} (w : WG H) (X : Nat) : -(1100 * 1048576) ≤ gw H X ∧ gw H X ≤ 1100 * 1048576 := by
  have h1 := w.z
  have h2 := Ok_abs (wA_all (X := X) (col := gc H) w.n w.o (Nat.le_refl _))
  unfold gw
  omega
theorem gwb_abs {H : HG} (w : WG H) (X : Nat) {k : Nat} (hk : k < gn H) : -(20 * 1048576) ≤ gwb H X k ∧ gwb H X k ≤ 20 * 1048576 := by
  obtain ⟨v, hv, hok⟩ := wA_end (X := X) (col := gc H) w.n w.o hk
  have h2 := Ok_abs (Ok_mono (Ok_brw (c := gc H k) hok hv) (show v + 1 ≤ 20 by omega))
  unfold gwb
  omega
theorem gx_lt {H : HG} (w : WG H) (X : Nat) : gx H X < 16777216 := by
  have h := (xA_lt (n := gn H) (X := X) (col := gc H) (on := go H) (hxo_lt w.2.1.2) (gn H)).2
  have : 2 ^ (gn H + 4) ≤ 2 ^ 24 := Nat.pow_le_pow_right (by decide) (by have := w.n; omega)
  exact Nat.lt_of_lt_of_le h this
theorem gxb_lt {H : HG} (w : WG H) (X k : Nat) : gxb H X k < 33554432 := by
  have h := (xA_lt (n := gn H) (X := X) (col := gc H) (on := go H) (hxo_lt w.2.1.2) (gn H)).1 k
  have : 2 ^ (gn H + 4) ≤ 2 ^ 24 := Nat.pow_le_pow_right (by decide) (by have := w.n; omega)
  unfold gxb
  omega
theorem cWorth {N h X : Nat} {H : HG} {σ : Ms} (hN : 20 < N) (w : WG H) (c : CG h H σ) (hX : X < 2 ^ 31) : wp (F0_worthWith N h (nI X) σ) fun r τ => r = zL (1024 * gw H X) ∧ τ.1 = σ.1 ∧ (∀ j, j < 20 → τ.2 (h + 6) j = zL (1024 * (wA (gn H) X (gc H) (go H) (gn H)).1 j)) ∧ ∀ k j, k ≠ h + 6 → τ.2 k j = σ.2 k j := worthWith_ok hN w.1 c.1 hX c.2.2.2.2.1 w.z
theorem cNim {N h X : Nat} {H : HG} {σ : Ms} (hN : 20 < N) (w : WG H) (c : CG h H σ) (hXX : X < 2 ^ 31) : wp (F0_nimWith N h (nI X) σ) fun r τ => r = nI (gx H X) ∧ τ.2 = σ.2 ∧ (∀ j, j < 20 → τ.1 (h + 7) j = nI ((xA (gn H) X (gc H) (go H) (hxo (gh H) (gm H)) (gn H)).1 j)) ∧ ∀ k j, k ≠ h + 7 → τ.1 k j = σ.1 k j := nimWith_ok hN w.1 c.1 hXX w.2.1 c.2.1
/-- what the model holds when it has weighed the hedge -/
def LN (H : HG) (X : Nat) (σ τ : Ms) : Prop := τ.2 0 25 = zL (gw H X) ∧ τ.1 0 26 = nI (gx H X) ∧ (∀ j, j < gn H → X.testBit j = true → gc H j ≠ 2 → τ.2 7 j = zL (gwb H X j)) ∧ (∀ j, j < gn H → X.testBit j = true → gc H j = 2 → τ.1 8 j = nI (gxb H X j)) ∧ Fr W12_laysWorths σ τ
theorem mWorth {N X : Nat} {H : HG} {σ : Ms} (hN : 30 < N) (w : WG H) (c : MG 0 H σ) (hX : X < 2 ^ 31) : wp (F12_laysWorths N (nI X) (nI 0) (nI 0) σ) fun _ τ => LN H X σ τ := by
  refine wp_mono (wp_fr (lays_ok (P := 0) (R := 0) (cc := gc H) hN w.1 c.1 (fun i _ => by rw [Nat.zero_testBit]; rfl) hX (by decide) (by decide) w.2.1 c.2.1 c.2.2.at0.2.1 w.z) (fr_F12_laysWorths N (nI X) (nI 0) (nI 0) σ)) ?_
  rintro _ τ ⟨⟨h1, h2, h3, h4, -⟩, hF⟩
  exact ⟨h1, h2, h3, h4, hF⟩
theorem mNow {N : Nat} {H : HG} {σ : Ms} (hN : 30 < N) (w : WG H) (c : MG 0 H σ) : wp (F12_laysNow N σ) fun _ τ => LN H (gS H) σ τ := by
  unfold F12_laysNow
  rw [standing_ok (by omega) w.1 c.1, bn_s]
  exact wp_bn.mpr (wp_mono (mWorth hN w c w.S) fun _ τ h => wp_some.mpr h)
theorem LN.five {H : HG} {X : Nat} {σ τ : Ms} (h : LN H X σ τ) : ∀ j, τ.1 5 j = σ.1 5 j := fun j => (h.2.2.2.2.keep (D := [(5, none)]) rfl (In_a 0 rfl)).1
theorem LN.misc {H : HG} {X : Nat} {σ τ : Ms} (h : LN H X σ τ) (hm : I_misc σ) : I_misc τ := I_misc_keep h.2.2.2.2 rfl hm
theorem whyNo_in {n S i c g : Nat} {col on : Nat → Nat} {σ : Ms} (hW : WS n S col on) (hM : MS 0 n S col on σ) (hi : i < n) (hg : g < 2) (hc : c = if S.testBit i = true ∧ (col i = 2 ↔ g = 1) then 0 else 9) : F12_whyNoBranch (nI i) (nI g) σ = some (nI c, σ) := by
  obtain ⟨e0, er⟩ := hM.at0
  obtain ⟨ec, -, es⟩ := er i hi
  have hn := hW.1
  have hc2 := (hW.2.2 i hi).1
  unfold F12_whyNoBranch F12_whyNoBranch_b40
  rw [isSprigAt_in (by omega) e0 hi]
  cases hb : S.testBit i
  · rw [if_neg (by rw [hb]; exact fun z => absurd z.1 (by decide))] at hc
    subst hc
    simp (disch := first | omega | assumption) only [lt_e, bn_s, ck_t, nk0, nk1, nk_b, bI_t, bI_f, L_0, L_1, L_2, L_3, L_4, L_5, L_6, L_7, L_8, L_9, L_10, L_11, L_12, L_15, L_20, L_25, L_30, L_45, L_60, L_65, L_69, L_74, L_79, L_84, L_85, L_86, L_99, L_100, L_255, L_300, L_356, L_900, L_1424, L_1425, L_1489, L_1510, L_9999, L_10000, nI_add, nI_mul, u_lt_t, u_lt_f, u_le_t, u_le_f, u_eq_t, u_eq_f, u_mlt, u_ltm, u_eqm, u_meq, u_mle, u_b0, u_b1, u_ix, u_cl, u_sub, u_suc, u_z0, u_0m, cI_0, cI_s, rI_e, rI_k, rI_j, rI_l, rL_e, rL_k, rL_j, rL_i, told11, none11, refuse12, no11q, no12q, yes11q, if_true, if_false, ite_true, ite_false, ne_eq, not_true_eq_false, not_false_eq_true, Classical.not_not, Bool.not_eq_true, Bool.not_eq_false, reduceCtorEq, Nat.add_zero, Nat.zero_add, Nat.mul_zero, and_self, and_true, true_and, Bool.true_eq_false, Bool.false_eq_true, eq_self, es, hb]
  · by_cases h2 : col i = 2
    · by_cases h1 : g = 1
      · rw [if_pos ⟨hb, iff_of_true h2 h1⟩] at hc
        subst hc
        simp (disch := first | omega | assumption) only [lt_e, bn_s, ck_t, nk0, nk1, nk_b, bI_t, bI_f, L_0, L_1, L_2, L_3, L_4, L_5, L_6, L_7, L_8, L_9, L_10, L_11, L_12, L_15, L_20, L_25, L_30, L_45, L_60, L_65, L_69, L_74, L_79, L_84, L_85, L_86, L_99, L_100, L_255, L_300, L_356, L_900, L_1424, L_1425, L_1489, L_1510, L_9999, L_10000, nI_add, nI_mul, u_lt_t, u_lt_f, u_le_t, u_le_f, u_eq_t, u_eq_f, u_mlt, u_ltm, u_eqm, u_meq, u_mle, u_b0, u_b1, u_ix, u_cl, u_sub, u_suc, u_z0, u_0m, cI_0, cI_s, rI_e, rI_k, rI_j, rI_l, rL_e, rL_k, rL_j, rL_i, told11, none11, refuse12, no11q, no12q, yes11q, if_true, if_false, ite_true, ite_false, ne_eq, not_true_eq_false, not_false_eq_true, Classical.not_not, Bool.not_eq_true, Bool.not_eq_false, reduceCtorEq, Nat.add_zero, Nat.zero_add, Nat.mul_zero, and_self, and_true, true_and, Bool.true_eq_false, Bool.false_eq_true, eq_self, es, hb, ec]
      · rw [if_neg fun z => h1 (z.2.mp h2)] at hc
        subst hc
        simp (disch := first | omega | assumption) only [lt_e, bn_s, ck_t, nk0, nk1, nk_b, bI_t, bI_f, L_0, L_1, L_2, L_3, L_4, L_5, L_6, L_7, L_8, L_9, L_10, L_11, L_12, L_15, L_20, L_25, L_30, L_45, L_60, L_65, L_69, L_74, L_79, L_84, L_85, L_86, L_99, L_100, L_255, L_300, L_356, L_900, L_1424, L_1425, L_1489, L_1510, L_9999, L_10000, nI_add, nI_mul, u_lt_t, u_lt_f, u_le_t, u_le_f, u_eq_t, u_eq_f, u_mlt, u_ltm, u_eqm, u_meq, u_mle, u_b0, u_b1, u_ix, u_cl, u_sub, u_suc, u_z0, u_0m, cI_0, cI_s, rI_e, rI_k, rI_j, rI_l, rL_e, rL_k, rL_j, rL_i, told11, none11, refuse12, no11q, no12q, yes11q, if_true, if_false, ite_true, ite_false, ne_eq, not_true_eq_false, not_false_eq_true, Classical.not_not, Bool.not_eq_true, Bool.not_eq_false, reduceCtorEq, Nat.add_zero, Nat.zero_add, Nat.mul_zero, and_self, and_true, true_and, Bool.true_eq_false, Bool.false_eq_true, eq_self, es, hb, ec]
    · by_cases h1 : g = 1
      · rw [if_neg fun z => h2 (z.2.mpr h1)] at hc
        subst hc
        simp (disch := first | omega | assumption) only [lt_e, bn_s, ck_t, nk0, nk1, nk_b, bI_t, bI_f, L_0, L_1, L_2, L_3, L_4, L_5, L_6, L_7, L_8, L_9, L_10, L_11, L_12, L_15, L_20, L_25, L_30, L_45, L_60, L_65, L_69, L_74, L_79, L_84, L_85, L_86, L_99, L_100, L_255, L_300, L_356, L_900, L_1424, L_1425, L_1489, L_1510, L_9999, L_10000, nI_add, nI_mul, u_lt_t, u_lt_f, u_le_t, u_le_f, u_eq_t, u_eq_f, u_mlt, u_ltm, u_eqm, u_meq, u_mle, u_b0, u_b1, u_ix, u_cl, u_sub, u_suc, u_z0, u_0m, cI_0, cI_s, rI_e, rI_k, rI_j, rI_l, rL_e, rL_k, rL_j, rL_i, told11, none11, refuse12, no11q, no12q, yes11q, if_true, if_false, ite_true, ite_false, ne_eq, not_true_eq_false, not_false_eq_true, Classical.not_not, Bool.not_eq_true, Bool.not_eq_false, reduceCtorEq, Nat.add_zero, Nat.zero_add, Nat.mul_zero, and_self, and_true, true_and, Bool.true_eq_false, Bool.false_eq_true, eq_self, es, hb, ec]
      · rw [if_pos ⟨hb, iff_of_false h2 h1⟩] at hc
        subst hc
        simp (disch := first | omega | assumption) only [lt_e, bn_s, ck_t, nk0, nk1, nk_b, bI_t, bI_f, L_0, L_1, L_2, L_3, L_4, L_5, L_6, L_7, L_8, L_9, L_10, L_11, L_12, L_15, L_20, L_25, L_30, L_45, L_60, L_65, L_69, L_74, L_79, L_84, L_85, L_86, L_99, L_100, L_255, L_300, L_356, L_900, L_1424, L_1425, L_1489, L_1510, L_9999, L_10000, nI_add, nI_mul, u_lt_t, u_lt_f, u_le_t, u_le_f, u_eq_t, u_eq_f, u_mlt, u_ltm, u_eqm, u_meq, u_mle, u_b0, u_b1, u_ix, u_cl, u_sub, u_suc, u_z0, u_0m, cI_0, cI_s, rI_e, rI_k, rI_j, rI_l, rL_e, rL_k, rL_j, rL_i, told11, none11, refuse12, no11q, no12q, yes11q, if_true, if_false, ite_true, ite_false, ne_eq, not_true_eq_false, not_false_eq_true, Classical.not_not, Bool.not_eq_true, Bool.not_eq_false, reduceCtorEq, Nat.add_zero, Nat.zero_add, Nat.mul_zero, and_self, and_true, true_and, Bool.true_eq_false, Bool.false_eq_true, eq_self, es, hb, ec]
theorem whyNo_out {n S : Nat} {col on : Nat → Nat} {p q : Int32} {σ : Ms} (hW : WS n S col on) (hM : MS 0 n S col on σ) (hp : ¬ ∃ i, i < n ∧ p = nI i) : F12_whyNoBranch p q σ = some (nI 2, σ) := by
  have hn := hW.1
  unfold F12_whyNoBranch
  rw [isSprigAt_out (by omega) hM.at0.1 hp]
  simp (disch := first | omega | assumption) only [lt_e, bn_s, ck_t, nk0, nk1, nk_b, bI_t, bI_f, L_0, L_1, L_2, L_3, L_4, L_5, L_6, L_7, L_8, L_9, L_10, L_11, L_12, L_15, L_20, L_25, L_30, L_45, L_60, L_65, L_69, L_74, L_79, L_84, L_85, L_86, L_99, L_100, L_255, L_300, L_356, L_900, L_1424, L_1425, L_1489, L_1510, L_9999, L_10000, nI_add, nI_mul, u_lt_t, u_lt_f, u_le_t, u_le_f, u_eq_t, u_eq_f, u_mlt, u_ltm, u_eqm, u_meq, u_mle, u_b0, u_b1, u_ix, u_cl, u_sub, u_suc, u_z0, u_0m, cI_0, cI_s, rI_e, rI_k, rI_j, rI_l, rL_e, rL_k, rL_j, rL_i, told11, none11, refuse12, no11q, no12q, yes11q, if_true, if_false, ite_true, ite_false, ne_eq, not_true_eq_false, not_false_eq_true, Classical.not_not, Bool.not_eq_true, Bool.not_eq_false, reduceCtorEq, Nat.add_zero, Nat.zero_add, Nat.mul_zero, and_self, and_true, true_and, Bool.true_eq_false, Bool.false_eq_true, eq_self]
/-- the WORTH of a branch, the class's way -/
theorem cBranch {N h i : Nat} {H : HG} {σ : Ms} (hN : 20 < N) (w : WG H) (c : CG h H σ) (hi : i < gn H) (hs : (gS H).testBit i = true) (hc : gc H i ≠ 2) : wp (F0_branchWorth N h (nI i) σ) fun r τ => r = zL (1024 * gwb H (gS H) i) ∧ τ.1 = σ.1 ∧ ∀ k j, k ≠ h + 6 → τ.2 k j = σ.2 k j := by
  have hn := w.n
  obtain ⟨ec, -⟩ := c.1.2.2 i hi
  have hc2 := (w.1.2.2 i hi).1
  have hb : ((gS H).testBit i && gc H i != 2) = true := by simp [hs, hc]
  unfold F0_branchWorth
  rw [hasWorth_in hn w.1.2.1 c.1.1 c.1.2.1 hi ec hc2, hb, bn_s, if_pos (by decide), c.1.2.1]
  refine wp_bn.mpr (wp_mono (cWorth hN w c w.S) ?_)
  rintro r τ ⟨-, e1, e2, e3⟩
  obtain ⟨v, hv, hok⟩ := wA_end (X := gS H) (col := gc H) hn w.o hi
  rw [u_ix (show i < 20 by omega) (by omega), ck_t, ck_t, u_cl (by omega), e1, ec, e2 i (by omega), branch_ok hok hv hc2, bn_s]
  exact wp_some.mpr ⟨rfl, e1, e3⟩
theorem cBranchNim {N h i : Nat} {H : HG} {σ : Ms} (hN : 20 < N) (w : WG H) (c : CG h H σ) (hi : i < gn H) (hs : (gS H).testBit i = true) : wp (F0_branchNim N h (nI i) σ) fun r τ => r = nI (gxb H (gS H) i) ∧ τ.2 = σ.2 ∧ ∀ k j, k ≠ h + 7 → τ.1 k j = σ.1 k j := by
  have hn := w.n
  unfold F0_branchNim
  rw [isStanding_in hn w.1.2.1 c.1.1 c.1.2.1 hi, hs, bn_s, if_pos (by decide), c.1.2.1]
  refine wp_bn.mpr (wp_mono (cNim hN w c w.S) ?_)
  rintro r τ ⟨-, e1, e2, e3⟩
  rw [u_ix (show i < 20 by omega) (by omega), ck_t, u_cl (by omega), e2 i (by omega), show (1 : Int32) = nI 1 from rfl, nI_add]
  exact wp_some.mpr ⟨rfl, e1, e3⟩
theorem tellNumber_ok {N : Nat} {W : Int} (hN : 100 < N) (h1 : -1125899906842624 < W) (h2 : W < 1125899906842624) (σ : Ms) : F11_tellNumber N (zL (1024 * W)) σ = some (nI 1, sI (sL (sL σ 11 18 (zL (frT W 1048576))) 11 19 (zL (frB W 1048576))) 11 17 (nI 0)) := by
  unfold F11_tellNumber
  have e := fr_scale W 1048576 1024 (by decide)
  rw [show (1073741824 : Int64) = zL ((1024 * 1048576 : Nat) : Int) by decide, fr11 hN (by omega) (by omega) (by decide) (by decide), bn_s, show nkB (nI 1) = true by decide, ck_t]
  rw [show ((1024 : Nat) : Int) * W = 1024 * W from rfl] at e
  rw [e.1, e.2]
