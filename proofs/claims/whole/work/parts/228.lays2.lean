def wv (n X : Nat) (col on : Nat → Nat) (m j : Nat) : Int := if n - m ≤ j ∧ X.testBit j = true ∧ col j ≠ 2 then brw (col j) ((wA n X col on m).1 j) else (wA n X col on m).1 j
def xv (n X : Nat) (col on : Nat → Nat) (h0 m j : Nat) : Nat := if n - m ≤ j ∧ X.testBit j = true ∧ col j = 2 then (xA n X col on h0 m).1 j + 1 else (xA n X col on h0 m).1 j
theorem wv_q {n X : Nat} {col on : Nat → Nat} {m j : Nat} (h : j < n - m) : wv n X col on m j = (wA n X col on m).1 j := if_neg fun z => by omega
theorem xv_q {n X h0 : Nat} {col on : Nat → Nat} {m j : Nat} (h : j < n - m) : xv n X col on h0 m j = (xA n X col on h0 m).1 j := if_neg fun z => by omega
theorem lays_b198 {N n S X P R q : Nat} {col on : Nat → Nat} {σ τ : Ms} {f : Nat → Int} {g : Nat → Nat} {a : Int} {b : Nat} {c : Int32 × Int32 × Int32 × Int32 × Ms → Option (Unit × Ms)} {Q : Unit → Ms → Prop} (hn : n ≤ 20) (hq : q < n) (ho : on q ≤ q) (hM : MS 0 n S col on σ) (h5 : ∀ j, τ.1 5 j = σ.1 5 j) (h7 : ∀ j, j < n → τ.2 7 j = zL (f j)) (h8 : ∀ j, j < n → τ.1 8 j = nI (g j)) (h25 : τ.2 0 25 = zL a) (h26 : τ.1 0 26 = nI b)
    (hc : ∀ τ' : Ms, (∀ j, τ'.1 5 j = σ.1 5 j) → (∀ j, j < n → τ'.2 7 j = zL (if j + 1 = on q then f j + f q else f j)) → (∀ j, j < n → τ'.1 8 j = nI (if j + 1 = on q then g j ^^^ g q else g j)) → τ'.2 0 25 = zL (if on q = 0 then a + f q else a) → τ'.1 0 26 = nI (if on q = 0 then b ^^^ g q else b) → wp (c (nI X, nI P, nI R, cI q, τ')) Q) : wp (F12_laysWorths_b198 N c (nI X) (nI P) (nI R) (nI q) τ) Q := by
  unfold F12_laysWorths_b198 F12_laysWorths_b286
  obtain ⟨-, eo, -⟩ := hM.at0.2 q hq
  rw [show (25 : Int32) = nI 25 from rfl, nI_add, u_ix (show 25 + q < 1780 by omega) (by omega), ck_t, lt_e, u_cl (show 25 + q < 2147483648 by omega), h5, eo, show nI (on q) - (1 : Int32) = cI (on q) from rfl, show nI q + (-1 : Int32) = cI q from u_dec q]
  cases hoi : on q with
  | zero =>
    rw [cI_0, if_pos (by decide), u_ix (show q < 20 by omega) (by omega), ck_t, lt_e, ck_t, lt_e, u_cl (show q < 2147483648 by omega), h25, h7 q hq, zL_add]
    refine hc _ (fun j => by simp (disch := first | omega | assumption) only [lt_e, bn_s, ck_t, nk0, nk1, nk_b, bI_t, bI_f, L_0, L_1, L_2, L_3, L_4, L_5, L_6, L_7, L_8, L_9, L_10, L_11, L_12, L_15, L_20, L_25, L_30, L_45, L_60, L_65, L_69, L_74, L_79, L_84, L_85, L_86, L_99, L_100, L_255, L_300, L_356, L_900, L_1424, L_1425, L_1489, L_1510, L_9999, L_10000, nI_add, nI_mul, u_lt_t, u_lt_f, u_le_t, u_le_f, u_eq_t, u_eq_f, u_mlt, u_ltm, u_eqm, u_meq, u_mle, u_b0, u_b1, u_ix, u_cl, u_sub, u_suc, u_z0, u_0m, cI_0, cI_s, rI_e, rI_k, rI_j, rI_l, rL_e, rL_k, rL_j, rL_i, told11, none11, refuse12, no11q, no12q, yes11q, if_true, if_false, ite_true, ite_false, ne_eq, not_true_eq_false, not_false_eq_true, Classical.not_not, Bool.not_eq_true, Bool.not_eq_false, reduceCtorEq, Nat.add_zero, Nat.zero_add, Nat.mul_zero, and_self, and_true, true_and, Bool.true_eq_false, Bool.false_eq_true, eq_self, h5]) (fun j hj => ?_) (fun j hj => ?_) ?_ ?_
    · rw [if_neg (by omega)]
      simp (disch := first | omega | assumption) only [lt_e, bn_s, ck_t, nk0, nk1, nk_b, bI_t, bI_f, L_0, L_1, L_2, L_3, L_4, L_5, L_6, L_7, L_8, L_9, L_10, L_11, L_12, L_15, L_20, L_25, L_30, L_45, L_60, L_65, L_69, L_74, L_79, L_84, L_85, L_86, L_99, L_100, L_255, L_300, L_356, L_900, L_1424, L_1425, L_1489, L_1510, L_9999, L_10000, nI_add, nI_mul, u_lt_t, u_lt_f, u_le_t, u_le_f, u_eq_t, u_eq_f, u_mlt, u_ltm, u_eqm, u_meq, u_mle, u_b0, u_b1, u_ix, u_cl, u_sub, u_suc, u_z0, u_0m, cI_0, cI_s, rI_e, rI_k, rI_j, rI_l, rL_e, rL_k, rL_j, rL_i, told11, none11, refuse12, no11q, no12q, yes11q, if_true, if_false, ite_true, ite_false, ne_eq, not_true_eq_false, not_false_eq_true, Classical.not_not, Bool.not_eq_true, Bool.not_eq_false, reduceCtorEq, Nat.add_zero, Nat.zero_add, Nat.mul_zero, and_self, and_true, true_and, Bool.true_eq_false, Bool.false_eq_true, eq_self]
      exact h7 j hj
    · rw [if_neg (by omega)]
      simp (disch := first | omega | assumption) only [lt_e, bn_s, ck_t, nk0, nk1, nk_b, bI_t, bI_f, L_0, L_1, L_2, L_3, L_4, L_5, L_6, L_7, L_8, L_9, L_10, L_11, L_12, L_15, L_20, L_25, L_30, L_45, L_60, L_65, L_69, L_74, L_79, L_84, L_85, L_86, L_99, L_100, L_255, L_300, L_356, L_900, L_1424, L_1425, L_1489, L_1510, L_9999, L_10000, nI_add, nI_mul, u_lt_t, u_lt_f, u_le_t, u_le_f, u_eq_t, u_eq_f, u_mlt, u_ltm, u_eqm, u_meq, u_mle, u_b0, u_b1, u_ix, u_cl, u_sub, u_suc, u_z0, u_0m, cI_0, cI_s, rI_e, rI_k, rI_j, rI_l, rL_e, rL_k, rL_j, rL_i, told11, none11, refuse12, no11q, no12q, yes11q, if_true, if_false, ite_true, ite_false, ne_eq, not_true_eq_false, not_false_eq_true, Classical.not_not, Bool.not_eq_true, Bool.not_eq_false, reduceCtorEq, Nat.add_zero, Nat.zero_add, Nat.mul_zero, and_self, and_true, true_and, Bool.true_eq_false, Bool.false_eq_true, eq_self]
      exact h8 j hj
    · rw [if_pos hoi]
      rfl
    · rw [if_pos hoi]
      show τ.1 0 26 ^^^ τ.1 8 q = _
      rw [h26, h8 q hq, nx_xor]
  | succ k =>
    have hk : k < q := by omega
    rw [cI_s, if_neg (nI_pos (by omega)), u_ix (show k < 20 by omega) (by omega), ck_t, u_ix (show q < 20 by omega) (by omega), ck_t, ck_t, lt_e, ck_t, ck_t, ck_t, lt_e, u_cl (show q < 2147483648 by omega), u_cl (show k < 2147483648 by omega), h7 q hq, h7 k (by omega), zL_add]
    refine hc _ (fun j => by simp (disch := first | omega | assumption) only [lt_e, bn_s, ck_t, nk0, nk1, nk_b, bI_t, bI_f, L_0, L_1, L_2, L_3, L_4, L_5, L_6, L_7, L_8, L_9, L_10, L_11, L_12, L_15, L_20, L_25, L_30, L_45, L_60, L_65, L_69, L_74, L_79, L_84, L_85, L_86, L_99, L_100, L_255, L_300, L_356, L_900, L_1424, L_1425, L_1489, L_1510, L_9999, L_10000, nI_add, nI_mul, u_lt_t, u_lt_f, u_le_t, u_le_f, u_eq_t, u_eq_f, u_mlt, u_ltm, u_eqm, u_meq, u_mle, u_b0, u_b1, u_ix, u_cl, u_sub, u_suc, u_z0, u_0m, cI_0, cI_s, rI_e, rI_k, rI_j, rI_l, rL_e, rL_k, rL_j, rL_i, told11, none11, refuse12, no11q, no12q, yes11q, if_true, if_false, ite_true, ite_false, ne_eq, not_true_eq_false, not_false_eq_true, Classical.not_not, Bool.not_eq_true, Bool.not_eq_false, reduceCtorEq, Nat.add_zero, Nat.zero_add, Nat.mul_zero, and_self, and_true, true_and, Bool.true_eq_false, Bool.false_eq_true, eq_self, h5]) (fun j hj => ?_) (fun j hj => ?_) ?_ ?_
    · show (if 7 = 7 ∧ j = k then _ else τ.2 7 j) = _
      by_cases z : j = k
      · rw [if_pos ⟨rfl, z⟩, if_pos (by omega), z]
      · rw [if_neg fun y => z y.2, if_neg (by omega), h7 j hj]
    · show (if 8 = 8 ∧ j = k then τ.1 8 k ^^^ τ.1 8 q else τ.1 8 j) = _
      by_cases z : j = k
      · rw [if_pos ⟨rfl, z⟩, if_pos (by omega), h8 k (by omega), h8 q hq, nx_xor, z]
      · rw [if_neg fun y => z y.2, if_neg (by omega), h8 j hj]
    · rw [if_neg (by omega)]
      exact h25
    · rw [if_neg (by omega)]
      exact h26
/-- what laysWorths leaves -/
def LD (n X : Nat) (col on : Nat → Nat) (h0 : Nat) (s : Int) (σ τ : Ms) : Prop := τ.2 0 25 = zL (s + (wA n X col on n).2) ∧ τ.1 0 26 = nI (xA n X col on h0 n).2 ∧ (∀ j, j < n → X.testBit j = true → col j ≠ 2 → τ.2 7 j = zL (brw (col j) ((wA n X col on n).1 j))) ∧ (∀ j, j < n → X.testBit j = true → col j = 2 → τ.1 8 j = nI ((xA n X col on h0 n).1 j + 1)) ∧ ∀ j, τ.1 5 j = σ.1 5 j
theorem lays_b105 {N n S X P R h0 : Nat} {col cc on : Nat → Nat} {s : Int} {σ : Ms} (hN : 30 < N) (hW : WS n S cc on) (hM : MS 0 n S col on σ) (hcc : ∀ i, i < n → cc i = if P.testBit i = true then (if R.testBit i = true then 1 else 0) else col i) (hX : X < 2 ^ 31) (hP : P < 2 ^ 31) (hR : R < 2 ^ 31) {τ₀ : Ms} (h5 : ∀ j, τ₀.1 5 j = σ.1 5 j) (h7 : ∀ j, j < n → τ₀.2 7 j = zL 0) (h8 : ∀ j, j < n → τ₀.1 8 j = nI 0) (h25 : τ₀.2 0 25 = zL s) (h26 : τ₀.1 0 26 = nI h0) : wp (F12_laysWorths_b105 N (nI X) (nI P) (nI R) (cI n) τ₀) fun _ τ => LD n X cc on h0 s σ τ := by
  obtain ⟨hn, hS, hw⟩ := hW
  have ho : ∀ i, i < n → on i ≤ i := fun i hi => (hw i hi).2.1
  have hg : ∀ i, i < n → ∀ j, on i = j + 1 → (cc i = 2 ↔ cc j = 2) := fun i hi j hj => ((hw i hi).2.2 j hj).1
  unfold F12_laysWorths_b105
  refine wp_fx (fun k x => ∃ m τ, m + k = n ∧ x = (nI X, nI P, nI R, cI (n - m), τ) ∧ (∀ j, τ.1 5 j = σ.1 5 j) ∧ (∀ j, j < n → τ.2 7 j = zL (wv n X cc on m j)) ∧ (∀ j, j < n → τ.1 8 j = nI (xv n X cc on h0 m j)) ∧ τ.2 0 25 = zL (s + (wA n X cc on m).2) ∧ τ.1 0 26 = nI (xA n X cc on h0 m).2) ?_ (n := n) (by omega) ⟨0, τ₀, by omega, rfl, h5, fun j hj => by rw [h7 j hj, wv_q (by omega)]; rfl, fun j hj => by rw [h8 j hj, xv_q (by omega)]; rfl, by rw [h25, show (wA n X cc on 0).2 = 0 from rfl, Int.add_zero], by rw [h26]; rfl⟩
  rintro k c _ ⟨m, τ, hm, rfl, g5, g7, g8, g25, g26⟩ hc
  simp only
  unfold F12_laysWorths_b105B F12_laysWorths_b286
  cases hq : n - m with
  | zero =>
    have em : m = n := by omega
    subst em
    rw [cI_0, if_pos (by decide)]
    refine wp_some.mpr ⟨g25, g26, fun j hj hx hcj => ?_, fun j hj hx hcj => ?_, g5⟩
    · rw [g7 j hj]
      unfold wv
      rw [if_pos ⟨by omega, hx, hcj⟩]
    · rw [g8 j hj]
      unfold xv
      rw [if_pos ⟨by omega, hx, hcj⟩]
  | succ q =>
    have eq : n - (m + 1) = q := by omega
    have hqn : q < n := by omega
    obtain ⟨hc2, hoq, -⟩ := hw q hqn
    obtain ⟨ec, -, -⟩ := hM.at0.2 q hqn
    have ws : wA n X cc on (m + 1) = wstp X cc on q (wA n X cc on m) := by rw [wA_s, eq]
    have xs : xA n X cc on h0 (m + 1) = xstp X cc on q (xA n X cc on h0 m) := by rw [xA_s, eq]
    have nx : ∀ τ' : Ms, (∀ j, τ'.1 5 j = σ.1 5 j) → (∀ j, j < n → τ'.2 7 j = zL (wv n X cc on (m + 1) j)) → (∀ j, j < n → τ'.1 8 j = nI (xv n X cc on h0 (m + 1) j)) → τ'.2 0 25 = zL (s + (wA n X cc on (m + 1)).2) → τ'.1 0 26 = nI (xA n X cc on h0 (m + 1)).2 → wp (c (nI X, nI P, nI R, cI q, τ')) fun _ τ => LD n X cc on h0 s σ τ := fun τ' a1 a2 a3 a4 a5 => hc (k - 1) _ (by omega) ⟨m + 1, τ', by omega, by rw [eq], a1, a2, a3, a4, a5⟩
    rw [cI_s, if_neg (nI_pos (by omega)), has12 hX (by omega), bn_s]
    cases hb : X.testBit q
    · rw [if_neg (by decide), show nI q + (-1 : Int32) = cI q from u_dec q]
      have y1 : ¬ (X.testBit q = true ∧ cc q ≠ 2) := by rw [hb]; exact fun z => absurd z.1 (by decide)
      have y2 : ¬ (X.testBit q = true ∧ cc q = 2) := by rw [hb]; exact fun z => absurd z.1 (by decide)
      refine nx τ g5 (fun j hj => ?_) (fun j hj => ?_) (by rw [ws, wstp_no y1]; exact g25) (by rw [xs, xstp_no y2]; exact g26)
      · rw [g7 j hj]
        unfold wv
        rw [ws, wstp_no y1]
        by_cases z : j = q
        · rw [if_neg (by rw [z, hb]; exact fun z => absurd z.2.1 (by decide)), if_neg (by rw [z, hb]; exact fun z => absurd z.2.1 (by decide))]
        · by_cases y : n - m ≤ j
          · by_cases x : X.testBit j = true ∧ cc j ≠ 2
            · rw [if_pos ⟨y, x⟩, if_pos ⟨by omega, x⟩]
            · rw [if_neg fun v => x v.2, if_neg fun v => x v.2]
          · rw [if_neg fun v => y v.1, if_neg fun v => by omega]
      · rw [g8 j hj]
        unfold xv
        rw [xs, xstp_no y2]
        by_cases z : j = q
        · rw [if_neg (by rw [z, hb]; exact fun z => absurd z.2.1 (by decide)), if_neg (by rw [z, hb]; exact fun z => absurd z.2.1 (by decide))]
        · by_cases y : n - m ≤ j
          · by_cases x : X.testBit j = true ∧ cc j = 2
            · rw [if_pos ⟨y, x⟩, if_pos ⟨by omega, x⟩]
            · rw [if_neg fun v => x v.2, if_neg fun v => x v.2]
          · rw [if_neg fun v => y v.1, if_neg fun v => by omega]
    rw [if_pos (by decide)]
    -- the colour that counts
    have go : wp (F12_laysWorths_b157 N c (nI X) (nI P) (nI R) (nI q) (nI (cc q)) τ) fun _ τ => LD n X cc on h0 s σ τ := by
      unfold F12_laysWorths_b157
      have a7 := g7 q hqn
      have a8 := g8 q hqn
      rw [wv_q (by omega)] at a7
      rw [xv_q (by omega)] at a8
      by_cases hgr : cc q = 2
      · have hyes : X.testBit q = true ∧ cc q = 2 := ⟨hb, hgr⟩
        have hno : ¬ (X.testBit q = true ∧ cc q ≠ 2) := fun z => z.2 hgr
        rw [wA_green hg m (by omega) q hgr] at a7
        rw [if_neg (by exact fun z => z (by rw [hgr]; rfl)), u_ix (show q < 20 by omega) (by omega), ck_t, ck_t, lt_e, u_cl (by omega), a8, show (1 : Int32) = nI 1 from rfl, nI_add]
        refine lays_b198 (a := s + (wA n X cc on m).2) (b := (xA n X cc on h0 m).2) (f := wv n X cc on m) (g := fun j => if j = q then (xA n X cc on h0 m).1 q + 1 else xv n X cc on h0 m j) hn hqn hoq hM (fun j => by simp (disch := first | omega | assumption) only [lt_e, bn_s, ck_t, nk0, nk1, nk_b, bI_t, bI_f, L_0, L_1, L_2, L_3, L_4, L_5, L_6, L_7, L_8, L_9, L_10, L_11, L_12, L_15, L_20, L_25, L_30, L_45, L_60, L_65, L_69, L_74, L_79, L_84, L_85, L_86, L_99, L_100, L_255, L_300, L_356, L_900, L_1424, L_1425, L_1489, L_1510, L_9999, L_10000, nI_add, nI_mul, u_lt_t, u_lt_f, u_le_t, u_le_f, u_eq_t, u_eq_f, u_mlt, u_ltm, u_eqm, u_meq, u_mle, u_b0, u_b1, u_ix, u_cl, u_sub, u_suc, u_z0, u_0m, cI_0, cI_s, rI_e, rI_k, rI_j, rI_l, rL_e, rL_k, rL_j, rL_i, told11, none11, refuse12, no11q, no12q, yes11q, if_true, if_false, ite_true, ite_false, ne_eq, not_true_eq_false, not_false_eq_true, Classical.not_not, Bool.not_eq_true, Bool.not_eq_false, reduceCtorEq, Nat.add_zero, Nat.zero_add, Nat.mul_zero, and_self, and_true, true_and, Bool.true_eq_false, Bool.false_eq_true, eq_self, g5]) (fun j hj => ?_) (fun j hj => ?_) g25 ?_ ?_
        · exact g7 j hj
        · show (if 8 = 8 ∧ j = q then _ else τ.1 8 j) = _
          by_cases z : j = q
          · rw [if_pos ⟨rfl, z⟩, if_pos z]
          · rw [if_neg fun y => z y.2, if_neg z, g8 j hj]
        · simp (disch := first | omega | assumption) only [lt_e, bn_s, ck_t, nk0, nk1, nk_b, bI_t, bI_f, L_0, L_1, L_2, L_3, L_4, L_5, L_6, L_7, L_8, L_9, L_10, L_11, L_12, L_15, L_20, L_25, L_30, L_45, L_60, L_65, L_69, L_74, L_79, L_84, L_85, L_86, L_99, L_100, L_255, L_300, L_356, L_900, L_1424, L_1425, L_1489, L_1510, L_9999, L_10000, nI_add, nI_mul, u_lt_t, u_lt_f, u_le_t, u_le_f, u_eq_t, u_eq_f, u_mlt, u_ltm, u_eqm, u_meq, u_mle, u_b0, u_b1, u_ix, u_cl, u_sub, u_suc, u_z0, u_0m, cI_0, cI_s, rI_e, rI_k, rI_j, rI_l, rL_e, rL_k, rL_j, rL_i, told11, none11, refuse12, no11q, no12q, yes11q, if_true, if_false, ite_true, ite_false, ne_eq, not_true_eq_false, not_false_eq_true, Classical.not_not, Bool.not_eq_true, Bool.not_eq_false, reduceCtorEq, Nat.add_zero, Nat.zero_add, Nat.mul_zero, and_self, and_true, true_and, Bool.true_eq_false, Bool.false_eq_true, eq_self]
          exact g26
        · intro τ' b5 b7 b8 b25 b26
          have wq : wv n X cc on m q = 0 := by rw [wv_q (by omega), wA_green hg m (by omega) q hgr]
          refine nx τ' b5 (fun j hj => ?_) (fun j hj => ?_) ?_ ?_
          · rw [b7 j hj, wq, Int.add_zero, ite_self]
            unfold wv
            rw [ws, wstp_no hno]
            by_cases z : j = q
            · rw [if_neg (by rw [z]; exact fun y => y.2.2 hgr), if_neg (by rw [z]; exact fun y => y.2.2 hgr)]
            · by_cases y : n - m ≤ j
              · by_cases x : X.testBit j = true ∧ cc j ≠ 2
                · rw [if_pos ⟨y, x⟩, if_pos ⟨by omega, x⟩]
                · rw [if_neg fun v => x v.2, if_neg fun v => x v.2]
              · rw [if_neg fun v => y v.1, if_neg fun v => by omega]
          · rw [b8 j hj, if_pos (rfl : q = q)]
            congr 1
            by_cases z : j = q
            · subst z
              rw [if_neg (by omega), if_pos (by rfl)]
              unfold xv
              rw [if_pos ⟨by omega, hyes⟩, xs, xstp_hi hoq]
            · rw [if_neg z]
              by_cases y : j + 1 = on q
              · rw [if_pos y, xv_q (by omega)]
                unfold xv
                rw [if_neg (by omega), xs, xstp_j hyes y.symm]
                show _ = if j = j then _ else _
                rw [if_pos (by rfl)]
              · rw [if_neg y]
                have e1 : (xA n X cc on h0 (m + 1)).1 j = (xA n X cc on h0 m).1 j := by
                  rw [xs]
                  unfold xstp
                  rw [if_pos hyes]
                  split
                  · rfl
                  · exact if_neg y
                unfold xv
                rw [e1]
                by_cases x : n - m ≤ j
                · by_cases w : X.testBit j = true ∧ cc j = 2
                  · rw [if_pos ⟨x, w⟩, if_pos ⟨by omega, w⟩]
                  · rw [if_neg fun v => w v.2, if_neg fun v => w v.2]
                · rw [if_neg fun v => x v.1, if_neg fun v => by omega]
          · rw [b25, wq, Int.add_zero, ite_self, ws, wstp_no hno]
          · rw [b26, if_pos (rfl : q = q), xs]
            unfold xstp
            rw [if_pos hyes]
            split <;> rfl
      · have hyes : X.testBit q = true ∧ cc q ≠ 2 := ⟨hb, hgr⟩
        have hno : ¬ (X.testBit q = true ∧ cc q = 2) := fun z => hgr z.2
        obtain ⟨w, hw19, hok⟩ := wA_at (X := X) (col := cc) hn ho (m := m) (by omega)
        rw [eq] at hok
        rw [xA_blue hg m (by omega) q hgr] at a8
        rw [if_pos (by exact fun z => hgr ((nI_eq (b := 2) (by omega) (by omega)).mp z)), u_ix (show q < 20 by omega) (by omega), ck_t, u_cl (by omega), a7, branchWorth_ok hN hok hw19 hc2, bn_s, ck_t, lt_e]
        refine lays_b198 (a := s + (wA n X cc on m).2) (b := (xA n X cc on h0 m).2) (f := fun j => if j = q then brw (cc q) ((wA n X cc on m).1 q) else wv n X cc on m j) (g := xv n X cc on h0 m) hn hqn hoq hM (fun j => by simp (disch := first | omega | assumption) only [lt_e, bn_s, ck_t, nk0, nk1, nk_b, bI_t, bI_f, L_0, L_1, L_2, L_3, L_4, L_5, L_6, L_7, L_8, L_9, L_10, L_11, L_12, L_15, L_20, L_25, L_30, L_45, L_60, L_65, L_69, L_74, L_79, L_84, L_85, L_86, L_99, L_100, L_255, L_300, L_356, L_900, L_1424, L_1425, L_1489, L_1510, L_9999, L_10000, nI_add, nI_mul, u_lt_t, u_lt_f, u_le_t, u_le_f, u_eq_t, u_eq_f, u_mlt, u_ltm, u_eqm, u_meq, u_mle, u_b0, u_b1, u_ix, u_cl, u_sub, u_suc, u_z0, u_0m, cI_0, cI_s, rI_e, rI_k, rI_j, rI_l, rL_e, rL_k, rL_j, rL_i, told11, none11, refuse12, no11q, no12q, yes11q, if_true, if_false, ite_true, ite_false, ne_eq, not_true_eq_false, not_false_eq_true, Classical.not_not, Bool.not_eq_true, Bool.not_eq_false, reduceCtorEq, Nat.add_zero, Nat.zero_add, Nat.mul_zero, and_self, and_true, true_and, Bool.true_eq_false, Bool.false_eq_true, eq_self, g5]) (fun j hj => ?_) (fun j hj => ?_) ?_ g26 ?_
        · show (if 7 = 7 ∧ j = q then _ else τ.2 7 j) = _
          by_cases z : j = q
          · rw [if_pos ⟨rfl, z⟩, if_pos z]
          · rw [if_neg fun y => z y.2, if_neg z, g7 j hj]
        · exact g8 j hj
        · simp (disch := first | omega | assumption) only [lt_e, bn_s, ck_t, nk0, nk1, nk_b, bI_t, bI_f, L_0, L_1, L_2, L_3, L_4, L_5, L_6, L_7, L_8, L_9, L_10, L_11, L_12, L_15, L_20, L_25, L_30, L_45, L_60, L_65, L_69, L_74, L_79, L_84, L_85, L_86, L_99, L_100, L_255, L_300, L_356, L_900, L_1424, L_1425, L_1489, L_1510, L_9999, L_10000, nI_add, nI_mul, u_lt_t, u_lt_f, u_le_t, u_le_f, u_eq_t, u_eq_f, u_mlt, u_ltm, u_eqm, u_meq, u_mle, u_b0, u_b1, u_ix, u_cl, u_sub, u_suc, u_z0, u_0m, cI_0, cI_s, rI_e, rI_k, rI_j, rI_l, rL_e, rL_k, rL_j, rL_i, told11, none11, refuse12, no11q, no12q, yes11q, if_true, if_false, ite_true, ite_false, ne_eq, not_true_eq_false, not_false_eq_true, Classical.not_not, Bool.not_eq_true, Bool.not_eq_false, reduceCtorEq, Nat.add_zero, Nat.zero_add, Nat.mul_zero, and_self, and_true, true_and, Bool.true_eq_false, Bool.false_eq_true, eq_self]
          exact g25
        · intro τ' b5 b7 b8 b25 b26
          have xq : xv n X cc on h0 m q = 0 := by rw [xv_q (by omega), xA_blue hg m (by omega) q hgr]
          refine nx τ' b5 (fun j hj => ?_) (fun j hj => ?_) ?_ ?_
          · rw [b7 j hj, if_pos (rfl : q = q)]
            congr 1
            by_cases z : j = q
            · subst z
              rw [if_neg (by omega), if_pos (by rfl)]
              unfold wv
              rw [if_pos ⟨by omega, hyes⟩, ws, wstp_hi hoq]
            · rw [if_neg z]
              by_cases y : j + 1 = on q
              · rw [if_pos y, wv_q (by omega)]
                unfold wv
                rw [if_neg (by omega), ws, wstp_j hyes y.symm]
                show _ = if j = j then _ else _
                rw [if_pos (by rfl)]
              · rw [if_neg y]
                have e1 : (wA n X cc on (m + 1)).1 j = (wA n X cc on m).1 j := by
                  rw [ws]
                  unfold wstp
                  rw [if_pos hyes]
                  split
                  · rfl
                  · exact if_neg y
                unfold wv
                rw [e1]
                by_cases x : n - m ≤ j
                · by_cases w : X.testBit j = true ∧ cc j ≠ 2
                  · rw [if_pos ⟨x, w⟩, if_pos ⟨by omega, w⟩]
                  · rw [if_neg fun v => w v.2, if_neg fun v => w v.2]
                · rw [if_neg fun v => x v.1, if_neg fun v => by omega]
          · rw [b8 j hj, xq, Nat.xor_zero, ite_self]
            unfold xv
            rw [xs, xstp_no hno]
            by_cases z : j = q
            · rw [if_neg (by rw [z]; exact fun y => hgr y.2.2), if_neg (by rw [z]; exact fun y => hgr y.2.2)]
            · by_cases y : n - m ≤ j
              · by_cases x : X.testBit j = true ∧ cc j = 2
                · rw [if_pos ⟨y, x⟩, if_pos ⟨by omega, x⟩]
                · rw [if_neg fun v => x v.2, if_neg fun v => x v.2]
              · rw [if_neg fun v => y v.1, if_neg fun v => by omega]
          · rw [b25, if_pos (rfl : q = q), ws]
            unfold wstp
            rw [if_pos hyes]
            split
            · congr 1
              show _ = s + ((wA n X cc on m).2 + brw (cc q) ((wA n X cc on m).1 q))
              omega
            · rfl
          · rw [b26, xq, Nat.xor_zero, ite_self, xs, xstp_no hno]
    have hcq := hcc q hqn
    rw [has12 hP (by omega), bn_s]
    cases hp : P.testBit q
    · rw [hp] at hcq
      rw [if_pos (by rfl), show (5 : Int32) = nI 5 from rfl, nI_add, u_ix (show 5 + q < 1780 by omega) (by omega), ck_t, u_cl (show 5 + q < 2147483648 by omega), g5, ec, show col q = cc q from by rw [hcq]; rfl]
      exact go
    · rw [hp] at hcq
      rw [if_neg (by decide), has12 hR (by omega), bn_s]
      cases hr : R.testBit q
      · rw [hr] at hcq
        rw [if_pos (by rfl), show (0 : Int32) = nI (cc q) from by rw [hcq]; rfl]
        exact go
      · rw [hr] at hcq
        rw [if_neg (by decide), show (1 : Int32) = nI (cc q) from by rw [hcq]; rfl]
        exact go
