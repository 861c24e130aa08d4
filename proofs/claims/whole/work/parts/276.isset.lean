def okS (n S : Nat) (col : Nat → Nat) (P : Nat) : Prop := P < 2 ^ n ∧ pc P 20 ≤ 10 ∧ ∀ i, i < n → P.testBit i = true → S.testBit i = true ∧ col i ≠ 2
theorem okS_iff {n S P : Nat} {col : Nat → Nat} (hn : n ≤ 20) (hP : P < 2 ^ 20) (hc : pc P 20 ≤ 10) : okS n S col P ↔ ∀ i, i < 20 → P.testBit i = true → i < n ∧ S.testBit i = true ∧ col i ≠ 2 := by
  constructor
  · rintro ⟨h1, -, h3⟩ i hi hb
    have : i < n := Nat.lt_of_not_le fun z => by rw [bit_lt h1 z] at hb; exact absurd hb (by decide)
    exact ⟨this, h3 i this hb⟩
  · intro h
    refine ⟨lt_bits fun i hi => ?_, hc, fun i hi hb => (h i (by omega) hb).2⟩
    cases e : P.testBit i
    · rfl
    · rcases Nat.lt_or_ge i 20 with q | q
      · have := (h i q e).1
        omega
      · have z := bit_lt hP q
        rw [e] at z
        exact z
theorem hasWorth_out {h n i : Nat} {σ : Ms} (hn : n ≤ 20) (e : σ.1 h 5 = nI n) (hi : n ≤ i) (hi2 : i < 20) : F0_hasWorth h (nI i) σ = some (nI 0, σ) := by
  unfold F0_hasWorth
  rw [isStanding_out hn e (by rintro ⟨j, hj, z⟩; have := (nI_eq (by omega) (by omega)).mp z; omega), bn_s]
  try simp (disch := first | omega | assumption) only [lt_e, bn_s, ck_t, nk0, nk1, nk_b, bI_t, bI_f, L_0, L_1, L_2, L_3, L_4, L_5, L_6, L_7, L_8, L_9, L_10, L_11, L_12, L_15, L_20, L_25, L_30, L_45, L_60, L_65, L_69, L_74, L_79, L_84, L_85, L_86, L_99, L_100, L_255, L_300, L_356, L_900, L_1424, L_1425, L_1489, L_1510, L_9999, L_10000, nI_add, nI_mul, u_lt_t, u_lt_f, u_le_t, u_le_f, u_eq_t, u_eq_f, u_mlt, u_ltm, u_eqm, u_meq, u_mle, u_b0, u_b1, u_ix, u_cl, u_sub, u_suc, u_z0, u_0m, cI_0, cI_s, rI_e, rI_k, rI_j, rI_l, rL_e, rL_k, rL_j, rL_i, told11, none11, refuse12, no11q, no12q, yes11q, if_true, if_false, ite_true, ite_false, ne_eq, not_true_eq_false, not_false_eq_true, Classical.not_not, Bool.not_eq_true, Bool.not_eq_false, reduceCtorEq, Nat.add_zero, Nat.zero_add, Nat.mul_zero, and_self, and_true, true_and, Bool.true_eq_false, Bool.false_eq_true, eq_self]
theorem cSet_l {N n S P : Nat} {col on : Nat → Nat} {σ : Ms} (hN : 100 < N) (hW : WS n S col on) (hR : RS 22 n S col on σ) (hP : P < 2 ^ 20) : wp (F10_canBe_b23 N 22 (nI P) 0 σ) fun r τ => ((∀ i, i < 20 → P.testBit i = true → i < n ∧ S.testBit i = true ∧ col i ≠ 2) ∧ r = nI 1 ∧ τ = σ) ∨ ((¬ ∀ i, i < 20 → P.testBit i = true → i < n ∧ S.testBit i = true ∧ col i ≠ 2) ∧ r = nI 0 ∧ τ = σ) := by
  obtain ⟨hn, hS, hc⟩ := hW
  obtain ⟨r5, r6, rc⟩ := hR
  have hP31 : P < 2 ^ 31 := Nat.lt_trans hP (by decide)
  unfold F10_canBe_b23
  refine wp_fx (fun m x => ∃ i, i + m = 20 ∧ (∀ j, j < i → P.testBit j = true → j < n ∧ S.testBit j = true ∧ col j ≠ 2) ∧ x = (nI P, nI i, σ)) ?_ (n := 20) (by omega) ⟨0, by omega, fun j hj => absurd hj (Nat.not_lt_zero j), rfl⟩
  rintro m c _ ⟨i, hi, hg, rfl⟩ hcc
  dsimp only
  unfold F10_canBe_b23B F10_canBe_b47
  by_cases q : i = 20
  · subst q
    rw [if_pos (by decide)]
    exact wp_some.mpr (Or.inl ⟨hg, rfl, rfl⟩)
  rw [show (20 : Int32) = nI 20 from rfl, if_neg (nI_ge (by omega) (by omega)), isIn11 hP31 (by omega), bn_s]
  have go : (P.testBit i = true → i < n ∧ S.testBit i = true ∧ col i ≠ 2) → wp (c (nI P, nI i + 1, σ)) fun r τ => ((∀ i, i < 20 → P.testBit i = true → i < n ∧ S.testBit i = true ∧ col i ≠ 2) ∧ r = nI 1 ∧ τ = σ) ∨ ((¬ ∀ i, i < 20 → P.testBit i = true → i < n ∧ S.testBit i = true ∧ col i ≠ 2) ∧ r = nI 0 ∧ τ = σ) := fun hx => by
    rw [show (1 : Int32) = nI 1 from rfl, nI_add]
    refine hcc (m - 1) _ (by omega) ⟨i + 1, by omega, fun j hj hb => ?_, rfl⟩
    rcases Nat.eq_or_lt_of_le (show j ≤ i by omega) with rfl | h
    · exact hx hb
    · exact hg j h hb
  cases b : P.testBit i
  · rw [bI_f, if_pos (by rfl)]
    exact go fun z => absurd z (by rw [b]; decide)
  rw [bI_t, if_neg (by decide)]
  have bad : ¬ (i < n ∧ S.testBit i = true ∧ col i ≠ 2) → ¬ ∀ i, i < 20 → P.testBit i = true → i < n ∧ S.testBit i = true ∧ col i ≠ 2 := fun z y => z (y i (by omega) b)
  by_cases hin : i < n
  · rw [hasWorth_in hn hS r5 r6 hin (rc i hin).1 (hc i hin).1, bn_s]
    by_cases w : (S.testBit i && col i != 2) = true
    · rw [w, bI_t, if_pos (by decide)]
      refine go fun _ => ⟨hin, ?_⟩
      simpa using w
    · rw [Bool.eq_false_iff.mpr w, bI_f, if_neg (by decide)]
      exact wp_some.mpr (Or.inr ⟨bad fun z => w (by simp [z.2.1, z.2.2]), rfl, rfl⟩)
  · rw [hasWorth_out hn r5 (by omega) (by omega), bn_s, if_neg (by decide)]
    exact wp_some.mpr (Or.inr ⟨bad fun z => hin z.1, rfl, rfl⟩)
theorem cSet {N n S : Nat} {col on : Nat → Nat} {σ : Ms} (hN : 100 < N) (hW : WS n S col on) (hR : RS 22 n S col on σ) (p : Int32) : (∃ P, p = nI P ∧ okS n S col P ∧ F10_canBe N 22 p σ = some (nI 1, σ)) ∨ ((¬ ∃ P, P < 2 ^ 31 ∧ p = nI P ∧ okS n S col P) ∧ F10_canBe N 22 p σ = some (nI 0, σ)) := by
  have hn := hW.1
  have hp2 : 2 ^ n ≤ 2 ^ 20 := Nat.pow_le_pow_right (by decide) hn
  unfold F10_canBe
  by_cases h0 : p < 0
  · refine Or.inr ⟨?_, by rw [if_pos h0]; rfl⟩
    rintro ⟨P, hP, rfl, -⟩
    exact nI_pos hP h0
  obtain ⟨P, hP, rfl⟩ := nI_of h0
  have uniq : (∃ Q, Q < 2 ^ 31 ∧ nI P = nI Q ∧ okS n S col Q) → okS n S col P := by
    rintro ⟨Q, hQ, e, h⟩
    rw [(nI_eq hP hQ).mp e]
    exact h
  rw [if_neg h0]
  by_cases h1 : P < 2 ^ 20
  rotate_left
  · refine Or.inr ⟨fun z => ?_, by rw [show (1048576 : Int32) = nI 1048576 from rfl, if_pos (nI_le (by omega) hP)]; rfl⟩
    have := (uniq z).1
    omega
  have h1' : P < 1048576 := h1
  rw [show (1048576 : Int32) = nI 1048576 from rfl, if_neg (nI_ge h1' (by omega)), bitCount_ok h1, bn_s]
  have hpc := pc_le P 20
  by_cases h2 : pc P 20 ≤ 10
  rotate_left
  · refine Or.inr ⟨fun z => h2 (uniq z).2.1, by rw [show (10 : Int32) = nI 10 from rfl, if_neg (nI_ge (by omega) (by omega))]; rfl⟩
  rw [show (10 : Int32) = nI 10 from rfl, if_pos (nI_le h2 (by omega))]
  have hl := cSet_l hN hW hR h1
  obtain ⟨r, τ, e, h⟩ := hl
  rcases h with ⟨g, rfl, rfl⟩ | ⟨g, rfl, rfl⟩
  · exact Or.inl ⟨P, rfl, (okS_iff hn h1 h2).mpr g, e⟩
  · exact Or.inr ⟨fun z => g ((okS_iff hn h1 h2).mp (uniq z)), e⟩
theorem mSet_l {N n S P : Nat} {col on : Nat → Nat} {σ : Ms} (hN : 100 < N) (hW : WS n S col on) (hM : MS 0 n S col on σ) (hP : P < 2 ^ n) : wp (F12_isSet_b33 N (nI P) 0 σ) fun r τ => ((∀ i, i < n → P.testBit i = true → S.testBit i = true ∧ col i ≠ 2) ∧ r = nI 1 ∧ τ = σ) ∨ ((¬ ∀ i, i < n → P.testBit i = true → S.testBit i = true ∧ col i ≠ 2) ∧ r = nI 0 ∧ τ = σ) := by
  have hn := hW.1
  have h5 : σ.1 5 0 = nI n := hM.at0.1
  have hP31 : P < 2 ^ 31 := set_lt hP hn
  unfold F12_isSet_b33
  refine wp_fx (fun m x => ∃ i, i + m = n ∧ (∀ j, j < i → P.testBit j = true → S.testBit j = true ∧ col j ≠ 2) ∧ x = (nI P, nI i, σ)) ?_ (n := n) (by omega) ⟨0, by omega, fun j hj => absurd hj (Nat.not_lt_zero j), rfl⟩
  rintro m c _ ⟨i, hi, hg, rfl⟩ hcc
  dsimp only
  unfold F12_isSet_b33B F12_isSet_b62
  rw [show ixb (0 : Int32) 1780 = true by decide, ck_t, show (0 : Int32).toNatClampNeg = 0 by decide, h5]
  by_cases q : i = n
  · subst q
    rw [if_pos (nI_le (by omega) (by omega))]
    exact wp_some.mpr (Or.inl ⟨hg, rfl, rfl⟩)
  rw [if_neg (nI_ge (by omega) (by omega)), has12 hP31 (by omega), bn_s]
  have go : (P.testBit i = true → S.testBit i = true ∧ col i ≠ 2) → wp (c (nI P, nI i + 1, σ)) fun r τ => ((∀ i, i < n → P.testBit i = true → S.testBit i = true ∧ col i ≠ 2) ∧ r = nI 1 ∧ τ = σ) ∨ ((¬ ∀ i, i < n → P.testBit i = true → S.testBit i = true ∧ col i ≠ 2) ∧ r = nI 0 ∧ τ = σ) := fun hx => by
    rw [show (1 : Int32) = nI 1 from rfl, nI_add]
    refine hcc (m - 1) _ (by omega) ⟨i + 1, by omega, fun j hj hb => ?_, rfl⟩
    rcases Nat.eq_or_lt_of_le (show j ≤ i by omega) with rfl | h
    · exact hx hb
    · exact hg j h hb
  cases b : P.testBit i
  · rw [bI_f, if_pos (by rfl)]
    exact go fun z => absurd z (by rw [b]; decide)
  rw [bI_t, if_neg (by decide)]
  by_cases w : S.testBit i = true ∧ col i ≠ 2
  · rw [show (0 : Int32) = nI 0 from rfl, whyNo_in (c := 0) hW hM (by omega) (by decide) (by rw [if_pos ⟨w.1, by constructor <;> intro z <;> first | exact absurd z w.2 | exact absurd z (by decide)⟩]), bn_s, if_pos (by decide)]
    exact go fun _ => w
  · rw [show (0 : Int32) = nI 0 from rfl, whyNo_in (c := 9) hW hM (by omega) (by decide) (by rw [if_neg fun z => w ⟨z.1, fun y => absurd (z.2.mp y) (by decide)⟩]), bn_s, if_neg (by decide)]
    exact wp_some.mpr (Or.inr ⟨fun z => w (z i (by omega) b), rfl, rfl⟩)
theorem mSet {N n S : Nat} {col on : Nat → Nat} {σ : Ms} (hN : 100 < N) (hW : WS n S col on) (hM : MS 0 n S col on σ) (p : Int32) : (∀ P, P < 2 ^ 31 → p = nI P → okS n S col P → F12_isSet N p σ = some (nI 1, σ)) ∧ ((¬ ∃ P, P < 2 ^ 31 ∧ p = nI P ∧ okS n S col P) → F12_isSet N p σ = some (nI 0, σ)) := by
  have hn := hW.1
  have hp2 : 2 ^ n ≤ 2 ^ 20 := Nat.pow_le_pow_right (by decide) hn
  have hp0 : 0 < 2 ^ n := Nat.two_pow_pos n
  have hC : (((1 : Int32) <<< (nI n &&& 31)) - (1 : Int32)).toInt64.toInt = ((2 ^ n - 1 : Nat) : Int) := by
    rw [show (1 : Int32) = nI 1 from rfl, u_shl1 n (by omega), nI_sub (by omega), Int32.toInt_toInt64, nI_toInt (by omega)]
  have pre : ∀ P, P < 2 ^ n → F12_isSet N (nI P) σ = if nI (pc P 20) ≤ (10 : Int32) then F12_isSet_b33 N (nI P) (0 : Int32) σ else some ((0 : Int32), σ) := fun P hP => by
    unfold F12_isSet
    rw [show ixb (0 : Int32) 1780 = true by decide, ck_t, show (0 : Int32).toNatClampNeg = 0 by decide, hM.at0.1, isInN hC (set_lt hP hn), bn_s, decide_eq_true (by omega), bI_t, if_neg (by decide), sizeOf_ok (by omega) (set_lt hP hn), bn_s]
  constructor
  · rintro P hP rfl ⟨h1, h2, h3⟩
    rw [pre P h1, show (10 : Int32) = nI 10 from rfl, if_pos (nI_le h2 (by omega))]
    obtain ⟨r, τ, e, h⟩ := mSet_l hN hW hM h1
    rcases h with ⟨-, rfl, rfl⟩ | ⟨g, -, -⟩
    · exact e
    · exact absurd h3 g
  · intro h
    by_cases hp : ∃ P, P < 2 ^ n - 1 + 1 ∧ p = nI P
    · obtain ⟨P, hP, rfl⟩ := hp
      have hP : P < 2 ^ n := by omega
      rw [pre P hP]
      by_cases h2 : pc P 20 ≤ 10
      · rw [show (10 : Int32) = nI 10 from rfl, if_pos (nI_le h2 (by omega))]
        obtain ⟨r, τ, e, h'⟩ := mSet_l hN hW hM hP
        rcases h' with ⟨g, -, -⟩ | ⟨-, rfl, rfl⟩
        · exact absurd ⟨P, set_lt hP hn, rfl, hP, h2, g⟩ h
        · exact e
      · have := pc_le P 20
        rw [show (10 : Int32) = nI 10 from rfl, if_neg (nI_ge (by omega) (by omega))]
        rfl
    · unfold F12_isSet
      rw [show ixb (0 : Int32) 1780 = true by decide, ck_t, show (0 : Int32).toNatClampNeg = 0 by decide, hM.at0.1, isInO hC hp, bn_s, if_pos (by rfl)]
      rfl
