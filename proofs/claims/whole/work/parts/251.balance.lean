/-- what is left when a set of sprigs is cut -/
theorem stb_union {n S X : Nat} {col on : Nat → Nat} (hW : WS n S col on) : ∀ i, i < n → ((stb n S X on).testBit i = true ↔ S.testBit i = true ∧ ∀ j, j < n → X.testBit j = true → (brs n S on j).testBit i = false) := by
  intro i
  induction i using Nat.strongRecOn with
  | ind i ih =>
    intro hi
    obtain ⟨-, ho, hd⟩ := hW.2.2 i hi
    rw [stb_bit hi ho]
    cases hs : S.testBit i
    · simp
    cases hx : X.testBit i
    rotate_left
    · simp only [Bool.not_true, Bool.and_false, Bool.false_and, Bool.false_eq_true, false_iff, true_and]
      intro h
      have := h i hi hx
      rw [brs_bit hi ho, hs] at this
      simp at this
    simp only [Bool.not_false, Bool.and_self, Bool.true_and, true_and]
    have hb : ∀ j, j < n → X.testBit j = true → (brs n S on j).testBit i = (decide (j < i) && on i != 0 && (brs n S on j).testBit (on i - 1)) := fun j hj hxj => by
      rw [brs_bit hi ho, hs]
      have : (i == j) = false := by
        rw [beq_eq_false_iff_ne]
        rintro rfl
        rw [hx] at hxj
        cases hxj
      rw [this, Bool.true_and, Bool.false_or]
    cases hoi : on i with
    | zero =>
      simp only [beq_self_eq_true, Bool.true_or, true_iff]
      intro j hj hxj
      rw [hb j hj hxj, hoi]
      simp
    | succ k =>
      have e1 : ((k + 1 : Nat) == 0) = false := rfl
      rw [e1, Bool.false_or, Nat.add_sub_cancel, ih k (by omega) (by omega)]
      constructor
      · rintro ⟨-, h⟩ j hj hxj
        rw [hb j hj hxj, hoi, Nat.add_sub_cancel, h j hj hxj, Bool.and_false]
      · intro h
        refine ⟨(hd k hoi).2 hs, fun j hj hxj => ?_⟩
        have := h j hj hxj
        rw [hb j hj hxj, hoi, Nat.add_sub_cancel] at this
        by_cases q : j < i
        · rw [decide_eq_true q] at this
          simpa using this
        · exact brs_ge (by omega)
def balB (H : HG) (X : Nat) : Bool := decide (dif X (gS H) = 0) && decide (gw H (stb (gn H) (gS H) X (go H)) = 0) && decide (gx H (stb (gn H) (gS H) X (go H)) = 0)
theorem dif_0 {X S : Nat} (h : dif X S = 0) {i : Nat} (hi : X.testBit i = true) : S.testBit i = true := by
  have := congrArg (fun z => z.testBit i) h
  simp only [dif_bit, Nat.zero_testBit, hi, Bool.true_and, Bool.not_eq_false'] at this
  exact this
theorem mBal {N X : Nat} {H : HG} {σ : Ms} (hN : 30 < N) (w : WG H) (c : MG 0 H σ) (hX : X < 2 ^ 31) : wp (F12_isBalanced N (nI X) σ) fun r τ => r = bI (balB H X) ∧ MG 0 H τ ∧ Fr W12_laysWorths σ τ := by
  have hS := w.S
  have hR : stb (gn H) (gS H) X (go H) < 2 ^ 31 := set_lt (stb_lt _ _ _ _) w.n
  have ha := gw_abs w (stb (gn H) (gS H) X (go H))
  have hx := gx_lt w (stb (gn H) (gS H) X (go H))
  have hdl : dif X (gS H) < 2 ^ 31 := dif_lt hX
  unfold F12_isBalanced
  rw [standing_ok (by omega) w.1 c.1, bn_s, u_dif]
  unfold balB
  by_cases q : dif X (gS H) = 0
  rotate_left
  · rw [if_neg (by exact fun z => q ((nI_eq (b := 0) hdl (by omega)).mp z)), decide_eq_false q]
    exact wp_some.mpr ⟨rfl, c, Fr_rfl _ _⟩
  rw [if_pos (by rw [q]; rfl), standing_ok (by omega) w.1 c.1, bn_s, standsBut_ok (by omega) w.1 c.1 hS hX, bn_s, show (0 : Int32) = nI 0 from rfl, decide_eq_true q]
  refine wp_bn.mpr (wp_mono (mWorth (by omega) w c hR) ?_)
  rintro _ τ hL
  have c1 := c.mv hL.five
  rw [hL.1, Z0_z]
  by_cases y : gw H (stb (gn H) (gS H) X (go H)) = 0
  rotate_left
  · rw [if_pos (by exact fun z => y ((zL_eq (by omega) (by omega)).mp z)), decide_eq_false y]
    exact wp_some.mpr ⟨rfl, c1, hL.2.2.2.2⟩
  rw [if_neg (by exact fun z => z ((zL_eq (by omega) (by omega)).mpr y)), decide_eq_true y, hL.2.1]
  by_cases x : gx H (stb (gn H) (gS H) X (go H)) = 0
  · rw [if_neg (by exact fun z => z (by rw [x])), decide_eq_true x]
    exact wp_some.mpr ⟨rfl, c1, hL.2.2.2.2⟩
  · rw [if_pos (by exact fun z => x ((nI_eq (b := 0) (by omega) (by omega)).mp z)), decide_eq_false x]
    exact wp_some.mpr ⟨rfl, c1, hL.2.2.2.2⟩
/-- the branches, laid ahead -/
def BR (H : HG) (σ : Ms) : Prop := ∀ i, i < gn H → σ.1 103 i = nI (brs (gn H) (gS H) (go H) i)
theorem cBal {N X : Nat} {H : HG} {σ : Ms} (hN : 30 < N) (w : WG H) (c : CG 22 H σ) (hb : BR H σ) (hX : X < 2 ^ gn H) (hs : dif X (gS H) = 0) : wp (F7_balances N 22 (nI X) σ) fun r τ => r = bI (balB H X) ∧ CG 22 H τ ∧ BR H τ ∧ Fr (W7_balances 22) σ τ := by
  refine wp_mono (wp_fr (P := fun r τ => r = bI (balB H X) ∧ CG 22 H τ ∧ BR H τ) ?_ (fr_F7_balances 22 N (nI X) σ)) fun r τ hh => ⟨hh.1.1, hh.1.2.1, hh.1.2.2, hh.2⟩
  have hn := w.n
  have hS := w.S
  have hX31 : X < 2 ^ 31 := set_lt hX hn
  unfold F7_balances F7_balances_b8
  rw [lt_e, c.1.2.1]
  -- what is left after the first i
  refine wp_fx (fun k x => ∃ i R, i + k = 20 ∧ x = (nI X, nI R, nI i, σ) ∧ R < 2 ^ gn H ∧ ∀ a, a < gn H → (R.testBit a = true ↔ (gS H).testBit a = true ∧ ∀ j, j < i → X.testBit j = true → (brs (gn H) (gS H) (go H) j).testBit a = false)) ?_ (n := 20) (by omega) ⟨0, gS H, by omega, rfl, w.1.2.1, fun a ha => ⟨fun h => ⟨h, fun j hj => absurd hj (Nat.not_lt_zero j)⟩, fun h => h.1⟩⟩
  rintro k co _ ⟨i, R, hi, rfl, hR, hr⟩ hc
  simp only
  unfold F7_balances_b8B F7_balances_b36
  have hR31 : R < 2 ^ 31 := set_lt hR hn
  by_cases q : 20 ≤ i
  · have ei : i = 20 := by omega
    subst ei
    have eR : R = stb (gn H) (gS H) X (go H) := bits_eq hR (stb_lt _ _ _ _) fun a ha => by
      have h1 := hr a ha
      have h2 := stb_union (X := X) w.1 a ha
      have h3 : R.testBit a = true ↔ (stb (gn H) (gS H) X (go H)).testBit a = true := by
        rw [h1, h2]
        exact ⟨fun z => ⟨z.1, fun j hj => z.2 j (by omega)⟩, fun z => ⟨z.1, fun j hj hx => z.2 j (bit_of hX hx) hx⟩⟩
      cases e1 : R.testBit a <;> cases e2 : (stb (gn H) (gS H) X (go H)).testBit a <;> simp [e1, e2] at h3 ⊢
    have ha := gw_abs w R
    have hx := gx_lt w R
    rw [if_pos (by decide)]
    refine wp_bn.mpr (wp_mono (cWorth (by omega) w c hR31) ?_)
    rintro _ τ ⟨rfl, e1, -, e3⟩
    have c1 := c.mv1 e1
    have b1 : BR H τ := fun i hi => by rw [e1]; exact hb i hi
    unfold balB
    rw [decide_eq_true hs, ← eR, Z0_z]
    by_cases y : gw H R = 0
    rotate_left
    · rw [if_pos (by exact fun z => y (by have := (zL_eq (by omega) (by omega)).mp z; omega)), decide_eq_false y]
      exact wp_some.mpr ⟨rfl, c1, b1⟩
    rw [if_neg (by exact fun z => z ((zL_eq (by omega) (by omega)).mpr (by omega))), decide_eq_true y]
    refine wp_bn.mpr (wp_mono (cNim (by omega) w c1 hR31) ?_)
    rintro _ τ2 ⟨rfl, f1, -, f3⟩
    have c2 : CG 22 H τ2 := c1.mv (fun j _ _ => f3 _ _ (by omega)) (fun k j h1 h2 => f3 _ _ (by omega))
    have b2 : BR H τ2 := fun i hi => by rw [f3 _ _ (by omega)]; exact b1 i hi
    by_cases x : gx H R = 0
    · rw [if_neg (by exact fun z => z (by rw [x]; rfl)), decide_eq_true x]
      exact wp_some.mpr ⟨rfl, c2, b2⟩
    · rw [if_pos (by exact fun z => x ((nI_eq (b := 0) (by omega) (by omega)).mp z)), decide_eq_false x]
      exact wp_some.mpr ⟨rfl, c2, b2⟩
  rw [if_neg (by exact fun z => q ((lit_le (c := 20) 20 rfl (by omega) (by omega)).mp z)), isIn11 hX31 (by omega), bn_s]
  cases hx : X.testBit i
  · rw [if_pos (by rfl)]
    first | rw [nI_1] | rw [nI_add] | skip
    refine hc (k - 1) _ (by omega) ⟨i + 1, R, by omega, rfl, hR, fun a ha => ?_⟩
    rw [hr a ha]
    exact ⟨fun z => ⟨z.1, fun j hj hxj => z.2 j (by
      by_cases e : j = i
      · subst e; rw [hx] at hxj; cases hxj
      · omega) hxj⟩, fun z => ⟨z.1, fun j hj hxj => z.2 j (by omega) hxj⟩⟩
  · have hin : i < gn H := bit_of hX hx
    rw [if_neg (by decide), u_ix (show i < 20 by omega) (by omega), ck_t, lt_e, u_cl (by omega), hb i hin, u_dif]
    first | rw [nI_1] | rw [nI_add] | skip
    refine hc (k - 1) _ (by omega) ⟨i + 1, _, by omega, rfl, dif_lt hR, fun a ha => ?_⟩
    rw [dif_bit, Bool.and_eq_true, hr a ha, Bool.not_eq_true']
    constructor
    · rintro ⟨⟨h1, h2⟩, h3⟩
      refine ⟨h1, fun j hj hxj => ?_⟩
      by_cases e : j = i
      · rw [e]; exact h3
      · exact h2 j (by omega) hxj
    · rintro ⟨h1, h2⟩
      exact ⟨⟨h1, fun j hj hxj => h2 j (by omega) hxj⟩, h2 i (by omega) hx⟩
