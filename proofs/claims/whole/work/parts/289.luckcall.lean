def LL (H : HG) : Prop := pc (gS H) 20 ≤ 6 ∧ gz H = 0 ∧ (∀ i, i < gk H → (gT H).testBit i = true) ∧ ∀ i, i < gm H → gh H i = 0
theorem z_0 {z : Int} (h : -1000 ≤ z ∧ z ≤ 1000) : Int32.ofInt z = nI 0 ↔ z = 0 := by
  constructor
  · intro e
    have := congrArg Int32.toInt64 e
    rw [zI_zL (by omega) (by omega), nI_zL (by omega)] at this
    exact (zL_inj (by omega) (by omega)).mp this
  · rintro rfl
    rfl
theorem cLL {N : Nat} {H : HG} {σ : Ms} (hN : 100 < N) (w : WG H) (c : CG 22 H σ) : wp (F7_leavesToLuck N 22 σ) fun r τ => ((LL H ∧ r = nI 1) ∨ (¬ LL H ∧ r = nI 0)) ∧ τ = σ := by
  have hS20 : gS H < 2 ^ 20 := Nat.lt_of_lt_of_le w.1.2.1 (Nat.pow_le_pow_right (by decide) w.n)
  have hpl := pc_le (gS H) 20
  unfold F7_leavesToLuck
  rw [c.1.2.1, bitCount_ok hS20, bn_s]
  by_cases q1 : pc (gS H) 20 ≤ 6
  rotate_left
  · rw [show (6 : Int32) = nI 6 from rfl, if_pos (nI_lt (by omega) (by omega))]
    exact wp_some.mpr ⟨Or.inr ⟨fun z => q1 z.1, rfl⟩, rfl⟩
  rw [show (6 : Int32) = nI 6 from rfl, if_neg (nI_nlt (by omega) (by omega)), c.2.2.2.2.1]
  by_cases q2 : gz H = 0
  rotate_left
  · rw [if_neg (by exact fun z => q2 ((z_0 w.z).mp z))]
    exact wp_some.mpr ⟨Or.inr ⟨fun z => q2 z.2.1, rfl⟩, rfl⟩
  rw [if_pos (by exact (z_0 w.z).mpr q2), c.2.2.2.1, cHot (by omega) w.2.2 c.2.2 (Nat.lt_trans w.T (by decide)), bn_s]
  have hk5 : gk H ≤ 5 := w.2.2.1
  have hle := hotb_le (gT H) (gl H) (gr H) (gk H)
  by_cases q3 : hotb (gT H) (gl H) (gr H) (gk H) = 0
  rotate_left
  · obtain ⟨b, hb⟩ : ∃ b, hotb (gT H) (gl H) (gr H) (gk H) = b + 1 := ⟨_, (Nat.sub_add_cancel (by omega)).symm⟩
    rw [hb, cI_s, if_neg (by exact fun z => (u_eqm (a := b) (by omega)).mp z)]
    refine wp_some.mpr ⟨Or.inr ⟨fun z => ?_, rfl⟩, rfl⟩
    exact q3 (hotb_all z.2.2.1)
  rw [q3, if_pos (by rfl)]
  have h3 := hotb_none q3
  obtain ⟨hm4, hh⟩ := w.2.1
  obtain ⟨r7, rh⟩ := c.2.1
  unfold F7_leavesToLuck_b37
  refine wp_fx (fun m x => ∃ i, i + m = 4 ∧ x = (nI i, σ) ∧ ∀ j, j < i → j < gm H → gh H j = 0) ?_ (n := 4) (by omega) ⟨0, by omega, rfl, fun j h => absurd h (Nat.not_lt_zero j)⟩
  rintro m k _ ⟨i, hi, rfl, g⟩ hk
  dsimp only
  unfold F7_leavesToLuck_b37B F7_leavesToLuck_b61
  by_cases e : i = 4
  · subst e
    rw [if_pos (by decide)]
    exact wp_some.mpr ⟨Or.inl ⟨⟨q1, q2, h3, fun j hj => g j (by omega) hj⟩, rfl⟩, rfl⟩
  rw [show (4 : Int32) = nI 4 from rfl, if_neg (nI_ge (by omega) (by omega)), show (1 : Int32) = nI 1 from rfl, nI_add]
  have go : (i < gm H → gh H i = 0) → wp (k (nI (i + 1), σ)) fun r τ => ((LL H ∧ r = nI 1) ∨ (¬ LL H ∧ r = nI 0)) ∧ τ = σ := fun hx => by
    refine hk (m - 1) _ (by omega) ⟨i + 1, by omega, rfl, fun j hj hjm => ?_⟩
    rcases Nat.eq_or_lt_of_le (show j ≤ i by omega) with rfl | h
    · exact hx hjm
    · exact g j h hjm
  by_cases y : i < gm H
  · rw [hasHeap_in' hm4 r7 y, bn_s, if_neg (by decide), ixb_nI (by omega) (by omega), ck_t, nI_clamp (by omega), rh i y]
    have := hh i y
    by_cases z : gh H i = 0
    · rw [z, if_pos (by decide)]
      exact go fun _ => z
    · rw [show (0 : Int32) = nI 0 from rfl, if_neg (nI_ge (by omega) (by omega))]
      exact wp_some.mpr ⟨Or.inr ⟨fun v => z (v.2.2.2 i y), rfl⟩, rfl⟩
  · rw [hasHeap_out' hm4 r7 (by rintro ⟨j, hj, v⟩; have := (nI_eq (by omega) (by omega)).mp v; omega), bn_s, if_pos (by rfl)]
    exact go fun v => absurd v y
theorem mLL_h {N s f : Nat} {H : HG} {τ : Ms} {Q : Int32 → Ms → Prop} (hN : 100 < N) (w : WG H) (mg : MG 0 H τ) (hs : s < 2) (hf : f ≤ 1) (hno : (f = 0 ∨ ∃ i, i < gm H ∧ gh H i ≠ 0) → Q (nI 0) (sI τ 0 0 (nI 9))) (hyes : f = 1 → (∀ i, i < gm H → gh H i = 0) → pc (gS H) 20 ≤ 6 ∧ Q (nI 1) (sL (sL τ 0 2 (zL (frT ((lk (gn H) (gc H) (go H) 7 (gS H) s : Nat) : Int) (wh (pc (gS H) 20))))) 0 3 (zL (frB ((lk (gn H) (gc H) (go H) 7 (gS H) s : Nat) : Int) (wh (pc (gS H) 20)))))) : wp (F12_luck_b69 N (nI s) (nI f) 0 τ) Q := by
  obtain ⟨hm4, hh⟩ := w.2.1
  obtain ⟨r1, rh⟩ := mg.2.1.at0
  unfold F12_luck_b69
  refine wp_fx (fun m x => ∃ i g, i + m = gm H ∧ g ≤ 1 ∧ x = (nI s, nI g, nI i, τ) ∧ (g = 1 → f = 1 ∧ ∀ j, j < i → gh H j = 0) ∧ (g = 0 → f = 0 ∨ ∃ j, j < gm H ∧ gh H j ≠ 0)) ?_ (n := gm H) (by omega) ⟨0, f, by omega, hf, rfl, fun z => ⟨z, fun j h => absurd h (Nat.not_lt_zero j)⟩, fun z => Or.inl z⟩
  rintro m k _ ⟨i, g, hi, hg, rfl, g1, g0⟩ hk
  dsimp only
  unfold F12_luck_b69B F12_luck_b99 F12_luck_b100
  rw [show ixb (1 : Int32) 1780 = true by decide, ck_t, show (1 : Int32).toNatClampNeg = 1 by decide, r1]
  rcases (show g = 0 ∨ g = 1 by omega) with rfl | rfl
  · by_cases e : i = gm H
    · rw [if_pos (nI_le (by omega) (by omega)), if_pos (by rfl), show (9 : Int32) = nI 9 from rfl, no12q, bn_s, show nkB (nI 0) = true by decide, ck_t]
      exact wp_some.mpr (hno (g0 rfl))
    · rw [if_neg (nI_ge (by omega) (by omega)), if_pos (by rfl), show (1 : Int32) = nI 1 from rfl, nI_add]
      exact hk (m - 1) _ (by omega) ⟨i + 1, 0, by omega, by omega, rfl, fun z => absurd z (by decide), g0⟩
  · obtain ⟨h1, h2⟩ := g1 rfl
    by_cases e : i = gm H
    · obtain ⟨h6, hq⟩ := hyes h1 (fun j hj => h2 j (by omega))
      have hl := lk_le (col := gc H) w.o w.n 7 (gS H) s (by omega)
      have hw := wh_6 _ h6
      rw [if_pos (nI_le (by omega) (by omega)), if_neg (by decide), standing_ok (by omega) w.1 mg.1, bn_s, mLuck hN w.1 mg.1 7 _ s w.S hs h6 (by omega), bn_s, standing_ok (by omega) w.1 mg.1, bn_s, sizeOf_ok (by omega) w.S, bn_s, whole_ok (by omega) h6, bn_s, fr12 hN (by omega) (by omega) (by omega) hw.2, bn_s, show nkB (nI 1) = true by decide, ck_t]
      exact wp_some.mpr hq
    · have := hh i (by omega)
      rw [if_neg (nI_ge (by omega) (by omega)), if_neg (by decide), show (65 : Int32) = nI 65 from rfl, nI_add, ixb_nI (by omega) (by omega), ck_t, nI_clamp (by omega), rh i (by omega), show (1 : Int32) = nI 1 from rfl, nI_add]
      by_cases z : gh H i = 0
      · rw [z, if_neg (by exact fun v => v rfl)]
        refine hk (m - 1) _ (by omega) ⟨i + 1, 1, by omega, by omega, rfl, fun _ => ⟨h1, fun j hj => ?_⟩, fun v => absurd v (by decide)⟩
        rcases Nat.eq_or_lt_of_le (show j ≤ i by omega) with rfl | h
        · exact z
        · exact h2 j h
      · rw [if_pos (by exact fun v => z ((nI_eq (b := 0) (by omega) (by omega)).mp v))]
        exact hk (m - 1) _ (by omega) ⟨i + 1, 0, by omega, by omega, rfl, fun v => absurd v (by decide), fun _ => Or.inr ⟨i, by omega, z⟩⟩
