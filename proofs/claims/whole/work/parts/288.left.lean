theorem left_ok {N n S s : Nat} {col on : Nat → Nat} {σ : Ms} (hN : 100 < N) (hW : WS n S col on) (h6 : pc S 20 ≤ 6) (hR : RS 22 n S col on σ) (hs : s < 2) : wp (F7_oddsOfLeft N 22 (nI s) σ) fun r _ => ∀ D, pc S 20 < D → r = zL ((lk n col on D S s * Xw (pc S 20) : Nat) : Int) := by
  have hn := hW.1
  unfold F7_oddsOfLeft
  refine wp_bn.mpr (cGather_a hN hW hR h6 fun τ₀ f1 f2 f3 => wp_mono (cGather_b hN hW hR h6 f1 f2 f3) ?_)
  rintro _ τ₁ ⟨rfl, g1, -, g3⟩
  have hG : YG n S col on τ₁ := by
    obtain ⟨a1, a2, a3⟩ := hR
    exact ⟨⟨by rw [g1 _ _ (by decide) (by decide), a1], by rw [g1 _ _ (by decide) (by decide), a2], fun i hi => ⟨by rw [g1 _ _ (by decide) (by decide), (a3 i hi).1], by rw [g1 _ _ (by decide) (by decide), (a3 i hi).2]⟩⟩, g3⟩
  have hM : 2 ^ pc S 20 ≤ 64 := Nat.pow_le_pow_right (n := 2) (by decide) h6
  have hM0 : 0 < 2 ^ pc S 20 := Nat.two_pow_pos _
  rw [show (1 : Int32) = nI 1 from rfl, u_shl1 _ (by omega), nI_sub hM0, lt_e]
  unfold F7_oddsOfLeft_b16
  refine wp_fx (fun m x => ∃ T τ, T + m = 2 ^ pc S 20 ∧ x = (nI s, nI (2 ^ pc S 20 - 1), nI T, τ) ∧ YG n S col on τ ∧ ∀ T', T' < T → ∀ s', s' < 2 → ∃ x, τ.2 (107 + s') T' = zL ((x : Nat) : Int) ∧ PV n S col on T' s' x) ?_ (n := 2 ^ pc S 20) (by omega) ⟨0, τ₁, by omega, rfl, hG, fun T' h => absurd h (Nat.not_lt_zero _)⟩
  rintro m c _ ⟨T, τ, hT, rfl, hY, tab⟩ hc
  dsimp only
  unfold F7_oddsOfLeft_b16B F7_oddsOfLeft_b76
  by_cases q : T = 2 ^ pc S 20
  · have eA : ex S (2 ^ pc S 20 - 1) = S := bits_eq (n := 20) (ex_lt _ _) (Nat.lt_of_lt_of_le hW.2.1 (Nat.pow_le_pow_right (by decide) hn)) fun i hi => by
      rw [ex_bit hi]
      cases b : S.testBit i
      · rfl
      · rw [Nat.testBit_two_pow_sub_one, decide_eq_true (pc_lt hi b)]
        rfl
    have hcl : clo n on S := fun i hi j hj => ((hW.2.2 i hi).2.2 j hj).2
    have fin : wp (some (τ.2 (107 + s) (2 ^ pc S 20 - 1), τ)) fun r _ => ∀ D, pc S 20 < D → r = zL ((lk n col on D S s * Xw (pc S 20) : Nat) : Int) := by
      obtain ⟨x, e, hx⟩ := tab (2 ^ pc S 20 - 1) (by omega) s hs
      refine wp_some.mpr fun D hD => ?_
      have h2 := hx.2
      rw [eA] at h2
      rw [e, h2 hcl D hD]
    rw [if_pos (nI_lt (by omega) (by omega))]
    rcases (show s = 0 ∨ s = 1 by omega) with rfl | rfl
    · rw [if_neg (by exact fun z => z rfl), show ixb (0 : Int32) 2 = true by decide, ck_t, ixb_nI (by omega) (by omega), ck_t, nI_clamp (by omega)]
      exact fin
    · rw [if_pos (by decide), show ixb (1 : Int32) 2 = true by decide, ck_t, ixb_nI (by omega) (by omega), ck_t, nI_clamp (by omega)]
      exact fin
  obtain ⟨x0, e0, h0⟩ := oddsOf_ok (s := 0) hN hW h6 hY (by omega) (show T < 2 ^ pc S 20 by omega) tab
  have c107 : 107 + (0 : Int32).toNatClampNeg = 107 := by decide
  have c108 : 107 + (1 : Int32).toNatClampNeg = 108 := by decide
  have tab1 : ∀ T', T' < T → ∀ s', s' < 2 → ∃ x, (sL τ 107 T (zL ((x0 : Nat) : Int))).2 (107 + s') T' = zL ((x : Nat) : Int) ∧ PV n S col on T' s' x := fun T' h s' hs' => by
    obtain ⟨x, e, hx⟩ := tab T' h s' hs'
    refine ⟨x, ?_, hx⟩
    rw [← e]
    exact if_neg fun z => by omega
  obtain ⟨x1, e1, h1⟩ := oddsOf_ok (τ := sL τ 107 T (zL ((x0 : Nat) : Int))) (s := 1) hN hW h6 hY (by omega) (show T < 2 ^ pc S 20 by omega) tab1
  rw [if_neg (nI_nlt (by omega) (by omega)), show ixb (0 : Int32) 2 = true by decide, ck_t, show (0 : Int32) = nI 0 from rfl, e0, bn_s, ixb_nI (by omega) (by omega), ck_t, show 107 + (nI 0).toNatClampNeg = 107 by decide, u_cl (n := T) (by omega), lt_e, show ixb (1 : Int32) 2 = true by decide, ck_t, show (1 : Int32) = nI 1 from rfl]
  rw [e1, bn_s, ck_t, lt_e, show 107 + (nI 1).toNatClampNeg = 108 by decide, nI_add]
  refine hc (m - 1) _ (by omega) ⟨T + 1, _, by omega, rfl, hY, fun T' h s' hs' => ?_⟩
  by_cases z : T' = T
  · subst z
    rcases (show s' = 0 ∨ s' = 1 by omega) with rfl | rfl
    · exact ⟨x0, by rw [rL_k (by decide), rL_e rfl rfl], h0⟩
    · exact ⟨x1, if_pos ⟨rfl, rfl⟩, h1⟩
  · obtain ⟨x, e, hx⟩ := tab T' (by omega) s' hs'
    exact ⟨x, (if_neg fun y => z y.2).trans ((if_neg fun y => z y.2).trans e), hx⟩
