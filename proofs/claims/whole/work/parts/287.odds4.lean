theorem dif_less {n S T k : Nat} {on : Nat → Nat} (hk : k < n) (hn : n ≤ 20) (ho : on k ≤ k) (hS : S.testBit k = true) (hT : T.testBit (pc S k) = true) : dif T (fal n S on k (pc S 20)) < T := by
  have h1 : (fal n S on k (pc S 20)).testBit (pc S k) = true := by
    rw [fal_bit (by omega) hS (pc_lt (by omega) hS), brs_bit hk ho, hS]
    simp
  refine Nat.lt_of_le_of_ne ?_ fun z => ?_
  · unfold dif
    have : T ^^^ (T &&& fal n S on k (pc S 20)) = T &&& (T ^^^ (T &&& fal n S on k (pc S 20))) := by
      apply Nat.eq_of_testBit_eq
      intro i
      rw [Nat.testBit_and, Nat.testBit_xor, Nat.testBit_and]
      cases T.testBit i <;> rfl
    rw [this]
    exact Nat.and_le_left
  · have := dif_bit T (fal n S on k (pc S 20)) (pc S k)
    rw [z, hT, h1] at this
    exact absurd this (by decide)
def YG (n S : Nat) (col on : Nat → Nat) (τ : Ms) : Prop := RS 22 n S col on τ ∧ ∀ j, j < 20 → S.testBit j = true → τ.1 104 (pc S j) = nI j ∧ τ.1 105 (pc S j) = nI (fal n S on j (pc S 20))
theorem oddsOf_ok {N n S T s : Nat} {col on : Nat → Nat} {τ : Ms} (hN : 100 < N) (hW : WS n S col on) (h6 : pc S 20 ≤ 6) (hG : YG n S col on τ) (hs : s < 2) (hT : T < 2 ^ pc S 20) (tab : ∀ T', T' < T → ∀ s', s' < 2 → ∃ x, τ.2 (107 + s') T' = zL ((x : Nat) : Int) ∧ PV n S col on T' s' x) : ∃ x, F7_oddsOf N 22 (nI T) (nI s) τ = some (zL ((x : Nat) : Int), τ) ∧ PV n S col on T s x := by
  have hn := hW.1
  obtain ⟨hR, hg⟩ := hG
  have hT64 : T < 64 := Nat.lt_of_lt_of_le hT (Nat.pow_le_pow_right (n := 2) (by decide) h6)
  have main : wp (F7_oddsOf N 22 (nI T) (nI s) τ) fun r τ' => (∃ x, r = zL ((x : Nat) : Int) ∧ PV n S col on T s x) ∧ τ' = τ := by
    unfold F7_oddsOf F7_oddsOf_b9
    refine wp_fx (fun m x => ∃ i k cuts sum, i + m = 6 ∧ k ≤ 20 ∧ (i ≤ pc S 20 → pc S k = i) ∧ (pc S 20 < i → k = 20) ∧ cuts ≤ i ∧ OS n S col on T s k cuts sum ∧ x = (nI T, nI s, zL ((sum : Nat) : Int), nI cuts, nI i, τ)) ?_ (n := 6) (by omega) ⟨0, 0, 0, 0, by omega, by omega, fun _ => rfl, fun z => absurd z (Nat.not_lt_zero _), Nat.le_refl _, ⟨Nat.le_refl _, fun _ D _ => ⟨rfl, by show 0 = 0 * _; omega⟩⟩, rfl⟩
    rintro m c _ ⟨i, k, cuts, sum, him, hk, hpk, hk20, hc6, hO, rfl⟩ hcc
    dsimp only
    unfold F7_oddsOf_b9B F7_oddsOf_b72
    have hsum := hO.1
    by_cases q : i = 6
    · subst q
      have hO20 : OS n S col on T s 20 cuts sum := by
        by_cases z : 6 ≤ pc S 20
        · exact OS_k hO (by rw [hpk z]; omega)
        · rw [← hk20 (by omega)]
          exact hO
      have hE := OS_end hW h6 hO20 hs
      rw [if_pos (by decide)]
      by_cases z : cuts = 0
      · rw [if_pos z] at hE
        rw [z, if_pos (by decide)]
        by_cases s0 : s = 0
        · rw [if_pos s0] at hE
          rw [s0, if_neg (by exact fun y => y rfl)]
          rw [s0] at hE
          exact wp_some.mpr ⟨⟨0, rfl, hE⟩, rfl⟩
        · rw [if_neg s0] at hE
          rw [if_pos (by exact fun y => s0 ((nI_eq (b := 0) (by omega) (by omega)).mp y))]
          exact wp_some.mpr ⟨⟨46656000000, by decide, hE⟩, rfl⟩
      · rw [if_neg z] at hE
        have ne : (!((zL ((cuts : Nat) : Int)) == 0)) = true := by
          rw [Z0_z]
          have : ¬ zL ((cuts : Nat) : Int) = zL 0 := fun y => by
            have := (zL_inj (by omega) (by omega)).mp y
            omega
          simpa using this
        have hms : cuts * 46656000000 ≤ 6 * 46656000000 := Nat.mul_le_mul_right _ hc6
        rw [show (0 : Int32) = nI 0 from rfl, if_neg (nI_ge (by omega) (by omega)), nI_zL (by omega), ne, ck_t, zL_divn (by omega) (by omega) (by omega)]
        exact wp_some.mpr ⟨⟨sum / cuts, rfl, hE⟩, rfl⟩
    rw [show (6 : Int32) = nI 6 from rfl, if_neg (nI_ge (by omega) (by omega)), isIn11 (Nat.lt_trans hT64 (by decide)) (by omega), bn_s, show (1 : Int32) = nI 1 from rfl, nI_add, nI_add]
    by_cases hi : i < pc S 20
    rotate_left
    · have b : T.testBit i = false := bit_lt hT (by omega)
      rw [b, bI_f, if_pos (by rfl)]
      refine hcc (m - 1) _ (by omega) ⟨i + 1, 20, cuts, sum, by omega, Nat.le_refl _, fun z => by omega, fun _ => rfl, by omega, ?_, rfl⟩
      by_cases z : i ≤ pc S 20
      · exact OS_k hO (by rw [hpk z]; omega)
      · rw [← hk20 (by omega)]
        exact hO
    obtain ⟨k0, hk0, hS, e⟩ := pc_surj hi
    have hkn : k0 < n := Nat.lt_of_not_le fun z => by rw [bit_lt hW.2.1 z] at hS; exact absurd hS (by decide)
    have hO0 : OS n S col on T s k0 cuts sum := OS_k hO (by rw [hpk (by omega), e])
    have hp1 : pc S (k0 + 1) = i + 1 := by
      show pc S k0 + (S.testBit k0).toNat = _
      rw [hS, e]
      rfl
    have hnext : ∀ cuts' sum', cuts' ≤ i + 1 → OS n S col on T s (k0 + 1) cuts' sum' → ∃ i' k' cuts'' sum'', i' + (m - 1) = 6 ∧ k' ≤ 20 ∧ (i' ≤ pc S 20 → pc S k' = i') ∧ (pc S 20 < i' → k' = 20) ∧ cuts'' ≤ i' ∧ OS n S col on T s k' cuts'' sum'' ∧ (nI T, nI s, zL ((sum' : Nat) : Int), nI cuts', nI (i + 1), τ) = (nI T, nI s, zL ((sum'' : Nat) : Int), nI cuts'', nI i', τ) := fun cuts' sum' h1 h2 => ⟨i + 1, k0 + 1, cuts', sum', by omega, by omega, fun _ => hp1, fun z => by omega, h1, h2, rfl⟩
    have hbit : (ex S T).testBit k0 = T.testBit i := by
      rw [ex_bit hk0, hS, e]
      rfl
    cases b : T.testBit i
    · rw [bI_f, if_pos (by rfl)]
      exact hcc (m - 1) _ (by omega) (hnext _ _ (by omega) (OS_no hO0 hk0 (by rw [hbit, b]; exact fun z => absurd z.1 (by decide))))
    obtain ⟨a1, a2⟩ := hg k0 hk0 hS
    rw [e] at a1 a2
    rw [bI_t, if_neg (by decide), ixb_nI (by omega) (by omega), ck_t, nI_clamp (by omega), a1, mayCut_in hn hW.2.1 hR.1 hR.2.1 hkn (hR.2.2 k0 hkn).1 (hW.2.2 k0 hkn).1 hs, bn_s, hS]
    by_cases y : col k0 = 1 - s
    · have : (true && col k0 != 1 - s) = false := by rw [y]; simp
      rw [this, bI_f, if_neg (by exact fun z => z rfl)]
      exact hcc (m - 1) _ (by omega) (hnext _ _ (by omega) (OS_no hO0 hk0 fun z => z.2 y))
    have : (true && col k0 != 1 - s) = true := by simpa using y
    have hlt := dif_less (T := T) hkn hn (hW.2.2 k0 hkn).2.1 hS (by rw [e]; exact b)
    obtain ⟨x, hx, hPV⟩ := tab _ hlt (1 - s) (by omega)
    rw [this, bI_t, if_pos (by decide), other_ok hs, bn_s, ixb_nI (by omega) (by omega), ck_t, ck_t, a2, show -nI 1 = (-1 : Int32) from rfl, u_dif, ixb_nI (by omega) (by omega), ck_t, nI_clamp (by omega), nI_clamp (by omega), hx, zL_add, lt_e, ← Int.natCast_add]
    exact hcc (m - 1) _ (by omega) (hnext _ _ (by omega) (OS_yes hW h6 hO0 hk0 ⟨by rw [hbit, b], y⟩ hPV))
  obtain ⟨r, τ', e, ⟨x, rfl, hx⟩, rfl⟩ := main
  exact ⟨x, e, hx⟩
