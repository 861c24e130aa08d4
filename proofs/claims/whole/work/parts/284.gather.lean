/-- of a set of the numbers of members, the members -/
def ex (S T : Nat) : Nat := pass (fun _ j => S.testBit j && T.testBit (pc S j)) 20
theorem ex_bit {S T j : Nat} (hj : j < 20) : (ex S T).testBit j = (S.testBit j && T.testBit (pc S j)) := pass_bit _ hj
theorem ex_lt (S T : Nat) : ex S T < 2 ^ 20 := pass_lt _ 20
theorem pc_lt {S j : Nat} (hj : j < 20) (h : S.testBit j = true) : pc S j < pc S 20 := by
  have h1 : pc S (j + 1) = pc S j + (S.testBit j).toNat := rfl
  rw [h] at h1
  have := pc_mono S (show j + 1 ≤ 20 by omega)
  have h2 : (true).toNat = 1 := rfl
  omega
theorem pc_surj {S : Nat} : ∀ {m i : Nat}, i < pc S m → ∃ k, k < m ∧ S.testBit k = true ∧ pc S k = i
  | 0, i, h => absurd h (Nat.not_lt_zero i)
  | m + 1, i, h => by
    have e : pc S (m + 1) = pc S m + (S.testBit m).toNat := rfl
    by_cases q : i < pc S m
    · obtain ⟨k, h1, h2, h3⟩ := pc_surj q
      exact ⟨k, by omega, h2, h3⟩
    · cases b : S.testBit m
      · rw [b] at e
        have : (false).toNat = 0 := rfl
        omega
      · rw [b] at e
        have : (true).toNat = 1 := rfl
        exact ⟨m, by omega, b, by omega⟩
theorem pc_inj {S : Nat} {j k : Nat} (hj : S.testBit j = true) (hk : S.testBit k = true) (h : pc S j = pc S k) : j = k := by
  have go : ∀ {a b : Nat}, a < b → S.testBit a = true → pc S a ≠ pc S b := fun {a b} hab ha z => by
    have h1 : pc S (a + 1) = pc S a + (S.testBit a).toNat := rfl
    rw [ha] at h1
    have h2 : (true).toNat = 1 := rfl
    have := pc_mono S (show a + 1 ≤ b by omega)
    omega
  rcases Nat.lt_trichotomy j k with q | q | q
  · exact absurd h (go q hj)
  · exact q
  · exact absurd h.symm (go q hk)
/-- falling with each: as the class numbers them -/
def fal (n S : Nat) (on : Nat → Nat) (k : Nat) : Nat → Nat := pass fun _ i => (List.range 20).any fun j => S.testBit j && pc S j == i && (brs n S on k).testBit j
theorem fal_bit {n S k j m : Nat} {on : Nat → Nat} (hj : j < 20) (h : S.testBit j = true) (hm : pc S j < m) : (fal n S on k m).testBit (pc S j) = (brs n S on k).testBit j := by
  unfold fal
  rw [pass_bit _ hm]
  cases b : (brs n S on k).testBit j
  · refine Bool.eq_false_iff.mpr fun z => ?_
    obtain ⟨i, _, h2⟩ := List.any_eq_true.mp z
    rw [Bool.and_eq_true, Bool.and_eq_true] at h2
    have := pc_inj h2.1.1 h (by simpa using h2.1.2)
    rw [this, b] at h2
    exact absurd h2.2 (by decide)
  · refine List.any_eq_true.mpr ⟨j, List.mem_range.mpr hj, ?_⟩
    rw [h, b]
    simp
theorem cGather_a {N n S : Nat} {col on : Nat → Nat} {σ : Ms} (hN : 100 < N) (hW : WS n S col on) (hR : RS 22 n S col on σ) (h6 : pc S 20 ≤ 6) {Q : Int32 → Ms → Prop} (hq : ∀ τ, (∀ k j, k ≠ 104 → τ.1 k j = σ.1 k j) → τ.2 = σ.2 → (∀ j, j < 20 → S.testBit j = true → τ.1 104 (pc S j) = nI j) → wp (F7_gather_b43 N 22 (nI (pc S 20)) τ) Q) : wp (F7_gather N 22 σ) Q := by
  have hn := hW.1
  unfold F7_gather F7_gather_b4
  refine wp_fx (fun m x => ∃ i τ, i + m = 20 ∧ x = (nI (pc S i), nI i, τ) ∧ (∀ k j, k ≠ 104 → τ.1 k j = σ.1 k j) ∧ τ.2 = σ.2 ∧ ∀ j, j < i → S.testBit j = true → τ.1 104 (pc S j) = nI j) ?_ (n := 20) (by omega) ⟨0, σ, by omega, rfl, fun _ _ _ => rfl, rfl, fun j hj => absurd hj (Nat.not_lt_zero j)⟩
  rintro m c _ ⟨i, τ, hi, rfl, g1, g2, g3⟩ hc
  dsimp only
  unfold F7_gather_b4B F7_gather_b37
  have hle := pc_mono S (show i ≤ 20 by omega)
  by_cases q : i = 20
  · subst q
    rw [if_pos (by decide)]
    exact hq τ g1 g2 g3
  rw [show (20 : Int32) = nI 20 from rfl, if_neg (nI_ge (by omega) (by omega)), show (6 : Int32) = nI 6 from rfl]
  by_cases y : pc S i = 6
  · rw [if_pos (nI_le (by omega) (by omega))]
    have e : pc S i = pc S 20 := by omega
    rw [e]
    refine hq τ g1 g2 fun j hj hb => ?_
    by_cases z : j < i
    · exact g3 j z hb
    · have := pc_lt hj hb
      have := pc_mono S (show i ≤ j by omega)
      omega
  rw [if_neg (nI_ge (by omega) (by omega)), show (1 : Int32) = nI 1 from rfl, nI_add, nI_add]
  have st : F0_isStanding 22 (nI i) τ = some (bI (S.testBit i), τ) := by
    by_cases z : i < n
    · exact isStanding_in hn hW.2.1 (by rw [g1 _ _ (by decide)]; exact hR.1) (by rw [g1 _ _ (by decide)]; exact hR.2.1) z
    · rw [bit_lt hW.2.1 (by omega)]
      exact isStanding_out hn (by rw [g1 _ _ (by decide)]; exact hR.1) (by rintro ⟨j, hj, e⟩; have := (nI_eq (by omega) (by omega)).mp e; omega)
  rw [st, bn_s]
  have e1 : pc S (i + 1) = pc S i + (S.testBit i).toNat := rfl
  cases b : S.testBit i
  · rw [b, show (false).toNat = 0 from rfl] at e1
    rw [bI_f, if_neg (by exact fun z => z rfl)]
    refine hc (m - 1) _ (by omega) ⟨i + 1, τ, by omega, by rw [e1]; rfl, g1, g2, fun j hj hb => ?_⟩
    rcases Nat.eq_or_lt_of_le (show j ≤ i by omega) with rfl | h
    · rw [b] at hb; exact absurd hb (by decide)
    · exact g3 j h hb
  · rw [b, show (true).toNat = 1 from rfl] at e1
    rw [bI_t, if_pos (by decide), ixb_nI (by omega) (by omega), ck_t, nI_clamp (by omega), lt_e]
    refine hc (m - 1) _ (by omega) ⟨i + 1, sI τ 104 (pc S i) (nI i), by omega, by rw [e1], fun k j h => by rw [rI_k h, g1 k j h], g2, fun j hj hb => ?_⟩
    rcases Nat.eq_or_lt_of_le (show j ≤ i by omega) with rfl | h
    · exact rI_e rfl rfl
    · rw [rI_j (fun z => by have := pc_inj hb b z; omega)]
      exact g3 j h hb
theorem cGather_b {N n S : Nat} {col on : Nat → Nat} {σ τ₀ : Ms} (hN : 100 < N) (hW : WS n S col on) (hR : RS 22 n S col on σ) (h6 : pc S 20 ≤ 6) (f1 : ∀ k j, k ≠ 104 → τ₀.1 k j = σ.1 k j) (f2 : τ₀.2 = σ.2) (f3 : ∀ j, j < 20 → S.testBit j = true → τ₀.1 104 (pc S j) = nI j) : wp (F7_gather_b43 N 22 (nI (pc S 20)) τ₀) fun r τ => r = nI (pc S 20) ∧ (∀ k j, k ≠ 104 → k ≠ 105 → τ.1 k j = σ.1 k j) ∧ τ.2 = σ.2 ∧ ∀ j, j < 20 → S.testBit j = true → τ.1 104 (pc S j) = nI j ∧ τ.1 105 (pc S j) = nI (fal n S on j (pc S 20)) := by
  have hn := hW.1
  unfold F7_gather_b43 F7_gather_b45
  refine wp_fx (fun m x => ∃ i τ, i + m = pc S 20 ∧ x = (nI (pc S 20), nI i, τ) ∧ (∀ k j, k ≠ 105 → τ.1 k j = τ₀.1 k j) ∧ τ.2 = σ.2 ∧ ∀ j, j < 20 → S.testBit j = true → pc S j < i → τ.1 105 (pc S j) = nI (fal n S on j (pc S 20))) ?_ (n := pc S 20) (by omega) ⟨0, τ₀, by omega, rfl, fun _ _ _ => rfl, f2, fun j _ _ h => absurd h (Nat.not_lt_zero _)⟩
  rintro m c _ ⟨i, τ, hi, rfl, g1, g2, g3⟩ hc
  dsimp only
  unfold F7_gather_b45B
  by_cases q : i = pc S 20
  · rw [if_pos (nI_le (by omega) (by omega))]
    refine wp_some.mpr ⟨rfl, fun k j h1 h2 => by rw [g1 k j h2, f1 k j h1], g2, fun j hj hb => ⟨by rw [g1 _ _ (by decide), f3 j hj hb], g3 j hj hb (by have := pc_lt hj hb; omega)⟩⟩
  obtain ⟨k, hk, hS, e⟩ := pc_surj (show i < pc S 20 by omega)
  have hkn : k < n := Nat.lt_of_not_le fun z => by rw [bit_lt hW.2.1 z] at hS; exact absurd hS (by decide)
  have hRt : RS 22 n S col on τ := by
    have z : ∀ k j, k < 100 → τ.1 k j = σ.1 k j := fun k j h => by rw [g1 _ _ (by omega), f1 _ _ (by omega)]
    obtain ⟨a1, a2, a3⟩ := hR
    exact ⟨by rw [z _ _ (by decide), a1], by rw [z _ _ (by decide), a2], fun i hi => ⟨by rw [z _ _ (by decide), (a3 i hi).1], by rw [z _ _ (by decide), (a3 i hi).2]⟩⟩
  have e104 : ∀ j, j < 20 → S.testBit j = true → τ.1 104 (pc S j) = nI j := fun j hj hb => by rw [g1 _ _ (by decide), f3 j hj hb]
  rw [if_neg (nI_ge (by omega) (by omega)), ixb_nI (by omega) (by omega), ck_t, nI_clamp (by omega), ← e, e104 k hk hS, branchSet_in (by omega) hW hRt hkn, bn_s, ck_t, lt_e]
  unfold F7_gather_b72
  refine wp_fx (fun m x => ∃ j ρ, j + m = pc S 20 ∧ x = (nI (pc S 20), nI (pc S k), nI (brs n S on k), nI j, ρ) ∧ (∀ k' j', k' ≠ 105 → ρ.1 k' j' = τ.1 k' j') ∧ ρ.2 = τ.2 ∧ (∀ j', j' ≠ pc S k → ρ.1 105 j' = τ.1 105 j') ∧ ρ.1 105 (pc S k) = nI (fal n S on k j)) ?_ (n := pc S 20) (by omega) ⟨0, _, by omega, rfl, fun k' j' h => rI_k h, rfl, fun j' h => rI_j h, rI_e rfl rfl⟩
  rintro m2 c2 _ ⟨j, ρ, hj, rfl, r1, r2, r3, r4⟩ hc2
  dsimp only
  unfold F7_gather_b72B F7_gather_b106
  by_cases q2 : j = pc S 20
  · rw [if_pos (nI_le (by omega) (by omega)), show (1 : Int32) = nI 1 from rfl, nI_add]
    refine hc (m - 1) _ (by omega) ⟨pc S k + 1, ρ, by omega, rfl, fun k' j' h => by rw [r1 _ _ h, g1 _ _ h], by rw [r2, g2], fun j' hj' hb' h => ?_⟩
    by_cases z : pc S j' = pc S k
    · rw [pc_inj hb' hS z, r4, q2]
    · rw [r3 _ z]
      exact g3 j' hj' hb' (by omega)
  obtain ⟨i2, hi2, hS2, e2⟩ := pc_surj (show j < pc S 20 by omega)
  have hbr : brs n S on k < 2 ^ 31 := set_lt (brs_lt n S on k) hn
  rw [if_neg (nI_ge (by omega) (by omega)), ixb_nI (by omega) (by omega), ck_t, nI_clamp (by omega), r1 104 j (by decide)]
  have e3 := e104 i2 hi2 hS2
  rw [e2] at e3
  rw [e3, isIn11 hbr (by omega), bn_s, show (1 : Int32) = nI 1 from rfl, nI_add]
  have hf : (fal n S on k (j + 1)).testBit (pc S i2) = (brs n S on k).testBit i2 := fal_bit hi2 hS2 (by omega)
  rw [e2] at hf
  have hf2 : ((List.range 20).any fun x => S.testBit x && pc S x == j && (brs n S on k).testBit x) = (brs n S on k).testBit i2 := by
    rw [← hf]
    unfold fal
    exact (pass_bit_s (fun _ i => (List.range 20).any fun j => S.testBit j && pc S j == i && (brs n S on k).testBit j) j).symm
  cases b : (brs n S on k).testBit i2
  · rw [b] at hf2
    rw [bI_f, if_pos (by rfl)]
    refine hc2 (m2 - 1) _ (by omega) ⟨j + 1, ρ, by omega, rfl, r1, r2, r3, ?_⟩
    rw [r4]
    unfold fal
    rw [pass_no hf2]
  · rw [b] at hf2
    rw [bI_t, if_neg (by decide), ixb_nI (by omega) (by omega), ck_t, ck_t, nI_clamp (by omega), r4, u_shl1 j (by omega), lt_e]
    refine hc2 (m2 - 1) _ (by omega) ⟨j + 1, _, by omega, rfl, fun k' j' h => by rw [rI_k h, r1 _ _ h], by rw [rI_l, r2], fun j' h => by rw [rI_j h, r3 _ h], ?_⟩
    rw [rI_e rfl rfl]
    unfold fal
    rw [pass_yes hf2]
    exact fa_or _ _
