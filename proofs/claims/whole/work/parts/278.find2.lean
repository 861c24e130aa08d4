def YC (H : HG) (P : Nat) (V : Int) (σ : Ms) (n : Nat) (τ : Ms) : Prop := (∀ j, τ.1 30 j = σ.1 30 j) ∧ (∀ j, τ.1 32 j = σ.1 32 j) ∧ (∀ i, P.testBit i = false → τ.1 31 i = σ.1 31 i) ∧ τ.1 100 0 = nI (cntw H P V n) ∧ τ.1 100 1 = nI (fstw H P V n) ∧ ∀ i, i < 20 → τ.1 101 i = nI (bluw H P V i n)
theorem sb_lt {S : Nat} (n : Nat) (h : S < 2 ^ 31) : sb S n < 2 ^ 31 := Nat.lt_of_le_of_lt (sb_le S n) h
theorem cFind_40 {N P : Nat} {V : Int} {H : HG} {σ τ₀ : Ms} (hN : 2000 < N) (w : WG H) (c : CG 30 H σ) (hp : okS (gn H) (gS H) (gc H) P) (hV : -20971520 ≤ V ∧ V ≤ 20971520) (h0 : YC H P V σ 0 τ₀) : wp (F10_find_b40 N 30 (nI P) (zL (1024 * V)) 0 0 τ₀) fun _ τ => YC H P V σ (2 ^ pc P 20) τ := by
  have hn := w.n
  have hP20 : P < 2 ^ 20 := Nat.lt_of_lt_of_le hp.1 (Nat.pow_le_pow_right (by decide) hn)
  have hP31 : P < 2 ^ 31 := Nat.lt_trans hP20 (by decide)
  have hK : 2 ^ pc P 20 ≤ 1024 := Nat.pow_le_pow_right (n := 2) (by decide) hp.2.1
  have hK0 : 0 < 2 ^ pc P 20 := Nat.two_pow_pos _
  unfold F10_find_b40
  refine wp_fx (fun m x => ∃ n τ, n + m = 2 ^ pc P 20 ∧ n < 2 ^ pc P 20 ∧ x = (nI P, zL (1024 * V), nI (sb P n), nI n, τ) ∧ YC H P V σ n τ) ?_ (n := 2 ^ pc P 20) (by omega) ⟨0, τ₀, by omega, hK0, by rw [sb_0 hP20]; rfl, h0⟩
  rintro m k _ ⟨n, τ, hnm, hnK, rfl, g1, g2, g3, g4, g5, g6⟩ hk
  dsimp only
  unfold F10_find_b40B
  rw [show (1024 : Int32) = nI 1024 from rfl, if_neg (nI_ge (by omega) (by omega)), colour_ok (by omega) hP31 (sb_lt n hP31), bn_s]
  have step : ∀ τ', YC H P V σ (n + 1) τ' → wp (F10_find_b75 N 30 k (nI P) (zL (1024 * V)) (nI (sb P n)) (nI n) τ') fun _ τ => YC H P V σ (2 ^ pc P 20) τ := fun τ' h => by
    unfold F10_find_b75
    rw [sb_nx n hP20, lt_e]
    by_cases q : sb P (n + 1) = 0
    · have hz := (sb_z hP20).mp q
      have : n + 1 = 2 ^ pc P 20 := by
        rcases Nat.lt_or_ge (n + 1) (2 ^ pc P 20) with y | y
        · rw [Nat.mod_eq_of_lt y] at hz
          omega
        · omega
      rw [q, if_neg (by decide)]
      exact wp_some.mpr (by rw [← this]; exact h)
    · have : n + 1 < 2 ^ pc P 20 := by
        refine Nat.lt_of_le_of_ne (by omega) fun y => q ((sb_z hP20).mpr ?_)
        rw [y]
        exact Nat.mod_self _
      rw [if_pos (by exact fun z => q ((nI_eq (b := 0) (sb_lt (n + 1) hP31) (by omega)).mp z)), show (1 : Int32) = nI 1 from rfl, nI_add]
      exact hk (m - 1) _ (by omega) ⟨n + 1, τ', by omega, this, rfl, h⟩
  have o : ∀ k' i, k' ≠ 31 → (colS P (sb P n) 20 τ).1 k' i = τ.1 k' i := fun k' i h => if_neg fun z => h z.1
  have hR : RS 30 (gn H) (gS H) (recol (gc H) P (sb P n)) (go H) (colS P (sb P n) 20 τ) := by
    obtain ⟨a1, a2, a3⟩ := c.1
    refine ⟨by rw [o _ _ (by decide), g1, a1], by rw [o _ _ (by decide), g1, a2], fun i hi => ⟨?_, by rw [o _ _ (by decide), g2, (a3 i hi).2]⟩⟩
    unfold recol
    by_cases b : P.testBit i = true
    · rw [if_pos b]
      exact if_pos ⟨rfl, by omega, b⟩
    · rw [if_neg b]
      refine (if_neg fun z => b z.2.2).trans ?_
      rw [g3 i (Bool.eq_false_iff.mpr b), (a3 i hi).1]
  rw [hR.2.1]
  have hz : (colS P (sb P n) 20 τ).1 30 10 = Int32.ofInt (gz H) := by rw [o _ _ (by decide), g1]; exact c.2.2.2.2.1
  refine wp_bn.mpr (wp_mono (worthWith_ok (by omega) (recol_W w.1 hp) hR w.S hz w.z) ?_)
  rintro _ τ₂ ⟨rfl, e1, -, -⟩
  rw [show gz H * 1048576 + (wA (gn H) (gS H) (recol (gc H) P (sb P n)) (go H) (gn H)).2 = gv H P n from rfl]
  have hb := gv_abs w P n
  have o2 : ∀ k' i, k' ≠ 31 → τ₂.1 k' i = τ.1 k' i := fun k' i h => by rw [e1, o k' i h]
  have o3 : ∀ i, P.testBit i = false → τ₂.1 31 i = σ.1 31 i := fun i b => by
    rw [e1]
    refine (if_neg fun z => by rw [b] at z; exact absurd z.2.2 (by decide)).trans (g3 i b)
  by_cases hit : gv H P n = V
  rotate_left
  · rw [if_pos (by exact fun z => hit (by have := (zL_eq (by omega) (by omega)).mp z; omega))]
    refine step _ ⟨fun j => by rw [o2 _ _ (by decide), g1], fun j => by rw [o2 _ _ (by decide), g2], o3, ?_, ?_, fun i hi => ?_⟩
    · rw [o2 _ _ (by decide), g4]
      conv => rhs; unfold cntw
      rw [if_neg hit]
      rfl
    · rw [o2 _ _ (by decide), g5]
      conv => rhs; unfold fstw
      rw [if_neg fun z => hit z.1]
    · rw [o2 _ _ (by decide), g6 i hi]
      conv => rhs; unfold bluw
      rw [if_neg fun z => hit z.1]
      rfl
  · rw [if_neg (by exact fun z => z ((zL_eq (by omega) (by omega)).mpr (by rw [hit])))]
    have cl := cntw_le H P V n
    have fin : ∀ ρ : Ms, (∀ k' i, k' ≠ 100 → ρ.1 k' i = τ₂.1 k' i) → ρ.1 100 0 = nI (cntw H P V n) → ρ.1 100 1 = nI (fstw H P V (n + 1)) → wp (bn (F10_count_b12 N (nI P) (nI (sb P n)) ρ) fun _ t7 => F10_find_b75 N 30 k (nI P) (zL (1024 * V)) (nI (sb P n)) (nI n) t7) fun _ τ => YC H P V σ (2 ^ pc P 20) τ := fun ρ r1 r2 r3 => by
      unfold F10_count_b12
      rw [r2, show (1 : Int32) = nI 1 from rfl, nI_add, lt_e, count_ok (by omega) hP31, bn_s]
      have p : ∀ k' i, k' ≠ 101 → (cntS P (sb P n) 20 (sI ρ 100 0 (nI (cntw H P V n + 1)))).1 k' i = (sI ρ 100 0 (nI (cntw H P V n + 1))).1 k' i := fun k' i h => if_neg fun z => h z.1
      refine step _ ⟨fun j => ?_, fun j => ?_, fun i b => ?_, ?_, ?_, fun i hi => ?_⟩
      · rw [p _ _ (by decide), rI_k (by decide), r1 _ _ (by decide), o2 _ _ (by decide), g1]
      · rw [p _ _ (by decide), rI_k (by decide), r1 _ _ (by decide), o2 _ _ (by decide), g2]
      · rw [p _ _ (by decide), rI_k (by decide), r1 _ _ (by decide), o3 i b]
      · rw [p _ _ (by decide), rI_e rfl rfl]
        conv => rhs; unfold cntw
        rw [if_pos hit]
      · rw [p _ _ (by decide), rI_j (by decide), r3]
      · have q : (sI ρ 100 0 (nI (cntw H P V n + 1))).1 101 i = nI (bluw H P V i n) := by
          rw [rI_k (by decide), r1 _ _ (by decide), o2 _ _ (by decide), g6 i hi]
        conv => rhs; unfold bluw
        by_cases y : P.testBit i = true ∧ (sb P n).testBit i = false
        · rw [if_pos ⟨hit, y⟩]
          refine (if_pos ⟨rfl, hi, y⟩).trans ?_
          rw [q, nI_add]
        · rw [if_neg fun z => y z.2]
          exact (if_neg fun z => y z.2.2).trans q
    unfold F10_count
    by_cases z : cntw H P V n = 0
    · have h100 : τ₂.1 100 0 = nI 0 := by rw [o2 _ _ (by decide), g4, z]
      rw [h100, if_neg (by exact fun y => y rfl), lt_e]
      refine fin _ (fun k' i h => rI_k h) (by rw [rI_j (by decide), h100, z]) ?_
      rw [rI_e rfl rfl]
      unfold fstw
      rw [if_pos ⟨hit, z⟩]
    · have h100 : τ₂.1 100 0 = nI (cntw H P V n) := by rw [o2 _ _ (by decide), g4]
      rw [h100, if_pos (by exact fun y => z ((nI_eq (b := 0) (by omega) (by omega)).mp y))]
      refine fin _ (fun k' i h => rfl) h100 ?_
      rw [o2 _ _ (by decide), g5]
      conv => rhs; unfold fstw
      rw [if_neg fun y => z y.2]
theorem cFind {N P : Nat} {V : Int} {H : HG} {σ : Ms} (hN : 2000 < N) (w : WG H) (c : CG 30 H σ) (hp : okS (gn H) (gS H) (gc H) P) (hV : -20971520 ≤ V ∧ V ≤ 20971520) : wp (F10_find N 30 (nI P) (zL (1024 * V)) σ) fun _ τ => τ.1 100 0 = nI (cntw H P V (2 ^ pc P 20)) ∧ τ.1 100 1 = nI (fstw H P V (2 ^ pc P 20)) ∧ ∀ i, i < 20 → τ.1 101 i = nI (bluw H P V i (2 ^ pc P 20)) := by
  unfold F10_find F10_find_b13
  rw [lt_e, lt_e]
  refine wp_fx (fun m x => ∃ i τ, i + m = 20 ∧ x = (nI P, zL (1024 * V), nI i, τ) ∧ (∀ k j, k ≠ 100 → k ≠ 101 → τ.1 k j = σ.1 k j) ∧ τ.1 100 0 = nI 0 ∧ τ.1 100 1 = nI 0 ∧ ∀ j, j < i → τ.1 101 j = nI 0) ?_ (n := 20) (by omega) ⟨0, _, by omega, rfl, fun k j h1 h2 => by rw [rI_k h1, rI_k h1], by rw [rI_j (by decide), rI_e rfl rfl]; rfl, by rw [rI_e rfl rfl]; rfl, fun j hj => absurd hj (Nat.not_lt_zero j)⟩
  rintro m k _ ⟨i, τ, hi, rfl, g1, g2, g3, g4⟩ hk
  dsimp only
  unfold F10_find_b13B
  by_cases q : i = 20
  rotate_left
  · rw [show (20 : Int32) = nI 20 from rfl, if_neg (nI_ge (by omega) (by omega)), ixb_nI (by omega) (by omega), ck_t, nI_clamp (by omega), lt_e, show (1 : Int32) = nI 1 from rfl, nI_add]
    refine hk (m - 1) _ (by omega) ⟨i + 1, _, by omega, rfl, fun k j h1 h2 => by rw [rI_k h2, g1 k j h1 h2], by rw [rI_k (by decide), g2], by rw [rI_k (by decide), g3], fun j hj => ?_⟩
    by_cases z : j = i
    · rw [z, rI_e rfl rfl]
      rfl
    · rw [rI_j z, g4 j (by omega)]
  subst q
  rw [if_pos (by decide)]
  refine wp_mono (cFind_40 hN w c hp hV ⟨fun j => g1 _ _ (by decide) (by decide), fun j => g1 _ _ (by decide) (by decide), fun i _ => g1 _ _ (by decide) (by decide), g2, g3, fun i hi => g4 i hi⟩) ?_
  rintro _ τ' ⟨-, -, -, h1, h2, h3⟩
  exact ⟨h1, h2, h3⟩
