/-- one set tried by the class -/
theorem cTry {N X : Nat} {t : Int32} {H : HG} {σ : Ms} {co : Int32 × Int32 × Ms → Option (Int32 × Ms)} {Q : Int32 → Ms → Prop} (hN : 30 < N) (w : WG H) (c : CG 22 H σ) (hb : BR H σ) (hX : X < 2 ^ 31) (ht : ¬ (1140 : Int32) ≤ t)
    (hy : ∀ τ, X < 2 ^ gn H → balB H X = true → CG 22 H τ → BR H τ → Q (nI X) τ) (hn : ∀ τ, X < 2 ^ gn H → balB H X = false → CG 22 H τ → BR H τ → wp (F7_leastOf_b49 N 22 co (nI X) t τ) Q) (hend : ¬ X < 2 ^ gn H → Q (-nI 1) σ) : wp (F7_leastOf_b9B N 22 co (nI X) t σ) Q := by
  have h20 := w.n
  have hp : (2 : Nat) ^ gn H < 2 ^ 31 := pow_le31 h20
  unfold F7_leastOf_b9B
  rw [if_neg ht, c.1.1, c.1.2.1, u_dif, show (1 : Int32) = nI 1 from rfl, u_shl1 _ (by omega)]
  by_cases q : X < 2 ^ gn H
  rotate_left
  · rw [if_pos (nI_le (by omega) hX)]
    exact wp_some.mpr (hend q)
  rw [if_neg (nI_ge q hp)]
  by_cases hs : dif X (gS H) = 0
  · rw [if_neg (by exact fun z => z (by rw [hs]; rfl))]
    refine wp_bn.mpr (wp_mono (cBal hN w c hb q hs) ?_)
    rintro _ τ ⟨rfl, c1, b1, -⟩
    cases hB : balB H X
    · rw [if_pos (by rfl)]
      exact hn τ q hB c1 b1
    · rw [if_neg (by decide)]
      exact wp_some.mpr (hy τ q hB c1 b1)
  · rw [if_pos (by exact fun z => hs ((nI_eq (b := 0) (dif_lt hX) (by omega)).mp z))]
    refine hn σ q ?_ c hb
    unfold balB
    rw [decide_eq_false hs]
    rfl
theorem turn_ok {t : Nat} (h : t < 1140) : ¬ (1140 : Int32) ≤ nI t := fun z => by have := (lit_le (c := 1140) 1140 rfl (by omega) (by omega)).mp z; omega
theorem least0 {N : Nat} {H : HG} {σ : Ms} (hN : 2000 < N) (w : WG H) (c : CG 22 H σ) (hb : BR H σ) : wp (F7_leastOf N 22 (0 : Int32) σ) fun r τ => CG 22 H τ ∧ BR H τ ∧ ((balB H 0 = true ∧ r = nI 0) ∨ (balB H 0 = false ∧ r = -nI 1)) := by
  have h20 := w.n
  unfold F7_leastOf
  rw [lt_e, show ((1 : Int32) <<< ((0 : Int32) &&& 31)) - (1 : Int32) = nI 0 by decide]
  unfold F7_leastOf_b9
  refine wp_fx (fun m x => (m = 1 ∧ ∃ τ, x = (nI 0, nI 0, τ) ∧ CG 22 H τ ∧ BR H τ) ∨ (m = 0 ∧ ∃ τ, x = (nI 1048576, nI 1, τ) ∧ CG 22 H τ ∧ BR H τ ∧ balB H 0 = false)) ?_ (n := 1) (by omega) (Or.inl ⟨rfl, σ, rfl, c, hb⟩)
  rintro m co _ (⟨rfl, τ, rfl, c, hb⟩ | ⟨rfl, τ, rfl, c, hb, hf⟩) hc
  · simp only
    refine cTry (by omega) w c hb (by decide) (turn_ok (by omega)) (fun τ _ h1 c1 b1 => ⟨c1, b1, Or.inl ⟨h1, rfl⟩⟩) (fun τ' _ h1 c1 b1 => ?_) (fun h => absurd (Nat.two_pow_pos _) h)
    unfold F7_leastOf_b49 F7_nextOfSize
    rw [if_neg (by exact fun z => z rfl), bn_s]
    exact hc 0 _ (by omega) (Or.inr ⟨rfl, τ', rfl, c1, b1, h1⟩)
  · simp only
    refine cTry (by omega) w c hb (by decide) (turn_ok (by omega)) (fun τ h0 h1 c1 b1 => ?_) (fun τ' h0 h1 c1 b1 => ?_) (fun h => ⟨c, hb, Or.inr ⟨hf, rfl⟩⟩)
    · have : 2 ^ gn H ≤ 2 ^ 20 := Nat.pow_le_pow_right (by decide) h20
      omega
    · have : 2 ^ gn H ≤ 2 ^ 20 := Nat.pow_le_pow_right (by decide) h20
      omega
theorem least1 {N : Nat} {H : HG} {σ : Ms} (hN : 2000 < N) (w : WG H) (c : CG 22 H σ) (hb : BR H σ) : wp (F7_leastOf N 22 (1 : Int32) σ) fun r τ => CG 22 H τ ∧ BR H τ ∧ (Y1 (balB H) (gn H) r ∨ (N1 (balB H) (gn H) ∧ r = -nI 1)) := by
  have h20 := w.n
  unfold F7_leastOf
  rw [lt_e, show ((1 : Int32) <<< ((1 : Int32) &&& 31)) - (1 : Int32) = nI (2 ^ 0) by decide]
  unfold F7_leastOf_b9
  refine wp_fx (fun m x => ∃ k τ, k + m = gn H ∧ x = (nI (2 ^ k), nI k, τ) ∧ CG 22 H τ ∧ BR H τ ∧ ∀ k', k' < k → balB H (2 ^ k') = false) ?_ (n := gn H) (by omega) ⟨0, σ, by omega, rfl, c, hb, fun k' h => absurd h (Nat.not_lt_zero k')⟩
  rintro m co _ ⟨k, τ, hm, rfl, c, hb, hf⟩ hc
  simp only
  refine cTry (by omega) w c hb (Nat.pow_lt_pow_right (by decide) (by omega)) (turn_ok (by omega)) (fun τ' h0 h1 c1 b1 => ⟨c1, b1, Or.inl ⟨k, ?_, rfl, h1, hf⟩⟩) (fun τ' h0 h1 c1 b1 => ?_) (fun h => ⟨c, hb, Or.inr ⟨fun k' hk' => hf k' ?_, rfl⟩⟩)
  · exact (Nat.pow_lt_pow_iff_right (by decide)).mp h0
  · have hk : k < gn H := (Nat.pow_lt_pow_iff_right (by decide)).mp h0
    obtain ⟨a1, a2, a3⟩ := all1 k (by omega)
    unfold F7_leastOf_b49
    rw [nx_ok (by omega) a1 a2, bn_s, a3]
    first | rw [nI_1] | rw [nI_add] | skip
    refine hc (m - 1) _ (by omega) ⟨k + 1, τ', by omega, rfl, c1, b1, fun k' hk' => ?_⟩
    by_cases e : k' = k
    · rw [e]; exact h1
    · exact hf k' (by omega)
  · have : ¬ k < gn H := fun z => h (p2_lt z)
    omega
theorem least2 {N : Nat} {H : HG} {σ : Ms} (hN : 2000 < N) (w : WG H) (c : CG 22 H σ) (hb : BR H σ) : wp (F7_leastOf N 22 (2 : Int32) σ) fun r τ => CG 22 H τ ∧ BR H τ ∧ (Y2 (balB H) (gn H) r ∨ (N2 (balB H) (gn H) ∧ r = -nI 1)) := by
  have h20 := w.n
  unfold F7_leastOf
  rw [lt_e, show ((1 : Int32) <<< ((2 : Int32) &&& 31)) - (1 : Int32) = nI (s2 1 0) by decide]
  unfold F7_leastOf_b9
  refine wp_fx (fun m x => ∃ q k t τ, t + m = 1140 ∧ k < q ∧ q ≤ 20 ∧ (q < 20 → rk2 q k = t) ∧ (q = 20 → k = 0) ∧ x = (nI (s2 q k), nI t, τ) ∧ CG 22 H τ ∧ BR H τ ∧ ∀ q' k', k' < q' → (q' < q ∨ (q' = q ∧ k' < k)) → balB H (s2 q' k') = false) ?_ (n := 1140) (by omega) ⟨1, 0, 0, σ, by omega, by omega, by omega, fun _ => rfl, fun _ => rfl, rfl, c, hb, fun q' k' h1 h2 => by omega⟩
  rintro m co _ ⟨q, k, t, τ, hm, hk, hq, hrk, hq20, rfl, c, hb, hf⟩ hc
  simp only
  have hX : s2 q k < 2 ^ 31 := (s2_lt hk).mpr (by omega)
  by_cases ht : t < 1140
  rotate_left
  · have hq' : q = 20 := by
      refine Nat.le_antisymm hq (Nat.le_of_not_lt fun z => ?_)
      have := (rk2_all q z k hk).1
      have := hrk z
      omega
    unfold F7_leastOf_b9B
    rw [if_pos ((lit_le (c := 1140) 1140 rfl (by omega) (by omega)).mpr (by omega))]
    exact wp_some.mpr ⟨c, hb, Or.inr ⟨fun q1 k1 h1 h2 => hf q1 k1 h2 (by omega), rfl⟩⟩
  refine cTry (by omega) w c hb hX (turn_ok ht) (fun τ' h0 h1 c1 b1 => ⟨c1, b1, Or.inl ⟨q, k, (s2_lt hk).mp h0, hk, rfl, h1, hf⟩⟩) (fun τ' h0 h1 c1 b1 => ?_) (fun h => ⟨c, hb, Or.inr ⟨fun q1 k1 hq1 hk1 => hf q1 k1 hk1 ?_, rfl⟩⟩)
  · have hqn : q < gn H := (s2_lt hk).mp h0
    obtain ⟨a1, a2, a3⟩ := all2 q (by omega) k hk
    obtain ⟨b1', b2'⟩ := rk2_all q (by omega) k hk
    have hrk' := hrk (by omega)
    unfold F7_leastOf_b49
    rw [nx_ok (by omega) a1 a2, bn_s, a3]
    have hf' : ∀ q' k', k' < q' → (q' < q ∨ (q' = q ∧ k' ≤ k)) → balB H (s2 q' k') = false := fun q' k' g1 g2 => by
      by_cases e : q' = q ∧ k' = k
      · rw [e.1, e.2]; exact h1
      · exact hf q' k' g1 (by omega)
    by_cases z : k + 1 < q
    · rw [if_pos z]
      rw [if_pos z] at b2'
      first | rw [nI_1] | rw [nI_add] | skip
      exact hc (m - 1) _ (by omega) ⟨q, k + 1, t + 1, τ', by omega, z, by omega, fun _ => by omega, fun _ => by omega, rfl, c1, b1, fun q' k' g1 g2 => hf' q' k' g1 (by omega)⟩
    · rw [if_neg z]
      rw [if_neg z] at b2'
      first | rw [nI_1] | rw [nI_add] | skip
      exact hc (m - 1) _ (by omega) ⟨q + 1, 0, t + 1, τ', by omega, by omega, by omega, fun _ => by omega, fun _ => rfl, rfl, c1, b1, fun q' k' g1 g2 => hf' q' k' g1 (by omega)⟩
  · have : ¬ q < gn H := fun z => h ((s2_lt hk).mpr z)
    omega
theorem least3 {N : Nat} {H : HG} {σ : Ms} (hN : 2000 < N) (w : WG H) (c : CG 22 H σ) (hb : BR H σ) : wp (F7_leastOf N 22 (3 : Int32) σ) fun r τ => CG 22 H τ ∧ BR H τ ∧ (Y3 (balB H) (gn H) r ∨ (N3 (balB H) (gn H) ∧ r = -nI 1)) := by
  have h20 := w.n
  unfold F7_leastOf
  rw [lt_e, show ((1 : Int32) <<< ((3 : Int32) &&& 31)) - (1 : Int32) = nI (s3 2 1 0) by decide]
  unfold F7_leastOf_b9
  refine wp_fx (fun m x => ∃ r q k t τ, t + m = 1140 ∧ k < q ∧ q < r ∧ r ≤ 20 ∧ (r < 20 → rk3 r q k = t) ∧ (r = 20 → q = 1 ∧ k = 0) ∧ x = (nI (s3 r q k), nI t, τ) ∧ CG 22 H τ ∧ BR H τ ∧ ∀ r' q' k', q' < r' → k' < q' → (r' < r ∨ (r' = r ∧ (q' < q ∨ (q' = q ∧ k' < k)))) → balB H (s3 r' q' k') = false) ?_ (n := 1140) (by omega) ⟨2, 1, 0, 0, σ, by omega, by omega, by omega, by omega, fun _ => rfl, fun h => by omega, rfl, c, hb, fun r' q' k' h1 h2 h3 => by omega⟩
  rintro m co _ ⟨r, q, k, t, τ, hm, hk, hq, hr, hrk, hr20, rfl, c, hb, hf⟩ hc
  simp only
  have hX : s3 r q k < 2 ^ 31 := (s3_lt hq hk).mpr (by omega)
  by_cases ht : t < 1140
  rotate_left
  · have hr' : r = 20 := by
      refine Nat.le_antisymm hr (Nat.le_of_not_lt fun z => ?_)
      have := (rk3_all r z q hq k hk).1
      have := hrk z
      omega
    unfold F7_leastOf_b9B
    rw [if_pos ((lit_le (c := 1140) 1140 rfl (by omega) (by omega)).mpr (by omega))]
    exact wp_some.mpr ⟨c, hb, Or.inr ⟨fun r1 q1 k1 h1 h2 h3 => hf r1 q1 k1 h2 h3 (by omega), rfl⟩⟩
  refine cTry (by omega) w c hb hX (turn_ok ht) (fun τ' h0 h1 c1 b1 => ⟨c1, b1, Or.inl ⟨r, q, k, (s3_lt hq hk).mp h0, hq, hk, rfl, h1, hf⟩⟩) (fun τ' h0 h1 c1 b1 => ?_) (fun h => ⟨c, hb, Or.inr ⟨fun r1 q1 k1 hr1 hq1 hk1 => hf r1 q1 k1 hq1 hk1 ?_, rfl⟩⟩)
  · have hrn : r < gn H := (s3_lt hq hk).mp h0
    obtain ⟨a1, a2, a3⟩ := all3 r (by omega) q hq k hk
    obtain ⟨b1', b2'⟩ := rk3_all r (by omega) q hq k hk
    have hrk' := hrk (by omega)
    unfold F7_leastOf_b49
    rw [nx_ok (by omega) a1 a2, bn_s, a3]
    have hf' : ∀ r' q' k', q' < r' → k' < q' → (r' < r ∨ (r' = r ∧ (q' < q ∨ (q' = q ∧ k' ≤ k)))) → balB H (s3 r' q' k') = false := fun r' q' k' g1 g2 g3 => by
      by_cases e : r' = r ∧ q' = q ∧ k' = k
      · rw [e.1, e.2.1, e.2.2]; exact h1
      · exact hf r' q' k' g1 g2 (by omega)
    by_cases z : k + 1 < q
    · rw [if_pos z]
      rw [if_pos z] at b2'
      first | rw [nI_1] | rw [nI_add] | skip
      exact hc (m - 1) _ (by omega) ⟨r, q, k + 1, t + 1, τ', by omega, z, hq, by omega, fun _ => by omega, fun _ => by omega, rfl, c1, b1, fun r' q' k' g1 g2 g3 => hf' r' q' k' g1 g2 (by omega)⟩
    · rw [if_neg z]
      rw [if_neg z] at b2'
      by_cases y : q + 1 < r
      · rw [if_pos y]
        rw [if_pos y] at b2'
        first | rw [nI_1] | rw [nI_add] | skip
        exact hc (m - 1) _ (by omega) ⟨r, q + 1, 0, t + 1, τ', by omega, by omega, y, by omega, fun _ => by omega, fun _ => by omega, rfl, c1, b1, fun r' q' k' g1 g2 g3 => hf' r' q' k' g1 g2 (by omega)⟩
      · rw [if_neg y]
        rw [if_neg y] at b2'
        first | rw [nI_1] | rw [nI_add] | skip
        exact hc (m - 1) _ (by omega) ⟨r + 1, 1, 0, t + 1, τ', by omega, by omega, by omega, by omega, fun _ => by omega, fun _ => ⟨rfl, rfl⟩, rfl, c1, b1, fun r' q' k' g1 g2 g3 => hf' r' q' k' g1 g2 (by omega)⟩
  · have : ¬ r < gn H := fun z => h ((s3_lt hq hk).mpr z)
    omega
