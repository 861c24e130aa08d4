def bl1 (P R i : Nat) : Nat := if P.testBit i = true ∧ R.testBit i = false then 1 else 0
def mcS (P R m : Nat) (τ : Ms) : Ms := (fun k i => if k = 9 ∧ i < m then τ.1 9 i + nI (bl1 P R i) else τ.1 k i, τ.2)
theorem mcS_s (P R i : Nat) (τ : Ms) : sI (mcS P R i τ) 9 i (τ.1 9 i + nI (bl1 P R i)) = mcS P R (i + 1) τ := by
  refine Prod.ext ?_ rfl
  funext k j
  show (if k = 9 ∧ j = i then τ.1 9 i + nI (bl1 P R i) else if k = 9 ∧ j < i then τ.1 9 j + nI (bl1 P R j) else τ.1 k j) = if k = 9 ∧ j < i + 1 then τ.1 9 j + nI (bl1 P R j) else τ.1 k j
  by_cases z : k = 9 ∧ j = i
  · rw [if_pos z, if_pos ⟨z.1, by omega⟩, z.2]
  · rw [if_neg z]
    by_cases y : k = 9 ∧ j < i
    · rw [if_pos y, if_pos ⟨y.1, by omega⟩]
    · rw [if_neg y, if_neg fun w => y ⟨w.1, by omega⟩]
theorem mCount {N P R n q : Nat} {V : Int64} {τ : Ms} {c : Int32 × Int64 × Int32 × Int32 × Ms → Option (Unit × Ms)} {Q : Unit → Ms → Prop} (hN : 100 < N) (hP : P < 2 ^ 31) (hR : R < 2 ^ 31) (hn : n ≤ 20) (h5 : τ.1 5 0 = nI n) (h : wp (F12_laysWays_b148 N c (nI P) V (nI R) (nI q) (mcS P R n τ)) Q) : wp (F12_laysWays_b97 N c (nI P) V (nI R) (nI q) 0 τ) Q := by
  unfold F12_laysWays_b97
  refine wp_fx (fun m x => ∃ i, i + m = n ∧ x = (nI P, V, nI R, nI q, nI i, mcS P R i τ)) ?_ (n := n) (by omega) ⟨0, by omega, ?_⟩
  rotate_left
  · have : mcS P R 0 τ = τ := by
      refine Prod.ext ?_ rfl
      funext k i
      exact if_neg (by omega)
    rw [this]
    rfl
  rintro m k _ ⟨i, hi, rfl⟩ hk
  dsimp only
  unfold F12_laysWays_b97B F12_laysWays_b139 F12_laysWays_b140
  have o5 : (mcS P R i τ).1 5 0 = nI n := by rw [show (mcS P R i τ).1 5 0 = if 5 = 9 ∧ 0 < i then τ.1 9 0 + nI (bl1 P R 0) else τ.1 5 0 from rfl, if_neg (by omega), h5]
  rw [show ixb (0 : Int32) 1780 = true by decide, ck_t, show (0 : Int32).toNatClampNeg = 0 by decide, o5]
  by_cases e : i = n
  · subst e
    rw [if_pos (nI_le (by omega) (by omega))]
    exact h
  have o9 : (mcS P R i τ).1 9 i = τ.1 9 i := if_neg fun z => by omega
  have st := mcS_s P R i τ
  rw [if_neg (nI_ge (by omega) (by omega)), ixb_nI (by omega) (by omega), ck_t, nI_clamp (by omega), o9, has12 hP (by omega), bn_s]
  unfold bl1 at st
  cases b : P.testBit i
  · rw [b, if_neg (by exact fun z => absurd z.1 (by decide))] at st
    rw [bI_f, if_pos (by rfl), ck_t, show (0 : Int32) = nI 0 from rfl, st, lt_e, show (1 : Int32) = nI 1 from rfl, nI_add]
    exact hk (m - 1) _ (by omega) ⟨i + 1, by omega, rfl⟩
  · rw [bI_t, if_neg (by decide), has12 hR (by omega), bn_s]
    cases y : R.testBit i
    · rw [b, y, if_pos ⟨rfl, rfl⟩] at st
      rw [bI_f, if_neg (by exact fun z => z rfl), ck_t, show (1 : Int32) = nI 1 from rfl, st, lt_e, nI_add]
      exact hk (m - 1) _ (by omega) ⟨i + 1, by omega, rfl⟩
    · rw [b, y, if_neg (by exact fun z => absurd z.2 (by decide))] at st
      rw [bI_t, if_pos (by decide), ck_t, show (0 : Int32) = nI 0 from rfl, st, lt_e, show (1 : Int32) = nI 1 from rfl, nI_add]
      exact hk (m - 1) _ (by omega) ⟨i + 1, by omega, rfl⟩
def YM (H : HG) (P : Nat) (V : Int) (σ : Ms) (n : Nat) (τ : Ms) : Prop := (∀ j, τ.1 5 j = σ.1 5 j) ∧ τ.1 0 33 = nI (cntw H P V n) ∧ (cntw H P V n ≠ 0 → τ.1 0 34 = nI (fstw H P V n)) ∧ ∀ i, i < gn H → τ.1 9 i = nI (bluw H P V i n)
theorem mWays_40 {N P : Nat} {V : Int} {H : HG} {σ τ₀ : Ms} (hN : 2000 < N) (w : WG H) (c : MG 0 H σ) (hp : okS (gn H) (gS H) (gc H) P) (hV : -20971520 ≤ V ∧ V ≤ 20971520) (h0 : YM H P V σ 0 τ₀) : wp (F12_laysWays_b40 N (nI P) (zL V) 0 0 τ₀) fun _ τ => YM H P V σ (2 ^ pc P 20) τ := by
  have hn := w.n
  have hP20 : P < 2 ^ 20 := Nat.lt_of_lt_of_le hp.1 (Nat.pow_le_pow_right (by decide) hn)
  have hP31 : P < 2 ^ 31 := Nat.lt_trans hP20 (by decide)
  have hk10 := hp.2.1
  have hK : 2 ^ pc P 20 ≤ 1024 := Nat.pow_le_pow_right (n := 2) (by decide) hp.2.1
  have hK0 : 0 < 2 ^ pc P 20 := Nat.two_pow_pos _
  unfold F12_laysWays_b40
  refine wp_fx (fun m x => ∃ n τ, n + m = 2 ^ pc P 20 ∧ x = (nI P, zL V, nI (sb P n), nI n, τ) ∧ YM H P V σ n τ) ?_ (n := 2 ^ pc P 20) (by omega) ⟨0, τ₀, by omega, by rw [sb_0 hP20]; rfl, h0⟩
  rintro m k _ ⟨n, τ, hnm, rfl, hY⟩ hk
  dsimp only
  unfold F12_laysWays_b40B
  rw [sizeOf_ok (by omega) hP31, bn_s, show (1 : Int32) = nI 1 from rfl, u_shl1 _ (by omega)]
  by_cases e : n = 2 ^ pc P 20
  · rw [if_pos (nI_le (by omega) (by omega))]
    exact wp_some.mpr (by rw [← e]; exact hY)
  obtain ⟨g1, g2, g3, g4⟩ := hY
  have mt : MG 0 H τ := c.mv g1
  rw [if_neg (nI_ge (by omega) (by omega)), standing_ok (by omega) w.1 mt.1, bn_s]
  refine wp_bn.mpr (wp_mono (wp_fr (lays_ok (P := P) (R := sb P n) (cc := recol (gc H) P (sb P n)) (by omega) (recol_W w.1 hp) mt.1 (fun i _ => rfl) w.S hP31 (sb_lt n hP31) w.2.1 mt.2.1 mt.2.2.at0.2.1 w.z) (fr_F12_laysWorths N (nI (gS H)) (nI P) (nI (sb P n)) τ)) ?_)
  rintro _ τ₂ ⟨⟨v, -⟩, F⟩
  have f5 : ∀ j, τ₂.1 5 j = σ.1 5 j := fun j => by rw [(F.keep (D := [(5, none)]) rfl (In_a 0 rfl)).1, g1]
  have f9 : ∀ j, τ₂.1 9 j = τ.1 9 j := fun j => (F.keep (D := [(9, none)]) rfl (In_a 0 rfl)).1
  have f33 : τ₂.1 0 33 = nI (cntw H P V n) := by rw [(F.keep (D := [(0, some 33)]) rfl (In_o 0 rfl)).1, g2]
  have f34 : τ₂.1 0 34 = τ.1 0 34 := (F.keep (D := [(0, some 34)]) rfl (In_o 0 rfl)).1
  rw [v, show gz H * 1048576 + (wA (gn H) (gS H) (recol (gc H) P (sb P n)) (go H) (gn H)).2 = gv H P n from rfl]
  have hb := gv_abs w P n
  have step : ∀ τ', YM H P V σ (n + 1) τ' → wp (F12_laysWays_b148 N k (nI P) (zL V) (nI (sb P n)) (nI n) τ') fun _ τ => YM H P V σ (2 ^ pc P 20) τ := fun τ' h => by
    unfold F12_laysWays_b148
    rw [sb_nx n hP20, lt_e, show (1 : Int32) = nI 1 from rfl, nI_add]
    exact hk (m - 1) _ (by omega) ⟨n + 1, τ', by omega, rfl, h⟩
  by_cases hit : gv H P n = V
  rotate_left
  · rw [if_pos (by exact fun z => hit (by have := (zL_eq (by omega) (by omega)).mp z; omega))]
    have ec : cntw H P V (n + 1) = cntw H P V n := by
      conv => lhs; unfold cntw
      rw [if_neg hit]
      rfl
    refine step _ ⟨f5, by rw [f33, ec], fun z => ?_, fun i hi => ?_⟩
    · rw [f34, g3 (by rw [← ec]; exact z)]
      conv => rhs; unfold fstw
      rw [if_neg fun z => hit z.1]
    · rw [f9, g4 i hi]
      conv => rhs; unfold bluw
      rw [if_neg fun z => hit z.1]
      rfl
  · rw [if_neg (by exact fun z => z ((zL_eq (by omega) (by omega)).mpr (by rw [hit])))]
    have cl := cntw_le H P V n
    have ec : cntw H P V (n + 1) = cntw H P V n + 1 := by
      conv => lhs; unfold cntw
      rw [if_pos hit]
    have fin : ∀ ρ : Ms, (∀ k' i, k' ≠ 0 → ρ.1 k' i = τ₂.1 k' i) → ρ.1 0 33 = nI (cntw H P V n) → ρ.1 0 34 = nI (fstw H P V (n + 1)) → wp (F12_laysWays_b84 N k (nI P) (zL V) (nI (sb P n)) (nI n) ρ) fun _ τ => YM H P V σ (2 ^ pc P 20) τ := fun ρ r1 r2 r3 => by
      unfold F12_laysWays_b84
      rw [r2, show (1 : Int32) = nI 1 from rfl, nI_add, lt_e]
      refine mCount (by omega) hP31 (sb_lt n hP31) hn (by rw [rI_k (by decide), r1 _ _ (by decide), f5]; exact c.1.at0.1) (step _ ?_)
      have p : ∀ k' i, k' ≠ 9 → (mcS P (sb P n) (gn H) (sI ρ 0 33 (nI (cntw H P V n + 1)))).1 k' i = (sI ρ 0 33 (nI (cntw H P V n + 1))).1 k' i := fun k' i h => if_neg fun z => h z.1
      refine ⟨fun j => by rw [p _ _ (by decide), rI_k (by decide), r1 _ _ (by decide), f5], by rw [p _ _ (by decide), rI_e rfl rfl, ec], fun _ => by rw [p _ _ (by decide), rI_j (by decide), r3], fun i hi => ?_⟩
      refine (if_pos ⟨rfl, hi⟩).trans ?_
      rw [rI_k (by decide), r1 _ _ (by decide), f9, g4 i hi, nI_add]
      conv => rhs; unfold bluw
      unfold bl1
      by_cases y : P.testBit i = true ∧ (sb P n).testBit i = false
      · rw [if_pos y, if_pos ⟨hit, y⟩]
      · rw [if_neg y, if_neg fun z => y z.2]
    by_cases z : cntw H P V n = 0
    · rw [f33, z, if_neg (by exact fun y => y rfl), lt_e]
      refine fin _ (fun k' i h => rI_k h) (by rw [rI_j (by decide), f33]) ?_
      rw [rI_e rfl rfl]
      unfold fstw
      rw [if_pos ⟨hit, z⟩]
    · rw [f33, if_pos (by exact fun y => z ((nI_eq (b := 0) (by omega) (by omega)).mp y))]
      refine fin _ (fun k' i h => rfl) f33 ?_
      rw [f34, g3 z]
      conv => rhs; unfold fstw
      rw [if_neg fun y => z y.2]
theorem mWays {N P : Nat} {V : Int} {H : HG} {σ : Ms} (hN : 2000 < N) (w : WG H) (c : MG 0 H σ) (hp : okS (gn H) (gS H) (gc H) P) (hV : -20971520 ≤ V ∧ V ≤ 20971520) : wp (F12_laysWays N (nI P) (zL V) σ) fun _ τ => YM H P V σ (2 ^ pc P 20) τ := by
  unfold F12_laysWays F12_laysWays_b13
  rw [lt_e, lt_e]
  refine wp_fx (fun m x => ∃ i τ, i + m = 20 ∧ x = (nI P, zL V, nI i, τ) ∧ (∀ j, τ.1 5 j = σ.1 5 j) ∧ τ.1 0 33 = nI 0 ∧ ∀ j, j < i → τ.1 9 j = nI 0) ?_ (n := 20) (by omega) ⟨0, _, by omega, rfl, fun j => by rw [rI_k (by decide), rI_k (by decide)], by rw [rI_j (by decide), rI_e rfl rfl]; rfl, fun j hj => absurd hj (Nat.not_lt_zero j)⟩
  rintro m k _ ⟨i, τ, hi, rfl, g1, g2, g4⟩ hk
  dsimp only
  unfold F12_laysWays_b13B
  by_cases q : i = 20
  rotate_left
  · rw [show (20 : Int32) = nI 20 from rfl, if_neg (nI_ge (by omega) (by omega)), ixb_nI (by omega) (by omega), ck_t, nI_clamp (by omega), lt_e, show (1 : Int32) = nI 1 from rfl, nI_add]
    refine hk (m - 1) _ (by omega) ⟨i + 1, _, by omega, rfl, fun j => by rw [rI_k (by decide), g1], by rw [rI_k (by decide), g2], fun j hj => ?_⟩
    by_cases z : j = i
    · rw [z, rI_e rfl rfl]
      rfl
    · rw [rI_j z, g4 j (by omega)]
  subst q
  rw [if_pos (by decide)]
  exact mWays_40 hN w c hp hV ⟨g1, g2, fun z => absurd rfl z, fun i hi => g4 i (by have := w.n; omega)⟩
