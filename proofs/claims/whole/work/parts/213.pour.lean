theorem pour_loop (N : Nat) {t i u j m r : Nat} (ht : t < 4) (hu : u < 4) (hi : i + m ≤ 60) (hj : j + m ≤ 60) (hr : (r = 0 ∧ j ≤ i) ∨ (r = 1 ∧ i < j)) (hN : 60 < N) (σ : Ms) : wp (F12_pour_b158 N (nI t) (nI i) (nI u) (nI j) (nI m) (nI r) (0 : Int32) σ) fun a τ => a = 1 ∧ τ.1 = σ.1 ∧ ∀ k b, τ.2 k b = if k = 3 ∧ 60 * u + j ≤ b ∧ b < 60 * u + j + m then σ.2 3 (60 * t + i + (b - (60 * u + j))) else σ.2 k b := by
  unfold F12_pour_b158
  refine wp_fx (fun n x => ∃ q, q + n = m ∧ x.1 = nI t ∧ x.2.1 = nI i ∧ x.2.2.1 = nI u ∧ x.2.2.2.1 = nI j ∧ x.2.2.2.2.1 = nI m ∧ x.2.2.2.2.2.1 = nI r ∧ x.2.2.2.2.2.2.1 = nI q ∧ x.2.2.2.2.2.2.2.1 = σ.1 ∧ ∀ k b, x.2.2.2.2.2.2.2.2 k b = if k = 3 ∧ 60 * u + j ≤ b ∧ b < 60 * u + j + m ∧ ((r = 0 ∧ b < 60 * u + j + q) ∨ (r = 1 ∧ 60 * u + j + m ≤ b + q)) then σ.2 3 (60 * t + i + (b - (60 * u + j))) else σ.2 k b) ?_ (n := m) (by omega) ⟨0, by omega, rfl, rfl, rfl, rfl, rfl, rfl, rfl, rfl, fun k b => (if_neg (by omega)).symm⟩
  rintro n kk ⟨a1, a2, a3, a4, a5, a6, a7, τ⟩ ⟨q, hq, rfl, rfl, rfl, rfl, rfl, rfl, rfl, h1, h2⟩ hk
  simp only at h1 h2 ⊢
  unfold F12_pour_b158B
  refine wp_ite.mpr ⟨fun hc => ?_, fun hc => ?_⟩
  · have := (nI_leI (by omega) (by omega)).mp hc
    have e : q = m := by omega
    subst e
    refine wp_some.mpr ⟨rfl, h1, fun k b => ?_⟩
    rw [h2]
    by_cases z : k = 3 ∧ 60 * u + j ≤ b ∧ b < 60 * u + j + q
    · rw [if_pos z, if_pos ⟨z.1, z.2.1, z.2.2, by omega⟩]
    · rw [if_neg z, if_neg fun y => z ⟨y.1, y.2.1, y.2.2.1⟩]
  · have hlt : q < m := by
      have := mt (nI_leI (a := m) (b := q) (by omega) (by omega)).mpr hc
      omega
    have step : ∀ d, d < m → ((r = 0 ∧ d = q) ∨ (r = 1 ∧ d + q + 1 = m)) → wp (F12_pour_b182 N kk (nI t) (nI i) (nI u) (nI j) (nI m) (nI r) (nI q) (nI d) τ) fun a τ => a = 1 ∧ τ.1 = σ.1 ∧ ∀ k b, τ.2 k b = if k = 3 ∧ 60 * u + j ≤ b ∧ b < 60 * u + j + m then σ.2 3 (60 * t + i + (b - (60 * u + j))) else σ.2 k b := by
      intro d hd hrd
      unfold F12_pour_b182
      have ea : (60 : Int32) * nI t + nI i + nI d = nI (60 * t + i + d) := by
        show nI 60 * nI t + nI i + nI d = _
        rw [nI_mul, nI_add, nI_add]
      have eb : (60 : Int32) * nI u + nI j + nI d = nI (60 * u + j + d) := by
        show nI 60 * nI u + nI j + nI d = _
        rw [nI_mul, nI_add, nI_add]
      rw [ea, eb, ixb_nI (by omega) (by omega), ixb_nI (by omega) (by omega), ck_t, ck_t, lt_e, nI_clamp (by omega), nI_clamp (by omega)]
      refine hk (n - 1) _ (by omega) ⟨q + 1, by omega, rfl, rfl, rfl, rfl, rfl, rfl, nI_1 q, h1, fun k b => ?_⟩
      show (if k = 3 ∧ b = 60 * u + j + d then τ.2 3 (60 * t + i + d) else τ.2 k b) = _
      have es : τ.2 3 (60 * t + i + d) = σ.2 3 (60 * t + i + d) := by
        rw [h2, if_neg (by omega)]
      by_cases z : k = 3 ∧ b = 60 * u + j + d
      · rw [if_pos z, if_pos ⟨z.1, by omega, by omega, by omega⟩, es]
        rw [show b - (60 * u + j) = d by omega]
      · rw [if_neg z, h2]
        by_cases y : k = 3 ∧ 60 * u + j ≤ b ∧ b < 60 * u + j + m ∧ ((r = 0 ∧ b < 60 * u + j + q) ∨ (r = 1 ∧ 60 * u + j + m ≤ b + q))
        · rw [if_pos y, if_pos ⟨y.1, y.2.1, y.2.2.1, by omega⟩]
        · rw [if_neg y, if_neg fun x => by omega]
    rcases hr with ⟨rfl, -⟩ | ⟨rfl, -⟩
    · rw [if_pos nI_0]
      exact step q hlt (Or.inl ⟨rfl, rfl⟩)
    · rw [if_neg (by decide), show (1 : Int32) = nI 1 from rfl, nI_sub (by omega), nI_sub (by omega)]
      exact step (m - 1 - q) (by omega) (Or.inr ⟨rfl, by omega⟩)
