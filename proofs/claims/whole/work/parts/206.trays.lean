theorem c_status : ∀ σ, I_misc σ → wp (F11_status σ) fun r t => wp (F12_status t) fun r' t' => r = r' ∧ I_misc t' := fun σ h => wp_some.mpr (wp_some.mpr ⟨h.1, h⟩)
theorem c_top : ∀ σ, I_misc σ → wp (F11_top σ) fun r t => wp (F12_top t) fun r' t' => r = r' ∧ I_misc t' := fun σ h => wp_some.mpr (wp_some.mpr ⟨h.2.1, h⟩)
theorem c_bottom : ∀ σ, I_misc σ → wp (F11_bottom σ) fun r t => wp (F12_bottom t) fun r' t' => r = r' ∧ I_misc t' := fun σ h => wp_some.mpr (wp_some.mpr ⟨h.2.2, h⟩)
theorem lit_le {c : Int32} (a : Nat) {b : Nat} (hc : c = nI a) (ha : a < 2 ^ 31) (hb : b < 2 ^ 31) : c ≤ nI b ↔ a ≤ b := by rw [hc, nI_leI ha hb]
theorem le_lit {c : Int32} {a : Nat} (b : Nat) (hc : c = nI b) (ha : a < 2 ^ 31) (hb : b < 2 ^ 31) : nI a ≤ c ↔ a ≤ b := by rw [hc, nI_leI ha hb]
theorem lit_lt {c : Int32} (a : Nat) {b : Nat} (hc : c = nI a) (ha : a < 2 ^ 31) (hb : b < 2 ^ 31) : c < nI b ↔ a < b := by rw [hc, nI_ltI ha hb]
theorem lt_lit {c : Int32} {a : Nat} (b : Nat) (hc : c = nI b) (ha : a < 2 ^ 31) (hb : b < 2 ^ 31) : nI a < c ↔ a < b := by rw [hc, nI_ltI ha hb]
theorem nI_mul (a b : Nat) : nI a * nI b = nI (a * b) := (Int32.ofNat_mul a b).symm
/-- the class lays a tray -/
theorem lay_loop (N : Nat) {t m : Nat} (ht : t < 4) (hm : m ≤ 60) (hN : 60 < N) (σ : Ms) : wp (F9_lay_b31 N (nI t) (nI m) (0 : Int32) σ) fun _ τ => τ.1 = σ.1 ∧ ∀ k j, τ.2 k j = if k = 16 + t ∧ j < m then 0 else σ.2 k j := by
  unfold F9_lay_b31
  refine wp_fx (fun n x => ∃ i, i + n = m ∧ x.1 = nI t ∧ x.2.1 = nI m ∧ x.2.2.1 = nI i ∧ x.2.2.2.1 = σ.1 ∧ ∀ k j, x.2.2.2.2 k j = if k = 16 + t ∧ j < i then 0 else σ.2 k j) ?_ (n := m) (by omega) ⟨0, by omega, rfl, rfl, rfl, rfl, fun k j => (if_neg (by omega)).symm⟩
  rintro n k ⟨a, b, c, τ⟩ ⟨i, hi, rfl, rfl, rfl, h1, h2⟩ hk
  simp only
  unfold F9_lay_b31B
  refine wp_ite.mpr ⟨fun hq => ?_, fun hq => ?_⟩
  · have := (nI_leI (by omega) (by omega)).mp hq
    have e : i = m := by omega
    subst e
    exact wp_some.mpr ⟨h1, h2⟩
  · have hlt : i < m := by
      have := mt (nI_leI (a := m) (b := i) (by omega) (by omega)).mpr hq
      omega
    rw [ixb_nI (by omega) (by omega), ixb_nI (by omega) (by omega), ck_t, ck_t]
    refine hk (n - 1) _ (by omega) ⟨i + 1, by omega, rfl, rfl, nI_1 i, h1, fun k j => ?_⟩
    show (if k = 16 + (nI t).toNatClampNeg ∧ j = (nI i).toNatClampNeg then 0 else τ.2 k j) = _
    rw [nI_clamp (by omega), nI_clamp (by omega), h2]
    by_cases q : k = 16 + t
    · by_cases q1 : j = i
      · rw [if_pos ⟨q, q1⟩, if_pos ⟨q, by omega⟩]
      · rw [if_neg fun z => q1 z.2]
        by_cases q2 : j < i
        · rw [if_pos ⟨q, q2⟩, if_pos ⟨q, by omega⟩]
        · rw [if_neg fun z => q2 z.2, if_neg fun z => by omega]
    · rw [if_neg fun z => q z.1, if_neg fun z => q z.1, if_neg fun z => q z.1]
/-- the model lays a tray -/
theorem tray_loop (N : Nat) {t m : Nat} (ht : t < 4) (hm : m ≤ 60) (hN : 60 < N) (σ : Ms) : wp (F12_tray_b74 N (nI t) (nI m) (0 : Int32) σ) fun r τ => r = 1 ∧ τ.1 = σ.1 ∧ ∀ k j, τ.2 k j = if k = 3 ∧ 60 * t ≤ j ∧ j < 60 * t + m then 0 else σ.2 k j := by
  unfold F12_tray_b74
  refine wp_fx (fun n x => ∃ i, i + n = m ∧ x.1 = nI t ∧ x.2.1 = nI m ∧ x.2.2.1 = nI i ∧ x.2.2.2.1 = σ.1 ∧ ∀ k j, x.2.2.2.2 k j = if k = 3 ∧ 60 * t ≤ j ∧ j < 60 * t + i then 0 else σ.2 k j) ?_ (n := m) (by omega) ⟨0, by omega, rfl, rfl, rfl, rfl, fun k j => (if_neg (by omega)).symm⟩
  rintro n k ⟨a, b, c, τ⟩ ⟨i, hi, rfl, rfl, rfl, h1, h2⟩ hk
  simp only
  unfold F12_tray_b74B
  refine wp_ite.mpr ⟨fun hq => ?_, fun hq => ?_⟩
  · have := (nI_leI (by omega) (by omega)).mp hq
    have e : i = m := by omega
    subst e
    exact wp_some.mpr ⟨rfl, h1, h2⟩
  · have hlt : i < m := by
      have := mt (nI_leI (a := m) (b := i) (by omega) (by omega)).mpr hq
      omega
    have ea : (60 : Int32) * nI t + nI i = nI (60 * t + i) := by
      show nI 60 * nI t + nI i = _
      rw [nI_mul, nI_add]
    rw [ea, ixb_nI (by omega) (by omega), ck_t]
    refine hk (n - 1) _ (by omega) ⟨i + 1, by omega, rfl, rfl, nI_1 i, h1, fun k j => ?_⟩
    show (if k = 3 ∧ j = (nI (60 * t + i)).toNatClampNeg then 0 else τ.2 k j) = _
    rw [nI_clamp (by omega), h2]
    by_cases q : k = 3
    · by_cases q1 : j = 60 * t + i
      · rw [if_pos ⟨q, q1⟩, if_pos ⟨q, by omega⟩]
      · rw [if_neg fun z => q1 z.2]
        by_cases q2 : 60 * t ≤ j ∧ j < 60 * t + i
        · rw [if_pos ⟨q, q2⟩, if_pos ⟨q, by omega⟩]
        · rw [if_neg fun z => q2 z.2, if_neg fun z => by omega]
    · rw [if_neg fun z => q z.1, if_neg fun z => q z.1, if_neg fun z => q z.1]
