theorem nI_sub {a b : Nat} (h : b ≤ a) : nI a - nI b = nI (a - b) := by
  have e : nI a = nI (a - b) + nI b := by rw [nI_add, Nat.sub_add_cancel h]
  rw [e, Int32.add_sub_cancel]
theorem holds_yes {t n i k : Nat} {σ : Ms} (ht : t < 4) (hn : n ≤ 60) (e : σ.1 15 t = nI n) (h : i + k ≤ n) : F9_holds (nI t) (nI i) (nI k) σ = some (1, σ) := by
  unfold F9_holds
  rw [isTray_in ht, bn_s, if_neg (by decide), if_neg (nI_pos (by omega)), if_neg (nI_pos (by omega)), ixb_nI ht (by omega), ck_t, nI_clamp (by omega), e, if_neg (nI_nlt (by omega) (by omega)), ck_t, nI_sub (by omega), if_neg (nI_nlt (by omega) (by omega))]
theorem holds_no {t n : Nat} {p q : Int32} {σ : Ms} (ht : t < 4) (hn : n ≤ 60) (e : σ.1 15 t = nI n) (h : ¬ ∃ i k, p = nI i ∧ q = nI k ∧ i + k ≤ n) : F9_holds (nI t) p q σ = some (0, σ) := by
  unfold F9_holds
  rw [isTray_in ht, bn_s, if_neg (by decide)]
  by_cases h1 : p < 0
  · rw [if_pos h1]
  rw [if_neg h1]
  by_cases h2 : q < 0
  · rw [if_pos h2]
  rw [if_neg h2, ixb_nI ht (by omega), ck_t, nI_clamp (by omega), e, ck_t]
  obtain ⟨i, hi, rfl⟩ := nI_of h1
  obtain ⟨k, hk, rfl⟩ := nI_of h2
  by_cases h3 : n < i
  · rw [if_pos ((nI_ltI (by omega) hi).mpr h3)]
  · rw [if_neg (nI_nlt (by omega) (by omega)), nI_sub (by omega), if_pos ((nI_ltI (by omega) hk).mpr (Nat.lt_of_not_le fun z => h ⟨i, k, rfl, rfl, by omega⟩))]
theorem missing_yes {t : Nat} {σ : Ms} (ht : t < 4) (e : σ.1 15 t = -1) : F9_isMissing (nI t) σ = some (1, σ) := by
  unfold F9_isMissing
  rw [isTray_in ht, bn_s, if_neg (by decide), ixb_nI ht (by omega), ck_t, nI_clamp (by omega), if_neg fun z => z e]
  rfl
theorem nI_neg1 {n : Nat} (h : n < 2 ^ 31) : nI n ≠ (-1 : Int32) := fun z => nI_pos h (by rw [z]; decide)
theorem missing_no {t n : Nat} {σ : Ms} (ht : t < 4) (hn : n ≤ 60) (e : σ.1 15 t = nI n) : F9_isMissing (nI t) σ = some (0, σ) := by
  unfold F9_isMissing
  rw [isTray_in ht, bn_s, if_neg (by decide), ixb_nI ht (by omega), ck_t, nI_clamp (by omega), if_pos (by rw [e]; exact nI_neg1 (by omega))]
theorem trayed_out {p : Int32} (h : ¬ ∃ t, t < 4 ∧ p = nI t) (σ : Ms) : F12_trayed p σ = some (1, σ) := by
  unfold F12_trayed F12_trayed_b9
  by_cases h0 : p < 0
  · rw [if_pos h0]
  obtain ⟨j, hj, rfl⟩ := nI_of h0
  rw [if_neg h0, if_neg fun z => h ⟨j, (lt_lit (c := 4) 4 rfl hj (by omega)).mp z, rfl⟩]
theorem trayed_in {t : Nat} (ht : t < 4) (σ : Ms) : F12_trayed (nI t) σ = some (if (0 : Int32) ≤ σ.1 2 t then 0 else 3, σ) := by
  unfold F12_trayed
  rw [if_neg (nI_pos (by omega)), if_pos ((lt_lit (c := 4) 4 rfl (by omega) (by omega)).mpr ht), ixb_nI ht (by omega), ck_t, nI_clamp (by omega)]
  split <;> rfl
theorem place {σ : Ms} (hI : I_tray σ) (p q : Int32) : (∃ c : Int32, c ≠ 0 ∧ ¬ c ≤ 0 ∧ F11_placeStatus p q σ = some (c, σ) ∧ ∀ τ : Ms, τ.1 2 = σ.1 2 → F12_placed p q τ = some (c, τ)) ∨ ∃ t j n, t < 4 ∧ n ≤ 60 ∧ j < n ∧ p = nI t ∧ q = nI j ∧ σ.1 15 t = nI n ∧ F11_placeStatus p q σ = some (0, σ) ∧ ∀ τ : Ms, τ.1 2 = σ.1 2 → F12_placed p q τ = some (0, τ) := by
  unfold F11_placeStatus F12_placed
  by_cases h0 : ∃ t, t < 4 ∧ p = nI t
  · obtain ⟨t, ht, rfl⟩ := h0
    obtain ⟨a, b, -⟩ := hI t ht
    rcases b with b | ⟨n, hn, b⟩
    · refine Or.inl ⟨3, by decide, by decide, ?_, fun τ hτ => ?_⟩
      · rw [isTray_in ht, bn_s, if_pos (by decide), missing_yes ht (a.trans b), bn_s, if_neg (by decide)]
      · rw [trayed_in ht, bn_s, hτ, b, if_neg (by decide), if_neg (by decide)]
    · have c0 : (0 : Int32) ≤ nI n := nI_pos' (by omega)
      by_cases h1 : ∃ j, j < n ∧ q = nI j
      · obtain ⟨j, hj, rfl⟩ := h1
        refine Or.inr ⟨t, j, n, ht, hn, hj, rfl, rfl, a.trans b, ?_, fun τ hτ => ?_⟩
        · rw [isTray_in ht, bn_s, if_pos (by decide), missing_no ht hn (a.trans b), bn_s, if_pos rfl, show (1 : Int32) = nI 1 from rfl, holds_yes ht hn (a.trans b) (by omega), bn_s, if_neg (by decide)]
        · rw [trayed_in ht, bn_s, hτ, b, if_pos c0, if_pos (by decide), if_neg (nI_pos (by omega)), ixb_nI ht (by omega), ck_t, nI_clamp (by omega), b, if_pos (nI_lt hj (by omega))]
      · refine Or.inl ⟨4, by decide, by decide, ?_, fun τ hτ => ?_⟩
        · rw [isTray_in ht, bn_s, if_pos (by decide), missing_no ht hn (a.trans b), bn_s, if_pos rfl, holds_no ht hn (a.trans b) ?_, bn_s, if_pos rfl]
          rintro ⟨i, k, rfl, e, hk⟩
          have : k % 2 ^ 32 = 1 := by
            have := congrArg Int32.toInt e
            have e2 : (nI k).toInt = (k : Int) := nI_toInt (by omega)
            rw [e2] at this
            have : (k : Int) = 1 := this.symm
            omega
          exact h1 ⟨i, by omega, rfl⟩
        · rw [trayed_in ht, bn_s, hτ, b, if_pos c0, if_pos (by decide)]
          by_cases q0 : q < 0
          · rw [if_pos q0]
            rfl
          · obtain ⟨j, hj, rfl⟩ := nI_of q0
            rw [if_neg q0, ixb_nI ht (by omega), ck_t, nI_clamp (by omega), b, if_neg fun z => h1 ⟨j, (nI_ltI hj (by omega)).mp z, rfl⟩]
            rfl
  · refine Or.inl ⟨1, by decide, by decide, ?_, fun τ _ => ?_⟩
    · rw [isTray_out h0, bn_s, if_neg (by decide)]
    · rw [trayed_out h0, bn_s, if_neg (by decide)]
theorem fits_both (v : Int64) (s : Int32) : ∃ w, (∀ σ, F9_fitted v s σ = some (w, σ)) ∧ ∀ σ, F12_trims s v σ = some (w, σ) := by
  unfold F9_fitted F12_trims
  by_cases h0 : s = 0
  · subst h0
    exact ⟨_, fun σ => if_pos rfl, fun σ => if_neg fun z => z rfl⟩
  by_cases h1 : s = 1
  · subst h1
    exact ⟨_, fun σ => (if_neg h0).trans (if_pos rfl), fun σ => (if_pos h0).trans (if_neg fun z => z rfl)⟩
  by_cases h2 : s = 2
  · subst h2
    exact ⟨_, fun σ => (if_neg h0).trans ((if_neg h1).trans (if_pos rfl)), fun σ => (if_pos h0).trans ((if_pos h1).trans (if_neg fun z => z rfl))⟩
  · exact ⟨_, fun σ => (if_neg h0).trans ((if_neg h1).trans (if_neg h2)), fun σ => (if_pos h0).trans ((if_pos h1).trans (if_pos h2))⟩
