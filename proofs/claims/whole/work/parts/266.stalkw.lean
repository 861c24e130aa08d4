theorem cmp_eq {x y : Int64} : lg_cmp x y = 0 ↔ x = y := by
  obtain ⟨a, a1, a2, rfl⟩ := zL_of x
  obtain ⟨b, b1, b2, rfl⟩ := zL_of y
  rw [zL_eq ⟨a1, a2⟩ ⟨b1, b2⟩, zL_inj ⟨a1, a2⟩ ⟨b1, b2⟩]
theorem at_ok {t n j : Nat} {σ : Ms} (ht : t < 4) (hn : n ≤ 60) (e : σ.1 15 t = nI n) (hj : j < n) : F9_at (nI t) (nI j) σ = some (σ.2 (16 + t) j, σ) := by
  unfold F9_at
  rw [show (1 : Int32) = nI 1 from rfl, holds_yes ht hn e (by omega), bn_s, if_neg (by decide), ixb_nI ht (by omega), ck_t, ixb_nI (by omega) (by omega), ck_t, nI_clamp (by omega), nI_clamp (by omega)]
theorem numberOf_ok {t j : Nat} {σ : Ms} (ht : t < 4) (hj : j < 60) : F12_numberOf (nI t) (nI j) σ = some (σ.2 3 (60 * t + j), σ) := by
  unfold F12_numberOf
  rw [show (60 : Int32) = nI 60 from rfl, nI_mul, nI_add, ixb_nI (by omega) (by omega), ck_t, nI_clamp (by omega)]
theorem isTray12_in {t : Nat} (ht : t < 4) (σ : Ms) : F12_isTray (nI t) σ = some (nI 1, σ) := by
  unfold F12_isTray
  rw [isInN (c := 3) rfl (by omega), decide_eq_true (by omega), bn_s, nk_b, ck_t]
  rfl
/-- worth of a stalk, from its top on -/
def stw (d : Nat → Nat) (n : Nat) : Nat → Int
  | 0 => 0
  | m + 1 => brw (d (n - (m + 1))) (stw d n m)
theorem stw_ok (d : Nat → Nat) (n : Nat) : ∀ m, m ≤ 20 → Ok (stw d n m) m
  | 0, _ => Ok_0
  | m + 1, h => Ok_brw (stw_ok d n m (by omega)) (by omega)
