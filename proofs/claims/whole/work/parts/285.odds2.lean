def Xw (m : Nat) : Nat := 46656000000 / wh m
theorem X_0 : ∀ m, m ≤ 6 → wh m * Xw m = 46656000000 := by decide +kernel
theorem X_s : ∀ a, a ≤ 6 → ∀ b, b ≤ a → Xw b = wh a / wh b * Xw a := by decide +kernel
theorem X_c : ∀ m, m ≤ 5 → Xw m = cm (m + 1) * Xw (m + 1) := by decide +kernel
theorem cm_d : ∀ m, m ≤ 6 → ∀ r, r ≤ m → 1 ≤ r → cm m = r * (cm m / r) := by decide +kernel
def clo (n : Nat) (on : Nat → Nat) (A : Nat) : Prop := ∀ i, i < n → ∀ j, on i = j + 1 → A.testBit i = true → A.testBit j = true
theorem ex_sub {S T j : Nat} (h : (ex S T).testBit j = true) : S.testBit j = true ∧ T.testBit (pc S j) = true := by
  have hj : j < 20 := Nat.lt_of_not_le fun z => by rw [bit_lt (ex_lt S T) z] at h; exact absurd h (by decide)
  rw [ex_bit hj, Bool.and_eq_true] at h
  exact h
theorem pc_subset {A S : Nat} (h : ∀ i, i < 20 → A.testBit i = true → S.testBit i = true) : pc A 20 ≤ pc S 20 := by
  have : pc S 20 = pc A 20 + pc (dif S A) 20 := pc_add fun i hi => by
    rw [dif_bit]
    cases b : A.testBit i
    · cases S.testBit i <;> rfl
    · rw [h i hi b]
      rfl
  omega
theorem ex_WS {n S T : Nat} {col on : Nat → Nat} (hW : WS n S col on) (hc : clo n on (ex S T)) : WS n (ex S T) col on := by
  obtain ⟨hn, hS, h⟩ := hW
  refine ⟨hn, lt_bits fun i hi => ?_, fun i hi => ⟨(h i hi).1, (h i hi).2.1, fun j hj => ⟨((h i hi).2.2 j hj).1, hc i hi j hj⟩⟩⟩
  cases b : (ex S T).testBit i
  · rfl
  · have := (ex_sub b).1
    rw [bit_lt hS hi] at this
    exact absurd this (by decide)
theorem brs_ex {n S T k : Nat} {col on : Nat → Nat} (hW : WS n S col on) (hc : clo n on (ex S T)) : ∀ m i, i < m → i < n → (ex S T).testBit i = true → (brs n (ex S T) on k).testBit i = (brs n S on k).testBit i
  | 0, i, h, _, _ => absurd h (Nat.not_lt_zero i)
  | m + 1, i, h, hi, hb => by
    have ho := (hW.2.2 i hi).2.1
    rw [brs_bit hi ho, brs_bit hi ho, hb, (ex_sub hb).1]
    by_cases z : on i = 0
    · rw [z]
      simp
    · obtain ⟨j, hj⟩ : ∃ j, on i = j + 1 := ⟨on i - 1, by omega⟩
      rw [hj, Nat.add_sub_cancel, brs_ex hW hc m j (by omega) (by omega) (hc i hi j hj hb)]
theorem left_ex {n S T k : Nat} {col on : Nat → Nat} (hW : WS n S col on) (hc : clo n on (ex S T)) : stb n (ex S T) (2 ^ k) on = ex S (dif T (fal n S on k (pc S 20))) := by
  have hn := hW.1
  have hp2 : 2 ^ n ≤ 2 ^ 20 := Nat.pow_le_pow_right (by decide) hn
  refine bits_eq (n := 20) (Nat.lt_of_lt_of_le (stb_lt n _ _ on) hp2) (ex_lt _ _) fun i hi => ?_
  rw [ex_bit hi, dif_bit]
  by_cases q : i < n
  · rw [stb_brs (ex_WS hW hc) i q, ex_bit hi]
    cases b : S.testBit i
    · rfl
    · cases t : T.testBit (pc S i)
      · rfl
      · have hb : (ex S T).testBit i = true := by rw [ex_bit hi, b, t]; rfl
        rw [fal_bit hi b (pc_lt hi b), brs_ex hW hc (i + 1) i (by omega) q hb]
        rfl
  · rw [bit_lt (stb_lt n _ _ on) (by omega), bit_lt hW.2.1 (by omega)]
    rfl
theorem left_clo {n S T k : Nat} {col on : Nat → Nat} (hW : WS n S col on) (hc : clo n on (ex S T)) : clo n on (ex S (dif T (fal n S on k (pc S 20)))) := by
  intro i hi j hj hb
  have hn := hW.1
  have ho := (hW.2.2 i hi).2.1
  have h1 := ex_sub hb
  rw [dif_bit, Bool.and_eq_true] at h1
  have hA : (ex S T).testBit i = true := by rw [ex_bit (by omega), h1.1, h1.2.1]; rfl
  have hAj := hc i hi j hj hA
  have hSj := ex_sub hAj
  rw [ex_bit (by omega), hSj.1, dif_bit, hSj.2]
  have e1 : (fal n S on k (pc S 20)).testBit (pc S i) = (brs n S on k).testBit i := fal_bit (by omega) h1.1 (pc_lt (by omega) h1.1)
  have e2 : (fal n S on k (pc S 20)).testBit (pc S j) = (brs n S on k).testBit j := fal_bit (by omega) hSj.1 (pc_lt (by omega) hSj.1)
  rw [e2]
  cases b : (brs n S on k).testBit j
  · rfl
  · have hbi : (brs n S on k).testBit i = true := by
      have hkj : ¬ j < k := fun z => by rw [brs_ge z] at b; exact absurd b (by decide)
      rw [brs_bit hi ho, h1.1, hj, Nat.add_sub_cancel, b]
      have : decide (k < i) = true := decide_eq_true (by omega)
      rw [this]
      simp
    rw [e1, hbi] at h1
    exact absurd h1.2.2 (by decide)
def PV (n S : Nat) (col on : Nat → Nat) (T s x : Nat) : Prop := x ≤ 46656000000 ∧ (clo n on (ex S T) → ∀ D, pc (ex S T) 20 < D → x = lk n col on D (ex S T) s * Xw (pc (ex S T) 20))
