theorem cmp_lt {a b : Int64} : lg_cmp a b < 0 ↔ a.toInt < b.toInt := by
  have h := lg_cmp_ge a b
  rw [Int64.le_iff_toInt_le] at h
  have h2 : lg_cmp a b < 0 ↔ ¬ 0 ≤ lg_cmp a b := by rw [Int32.not_le]
  rw [h2, h]
  omega
theorem cmp_gt {a b : Int64} : 0 < lg_cmp a b ↔ b.toInt < a.toInt := by
  unfold lg_cmp
  by_cases q : a > b
  · rw [if_pos q]
    exact ⟨fun _ => Int64.lt_iff_toInt_lt.mp q, fun _ => by decide⟩
  · rw [if_neg q]
    have hq : ¬ b.toInt < a.toInt := fun z => q (Int64.lt_iff_toInt_lt.mpr z)
    by_cases r : a = b
    · rw [if_pos r]
      exact ⟨fun z => absurd z (by decide), fun z => absurd z hq⟩
    · rw [if_neg r]
      exact ⟨fun z => absurd z (by decide), fun z => absurd z hq⟩
theorem isIn_ok (a b c : Int64) (σ : Ms) : F12_isIn a b c σ = some (if b.toInt ≤ a.toInt ∧ a.toInt ≤ c.toInt then 1 else 0, σ) := by
  unfold F12_isIn
  by_cases h : lg_cmp a b < 0
  · have := cmp_lt.mp h
    rw [if_pos h, if_neg (by omega)]
  · have h1 := mt cmp_lt.mpr h
    rw [if_neg h]
    by_cases g : 0 < lg_cmp a c
    · have := cmp_gt.mp g
      rw [if_pos g, if_neg (by omega)]
    · have g1 := mt cmp_gt.mpr g
      rw [if_neg g, if_pos ⟨by omega, by omega⟩]
/-- the model's test of an index -/
theorem isIn_ix {n : Nat} (hn : n < 2 ^ 31) (p : Int32) (σ : Ms) : (∃ i, i < n ∧ p = nI i ∧ F12_isIn p.toInt64 0 (nI n - 1).toInt64 σ = some (1, σ)) ∨ ((¬ ∃ i, i < n ∧ p = nI i) ∧ F12_isIn p.toInt64 0 (nI n - 1).toInt64 σ = some (0, σ)) := by
  have e1 : (nI n - 1).toInt = (n : Int) - 1 := by
    rw [Int32.toInt_sub, nI_toInt hn]
    show Int.bmod ((n : Int) - 1) (2 ^ 32) = _
    rw [Int.bmod_eq_of_le] <;> omega
  rw [isIn_ok, Int32.toInt_toInt64, Int32.toInt_toInt64, e1, show (0 : Int64).toInt = 0 from rfl]
  by_cases h : p < 0
  · have h1 : p.toInt < 0 := by simpa using Int32.lt_iff_toInt_lt.mp h
    refine Or.inr ⟨?_, by rw [if_neg (by omega)]⟩
    rintro ⟨i, hi, rfl⟩
    exact nI_pos (by omega) h
  · obtain ⟨j, hj, rfl⟩ := nI_of h
    rw [nI_toInt hj]
    by_cases g : j < n
    · exact Or.inl ⟨j, g, rfl, by rw [if_pos (by omega)]⟩
    · refine Or.inr ⟨?_, by rw [if_neg (by omega)]⟩
      rintro ⟨i, hi, e⟩
      have := (nI_eq hj (by omega)).mp e
      omega
