theorem bn_s {A B : Type} {a : B} {τ : Ms} {k : B → Ms → Option (A × Ms)} : bn (some (a, τ)) k = k a τ := rfl
theorem lt_e {A B : Type} {a : A} {f : A → B} : lt a f = f a := rfl
theorem nk0 : nkB 0 = true := by decide
theorem nk1 : nkB 1 = true := by decide
theorem no11 (c : Int32) (σ : Ms) : F11_no c σ = some (0, sI σ 11 17 c) := rfl
theorem no12 (c : Int32) (σ : Ms) : F12_no c σ = some (0, sI σ 0 0 c) := rfl
theorem yes11 (σ : Ms) : F11_yes σ = some (1, sI σ 11 17 0) := rfl
theorem in4 (p : Int32) : (¬ (p < 0) ∧ ¬ (4 : Int32) ≤ p) ↔ ∃ t, t < 4 ∧ p = nI t := by
  constructor
  · rintro ⟨a, b⟩
    rcases three4 p with h | h | h
    · exact absurd h a
    · exact absurd h b
    · exact h
  · rintro ⟨t, ht, rfl⟩
    exact ⟨nI_pos (by omega), fun z => by have := (lit_le (c := 4) 4 (b := t) rfl (by omega) (by omega)).mp z; omega⟩
theorem isSort_in {t : Nat} (ht : t < 4) (σ : Ms) : F9_isSort (nI t) σ = some (1, σ) := by
  unfold F9_isSort
  rw [if_neg (nI_pos (by omega)), if_neg fun z => absurd ((lit_lt (c := 3) 3 rfl (by omega) (by omega)).mp z) (by omega)]
theorem isSort_out {p : Int32} (h : ¬ ∃ t, t < 4 ∧ p = nI t) (σ : Ms) : F9_isSort p σ = some (0, σ) := by
  unfold F9_isSort
  by_cases h0 : p < 0
  · rw [if_pos h0]
  obtain ⟨j, hj, rfl⟩ := nI_of h0
  rw [if_neg h0, if_pos ((lit_lt (c := 3) 3 rfl (by omega) hj).mpr (Nat.lt_of_not_le fun z => h ⟨j, by omega, rfl⟩))]
theorem isTray_out {p : Int32} (h : ¬ ∃ t, t < 4 ∧ p = nI t) (σ : Ms) : F9_isTray p σ = some (0, σ) := by
  by_cases h0 : p < 0
  · exact isTray_lo h0 σ
  rcases three4 p with a | a | a
  · exact absurd a h0
  · exact isTray_hi h0 a σ
  · exact absurd a h
theorem misc_end {σ : Ms} (c : Int32) (h : I_misc σ) : I_misc (sI (sI (sI (sI σ 11 17 c) 0 1 0) 0 0 0) 0 0 c) := by
  simpa [I_misc, sI] using h.2
theorem tray_end {σ : Ms} (c : Int32) (h : I_tray σ) : I_tray (sI (sI (sI (sI σ 11 17 c) 0 1 0) 0 0 0) 0 0 c) := by
  simpa [I_tray, sI] using h
theorem k_tray (N : Nat) (hN : 60 < N) (p0 p1 p2 : Int32) (σ : Ms) (hm : I_misc σ) (ht : I_tray σ) : wp (F11_tray N p0 p1 p2 σ) fun r t => wp (F12_tray N p0 p1 p2 t) fun r' t' => r = r' ∧ I_misc t' ∧ I_tray t' := by
  unfold F11_tray F12_tray
  by_cases h0 : ∃ t, t < 4 ∧ p0 = nI t
  · have ⟨n1, n2⟩ := (in4 p0).mpr h0
    obtain ⟨t, ht4, rfl⟩ := h0
    rw [isTray_in ht4, bn_s, if_neg (by decide)]
    simp only [lt_e, if_neg n1, if_neg n2]
    by_cases h1 : ∃ t, t < 4 ∧ p1 = nI t
    · have ⟨m1, m2⟩ := (in4 p1).mpr h1
      obtain ⟨s, hs4, rfl⟩ := h1
      have m3 : nI s ≤ (3 : Int32) := (le_lit 3 rfl (by omega) (by omega)).mpr (by omega)
      rw [isSort_in hs4, bn_s, if_pos (by decide)]
      simp only [if_neg m1, if_pos m3]
      by_cases h2 : p2 ≤ (60 : Int32)
      · simp only [if_pos h2]
        by_cases h3 : (0 : Int32) ≤ p2
        · simp only [if_pos h3]
          obtain ⟨m, hm0, rfl⟩ := nI_of (x := p2) (by rw [Int32.not_lt]; exact h3)
          have hm60 : m ≤ 60 := (le_lit 60 rfl hm0 (by omega)).mp h2
          unfold F9_lay
          rw [isTray_in ht4, bn_s, if_neg (by decide), if_pos h2]
          simp only [ixb_nI ht4 (by decide), ck_t, lt_e]
          refine wp_bn.mpr (wp_mono (lay_loop N ht4 hm60 hN _) ?_)
          rintro _ τ ⟨e1, e2⟩
          rw [yes11, bn_s, nk1, ck_t]
          refine wp_some.mpr (wp_mono (tray_loop N ht4 hm60 hN _) ?_)
          rintro r' τ' ⟨rfl, f1, f2⟩
          have g1 : ∀ k j, τ'.1 k j = (sI (sI (sI (sI (sI (sI (sI σ 14 t (nI s)) 15 t (nI m)) 11 17 0) 0 1 0) 0 0 0) 1 t (nI s)) 2 t (nI m)).1 k j := fun k j => by
            rw [f1]
            simp only [sI, e1, nI_clamp (show t < 2 ^ 31 by omega)]
          have g2 : ∀ k j, τ'.2 k j = if k = 3 ∧ 60 * t ≤ j ∧ j < 60 * t + m then 0 else if k = 16 + t ∧ j < m then 0 else σ.2 k j := fun k j => by
            rw [f2]
            show (if _ then _ else τ.2 k j) = _
            rw [e2]
            rfl
          refine ⟨rfl, ?_, ?_⟩
          · unfold I_misc
            rw [g1, g1, g2, g2, g2, g2]
            have z1 : ¬ 11 = 16 + t := by omega
            have z2 : ¬ 0 = 16 + t := by omega
            simp [sI, z1, z2, hm.2]
          · intro u hu
            obtain ⟨a, b, c, d, e⟩ := ht u hu
            have w1 : ¬ 3 = 16 + t := by omega
            have w2 : ¬ 16 + u = 3 := by omega
            simp only [g1, g2]
            by_cases q : u = t
            · subst q
              refine ⟨by simp [sI], Or.inr ⟨m, hm60, by simp [sI]⟩, by simp [sI], ⟨s, hs4, by simp [sI]⟩, fun i hi => ?_⟩
              by_cases qi : i < m
              · rw [if_neg fun z => w2 z.1, if_pos ⟨by trivial, qi⟩, if_pos ⟨by trivial, by omega, by omega⟩]
              · rw [if_neg fun z => w2 z.1, if_neg fun z => qi z.2, if_neg fun z => by omega, if_neg fun z => w1 z.1]
                exact e i hi
            · refine ⟨by simpa [sI, q] using a, by simpa [sI, q] using b, by simpa [sI, q] using c, by simpa [sI, q] using d, fun i hi => ?_⟩
              rw [if_neg fun z => w2 z.1, if_neg fun z => by omega, if_neg fun z => by omega, if_neg fun z => w1 z.1]
              exact e i hi
        · simp only [if_neg h3, no11, no12, bn_s, nk0, ck_t]
          exact wp_some.mpr (wp_some.mpr ⟨rfl, misc_end 6 hm, tray_end 6 ht⟩)
      · simp only [if_neg h2, no11, no12, bn_s, nk0, ck_t]
        exact wp_some.mpr (wp_some.mpr ⟨rfl, misc_end 5 hm, tray_end 5 ht⟩)
    · have m0 : ¬ (¬ p1 < 0 ∧ p1 ≤ (3 : Int32)) := fun z => h1 ((in4 p1).mp ⟨z.1, fun y => by
        obtain ⟨j, hj, rfl⟩ := nI_of z.1
        have a := (le_lit 3 rfl hj (by omega)).mp z.2
        have b := (lit_le (c := 4) 4 rfl (by omega) hj).mp y
        omega⟩)
      rw [isSort_out h1, bn_s, if_neg (by decide)]
      unfold F11_tray_b14 F12_tray_b28
      simp only [no11, no12, bn_s, nk0, ck_t]
      refine wp_some.mpr ?_
      by_cases q1 : p1 < 0
      · rw [if_pos q1]
        exact wp_some.mpr ⟨rfl, misc_end 1 hm, tray_end 1 ht⟩
      · rw [if_neg q1, if_neg fun z => m0 ⟨q1, z⟩]
        exact wp_some.mpr ⟨rfl, misc_end 1 hm, tray_end 1 ht⟩
  · have m0 : ¬ (¬ p0 < 0 ∧ ¬ (4 : Int32) ≤ p0) := fun z => h0 ((in4 p0).mp z)
    rw [isTray_out h0, bn_s, if_pos rfl]
    unfold F11_tray_b14 F12_tray_b28
    simp only [no11, no12, bn_s, nk0, ck_t, lt_e]
    refine wp_some.mpr ?_
    by_cases q1 : p0 < 0
    · rw [if_pos q1]
      exact wp_some.mpr ⟨rfl, misc_end 1 hm, tray_end 1 ht⟩
    · have q2 : (4 : Int32) ≤ p0 := Classical.byContradiction fun z => m0 ⟨q1, z⟩
      rw [if_neg q1, if_pos q2]
      exact wp_some.mpr ⟨rfl, misc_end 1 hm, tray_end 1 ht⟩
