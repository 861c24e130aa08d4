theorem misc_st {σ : Ms} (c : Int32) (h : I_misc σ) : I_misc (sI (sI (sI σ 11 17 c) 0 1 0) 0 0 c) := by
  simpa [I_misc, sI] using h.2
theorem tray_st {σ : Ms} (c : Int32) (h : I_tray σ) : I_tray (sI (sI (sI σ 11 17 c) 0 1 0) 0 0 c) := by
  simpa [I_tray, sI] using h
theorem k_read (p0 p1 : Int32) (σ : Ms) (hm : I_misc σ) (ht : I_tray σ) : wp (F11_read p0 p1 σ) fun r t => wp (F12_read p0 p1 t) fun r' t' => r = r' ∧ I_misc t' ∧ I_tray t' := by
  unfold F11_read F12_read
  rcases place ht p0 p1 with ⟨c, c0, c1, e1, e2⟩ | ⟨t, j, n, ht4, hn, hj, rfl, rfl, ed, e1, e2⟩
  · rw [e1, bn_s, if_neg c0]
    refine wp_some.mpr ?_
    rw [lt_e, e2 (sI (sI σ 11 17 c) 0 1 0) (by funext x; simp [sI]), bn_s, lt_e, if_neg (by simpa [sI] using c1)]
    exact wp_some.mpr ⟨show (-1 : Int32).toInt64 = -1 by decide, misc_st c hm, tray_st c ht⟩
  · rw [e1, bn_s, if_pos rfl]
    unfold F9_at
    rw [lt_e, show (1 : Int32) = nI 1 from rfl, holds_yes ht4 hn (show (sI σ 11 17 0).1 15 t = nI n from ed) (by omega), bn_s, if_neg (by decide), ixb_nI ht4 (by omega), ck_t, ixb_nI (by omega) (by omega), ck_t, bn_s]
    refine wp_some.mpr ?_
    have ea : (60 : Int32) * nI t + nI j = nI (60 * t + j) := by
      show nI 60 * nI t + nI j = _
      rw [nI_mul, nI_add]
    rw [lt_e, e2 (sI (sI σ 11 17 0) 0 1 0) (by funext x; simp [sI]), bn_s, lt_e, if_pos (by simp [sI]), ea, ixb_nI (by omega) (by omega), ck_t]
    refine wp_some.mpr ⟨?_, misc_st 0 hm, tray_st 0 ht⟩
    rw [nI_clamp (by omega), nI_clamp (by omega), nI_clamp (by omega)]
    exact (ht t ht4).2.2.2.2 j (by omega)
theorem k_write (p0 p1 : Int32) (p2 : Int64) (σ : Ms) (hm : I_misc σ) (ht : I_tray σ) : wp (F11_write p0 p1 p2 σ) fun r t => wp (F12_write p0 p1 p2 t) fun r' t' => r = r' ∧ I_misc t' ∧ I_tray t' := by
  unfold F11_write F12_write
  rcases place ht p0 p1 with ⟨c, c0, c1, e1, e2⟩ | ⟨t, j, n, ht4, hn, hj, rfl, rfl, ed, e1, e2⟩
  · rw [e1, bn_s, if_neg c0, no11, bn_s, nk0, ck_t]
    refine wp_some.mpr ?_
    rw [lt_e, e2 (sI (sI σ 11 17 c) 0 1 0) (by funext x; simp [sI]), bn_s, lt_e, if_neg (by simpa [sI] using c1)]
    exact wp_some.mpr ⟨rfl, misc_st c hm, tray_st c ht⟩
  · rw [e1, bn_s, if_pos rfl]
    unfold F9_put
    obtain ⟨w, w1, w2⟩ := fits_both p2 (σ.1 14 t)
    have e14 : σ.1 14 t = σ.1 1 t := (ht t ht4).2.2.1
    have hc : (nI t).toNatClampNeg = t := nI_clamp (by omega)
    have hcj : (nI j).toNatClampNeg = j := nI_clamp (by omega)
    rw [show (1 : Int32) = nI 1 from rfl, holds_yes ht4 hn ed (by omega), bn_s, if_neg (by decide), ixb_nI ht4 (by omega), ck_t, ck_t, hc, w1, bn_s, ixb_nI (by omega) (by omega), ck_t, lt_e, bn_s, yes11, bn_s, nk1, ck_t]
    refine wp_some.mpr ?_
    have ea : (60 : Int32) * nI t + nI j = nI (60 * t + j) := by
      show nI 60 * nI t + nI j = _
      rw [nI_mul, nI_add]
    have e1t : (sI (sI (sI (sL σ (16 + t) (nI j).toNatClampNeg w) 11 17 0) 0 1 0) 0 0 0).1 1 t = σ.1 14 t := by simp [sI, sL, e14]
    rw [lt_e, e2 _ (by funext x; simp [sI, sL]), bn_s, lt_e, if_pos (by simp [sI]), ck_t, e1t, w2, bn_s, ea, ixb_nI (by omega) (by omega), ck_t, lt_e]
    refine wp_some.mpr ⟨rfl, ?_, ?_⟩
    · have z1 : ¬ 11 = 16 + t := by omega
      have z2 : ¬ 0 = 16 + t := by omega
      have := hm.2
      simpa [I_misc, sI, sL, z1, z2] using this
    · intro u hu
      obtain ⟨a, b, c, d, e⟩ := ht u hu
      refine ⟨by simpa [sI, sL] using a, by simpa [sI, sL] using b, by simpa [sI, sL] using c, by simpa [sI, sL] using d, fun i hi => ?_⟩
      have z1 : ¬ 16 + u = 3 := by omega
      have z2 : ¬ 3 = 16 + t := by omega
      have hcs : (nI (60 * t + j)).toNatClampNeg = 60 * t + j := nI_clamp (by omega)
      show (if 16 + u = 3 ∧ i = _ then w else if 16 + u = 16 + t ∧ i = (nI j).toNatClampNeg then w else σ.2 (16 + u) i) = (if 3 = 3 ∧ 60 * u + i = (nI (60 * t + j)).toNatClampNeg then w else if 3 = 16 + t ∧ _ then w else σ.2 3 (60 * u + i))
      rw [if_neg fun z => z1 z.1, hcj, hcs]
      by_cases q : u = t ∧ i = j
      · rw [if_pos ⟨by omega, q.2⟩, if_pos ⟨rfl, by omega⟩]
      · rw [if_neg fun z => q ⟨by omega, z.2⟩, if_neg fun z => q (by omega), if_neg fun z => z2 z.1]
        exact e i hi
