def T_list (kb kf sf n : Nat) (ps : List Int32) (σ τ : Ms) : Prop := τ.2 = σ.2 ∧ ∀ k j, τ.1 k j = if k = kb ∧ n ≤ j ∧ j < n + 4 * ps.length then fbyte (3 - (j - n) % 4) (ps.getD ((j - n) / 4) 0) else if k = kf ∧ j = sf then nI (n + 4 * ps.length) else σ.1 k j
theorem T_list_0 {kb kf sf n : Nat} {σ : Ms} (h : σ.1 kf sf = nI n) : T_list kb kf sf n [] σ σ := by
  refine ⟨rfl, fun k j => ?_⟩
  rw [if_neg fun z => by simp only [List.length_nil] at z; omega]
  by_cases q : k = kf ∧ j = sf
  · rw [if_pos q, q.1, q.2, h]
    rfl
  · rw [if_neg q]
theorem T_list_s {kb kf sf n : Nat} {ps : List Int32} {p : Int32} {σ τ τ' : Ms} (hk : kb ≠ kf) (h : T_list kb kf sf n ps σ τ) (h' : T_feed kb kf sf (n + 4 * ps.length) 0 p τ τ') : T_list kb kf sf n (ps ++ [p]) σ τ' := by
  refine ⟨h'.1.trans h.1, fun k j => ?_⟩
  rw [h'.2, h.2]
  have hl : (ps ++ [p]).length = ps.length + 1 := by simp
  rw [hl]
  by_cases q : k = kf ∧ j = sf
  · rw [if_neg fun z => hk (z.1.symm.trans q.1), if_pos q, if_neg fun z => hk (z.1.symm.trans q.1), if_pos q]
    congr 1
  · simp only [if_neg q]
    by_cases q1 : k = kb ∧ n + 4 * ps.length ≤ j ∧ j < n + 4 * ps.length + (4 - 0)
    · rw [if_pos q1, if_pos ⟨q1.1, by omega, by omega⟩]
      have e1 : (j - n) / 4 = ps.length := by omega
      have e2 : n + 4 * ps.length + 3 - j = 3 - (j - n) % 4 := by omega
      rw [e1, e2]
      congr 1
      simp
    · rw [if_neg q1]
      by_cases q2 : k = kb ∧ n ≤ j ∧ j < n + 4 * ps.length
      · rw [if_pos q2, if_pos ⟨q2.1, by omega, by omega⟩]
        congr 1
        have : (j - n) / 4 < ps.length := by omega
        simp [List.getD_eq_getElem?_getD, List.getElem?_append_left this]
      · rw [if_neg q2, if_neg fun z => by omega]
theorem T_list_n {kb kf sf n : Nat} {ps : List Int32} {σ τ : Ms} (hk : kb ≠ kf) (h : T_list kb kf sf n ps σ τ) : τ.1 kf sf = nI (n + 4 * ps.length) := by
  rw [h.2, if_neg fun z => hk z.1.symm, if_pos ⟨rfl, rfl⟩]
theorem feed11 (N : Nat) (hN : 4 < N) {n : Nat} (hn : n + 20 ≤ 900) (p0 p1 p2 p3 p4 : Int32) (σ : Ms) (e : σ.1 20 1 = nI n) : wp (F11_feed N p0 p1 p2 p3 p4 σ) fun r τ => r = nI (n + 20) ∧ T_list 21 20 1 n [p0, p1, p2, p3, p4] σ τ := by
  unfold F11_feed F8_hasRoom
  have e9 : (900 : Int32) - 20 = nI 880 := by decide +kernel
  have e10 : ¬ nI 880 < nI n := fun z => absurd ((nI_ltI (by omega) (by omega)).mp z) (by omega)
  rw [e, e9, if_neg e10, bn_s, if_pos (by decide)]
  refine wp_bn.mpr (wp_mono (append_ok N hN (by omega) p0 σ e) fun _ τ h => ?_)
  have h1 := T_list_s (by decide) (T_list_0 e) h
  refine wp_bn.mpr (wp_mono (append_ok N hN (by simp; omega) p1 τ (T_list_n (by decide) h1)) fun _ τ h => ?_)
  have h2 := T_list_s (by decide) h1 h
  refine wp_bn.mpr (wp_mono (append_ok N hN (by simp; omega) p2 τ (T_list_n (by decide) h2)) fun _ τ h => ?_)
  have h3 := T_list_s (by decide) h2 h
  refine wp_bn.mpr (wp_mono (append_ok N hN (by simp; omega) p3 τ (T_list_n (by decide) h3)) fun _ τ h => ?_)
  have h4 := T_list_s (by decide) h3 h
  refine wp_bn.mpr (wp_mono (append_ok N hN (by simp; omega) p4 τ (T_list_n (by decide) h4)) fun _ τ h => ?_)
  have h5 := T_list_s (by decide) h4 h
  exact wp_some.mpr ⟨T_list_n (by decide) h5, h5⟩
theorem feed12 (N : Nat) (hN : 4 < N) {n : Nat} (hn : n + 20 ≤ 900) (p0 p1 p2 p3 p4 : Int32) (σ : Ms) (e : σ.1 0 8 = nI n) : wp (F12_feed N p0 p1 p2 p3 p4 σ) fun r τ => r = nI (n + 20) ∧ T_list 4 0 8 n [p0, p1, p2, p3, p4] (sI σ 0 1 0) τ := by
  unfold F12_feed
  have e' : (sI σ 0 1 0).1 0 8 = nI n := by simpa [sI] using e
  have e10 : nI (n + 20) ≤ (900 : Int32) := (le_lit 900 (by decide +kernel) (by omega) (by omega)).mpr (by omega)
  rw [lt_e, e', show nI n + (20 : Int32) = nI (n + 20) from nI_add n 20, if_pos e10]
  refine wp_bn.mpr (wp_mono (lay_ok N hN (by omega) p0 _ e') fun _ τ h => ?_)
  have h1 := T_list_s (by decide) (T_list_0 e') h
  refine wp_bn.mpr (wp_mono (lay_ok N hN (by simp; omega) p1 τ (T_list_n (by decide) h1)) fun _ τ h => ?_)
  have h2 := T_list_s (by decide) h1 h
  refine wp_bn.mpr (wp_mono (lay_ok N hN (by simp; omega) p2 τ (T_list_n (by decide) h2)) fun _ τ h => ?_)
  have h3 := T_list_s (by decide) h2 h
  refine wp_bn.mpr (wp_mono (lay_ok N hN (by simp; omega) p3 τ (T_list_n (by decide) h3)) fun _ τ h => ?_)
  have h4 := T_list_s (by decide) h3 h
  refine wp_bn.mpr (wp_mono (lay_ok N hN (by simp; omega) p4 τ (T_list_n (by decide) h4)) fun _ τ h => ?_)
  have h5 := T_list_s (by decide) h4 h
  exact wp_some.mpr ⟨T_list_n (by decide) h5, h5⟩
theorem k_feed (N : Nat) (hN : 4 < N) (p0 p1 p2 p3 p4 : Int32) (σ : Ms) (hI : I_tape σ) : wp (F11_feed N p0 p1 p2 p3 p4 σ) fun r t => wp (F12_feed N p0 p1 p2 p3 p4 t) fun r' t' => r = r' ∧ I_tape t' := by
  obtain ⟨⟨n, hn, e1, e2⟩, ht⟩ := hI
  by_cases h : n + 20 ≤ 900
  · refine wp_mono (feed11 N hN h p0 p1 p2 p3 p4 σ e1) ?_
    rintro r τ ⟨rfl, h1⟩
    have e3 : τ.1 0 8 = nI n := by
      rw [h1.2, if_neg (by omega), if_neg (by omega)]
      exact e2
    refine wp_mono (feed12 N hN h p0 p1 p2 p3 p4 τ e3) ?_
    rintro r τ' ⟨rfl, h2⟩
    have s1 : ∀ k j, ¬ (k = 0 ∧ j = 1) → (sI τ 0 1 0).1 k j = τ.1 k j := fun k j q => if_neg q
    refine ⟨rfl, ⟨n + 20, h, ?_, T_list_n (by decide) h2⟩, fun j hj => ?_⟩
    · rw [h2.2, if_neg (by omega), if_neg (by omega), s1 _ _ (by omega)]
      exact T_list_n (by decide) h1
    · rw [h2.2, if_neg (by omega), if_neg (by omega), s1 _ _ (by omega), h2.2, h1.2]
      by_cases q : n ≤ j ∧ j < n + 4 * [p0, p1, p2, p3, p4].length
      · rw [if_pos ⟨rfl, q⟩, if_pos ⟨rfl, q⟩]
      · rw [if_neg fun z => q z.2, if_neg (by omega), if_neg fun z => q z.2, if_neg (by omega), s1 _ _ (by omega), h1.2, if_neg (by omega), if_neg (by omega)]
        exact ht j hj
  · unfold F11_feed F12_feed F8_hasRoom
    have e9 : (900 : Int32) - 20 = nI 880 := by decide +kernel
    have e10 : nI 880 < nI n := nI_lt (by omega) (by omega)
    have e11 : ¬ nI (n + 20) ≤ (900 : Int32) := fun z => h ((le_lit 900 (by decide +kernel) (by omega) (by omega)).mp z)
    rw [e1, e9, if_pos e10, bn_s, if_neg (by decide)]
    refine wp_some.mpr ?_
    have e' : (sI σ 0 1 0).1 0 8 = nI n := by simpa [sI] using e2
    rw [lt_e, e', show nI n + (20 : Int32) = nI (n + 20) from nI_add n 20, if_neg e11]
    refine wp_some.mpr ⟨rfl, ⟨n, hn, by simpa [sI] using e1, e'⟩, fun j hj => ?_⟩
    simpa [sI] using ht j hj
