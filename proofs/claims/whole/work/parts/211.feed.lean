/-- a byte of a word fed -/
def fbyte (i : Nat) (p : Int32) : Int32 := ((p >>> (nI (8 * i) &&& 31)).toInt8.toInt32).toInt8.toInt32
def T_feed (kb kf sf n i : Nat) (p : Int32) (σ τ : Ms) : Prop := τ.2 = σ.2 ∧ ∀ k j, τ.1 k j = if k = kb ∧ n ≤ j ∧ j < n + (4 - i) then fbyte (n + 3 - j) p else if k = kf ∧ j = sf then nI (n + (4 - i)) else σ.1 k j
theorem T_feed_0 {kb kf sf n : Nat} {p : Int32} {σ : Ms} (h : σ.1 kf sf = nI n) : T_feed kb kf sf n 4 p σ σ := by
  refine ⟨rfl, fun k j => ?_⟩
  rw [if_neg (by omega)]
  by_cases q : k = kf ∧ j = sf
  · rw [if_pos q, q.1, q.2, h]
    rfl
  · rw [if_neg q]
theorem T_feed_s {kb kf sf n i : Nat} {p : Int32} {σ τ : Ms} (hk : kb ≠ kf) (hi : i < 4) (h : T_feed kb kf sf n (i + 1) p σ τ) : T_feed kb kf sf n i p σ (sI (sI τ kb (n + (3 - i)) (fbyte i p)) kf sf (nI (n + (3 - i)) + 1)) := by
  refine ⟨h.1, fun k j => ?_⟩
  show (if k = kf ∧ j = sf then _ else if k = kb ∧ j = n + (3 - i) then _ else τ.1 k j) = _
  by_cases q : k = kf ∧ j = sf
  · rw [if_pos q, if_neg fun z => hk (z.1.symm.trans q.1), if_pos q, nI_1]
    congr 1
    omega
  · rw [if_neg q]
    by_cases q1 : k = kb ∧ j = n + (3 - i)
    · rw [if_pos q1, if_pos ⟨q1.1, by omega⟩]
      congr 1
      omega
    · rw [if_neg q1, h.2]
      by_cases q2 : k = kb ∧ n ≤ j ∧ j < n + (4 - (i + 1))
      · rw [if_pos q2, if_pos ⟨q2.1, by omega⟩]
      · rw [if_neg q2, if_neg q, if_neg q, if_neg fun z => by omega]
theorem T_feed_n {kb kf sf n i : Nat} {p : Int32} {σ τ : Ms} (hk : kb ≠ kf) (h : T_feed kb kf sf n i p σ τ) : τ.1 kf sf = nI (n + (4 - i)) := by
  rw [h.2, if_neg fun z => hk z.1.symm, if_pos ⟨rfl, rfl⟩]
theorem append_ok (N : Nat) (hN : 4 < N) {n : Nat} (hn : n + 4 ≤ 900) (p : Int32) (σ : Ms) (e : σ.1 20 1 = nI n) : wp (F8_append N p σ) fun _ τ => T_feed 21 20 1 n 0 p σ τ := by
  unfold F8_append F8_hasRoom
  have e9 : (900 : Int32) - 4 = nI 896 := by decide +kernel
  have e10 : ¬ nI 896 < nI n := fun z => absurd ((nI_ltI (by omega) (by omega)).mp z) (by omega)
  rw [e, e9, if_neg e10, bn_s, if_pos (by decide)]
  unfold F8_append_b12
  refine wp_fx (fun m x => m ≤ 4 ∧ x.1 = p ∧ x.2.1 = nI (8 * m) - 8 ∧ T_feed 21 20 1 n m p σ x.2.2) ?_ (n := 4) (by omega) ⟨by omega, rfl, rfl, T_feed_0 e⟩
  rintro m k ⟨a, b, τ⟩ ⟨hm, rfl, rfl, h⟩ hk
  simp only at h ⊢
  unfold F8_append_b12B
  cases m with
  | zero =>
    rw [if_pos (by decide)]
    exact wp_some.mpr h
  | succ i =>
    have e8 : nI (8 * (i + 1)) - 8 = nI (8 * i) := by
      show nI (8 * (i + 1)) - nI 8 = _
      rw [nI_sub (by omega)]
      congr 1
    have en := T_feed_n (by decide) h
    have e3 : n + (4 - (i + 1)) = n + (3 - i) := by omega
    rw [e8, if_neg (nI_pos (by omega)), en, ixb_nI (by omega) (by omega), ck_t, lt_e, nI_clamp (by omega), lt_e, e3]
    refine hk i _ (by omega) ⟨by omega, rfl, ?_, ?_⟩
    · show nI (8 * i) + (-8) = nI (8 * i) - 8
      rw [Int32.sub_eq_add_neg]
    · have := T_feed_s (by decide) (by omega) h
      have ez : (sI τ 21 (n + (3 - i)) (fbyte i a)).1 20 1 = nI (n + (3 - i)) := by
        show (if 20 = 21 ∧ 1 = n + (3 - i) then fbyte i a else τ.1 20 1) = _
        rw [if_neg (by omega), en, e3]
      show T_feed 21 20 1 n i a σ (sI (sI τ 21 (n + (3 - i)) (fbyte i a)) 20 1 ((sI τ 21 (n + (3 - i)) (fbyte i a)).1 20 1 + 1))
      rw [ez]
      exact this
theorem lay_ok (N : Nat) (hN : 4 < N) {n : Nat} (hn : n + 4 ≤ 900) (p : Int32) (σ : Ms) (e : σ.1 0 8 = nI n) : wp (F12_lay N p σ) fun _ τ => T_feed 4 0 8 n 0 p σ τ := by
  unfold F12_lay F12_lay_b2
  refine wp_fx (fun m x => m ≤ 4 ∧ x.1 = p ∧ x.2.1 = nI m - 1 ∧ T_feed 4 0 8 n m p σ x.2.2) ?_ (n := 4) (by omega) ⟨by omega, rfl, rfl, T_feed_0 e⟩
  rintro m k ⟨a, b, τ⟩ ⟨hm, rfl, rfl, h⟩ hk
  simp only at h ⊢
  unfold F12_lay_b2B
  cases m with
  | zero =>
    rw [if_pos (by decide)]
    exact wp_some.mpr h
  | succ i =>
    have e8 : nI (i + 1) - 1 = nI i := nI_pred i
    have en := T_feed_n (by decide) h
    have e3 : n + (4 - (i + 1)) = n + (3 - i) := by omega
    rw [e8, if_neg (nI_pos (by omega)), en, ixb_nI (by omega) (by omega), ck_t, lt_e, nI_clamp (by omega), lt_e, e3]
    refine hk i _ (by omega) ⟨by omega, rfl, ?_, ?_⟩
    · show nI i + (-1) = nI i - 1
      rw [Int32.sub_eq_add_neg]
    · have := T_feed_s (by decide) (by omega) h
      have ez : (sI τ 4 (n + (3 - i)) (fbyte i a)).1 0 8 = nI (n + (3 - i)) := by
        show (if 0 = 4 ∧ 8 = n + (3 - i) then fbyte i a else τ.1 0 8) = _
        rw [if_neg (by omega), en, e3]
      have e88 : (8 : Int32) * nI i = nI (8 * i) := nI_mul 8 i
      show T_feed 4 0 8 n i a σ (sI (sI τ 4 (n + (3 - i)) (((a >>> (((8 : Int32) * nI i) &&& 31)).toInt8.toInt32).toInt8.toInt32)) 0 8 ((sI τ 4 (n + (3 - i)) (((a >>> (((8 : Int32) * nI i) &&& 31)).toInt8.toInt32).toInt8.toInt32)).1 0 8 + 1))
      rw [e88]
      show T_feed 4 0 8 n i a σ (sI (sI τ 4 (n + (3 - i)) (fbyte i a)) 0 8 ((sI τ 4 (n + (3 - i)) (fbyte i a)).1 0 8 + 1))
      rw [ez]
      exact this
def I_tape (σ : Ms) : Prop := (∃ n, n ≤ 900 ∧ σ.1 20 1 = nI n ∧ σ.1 0 8 = nI n) ∧ ∀ j, j < 900 → σ.1 21 j = σ.1 4 j
def I_fault (σ : Ms) : Prop := σ.1 11 15 = σ.1 0 10 ∧ σ.1 11 16 = σ.1 0 11
theorem k_fault (p : Int32) (σ : Ms) (h : I_fault σ) : wp (F11_fault p σ) fun r t => wp (F12_fault p t) fun r' t' => r = r' ∧ I_fault t' := by
  unfold F11_fault F12_fault
  have e1 : (sI σ 0 1 0).1 0 11 = σ.1 0 11 := by simp [sI]
  have e2 : (sI σ 0 1 0).1 0 10 = σ.1 0 10 := by simp [sI]
  have h' : I_fault (sI σ 0 1 0) := by simpa [I_fault, sI] using h
  by_cases h0 : p ≠ 0
  · by_cases h1 : p ≠ 1
    · simp only [lt_e, if_pos h0, if_pos h1]
      exact wp_some.mpr (wp_some.mpr ⟨rfl, h'⟩)
    · simp only [lt_e, if_pos h0, if_neg h1, e1]
      exact wp_some.mpr (wp_some.mpr ⟨h.2, h'⟩)
  · simp only [lt_e, if_neg h0, e2]
    exact wp_some.mpr (wp_some.mpr ⟨h.1, h'⟩)
