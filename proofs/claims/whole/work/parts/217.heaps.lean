/-- heaps of a hedge h and of the model's block b -/
def I_heaps (b h : Nat) (σ : Ms) : Prop := ∃ n, n ≤ 4 ∧ σ.1 h 7 = nI n ∧ σ.1 5 (356 * b + 1) = nI n ∧ ∀ i, i < n → ∃ v, v ≤ 15 ∧ σ.1 (h + 3) i = nI v ∧ σ.1 5 (356 * b + (65 + i)) = nI v
theorem hasHeap_in {h i n : Nat} {σ : Ms} (hn : n ≤ 4) (e : σ.1 h 7 = nI n) (hi : i < n) : F0_hasHeap h (nI i) σ = some (1, σ) := by
  unfold F0_hasHeap
  have g : ¬ (4 : Int32) ≤ nI i := fun z => by have := (lit_le (c := 4) 4 (b := i) rfl (by omega) (by omega)).mp z; omega
  rw [e, if_neg (nI_pos (by omega)), if_neg (nI_ge hi (by omega)), if_neg g]
theorem hasHeap_out {h n : Nat} {p : Int32} {σ : Ms} (hn : n ≤ 4) (e : σ.1 h 7 = nI n) (hp : ¬ ∃ i, i < n ∧ p = nI i) : F0_hasHeap h p σ = some (0, σ) := by
  unfold F0_hasHeap
  by_cases h0 : p < 0
  · rw [if_pos h0]
  obtain ⟨j, hj, rfl⟩ := nI_of h0
  rw [if_neg h0, e, if_pos ((nI_leI (by omega) hj).mpr (Nat.le_of_not_lt fun z => hp ⟨j, z, rfl⟩))]
theorem k_heap (p : Int32) (σ : Ms) (hm : I_misc σ) (hI : I_heaps 0 22 σ) : wp (F11_heap p σ) fun r t => wp (F12_heap p t) fun r' t' => r = r' ∧ I_misc t' ∧ I_heaps 0 22 t' := by
  obtain ⟨n, hn, e1, e2, hv⟩ := id hI
  have keep : ∀ c d : Int32, I_heaps 0 22 (sI (sI (sI (sI σ 11 17 c) 0 1 0) 0 0 0) 0 0 d) := fun c d => by simpa [I_heaps, sI] using hI
  have keep0 : I_heaps 0 22 (sI (sI (sI σ 11 17 0) 0 1 0) 0 0 0) := by simpa [I_heaps, sI] using hI
  unfold F11_heap F12_heap F12_isHeapAt F11_told F11_none F12_refuse
  have x1 : ixb (1 : Int32) 1780 = true := by decide
  have c1 : (1 : Int32).toNatClampNeg = 1 := by decide
  have rd : ∀ (c : Int32) (j : Nat), (sI (sI (sI σ 11 17 c) 0 1 0) 0 0 0).1 5 j = σ.1 5 j := fun c j => by simp [sI]
  have e2' : σ.1 5 1 = nI n := e2
  simp only [lt_e, x1, ck_t, c1]
  rcases isIn_ix (n := n) (by omega) p (sI (sI (sI σ 11 17 0) 0 1 0) 0 0 0) with ⟨i, hi, rfl, q⟩ | ⟨ho, -⟩
  · obtain ⟨v, hv1, hv2, hv3⟩ := hv i hi
    rw [hasHeap_in hn e1 hi, bn_s, if_pos (by decide), ixb_nI (by omega) (by omega), ck_t, bn_s]
    refine wp_some.mpr ?_
    rw [rd, e2', q, bn_s, nk1, ck_t, bn_s, if_neg (by decide)]
    have ea : (65 : Int32) + nI i = nI (65 + i) := nI_add 65 i
    rw [ea, ixb_nI (by omega) (by omega), ck_t, nI_clamp (show 65 + i < 2 ^ 31 by omega), nI_clamp (show i < 2 ^ 31 by omega), rd]
    have hv3' : σ.1 5 (65 + i) = nI v := by simpa using hv3
    refine wp_some.mpr ⟨hv2.trans hv3'.symm, ?_, keep0⟩
    simpa [I_misc, sI] using hm.2
  · rw [hasHeap_out hn e1 ho, bn_s, if_neg (by decide), bn_s]
    refine wp_some.mpr ?_
    rcases isIn_ix (n := n) (by omega) p (sI (sI (sI σ 11 17 2) 0 1 0) 0 0 0) with ⟨i, hi, e, -⟩ | ⟨-, q⟩
    · exact absurd ⟨i, hi, e⟩ ho
    rw [rd, e2', q, bn_s, nk0, ck_t, bn_s, if_pos rfl, bn_s]
    exact wp_some.mpr ⟨rfl, misc_end 2 hm, keep 2 2⟩
