def s2 (q k : Nat) : Nat := 2 ^ q ||| 2 ^ k
def s3 (r q k : Nat) : Nat := 2 ^ r ||| 2 ^ q ||| 2 ^ k
def nxV (p : Int32) (k : Nat) : Int32 := (p + (p &&& -p)) ||| ((p ^^^ (p + (p &&& -p))) >>> ((nI k + (2 : Int32)) &&& 31))
theorem nx_ok {p : Int32} {k : Nat} (hk : k < 31) (h0 : p ≠ 0) (h1 : p &&& -p = nI (2 ^ k)) (σ : Ms) : F7_nextOfSize p σ = some (nxV p k, σ) := by
  unfold F7_nextOfSize nxV
  rw [if_pos h0, lt_e, lt_e, h1, ntz_ok (q := 0) hk (by rw [Nat.mul_zero, Nat.zero_add, Nat.mul_one]), bn_s]
theorem all1 : ∀ k, k < 20 → nI (2 ^ k) ≠ 0 ∧ nI (2 ^ k) &&& -nI (2 ^ k) = nI (2 ^ k) ∧ nxV (nI (2 ^ k)) k = nI (2 ^ (k + 1)) := by decide +kernel
theorem all2 : ∀ q, q < 20 → ∀ k, k < q → nI (s2 q k) ≠ 0 ∧ nI (s2 q k) &&& -nI (s2 q k) = nI (2 ^ k) ∧ nxV (nI (s2 q k)) k = nI (if k + 1 < q then s2 q (k + 1) else s2 (q + 1) 0) := by decide +kernel
theorem all3 : ∀ r, r < 20 → ∀ q, q < r → ∀ k, k < q → nI (s3 r q k) ≠ 0 ∧ nI (s3 r q k) &&& -nI (s3 r q k) = nI (2 ^ k) ∧ nxV (nI (s3 r q k)) k = nI (if k + 1 < q then s3 r q (k + 1) else if q + 1 < r then s3 r (q + 1) 0 else s3 (r + 1) 1 0) := by decide +kernel
/-- how many sets stand ahead -/
def rk2 (q k : Nat) : Nat := q * (q - 1) / 2 + k
def rk3 (r q k : Nat) : Nat := r * (r - 1) * (r - 2) / 6 + rk2 q k
theorem rk2_all : ∀ q, q < 20 → ∀ k, k < q → rk2 q k < 1140 ∧ (if k + 1 < q then rk2 q (k + 1) else rk2 (q + 1) 0) = rk2 q k + 1 := by decide +kernel
theorem rk3_all : ∀ r, r < 20 → ∀ q, q < r → ∀ k, k < q → rk3 r q k < 1140 ∧ (if k + 1 < q then rk3 r q (k + 1) else if q + 1 < r then rk3 r (q + 1) 0 else rk3 (r + 1) 1 0) = rk3 r q k + 1 := by decide +kernel
theorem s2_lt {q k n : Nat} (hk : k < q) : s2 q k < 2 ^ n ↔ q < n := by
  constructor
  · intro h
    refine bit_of h ?_
    unfold s2
    rw [Nat.testBit_or, Nat.testBit_two_pow_self, Bool.true_or]
  · intro h
    exact Nat.or_lt_two_pow (p2_lt h) (p2_lt (by omega))
theorem s3_lt {r q k n : Nat} (hq : q < r) (hk : k < q) : s3 r q k < 2 ^ n ↔ r < n := by
  constructor
  · intro h
    refine bit_of h ?_
    unfold s3
    rw [Nat.testBit_or, Nat.testBit_or, Nat.testBit_two_pow_self, Bool.true_or, Bool.true_or]
  · intro h
    exact Nat.or_lt_two_pow (Nat.or_lt_two_pow (p2_lt h) (p2_lt (by omega))) (p2_lt (by omega))
/-- what is found among the sets of one, two, three -/
def N1 (P : Nat → Bool) (n : Nat) : Prop := ∀ k, k < n → P (2 ^ k) = false
def Y1 (P : Nat → Bool) (n : Nat) (R : Int32) : Prop := ∃ k, k < n ∧ R = nI (2 ^ k) ∧ P (2 ^ k) = true ∧ ∀ k', k' < k → P (2 ^ k') = false
def N2 (P : Nat → Bool) (n : Nat) : Prop := ∀ q k, q < n → k < q → P (s2 q k) = false
def Y2 (P : Nat → Bool) (n : Nat) (R : Int32) : Prop := ∃ q k, q < n ∧ k < q ∧ R = nI (s2 q k) ∧ P (s2 q k) = true ∧ ∀ q' k', k' < q' → (q' < q ∨ (q' = q ∧ k' < k)) → P (s2 q' k') = false
def N3 (P : Nat → Bool) (n : Nat) : Prop := ∀ r q k, r < n → q < r → k < q → P (s3 r q k) = false
def Y3 (P : Nat → Bool) (n : Nat) (R : Int32) : Prop := ∃ r q k, r < n ∧ q < r ∧ k < q ∧ R = nI (s3 r q k) ∧ P (s3 r q k) = true ∧ ∀ r' q' k', q' < r' → k' < q' → (r' < r ∨ (r' = r ∧ (q' < q ∨ (q' = q ∧ k' < k)))) → P (s3 r' q' k') = false
theorem Y1_un {P : Nat → Bool} {n : Nat} {R R' : Int32} (h : Y1 P n R) (h' : Y1 P n R') : R = R' := by
  obtain ⟨k, hk, rfl, p, m⟩ := h
  obtain ⟨k', hk', rfl, p', m'⟩ := h'
  have : ¬ k < k' := fun z => by rw [m' k z] at p; cases p
  have : ¬ k' < k := fun z => by rw [m k' z] at p'; cases p'
  rw [show k = k' by omega]
theorem Y2_un {P : Nat → Bool} {n : Nat} {R R' : Int32} (h : Y2 P n R) (h' : Y2 P n R') : R = R' := by
  obtain ⟨q, k, hq, hk, rfl, p, m⟩ := h
  obtain ⟨q', k', hq', hk', rfl, p', m'⟩ := h'
  have h1 : ¬ (q < q' ∨ (q = q' ∧ k < k')) := fun z => by rw [m' q k hk z] at p; cases p
  have h2 : ¬ (q' < q ∨ (q' = q ∧ k' < k)) := fun z => by rw [m q' k' hk' z] at p'; cases p'
  rw [show q = q' by omega, show k = k' by omega]
theorem Y3_un {P : Nat → Bool} {n : Nat} {R R' : Int32} (h : Y3 P n R) (h' : Y3 P n R') : R = R' := by
  obtain ⟨r, q, k, hr, hq, hk, rfl, p, m⟩ := h
  obtain ⟨r', q', k', hr', hq', hk', rfl, p', m'⟩ := h'
  have h1 : ¬ (r < r' ∨ (r = r' ∧ (q < q' ∨ (q = q' ∧ k < k')))) := fun z => by rw [m' r q k hq hk z] at p; cases p
  have h2 : ¬ (r' < r ∨ (r' = r ∧ (q' < q ∨ (q' = q ∧ k' < k)))) := fun z => by rw [m r' q' k' hq' hk' z] at p'; cases p'
  rw [show r = r' by omega, show q = q' by omega, show k = k' by omega]
theorem YN1 {P : Nat → Bool} {n : Nat} {R : Int32} (h : Y1 P n R) (h' : N1 P n) : False := by
  obtain ⟨k, hk, -, p, -⟩ := h
  rw [h' k hk] at p
  cases p
theorem YN2 {P : Nat → Bool} {n : Nat} {R : Int32} (h : Y2 P n R) (h' : N2 P n) : False := by
  obtain ⟨q, k, hq, hk, -, p, -⟩ := h
  rw [h' q k hq hk] at p
  cases p
theorem YN3 {P : Nat → Bool} {n : Nat} {R : Int32} (h : Y3 P n R) (h' : N3 P n) : False := by
  obtain ⟨r, q, k, hr, hq, hk, -, p, -⟩ := h
  rw [h' r q k hr hq hk] at p
  cases p
/-- the set that balances, or none -/
def YA (P : Nat → Bool) (n : Nat) (R : Int32) : Prop := (P 0 = true ∧ R = nI 0) ∨ (P 0 = false ∧ (Y1 P n R ∨ (N1 P n ∧ (Y2 P n R ∨ (N2 P n ∧ (Y3 P n R ∨ (N3 P n ∧ R = -nI 1)))))))
theorem YA_un {P : Nat → Bool} {n : Nat} {R R' : Int32} (h : YA P n R) (h' : YA P n R') : R = R' := by
  rcases h with ⟨p, rfl⟩ | ⟨p, h⟩
  · rcases h' with ⟨p', rfl⟩ | ⟨p', -⟩
    · rfl
    · rw [p] at p'; cases p'
  rcases h' with ⟨p', rfl⟩ | ⟨p', h'⟩
  · rw [p] at p'; cases p'
  rcases h with h | ⟨a, h⟩
  · rcases h' with h' | ⟨a', -⟩
    · exact Y1_un h h'
    · exact (YN1 h a').elim
  rcases h' with h' | ⟨a', h'⟩
  · exact (YN1 h' a).elim
  rcases h with h | ⟨b, h⟩
  · rcases h' with h' | ⟨b', -⟩
    · exact Y2_un h h'
    · exact (YN2 h b').elim
  rcases h' with h' | ⟨b', h'⟩
  · exact (YN2 h' b).elim
  rcases h with h | ⟨c, rfl⟩
  · rcases h' with h' | ⟨c', -⟩
    · exact Y3_un h h'
    · exact (YN3 h c').elim
  rcases h' with h' | ⟨c', rfl⟩
  · exact (YN3 h' c).elim
  · rfl
theorem YA_set {P : Nat → Bool} {n : Nat} {R : Int32} (hn : n ≤ 20) (h : YA P n R) : R = -nI 1 ∨ ∃ X, X < 2 ^ 20 ∧ R = nI X := by
  rcases h with ⟨-, rfl⟩ | ⟨-, h⟩
  · exact Or.inr ⟨0, by decide, rfl⟩
  rcases h with ⟨k, hk, rfl, -⟩ | ⟨-, h⟩
  · exact Or.inr ⟨_, p2_lt (by omega), rfl⟩
  rcases h with ⟨q, k, hq, hk, rfl, -⟩ | ⟨-, h⟩
  · exact Or.inr ⟨_, (s2_lt hk).mpr (by omega), rfl⟩
  rcases h with ⟨r, q, k, hr, hq, hk, rfl, -⟩ | ⟨-, rfl⟩
  · exact Or.inr ⟨_, (s3_lt hq hk).mpr (by omega), rfl⟩
  · exact Or.inl rfl
