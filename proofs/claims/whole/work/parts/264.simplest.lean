theorem floorDiv_ok {a : Int} (h1 : -4611686018427387904 < a) (h2 : a < 4611686018427387904) (σ : Ms) : FJ9_floorDiv_f86c9 (zL a) (1048576 : Int64) σ = some (zL (a / 1048576), σ) := by
  unfold FJ9_floorDiv_f86c9
  have sg : 0 ≤ lg_cmp (zL a ^^^ (1048576 : Int64)) (0 : Int64) ↔ 0 ≤ a := by
    rw [lg_cmp_ge, Int64.le_iff_toInt_le, show (0 : Int64).toInt = 0 from rfl]
    have e1 : (zL a ^^^ (1048576 : Int64)).toBitVec.msb = (zL a).toBitVec.msb := by
      rw [Int64.toBitVec_xor, BitVec.msb_xor, show (1048576 : Int64).toBitVec.msb = false by decide, Bool.xor_false]
    rw [BitVec.msb_eq_toInt, BitVec.msb_eq_toInt] at e1
    have e2 : ((zL a ^^^ (1048576 : Int64)).toInt < 0) = ((zL a).toInt < 0) := by
      have := decide_eq_decide.mp e1
      exact propext this
    have e3 : (zL a).toInt = a := zL_int (by omega) (by omega)
    rw [e3] at e2
    constructor
    · intro h
      refine Int.not_lt.mp fun z => ?_
      rw [← e2] at z
      omega
    · intro h
      refine Int.not_lt.mp fun z => ?_
      rw [e2] at z
      omega
  have hd : zL a / (1048576 : Int64) = zL (a.tdiv 1048576) := by
    rw [show (1048576 : Int64) = zL ((1048576 : Nat) : Int) by decide, zL_divz h1 h2 (by decide) (by decide)]
    rfl
  rw [ckU, ck_t, hd, lt_e]
  by_cases h : 0 ≤ a
  · rw [if_pos (sg.mpr h), Int.tdiv_eq_ediv_of_nonneg h]
  · rw [if_neg (by exact fun z => h (sg.mp z))]
    have ht : a.tdiv 1048576 = -((-a) / 1048576) := by
      have : a = -(-a) := by omega
      conv => lhs; rw [this]
      rw [Int.neg_tdiv, Int.tdiv_eq_ediv_of_nonneg (by omega)]
    rw [UNIT_z, zL_mul, ht]
    by_cases q : -((-a) / 1048576) * 1048576 = a
    · rw [if_pos ((zL_eq (by omega) (by omega)).mpr q)]
      congr 3
      omega
    · rw [if_neg (by exact fun z => q ((zL_eq (by omega) (by omega)).mp z)), show (1 : Int64) = zL 1 by decide, zL_sub]
      congr 3
      omega
/-- the least multiple of 2^-k above a number, in those -/
def mm (L : Int) (k : Nat) : Int := L * 2 ^ k / 1048576 + 1
def CC (L H : Int) (k : Nat) : Prop := mm L k * 1048576 < H * 2 ^ k
theorem CC_0 (L H : Int) : CC L H 0 ↔ (L / 1048576 + 1) * 1048576 < H := by
  unfold CC mm
  rw [Int.pow_zero, Int.mul_one, Int.mul_one]
theorem CC_21 {L H : Int} (h : L < H) : CC L H 21 := by
  unfold CC mm
  have : (2 : Int) ^ 21 = 2097152 := by decide
  rw [this]
  omega
theorem first_C {L H : Int} (h : L < H) : ∃ K, K ≤ 21 ∧ CC L H K ∧ ∀ j, j < K → ¬ CC L H j := by
  have : ∀ n, (∃ K, K ≤ n ∧ CC L H K ∧ ∀ j, j < K → ¬ CC L H j) ∨ ∀ j, j ≤ n → ¬ CC L H j := by
    intro n
    induction n with
    | zero =>
      by_cases c : CC L H 0
      · exact Or.inl ⟨0, by omega, c, fun j hj => absurd hj (Nat.not_lt_zero j)⟩
      · exact Or.inr fun j hj => by rw [show j = 0 by omega]; exact c
    | succ n ih =>
      rcases ih with ⟨K, a, b, c⟩ | ih
      · exact Or.inl ⟨K, by omega, b, c⟩
      · by_cases c : CC L H (n + 1)
        · exact Or.inl ⟨n + 1, by omega, c, fun j hj => ih j (by omega)⟩
        · refine Or.inr fun j hj => ?_
          by_cases e : j = n + 1
          · rw [e]; exact c
          · exact ih j (by omega)
  rcases this 21 with h' | h'
  · exact h'
  · exact absurd (CC_21 h) (h' 21 (by omega))
/-- seen from the other side -/
theorem CC_neg (L H : Int) (k : Nat) : CC (-H) (-L) k ↔ CC L H k := by
  unfold CC mm
  rw [Int.neg_mul, Int.neg_mul]
  generalize L * 2 ^ k = a
  generalize H * 2 ^ k = b
  omega
theorem mm_neg {L H : Int} {k : Nat} (h : CC L H (k + 1)) (h' : ¬ CC L H k) : mm L (k + 1) = -mm (-H) (k + 1) := by
  unfold CC mm at *
  rw [Int.neg_mul, Int.pow_succ, ← Int.mul_assoc, ← Int.mul_assoc] at *
  generalize L * 2 ^ k = a at *
  generalize H * 2 ^ k = b at *
  omega
theorem sh_eq {L : Int} {k : Nat} (hk : k ≤ 30) : 1024 * L / 2 ^ (30 - k) + 1 = mm L k := by
  unfold mm
  have p : (0 : Int) < 2 ^ k := Int.pow_pos (by decide)
  have q : (0 : Int) < 2 ^ (30 - k) := Int.pow_pos (by decide)
  have e1 : (2 : Int) ^ k * 2 ^ (30 - k) = 1024 * 1048576 := by rw [← Int.pow_add, show k + (30 - k) = 30 by omega]; decide
  have e2 : 1024 * L / 2 ^ (30 - k) = (2 ^ k * (1024 * L)) / (2 ^ k * 2 ^ (30 - k)) := (Int.mul_ediv_mul_of_pos _ _ p).symm
  rw [e2, e1, Int.mul_left_comm, Int.mul_ediv_mul_of_pos _ _ (by decide), Int.mul_comm]
theorem sh_lt {L H : Int} {k : Nat} (hk : k ≤ 30) : mm L k * 2 ^ (30 - k) < 1024 * H ↔ CC L H k := by
  unfold CC
  have p : (0 : Int) < 2 ^ k := Int.pow_pos (by decide)
  have e1 : (2 : Int) ^ (30 - k) * 2 ^ k = 1024 * 1048576 := by rw [← Int.pow_add, show 30 - k + k = 30 by omega]; decide
  have e2 : mm L k * 2 ^ (30 - k) < 1024 * H ↔ mm L k * 2 ^ (30 - k) * 2 ^ k < 1024 * H * 2 ^ k := ⟨fun h => Int.mul_lt_mul_of_pos_right h p, fun h => Int.lt_of_mul_lt_mul_right h (by omega)⟩
  rw [e2, Int.mul_assoc, e1, Int.mul_assoc 1024]
  generalize H * 2 ^ k = b
  generalize mm L k = a
  omega
theorem mm_abs {L : Int} {k : Nat} (hL : -20971520 ≤ L ∧ L ≤ 20971520) (hk : k ≤ 30) : -(2 ^ 45) ≤ mm L k * 2 ^ (30 - k) ∧ mm L k * 2 ^ (30 - k) ≤ 2 ^ 45 := by
  have q : (0 : Int) < 2 ^ (30 - k) := Int.pow_pos (by decide)
  have e := sh_eq (L := L) hk
  have a1 := Int.ediv_mul_le (1024 * L) (b := 2 ^ (30 - k)) (by omega)
  have a2 := Int.lt_ediv_add_one_mul_self (1024 * L) q
  rw [e] at a2
  have a3 : mm L k * 2 ^ (30 - k) = 1024 * L / 2 ^ (30 - k) * 2 ^ (30 - k) + 2 ^ (30 - k) := by rw [← e, Int.add_mul, Int.one_mul]
  have q2 : (2 : Int) ^ (30 - k) ≤ 2 ^ 30 := by
    have q1 : (0 : Int) < 2 ^ (30 - (30 - k)) := Int.pow_pos (by decide)
    have q2 : (2 : Int) ^ (30 - k) * 1 ≤ 2 ^ (30 - k) * 2 ^ (30 - (30 - k)) := Int.mul_le_mul_of_nonneg_left (by omega) (by omega)
    rw [← p2s 30 (30 - k) (by omega)] at q2
    omega
  omega
theorem nextAbove_ok {N K : Nat} {L H : Int} (hN : 100 < N) (hL : -20971520 ≤ L ∧ L ≤ 20971520) (hH : -20971520 ≤ H ∧ H ≤ 20971520) (hK : K ≤ 21) (hC : CC L H K) (hf : ∀ j, j < K → ¬ CC L H j) (σ : Ms) : F3_nextAbove N (zL (1024 * L)) (zL (1024 * H)) σ = some (zL (mm L K * 2 ^ (30 - K)), σ) := by
  refine wp_eq ?_
  unfold F3_nextAbove F3_nextAbove_b6
  refine wp_fx (fun m x => ∃ k num, k + m = K + 1 ∧ x = (zL (1024 * L), zL (1024 * H), zL num, nI k, σ) ∧ (-(2 ^ 45) ≤ num ∧ num ≤ 2 ^ 45) ∧ (k ≤ K → 1024 * H ≤ num) ∧ (k = K + 1 → num = mm L K * 2 ^ (30 - K))) ?_ (n := K + 1) (by omega) ⟨0, 1024 * H, by omega, rfl, by omega, fun _ => by omega, fun h => by omega⟩
  rintro m c _ ⟨k, num, hk, rfl, hb, h1, h2⟩ hc
  simp only
  unfold F3_nextAbove_b6B
  rw [if_neg (by exact fun z => by have := (lit_lt (c := 30) 30 rfl (by omega) (by omega)).mp z; omega)]
  by_cases q : k ≤ K
  · rw [if_neg (by exact fun z => by have := (zL_lt (a := num) (b := 1024 * H) (by omega) (by omega)).mp z; have := h1 q; omega), show (30 : Int32) = nI 30 from rfl, u_sub (by omega), lt_e, zL_shr (by omega) (by omega) (by omega), show (1 : Int64) = zL 1 by decide, zL_add, sh_eq (by omega), zL_shl _ (by omega), lt_e, nI_1]
    refine hc (m - 1) _ (by omega) ⟨k + 1, mm L k * 2 ^ (30 - k), by omega, rfl, mm_abs hL (by omega), fun h => ?_, fun h => ?_⟩
    · exact Int.not_lt.mp fun z => hf k (by omega) ((sh_lt (by omega)).mp z)
    · rw [show k = K by omega]
  · have e := h2 (by omega)
    have hlt := (sh_lt (L := L) (H := H) (k := K) (by omega)).mpr hC
    rw [if_pos ((zL_lt (a := num) (b := 1024 * H) (by omega) (by omega)).mpr (by omega)), e]
    exact wp_some.mpr ⟨rfl, rfl⟩
