/-- longs as whole numbers -/
def zL (a : Int) : Int64 := Int64.ofInt a
theorem zL_add (a b : Int) : zL a + zL b = zL (a + b) := (Int64.ofInt_add a b).symm
theorem zL_sub (a b : Int) : zL a - zL b = zL (a - b) := (Int64.ofInt_sub a b).symm
theorem zL_mul (a b : Int) : zL a * zL b = zL (a * b) := (Int64.ofInt_mul a b).symm
theorem zL_neg (a : Int) : -zL a = zL (-a) := (Int64.ofInt_neg a).symm
theorem zL_int {a : Int} (h1 : -9223372036854775808 ≤ a) (h2 : a < 9223372036854775808) : (zL a).toInt = a := by
  unfold zL
  rw [Int64.toInt_ofInt, show Int64.size = 18446744073709551616 from rfl]
  exact Int.bmod_eq_of_le (by omega) (by omega)
theorem zL_of (x : Int64) : ∃ a : Int, -9223372036854775808 ≤ a ∧ a < 9223372036854775808 ∧ x = zL a := ⟨x.toInt, by have := Int64.le_toInt x; omega, by have := Int64.toInt_lt x; omega, (Int64.ofInt_toInt x).symm⟩
theorem nI_zL {k : Nat} (h : k < 2147483648) : (nI k).toInt64 = zL (k : Int) := Int64.toInt_inj.mp (by rw [Int32.toInt_toInt64, nI_toInt h, zL_int (by omega) (by omega)])
theorem zI_zL {z : Int} (h1 : -2147483648 ≤ z) (h2 : z < 2147483648) : (Int32.ofInt z).toInt64 = zL z := Int64.toInt_inj.mp (by
  rw [Int32.toInt_toInt64, zL_int (by omega) (by omega), Int32.toInt_ofInt, show Int32.size = 4294967296 from rfl]
  exact Int.bmod_eq_of_le (by omega) (by omega))
theorem zL_lt {a b : Int} (ha : -9223372036854775808 ≤ a ∧ a < 9223372036854775808) (hb : -9223372036854775808 ≤ b ∧ b < 9223372036854775808) : lg_cmp (zL a) (zL b) < 0 ↔ a < b := by rw [cmp_lt, zL_int ha.1 ha.2, zL_int hb.1 hb.2]
theorem zL_gt {a b : Int} (ha : -9223372036854775808 ≤ a ∧ a < 9223372036854775808) (hb : -9223372036854775808 ≤ b ∧ b < 9223372036854775808) : 0 < lg_cmp (zL a) (zL b) ↔ b < a := by rw [cmp_gt, zL_int ha.1 ha.2, zL_int hb.1 hb.2]
theorem zL_le {a b : Int} (ha : -9223372036854775808 ≤ a ∧ a < 9223372036854775808) (hb : -9223372036854775808 ≤ b ∧ b < 9223372036854775808) : lg_cmp (zL a) (zL b) ≤ 0 ↔ a ≤ b := by rw [← Int32.not_lt, zL_gt ha hb]; omega
theorem zL_ge {a b : Int} (ha : -9223372036854775808 ≤ a ∧ a < 9223372036854775808) (hb : -9223372036854775808 ≤ b ∧ b < 9223372036854775808) : 0 ≤ lg_cmp (zL a) (zL b) ↔ b ≤ a := by rw [← Int32.not_lt, zL_lt ha hb]; omega
theorem zL_eq {a b : Int} (ha : -9223372036854775808 ≤ a ∧ a < 9223372036854775808) (hb : -9223372036854775808 ≤ b ∧ b < 9223372036854775808) : lg_cmp (zL a) (zL b) = 0 ↔ a = b := by
  have h1 := zL_lt ha hb
  have h2 := zL_gt ha hb
  constructor
  · intro h
    rw [h] at h1 h2
    have : ¬ a < b := fun z => absurd (h1.mpr z) (by decide)
    have : ¬ b < a := fun z => absurd (h2.mpr z) (by decide)
    omega
  · rintro rfl
    unfold lg_cmp
    rw [if_neg (by intro z; have := Int64.lt_iff_toInt_lt.mp z; omega), if_pos rfl]
theorem zL_inj {a b : Int} (ha : -9223372036854775808 ≤ a ∧ a < 9223372036854775808) (hb : -9223372036854775808 ≤ b ∧ b < 9223372036854775808) : zL a = zL b ↔ a = b := ⟨fun h => by have := congrArg Int64.toInt h; rwa [zL_int ha.1 ha.2, zL_int hb.1 hb.2] at this, fun h => by rw [h]⟩
theorem zL_i (a : Int) : (zL a).toInt32 = Int32.ofInt a := by
  unfold zL
  exact Int64.toInt32_ofInt
theorem zI_nI (k : Nat) : Int32.ofInt (k : Int) = nI k := rfl
theorem wb_c : ∀ k, k < 64 → ((nI k).toInt64 &&& 63) = lN k := by decide +kernel
theorem wb_sm : ∀ k, k < 64 → ((BitVec.ofNat 64 k).smod 64).toNat = k := by decide +kernel
theorem zL_shr {a : Int} (h1 : -9223372036854775808 ≤ a) (h2 : a < 9223372036854775808) {k : Nat} (hk : k < 64) : zL a >>> ((nI k).toInt64 &&& 63) = zL (a / 2 ^ k) := by
  rw [wb_c k hk]
  apply Int64.toInt_inj.mp
  have e : (zL a >>> lN k).toInt = (zL a).toInt >>> k := by
    show (zL a >>> lN k).toBitVec.toInt = _
    rw [Int64.toBitVec_shiftRight]
    show ((zL a).toBitVec.sshiftRight ((BitVec.ofNat 64 k).smod 64).toNat).toInt = _
    rw [wb_sm k hk, BitVec.toInt_sshiftRight]
    rfl
  have p : (0 : Int) < 2 ^ k := Int.pow_pos (by decide)
  have b1 : -9223372036854775808 ≤ a / 2 ^ k := by
    have := Int.le_ediv_of_mul_le p (a := -9223372036854775808) (b := a) (by
      have : (-9223372036854775808 : Int) * 2 ^ k ≤ -9223372036854775808 * 1 := Int.mul_le_mul_of_nonpos_left (by decide) (by omega)
      omega)
    omega
  have b2 : a / 2 ^ k < 9223372036854775808 := by
    refine Int.ediv_lt_of_lt_mul p ?_
    have : (9223372036854775808 : Int) * 1 ≤ 9223372036854775808 * 2 ^ k := Int.mul_le_mul_of_nonneg_left (by omega) (by decide)
    omega
  rw [e, zL_int h1 h2, zL_int b1 b2, Int.shiftRight_eq_div_pow]
  rfl
theorem ONE_z : (1073741824 : Int64) = zL 1073741824 := by decide
theorem UNIT_z : (1048576 : Int64) = zL 1048576 := by decide
theorem Z0_z : (0 : Int64) = zL 0 := by decide
/-- WORTH of a branch, in parts of 2^-20 -/
def nn (x : Int) : Nat := if 0 < x then 1 else ((1048576 - x) / 1048576).toNat + 1
def bw (x : Int) : Int := (x + nn x * 1048576) / 2 ^ (nn x - 1)
def brw (c : Nat) (x : Int) : Int := if c = 0 then bw x else -bw (-x)
/-- x is worth of m sprigs -/
def Ok (x : Int) (m : Nat) : Prop := ∃ d : Nat, d ≤ 20 ∧ x.natAbs + d * 1048576 ≤ m * 1048576 ∧ ∃ t : Int, x = 2 ^ (20 - d) * t
theorem p2s (a b : Nat) (h : b ≤ a) : (2 : Int) ^ a = 2 ^ b * 2 ^ (a - b) := by rw [← Int.pow_add]; congr 1; omega
theorem Ok_0 : Ok 0 0 := ⟨0, by omega, by omega, 0, by simp⟩
theorem Ok_neg {x : Int} {m : Nat} (h : Ok x m) : Ok (-x) m := by
  obtain ⟨d, h1, h2, t, h3⟩ := h
  exact ⟨d, h1, by omega, -t, by rw [h3, Int.mul_neg]⟩
theorem Ok_mono {x : Int} {m m' : Nat} (h : Ok x m) (hm : m ≤ m') : Ok x m' := by
  obtain ⟨d, h1, h2, h3⟩ := h
  exact ⟨d, h1, Nat.le_trans h2 (Nat.mul_le_mul_right _ hm), h3⟩
theorem Ok_add {x y : Int} {m m' : Nat} (h : Ok x m) (h' : Ok y m') : Ok (x + y) (m + m') := by
  obtain ⟨d, h1, h2, t, h3⟩ := h
  obtain ⟨d', h1', h2', t', h3'⟩ := h'
  by_cases q : d ≤ d'
  · refine ⟨d', h1', by omega, 2 ^ (d' - d) * t + t', ?_⟩
    rw [h3, h3', Int.mul_add, ← Int.mul_assoc, p2s (20 - d) (20 - d') (by omega), show 20 - d - (20 - d') = d' - d by omega]
  · refine ⟨d, h1, by omega, t + 2 ^ (d - d') * t', ?_⟩
    rw [h3, h3', Int.mul_add, ← Int.mul_assoc, p2s (20 - d') (20 - d) (by omega), show 20 - d' - (20 - d) = d - d' by omega]
theorem Ok_abs {x : Int} {m : Nat} (h : Ok x m) : -(m * 1048576 : Int) ≤ x ∧ x ≤ m * 1048576 := by
  obtain ⟨d, h1, h2, -⟩ := h
  omega
theorem u_p20 : (1048576 : Int) = 2 ^ 20 := by decide
/-- a blue sprig on which stands x -/
theorem Ok_bw {x : Int} {m : Nat} (h : Ok x m) (hm : m ≤ 19) : (∃ t : Int, x + nn x * 1048576 = 2 ^ (nn x - 1) * t) ∧ nn x ≤ 21 ∧ Ok (bw x) (m + 1) := by
  obtain ⟨d, h1, h2, t, h3⟩ := h
  by_cases hx : 0 < x
  · have e : nn x = 1 := if_pos hx
    have eb : bw x = x + 1048576 := by
      unfold bw
      rw [e]
      simp
    rw [e, eb]
    refine ⟨⟨x + 1048576, by simp⟩, by omega, d, h1, by omega, t + 2 ^ d, ?_⟩
    rw [h3, Int.mul_add, u_p20, p2s 20 (20 - d) (by omega), show 20 - (20 - d) = d by omega]
  · obtain ⟨a, rfl⟩ : ∃ a : Nat, x = -(a : Int) := ⟨x.natAbs, by omega⟩
    have hq : (1048576 - -(a : Int)) / 1048576 = ((a / 1048576 + 1 : Nat) : Int) := by omega
    have e : nn (-(a : Int)) = a / 1048576 + 2 := by
      unfold nn
      rw [if_neg hx, hq]
      omega
    obtain ⟨g, r, hr, rfl⟩ : ∃ g r, r < 1048576 ∧ a = g * 1048576 + r := ⟨a / 1048576, a % 1048576, by omega, by omega⟩
    have eg : (g * 1048576 + r) / 1048576 = g := by omega
    rw [eg] at e
    have hn : -((g * 1048576 + r : Nat) : Int) + ((g + 2 : Nat) : Int) * 1048576 = 2097152 - (r : Int) := by omega
    have hdm : g + d ≤ m := by omega
    have eb : bw (-((g * 1048576 + r : Nat) : Int)) = (2097152 - (r : Int)) / 2 ^ (g + 1) := by
      unfold bw
      rw [e, hn]
      rfl
    rw [e, hn, eb]
    rw [show g + 2 - 1 = g + 1 by omega]
    have pos : (0 : Int) < 2 ^ (g + 1) := Int.pow_pos (by decide)
    by_cases hr0 : r = 0
    · subst hr0
      have e2 : (2097152 : Int) - (0 : Nat) = 2 ^ (g + 1) * 2 ^ (20 - g) := by
        have : (2097152 : Int) = 2 ^ 21 := by decide
        rw [show (2097152 : Int) - (0 : Nat) = 2097152 by omega, this, p2s 21 (g + 1) (by omega), show 21 - (g + 1) = 20 - g by omega]
      rw [e2, Int.mul_ediv_cancel_left _ (by omega)]
      refine ⟨⟨_, rfl⟩, by omega, g, by omega, ?_, 1, by rw [Int.mul_one]⟩
      have : (2 : Int) ^ (20 - g) * 2 ^ g = 1048576 := by rw [u_p20, p2s 20 (20 - g) (by omega), show 20 - (20 - g) = g by omega]
      have p1 : (0 : Int) < 2 ^ g := Int.pow_pos (by decide)
      have p2 : (0 : Int) < 2 ^ (20 - g) := Int.pow_pos (by decide)
      have : (2 : Int) ^ (20 - g) * 1 ≤ 2 ^ (20 - g) * 2 ^ g := Int.mul_le_mul_of_nonneg_left (by omega) (by omega)
      omega
    · have hlt : g + d + 1 ≤ m := by
        have : (g + d) * 1048576 < m * 1048576 := by omega
        omega
      obtain ⟨u, hu⟩ : ∃ u : Int, 2097152 - (r : Int) = 2 ^ (20 - d) * u := by
        refine ⟨t + (g + 2) * 2 ^ d, ?_⟩
        have z : (1048576 : Int) = 2 ^ (20 - d) * 2 ^ d := by rw [u_p20, p2s 20 (20 - d) (by omega), show 20 - (20 - d) = d by omega]
        have : (2 : Int) ^ (20 - d) * (t + (g + 2) * 2 ^ d) = 2 ^ (20 - d) * t + (g + 2) * (2 ^ (20 - d) * 2 ^ d) := by
          rw [Int.mul_add, Int.mul_left_comm]
        rw [this, ← h3, ← z]
        omega
      have e3 : (2 : Int) ^ (20 - d) * u = 2 ^ (g + 1) * (2 ^ (20 - (d + g + 1)) * u) := by
        rw [p2s (20 - d) (g + 1) (by omega), show 20 - d - (g + 1) = 20 - (d + g + 1) by omega, Int.mul_assoc]
      rw [hu, e3, Int.mul_ediv_cancel_left _ (by omega)]
      refine ⟨⟨_, rfl⟩, by omega, d + g + 1, by omega, ?_, u, rfl⟩
      have k1 : 2 ^ (g + 1) * (2 ^ (20 - (d + g + 1)) * u) = 2097152 - (r : Int) := by rw [← e3, hu]
      generalize (2 : Int) ^ (20 - (d + g + 1)) * u = v at *
      have k2 : (2 : Int) ≤ 2 ^ (g + 1) := by
        have : (2 : Int) ^ (g + 1) = 2 ^ g * 2 := Int.pow_succ 2 g
        have : (0 : Int) < 2 ^ g := Int.pow_pos (by decide)
        omega
      have k3 : 0 < v := by
        refine Int.lt_of_not_ge fun z => ?_
        have : (2 : Int) ^ (g + 1) * v ≤ 2 ^ (g + 1) * 0 := Int.mul_le_mul_of_nonneg_left z (by omega)
        omega
      have k4 : 2 * v ≤ 2 ^ (g + 1) * v := Int.mul_le_mul_of_nonneg_right k2 (by omega)
      omega
theorem Ok_brw {x : Int} {m c : Nat} (h : Ok x m) (hm : m ≤ 19) : Ok (brw c x) (m + 1) := by
  unfold brw
  by_cases q : c = 0
  · rw [if_pos q]
    exact (Ok_bw h hm).2.2
  · rw [if_neg q]
    exact Ok_neg (Ok_bw (Ok_neg h) hm).2.2
theorem branch_b10 {y : Int} {m : Nat} (h : Ok y m) (hm : m ≤ 19) (c : Int32) (σ : Ms) : F3_branch_b10 c (zL (1024 * y)) σ = some (if c ≠ 0 then -zL (1024 * bw y) else zL (1024 * bw y), σ) := by
  obtain ⟨⟨t, ht⟩, hn, hok⟩ := Ok_bw h hm
  have ha := Ok_abs h
  have key : ∀ n : Nat, nn y = n → F3_branch_b32 c (zL (1024 * y)) (nI n) σ = some (if c ≠ 0 then -zL (1024 * bw y) else zL (1024 * bw y), σ) := by
    intro n e
    have n1 : 1 ≤ n := by
      rw [← e]
      unfold nn
      split <;> omega
    unfold F3_branch_b32
    rw [lt_e, nI_zL (by omega), ONE_z, zL_mul, zL_add, show nI n - (1 : Int32) = nI (n - 1) from u_sub n1, zL_shr (by omega) (by omega) (by omega)]
    have ev : (1024 * y + (n : Int) * 1073741824) / 2 ^ (n - 1) = 1024 * bw y := by
      have e1 : 1024 * y + (n : Int) * 1073741824 = 2 ^ (n - 1) * (1024 * t) := by
        rw [e] at ht
        rw [Int.mul_left_comm, ← ht]
        omega
      have pos : (0 : Int) < 2 ^ (n - 1) := Int.pow_pos (by decide)
      unfold bw
      rw [e1, ht, e, Int.mul_ediv_cancel_left _ (by omega), Int.mul_ediv_cancel_left _ (by omega)]
    rw [ev]
    split <;> rfl
  unfold F3_branch_b10
  rw [Z0_z]
  by_cases q : y ≤ 0
  · rw [if_pos ((zL_le (by omega) (by omega)).mpr (by omega))]
    have e1 : (((1073741824 : Int64) - zL (1024 * y)) >>> ((30 : Int32).toInt64 &&& 63)).toInt32 + (1 : Int32) = nI (nn y) := by
      rw [ONE_z, zL_sub, show (30 : Int32) = nI 30 from rfl, zL_shr (by omega) (by omega) (by omega), zL_i]
      have e2 : (1073741824 - 1024 * y) / 2 ^ 30 = (((1048576 - y) / 1048576).toNat : Int) := by omega
      rw [e2, zI_nI, show (1 : Int32) = nI 1 from rfl, nI_add]
      unfold nn
      rw [if_neg (by omega)]
    rw [e1]
    exact key _ rfl
  · rw [if_neg fun z => q (by have := (zL_le (by omega) (by omega)).mp z; omega)]
    exact key 1 (if_pos (by omega))
theorem branch_ok {x : Int} {m c : Nat} (h : Ok x m) (hm : m ≤ 19) (hc : c ≤ 2) (σ : Ms) : F3_branch (nI c) (zL (1024 * x)) σ = some (zL (1024 * brw c x), σ) := by
  unfold F3_branch brw
  by_cases q : c = 0
  · subst q
    rw [if_neg fun z => z rfl, if_pos rfl, branch_b10 h hm, if_neg fun z => z rfl]
  · have hne : nI c ≠ 0 := fun z => q ((nI_eq (b := 0) (by omega) (by omega)).mp z)
    rw [if_pos hne, if_neg q, zL_neg, show -(1024 * x) = 1024 * (-x) by omega, branch_b10 (Ok_neg h) hm, if_pos hne, zL_neg, show -(1024 * bw (-x)) = 1024 * -bw (-x) by omega]
theorem blueWorth_ok {N : Nat} {x : Int} {m : Nat} (hN : 30 < N) (h : Ok x m) (hm : m ≤ 19) (σ : Ms) : F12_blueWorth N (zL x) σ = some (zL (bw x), σ) := by
  obtain ⟨-, hn, -⟩ := Ok_bw h hm
  have ha := Ok_abs h
  refine wp_eq ?_
  unfold F12_blueWorth F12_blueWorth_b2
  have n1 : 1 ≤ nn x := by unfold nn; split <;> omega
  refine wp_fx (fun k y => ∃ i : Nat, 1 ≤ i ∧ i + k = nn x ∧ y = (zL x, nI i, σ)) ?_ (n := nn x - 1) (by omega) ⟨1, by omega, by omega, rfl⟩
  rintro k c _ ⟨i, hi1, hi, rfl⟩ hc
  simp only
  unfold F12_blueWorth_b2B
  rw [nI_zL (by omega), UNIT_z, zL_mul, zL_add]
  have lim : (1048576 < x + (i : Int) * 1048576) ↔ nn x ≤ i := by
    unfold nn
    split <;> omega
  by_cases q : nn x ≤ i
  · have ei : nn x = i := by omega
    rw [if_pos ((zL_gt (by omega) (by omega)).mpr (lim.mpr q)), show nI i - (1 : Int32) = nI (i - 1) from u_sub hi1, zL_shr (by omega) (by omega) (by omega)]
    refine wp_some.mpr ⟨?_, rfl⟩
    unfold bw
    rw [ei]
  · rw [if_neg fun z => q (lim.mp ((zL_gt (by omega) (by omega)).mp z))]
    exact hc (k - 1) _ (by omega) ⟨i + 1, by omega, by omega, congrArg (fun w => (zL x, w, σ)) (nI_1 i)⟩
theorem branchWorth_ok {N : Nat} {x : Int} {m c : Nat} (hN : 30 < N) (h : Ok x m) (hm : m ≤ 19) (hc : c ≤ 2) (σ : Ms) : F12_branchWorth N (nI c) (zL x) σ = some (zL (brw c x), σ) := by
  unfold F12_branchWorth brw
  by_cases q : c = 0
  · subst q
    rw [if_neg fun z => z rfl, if_pos rfl, blueWorth_ok hN h hm]
    rfl
  · have hne : nI c ≠ 0 := fun z => q ((nI_eq (b := 0) (by omega) (by omega)).mp z)
    rw [if_pos hne, if_neg q, zL_neg, blueWorth_ok hN (Ok_neg h) hm, bn_s, zL_neg]
