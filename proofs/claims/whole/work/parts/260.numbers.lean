theorem tp64 : ∀ k, k < 64 → BitVec.ofInt 64 ((2 : Int) ^ k) = BitVec.twoPow 64 k := by decide +kernel
theorem zL_shl (a : Int) {k : Nat} (hk : k < 64) : zL a <<< ((nI k).toInt64 &&& 63) = zL (a * 2 ^ k) := by
  rw [wb_c k hk, ← zL_mul]
  apply Int64.toBitVec_inj.mp
  rw [Int64.toBitVec_shiftLeft, Int64.toBitVec_mul]
  show (zL a).toBitVec <<< ((BitVec.ofNat 64 k).smod 64).toNat = (zL a).toBitVec * BitVec.ofInt 64 (2 ^ k)
  rw [wb_sm k hk, BitVec.shiftLeft_eq_mul_twoPow, tp64 k hk]
theorem p_zL (p : Int32) : p.toInt64 = zL p.toInt := rfl
theorem p_rng (p : Int32) : -2147483648 ≤ p.toInt ∧ p.toInt < 2147483648 := ⟨by have := Int32.le_toInt p; omega, by have := Int32.toInt_lt p; omega⟩
theorem of_ok {p : Int32} {K : Nat} (hK : K ≤ 20) (σ : Ms) : F3_of p (nI K) σ = some (zL (1024 * (p.toInt * 2 ^ (20 - K))), σ) := by
  unfold F3_of
  rw [show (30 : Int32) = nI 30 from rfl, u_sub (by omega), p_zL, zL_shl _ (by omega)]
  congr 3
  rw [show (30 - K : Nat) = 10 + (20 - K) by omega, Int.pow_add, show (2 : Int) ^ 10 = 1024 by decide, Int.mul_left_comm]
theorem partsOf_ok {p : Int32} {K : Nat} (hK : K ≤ 20) (σ : Ms) : F12_partsOf p (nI K) σ = some (zL (p.toInt * 2 ^ (20 - K)), σ) := by
  unfold F12_partsOf
  rw [show (20 : Int32) = nI 20 from rfl, u_sub hK, p_zL, zL_shl _ (by omega)]
theorem pw_split {K : Nat} (hK : K ≤ 20) : (2 : Int) ^ K * 2 ^ (20 - K) = 1048576 ∧ (0 : Int) < 2 ^ K ∧ (0 : Int) < 2 ^ (20 - K) ∧ (2 : Int) ^ K ≤ 1048576 ∧ (2 : Int) ^ (20 - K) ≤ 1048576 := by
  have h1 : (2 : Int) ^ K * 2 ^ (20 - K) = 1048576 := by rw [← Int.pow_add, show K + (20 - K) = 20 by omega]; decide
  have h2 : (0 : Int) < 2 ^ K := Int.pow_pos (by decide)
  have h3 : (0 : Int) < 2 ^ (20 - K) := Int.pow_pos (by decide)
  refine ⟨h1, h2, h3, ?_, ?_⟩
  · have : (2 : Int) ^ K * 1 ≤ 2 ^ K * 2 ^ (20 - K) := Int.mul_le_mul_of_nonneg_left (by omega) (by omega)
    omega
  · have : 1 * (2 : Int) ^ (20 - K) ≤ 2 ^ K * 2 ^ (20 - K) := Int.mul_le_mul_of_nonneg_right (by omega) (by omega)
    omega
/-- a number given: by both the same -/
theorem num_both (p k : Int32) : (∃ V : Int, -20971520 ≤ V ∧ V ≤ 20971520 ∧ (∀ σ, F3_canBe p k σ = some (nI 1, σ)) ∧ (∀ σ, F3_of p k σ = some (zL (1024 * V), σ)) ∧ (∀ σ, F12_isNumber p k σ = some (nI 1, σ)) ∧ ∀ σ, F12_partsOf p k σ = some (zL V, σ)) ∨ ((∀ σ, F3_canBe p k σ = some (nI 0, σ)) ∧ ∀ σ, F12_isNumber p k σ = some (nI 0, σ)) := by
  have hp := p_rng p
  have lp : (p < (-20971520 : Int32)) ↔ p.toInt < -20971520 := by
    rw [Int32.lt_iff_toInt_lt, show (-20971520 : Int32).toInt = -20971520 from by decide]
  have gp : ((20971520 : Int32) < p) ↔ 20971520 < p.toInt := by
    rw [Int32.lt_iff_toInt_lt, show (20971520 : Int32).toInt = 20971520 from by decide]
  rcases ix_or k 21 (by omega) with ⟨K, hK, rfl⟩ | ho
  rotate_left
  · refine Or.inr ⟨fun σ => ?_, fun σ => ?_⟩
    · unfold F3_canBe
      by_cases h1 : p < (-20971520 : Int32)
      · rw [if_pos h1]; rfl
      rw [if_neg h1]
      by_cases h2 : (20971520 : Int32) < p
      · rw [if_pos h2]; rfl
      rw [if_neg h2]
      by_cases h3 : k < 0
      · rw [if_pos h3]; rfl
      rw [if_neg h3, if_neg (le_out (c := 20) 20 rfl (by omega) h3 ho)]
      rfl
    · unfold F12_isNumber
      rw [isInO (c := 20) rfl ho]
      try simp (disch := first | omega | assumption) only [lt_e, bn_s, ck_t, nk0, nk1, nk_b, bI_t, bI_f, L_0, L_1, L_2, L_3, L_4, L_5, L_6, L_7, L_8, L_9, L_10, L_11, L_12, L_15, L_20, L_25, L_30, L_45, L_60, L_65, L_69, L_74, L_79, L_84, L_85, L_86, L_99, L_100, L_255, L_300, L_356, L_900, L_1424, L_1425, L_1489, L_1510, L_9999, L_10000, nI_add, nI_mul, u_lt_t, u_lt_f, u_le_t, u_le_f, u_eq_t, u_eq_f, u_mlt, u_ltm, u_eqm, u_meq, u_mle, u_b0, u_b1, u_ix, u_cl, u_sub, u_suc, u_z0, u_0m, cI_0, cI_s, rI_e, rI_k, rI_j, rI_l, rL_e, rL_k, rL_j, rL_i, told11, none11, refuse12, no11q, no12q, yes11q, if_true, if_false, ite_true, ite_false, ne_eq, not_true_eq_false, not_false_eq_true, Classical.not_not, Bool.not_eq_true, Bool.not_eq_false, reduceCtorEq, Nat.add_zero, Nat.zero_add, Nat.mul_zero, and_self, and_true, true_and, Bool.true_eq_false, Bool.false_eq_true, eq_self]
  obtain ⟨s1, s2, s3, s4, s5⟩ := pw_split (K := K) (by omega)
  have h20 : F12_isIn (nI K).toInt64 0 20 = fun σ => some (nI 1, σ) := funext fun σ => by
    rw [isInN (c := 20) rfl (by omega), decide_eq_true (by omega)]
    rfl
  have isn : ∀ σ, F12_isNumber p (nI K) σ = some (if -(20 * 2 ^ K) ≤ p.toInt ∧ p.toInt ≤ 20 * 2 ^ K then nI 1 else nI 0, σ) := fun σ => by
    unfold F12_isNumber
    rw [h20, bn_s, if_neg (by decide), show (20 : Int64) = zL 20 by decide, zL_shl _ (by omega), zL_neg, isIn_ok, Int32.toInt_toInt64, zL_int (by omega) (by omega), zL_int (by omega) (by omega)]
    split <;> rfl
  have e30 : ∀ W : Int, -2147483648 ≤ W ∧ W < 2147483648 → -2251799813685248 ≤ W * 2 ^ (20 - K) ∧ W * 2 ^ (20 - K) ≤ 2251799813685248 := fun W hW => by
    have a1 : W * 2 ^ (20 - K) ≤ 2147483648 * 2 ^ (20 - K) := Int.mul_le_mul_of_nonneg_right (by omega) (by omega)
    have a2 : -2147483648 * 2 ^ (20 - K) ≤ W * 2 ^ (20 - K) := Int.mul_le_mul_of_nonneg_right (by omega) (by omega)
    omega
  have hW := e30 p.toInt hp
  have iff1 : p.toInt ≤ 20 * 2 ^ K ↔ p.toInt * 2 ^ (20 - K) ≤ 20971520 := by
    have e : (20 : Int) * 2 ^ K * 2 ^ (20 - K) = 20971520 := by rw [Int.mul_assoc, s1]; decide
    rw [← e]
    exact ⟨fun h => Int.mul_le_mul_of_nonneg_right h (by omega), fun h => Int.le_of_mul_le_mul_right h s3⟩
  have iff2 : -(20 * 2 ^ K) ≤ p.toInt ↔ -20971520 ≤ p.toInt * 2 ^ (20 - K) := by
    have e : -((20 : Int) * 2 ^ K) * 2 ^ (20 - K) = -20971520 := by rw [Int.neg_mul, Int.mul_assoc, s1]; decide
    rw [← e]
    exact ⟨fun h => Int.mul_le_mul_of_nonneg_right h (by omega), fun h => Int.le_of_mul_le_mul_right h s3⟩
  obtain ⟨Y, hY⟩ : ∃ Y, p.toInt * 2 ^ (20 - K) = Y := ⟨_, rfl⟩
  rw [hY] at hW iff1 iff2
  have can : ∀ σ, F3_canBe p (nI K) σ = some (if -(20 * 2 ^ K) ≤ p.toInt ∧ p.toInt ≤ 20 * 2 ^ K then nI 1 else nI 0, σ) := fun σ => by
    unfold F3_canBe
    by_cases h1 : p < (-20971520 : Int32)
    · have := lp.mp h1
      rw [if_pos h1, if_neg (by omega)]; rfl
    rw [if_neg h1]
    by_cases h2 : (20971520 : Int32) < p
    · have := gp.mp h2
      rw [if_pos h2, if_neg (by omega)]; rfl
    rw [if_neg h2, if_neg (nI_pos (by omega)), if_pos ((le_lit (c := 20) 20 rfl (by omega) (by omega)).mpr (by omega)), of_ok (by omega), hY, bn_s, show (-21474836480 : Int64) = zL (-21474836480) by decide, show (21474836480 : Int64) = zL 21474836480 by decide]
    have r1 : -9223372036854775808 ≤ 1024 * Y ∧ 1024 * Y < 9223372036854775808 := by omega
    by_cases c1 : -20971520 ≤ Y
    · rw [if_neg (by exact fun z => by have := (zL_lt r1 (by decide)).mp z; omega)]
      by_cases c2 : Y ≤ 20971520
      · rw [if_neg (by exact fun z => by have := (zL_gt r1 (by decide)).mp z; omega), if_pos ⟨iff2.mpr c1, iff1.mpr c2⟩]
        rfl
      · rw [if_pos ((zL_gt r1 (by decide)).mpr (by omega)), if_neg fun z => c2 (iff1.mp z.2)]
        rfl
    · rw [if_pos ((zL_lt r1 (by decide)).mpr (by omega)), if_neg fun z => c1 (iff2.mp z.1)]
      rfl
  by_cases h : -(20 * 2 ^ K) ≤ p.toInt ∧ p.toInt ≤ 20 * 2 ^ K
  · exact Or.inl ⟨Y, iff2.mp h.1, iff1.mp h.2, fun σ => by rw [can, if_pos h], fun σ => by rw [of_ok (by omega), hY], fun σ => by rw [isn, if_pos h], fun σ => by rw [partsOf_ok (by omega), hY]⟩
  · exact Or.inr ⟨fun σ => by rw [can, if_neg h], fun σ => by rw [isn, if_neg h]⟩
/-- a mask -/
theorem zL_lN (x : Int) : zL x = lN (x % 18446744073709551616).toNat := by
  apply Int64.toBitVec_inj.mp
  show BitVec.ofInt 64 x = BitVec.ofNat 64 _
  apply BitVec.eq_of_toNat_eq
  rw [BitVec.toNat_ofInt, BitVec.toNat_ofNat]
  omega
theorem fb_andL (a b : Nat) : lN a &&& lN b = lN (a &&& b) := by
  apply Int64.toBitVec_inj.1
  show BitVec.ofNat 64 a &&& BitVec.ofNat 64 b = BitVec.ofNat 64 (a &&& b)
  apply BitVec.eq_of_getLsbD_eq
  intro i hi
  simp [hi]
theorem zL_mask (x : Int) : zL x &&& (1073741823 : Int64) = zL (x % 1073741824) := by
  rw [zL_lN x, show (1073741823 : Int64) = lN (2 ^ 30 - 1) by decide, fb_andL, Nat.and_two_pow_sub_one_eq_mod, zL_lN (x % 1073741824)]
  congr 1
  omega
theorem isWhole_ok (V : Int) (σ : Ms) : F3_isWhole (zL (1024 * V)) σ = some (if V % 1048576 = 0 then nI 1 else nI 0, σ) := by
  unfold F3_isWhole
  rw [zL_mask, show (1024 * V) % 1073741824 = 1024 * (V % 1048576) by omega, Z0_z]
  by_cases h : V % 1048576 = 0
  · rw [if_neg (by exact fun z => z ((zL_eq (by omega) (by omega)).mpr (by omega))), if_pos h]
    rfl
  · rw [if_pos (by exact fun z => h (by have := (zL_eq (by omega) (by omega)).mp z; omega)), if_neg h]
    rfl
/-- the lowest bit of a number -/
theorem low_bit : ∀ n : Nat, 0 < n → ∃ s q, n = 2 ^ s * (2 * q + 1) := by
  intro n
  induction n using Nat.strongRecOn with
  | ind n ih =>
    intro h0
    by_cases h : n % 2 = 1
    · exact ⟨0, n / 2, by omega⟩
    · obtain ⟨s, q, e⟩ := ih (n / 2) (by omega) (by omega)
      refine ⟨s + 1, q, ?_⟩
      have e2 : n = 2 * (n / 2) := by omega
      rw [e2, e, Nat.pow_succ, Nat.mul_comm (2 ^ s) 2, Nat.mul_assoc]
theorem low_lt {n s q : Nat} (e : n = 2 ^ s * (2 * q + 1)) (h : n % 1048576 ≠ 0) : s < 20 := by
  refine Nat.lt_of_not_le fun z => h ?_
  rw [e, show (1048576 : Nat) = 2 ^ 20 from rfl, show 2 ^ s = 2 ^ 20 * 2 ^ (s - 20) from by rw [← Nat.pow_add]; congr 1; omega, Nat.mul_assoc]
  exact Nat.mul_mod_right _ _
/-- how often v must be doubled -/
theorem low_dbl {n s q i : Nat} (e : n = 2 ^ s * (2 * q + 1)) (hs : s < 20) : (n * 2 ^ i) % 1048576 = 0 ↔ 20 - s ≤ i := by
  have e1 : n * 2 ^ i = 2 ^ (s + i) * (2 * q + 1) := by rw [e, Nat.mul_right_comm, ← Nat.pow_add]
  constructor
  · intro h
    refine Nat.le_of_not_lt fun z => ?_
    have e2 : (1048576 : Nat) = 2 ^ (s + i) * 2 ^ (20 - (s + i)) := by rw [← Nat.pow_add, show s + i + (20 - (s + i)) = 20 by omega]
    rw [e1, e2, Nat.mul_mod_mul_left] at h
    have hp : 0 < 2 ^ (s + i) := Nat.two_pow_pos _
    have h2 : (2 * q + 1) % 2 ^ (20 - (s + i)) = 0 := by
      rcases Nat.mul_eq_zero.mp h with y | y
      · omega
      · exact y
    have h3 : (2 * q + 1) % 2 ^ (20 - (s + i)) % 2 = (2 * q + 1) % 2 := Nat.mod_mod_of_dvd _ (by
      rw [show 20 - (s + i) = (19 - (s + i)) + 1 by omega, Nat.pow_succ]
      exact Nat.dvd_mul_left 2 _)
    rw [h2] at h3
    omega
  · intro h
    rw [e1, show (1048576 : Nat) = 2 ^ 20 from rfl, show 2 ^ (s + i) = 2 ^ 20 * 2 ^ (s + i - 20) from by rw [← Nat.pow_add]; congr 1; omega, Nat.mul_assoc]
    exact Nat.mul_mod_right _ _
def ageV (V : Int) : Nat := V.natAbs / 1048576
theorem ntzL_ok {V : Int} {s q : Nat} (e : V.natAbs = 2 ^ s * (2 * q + 1)) (hs : s < 20) (σ : Ms) : FJ13_numberOfTrailingZeros_95d88 (zL (1024 * V)) σ = some (nI (s + 10), σ) := by
  have pw : (2 : Nat) ^ (s + 10) < 2 ^ 30 := Nat.pow_lt_pow_right (by decide) (by omega)
  have hp : 0 < (2 : Nat) ^ (s + 10) := Nat.two_pow_pos _
  have e1 : (1024 * V).natAbs = 2 ^ (s + 10) * (2 * q + 1) := by
    rw [Int.natAbs_mul, e, Nat.pow_add, show (1024 : Int).natAbs = 2 ^ 10 from rfl, ← Nat.mul_assoc, Nat.mul_comm (2 ^ 10) (2 ^ s)]
  obtain ⟨u, hu⟩ : ∃ u : Nat, (zL (1024 * V)).toInt32 = nI (2 ^ (s + 10) * (2 * u + 1)) := by
    have hd : (4294967296 : Nat) = 2 ^ (s + 10) * (2 * 2 ^ (21 - s)) := by
      rw [← Nat.mul_assoc, ← Nat.pow_succ, ← Nat.pow_add, show (s + 10).succ + (21 - s) = 32 by omega]
    have modn : ∀ x : Nat, nI x = nI (x % 4294967296) := fun x => by
      apply Int32.toBitVec_inj.mp
      apply BitVec.eq_of_toNat_eq
      show (BitVec.ofNat 32 x).toNat = (BitVec.ofNat 32 (x % 4294967296)).toNat
      rw [BitVec.toNat_ofNat, BitVec.toNat_ofNat]
      omega
    rw [zL_i]
    by_cases hv : 0 ≤ V
    · refine ⟨q, ?_⟩
      have : 1024 * V = ((2 ^ (s + 10) * (2 * q + 1) : Nat) : Int) := by rw [← e1]; omega
      rw [this]
      rfl
    · -- below 0: by 2^32 less
      refine ⟨2 ^ (21 - s) * (2 * q + 1) - q - 1, ?_⟩
      have hb : 1 ≤ (2 : Nat) ^ (21 - s) := Nat.two_pow_pos _
      have h4 : 2 ^ (s + 10) * (2 * (2 ^ (21 - s) * (2 * q + 1) - q - 1) + 1) + 2 ^ (s + 10) * (2 * q + 1) = 4294967296 * (2 * q + 1) := by
        rw [← Nat.mul_add, hd, Nat.mul_assoc (2 ^ (s + 10)), Nat.mul_assoc 2]
        congr 1
        have : q + 1 ≤ 2 ^ (21 - s) * (2 * q + 1) := by
          have : 1 * (2 * q + 1) ≤ 2 ^ (21 - s) * (2 * q + 1) := Nat.mul_le_mul_right _ hb
          omega
        omega
      have h5 : 1024 * V = ((2 ^ (s + 10) * (2 * (2 ^ (21 - s) * (2 * q + 1) - q - 1) + 1) : Nat) : Int) - 4294967296 * ((2 * q + 1 : Nat) : Int) := by
        have := e1
        omega
      apply Int32.toInt_inj.mp
      rw [h5]
      show (Int32.ofInt _).toInt = (Int32.ofInt ((2 ^ (s + 10) * (2 * (2 ^ (21 - s) * (2 * q + 1) - q - 1) + 1) : Nat) : Int)).toInt
      rw [Int32.toInt_ofInt, Int32.toInt_ofInt]
      show Int.bmod (_ - (4294967296 : Int) * _) 4294967296 = _
      exact Int.sub_mul_bmod_self_left _ _ _
  have hne : (zL (1024 * V)).toInt32 ≠ 0 := fun z => by
    have h1 := ntz_ok (t := s + 10) (q := u) (by omega) hu σ
    rw [z] at h1
    have h2 : FJ6_numberOfTrailingZeros_0f7a4 (0 : Int32) σ = some ((32 : Int32), σ) := by
      show lt (((0 : Int32) ^^^ (-1 : Int32)) &&& ((0 : Int32) - (1 : Int32))) (fun x4 => ntzB x4 σ) = _
      rw [lt_e, ntzB_V, show ntzV (((0 : Int32) ^^^ (-1 : Int32)) &&& ((0 : Int32) - (1 : Int32))) = 32 by decide +kernel]
    rw [h2] at h1
    have h3 : (32 : Int32) = nI (s + 10) := (Prod.mk.inj (Option.some.inj h1)).1
    have := (nI_eq (a := 32) (b := s + 10) (by omega) (by omega)).mp h3
    omega
  unfold FJ13_numberOfTrailingZeros_95d88
  rw [lt_e, if_pos hne, ntz_ok (t := s + 10) (q := u) (by omega) hu, bn_s]
def bday (V : Int) (s : Nat) : Nat := if V % 1048576 = 0 then V.natAbs / 1048576 else V.natAbs / 1048576 + (20 - s) + 1
theorem age_ok {V : Int} {s q : Nat} (hV : -20971520 ≤ V ∧ V ≤ 20971520) (e : V % 1048576 ≠ 0 → V.natAbs = 2 ^ s * (2 * q + 1) ∧ s < 20) (σ : Ms) : F3_age (zL (1024 * V)) σ = some (nI (bday V s), σ) := by
  unfold F3_age bday
  rw [zL_abs (by omega) (by omega), bn_s, show (30 : Int32) = nI 30 from rfl, zL_shr (by omega) (by omega) (by omega), zL_i, show (((1024 * V).natAbs : Int) / 2 ^ 30) = ((V.natAbs / 1048576 : Nat) : Int) by omega, zI_nI, lt_e, isWhole_ok, bn_s]
  by_cases h : V % 1048576 = 0
  · rw [if_pos h, if_neg (by decide), if_pos h]
  · obtain ⟨e1, hs⟩ := e h
    rw [if_neg h, if_pos (by rfl), ntzL_ok e1 hs, bn_s, if_neg h, nI_add, u_sub (by omega), show (1 : Int32) = nI 1 from rfl, nI_add]
    congr 3
    omega
