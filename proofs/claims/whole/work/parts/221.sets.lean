/-- a set built place by place -/
def pass (f : Nat → Nat → Bool) : Nat → Nat
  | 0 => 0
  | i + 1 => pass f i ||| (if f (pass f i) i = true then 2 ^ i else 0)
theorem pass_lt (f : Nat → Nat → Bool) : ∀ i, pass f i < 2 ^ i
  | 0 => Nat.two_pow_pos 0
  | i + 1 => by
    unfold pass
    have h := pass_lt f i
    have h1 : pass f i < 2 ^ (i + 1) := Nat.lt_of_lt_of_le h (Nat.pow_le_pow_right (by decide) (by omega))
    have h2 : (2 : Nat) ^ i < 2 ^ (i + 1) := Nat.pow_lt_pow_right (by decide) (by omega)
    refine Nat.or_lt_two_pow h1 ?_
    split
    · exact h2
    · exact Nat.two_pow_pos _
theorem pass_bit_s (f : Nat → Nat → Bool) (i : Nat) : (pass f (i + 1)).testBit i = f (pass f i) i := by
  show (pass f i ||| (if f (pass f i) i = true then 2 ^ i else 0)).testBit i = _
  rw [Nat.testBit_or, bit_lt (pass_lt f i) (Nat.le_refl _)]
  cases f (pass f i) i <;> simp [Nat.testBit_two_pow_self]
theorem pass_bit_o (f : Nat → Nat → Bool) {i j : Nat} (h : j ≠ i) : (pass f (i + 1)).testBit j = (pass f i).testBit j := by
  show (pass f i ||| (if f (pass f i) i = true then 2 ^ i else 0)).testBit j = _
  rw [Nat.testBit_or]
  cases f (pass f i) i <;> simp [Nat.testBit_two_pow, Ne.symm h]
theorem pass_st (f : Nat → Nat → Bool) {i j : Nat} (hj : j < i) : ∀ m, (pass f (i + m)).testBit j = (pass f i).testBit j
  | 0 => rfl
  | m + 1 => by rw [← Nat.add_assoc, pass_bit_o f (by omega), pass_st f hj m]
theorem pass_le (f : Nat → Nat → Bool) {i j n : Nat} (hj : j < i) (hn : i ≤ n) : (pass f n).testBit j = (pass f i).testBit j := by
  have := pass_st f hj (n - i)
  rwa [Nat.add_sub_cancel' hn] at this
theorem pass_bit (f : Nat → Nat → Bool) {j n : Nat} (h : j < n) : (pass f n).testBit j = f (pass f j) j := by
  rw [pass_le f (i := j + 1) (by omega) h, pass_bit_s]
theorem pass_no {f : Nat → Nat → Bool} {i : Nat} (h : f (pass f i) i = false) : pass f (i + 1) = pass f i := by
  show pass f i ||| (if f (pass f i) i = true then 2 ^ i else 0) = _
  rw [h]
  exact Nat.or_zero _
theorem pass_yes {f : Nat → Nat → Bool} {i : Nat} (h : f (pass f i) i = true) : pass f (i + 1) = pass f i ||| 2 ^ i := by
  show pass f i ||| (if f (pass f i) i = true then 2 ^ i else 0) = _
  rw [h]
  rfl
theorem and_pow (S i : Nat) : S &&& 2 ^ i = if S.testBit i = true then 2 ^ i else 0 := by
  apply Nat.eq_of_testBit_eq
  intro j
  rw [Nat.testBit_and, Nat.testBit_two_pow]
  by_cases q : i = j
  · subst q
    cases h : S.testBit i <;> simp [Nat.testBit_two_pow_self]
  · cases h : S.testBit i <;> simp [q, Nat.testBit_two_pow]
theorem pass_self {S n : Nat} (hS : S < 2 ^ n) : pass (fun _ i => S.testBit i) n = S := bits_eq (pass_lt _ n) hS fun i hi => pass_bit _ hi
theorem p2_lt {i n : Nat} (hi : i < n) : (2 : Nat) ^ i < 2 ^ n := Nat.pow_lt_pow_right (by decide) hi
/-- how many of a set, below a place -/
def pc (S : Nat) : Nat → Nat
  | 0 => 0
  | i + 1 => pc S i + (S.testBit i).toNat
theorem pc_le (S : Nat) : ∀ n, pc S n ≤ n
  | 0 => Nat.le_refl _
  | n + 1 => by
    have := pc_le S n
    have h : (S.testBit n).toNat ≤ 1 := by cases S.testBit n <;> decide
    show pc S n + _ ≤ _
    omega
theorem pc_cong {S T : Nat} : ∀ {n : Nat}, (∀ i, i < n → S.testBit i = T.testBit i) → pc S n = pc T n
  | 0, _ => rfl
  | n + 1, h => by
    show pc S n + _ = pc T n + _
    rw [pc_cong fun i hi => h i (by omega), h n (by omega)]
theorem pc_add {S T U : Nat} : ∀ {n : Nat}, (∀ i, i < n → (S.testBit i).toNat = (T.testBit i).toNat + (U.testBit i).toNat) → pc S n = pc T n + pc U n
  | 0, _ => rfl
  | n + 1, h => by
    show pc S n + _ = pc T n + _ + (pc U n + _)
    rw [pc_add (T := T) (U := U) fun i hi => h i (by omega), h n (by omega)]
    omega
theorem pc_big {S m : Nat} (hS : S < 2 ^ m) : ∀ n, m ≤ n → pc S n = pc S m := by
  intro n
  induction n with
  | zero => intro h; rw [show m = 0 by omega]
  | succ n ih =>
    intro h
    by_cases q : m = n + 1
    · rw [q]
    · show pc S n + _ = _
      rw [ih (by omega), bit_lt hS (by omega)]
      rfl
theorem pc_0 {S : Nat} : ∀ {n : Nat}, pc S n = 0 → ∀ i, i < n → S.testBit i = false
  | 0, _ => fun i hi => absurd hi (Nat.not_lt_zero i)
  | n + 1, h => fun i hi => by
    have h' : pc S n + (S.testBit n).toNat = 0 := h
    by_cases q : i = n
    · subst q
      cases e : S.testBit i
      · rfl
      · rw [e] at h'
        simp at h'
    · exact pc_0 (n := n) (by omega) i (by omega)
/-- the model counts -/
theorem sizeOf_ok {N S : Nat} (hN : 20 < N) (hS : S < 2 ^ 31) (σ : Ms) : F12_sizeOf N (nI S) σ = some (nI (pc S 20), σ) := by
  refine wp_eq ?_
  unfold F12_sizeOf F12_sizeOf_b4
  refine wp_fx (fun m x => ∃ i, i + m = 20 ∧ x = (nI S, nI (pc S i), nI i, σ)) ?_ (n := 20) hN ⟨0, rfl, rfl⟩
  rintro m k _ ⟨i, hi, rfl⟩ hk
  simp only
  unfold F12_sizeOf_b4B F12_sizeOf_b24
  by_cases q : 20 ≤ i
  · have e : i = 20 := by omega
    subst e
    simp (disch := first | omega | assumption) only [lt_e, bn_s, ck_t, nk0, nk1, nk_b, bI_t, bI_f, L_0, L_1, L_2, L_3, L_4, L_5, L_6, L_7, L_8, L_9, L_10, L_11, L_12, L_15, L_20, L_25, L_30, L_45, L_60, L_65, L_69, L_74, L_79, L_84, L_85, L_86, L_99, L_100, L_255, L_300, L_356, L_900, L_1424, L_1425, L_1489, L_1510, L_9999, L_10000, nI_add, nI_mul, u_lt_t, u_lt_f, u_le_t, u_le_f, u_eq_t, u_eq_f, u_mlt, u_ltm, u_eqm, u_meq, u_mle, u_b0, u_b1, u_ix, u_cl, u_sub, u_suc, u_z0, u_0m, cI_0, cI_s, rI_e, rI_k, rI_j, rI_l, rL_e, rL_k, rL_j, rL_i, told11, none11, refuse12, no11q, no12q, yes11q, if_true, if_false, ite_true, ite_false, ne_eq, not_true_eq_false, not_false_eq_true, Classical.not_not, Bool.not_eq_true, Bool.not_eq_false, reduceCtorEq, Nat.add_zero, Nat.zero_add, Nat.mul_zero, and_self, and_true, true_and, Bool.true_eq_false, Bool.false_eq_true, eq_self]
    exact wp_some.mpr ⟨rfl, rfl⟩
  · rw [has12 hS (by omega)]
    have e1 : pc S (i + 1) = pc S i + (S.testBit i).toNat := rfl
    cases h : S.testBit i
    · simp (disch := first | omega | assumption) only [lt_e, bn_s, ck_t, nk0, nk1, nk_b, bI_t, bI_f, L_0, L_1, L_2, L_3, L_4, L_5, L_6, L_7, L_8, L_9, L_10, L_11, L_12, L_15, L_20, L_25, L_30, L_45, L_60, L_65, L_69, L_74, L_79, L_84, L_85, L_86, L_99, L_100, L_255, L_300, L_356, L_900, L_1424, L_1425, L_1489, L_1510, L_9999, L_10000, nI_add, nI_mul, u_lt_t, u_lt_f, u_le_t, u_le_f, u_eq_t, u_eq_f, u_mlt, u_ltm, u_eqm, u_meq, u_mle, u_b0, u_b1, u_ix, u_cl, u_sub, u_suc, u_z0, u_0m, cI_0, cI_s, rI_e, rI_k, rI_j, rI_l, rL_e, rL_k, rL_j, rL_i, told11, none11, refuse12, no11q, no12q, yes11q, if_true, if_false, ite_true, ite_false, ne_eq, not_true_eq_false, not_false_eq_true, Classical.not_not, Bool.not_eq_true, Bool.not_eq_false, reduceCtorEq, Nat.add_zero, Nat.zero_add, Nat.mul_zero, and_self, and_true, true_and, Bool.true_eq_false, Bool.false_eq_true, eq_self]
      refine hk (m - 1) _ (by omega) ⟨i + 1, by omega, ?_⟩
      rw [e1, h]
      rfl
    · simp (disch := first | omega | assumption) only [lt_e, bn_s, ck_t, nk0, nk1, nk_b, bI_t, bI_f, L_0, L_1, L_2, L_3, L_4, L_5, L_6, L_7, L_8, L_9, L_10, L_11, L_12, L_15, L_20, L_25, L_30, L_45, L_60, L_65, L_69, L_74, L_79, L_84, L_85, L_86, L_99, L_100, L_255, L_300, L_356, L_900, L_1424, L_1425, L_1489, L_1510, L_9999, L_10000, nI_add, nI_mul, u_lt_t, u_lt_f, u_le_t, u_le_f, u_eq_t, u_eq_f, u_mlt, u_ltm, u_eqm, u_meq, u_mle, u_b0, u_b1, u_ix, u_cl, u_sub, u_suc, u_z0, u_0m, cI_0, cI_s, rI_e, rI_k, rI_j, rI_l, rL_e, rL_k, rL_j, rL_i, told11, none11, refuse12, no11q, no12q, yes11q, if_true, if_false, ite_true, ite_false, ne_eq, not_true_eq_false, not_false_eq_true, Classical.not_not, Bool.not_eq_true, Bool.not_eq_false, reduceCtorEq, Nat.add_zero, Nat.zero_add, Nat.mul_zero, and_self, and_true, true_and, Bool.true_eq_false, Bool.false_eq_true, eq_self]
      refine hk (m - 1) _ (by omega) ⟨i + 1, by omega, ?_⟩
      rw [e1, h]
      rfl
/-- Integer.bitCount -/
def tk (k M x : Nat) : Nat := (x >>> k) &&& M
theorem tk_lin {k M a y : Nat} (hk : k ≤ 2) (hp : ∀ j, j < 28 → M.testBit (j + 4) = M.testBit j) (hz : ∀ j, j < 4 → 4 ≤ j + k → M.testBit j = false) (ha : a < 16) (hy : y < 2 ^ 16) : tk k M (a + 16 * y) = tk k M a + 16 * tk k M y := by
  have l1 : tk k M a < 2 ^ 4 := by
    unfold tk
    refine Nat.lt_of_le_of_lt Nat.and_le_left ?_
    rw [Nat.shiftRight_eq_div_pow]
    exact Nat.lt_of_le_of_lt (Nat.div_le_self _ _) ha
  apply Nat.eq_of_testBit_eq
  intro j
  rw [Nat.add_comm (tk k M a), show 16 * tk k M y = 2 ^ 4 * tk k M y from rfl, Nat.testBit_two_pow_mul_add _ l1]
  unfold tk
  rw [Nat.add_comm a, show 16 * y = 2 ^ 4 * y from rfl, Nat.testBit_and, Nat.testBit_shiftRight, Nat.testBit_two_pow_mul_add _ (show a < 2 ^ 4 from ha)]
  by_cases q : j < 4
  · rw [if_pos q, Nat.testBit_and, Nat.testBit_shiftRight]
    by_cases r : k + j < 4
    · rw [if_pos r]
    · rw [if_neg r, hz j q (by omega), Bool.and_false, Bool.and_false]
  · rw [if_neg q, if_neg (by omega), Nat.testBit_and, Nat.testBit_shiftRight, show k + j - 4 = k + (j - 4) by omega]
    by_cases r : j < 32
    · have := hp (j - 4) (by omega)
      rw [show j - 4 + 4 = j by omega] at this
      rw [this]
    · rw [bit_lt hy (show 16 ≤ k + (j - 4) by omega)]
      rfl
def bc2 (x : Nat) : Nat := tk 0 858993459 (x - tk 1 1431655765 x) + tk 2 858993459 (x - tk 1 1431655765 x)
theorem bc2_lin {a y : Nat} (ha : a < 16) (hy : y < 2 ^ 16) : bc2 (a + 16 * y) = bc2 a + 16 * bc2 y := by
  unfold bc2
  have le : ∀ x, tk 1 1431655765 x ≤ x := fun x => by
    unfold tk
    refine Nat.le_trans Nat.and_le_left ?_
    rw [Nat.shiftRight_eq_div_pow]
    exact Nat.div_le_self _ _
  have e : a + 16 * y - tk 1 1431655765 (a + 16 * y) = (a - tk 1 1431655765 a) + 16 * (y - tk 1 1431655765 y) := by
    have := le a
    have := le y
    rw [tk_lin (by decide) (by decide) (by decide) ha hy]
    omega
  rw [e, tk_lin (by decide) (by decide) (by decide) (by omega) (by omega), tk_lin (by decide) (by decide) (by decide) (by omega) (by omega)]
  omega
def bc6 (x : Nat) : Nat := ((((x + x >>> 4) &&& 252645135) + ((x + x >>> 4) &&& 252645135) >>> 8) + (((x + x >>> 4) &&& 252645135) + ((x + x >>> 4) &&& 252645135) >>> 8) >>> 16) &&& 63
theorem bc2_16 : ∀ a, a < 16 → bc2 a = pc a 4 := by decide +kernel
theorem bc6_all : ∀ a, a < 5 → ∀ b, b < 5 → ∀ c, c < 5 → ∀ d, d < 5 → ∀ e, e < 5 → bc6 (a + 16 * (b + 16 * (c + 16 * (d + 16 * e)))) = a + b + c + d + e := by decide +kernel
theorem pc_lin {a y : Nat} (ha : a < 16) : ∀ n, pc (a + 16 * y) (4 + n) = pc a 4 + pc y n
  | 0 => by
    refine pc_cong fun i hi => ?_
    rw [Nat.add_comm a, show 16 * y = 2 ^ 4 * y from rfl, Nat.testBit_two_pow_mul_add _ (show a < 2 ^ 4 from ha), if_pos hi]
  | n + 1 => by
    show pc (a + 16 * y) (4 + n) + _ = pc a 4 + (pc y n + _)
    rw [pc_lin ha n, Nat.add_assoc]
    congr 2
    show ((a + 16 * y).testBit (4 + n)).toNat = (y.testBit n).toNat
    rw [Nat.add_comm a, show 16 * y = 2 ^ 4 * y from rfl, Nat.testBit_two_pow_mul_add _ (show a < 2 ^ 4 from ha), if_neg (by omega), show 4 + n - 4 = n by omega]
theorem bc_ok {x : Nat} (hx : x < 2 ^ 20) : bc6 (bc2 x) = pc x 20 := by
  have p4 : ∀ z, pc z 4 < 5 := fun z => by have := pc_le z 4; omega
  obtain ⟨a, b, c, d, e, ha, hb, hc, hd, he, rfl⟩ : ∃ a b c d e, a < 16 ∧ b < 16 ∧ c < 16 ∧ d < 16 ∧ e < 16 ∧ x = a + 16 * (b + 16 * (c + 16 * (d + 16 * e))) := ⟨x % 16, x / 16 % 16, x / 256 % 16, x / 4096 % 16, x / 65536, by omega, by omega, by omega, by omega, by omega, by omega⟩
  have q1 : pc (a + 16 * (b + 16 * (c + 16 * (d + 16 * e)))) 20 = pc a 4 + pc (b + 16 * (c + 16 * (d + 16 * e))) 16 := pc_lin ha 16
  have q2 : pc (b + 16 * (c + 16 * (d + 16 * e))) 16 = pc b 4 + pc (c + 16 * (d + 16 * e)) 12 := pc_lin hb 12
  have q3 : pc (c + 16 * (d + 16 * e)) 12 = pc c 4 + pc (d + 16 * e) 8 := pc_lin hc 8
  have q4 : pc (d + 16 * e) 8 = pc d 4 + pc e 4 := pc_lin hd 4
  rw [bc2_lin ha (by omega), bc2_lin hb (by omega), bc2_lin hc (by omega), bc2_lin hd (by omega), bc2_16 a ha, bc2_16 b hb, bc2_16 c hc, bc2_16 d hd, bc2_16 e he, bc6_all _ (p4 a) _ (p4 b) _ (p4 c) _ (p4 d) _ (p4 e), q1, q2, q3, q4]
  omega
theorem s_u : ∀ n, n < 32 → (((nI n).toUInt32 &&& Int32.toUInt32 31).toBitVec % 32).toNat = n := by decide +kernel
theorem u_ush {k j : Nat} (hk : k < 2 ^ 32) (hj : j < 32) : ((nI k).toUInt32 >>> ((nI j).toUInt32 &&& Int32.toUInt32 31)).toInt32 = nI (k >>> j) := by
  apply Int32.toBitVec_inj.mp
  show ((nI k).toUInt32 >>> ((nI j).toUInt32 &&& Int32.toUInt32 31)).toBitVec = BitVec.ofNat 32 (k >>> j)
  rw [UInt32.toBitVec_shiftRight]
  show (BitVec.ofNat 32 k) >>> (((nI j).toUInt32 &&& Int32.toUInt32 31).toBitVec % 32).toNat = _
  rw [s_u j hj]
  apply BitVec.eq_of_getLsbD_eq
  intro i hi
  rw [BitVec.getLsbD_ushiftRight, BitVec.getLsbD_ofNat, BitVec.getLsbD_ofNat, Nat.testBit_shiftRight]
  by_cases q : j + i < 32
  · simp [hi, q]
  · have := bit_lt hk (show 32 ≤ j + i by omega)
    simp [this]
theorem bitCount_ok {x : Nat} (hx : x < 2 ^ 20) (σ : Ms) : FJ6_bitCount_0f7a4 (nI x) σ = some (nI (pc x 20), σ) := by
  have sh : ∀ k j, k >>> j ≤ k := fun k j => by rw [Nat.shiftRight_eq_div_pow]; exact Nat.div_le_self _ _
  have al : ∀ a b, a &&& b ≤ a := fun a b => Nat.and_le_left
  have e1 : ∀ k, k < 2 ^ 32 → ((nI k).toUInt32 >>> ((1 : Int32).toUInt32 &&& Int32.toUInt32 31)).toInt32 = nI (k >>> 1) := fun k h => u_ush h (j := 1) (by decide)
  have e2 : ∀ k, k < 2 ^ 32 → ((nI k).toUInt32 >>> ((2 : Int32).toUInt32 &&& Int32.toUInt32 31)).toInt32 = nI (k >>> 2) := fun k h => u_ush h (j := 2) (by decide)
  have e4 : ∀ k, k < 2 ^ 32 → ((nI k).toUInt32 >>> ((4 : Int32).toUInt32 &&& Int32.toUInt32 31)).toInt32 = nI (k >>> 4) := fun k h => u_ush h (j := 4) (by decide)
  have e8 : ∀ k, k < 2 ^ 32 → ((nI k).toUInt32 >>> ((8 : Int32).toUInt32 &&& Int32.toUInt32 31)).toInt32 = nI (k >>> 8) := fun k h => u_ush h (j := 8) (by decide)
  have e16 : ∀ k, k < 2 ^ 32 → ((nI k).toUInt32 >>> ((16 : Int32).toUInt32 &&& Int32.toUInt32 31)).toInt32 = nI (k >>> 16) := fun k h => u_ush h (j := 16) (by decide)
  have m1 : ∀ k, nI k &&& (1431655765 : Int32) = nI (k &&& 1431655765) := fun k => fa_and k 1431655765
  have m2 : ∀ k, nI k &&& (858993459 : Int32) = nI (k &&& 858993459) := fun k => fa_and k 858993459
  have m3 : ∀ k, nI k &&& (252645135 : Int32) = nI (k &&& 252645135) := fun k => fa_and k 252645135
  have m4 : ∀ k, nI k &&& (63 : Int32) = nI (k &&& 63) := fun k => fa_and k 63
  have t1 : (x >>> 1) &&& 1431655765 ≤ x := Nat.le_trans (al _ _) (sh x 1)
  unfold FJ6_bitCount_0f7a4
  simp only [lt_e]
  rw [e1 x (by omega), m1, u_sub t1]
  have b1 : x - (x >>> 1 &&& 1431655765) ≤ x := Nat.sub_le _ _
  have b2 := sh (x - (x >>> 1 &&& 1431655765)) 2
  rw [e2 _ (by omega), m2, m2, nI_add]
  have b3 := al (x - (x >>> 1 &&& 1431655765)) 858993459
  have b4 := al ((x - (x >>> 1 &&& 1431655765)) >>> 2) 858993459
  have eb : (x - (x >>> 1 &&& 1431655765) &&& 858993459) + ((x - (x >>> 1 &&& 1431655765)) >>> 2 &&& 858993459) = bc2 x := rfl
  have b5 : bc2 x < 2 ^ 22 := by rw [← eb]; omega
  rw [eb]
  have b6 := sh (bc2 x) 4
  rw [e4 _ (by omega), nI_add, m3]
  have b7 := al (bc2 x + bc2 x >>> 4) 252645135
  have b8 := sh (bc2 x + bc2 x >>> 4 &&& 252645135) 8
  rw [e8 _ (by omega), nI_add]
  have b9 := sh ((bc2 x + bc2 x >>> 4 &&& 252645135) + (bc2 x + bc2 x >>> 4 &&& 252645135) >>> 8) 16
  rw [e16 _ (by omega), nI_add, m4]
  exact congrArg (fun w => some (nI w, σ)) (bc_ok hx)
