/-- bits of an int (rows of the kit's BITS and NUMBERS, pasted) -/
theorem s_l : ∀ n, n < 32 → ((nI n &&& 31).toBitVec.smod 32).toNat = n := by decide +kernel
theorem fa_and (a b : Nat) : nI a &&& nI b = nI (a &&& b) := by
  apply Int32.toBitVec_inj.1
  show BitVec.ofNat 32 a &&& BitVec.ofNat 32 b = BitVec.ofNat 32 (a &&& b)
  apply BitVec.eq_of_getLsbD_eq
  intro i hi
  simp [hi]
theorem fa_or (a b : Nat) : nI a ||| nI b = nI (a ||| b) := by
  apply Int32.toBitVec_inj.1
  show BitVec.ofNat 32 a ||| BitVec.ofNat 32 b = BitVec.ofNat 32 (a ||| b)
  apply BitVec.eq_of_getLsbD_eq
  intro i hi
  simp [hi]
theorem nx_xor (a b : Nat) : nI a ^^^ nI b = nI (a ^^^ b) := by
  apply Int32.toBitVec_inj.1
  show BitVec.ofNat 32 a ^^^ BitVec.ofNat 32 b = BitVec.ofNat 32 (a ^^^ b)
  apply BitVec.eq_of_getLsbD_eq
  intro i hi
  simp [hi]
theorem u_shr {S i : Nat} (hS : S < 2 ^ 31) (hi : i < 32) : nI S >>> (nI i &&& 31) = nI (S >>> i) := by
  apply Int32.toBitVec_inj.mp
  rw [Int32.toBitVec_shiftRight]
  show (BitVec.ofNat 32 S).sshiftRight ((nI i &&& 31).toBitVec.smod 32).toNat = BitVec.ofNat 32 (S >>> i)
  rw [s_l i hi]
  apply BitVec.eq_of_getLsbD_eq
  intro j hj
  have big : ∀ k, 31 ≤ k → S.testBit k = false := fun k hk => Nat.testBit_lt_two_pow (Nat.lt_of_lt_of_le hS (Nat.pow_le_pow_right (by decide) hk))
  rw [BitVec.getLsbD_sshiftRight, BitVec.msb_eq_getLsbD_last, BitVec.getLsbD_ofNat, BitVec.getLsbD_ofNat, BitVec.getLsbD_ofNat, Nat.testBit_shiftRight]
  by_cases q : i + j < 32
  · simp [hj, q]
  · have e1 := big (i + j) (by omega)
    have e2 := big 31 (by omega)
    simp [hj, q, e1, e2]
/-- a truth as an int -/
def bI (b : Bool) : Int32 := if b = true then nI 1 else nI 0
theorem bI_t : bI true = nI 1 := rfl
theorem bI_f : bI false = nI 0 := rfl
theorem nk_b (b : Bool) : nkB (bI b) = true := by cases b <;> decide
theorem u_bit {S i : Nat} (hS : S < 2 ^ 31) (hi : i < 32) : ((nI S >>> (nI i &&& 31)) &&& (1 : Int32)) = bI (S.testBit i) := by
  rw [u_shr hS hi]
  show nI (S >>> i) &&& nI 1 = _
  rw [fa_and, Nat.and_one_is_mod, Nat.shiftRight_eq_div_pow, Nat.testBit_eq_decide_div_mod_eq]
  rcases Nat.mod_two_eq_zero_or_one (S / 2 ^ i) with h | h
  · rw [h]; rfl
  · rw [h]; rfl
theorem isIn11 {S i : Nat} (hS : S < 2 ^ 31) (hi : i < 32) (σ : Ms) : F11_isIn (nI S) (nI i) σ = some (bI (S.testBit i), σ) := by
  unfold F11_isIn
  rw [u_bit hS hi]
  cases S.testBit i <;> rfl
theorem has12 {S i : Nat} (hS : S < 2 ^ 31) (hi : i < 32) (σ : Ms) : F12_has (nI S) (nI i) σ = some (bI (S.testBit i), σ) := by
  unfold F12_has
  rw [u_bit hS hi]
  cases S.testBit i <;> rfl
theorem u_shl1 : ∀ i, i < 31 → nI 1 <<< (nI i &&& 31) = nI (2 ^ i) := by decide +kernel
theorem u_shl0 : ∀ i, i < 31 → nI 0 <<< (nI i &&& 31) = nI 0 := by decide +kernel
/-- the set without another -/
def dif (S r : Nat) : Nat := S ^^^ (S &&& r)
theorem dif_bit (S r i : Nat) : (dif S r).testBit i = (S.testBit i && !r.testBit i) := by
  unfold dif
  rw [Nat.testBit_xor, Nat.testBit_and]
  cases S.testBit i <;> cases r.testBit i <;> rfl
theorem u_dif (S r : Nat) : nI S &&& (nI r ^^^ (-1 : Int32)) = nI (dif S r) := by
  apply Int32.toBitVec_inj.1
  show BitVec.ofNat 32 S &&& (BitVec.ofNat 32 r ^^^ (-1 : Int32).toBitVec) = BitVec.ofNat 32 (dif S r)
  have h1 : (-1 : Int32).toBitVec = BitVec.allOnes 32 := by decide
  rw [h1]
  apply BitVec.eq_of_getLsbD_eq
  intro i hi
  simp only [BitVec.getLsbD_and, BitVec.getLsbD_xor, BitVec.getLsbD_ofNat, BitVec.getLsbD_allOnes, hi, decide_true, Bool.true_and, dif_bit]
  cases S.testBit i <;> cases r.testBit i <;> rfl
theorem bit_lt {S n i : Nat} (hS : S < 2 ^ n) (h : n ≤ i) : S.testBit i = false := Nat.testBit_lt_two_pow (Nat.lt_of_lt_of_le hS (Nat.pow_le_pow_right (by decide) h))
theorem bit_of {S n i : Nat} (hS : S < 2 ^ n) (h : S.testBit i = true) : i < n := Nat.lt_of_not_le fun z => by rw [bit_lt hS z] at h; cases h
theorem lt_bits {S n : Nat} (h : ∀ i, n ≤ i → S.testBit i = false) : S < 2 ^ n := Nat.lt_pow_two_of_testBit S h
theorem bits_eq {S T n : Nat} (hS : S < 2 ^ n) (hT : T < 2 ^ n) (h : ∀ i, i < n → S.testBit i = T.testBit i) : S = T := Nat.eq_of_testBit_eq fun i => by
  rcases Nat.lt_or_ge i n with q | q
  · exact h i q
  · rw [bit_lt hS q, bit_lt hT q]
theorem pow_le31 {n : Nat} (h : n ≤ 20) : (2 : Nat) ^ n < 2 ^ 31 := Nat.pow_lt_pow_right (by decide) (by omega)
theorem set_lt {S n : Nat} (hS : S < 2 ^ n) (h : n ≤ 20) : S < 2 ^ 31 := Nat.lt_trans hS (pow_le31 h)
theorem dif_lt {S r n : Nat} (hS : S < 2 ^ n) : dif S r < 2 ^ n := lt_bits fun i h => by rw [dif_bit, bit_lt hS h]; rfl
/-- numbers compared -/
theorem u_lt_t {a b : Nat} (h : a < b) (hb : b < 2147483648) : (nI a < nI b) = True := eq_true (nI_lt h hb)
theorem u_lt_f {a b : Nat} (h : b ≤ a) (hb : a < 2147483648) : (nI a < nI b) = False := eq_false (nI_nlt h hb)
theorem u_le_t {a b : Nat} (h : a ≤ b) (hb : b < 2147483648) : (nI a ≤ nI b) = True := eq_true (nI_le h hb)
theorem u_le_f {a b : Nat} (h : b < a) (hb : a < 2147483648) : (nI a ≤ nI b) = False := eq_false (nI_ge h hb)
theorem u_eq_t {a b : Nat} (h : a = b) : (nI a = nI b) = True := eq_true (by rw [h])
theorem u_eq_f {a b : Nat} (h : a ≠ b) (ha : a < 2147483648) (hb : b < 2147483648) : (nI a = nI b) = False := eq_false fun z => h ((nI_eq ha hb).mp z)
theorem u_mlt {a : Nat} (ha : a < 2147483648) : (nI a < -nI 1) = False := eq_false fun z => by
  have := Int32.lt_iff_toInt_lt.mp z
  rw [nI_toInt ha, show (-nI 1).toInt = -1 from rfl] at this
  omega
theorem u_ltm {a : Nat} (ha : a < 2147483648) : (-nI 1 < nI a) = True := eq_true (by
  apply Int32.lt_iff_toInt_lt.mpr
  rw [nI_toInt ha, show (-nI 1).toInt = -1 from rfl]
  omega)
theorem u_eqm {a : Nat} (ha : a < 2147483648) : (nI a = -nI 1) = False := eq_false fun z => by
  have := congrArg Int32.toInt z
  rw [nI_toInt ha, show (-nI 1).toInt = -1 from rfl] at this
  omega
theorem u_meq {a : Nat} (ha : a < 2147483648) : (-nI 1 = nI a) = False := eq_false fun z => (u_eqm ha).mp z.symm
theorem u_mle {a : Nat} (ha : a < 2147483648) : (nI a ≤ -nI 1) = False := eq_false fun z => by
  have := Int32.le_iff_toInt_le.mp z
  rw [nI_toInt ha, show (-nI 1).toInt = -1 from rfl] at this
  omega
theorem u_b0 (b : Bool) : (bI b = nI 0) = (b = false) := by cases b <;> simp [bI] <;> decide
theorem u_b1 (b : Bool) : (bI b = nI 1) = (b = true) := by cases b <;> simp [bI] <;> decide
theorem u_ix {i n : Nat} (hi : i < n) (hn : n < 2147483648) : ixb (nI i) n = true := ixb_nI hi hn
theorem u_cl {n : Nat} (h : n < 2147483648) : (nI n).toNatClampNeg = n := nI_clamp h
theorem u_sub {a b : Nat} (h : b ≤ a) : nI a - nI b = nI (a - b) := nI_sub h
theorem u_suc (a : Nat) : nI (a + 1) + -nI 1 = nI a := by rw [← Int32.sub_eq_add_neg, show nI 1 = 1 from rfl, nI_pred]
theorem u_z0 : nI 0 - nI 1 = -nI 1 := by decide
theorem u_0m : nI 0 + -nI 1 = -nI 1 := by decide
/-- a place: the one on which it is, 0 for the ground -/
def cI (k : Nat) : Int32 := nI k - nI 1
theorem cI_0 : cI 0 = -nI 1 := rfl
theorem cI_s (k : Nat) : cI (k + 1) = nI k := by unfold cI; rw [u_sub (by omega)]; rfl
/-- cells read behind a write -/
theorem rI_e {σ : Ms} {k k' j j' : Nat} {v : Int32} (h1 : k' = k) (h2 : j' = j) : (sI σ k j v).1 k' j' = v := if_pos ⟨h1, h2⟩
theorem rI_k {σ : Ms} {k k' j j' : Nat} {v : Int32} (h : k' ≠ k) : (sI σ k j v).1 k' j' = σ.1 k' j' := if_neg fun z => h z.1
theorem rI_j {σ : Ms} {k k' j j' : Nat} {v : Int32} (h : j' ≠ j) : (sI σ k j v).1 k' j' = σ.1 k' j' := if_neg fun z => h z.2
theorem rI_l (σ : Ms) (k j : Nat) (v : Int32) : (sI σ k j v).2 = σ.2 := rfl
theorem rL_e {σ : Ms} {k k' j j' : Nat} {v : Int64} (h1 : k' = k) (h2 : j' = j) : (sL σ k j v).2 k' j' = v := if_pos ⟨h1, h2⟩
theorem rL_k {σ : Ms} {k k' j j' : Nat} {v : Int64} (h : k' ≠ k) : (sL σ k j v).2 k' j' = σ.2 k' j' := if_neg fun z => h z.1
theorem rL_j {σ : Ms} {k k' j j' : Nat} {v : Int64} (h : j' ≠ j) : (sL σ k j v).2 k' j' = σ.2 k' j' := if_neg fun z => h z.2
theorem rL_i (σ : Ms) (k j : Nat) (v : Int64) : (sL σ k j v).1 = σ.1 := rfl
theorem told11 (r : Int32) (σ : Ms) : F11_told r σ = some (r, sI σ 11 17 (nI 0)) := rfl
theorem none11 (c : Int32) (σ : Ms) : F11_none c σ = some (-nI 1, sI σ 11 17 c) := rfl
theorem refuse12 (c : Int32) (σ : Ms) : F12_refuse c σ = some (-nI 1, sI σ 0 0 c) := rfl
theorem no11q (c : Int32) (σ : Ms) : F11_no c σ = some (nI 0, sI σ 11 17 c) := rfl
theorem no12q (c : Int32) (σ : Ms) : F12_no c σ = some (nI 0, sI σ 0 0 c) := rfl
theorem yes11q (σ : Ms) : F11_yes σ = some (nI 1, sI σ 11 17 (nI 0)) := rfl
theorem L_0 : (0 : Int32) = nI 0 := rfl
theorem L_1 : (1 : Int32) = nI 1 := rfl
theorem L_2 : (2 : Int32) = nI 2 := rfl
theorem L_3 : (3 : Int32) = nI 3 := rfl
theorem L_4 : (4 : Int32) = nI 4 := rfl
theorem L_5 : (5 : Int32) = nI 5 := rfl
theorem L_6 : (6 : Int32) = nI 6 := rfl
theorem L_7 : (7 : Int32) = nI 7 := rfl
theorem L_8 : (8 : Int32) = nI 8 := rfl
theorem L_9 : (9 : Int32) = nI 9 := rfl
theorem L_10 : (10 : Int32) = nI 10 := rfl
theorem L_11 : (11 : Int32) = nI 11 := rfl
theorem L_12 : (12 : Int32) = nI 12 := rfl
theorem L_15 : (15 : Int32) = nI 15 := rfl
theorem L_20 : (20 : Int32) = nI 20 := rfl
theorem L_25 : (25 : Int32) = nI 25 := rfl
theorem L_30 : (30 : Int32) = nI 30 := rfl
theorem L_45 : (45 : Int32) = nI 45 := rfl
theorem L_60 : (60 : Int32) = nI 60 := rfl
theorem L_65 : (65 : Int32) = nI 65 := rfl
theorem L_69 : (69 : Int32) = nI 69 := rfl
theorem L_74 : (74 : Int32) = nI 74 := rfl
theorem L_79 : (79 : Int32) = nI 79 := rfl
theorem L_84 : (84 : Int32) = nI 84 := rfl
theorem L_85 : (85 : Int32) = nI 85 := rfl
theorem L_86 : (86 : Int32) = nI 86 := rfl
theorem L_99 : (99 : Int32) = nI 99 := rfl
theorem L_100 : (100 : Int32) = nI 100 := rfl
theorem L_255 : (255 : Int32) = nI 255 := rfl
theorem L_300 : (300 : Int32) = nI 300 := rfl
theorem L_356 : (356 : Int32) = nI 356 := rfl
theorem L_900 : (900 : Int32) = nI 900 := rfl
theorem L_1424 : (1424 : Int32) = nI 1424 := rfl
theorem L_1425 : (1425 : Int32) = nI 1425 := rfl
theorem L_1489 : (1489 : Int32) = nI 1489 := rfl
theorem L_1510 : (1510 : Int32) = nI 1510 := rfl
theorem L_9999 : (9999 : Int32) = nI 9999 := rfl
theorem L_10000 : (10000 : Int32) = nI 10000 := rfl
theorem wp_eq {A : Type} {o : Option (A × Ms)} {v : A} {σ : Ms} (h : wp o fun r τ => r = v ∧ τ = σ) : o = some (v, σ) := by
  obtain ⟨r, τ, rfl, rfl, rfl⟩ := h
  rfl
theorem eq_wp {A : Type} {o : Option (A × Ms)} {v : A} {σ : Ms} {P : A → Ms → Prop} (h : o = some (v, σ)) (p : P v σ) : wp o P := ⟨v, σ, h, p⟩
