/-- Integer.numberOfTrailingZeros: what it does with the ones below the lowest bit -/
noncomputable def ntzB (x4 : Int32) (σ : Ms) : Option (Int32 × Ms) := if 0 < x4 then (if x4 ≤ (65536 : Int32) then (FJ6_numberOfTrailingZeros_0f7a4_b34 x4 (1 : Int32) σ) else (lt ((x4.toUInt32 >>> ((16 : Int32).toUInt32 &&& Int32.toUInt32 31)).toInt32) (fun x5 => FJ6_numberOfTrailingZeros_0f7a4_b34 x5 ((1 : Int32) + (16 : Int32)) σ))) else (some ((x4 &&& (32 : Int32)), σ))
def ntzV (x4 : Int32) : Int32 := if 0 < x4 then
    (let a := if x4 ≤ (65536 : Int32) then (x4, (1 : Int32)) else ((x4.toUInt32 >>> ((16 : Int32).toUInt32 &&& Int32.toUInt32 31)).toInt32, (1 : Int32) + (16 : Int32))
    let b := if a.1 ≤ (256 : Int32) then a else ((a.1.toUInt32 >>> ((8 : Int32).toUInt32 &&& Int32.toUInt32 31)).toInt32, a.2 + (8 : Int32))
    let c := if b.1 ≤ (16 : Int32) then b else ((b.1.toUInt32 >>> ((4 : Int32).toUInt32 &&& Int32.toUInt32 31)).toInt32, b.2 + (4 : Int32))
    let d := if c.1 ≤ (4 : Int32) then c else ((c.1.toUInt32 >>> ((2 : Int32).toUInt32 &&& Int32.toUInt32 31)).toInt32, c.2 + (2 : Int32))
    d.2 + (d.1.toUInt32 >>> ((1 : Int32).toUInt32 &&& Int32.toUInt32 31)).toInt32) else x4 &&& (32 : Int32)
theorem ntzB_V (x4 : Int32) (σ : Ms) : ntzB x4 σ = some (ntzV x4, σ) := by
  unfold ntzB ntzV FJ6_numberOfTrailingZeros_0f7a4_b34 FJ6_numberOfTrailingZeros_0f7a4_b49 FJ6_numberOfTrailingZeros_0f7a4_b62 FJ6_numberOfTrailingZeros_0f7a4_b74
  simp only [lt_e]
  by_cases h : 0 < x4
  · rw [if_pos h, if_pos h]
    by_cases h1 : x4 ≤ (65536 : Int32)
    · simp only [if_pos h1]
      by_cases h2 : x4 ≤ (256 : Int32)
      · simp only [if_pos h2]
        by_cases h3 : x4 ≤ (16 : Int32)
        · simp only [if_pos h3]
          split <;> rfl
        · simp only [if_neg h3]
          split <;> rfl
      · simp only [if_neg h2]
        split
        · split <;> rfl
        · split <;> rfl
    · simp only [if_neg h1]
      split
      · split
        · split <;> rfl
        · split <;> rfl
      · split
        · split <;> rfl
        · split <;> rfl
  · rw [if_neg h, if_neg h]
theorem ntzV_all : ∀ t, t < 31 → ntzV (nI (2 ^ t - 1)) = nI t := by decide +kernel
/-- of a number whose lowest bit is that of t -/
theorem ntz_ok {t q : Nat} (ht : t < 31) {x : Int32} (hx : x = nI (2 ^ t * (2 * q + 1))) (σ : Ms) : FJ6_numberOfTrailingZeros_0f7a4 x σ = some (nI t, σ) := by
  have e : (x ^^^ (-1 : Int32)) &&& (x - (1 : Int32)) = nI (2 ^ t - 1) := by
    have hp : 0 < 2 ^ t := Nat.two_pow_pos t
    have e1 : x - (1 : Int32) = nI (2 ^ (t + 1) * q + (2 ^ t - 1)) := by
      rw [hx, show (1 : Int32) = nI 1 from rfl, u_sub (by
        have : 0 < 2 ^ t * (2 * q + 1) := Nat.mul_pos hp (by omega)
        omega)]
      congr 1
      rw [Nat.mul_add, Nat.pow_succ, Nat.mul_assoc, Nat.mul_one]
      omega
    have e2 : x = nI (2 ^ (t + 1) * q + 2 ^ t) := by
      rw [hx]
      congr 1
      rw [Nat.mul_add, Nat.pow_succ, Nat.mul_assoc, Nat.mul_one]
    have h1 : (-1 : Int32).toBitVec = BitVec.allOnes 32 := by decide
    apply Int32.toBitVec_inj.1
    rw [e1]
    conv => lhs; rw [e2]
    show (BitVec.ofNat 32 (2 ^ (t + 1) * q + 2 ^ t) ^^^ (-1 : Int32).toBitVec) &&& BitVec.ofNat 32 (2 ^ (t + 1) * q + (2 ^ t - 1)) = BitVec.ofNat 32 (2 ^ t - 1)
    rw [h1]
    apply BitVec.eq_of_getLsbD_eq
    intro i hi
    have l1 : 2 ^ t - 1 < 2 ^ (t + 1) := by rw [Nat.pow_succ]; omega
    have l2 : 2 ^ t < 2 ^ (t + 1) := Nat.pow_lt_pow_right (by decide) (by omega)
    simp only [BitVec.getLsbD_and, BitVec.getLsbD_xor, BitVec.getLsbD_ofNat, BitVec.getLsbD_allOnes, hi, decide_true, Bool.true_and]
    rw [Nat.testBit_two_pow_mul_add _ l2, Nat.testBit_two_pow_mul_add _ l1, Nat.testBit_two_pow_sub_one]
    by_cases c1 : i < t + 1
    · rw [if_pos c1, if_pos c1, Nat.testBit_two_pow]
      by_cases c2 : i < t
      · rw [decide_eq_true c2, decide_eq_false (show ¬ t = i by omega)]
        rfl
      · rw [decide_eq_false c2, Bool.and_false]
    · rw [if_neg c1, if_neg c1, decide_eq_false (show ¬ i < t by omega)]
      cases q.testBit (i - (t + 1)) <;> rfl
  show lt ((x ^^^ (-1 : Int32)) &&& (x - (1 : Int32))) (fun x4 => ntzB x4 σ) = _
  rw [lt_e, e, ntzB_V, ntzV_all t ht]
