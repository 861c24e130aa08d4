/-- the n-th of the sets within S -/
def dep : Nat → Nat → Nat → Nat
  | 0, _, _ => 0
  | m + 1, S, n => if S % 2 = 1 then n % 2 + 2 * dep m (S / 2) (n / 2) else 2 * dep m (S / 2) n
def pl : Nat → Nat → Nat
  | 0, _ => 0
  | m + 1, S => S % 2 + pl m (S / 2)
theorem and_2 (a b c d : Nat) (hc : c < 2) (hd : d < 2) : (2 * a + c) &&& (2 * b + d) = 2 * (a &&& b) + (c &&& d) := by
  apply Nat.eq_of_testBit_eq
  intro i
  have hcd : c &&& d < 2 := Nat.lt_of_le_of_lt Nat.and_le_left hc
  rcases Nat.eq_zero_or_pos i with rfl | h
  · rw [Nat.testBit_and, Nat.testBit_zero, Nat.testBit_zero, Nat.testBit_zero]
    rcases (show c = 0 ∨ c = 1 by omega) with rfl | rfl <;> rcases (show d = 0 ∨ d = 1 by omega) with rfl | rfl <;> simp <;> omega
  · obtain ⟨k, rfl⟩ : ∃ k, i = k + 1 := ⟨i - 1, by omega⟩
    rw [Nat.testBit_and, Nat.testBit_succ, Nat.testBit_succ, Nat.testBit_succ, ← Nat.testBit_and, show (2 * a + c) / 2 = a by omega, show (2 * b + d) / 2 = b by omega, show (2 * (a &&& b) + (c &&& d)) / 2 = a &&& b by omega]
theorem dep_le : ∀ m S n, dep m S n ≤ S
  | 0, _, _ => Nat.zero_le _
  | m + 1, S, n => by
    unfold dep
    have h1 := dep_le m (S / 2) (n / 2)
    have h2 := dep_le m (S / 2) n
    split <;> omega
theorem dep_and : ∀ m S n, dep m S n &&& S = dep m S n
  | 0, S, _ => Nat.zero_and S
  | m + 1, S, n => by
    unfold dep
    have h1 := dep_and m (S / 2) (n / 2)
    have h2 := dep_and m (S / 2) n
    split
    · next h =>
      have : S = 2 * (S / 2) + 1 := by omega
      rw [show n % 2 + 2 * dep m (S / 2) (n / 2) = 2 * dep m (S / 2) (n / 2) + n % 2 by omega]
      conv => lhs; rhs; rw [this]
      rw [and_2 _ _ _ _ (by omega) (by omega), h1]
      rcases (show n % 2 = 0 ∨ n % 2 = 1 by omega) with e | e <;> rw [e] <;> rfl
    · next h =>
      have : S = 2 * (S / 2) + 0 := by omega
      rw [show 2 * dep m (S / 2) n = 2 * dep m (S / 2) n + 0 from rfl]
      conv => lhs; rhs; rw [this]
      rw [and_2 _ _ _ _ (by omega) (by omega), h2]
      rfl
theorem and_self_m : ∀ {m S r : Nat}, S < 2 ^ m → r &&& S = r → r ≤ S → (r + 2 ^ m - S - 1) &&& S = r
  | 0, S, r, h, _, hl => by
    have : S = 0 := by omega
    subst this
    have : r = 0 := by omega
    subst this
    rfl
  | m + 1, S, r, h, hr, hl => by
    have hp : 2 ^ (m + 1) = 2 * 2 ^ m := by rw [Nat.pow_succ]; omega
    have e : S = 2 * (S / 2) + S % 2 := by omega
    have er : r = 2 * (r / 2) + r % 2 := by omega
    have hr2 := hr
    conv at hr2 => lhs; rw [e, er, and_2 _ _ _ _ (by omega) (by omega)]
    have hb : (r % 2) &&& (S % 2) ≤ 1 := Nat.le_trans Nat.and_le_left (by omega)
    have h1 : r / 2 &&& S / 2 = r / 2 := by omega
    have h2 : r % 2 &&& S % 2 = r % 2 := by omega
    have ih := and_self_m (m := m) (S := S / 2) (r := r / 2) (by omega) h1 (by omega)
    rcases (show S % 2 = 0 ∨ S % 2 = 1 by omega) with b | b
    · have c : r % 2 = 0 := by rw [← h2, b]; exact Nat.and_zero _
      rw [show r + 2 ^ (m + 1) - S - 1 = 2 * (r / 2 + 2 ^ m - S / 2 - 1) + 1 by omega]
      conv => lhs; rhs; rw [e, b]
      rw [and_2 _ _ _ _ (by omega) (by omega), ih]
      show 2 * (r / 2) + 0 = r
      omega
    · rcases (show r % 2 = 0 ∨ r % 2 = 1 by omega) with c | c
      · rw [show r + 2 ^ (m + 1) - S - 1 = 2 * (r / 2 + 2 ^ m - S / 2 - 1) + 0 by omega]
        conv => lhs; rhs; rw [e, b]
        rw [and_2 _ _ _ _ (by omega) (by omega), ih]
        show 2 * (r / 2) + 0 = r
        omega
      · rw [show r + 2 ^ (m + 1) - S - 1 = 2 * (r / 2 + 2 ^ m - S / 2 - 1) + 1 by omega]
        conv => lhs; rhs; rw [e, b]
        rw [and_2 _ _ _ _ (by omega) (by omega), ih]
        show 2 * (r / 2) + 1 = r
        omega
theorem dep_nx : ∀ m S n, S < 2 ^ m → (dep m S n + 2 ^ m - S) &&& S = dep m S (n + 1)
  | 0, S, n, h => by
    have : S = 0 := by omega
    subst this
    exact Nat.and_zero _
  | m + 1, S, n, h => by
    unfold dep
    have hp : 2 ^ (m + 1) = 2 * 2 ^ m := by rw [Nat.pow_succ]; omega
    have hS : S / 2 < 2 ^ m := by omega
    split
    · next q =>
      have e : S = 2 * (S / 2) + 1 := by omega
      have hl := dep_le m (S / 2) (n / 2)
      rcases (show n % 2 = 1 ∨ n % 2 = 0 by omega) with o | o
      · have ih := dep_nx m (S / 2) (n / 2) hS
        rw [show n % 2 + 2 * dep m (S / 2) (n / 2) + 2 ^ (m + 1) - S = 2 * (dep m (S / 2) (n / 2) + 2 ^ m - S / 2) + 0 by omega]
        conv => lhs; rhs; rw [e]
        rw [and_2 _ _ _ _ (by omega) (by omega), ih, show (n + 1) % 2 = 0 by omega, show (n + 1) / 2 = n / 2 + 1 by omega]
        show 2 * _ + 0 = 0 + _
        omega
      · rw [show n % 2 + 2 * dep m (S / 2) (n / 2) + 2 ^ (m + 1) - S = 2 * (dep m (S / 2) (n / 2) + 2 ^ m - S / 2 - 1) + 1 by omega]
        conv => lhs; rhs; rw [e]
        rw [and_2 _ _ _ _ (by omega) (by omega), and_self_m hS (dep_and m _ _) hl, show (n + 1) % 2 = 1 by omega, show (n + 1) / 2 = n / 2 by omega]
        show 2 * _ + 1 = 1 + _
        omega
    · next q =>
      have e : S = 2 * (S / 2) + 0 := by omega
      have ih := dep_nx m (S / 2) n hS
      rw [show 2 * dep m (S / 2) n + 2 ^ (m + 1) - S = 2 * (dep m (S / 2) n + 2 ^ m - S / 2) + 0 by omega]
      conv => lhs; rhs; rw [e]
      rw [and_2 _ _ _ _ (by omega) (by omega), ih]
      rfl
theorem dep_z : ∀ m S n, S < 2 ^ m → (dep m S n = 0 ↔ n % 2 ^ pl m S = 0)
  | 0, S, n, h => ⟨fun _ => by show n % 1 = 0; omega, fun _ => rfl⟩
  | m + 1, S, n, h => by
    unfold dep pl
    have hp : 2 ^ (m + 1) = 2 * 2 ^ m := by rw [Nat.pow_succ]; omega
    split
    · next q =>
      have ih := dep_z m (S / 2) (n / 2) (by omega)
      rw [q, Nat.pow_add, show 2 ^ 1 = 2 from rfl, Nat.mod_mul]
      omega
    · next q =>
      have ih := dep_z m (S / 2) n (by omega)
      rw [show S % 2 = 0 by omega, Nat.zero_add, ← ih]
      omega
theorem pc_lo (S : Nat) : ∀ m, pc S (m + 1) = S % 2 + pc (S / 2) m
  | 0 => by
    show 0 + (S.testBit 0).toNat = S % 2 + 0
    rw [Nat.testBit_zero]
    rcases (show S % 2 = 0 ∨ S % 2 = 1 by omega) with e | e <;> rw [e] <;> rfl
  | m + 1 => by
    have := pc_lo S m
    show pc S (m + 1) + (S.testBit (m + 1)).toNat = S % 2 + (pc (S / 2) m + ((S / 2).testBit m).toNat)
    rw [this, Nat.testBit_succ]
    omega
theorem pl_pc : ∀ m S, pl m S = pc S m
  | 0, _ => rfl
  | m + 1, S => by
    unfold pl
    rw [pl_pc m, pc_lo]
theorem u_nx {S r : Nat} (hS : S < 2 ^ 32) (hr : r ≤ S) : (nI r - nI S) &&& nI S = nI ((r + 2 ^ 32 - S) &&& S) := by
  apply Int32.toBitVec_inj.mp
  show (BitVec.ofNat 32 r - BitVec.ofNat 32 S) &&& BitVec.ofNat 32 S = BitVec.ofNat 32 ((r + 2 ^ 32 - S) &&& S)
  apply BitVec.eq_of_toNat_eq
  rw [BitVec.toNat_and, BitVec.toNat_sub, BitVec.toNat_ofNat, BitVec.toNat_ofNat, BitVec.toNat_ofNat, Nat.mod_eq_of_lt hS, Nat.mod_eq_of_lt (show r < 2 ^ 32 by omega), show 2 ^ 32 - S + r = r + 2 ^ 32 - S by omega]
  have hl : (r + 2 ^ 32 - S) &&& S < 2 ^ 32 := Nat.lt_of_le_of_lt Nat.and_le_right hS
  rw [Nat.mod_eq_of_lt hl]
  apply Nat.eq_of_testBit_eq
  intro i
  rw [Nat.testBit_and, Nat.testBit_and, Nat.testBit_mod_two_pow]
  by_cases h : i < 32
  · rw [decide_eq_true h, Bool.true_and]
  · have : S.testBit i = false := Nat.testBit_lt_two_pow (Nat.lt_of_lt_of_le hS (Nat.pow_le_pow_right (by decide) (by omega)))
    rw [this, Bool.and_false, Bool.and_false]
/-- the n-th set in the order of both programs -/
def sb (S n : Nat) : Nat := dep 32 S n
theorem sb_0 {S : Nat} (hS : S < 2 ^ 20) : sb S 0 = 0 := (dep_z 32 S 0 (Nat.lt_trans hS (by decide))).mpr (Nat.zero_mod _)
theorem sb_le (S n : Nat) : sb S n ≤ S := dep_le 32 S n
theorem sb_nx {S : Nat} (n : Nat) (hS : S < 2 ^ 20) : (nI (sb S n) - nI S) &&& nI S = nI (sb S (n + 1)) := by
  have h : S < 2 ^ 32 := Nat.lt_trans hS (by decide)
  rw [u_nx h (sb_le S n)]
  unfold sb
  rw [dep_nx 32 S n h]
theorem sb_z {S n : Nat} (hS : S < 2 ^ 20) : sb S n = 0 ↔ n % 2 ^ pc S 20 = 0 := by
  unfold sb
  rw [dep_z 32 S n (Nat.lt_trans hS (by decide)), pl_pc, pc_big hS 32 (by decide)]
