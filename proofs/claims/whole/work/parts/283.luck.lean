def cm (n : Nat) : Nat := if n < 2 then 1 else if n = 2 then 2 else if n = 3 then 6 else if n = 4 then 12 else 60
def wh : Nat → Nat
  | 0 => 1
  | n + 1 => wh n * cm (n + 1)
def lks (f : Nat → Nat → Nat) (n : Nat) (col on : Nat → Nat) (A s : Nat) : Nat → Nat × Nat
  | 0 => (0, 0)
  | k + 1 => if A.testBit k = true ∧ col k ≠ 1 - s then ((lks f n col on A s k).1 + 1, (lks f n col on A s k).2 + f (stb n A (2 ^ k) on) (1 - s) * (wh (pc A 20 - 1) / wh (pc (stb n A (2 ^ k) on) 20))) else lks f n col on A s k
def lk (n : Nat) (col on : Nat → Nat) : Nat → Nat → Nat → Nat
  | 0, _, _ => 0
  | D + 1, A, s => if (lks (lk n col on D) n col on A s n).1 = 0 then (if s = 0 then 0 else wh (pc A 20)) else (lks (lk n col on D) n col on A s n).2 * (cm (pc A 20) / (lks (lk n col on D) n col on A s n).1)
theorem wh_6 : ∀ m, m ≤ 6 → wh m ≤ 518400 ∧ 0 < wh m := by decide
theorem stb_bits {n A k i : Nat} {on : Nat → Nat} (ho : ∀ i, i < n → on i ≤ i) (h : (stb n A (2 ^ k) on).testBit i = true) : A.testBit i = true ∧ i ≠ k := by
  have hi : i < n := Nat.lt_of_not_le fun z => by rw [bit_lt (stb_lt n A _ on) z] at h; exact absurd h (by decide)
  rw [stb_bit hi (ho i hi), Bool.and_eq_true, Bool.and_eq_true] at h
  refine ⟨h.1.1, fun z => ?_⟩
  have := h.1.2
  rw [z, Nat.testBit_two_pow_self] at this
  exact absurd this (by decide)
theorem pc_stb {n A k : Nat} {on : Nat → Nat} (ho : ∀ i, i < n → on i ≤ i) (hk : k < 20) (hA : A.testBit k = true) : pc (stb n A (2 ^ k) on) 20 < pc A 20 := by
  have h1 : pc A 20 = pc (stb n A (2 ^ k) on) 20 + pc (dif A (stb n A (2 ^ k) on)) 20 := pc_add fun i _ => by
    rw [dif_bit]
    cases b : (stb n A (2 ^ k) on).testBit i
    · cases A.testBit i <;> rfl
    · rw [(stb_bits ho b).1]
      rfl
  have h2 : pc (dif A (stb n A (2 ^ k) on)) 20 ≠ 0 := fun z => by
    have := pc_0 z k hk
    rw [dif_bit, hA] at this
    cases b : (stb n A (2 ^ k) on).testBit k
    · rw [b] at this
      exact absurd this (by decide)
    · exact (stb_bits ho b).2 rfl
  omega
theorem lks_le {f : Nat → Nat → Nat} {n : Nat} {col on : Nat → Nat} {A s : Nat} (ho : ∀ i, i < n → on i ≤ i) (hn : n ≤ 20) (hf : ∀ B t, pc B 20 < pc A 20 → f B t ≤ wh (pc B 20)) : ∀ k, k ≤ n → (lks f n col on A s k).1 ≤ pc A k ∧ (lks f n col on A s k).2 ≤ (lks f n col on A s k).1 * wh (pc A 20 - 1)
  | 0, _ => ⟨Nat.le_refl _, by show 0 ≤ _; omega⟩
  | k + 1, h => by
    have ih := lks_le (f := f) (col := col) (A := A) (s := s) ho hn hf k (by omega)
    have hp : pc A (k + 1) = pc A k + (A.testBit k).toNat := rfl
    unfold lks
    split
    · next z =>
      have b : (A.testBit k).toNat = 1 := by rw [z.1]; rfl
      have := hf _ (1 - s) (pc_stb (n := n) (on := on) ho (by omega) z.1)
      refine ⟨by show _ + 1 ≤ _; omega, ?_⟩
      show _ + _ ≤ (_ + 1) * _
      rw [Nat.succ_mul]
      have h3 : f (stb n A (2 ^ k) on) (1 - s) * (wh (pc A 20 - 1) / wh (pc (stb n A (2 ^ k) on) 20)) ≤ wh (pc A 20 - 1) := Nat.le_trans (Nat.mul_le_mul_right _ this) (Nat.mul_div_le _ _)
      omega
    · exact ⟨by omega, ih.2⟩
theorem pc_mono (A : Nat) {n m : Nat} (h : n ≤ m) : pc A n ≤ pc A m := by
  induction m with
  | zero => rw [show n = 0 by omega]; exact Nat.le_refl _
  | succ m ih =>
    rcases Nat.eq_or_lt_of_le h with rfl | h
    · exact Nat.le_refl _
    · exact Nat.le_trans (ih (by omega)) (Nat.le_add_right _ _)
theorem lk_le {n : Nat} {col on : Nat → Nat} (ho : ∀ i, i < n → on i ≤ i) (hn : n ≤ 20) : ∀ D A s, pc A 20 < D → lk n col on D A s ≤ wh (pc A 20)
  | 0, A, s, h => by omega
  | D + 1, A, s, h => by
    have hl := lks_le (f := lk n col on D) (col := col) (A := A) (s := s) ho hn (fun B t hB => lk_le ho hn D B t (by omega)) n (Nat.le_refl _)
    have hp := pc_mono A hn
    unfold lk
    split
    · split
      · exact Nat.zero_le _
      · exact Nat.le_refl _
    · next z =>
      obtain ⟨h1, h2⟩ := hl
      generalize (lks (lk n col on D) n col on A s n) = r at *
      obtain ⟨q, hq⟩ : ∃ q, pc A 20 = q + 1 := ⟨pc A 20 - 1, by omega⟩
      rw [hq] at h2 ⊢
      show r.2 * (cm (q + 1) / r.1) ≤ wh q * cm (q + 1)
      have h3 : r.2 * (cm (q + 1) / r.1) ≤ r.1 * wh q * (cm (q + 1) / r.1) := Nat.mul_le_mul_right _ h2
      have h4 : r.1 * wh q * (cm (q + 1) / r.1) = wh q * (r.1 * (cm (q + 1) / r.1)) := by
        rw [Nat.mul_comm r.1, Nat.mul_assoc]
      have h5 : r.1 * (cm (q + 1) / r.1) ≤ cm (q + 1) := Nat.mul_div_le _ _
      rw [h4] at h3
      exact Nat.le_trans h3 (Nat.mul_le_mul_left _ h5)
theorem common_ok : ∀ m, m ≤ 6 → ∀ σ, F12_commonOf (nI m) σ = some (zL (cm m : Nat), σ) := by
  intro m hm σ
  rcases (show m = 0 ∨ m = 1 ∨ m = 2 ∨ m = 3 ∨ m = 4 ∨ m = 5 ∨ m = 6 by omega) with rfl | rfl | rfl | rfl | rfl | rfl | rfl <;> rfl
theorem whole_ok {N m : Nat} (hN : 20 < N) (hm : m ≤ 6) (σ : Ms) : F12_wholeOf N (nI m) σ = some (zL (wh m : Nat), σ) := by
  refine wp_eq ?_
  unfold F12_wholeOf F12_wholeOf_b4
  refine wp_fx (fun k x => ∃ i, i + k = m ∧ x = (nI m, zL (wh i : Nat), nI (i + 1), σ)) ?_ (n := m) (by omega) ⟨0, by omega, rfl⟩
  rintro k c _ ⟨i, hi, rfl⟩ hc
  dsimp only
  unfold F12_wholeOf_b4B
  by_cases q : i = m
  · subst q
    rw [if_pos (nI_lt (by omega) (by omega))]
    exact wp_some.mpr ⟨rfl, rfl⟩
  · rw [if_neg (nI_nlt (by omega) (by omega)), common_ok (i + 1) (by omega), bn_s, zL_mul, lt_e, show (1 : Int32) = nI 1 from rfl, nI_add]
    exact hc (k - 1) _ (by omega) ⟨i + 1, by omega, by rw [← Int.natCast_mul]; rfl⟩
theorem wh_mono : ∀ a, a ≤ 6 → ∀ b, b ≤ a → wh b ≤ wh a := by decide
theorem mLuck {N n S : Nat} {col on : Nat → Nat} {σ : Ms} (hN : 100 < N) (hW : WS n S col on) (hM : MS 0 n S col on σ) : ∀ D A s, A < 2 ^ 31 → s < 2 → pc A 20 ≤ 6 → pc A 20 < D → F12_luckOf N D (nI A) (nI s) σ = some (zL (lk n col on D A s : Nat), σ)
  | 0, A, s, _, _, _, h => by omega
  | D + 1, A, s, hA, hs, h6, h => by
    have hn := hW.1
    have ho : ∀ i, i < n → on i ≤ i := fun i hi => (hW.2.2 i hi).2.1
    refine wp_eq ?_
    unfold F12_luckOf F12_luckOfB
    rw [sizeOf_ok (by omega) hA, bn_s]
    unfold F12_luckOf_b14
    have hl := fun k hk => lks_le (f := lk n col on D) (col := col) (A := A) (s := s) ho hn (fun B t hB => lk_le ho hn D B t (by omega)) k hk
    refine wp_fx (fun m x => ∃ k, k + m = n ∧ x = (nI A, nI s, nI (pc A 20), nI (lks (lk n col on D) n col on A s k).1, zL ((lks (lk n col on D) n col on A s k).2 : Nat), nI k, σ)) ?_ (n := n) (by omega) ⟨0, by omega, rfl⟩
    rintro m c _ ⟨k, hk, rfl⟩ hc
    dsimp only
    unfold F12_luckOf_b14B F12_luckOf_b91
    rw [show ixb (0 : Int32) 1780 = true by decide, ck_t, show (0 : Int32).toNatClampNeg = 0 by decide, hM.at0.1]
    have hpk := pc_mono A (show k ≤ 20 by omega)
    obtain ⟨l1, l2⟩ := hl k (by omega)
    by_cases q : k = n
    · subst q
      rw [if_pos (nI_le (by omega) (by omega))]
      have e : lk k col on (D + 1) A s = if (lks (lk k col on D) k col on A s k).1 = 0 then (if s = 0 then 0 else wh (pc A 20)) else (lks (lk k col on D) k col on A s k).2 * (cm (pc A 20) / (lks (lk k col on D) k col on A s k).1) := rfl
      by_cases z : (lks (lk k col on D) k col on A s k).1 = 0
      · rw [if_pos z] at e
        rw [z, if_neg (by exact fun y => y rfl)]
        by_cases s0 : s = 0
        · subst s0
          rw [if_neg (by exact fun y => y rfl), e]
          exact wp_some.mpr ⟨rfl, rfl⟩
        · rw [if_neg s0] at e
          rw [if_pos (by exact fun y => s0 ((nI_eq (b := 0) (by omega) (by omega)).mp y)), whole_ok (by omega) h6, bn_s, e]
          exact wp_some.mpr ⟨rfl, rfl⟩
      · rw [if_neg z] at e
        rw [if_pos (by exact fun y => z ((nI_eq (b := 0) (by omega) (by omega)).mp y)), common_ok _ h6, bn_s, nI_zL (by omega)]
        have ne : (!((zL (((lks (lk k col on D) k col on A s k).1 : Nat) : Int)) == 0)) = true := by
          rw [Z0_z]
          have : ¬ zL (((lks (lk k col on D) k col on A s k).1 : Nat) : Int) = zL 0 := fun y => by
            have := (zL_inj (by omega) (by omega)).mp y
            omega
          simpa using this
        have hcm : cm (pc A 20) ≤ 60 := by unfold cm; split; omega; split; omega; split; omega; split <;> omega
        rw [ne, ck_t, zL_divn (by omega) (by omega) (by omega), zL_mul, e]
        exact wp_some.mpr ⟨by rw [Int.natCast_mul], rfl⟩
    · rw [if_neg (nI_ge (by omega) (by omega)), has12 hA (by omega), bn_s, show (1 : Int32) = nI 1 from rfl, nI_add]
      have st : lks (lk n col on D) n col on A s (k + 1) = if A.testBit k = true ∧ col k ≠ 1 - s then ((lks (lk n col on D) n col on A s k).1 + 1, (lks (lk n col on D) n col on A s k).2 + lk n col on D (stb n A (2 ^ k) on) (1 - s) * (wh (pc A 20 - 1) / wh (pc (stb n A (2 ^ k) on) 20))) else lks (lk n col on D) n col on A s k := rfl
      cases b : A.testBit k
      · rw [b, if_neg (by exact fun z => absurd z.1 (by decide))] at st
        rw [bI_f, if_pos (by rfl), ← st]
        exact hc (m - 1) _ (by omega) ⟨k + 1, by omega, rfl⟩
      rw [bI_t, if_neg (by decide), may_ok hW hM (by omega) hs, bn_s]
      by_cases y : col k ≠ 1 - s
      rotate_left
      · rw [if_neg fun z => y z.2] at st
        rw [decide_eq_false y, bI_f, if_neg (by exact fun z => z rfl), ← st]
        exact hc (m - 1) _ (by omega) ⟨k + 1, by omega, rfl⟩
      rw [if_pos ⟨b, y⟩] at st
      have hB : stb n A (2 ^ k) on < 2 ^ 31 := set_lt (stb_lt n A _ on) hn
      have hpB := pc_stb (n := n) (on := on) ho (show k < 20 by omega) b
      have hw1 := wh_6 (pc A 20 - 1) (by omega)
      have hw2 := wh_6 (pc (stb n A (2 ^ k) on) 20) (by omega)
      have ne : (!((zL ((wh (pc (stb n A (2 ^ k) on) 20) : Nat) : Int)) == 0)) = true := by
        rw [Z0_z]
        have : ¬ zL ((wh (pc (stb n A (2 ^ k) on) 20) : Nat) : Int) = zL 0 := fun y => by
          have := (zL_inj (by omega) (by omega)).mp y
          omega
        simpa using this
      rw [decide_eq_true y, bI_t, if_pos (by decide), u_shl1 k (by omega), standsBut_ok (by omega) hW hM hA (Nat.pow_lt_pow_right (by decide) (by omega)), bn_s, nI_sub (by omega), mLuck hN hW hM D _ (1 - s) hB (by omega) (by omega) (by omega), bn_s, nI_sub (by omega), whole_ok (by omega) (by omega), bn_s, sizeOf_ok (by omega) hB, bn_s, whole_ok (by omega) (by omega), bn_s, ne, ck_t, zL_divn (by omega) (by omega) (by omega), zL_mul, zL_add, lt_e]
      refine hc (m - 1) _ (by omega) ⟨k + 1, by omega, ?_⟩
      rw [nI_add, st, Int.natCast_add, Int.natCast_mul]
