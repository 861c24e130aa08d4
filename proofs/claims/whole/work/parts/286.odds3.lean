theorem lks_gap {f : Nat → Nat → Nat} {n : Nat} {col on : Nat → Nat} {A S s a : Nat} (hA : ∀ i, A.testBit i = true → S.testBit i = true) : ∀ t, pc S (a + t) = pc S a → lks f n col on A s (a + t) = lks f n col on A s a
  | 0, _ => rfl
  | t + 1, h => by
    have h1 : pc S (a + t + 1) = pc S (a + t) + (S.testBit (a + t)).toNat := rfl
    have h2 := pc_mono S (show a ≤ a + t by omega)
    have hb : S.testBit (a + t) = false := by
      cases b : S.testBit (a + t)
      · rfl
      · rw [b, show (true).toNat = 1 from rfl] at h1
        have : pc S (a + t + 1) = pc S a := h
        omega
    have hA' : A.testBit (a + t) = false := by
      cases b : A.testBit (a + t)
      · rfl
      · rw [hA _ b] at hb; exact absurd hb (by decide)
    rw [hb, show (false).toNat = 0 from rfl] at h1
    have st : lks f n col on A s (a + t + 1) = lks f n col on A s (a + t) := by
      conv => lhs; unfold lks
      rw [if_neg (by rw [hA']; exact fun z => absurd z.1 (by decide))]
    show lks f n col on A s (a + t + 1) = _
    rw [st]
    have h3 : pc S (a + t + 1) = pc S a := h
    exact lks_gap hA t (by omega)
theorem lks_pc {f : Nat → Nat → Nat} {n : Nat} {col on : Nat → Nat} {A S s a b : Nat} (hA : ∀ i, A.testBit i = true → S.testBit i = true) (h : pc S a = pc S b) : lks f n col on A s a = lks f n col on A s b := by
  rcases Nat.le_total a b with q | q
  · have := lks_gap (f := f) (n := n) (col := col) (on := on) (s := s) (a := a) hA (b - a) (by rw [show a + (b - a) = b by omega]; exact h.symm)
    rw [show a + (b - a) = b by omega] at this
    exact this.symm
  · have := lks_gap (f := f) (n := n) (col := col) (on := on) (s := s) (a := b) hA (a - b) (by rw [show b + (a - b) = a by omega]; exact h)
    rw [show b + (a - b) = a by omega] at this
    exact this
def OS (n S : Nat) (col on : Nat → Nat) (T s k cuts sum : Nat) : Prop := sum ≤ cuts * 46656000000 ∧ (clo n on (ex S T) → ∀ D, pc (ex S T) 20 ≤ D → cuts = (lks (lk n col on D) n col on (ex S T) s k).1 ∧ sum = (lks (lk n col on D) n col on (ex S T) s k).2 * Xw (pc (ex S T) 20 - 1))
theorem OS_k {n S : Nat} {col on : Nat → Nat} {T s a b cuts sum : Nat} (h : OS n S col on T s a cuts sum) (e : pc S a = pc S b) : OS n S col on T s b cuts sum := ⟨h.1, fun hc D hD => by
  rw [← lks_pc (fun i hi => (ex_sub hi).1) e]
  exact h.2 hc D hD⟩
theorem OS_no {n S : Nat} {col on : Nat → Nat} {T s k cuts sum : Nat} (h : OS n S col on T s k cuts sum) (hk : k < 20) (z : ¬ ((ex S T).testBit k = true ∧ col k ≠ 1 - s)) : OS n S col on T s (k + 1) cuts sum := ⟨h.1, fun hc D hD => by
  have st : lks (lk n col on D) n col on (ex S T) s (k + 1) = lks (lk n col on D) n col on (ex S T) s k := by
    conv => lhs; unfold lks
    rw [if_neg z]
  rw [st]
  exact h.2 hc D hD⟩
theorem OS_yes {n S : Nat} {col on : Nat → Nat} {T s k cuts sum x : Nat} (hW : WS n S col on) (h6 : pc S 20 ≤ 6) (h : OS n S col on T s k cuts sum) (hk : k < 20) (z : (ex S T).testBit k = true ∧ col k ≠ 1 - s) (hx : PV n S col on (dif T (fal n S on k (pc S 20))) (1 - s) x) : OS n S col on T s (k + 1) (cuts + 1) (sum + x) := by
  refine ⟨by have := h.1; have := hx.1; omega, fun hc D hD => ?_⟩
  obtain ⟨e1, e2⟩ := h.2 hc D hD
  have ho : ∀ i, i < n → on i ≤ i := fun i hi => (hW.2.2 i hi).2.1
  have st : lks (lk n col on D) n col on (ex S T) s (k + 1) = ((lks (lk n col on D) n col on (ex S T) s k).1 + 1, (lks (lk n col on D) n col on (ex S T) s k).2 + lk n col on D (stb n (ex S T) (2 ^ k) on) (1 - s) * (wh (pc (ex S T) 20 - 1) / wh (pc (stb n (ex S T) (2 ^ k) on) 20))) := by
    conv => lhs; unfold lks
    rw [if_pos z]
  have hle : pc (ex S T) 20 ≤ pc S 20 := pc_subset fun i _ hb => (ex_sub hb).1
  have hp := pc_stb (n := n) (on := on) ho hk z.1
  rw [left_ex hW hc] at hp st
  have e3 := hx.2 (left_clo hW hc) D (by omega)
  rw [st, e1, e2, e3, X_s (pc (ex S T) 20 - 1) (by omega) _ (show pc (ex S (dif T (fal n S on k (pc S 20)))) 20 ≤ pc (ex S T) 20 - 1 by omega)]
  refine ⟨by rw [← e1], ?_⟩
  show _ = (_ + _ * _) * _
  rw [Nat.add_mul, Nat.mul_assoc]
theorem OS_end {n S : Nat} {col on : Nat → Nat} {T s cuts sum : Nat} (hW : WS n S col on) (h6 : pc S 20 ≤ 6) (h : OS n S col on T s 20 cuts sum) (hs : s < 2) : PV n S col on T s (if cuts = 0 then (if s = 0 then 0 else 46656000000) else sum / cuts) := by
  have hn := hW.1
  have ho : ∀ i, i < n → on i ≤ i := fun i hi => (hW.2.2 i hi).2.1
  constructor
  · split
    · split <;> omega
    · next q =>
      have := h.1
      exact Nat.div_le_of_le_mul this
  · intro hc D hD
    obtain ⟨D', rfl⟩ : ∃ D', D = D' + 1 := ⟨D - 1, by omega⟩
    obtain ⟨e1, e2⟩ := h.2 hc D' (by omega)
    have hle : pc (ex S T) 20 ≤ pc S 20 := pc_subset fun i _ hb => (ex_sub hb).1
    have e20 : lks (lk n col on D') n col on (ex S T) s 20 = lks (lk n col on D') n col on (ex S T) s n := lks_pc (S := S) (fun i hi => (ex_sub hi).1) (pc_big hW.2.1 20 hn)
    rw [e20] at e1 e2
    have hl := lks_le (f := lk n col on D') (col := col) (A := ex S T) (s := s) ho hn (fun B t hB => lk_le ho hn D' B t (by omega)) n (Nat.le_refl _)
    have hpn := pc_mono (ex S T) hn
    conv => rhs; unfold lk
    rw [← e1]
    by_cases q : cuts = 0
    · rw [if_pos q, if_pos q]
      by_cases q2 : s = 0
      · rw [if_pos q2, if_pos q2, Nat.zero_mul]
      · rw [if_neg q2, if_neg q2, X_0 _ (by omega)]
    · rw [if_neg q, if_neg q, e2]
      obtain ⟨N, hN⟩ : ∃ N, pc (ex S T) 20 = N + 1 := ⟨pc (ex S T) 20 - 1, by omega⟩
      rw [hN, Nat.add_sub_cancel, X_c N (by omega)]
      have hd := cm_d (N + 1) (by omega) cuts (by omega) (by omega)
      generalize cm (N + 1) / cuts = y at *
      rw [hd, ← Nat.mul_assoc, ← Nat.mul_assoc, Nat.mul_comm _ cuts, Nat.mul_assoc cuts, Nat.mul_assoc cuts, Nat.mul_div_cancel_left _ (by omega)]
