def cst (V : Int) (s i : Nat) : Nat := if bday V s ≤ i then 2 else if V % 1048576 = 0 ∨ i ≤ V.natAbs / 1048576 then 0 else if i = V.natAbs / 1048576 + 1 then 1 else if sof V.natAbs (V.natAbs / 1048576 : Nat) (i - V.natAbs / 1048576 - 2) < V.natAbs then 0 else 1
theorem nat_split {V : Int} {s q : Nat} (h : V % 1048576 ≠ 0) (e : V.natAbs = 2 ^ s * (2 * q + 1)) (hs : s < 20) : ∃ (r : Int) (q' : Nat), 0 < r ∧ r < 1048576 ∧ (V.natAbs : Int) = ((V.natAbs / 1048576 : Nat) : Int) * 1048576 + r ∧ r = 2 ^ s * (2 * (q' : Int) + 1) := by
  refine ⟨((V.natAbs % 1048576 : Nat) : Int), q - V.natAbs / 1048576 * 2 ^ (19 - s), by omega, by omega, by omega, ?_⟩
  have hU : (1048576 : Nat) = 2 ^ s * (2 * 2 ^ (19 - s)) := by
    rw [← Nat.mul_assoc, ← Nat.pow_succ, ← Nat.pow_add, show s.succ + (19 - s) = 20 by omega]
  have h1 : V.natAbs % 1048576 + 1048576 * (V.natAbs / 1048576) = 2 ^ s * (2 * q + 1) := by rw [← e]; omega
  have h2 : ∀ W : Nat, 1048576 * W = 2 ^ s * (2 * (W * 2 ^ (19 - s))) := fun W => by
    rw [hU, Nat.mul_assoc, Nat.mul_assoc 2, Nat.mul_comm (2 ^ (19 - s))]
  have h2 := h2 (V.natAbs / 1048576)
  have hp : 0 < 2 ^ s := Nat.two_pow_pos s
  generalize V.natAbs / 1048576 * 2 ^ (19 - s) = y at *
  rw [h2] at h1
  have h3 : y ≤ q := by
    refine Nat.le_of_not_lt fun z => ?_
    have : 2 ^ s * (2 * q + 1) < 2 ^ s * (2 * y) := Nat.mul_lt_mul_of_pos_left (by omega) hp
    omega
  have h4 : V.natAbs % 1048576 = 2 ^ s * (2 * (q - y) + 1) := by
    have : 2 ^ s * (2 * q + 1) = 2 ^ s * (2 * y) + 2 ^ s * (2 * (q - y) + 1) := by
      rw [← Nat.mul_add]
      congr 1
      omega
    omega
  rw [h4, Int.natCast_mul, Int.natCast_pow]
  rfl
theorem cStalk {N i : Nat} {V : Int} {s q : Nat} (hN : 100 < N) (hi : i < 2147483648) (hV : -20971520 ≤ V ∧ V ≤ 20971520) (hsq : V % 1048576 ≠ 0 → V.natAbs = 2 ^ s * (2 * q + 1) ∧ s < 20) (σ : Ms) : F3_stalkColour N (zL (1024 * V)) (nI i) σ = some (if cst V s i = 2 then -nI 1 else nI (if 0 ≤ V then cst V s i else 1 - cst V s i), σ) := by
  have hb : bday V s ≤ 100 := by
    unfold bday
    split <;> omega
  unfold F3_stalkColour
  rw [if_neg (nI_pos hi), age_ok hV hsq, bn_s]
  by_cases h0 : bday V s ≤ i
  · rw [if_neg (nI_nlt h0 (by omega))]
    have : cst V s i = 2 := if_pos h0
    rw [if_pos this]
    rfl
  rw [if_pos (nI_lt (by omega) (by omega))]
  -- the same and the other colour
  have go : ∀ (sm ul : Nat), (0 ≤ V → sm = 0) → (¬ 0 ≤ V → sm = 1) → ul = 1 - sm → F3_stalkColour_b37 N (zL (1024 * V)) (nI i) (nI sm) (nI ul) σ = some (if cst V s i = 2 then -nI 1 else nI (if 0 ≤ V then cst V s i else 1 - cst V s i), σ) := fun sm ul s1 s2 s3 => by
    have res : ∀ c : Nat, c < 2 → cst V s i = c → (if cst V s i = 2 then -nI 1 else nI (if 0 ≤ V then cst V s i else 1 - cst V s i)) = nI (if c = 0 then sm else ul) := fun c hc e => by
      rw [e, if_neg (by omega)]
      congr 1
      by_cases y : 0 ≤ V
      · have := s1 y
        rw [if_pos y]
        split <;> omega
      · have := s2 y
        rw [if_neg y]
        split <;> omega
    unfold F3_stalkColour_b37
    rw [zL_abs (by omega) (by omega), bn_s, show (30 : Int32) = nI 30 from rfl, zL_shr (by omega) (by omega) (by omega), zL_i, show (((1024 * V).natAbs : Int) / 2 ^ 30) = ((V.natAbs / 1048576 : Nat) : Int) by omega, zI_nI, lt_e, show ((1024 * V).natAbs : Int) = 1024 * (V.natAbs : Int) by omega, isWhole_ok, bn_s]
    by_cases hw : V % 1048576 = 0
    · have hw' : (V.natAbs : Int) % 1048576 = 0 := by omega
      rw [if_pos hw', if_pos (by decide)]
      rw [res 0 (by omega) (by unfold cst; rw [if_neg h0, if_pos (Or.inl hw)]), if_pos (by rfl)]
    have hw' : ¬ (V.natAbs : Int) % 1048576 = 0 := by omega
    rw [if_neg hw', if_neg (by exact fun z => z rfl)]
    by_cases c1 : i ≤ V.natAbs / 1048576
    · rw [if_neg (nI_nlt c1 (by omega))]
      rw [res 0 (by omega) (by unfold cst; rw [if_neg h0, if_pos (Or.inr c1)]), if_pos (by rfl)]
    rw [if_pos (nI_lt (by omega) (by omega)), show (1 : Int32) = nI 1 from rfl, nI_add]
    by_cases c2 : i = V.natAbs / 1048576 + 1
    · rw [if_neg (by exact fun z => z (by rw [c2]))]
      rw [res 1 (by omega) (by unfold cst; rw [if_neg h0, if_neg (by omega), if_pos c2]), if_neg (by decide)]
    rw [if_pos (by exact fun z => c2 ((nI_eq (by omega) (by omega)).mp z)), nI_zL (by omega), ONE_z, zL_mul, show (536870912 : Int64) = zL 536870912 by decide, zL_add, lt_e, show (2 : Int32) = nI 2 from rfl, nI_add, lt_e]
    obtain ⟨e, hs⟩ := hsq hw
    obtain ⟨r, q', r1, r2, r3, r4⟩ := nat_split hw e hs
    have hbd : bday V s = V.natAbs / 1048576 + (20 - s) + 1 := if_neg hw
    rw [hbd] at h0
    have fin : ∀ τ : Ms, (if cst V s i = 2 then -nI 1 else nI (if 0 ≤ V then cst V s i else 1 - cst V s i)) = nI (if sof V.natAbs (V.natAbs / 1048576 : Nat) (i - V.natAbs / 1048576 - 2) < V.natAbs then sm else ul) := fun τ => by
      by_cases y : sof V.natAbs (V.natAbs / 1048576 : Nat) (i - V.natAbs / 1048576 - 2) < V.natAbs
      · rw [res 0 (by omega) (by unfold cst; rw [hbd, if_neg h0, if_neg (by omega), if_neg c2, if_pos y]), if_pos (by rfl), if_pos y]
      · rw [res 1 (by omega) (by unfold cst; rw [hbd, if_neg h0, if_neg (by omega), if_neg c2, if_neg y]), if_neg (by decide), if_neg y]
    refine wp_eq ?_
    rw [fin σ]
    unfold F3_stalkColour_b103
    refine wp_fx (fun m x => ∃ j, V.natAbs / 1048576 + 2 + j + m = i ∧ x = (nI i, nI sm, nI ul, zL (1024 * (V.natAbs : Int)), zL (1024 * 2 ^ (19 - j)), zL (1024 * sof V.natAbs (V.natAbs / 1048576 : Nat) j), nI (V.natAbs / 1048576 + 2 + j), σ)) ?_ (n := i - (V.natAbs / 1048576 + 2)) (by omega) ⟨0, by omega, ?_⟩
    rotate_left
    · have e1 : ((V.natAbs / 1048576 : Nat) : Int) * 1073741824 + 536870912 = 1024 * sof V.natAbs (V.natAbs / 1048576 : Nat) 0 := by
        show _ = 1024 * (((V.natAbs / 1048576 : Nat) : Int) * 1048576 + 524288)
        omega
      rw [e1]
      rfl
    rintro m c _ ⟨j, hj, rfl⟩ hc
    simp only
    unfold F3_stalkColour_b103B F3_stalkColour_b133
    obtain ⟨⟨a1, a2⟩, -⟩ := sof_ok ⟨r1, r2⟩ r3 r4 hs j (by omega)
    have p1 : (2 : Int) ^ (19 - j) ≤ 2 ^ 19 := by
      have q1 : (0 : Int) < 2 ^ (19 - (19 - j)) := Int.pow_pos (by decide)
      have q0 : (0 : Int) < 2 ^ (19 - j) := Int.pow_pos (by decide)
      have q2 : (2 : Int) ^ (19 - j) * 1 ≤ 2 ^ (19 - j) * 2 ^ (19 - (19 - j)) := Int.mul_le_mul_of_nonneg_left (by omega) (by omega)
      rw [← p2s 19 (19 - j) (by omega)] at q2
      omega
    have es : sof V.natAbs (V.natAbs / 1048576 : Nat) (j + 1) = if sof V.natAbs (V.natAbs / 1048576 : Nat) j < V.natAbs then sof V.natAbs (V.natAbs / 1048576 : Nat) j + 2 ^ (18 - j) else sof V.natAbs (V.natAbs / 1048576 : Nat) j - 2 ^ (18 - j) := rfl
    by_cases z : i ≤ V.natAbs / 1048576 + 2 + j
    · have ej : i - V.natAbs / 1048576 - 2 = j := by omega
      rw [if_pos (nI_le z (by omega)), ej]
      by_cases y : sof V.natAbs (V.natAbs / 1048576 : Nat) j < V.natAbs
      · rw [if_neg (by exact fun w => by have := (zL_ge (by omega) (by omega)).mp w; omega), if_pos y]
        exact wp_some.mpr ⟨rfl, rfl⟩
      · rw [if_pos ((zL_ge (by omega) (by omega)).mpr (by omega)), if_neg y]
        exact wp_some.mpr ⟨rfl, rfl⟩
    have hj18 : j ≤ 18 := by omega
    have pe : (1024 * (2 : Int) ^ (19 - j)) / 2 ^ 1 = 1024 * 2 ^ (18 - j) := by
      rw [show 19 - j = (18 - j) + 1 by omega, Int.pow_succ]
      generalize (2 : Int) ^ (18 - j) = y
      omega
    have pp : (0 : Int) < 2 ^ (18 - j) := Int.pow_pos (by decide)
    rw [if_neg (nI_ge (by omega) (by omega)), show (1 : Int32) = nI 1 from rfl, zL_shr (by omega) (by omega) (by omega), pe, lt_e]
    by_cases y : sof V.natAbs (V.natAbs / 1048576 : Nat) j < V.natAbs
    · rw [if_neg (by exact fun w => by have := (zL_ge (by omega) (by omega)).mp w; omega), zL_add, lt_e, nI_add]
      refine hc (m - 1) _ (by omega) ⟨j + 1, by omega, ?_⟩
      have : 1024 * sof V.natAbs (V.natAbs / 1048576 : Nat) j + 1024 * 2 ^ (18 - j) = 1024 * sof V.natAbs (V.natAbs / 1048576 : Nat) (j + 1) := by
        rw [es, if_pos y, Int.mul_add]
      rw [this, show 19 - (j + 1) = 18 - j by omega]
      rfl
    · rw [if_pos ((zL_ge (by omega) (by omega)).mpr (by omega)), zL_neg, zL_add, lt_e, nI_add]
      refine hc (m - 1) _ (by omega) ⟨j + 1, by omega, ?_⟩
      have : 1024 * sof V.natAbs (V.natAbs / 1048576 : Nat) j + -(1024 * 2 ^ (18 - j)) = 1024 * sof V.natAbs (V.natAbs / 1048576 : Nat) (j + 1) := by
        rw [es, if_neg y, Int.mul_sub, Int.sub_eq_add_neg]
      rw [this, show 19 - (j + 1) = 18 - j by omega]
      rfl
  unfold F3_stalkColour_b25
  rw [Z0_z]
  have r1 : -9223372036854775808 ≤ 1024 * V ∧ 1024 * V < 9223372036854775808 := by omega
  by_cases hs : 0 ≤ V
  · have y : 0 ≤ lg_cmp (zL (1024 * V)) (zL 0) := (zL_ge r1 (by decide)).mpr (by omega)
    rw [if_pos y, if_pos y]
    exact go 0 1 (fun _ => rfl) (fun h => absurd hs h) rfl
  · have y : ¬ 0 ≤ lg_cmp (zL (1024 * V)) (zL 0) := fun z => hs (by have := (zL_ge r1 (by decide)).mp z; omega)
    rw [if_neg y, if_neg y]
    exact go 1 0 (fun h => absurd h hs) (fun _ => rfl) rfl
