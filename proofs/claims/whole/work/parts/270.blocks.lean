noncomputable def cpH (a b : Nat) (P : Nat → Nat → Prop) (σ : Ms) : Ms := (fun k j => @ite Int32 (b ≤ k ∧ k ≤ b + 5 ∧ P (k - b) j) (Classical.propDecidable _) (σ.1 (k - b + a) j) (σ.1 k j), σ.2)
theorem cpH_0 (a b : Nat) (σ : Ms) : cpH a b (fun _ _ => False) σ = σ := by
  unfold cpH
  refine Prod.ext ?_ rfl
  funext k j
  exact if_neg fun z => z.2.2
theorem cpH_c {a b : Nat} {P Q : Nat → Nat → Prop} {σ : Ms} (h : ∀ r j, P r j ↔ Q r j) : cpH a b P σ = cpH a b Q σ := by
  have : P = Q := by
    funext r j
    exact propext (h r j)
  rw [this]
theorem cpH_src {a b r j : Nat} {P : Nat → Nat → Prop} {σ : Ms} (hd : a + 5 < b ∨ b + 5 < a) (hr : r ≤ 5) : (cpH a b P σ).1 (a + r) j = σ.1 (a + r) j := by
  unfold cpH
  exact if_neg fun z => by omega
theorem cpH_s {a b r j : Nat} {P : Nat → Nat → Prop} {σ : Ms} (hd : a + 5 < b ∨ b + 5 < a) (hr : r ≤ 5) : sI (cpH a b P σ) (b + r) j ((cpH a b P σ).1 (a + r) j) = cpH a b (fun r' j' => (r' = r ∧ j' = j) ∨ P r' j') σ := by
  rw [cpH_src hd hr]
  unfold cpH sI
  refine Prod.ext ?_ rfl
  funext k i
  show (if k = b + r ∧ i = j then σ.1 (a + r) j else @ite Int32 (b ≤ k ∧ k ≤ b + 5 ∧ P (k - b) i) (Classical.propDecidable _) (σ.1 (k - b + a) i) (σ.1 k i)) = @ite Int32 (b ≤ k ∧ k ≤ b + 5 ∧ ((k - b = r ∧ i = j) ∨ P (k - b) i)) (Classical.propDecidable _) (σ.1 (k - b + a) i) (σ.1 k i)
  by_cases q : k = b + r ∧ i = j
  · rw [if_pos q, if_pos ⟨by omega, by omega, Or.inl ⟨by omega, q.2⟩⟩, q.2, show k - b + a = a + r by omega]
  rw [if_neg q]
  by_cases q2 : b ≤ k ∧ k ≤ b + 5 ∧ P (k - b) i
  · rw [if_pos q2, if_pos ⟨q2.1, q2.2.1, Or.inr q2.2.2⟩]
  · rw [if_neg q2, if_neg (by
      rintro ⟨z1, z2, z3 | z3⟩
      · exact q ⟨by omega, z3.2⟩
      · exact q2 ⟨z1, z2, z3⟩)]
def Phg (r j : Nat) : Prop := (r = 0 ∧ 5 ≤ j ∧ j ≤ 11) ∨ ((r = 1 ∨ r = 2) ∧ j < 20) ∨ (r = 3 ∧ j < 4) ∨ ((r = 4 ∨ r = 5) ∧ j < 5)
def Pse (r j : Nat) : Prop := (r = 0 ∧ j < 3) ∨ (1 ≤ r ∧ r ≤ 5 ∧ j < 60)
theorem cpH_s0 {a b j : Nat} {P : Nat → Nat → Prop} {σ : Ms} (hd : a + 5 < b ∨ b + 5 < a) : sI (cpH a b P σ) b j ((cpH a b P σ).1 a j) = cpH a b (fun r' j' => (r' = 0 ∧ j' = j) ∨ P r' j') σ := cpH_s (r := 0) hd (by omega)
theorem copy0_ok {N a b : Nat} {σ : Ms} (hN : 100 < N) (hd : a + 5 < b ∨ b + 5 < a) : F0_copy N a b σ = some ((), cpH a b Phg σ) := by
  refine wp_eq ?_
  have e0 : σ = cpH a b (fun r j => (r = 1 ∨ r = 2) ∧ j < 0) σ := (cpH_0 a b σ).symm.trans (cpH_c fun r j => ⟨False.elim, fun z => absurd z.2 (by omega)⟩)
  unfold F0_copy F0_copy_b11
  refine wp_fx (fun m x => ∃ i, i + m = 20 ∧ x = (nI i, cpH a b (fun r j => (r = 1 ∨ r = 2) ∧ j < i) σ)) ?_ (n := 20) (by omega) ⟨0, by omega, congrArg (Prod.mk (nI 0)) e0⟩
  rintro m c _ ⟨i, hi, rfl⟩ hc
  dsimp only
  unfold F0_copy_b11B
  by_cases q : i = 20
  rotate_left
  · rw [show (20 : Int32) = nI 20 from rfl, if_neg (nI_ge (by omega) (by omega)), ixb_nI (by omega) (by omega), ck_t, ck_t, nI_clamp (by omega), lt_e, cpH_s hd (by omega), ck_t, ck_t, lt_e, cpH_s hd (by omega), show (1 : Int32) = nI 1 from rfl, nI_add]
    exact hc (m - 1) _ (by omega) ⟨i + 1, by omega, congrArg (Prod.mk _) (cpH_c (by intro r j; omega))⟩
  subst q
  rw [show (20 : Int32) = nI 20 from rfl, if_pos (nI_le (by omega) (by omega))]
  unfold F0_copy_b49
  refine wp_fx (fun m x => ∃ i, i + m = 4 ∧ x = (nI i, cpH a b (fun r j => ((r = 1 ∨ r = 2) ∧ j < 20) ∨ (r = 3 ∧ j < i)) σ)) ?_ (n := 4) (by omega) ⟨0, by omega, congrArg (Prod.mk (nI 0)) (cpH_c (by intro r j; omega))⟩
  rintro m c _ ⟨i, hi, rfl⟩ hc
  dsimp only
  unfold F0_copy_b49B
  by_cases q : i = 4
  rotate_left
  · rw [show (4 : Int32) = nI 4 from rfl, if_neg (nI_ge (by omega) (by omega)), ixb_nI (by omega) (by omega), ck_t, ck_t, nI_clamp (by omega), lt_e, cpH_s hd (by omega), show (1 : Int32) = nI 1 from rfl, nI_add]
    exact hc (m - 1) _ (by omega) ⟨i + 1, by omega, congrArg (Prod.mk _) (cpH_c (by intro r j; omega))⟩
  subst q
  rw [show (4 : Int32) = nI 4 from rfl, if_pos (nI_le (by omega) (by omega))]
  unfold F0_copy_b74
  refine wp_fx (fun m x => ∃ i, i + m = 5 ∧ x = (nI i, cpH a b (fun r j => ((r = 1 ∨ r = 2) ∧ j < 20) ∨ (r = 3 ∧ j < 4) ∨ ((r = 4 ∨ r = 5) ∧ j < i)) σ)) ?_ (n := 5) (by omega) ⟨0, by omega, congrArg (Prod.mk (nI 0)) (cpH_c (by intro r j; omega))⟩
  rintro m c _ ⟨i, hi, rfl⟩ hc
  dsimp only
  unfold F0_copy_b74B
  by_cases q : i = 5
  rotate_left
  · rw [show (5 : Int32) = nI 5 from rfl, if_neg (nI_ge (by omega) (by omega)), ixb_nI (by omega) (by omega), ck_t, ck_t, nI_clamp (by omega), lt_e, cpH_s hd (by omega), ck_t, ck_t, lt_e, cpH_s hd (by omega), show (1 : Int32) = nI 1 from rfl, nI_add]
    exact hc (m - 1) _ (by omega) ⟨i + 1, by omega, congrArg (Prod.mk _) (cpH_c (by intro r j; omega))⟩
  subst q
  rw [show (5 : Int32) = nI 5 from rfl, if_pos (nI_le (by omega) (by omega))]
  rw [lt_e, cpH_s0 hd, lt_e, cpH_s0 hd, lt_e, cpH_s0 hd, lt_e, cpH_s0 hd, lt_e, cpH_s0 hd, lt_e, cpH_s0 hd, lt_e, cpH_s0 hd]
  refine wp_some.mpr ⟨by first | rfl | trivial, cpH_c (by intro r j; unfold Phg; omega)⟩
theorem copy5_ok {N a b : Nat} {σ : Ms} (hN : 100 < N) (hd : a + 5 < b ∨ b + 5 < a) (hk : nkB (σ.1 a 0) = true) : F5_copy N a b σ = some ((), cpH a b Pse σ) := by
  refine wp_eq ?_
  unfold F5_copy
  rw [hk, ck_t, lt_e]
  have e0 := cpH_s0 (a := a) (b := b) (j := 0) (P := fun _ _ => False) (σ := σ) hd
  rw [cpH_0] at e0
  have e0 := e0.trans (cpH_c (Q := fun r j => r = 0 ∧ j < 1) fun r j => ⟨fun z => z.elim (fun y => ⟨y.1, by omega⟩) False.elim, fun z => Or.inl ⟨z.1, by omega⟩⟩)
  rw [e0, lt_e, cpH_s0 hd, lt_e, cpH_s0 hd]
  unfold F5_copy_b35
  refine wp_fx (fun m x => ∃ i, i + m = 60 ∧ x = (nI i, cpH a b (fun r j => (r = 0 ∧ j < 3) ∨ (1 ≤ r ∧ r ≤ 5 ∧ j < i)) σ)) ?_ (n := 60) (by omega) ⟨0, by omega, congrArg (Prod.mk (nI 0)) (cpH_c (by intro r j; omega))⟩
  rintro m c _ ⟨i, hi, rfl⟩ hc
  dsimp only
  unfold F5_copy_b35B
  by_cases q : i = 60
  rotate_left
  · rw [show (60 : Int32) = nI 60 from rfl, if_neg (nI_ge (by omega) (by omega)), ixb_nI (by omega) (by omega), ck_t, ck_t, nI_clamp (by omega), lt_e, cpH_s hd (by omega), ck_t, ck_t, lt_e, cpH_s hd (by omega), ck_t, ck_t, lt_e, cpH_s hd (by omega), ck_t, ck_t, lt_e, cpH_s hd (by omega), ck_t, ck_t, lt_e, cpH_s hd (by omega), show (1 : Int32) = nI 1 from rfl, nI_add]
    exact hc (m - 1) _ (by omega) ⟨i + 1, by omega, congrArg (Prod.mk _) (cpH_c (by intro r j; omega))⟩
  subst q
  rw [show (60 : Int32) = nI 60 from rfl, if_pos (nI_le (by omega) (by omega))]
  exact wp_some.mpr ⟨by first | rfl | trivial, by first | rfl | trivial⟩
def cpB (x y n : Nat) (σ : Ms) : Ms := (fun k j => if k = 5 ∧ 356 * y ≤ j ∧ j < 356 * y + n then σ.1 5 (j - 356 * y + 356 * x) else σ.1 k j, σ.2)
theorem copy12_ok {N x y : Nat} {σ : Ms} (hN : 400 < N) (hx : x ≤ 4) (hy : y ≤ 4) (hd : x ≠ y) : F12_copy N (nI x) (nI y) σ = some ((), cpB x y 356 σ) := by
  refine wp_eq ?_
  unfold F12_copy F12_copy_b2
  refine wp_fx (fun m s => ∃ i, i + m = 356 ∧ s = (nI x, nI y, nI i, cpB x y i σ)) ?_ (n := 356) (by omega) ⟨0, by omega, ?_⟩
  rotate_left
  · have : cpB x y 0 σ = σ := by
      unfold cpB
      refine Prod.ext ?_ rfl
      funext k j
      exact if_neg (by omega)
    rw [this]
    rfl
  rintro m c _ ⟨i, hi, rfl⟩ hc
  dsimp only
  unfold F12_copy_b2B
  by_cases q : i = 356
  · subst q
    rw [show (356 : Int32) = nI 356 from rfl, if_pos (nI_le (by omega) (by omega))]
    exact wp_some.mpr ⟨by first | rfl | trivial, by first | rfl | trivial⟩
  rw [show (356 : Int32) = nI 356 from rfl, if_neg (nI_ge (by omega) (by omega)), nI_mul, nI_mul, nI_add, nI_add, ixb_nI (by omega) (by omega), ck_t, ixb_nI (by omega) (by omega), ck_t, nI_clamp (by omega), nI_clamp (by omega), lt_e, show (1 : Int32) = nI 1 from rfl, nI_add]
  have h1 : (cpB x y i σ).1 5 (356 * x + i) = σ.1 5 (356 * x + i) := by
    unfold cpB
    exact if_neg (by omega)
  have h2 : sI (cpB x y i σ) 5 (356 * y + i) (σ.1 5 (356 * x + i)) = cpB x y (i + 1) σ := by
    unfold cpB sI
    refine Prod.ext ?_ rfl
    funext k j
    show (if k = 5 ∧ j = 356 * y + i then σ.1 5 (356 * x + i) else if k = 5 ∧ 356 * y ≤ j ∧ j < 356 * y + i then σ.1 5 (j - 356 * y + 356 * x) else σ.1 k j) = if k = 5 ∧ 356 * y ≤ j ∧ j < 356 * y + (i + 1) then σ.1 5 (j - 356 * y + 356 * x) else σ.1 k j
    by_cases q : k = 5 ∧ j = 356 * y + i
    · rw [if_pos q, if_pos (by omega), show j - 356 * y + 356 * x = 356 * x + i by omega]
    rw [if_neg q]
    by_cases q2 : k = 5 ∧ 356 * y ≤ j ∧ j < 356 * y + i
    · rw [if_pos q2, if_pos (by omega)]
    · rw [if_neg q2, if_neg (by omega)]
  rw [h1, h2]
  exact hc (m - 1) _ (by omega) ⟨i + 1, by omega, rfl⟩
