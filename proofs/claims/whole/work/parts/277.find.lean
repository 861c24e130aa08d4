def recol (col : Nat → Nat) (P R i : Nat) : Nat := if P.testBit i = true then (if R.testBit i = true then 1 else 0) else col i
theorem recol_2 {n S P R i : Nat} {col : Nat → Nat} (h : okS n S col P) (hi : i < n) : recol col P R i = 2 ↔ col i = 2 := by
  unfold recol
  by_cases b : P.testBit i = true
  · have := (h.2.2 i hi b).2
    rw [if_pos b]
    constructor
    · intro z
      split at z <;> omega
    · intro z
      exact absurd z this
  · rw [if_neg b]
theorem recol_W {n S P R : Nat} {col on : Nat → Nat} (hW : WS n S col on) (h : okS n S col P) : WS n S (recol col P R) on := by
  obtain ⟨hn, hS, hc⟩ := hW
  refine ⟨hn, hS, fun i hi => ⟨?_, (hc i hi).2.1, fun j hj => ⟨?_, ((hc i hi).2.2 j hj).2⟩⟩⟩
  · have := (hc i hi).1
    unfold recol
    split
    · split <;> omega
    · exact this
  · have hj' : j < n := by have := (hc i hi).2.1; omega
    rw [recol_2 h hi, recol_2 h hj']
    exact ((hc i hi).2.2 j hj).1
def gv (H : HG) (P n : Nat) : Int := gz H * 1048576 + (wA (gn H) (gS H) (recol (gc H) P (sb P n)) (go H) (gn H)).2
theorem gv_abs {H : HG} (w : WG H) (P n : Nat) : -(1100 * 1048576) ≤ gv H P n ∧ gv H P n ≤ 1100 * 1048576 := by
  have h1 := w.z
  have h2 := Ok_abs (wA_all (X := gS H) (col := recol (gc H) P (sb P n)) w.n w.o (Nat.le_refl _))
  unfold gv
  omega
def cntw (H : HG) (P : Nat) (V : Int) : Nat → Nat
  | 0 => 0
  | n + 1 => cntw H P V n + if gv H P n = V then 1 else 0
def fstw (H : HG) (P : Nat) (V : Int) : Nat → Nat
  | 0 => 0
  | n + 1 => if gv H P n = V ∧ cntw H P V n = 0 then sb P n else fstw H P V n
def bluw (H : HG) (P : Nat) (V : Int) (i : Nat) : Nat → Nat
  | 0 => 0
  | n + 1 => bluw H P V i n + if gv H P n = V ∧ P.testBit i = true ∧ (sb P n).testBit i = false then 1 else 0
theorem cntw_le (H : HG) (P : Nat) (V : Int) : ∀ n, cntw H P V n ≤ n
  | 0 => Nat.le_refl _
  | n + 1 => by
    have := cntw_le H P V n
    unfold cntw
    split <;> omega
theorem bluw_le (H : HG) (P : Nat) (V : Int) (i : Nat) : ∀ n, bluw H P V i n ≤ cntw H P V n
  | 0 => Nat.le_refl _
  | n + 1 => by
    have := bluw_le H P V i n
    unfold bluw cntw
    split
    · next h => rw [if_pos h.1]; omega
    · split <;> omega
def cvb (R i : Nat) : Int32 := nI (if R.testBit i = true then 1 else 0)
def colS (P R m : Nat) (τ : Ms) : Ms := (fun k i => if k = 31 ∧ i < m ∧ P.testBit i = true then cvb R i else τ.1 k i, τ.2)
def cntS (P R m : Nat) (τ : Ms) : Ms := (fun k i => if k = 101 ∧ i < m ∧ P.testBit i = true ∧ R.testBit i = false then τ.1 101 i + nI 1 else τ.1 k i, τ.2)
theorem colour_ok {N P R : Nat} {τ : Ms} (hN : 100 < N) (hP : P < 2 ^ 31) (hR : R < 2 ^ 31) : F10_colourAll N 30 (nI P) (nI R) τ = some ((), colS P R 20 τ) := by
  refine wp_eq ?_
  unfold F10_colourAll F10_colourAll_b2
  refine wp_fx (fun m x => ∃ i, i + m = 20 ∧ x = (nI P, nI R, nI i, colS P R i τ)) ?_ (n := 20) (by omega) ⟨0, by omega, ?_⟩
  rotate_left
  · have : colS P R 0 τ = τ := by
      refine Prod.ext ?_ rfl
      funext k i
      exact if_neg (by omega)
    rw [this]
    rfl
  rintro m c _ ⟨i, hi, rfl⟩ hc
  dsimp only
  unfold F10_colourAll_b2B F10_colourAll_b34 F10_colourAll_b35
  by_cases q : i = 20
  · subst q
    rw [if_pos (by decide)]
    exact wp_some.mpr ⟨rfl, rfl⟩
  rw [show (20 : Int32) = nI 20 from rfl, if_neg (nI_ge (by omega) (by omega)), isIn11 hP (by omega), bn_s]
  cases b : P.testBit i
  · rw [bI_f, if_pos (by rfl), show (1 : Int32) = nI 1 from rfl, nI_add]
    refine hc (m - 1) _ (by omega) ⟨i + 1, by omega, ?_⟩
    have : colS P R i τ = colS P R (i + 1) τ := by
      refine Prod.ext ?_ rfl
      funext k j
      show (if k = 31 ∧ j < i ∧ P.testBit j = true then cvb R j else τ.1 k j) = if k = 31 ∧ j < i + 1 ∧ P.testBit j = true then cvb R j else τ.1 k j
      by_cases z : j = i
      · rw [if_neg (by omega), if_neg (by rw [z, b]; exact fun y => absurd y.2.2 (by decide))]
      · by_cases y : k = 31 ∧ j < i ∧ P.testBit j = true
        · rw [if_pos y, if_pos ⟨y.1, by omega, y.2.2⟩]
        · rw [if_neg y, if_neg fun w => y ⟨w.1, by omega, w.2.2⟩]
    rw [this]
  · have st : ∀ v : Int32, v = cvb R i → sI (colS P R i τ) 31 i v = colS P R (i + 1) τ := fun v hv => by
      refine Prod.ext ?_ rfl
      funext k j
      show (if k = 31 ∧ j = i then v else if k = 31 ∧ j < i ∧ P.testBit j = true then cvb R j else τ.1 k j) = if k = 31 ∧ j < i + 1 ∧ P.testBit j = true then cvb R j else τ.1 k j
      by_cases z : k = 31 ∧ j = i
      · rw [if_pos z, if_pos ⟨z.1, by omega, by rw [z.2, b]⟩, hv, z.2]
      · rw [if_neg z]
        by_cases y : k = 31 ∧ j < i ∧ P.testBit j = true
        · rw [if_pos y, if_pos ⟨y.1, by omega, y.2.2⟩]
        · rw [if_neg y, if_neg fun w => y ⟨w.1, by omega, w.2.2⟩]
    rw [bI_t, if_neg (by decide), isIn11 hR (by omega), bn_s]
    cases e : R.testBit i
    · rw [bI_f, if_pos (by rfl), ixb_nI (by omega) (by omega), ck_t, nI_clamp (by omega), st _ (by unfold cvb; rw [e]; rfl), lt_e, show (1 : Int32) = nI 1 from rfl, nI_add]
      exact hc (m - 1) _ (by omega) ⟨i + 1, by omega, rfl⟩
    · rw [bI_t, if_neg (by decide), ixb_nI (by omega) (by omega), ck_t, nI_clamp (by omega), st _ (by unfold cvb; rw [e]; rfl), lt_e, show (1 : Int32) = nI 1 from rfl, nI_add]
      exact hc (m - 1) _ (by omega) ⟨i + 1, by omega, rfl⟩
theorem count_ok {N P R : Nat} {τ : Ms} (hN : 100 < N) (hP : P < 2 ^ 31) : F10_count_b24 N (nI P) (nI R) 0 τ = some ((), cntS P R 20 τ) := by
  refine wp_eq ?_
  unfold F10_count_b24
  refine wp_fx (fun m x => ∃ i, i + m = 20 ∧ x = (nI P, nI R, nI i, cntS P R i τ)) ?_ (n := 20) (by omega) ⟨0, by omega, ?_⟩
  rotate_left
  · have : cntS P R 0 τ = τ := by
      refine Prod.ext ?_ rfl
      funext k i
      exact if_neg (by omega)
    rw [this]
    rfl
  rintro m c _ ⟨i, hi, rfl⟩ hc
  dsimp only
  unfold F10_count_b24B F10_count_b52
  by_cases q : i = 20
  · subst q
    rw [if_pos (by decide)]
    exact wp_some.mpr ⟨rfl, rfl⟩
  have hd : dif P R < 2 ^ 31 := dif_lt hP
  rw [show (20 : Int32) = nI 20 from rfl, if_neg (nI_ge (by omega) (by omega)), u_dif, isIn11 hd (by omega), bn_s, dif_bit]
  by_cases b : P.testBit i = true ∧ R.testBit i = false
  · rw [b.1, b.2, show (true && !false) = true from rfl, bI_t, if_neg (by decide), ixb_nI (by omega) (by omega), ck_t, ck_t, nI_clamp (by omega)]
    have h1 : (cntS P R i τ).1 101 i = τ.1 101 i := if_neg (by omega)
    have st : sI (cntS P R i τ) 101 i (τ.1 101 i + nI 1) = cntS P R (i + 1) τ := by
      refine Prod.ext ?_ rfl
      funext k j
      show (if k = 101 ∧ j = i then τ.1 101 i + nI 1 else if k = 101 ∧ j < i ∧ P.testBit j = true ∧ R.testBit j = false then τ.1 101 j + nI 1 else τ.1 k j) = if k = 101 ∧ j < i + 1 ∧ P.testBit j = true ∧ R.testBit j = false then τ.1 101 j + nI 1 else τ.1 k j
      by_cases z : k = 101 ∧ j = i
      · rw [if_pos z, if_pos ⟨z.1, by omega, by rw [z.2]; exact b⟩, z.2]
      · rw [if_neg z]
        by_cases y : k = 101 ∧ j < i ∧ P.testBit j = true ∧ R.testBit j = false
        · rw [if_pos y, if_pos ⟨y.1, by omega, y.2.2⟩]
        · rw [if_neg y, if_neg fun w => y ⟨w.1, by omega, w.2.2⟩]
    rw [h1, show (1 : Int32) = nI 1 from rfl, lt_e, st, nI_add]
    exact hc (m - 1) _ (by omega) ⟨i + 1, by omega, rfl⟩
  · have e : (P.testBit i && !R.testBit i) = false := by
      cases x : P.testBit i
      · rfl
      · cases y : R.testBit i
        · exact absurd ⟨x, y⟩ b
        · rfl
    rw [e, bI_f, if_pos (by rfl), show (1 : Int32) = nI 1 from rfl, nI_add]
    refine hc (m - 1) _ (by omega) ⟨i + 1, by omega, ?_⟩
    have : cntS P R i τ = cntS P R (i + 1) τ := by
      refine Prod.ext ?_ rfl
      funext k j
      show (if k = 101 ∧ j < i ∧ P.testBit j = true ∧ R.testBit j = false then τ.1 101 j + nI 1 else τ.1 k j) = if k = 101 ∧ j < i + 1 ∧ P.testBit j = true ∧ R.testBit j = false then τ.1 101 j + nI 1 else τ.1 k j
      by_cases z : j = i
      · rw [if_neg (by omega), if_neg (by rw [z]; exact fun y => b y.2.2)]
      · by_cases y : k = 101 ∧ j < i ∧ P.testBit j = true ∧ R.testBit j = false
        · rw [if_pos y, if_pos ⟨y.1, by omega, y.2.2⟩]
        · rw [if_neg y, if_neg fun w => y ⟨w.1, by omega, w.2.2⟩]
    rw [this]
