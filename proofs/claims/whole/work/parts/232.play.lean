/-- the hottest bet but for a set, one more than its number, 0 if there is none -/
def hotb (T : Nat) (bl br : Nat → Nat) : Nat → Nat
  | 0 => 0
  | i + 1 => if T.testBit i = false ∧ (hotb T bl br i = 0 ∨ bl (hotb T bl br i - 1) + br (hotb T bl br i - 1) < bl i + br i) then i + 1 else hotb T bl br i
theorem hotb_le (T : Nat) (bl br : Nat → Nat) : ∀ k, hotb T bl br k ≤ k
  | 0 => Nat.le_refl _
  | k + 1 => by
    have := hotb_le T bl br k
    unfold hotb
    split <;> omega
theorem hotb_free {T : Nat} {bl br : Nat → Nat} : ∀ {k b : Nat}, hotb T bl br k = b + 1 → T.testBit b = false
  | 0, b, h => by cases h
  | k + 1, b, h => by
    unfold hotb at h
    split at h
    · next q =>
      have : b = k := by omega
      rw [this]
      exact q.1
    · exact hotb_free h
theorem hotb_none {T : Nat} {bl br : Nat → Nat} : ∀ {k : Nat}, hotb T bl br k = 0 → ∀ i, i < k → T.testBit i = true
  | 0, _, i, hi => absurd hi (Nat.not_lt_zero i)
  | k + 1, h, i, hi => by
    unfold hotb at h
    split at h
    · omega
    · next q =>
      by_cases e : i = k
      · subst e
        cases ht : T.testBit i
        · exact absurd ⟨ht, Or.inl h⟩ q
        · rfl
      · exact hotb_none h i (by omega)
theorem hotb_all {T : Nat} {bl br : Nat → Nat} : ∀ {k : Nat}, (∀ i, i < k → T.testBit i = true) → hotb T bl br k = 0
  | 0, _ => rfl
  | k + 1, h => by
    unfold hotb
    rw [if_neg (by rw [h k (by omega)]; exact fun z => absurd z.1 (by decide))]
    exact hotb_all fun i hi => h i (by omega)
theorem cHot {N h T : Nat} {k T0 : Nat} {bl br : Nat → Nat} {z : Int} {σ : Ms} (hN : 20 < N) (hW : WB k T0 bl br z) (hR : RB h k T0 bl br z σ) (hT : T < 2 ^ 31) : F0_hottestBut N h (nI T) σ = some (cI (hotb T bl br k), σ) := by
  obtain ⟨hk, -, hv, -⟩ := hW
  obtain ⟨e8, -, -, er⟩ := hR
  refine wp_eq ?_
  unfold F0_hottestBut F0_hottestBut_b7
  refine wp_fx (fun m x => ∃ i, i + m = k ∧ x = (nI T, cI (hotb T bl br i), nI (if hotb T bl br i = 0 then 0 else bl (hotb T bl br i - 1) + br (hotb T bl br i - 1)), nI i, σ)) ?_ (n := k) (by omega) ⟨0, by omega, rfl⟩
  rintro m c _ ⟨i, hi, rfl⟩ hc
  simp only
  unfold F0_hottestBut_b7B F0_hottestBut_b60
  rw [e8]
  by_cases q : k ≤ i
  · have ei : i = k := by omega
    subst ei
    rw [if_pos (nI_le (Nat.le_refl _) (by omega))]
    exact wp_some.mpr ⟨rfl, rfl⟩
  have hik : i < k := by omega
  obtain ⟨x1, x2⟩ := er i hik
  have hb := hotb_le T bl br i
  rw [if_neg (nI_ge hik (by omega)), if_neg (by exact fun z => by have := (lit_le (c := 5) 5 (b := i) rfl (by omega) (by omega)).mp z; omega), u_ix (show i < 5 by omega) (by omega), ck_t, ck_t, lt_e, u_cl (by omega), x1, x2, nI_add, isIn11 hT (by omega), bn_s]
  have go : ∀ a b : Int32, a = cI (hotb T bl br (i + 1)) → b = nI (if hotb T bl br (i + 1) = 0 then 0 else bl (hotb T bl br (i + 1) - 1) + br (hotb T bl br (i + 1) - 1)) → wp (c (nI T, a, b, nI i + (1 : Int32), σ)) fun r τ => r = cI (hotb T bl br k) ∧ τ = σ := fun a b ha hb => hc (m - 1) _ (by omega) ⟨i + 1, by omega, by rw [ha, hb, nI_1]⟩
  have hvi := hv i hik
  have hno : ∀ P : Prop, (hotb T bl br (i + 1) = hotb T bl br i → P) → hotb T bl br (i + 1) = hotb T bl br i → P := fun P h e => h e
  cases ht : T.testBit i
  rotate_left
  · have e : hotb T bl br (i + 1) = hotb T bl br i := by
      show (if _ then _ else _) = _
      rw [if_neg (by rw [ht]; exact fun z => absurd z.1 (by decide))]
    rw [if_pos (by decide)]
    exact go _ _ (by rw [e]) (by rw [e])
  rw [if_neg (by exact fun z => z rfl)]
  by_cases hc2 : hotb T bl br i = 0 ∨ bl (hotb T bl br i - 1) + br (hotb T bl br i - 1) < bl i + br i
  · have e : hotb T bl br (i + 1) = i + 1 := by
      show (if _ then _ else _) = _
      rw [if_pos ⟨ht, hc2⟩]
    have hlt : (if hotb T bl br i = 0 then 0 else bl (hotb T bl br i - 1) + br (hotb T bl br i - 1)) < bl i + br i := by
      split <;> omega
    rw [if_neg (nI_ge hlt (by omega))]
    refine go _ _ (by rw [e, cI_s]) ?_
    rw [e, if_neg (by omega), Nat.add_sub_cancel]
  · have e : hotb T bl br (i + 1) = hotb T bl br i := by
      show (if _ then _ else _) = _
      rw [if_neg fun z => hc2 z.2]
    have hge : bl i + br i ≤ (if hotb T bl br i = 0 then 0 else bl (hotb T bl br i - 1) + br (hotb T bl br i - 1)) := by
      rw [if_neg fun z => hc2 (Or.inl z)]
      omega
    have hbd : (if hotb T bl br i = 0 then 0 else bl (hotb T bl br i - 1) + br (hotb T bl br i - 1)) < 2 ^ 31 := by
      rw [if_neg fun z => hc2 (Or.inl z)]
      have := hv (hotb T bl br i - 1) (by omega)
      omega
    rw [if_pos (nI_le hge hbd)]
    exact go _ _ (by rw [e]) (by rw [e])
theorem mHot {N T : Nat} {k T0 : Nat} {bl br : Nat → Nat} {z : Int} {σ : Ms} (hN : 20 < N) (hW : WB k T0 bl br z) (hM : MB 0 k T0 bl br z σ) (hT : T < 2 ^ 31) : F12_hottestBut N (nI T) σ = some (cI (hotb T bl br k), σ) := by
  obtain ⟨hk, -, hv, -⟩ := hW
  obtain ⟨e2, -, er⟩ := hM.at0
  have heat : ∀ i, i < k → F12_heatOf (nI i) σ = some (nI (bl i + br i), σ) := fun i hi => by
    obtain ⟨x1, x2, -⟩ := er i hi
    unfold F12_heatOf
    rw [show (69 : Int32) = nI 69 from rfl, show (74 : Int32) = nI 74 from rfl, nI_add, nI_add, u_ix (show 69 + i < 1780 by omega) (by omega), u_ix (show 74 + i < 1780 by omega) (by omega), ck_t, ck_t, u_cl (by omega), u_cl (by omega), x1, x2, nI_add]
  refine wp_eq ?_
  unfold F12_hottestBut F12_hottestBut_b4
  refine wp_fx (fun m x => ∃ i, i + m = k ∧ x = (nI T, cI (hotb T bl br i), nI i, σ)) ?_ (n := k) (by omega) ⟨0, by omega, rfl⟩
  rintro m c _ ⟨i, hi, rfl⟩ hc
  simp only
  unfold F12_hottestBut_b4B F12_hottestBut_b41 F12_hottestBut_b39 F12_hottestBut_b41
  rw [show ixb (2 : Int32) 1780 = true by decide, ck_t, show (2 : Int32).toNatClampNeg = 2 by decide, e2]
  by_cases q : k ≤ i
  · have ei : i = k := by omega
    subst ei
    rw [if_pos (nI_le (Nat.le_refl _) (by omega))]
    exact wp_some.mpr ⟨rfl, rfl⟩
  have hik : i < k := by omega
  have hb := hotb_le T bl br i
  rw [if_neg (nI_ge hik (by omega)), has12 hT (by omega), bn_s]
  have go : ∀ a : Int32, a = cI (hotb T bl br (i + 1)) → wp (c (nI T, a, nI i + (1 : Int32), σ)) fun r τ => r = cI (hotb T bl br k) ∧ τ = σ := fun a ha => hc (m - 1) _ (by omega) ⟨i + 1, by omega, by rw [ha, nI_1]⟩
  cases ht : T.testBit i
  rotate_left
  · have e : hotb T bl br (i + 1) = hotb T bl br i := by
      show (if _ then _ else _) = _
      rw [if_neg (by rw [ht]; exact fun z => absurd z.1 (by decide))]
    rw [if_pos (by decide)]
    exact go _ (by rw [e])
  rw [if_neg (by exact fun z => z rfl)]
  cases hbi : hotb T bl br i with
  | zero =>
    have e : hotb T bl br (i + 1) = i + 1 := by
      show (if _ then _ else _) = _
      rw [if_pos ⟨ht, Or.inl hbi⟩]
    rw [cI_0, if_pos (by decide)]
    exact go _ (by rw [e, cI_s])
  | succ b =>
    have hbk : b < k := by omega
    rw [cI_s, if_neg (nI_pos (by omega)), heat i hik, bn_s, heat b hbk, bn_s]
    by_cases hc2 : bl b + br b < bl i + br i
    · have e : hotb T bl br (i + 1) = i + 1 := by
        show (if _ then _ else _) = _
        rw [if_pos ⟨ht, Or.inr (by rw [hbi, Nat.add_sub_cancel]; exact hc2)⟩]
      have := hv i hik
      rw [if_neg (nI_ge hc2 (by omega))]
      exact go _ (by rw [e, cI_s])
    · have e : hotb T bl br (i + 1) = b + 1 := by
        show (if _ then _ else _) = _
        rw [if_neg (by rw [hbi, Nat.add_sub_cancel]; exact fun z => by omega), hbi]
      have := hv b hbk
      rw [if_pos (nI_le (by omega) (by omega))]
      exact go _ (by rw [e, cI_s])
/-- all bets taken by turns: the worth then, who is to move -/
def gain (H : HG) (b d : Nat) : Int := if d = 0 then (gl H b : Int) else -(gr H b : Int)
def sett (H : HG) : Nat → Int → Nat → Nat → Int × Nat
  | 0, s, _, d => (s, d)
  | t + 1, s, T, d => if hotb T (gl H) (gr H) (gk H) = 0 then (s, d) else sett H t (s + gain H (hotb T (gl H) (gr H) (gk H) - 1) d * 1048576) (T ||| 2 ^ (hotb T (gl H) (gr H) (gk H) - 1)) (1 - d)
theorem sett_no {H : HG} {T : Nat} (h : hotb T (gl H) (gr H) (gk H) = 0) (t : Nat) (s : Int) (d : Nat) : sett H t s T d = (s, d) := by
  cases t with
  | zero => rfl
  | succ t => exact if_pos h
theorem sett_yes {H : HG} {T b : Nat} (h : hotb T (gl H) (gr H) (gk H) = b + 1) (t : Nat) (s : Int) (d : Nat) : sett H (t + 1) s T d = sett H t (s + gain H b d * 1048576) (T ||| 2 ^ b) (1 - d) := by
  show (if _ then _ else _) = _
  rw [h, if_neg (by omega), Nat.add_sub_cancel]
theorem or_lt {T b k : Nat} (hT : T < 2 ^ k) (hb : b < k) : T ||| 2 ^ b < 2 ^ k := Nat.or_lt_two_pow hT (p2_lt hb)
theorem pc_or {T b : Nat} (hb : T.testBit b = false) : ∀ {k : Nat}, b < k → pc (T ||| 2 ^ b) k = pc T k + 1 := by
  intro k
  induction k with
  | zero => intro h; omega
  | succ k ih =>
    intro h
    show pc (T ||| 2 ^ b) k + _ = pc T k + _ + 1
    rw [Nat.testBit_or, Nat.testBit_two_pow]
    by_cases q : b = k
    · subst q
      have : pc (T ||| 2 ^ b) b = pc T b := pc_cong fun i hi => by
        rw [Nat.testBit_or, Nat.testBit_two_pow, decide_eq_false (by omega), Bool.or_false]
      rw [this, hb]
      simp
    · rw [ih (by omega), decide_eq_false q, Bool.or_false]
      omega
theorem pc_all {T : Nat} : ∀ {k : Nat}, (∀ i, i < k → T.testBit i = true) → pc T k = k
  | 0, _ => rfl
  | k + 1, h => by
    show pc T k + _ = _
    rw [pc_all fun i hi => h i (by omega), h k (by omega)]
    rfl
/-- who is to move when all bets are taken -/
theorem sett_who {H : HG} : ∀ (t : Nat) (s : Int) (T d : Nat), d < 2 → gk H ≤ pc T (gk H) + t → (sett H t s T d).2 = if (gk H - pc T (gk H)) % 2 = 0 then d else 1 - d
  | 0, s, T, d, hd, h => by
    have := pc_le T (gk H)
    rw [show gk H - pc T (gk H) = 0 by omega]
    rfl
  | t + 1, s, T, d, hd, h => by
    cases hb : hotb T (gl H) (gr H) (gk H) with
    | zero =>
      rw [sett_no hb, pc_all (hotb_none hb), Nat.sub_self]
      rfl
    | succ b =>
      have hbk : b < gk H := by have := hotb_le T (gl H) (gr H) (gk H); omega
      have e := pc_or (hotb_free hb) hbk
      have := pc_le (T ||| 2 ^ b) (gk H)
      rw [sett_yes hb, sett_who t _ _ _ (by omega) (by omega), e]
      by_cases q : (gk H - pc T (gk H)) % 2 = 0
      · rw [if_pos q, if_neg (by omega)]
        omega
      · rw [if_neg q, if_pos (by omega)]
theorem sett_abs {H : HG} (w : WG H) : ∀ (t : Nat) (s : Int) (T d : Nat), s - t * 20971520 ≤ (sett H t s T d).1 ∧ (sett H t s T d).1 ≤ s + t * 20971520
  | 0, s, T, d => by
    show s - (0 : Nat) * 20971520 ≤ s ∧ s ≤ s + (0 : Nat) * 20971520
    omega
  | t + 1, s, T, d => by
    cases hb : hotb T (gl H) (gr H) (gk H) with
    | zero =>
      rw [sett_no hb]
      show s - ((t + 1 : Nat) : Int) * 20971520 ≤ s ∧ s ≤ s + ((t + 1 : Nat) : Int) * 20971520
      omega
    | succ b =>
      have hbk : b < gk H := by have := hotb_le T (gl H) (gr H) (gk H); omega
      have h1 := w.2.2.2.2.1 b hbk
      have h2 := sett_abs w t (s + gain H b d * 1048576) (T ||| 2 ^ b) (1 - d)
      rw [sett_yes hb]
      have h3 : -20 ≤ gain H b d ∧ gain H b d ≤ 20 := by
        unfold gain
        split <;> omega
      omega
