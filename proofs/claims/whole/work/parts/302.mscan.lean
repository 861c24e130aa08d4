def MM (T : Nat → Nat) (e : Nat) (τ : Ms) : Prop := τ.1 0 9 = nI e ∧ ∀ j, j < e → τ.1 4 j &&& 255 = nI (T j)
theorem MM.s {T : Nat → Nat} {e j : Nat} {v : Int32} {τ : Ms} (h : MM T e τ) (hj : j ≠ 9) : MM T e (sI τ 0 j v) := ⟨by rw [rI_j (by omega)]; exact h.1, fun i hi => by rw [rI_k (by omega)]; exact h.2 i hi⟩
theorem MM.l {T : Nat → Nat} {e j : Nat} {v : Int64} {τ : Ms} (h : MM T e τ) : MM T e (sL τ 0 j v) := h
def ch0 (T : Nat → Nat) (e p : Nat) : Nat := if p < e then T p else 0
theorem look_ok {T : Nat → Nat} {e p : Nat} {τ : Ms} (ht : TT T e) (h : MM T e τ) (hp : p < 2147483648) : F12_look2 (nI p) τ = some (nI (ch0 T e p), τ) := by
  have := ht.1
  unfold F12_look2 ch0
  rw [h.1]
  by_cases q : p < e
  · rw [if_neg (nI_ge q (by omega)), if_pos q, u_ix (show p < 900 by omega) (by omega), ck_t, u_cl (by omega), h.2 p q]
  · rw [if_pos (nI_le (by omega) (by omega)), if_neg q]
    rfl
theorem ch0_lt {T : Nat → Nat} {e : Nat} (ht : TT T e) (p : Nat) : ch0 T e p < 256 := by
  unfold ch0
  split
  · next h => exact ht.2 p h
  · decide
theorem ch0_l {T : Nat → Nat} {e p : Nat} : (ltr (ch0 T e p) = true) ↔ (p < e ∧ pL T p = true) := by
  unfold ch0 pL
  by_cases q : p < e
  · rw [if_pos q]
    exact ⟨fun h => ⟨q, h⟩, fun h => h.2⟩
  · rw [if_neg q]
    exact ⟨fun h => (by cases h), fun h => absurd h.1 q⟩
theorem ch0_d {T : Nat → Nat} {e p : Nat} : (dgt (ch0 T e p) = true) ↔ (p < e ∧ pD T p = true) := by
  unfold ch0 pD
  by_cases q : p < e
  · rw [if_pos q]
    exact ⟨fun h => ⟨q, h⟩, fun h => h.2⟩
  · rw [if_neg q]
    exact ⟨fun h => (by cases h), fun h => absurd h.1 q⟩
/-- what the model holds of the token that starts at s -/
def ME (T : Nat → Nat) (e s : Nat) (τ : Ms) : Prop := τ.1 0 14 = nI (kdS T e s) ∧ τ.1 0 15 = nI s ∧ τ.1 0 16 = nI (hdS T e s) ∧ (kdS T e s = 2 → τ.1 0 17 = nI (vlS T e s)) ∧ (kdS T e s = 3 → τ.1 0 17 = nI (T s)) ∧ (kdS T e s = 1 → τ.2 0 18 = zL (wcS T e s))
theorem digits_m {N e s : Nat} {T : Nat → Nat} {τ : Ms} (hN : 1000 < N) (ht : TT T e) (h : MM T e τ) (hs : s < e) (h6 : τ.1 0 15 = nI s) (h7 : τ.1 0 16 = nI s) (h17 : τ.1 0 17 = nI 0) (hl : ltr (T s) = false) (hd : dgt (T s) = true) : wp (F12_advance_b194 N τ) fun _ τ' => ME T e s τ' := by
  have he := ht.1
  have hkd : kdS T e s = if rn (pD T) e s - s ≤ 4 then 2 else 4 := by
    unfold kdS
    rw [if_neg (by omega), hl, if_neg (by decide), if_pos hd]
  have hhd : hdS T e s = rn (pD T) e s := by
    unfold hdS
    rw [if_neg (by omega), hl, if_neg (by decide), if_pos hd]
  unfold F12_advance_b194
  refine wp_fx (fun m x => ∃ i, i + m = e ∧ s ≤ i ∧ rn (pD T) e i = rn (pD T) e s ∧ MM T e x ∧ x.1 0 15 = nI s ∧ x.1 0 16 = nI i ∧ x.1 0 17 = nI (dv T s (min 4 (i - s)))) ?_ (n := e - s) (by omega) ⟨s, by omega, by omega, rfl, h, h6, h7, by rw [h17, Nat.sub_self]; rfl⟩
  rintro m co x ⟨i, hi, hsi, hr, hb, g6, g7, g8⟩ hco
  unfold F12_advance_b194B F12_advance_b244
  rw [g7, look_ok ht hb (by omega), bn_s, isDigit_m (ch0_lt ht i), bn_s]
  cases hp : dgt (ch0 T e i)
  · have hn : ¬ (i < e ∧ pD T i = true) := fun z => by rw [ch0_d.mpr z] at hp; cases hp
    have er : rn (pD T) e s = i := by rw [← hr, rn_n hn]
    rw [if_pos (by rfl), g6, g7, u_sub hsi]
    unfold F12_advance_b276 ME
    rw [hkd, hhd, er, show (4 : Int32) = nI 4 from rfl, lt_e, lt_e]
    by_cases q : i - s ≤ 4
    · rw [if_pos (nI_le q (by omega))]
      refine wp_some.mpr ⟨by rw [if_pos q]; exact rI_e rfl rfl, by rw [rI_j (by omega)]; exact g6, by rw [rI_j (by omega)]; exact g7, fun _ => ?_, fun z => ?_, fun z => ?_⟩
      · unfold vlS
        rw [hhd, er, rI_j (by omega), g8, Nat.min_eq_right q]
      · rw [if_pos q] at z; cases z
      · rw [if_pos q] at z; cases z
    · rw [if_neg (nI_ge (by omega) (by omega))]
      refine wp_some.mpr ⟨by rw [if_neg q]; exact rI_e rfl rfl, by rw [rI_j (by omega)]; exact g6, by rw [rI_j (by omega)]; exact g7, fun z => ?_, fun z => ?_, fun z => ?_⟩
      · rw [if_neg q] at z; cases z
      · rw [if_neg q] at z; cases z
      · rw [if_neg q] at z; cases z
  obtain ⟨hie, hpd⟩ := ch0_d.mp hp
  have hpd' : dgt (T i) = true := hpd
  have hti := ht.2 i hie
  have hp2 := dgt_r hpd'
  have hr' : rn (pD T) e (i + 1) = rn (pD T) e s := by rw [← hr, rn_y hie hpd]
  have hch : ch0 T e i = T i := if_pos hie
  rw [if_neg (by decide), g7, g6, u_sub hsi, show (4 : Int32) = nI 4 from rfl]
  by_cases q4 : 4 ≤ i - s
  · rw [if_pos (nI_le q4 (by omega)), lt_e, L_1, nI_add]
    refine hco (m - 1) _ (by omega) ⟨i + 1, by omega, by omega, hr', hb.s (by omega), by rw [rI_j (by omega)]; exact g6, rI_e rfl rfl, ?_⟩
    rw [rI_j (by omega), g8, Nat.min_eq_left q4, Nat.min_eq_left (by omega)]
  · rw [if_neg (nI_ge (by omega) (by omega)), look_ok ht hb (by omega), bn_s, lt_e, lt_e, g8, hch, rI_j (show 16 ≠ 17 by omega), g7, L_1, nI_add, show (10 : Int32) = nI 10 from rfl, show (48 : Int32) = nI 48 from rfl, nI_mul, nI_add, u_sub (by omega)]
    refine hco (m - 1) _ (by omega) ⟨i + 1, by omega, by omega, hr', (hb.s (by omega)).s (by omega), by rw [rI_j (by omega), rI_j (by omega)]; exact g6, rI_e rfl rfl, ?_⟩
    rw [rI_j (by omega), rI_e rfl rfl, Nat.min_eq_right (show i - s ≤ 4 by omega), Nat.min_eq_right (show i + 1 - s ≤ 4 by omega), show i + 1 - s = (i - s) + 1 by omega]
    show _ = nI (dv T s (i - s) * 10 + (T (s + (i - s)) - 48))
    rw [show s + (i - s) = i by omega, show 10 * dv T s (i - s) + T i - 48 = dv T s (i - s) * 10 + (T i - 48) by omega]
theorem letters_m {N e s : Nat} {T : Nat → Nat} {τ : Ms} (hN : 1000 < N) (ht : TT T e) (h : MM T e τ) (hs : s < e) (h6 : τ.1 0 15 = nI s) (h7 : τ.1 0 16 = nI s) (h14 : τ.1 0 14 = nI 1) (h18 : τ.2 0 18 = zL 0) (hl : ltr (T s) = true) : wp (F12_advance_b109 N τ) fun _ τ' => ME T e s τ' := by
  have he := ht.1
  have hkd : kdS T e s = 1 := by
    unfold kdS
    rw [if_neg (by omega), if_pos hl]
  have hhd : hdS T e s = rn (pL T) e s := by
    unfold hdS
    rw [if_neg (by omega), if_pos hl]
  unfold F12_advance_b109
  refine wp_fx (fun m x => ∃ i, i + m = e ∧ s ≤ i ∧ rn (pL T) e i = rn (pL T) e s ∧ MM T e x ∧ x.1 0 14 = nI 1 ∧ x.1 0 15 = nI s ∧ x.1 0 16 = nI i ∧ x.2 0 18 = zL (wvd T s (i - s))) ?_ (n := e - s) (by omega) ⟨s, by omega, by omega, rfl, h, h14, h6, h7, by rw [h18, Nat.sub_self]; rfl⟩
  rintro m co x ⟨i, hi, hsi, hr, hb, g5, g6, g7, g8⟩ hco
  unfold F12_advance_b109B F12_advance_b166
  rw [g7, look_ok ht hb (by omega), bn_s, isLetter_m (ch0_lt ht i), bn_s]
  cases hp : ltr (ch0 T e i)
  · have hn : ¬ (i < e ∧ pL T i = true) := fun z => by rw [ch0_l.mpr z] at hp; cases hp
    have er : rn (pL T) e s = i := by rw [← hr, rn_n hn]
    rw [if_pos (by rfl)]
    refine wp_some.mpr ⟨by rw [hkd]; exact g5, g6, by rw [hhd, er]; exact g7, fun z => ?_, fun z => ?_, fun _ => ?_⟩
    · rw [hkd] at z; cases z
    · rw [hkd] at z; cases z
    · unfold wcS
      rw [hhd, er, g8]
  obtain ⟨hie, hpd⟩ := ch0_l.mp hp
  have hti := ht.2 i hie
  have hr' : rn (pL T) e (i + 1) = rn (pL T) e s := by rw [← hr, rn_y hie hpd]
  have hch : ch0 T e i = T i := if_pos hie
  have hw : wvd T s (i + 1 - s) = if i - s < 8 then wvd T s (i - s) * 32 + ((T i : Int) - 96) else -1 := by
    rw [show i + 1 - s = (i - s) + 1 by omega]
    show (if i - s < 8 then wvd T s (i - s) * 32 + ((T (s + (i - s)) : Int) - 96) else -1) = _
    rw [show s + (i - s) = i by omega]
  rw [if_neg (by decide), g7, g6, u_sub hsi, show (8 : Int32) = nI 8 from rfl]
  by_cases q : 8 ≤ i - s
  · rw [if_pos (nI_le q (by omega)), lt_e, lt_e, rL_i, g7, L_1, nI_add]
    refine hco (m - 1) _ (by omega) ⟨i + 1, by omega, by omega, hr', hb.l.s (by omega), by rw [rI_j (by omega)]; exact g5, by rw [rI_j (by omega)]; exact g6, rI_e rfl rfl, ?_⟩
    rw [rI_l, rL_e rfl rfl, hw, if_neg (by omega)]
    decide
  · rw [if_neg (nI_ge (by omega) (by omega)), look_ok ht hb (by omega), bn_s, lt_e, lt_e, rL_i, g7, g8, hch, L_1, nI_add, nI_zL (by omega), show (32 : Int64) = zL 32 by decide, show (96 : Int64) = zL 96 by decide, zL_mul, zL_add, zL_sub]
    refine hco (m - 1) _ (by omega) ⟨i + 1, by omega, by omega, hr', hb.l.s (by omega), by rw [rI_j (by omega)]; exact g5, by rw [rI_j (by omega)]; exact g6, rI_e rfl rfl, ?_⟩
    rw [rI_l, rL_e rfl rfl, hw, if_pos (by omega)]
    congr 1
    omega
theorem b58_m {N e s : Nat} {T : Nat → Nat} {τ : Ms} (hN : 1000 < N) (ht : TT T e) (h : MM T e τ) (hs : s ≤ e) (h6 : τ.1 0 15 = nI s) : wp (F12_advance_b58 N τ) fun _ τ' => ME T e s τ' := by
  have he := ht.1
  unfold F12_advance_b58
  rw [lt_e, h6]
  have e6 : (sI τ 0 16 (nI s)).1 0 15 = nI s := by rw [rI_j (by omega)]; exact h6
  have hb : MM T e (sI τ 0 16 (nI s)) := h.s (by omega)
  rw [e6, hb.1]
  by_cases q : e ≤ s
  · rw [if_neg (nI_nlt q (by omega)), lt_e]
    have hk : kdS T e s = 0 := by
      unfold kdS
      rw [if_pos q]
    refine wp_some.mpr ⟨?_, ?_, ?_, fun z => ?_, fun z => ?_, fun z => ?_⟩
    · rw [hk, rI_e rfl rfl]
      rfl
    · rw [rI_j (by omega)]; exact e6
    · unfold hdS
      rw [if_pos q, rI_j (by omega), rI_e rfl rfl]
    · rw [hk] at z; cases z
    · rw [hk] at z; cases z
    · rw [hk] at z; cases z
  have hti := ht.2 s (by omega)
  have hch : ch0 T e s = T s := if_pos (by omega)
  rw [if_pos (nI_lt (by omega) (by omega)), look_ok ht hb (by omega), bn_s, hch, isLetter_m hti, bn_s]
  cases hl : ltr (T s)
  rotate_left
  · rw [if_neg (by decide), lt_e, lt_e]
    exact letters_m hN ht (hb.s (by omega)).l (by omega) (by rw [rL_i, rI_j (by omega)]; exact e6) (by rw [rL_i, rI_j (by omega), rI_e rfl rfl]) (by rw [rL_i, rI_e rfl rfl]; rfl) (by rw [rL_e rfl rfl]; rfl) hl
  rw [if_pos (by rfl), isDigit_m hti, bn_s]
  cases hd : dgt (T s)
  rotate_left
  · rw [if_neg (by decide), lt_e]
    exact digits_m hN ht (hb.s (by omega)) (by omega) (by rw [rI_j (by omega)]; exact e6) (by rw [rI_j (by omega), rI_e rfl rfl]) (by rw [rI_e rfl rfl]; rfl) hl hd
  have hhd : hdS T e s = s + 1 := by
    unfold hdS
    rw [if_neg q, hl, if_neg (by decide), hd, if_neg (by decide)]
  have hkd : kdS T e s = if sgb (T s) = true then 3 else 4 := by
    unfold kdS
    rw [if_neg q, hl, if_neg (by decide), hd, if_neg (by decide)]
  rw [if_pos (by rfl), lt_e, lt_e, isSign_m hti, bn_s, e6, L_1, nI_add]
  have fin2 : ∀ k : Nat, k = kdS T e s → k ≠ 2 → k ≠ 1 → wp (lt (sI (sI (sI (sI τ 0 16 (nI s)) 0 16 (nI (s + 1))) 0 17 (nI (T s))) 0 14 (nI k)) fun t1 => some ((), t1)) fun _ τ' => ME T e s τ' := fun k hk h2 h1 => by
    rw [lt_e]
    refine wp_some.mpr ⟨?_, ?_, ?_, fun z => absurd (hk.trans z) h2, fun _ => ?_, fun z => absurd (hk.trans z) h1⟩
    · rw [rI_e rfl rfl, hk]
    · rw [rI_j (by omega), rI_j (by omega), rI_j (by omega)]; exact e6
    · rw [rI_j (by omega), rI_j (by omega), rI_e rfl rfl, hhd]
    · rw [rI_j (by omega), rI_e rfl rfl]
  cases hg : sgb (T s)
  · rw [if_pos (by rfl)]
    exact fin2 4 (by rw [hkd, hg]; rfl) (by decide) (by decide)
  · rw [if_neg (by decide)]
    exact fin2 3 (by rw [hkd, hg]; rfl) (by decide) (by decide)
theorem advance_m {N e b : Nat} {T : Nat → Nat} {τ : Ms} (hN : 1000 < N) (ht : TT T e) (h : MM T e τ) (hb : b ≤ e) (h7 : τ.1 0 16 = nI b) : wp (F12_advance N τ) fun _ τ' => ME T e (tS T e b) τ' ∧ Fr W12_advance τ τ' := by
  have he := ht.1
  refine wp_fr ?_ (fr_F12_advance N τ)
  unfold F12_advance
  rw [lt_e, h7]
  unfold F12_advance_b8
  refine wp_fx (fun m x => ∃ i, i + m = e ∧ rn (pB T) e i = rn (pB T) e b ∧ MM T e x ∧ x.1 0 15 = nI i) ?_ (n := e - b) (by omega) ⟨b, by omega, rfl, h.s (by omega), rI_e rfl rfl⟩
  rintro m co x ⟨i, hi, hr, hb', g6⟩ hco
  unfold F12_advance_b8B F12_advance_b45
  have stop : ¬ (i < e ∧ pB T i = true) → wp (F12_advance_b58 N x) fun _ τ' => ME T e (tS T e b) τ' := fun hn => by
    have er : tS T e b = i := by
      unfold tS
      rw [← hr, rn_n hn]
    rw [er]
    exact b58_m hN ht hb' (by omega) g6
  rw [hb'.1, g6]
  by_cases q : e ≤ i
  · rw [if_pos (nI_le q (by omega))]
    exact stop (by omega)
  have hti := ht.2 i (by omega)
  have hch : ch0 T e i = T i := if_pos (by omega)
  have more : pB T i = true → wp (lt (sI x 0 15 (x.1 0 15 + (1 : Int32))) fun t35 => co t35) fun _ τ' => ME T e (tS T e b) τ' := fun hp => by
    rw [lt_e, g6, L_1, nI_add]
    exact hco (m - 1) _ (by omega) ⟨i + 1, by omega, by rw [← hr, rn_y (show i < e by omega) hp], hb'.s (by omega), rI_e rfl rfl⟩
  rw [if_neg (nI_ge (by omega) (by omega)), look_ok ht hb' (by omega), bn_s, hch]
  by_cases q10 : T i = 10
  · rw [q10, if_pos (by rfl)]
    exact more (by unfold pB; rw [q10]; rfl)
  rw [if_neg (by exact fun z => q10 ((nI_eq (b := 10) (by omega) (by omega)).mp z)), g6, look_ok ht hb' (by omega), bn_s, hch]
  by_cases q32 : T i = 32
  · rw [q32, if_neg (by exact fun z => z rfl)]
    exact more (by unfold pB; rw [q32]; rfl)
  rw [if_pos (by exact fun z => q32 ((nI_eq (b := 32) (by omega) (by omega)).mp z))]
  refine stop (fun z => ?_)
  have := z.2
  unfold pB blk at this
  simp [q10, q32] at this
