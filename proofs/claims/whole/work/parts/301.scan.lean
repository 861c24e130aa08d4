/-- the token behind the place b -/
def pB (T : Nat → Nat) (j : Nat) : Bool := blk (T j)
def pL (T : Nat → Nat) (j : Nat) : Bool := ltr (T j)
def pD (T : Nat → Nat) (j : Nat) : Bool := dgt (T j)
def tS (T : Nat → Nat) (e b : Nat) : Nat := rn (pB T) e b
def kdS (T : Nat → Nat) (e s : Nat) : Nat := if e ≤ s then 0 else if ltr (T s) = true then 1 else if dgt (T s) = true then (if rn (pD T) e s - s ≤ 4 then 2 else 4) else if sgb (T s) = true then 3 else 4
def hdS (T : Nat → Nat) (e s : Nat) : Nat := if e ≤ s then s else if ltr (T s) = true then rn (pL T) e s else if dgt (T s) = true then rn (pD T) e s else s + 1
def dv (T : Nat → Nat) (s : Nat) : Nat → Nat
  | 0 => 0
  | i + 1 => dv T s i * 10 + (T (s + i) - 48)
def wvd (T : Nat → Nat) (s : Nat) : Nat → Int
  | 0 => 0
  | i + 1 => if i < 8 then wvd T s i * 32 + ((T (s + i) : Int) - 96) else -1
def vlS (T : Nat → Nat) (e s : Nat) : Nat := dv T s (hdS T e s - s)
def wcS (T : Nat → Nat) (e s : Nat) : Int := wvd T s (hdS T e s - s)
def BB (T : Nat → Nat) (e : Nat) (τ : Ms) : Prop := τ.1 20 4 = nI e ∧ ∀ j, j < e → τ.1 21 j = sb8 (T j)
def TT (T : Nat → Nat) (e : Nat) : Prop := e ≤ 900 ∧ ∀ j, j < e → T j < 256
theorem BB.s {T : Nat → Nat} {e j : Nat} {v : Int32} {τ : Ms} (h : BB T e τ) (hj : j ≠ 4) : BB T e (sI τ 20 j v) := ⟨by rw [rI_j (by omega)]; exact h.1, fun i hi => by rw [rI_k (by omega)]; exact h.2 i hi⟩
theorem charAt_in {T : Nat → Nat} {e p : Nat} {τ : Ms} (ht : TT T e) (h : BB T e τ) (hp : p < e) : F8_charAt (nI p) τ = some (sb8 (T p), τ) := by
  have := ht.1
  unfold F8_charAt
  rw [if_neg (nI_pos (by omega)), h.1, if_neg (nI_ge hp (by omega)), if_neg (by exact nI_ge (b := 900) (by omega) (by omega)), u_ix (show p < 900 by omega) (by omega), ck_t, u_cl (by omega), h.2 p hp]
theorem charAt_end {T : Nat → Nat} {e p : Nat} {τ : Ms} (ht : TT T e) (h : BB T e τ) (hp : e ≤ p) (hp' : p < 2147483648) : F8_charAt (nI p) τ = some ((-1 : Int32), τ) := by
  unfold F8_charAt
  rw [if_neg (nI_pos (by omega)), h.1, if_pos (nI_le hp (by omega))]
theorem dv_lt {T : Nat → Nat} {s : Nat} : ∀ i, i ≤ 4 → (∀ j, j < i → T (s + j) < 256) → dv T s i < 1000000
  | 0, _, _ => (by decide : 0 < 1000000)
  | 1, _, h => by
    have := h 0 (by omega)
    show 0 * 10 + (T (s + 0) - 48) < 1000000
    omega
  | 2, _, h => by
    have := h 0 (by omega)
    have := h 1 (by omega)
    show (0 * 10 + (T (s + 0) - 48)) * 10 + (T (s + 1) - 48) < 1000000
    omega
  | 3, _, h => by
    have := h 0 (by omega)
    have := h 1 (by omega)
    have := h 2 (by omega)
    show ((0 * 10 + (T (s + 0) - 48)) * 10 + (T (s + 1) - 48)) * 10 + (T (s + 2) - 48) < 1000000
    omega
  | 4, _, h => by
    have := h 0 (by omega)
    have := h 1 (by omega)
    have := h 2 (by omega)
    have := h 3 (by omega)
    show (((0 * 10 + (T (s + 0) - 48)) * 10 + (T (s + 1) - 48)) * 10 + (T (s + 2) - 48)) * 10 + (T (s + 3) - 48) < 1000000
    omega
  | i + 5, h, _ => by omega
theorem dgt_r {t : Nat} (h : dgt t = true) : 48 ≤ t ∧ t ≤ 57 := by
  unfold dgt at h
  simp at h
  exact h
theorem ltr_r {t : Nat} (h : ltr t = true) : 97 ≤ t ∧ t ≤ 122 := by
  unfold ltr at h
  simp at h
  exact h
theorem sb8_n {t : Nat} (h : t < 128) : sb8 t = nI t := if_pos h
/-- what the class holds of the token that starts at s -/
def TE (T : Nat → Nat) (e s : Nat) (τ : Ms) : Prop := τ.1 20 5 = nI (kdS T e s) ∧ τ.1 20 6 = nI s ∧ τ.1 20 7 = nI (hdS T e s) ∧ (kdS T e s = 2 → τ.1 20 8 = nI (vlS T e s))
theorem readNumber_c {N e s : Nat} {T : Nat → Nat} {τ : Ms} (hN : 1000 < N) (ht : TT T e) (h : BB T e τ) (hs : s < e) (h6 : τ.1 20 6 = nI s) (h7 : τ.1 20 7 = nI s) (hl : ltr (T s) = false) (hd : dgt (T s) = true) : wp (F8_readNumber N τ) fun _ τ' => TE T e s τ' := by
  have he := ht.1
  have hkd : kdS T e s = if rn (pD T) e s - s ≤ 4 then 2 else 4 := by
    unfold kdS
    rw [if_neg (by omega), hl, if_neg (by decide), if_pos hd]
  have hhd : hdS T e s = rn (pD T) e s := by
    unfold hdS
    rw [if_neg (by omega), hl, if_neg (by decide), if_pos hd]
  unfold F8_readNumber
  rw [lt_e]
  unfold F8_readNumber_b5
  refine wp_fx (fun m x => ∃ i, i + m = e ∧ s ≤ i ∧ rn (pD T) e i = rn (pD T) e s ∧ BB T e x ∧ x.1 20 6 = nI s ∧ x.1 20 7 = nI i ∧ x.1 20 8 = nI (dv T s (min 4 (i - s)))) ?_ (n := e - s) (by omega) ⟨s, by omega, by omega, rfl, h.s (by omega), by rw [rI_j (by omega)]; exact h6, by rw [rI_j (by omega)]; exact h7, by rw [rI_e rfl rfl, Nat.sub_self]; rfl⟩
  rintro m co x ⟨i, hi, hsi, hr, hb, g6, g7, g8⟩ hco
  unfold F8_readNumber_b5B F8_readNumber_b66
  have stop : ¬ (i < e ∧ pD T i = true) → wp (F8_readNumber_b79 N x) fun _ τ' => TE T e s τ' := fun hn => by
    have er : rn (pD T) e s = i := by rw [← hr, rn_n hn]
    unfold F8_readNumber_b79 TE
    rw [g6, g7, u_sub hsi, hkd, hhd, er, show (4 : Int32) = nI 4 from rfl]
    by_cases q : i - s ≤ 4
    · rw [if_neg (nI_nlt q (by omega)), lt_e]
      refine wp_some.mpr ⟨by rw [if_pos q]; exact rI_e rfl rfl, by rw [rI_j (by omega)]; exact g6, by rw [rI_j (by omega)]; exact g7, fun _ => ?_⟩
      unfold vlS
      rw [hhd, er, rI_j (by omega), g8, Nat.min_eq_right q]
    · rw [if_pos (nI_lt (by omega) (by omega)), lt_e]
      refine wp_some.mpr ⟨by rw [if_neg q]; exact rI_e rfl rfl, by rw [rI_j (by omega)]; exact g6, by rw [rI_j (by omega)]; exact g7, fun z => ?_⟩
      rw [if_neg q] at z
      omega
  rw [hb.1, g7]
  by_cases q : e ≤ i
  · rw [if_pos (nI_le q (by omega))]
    exact stop (by omega)
  have hti := ht.2 i (by omega)
  rw [if_neg (nI_ge (by omega) (by omega)), charAt_in ht hb (by omega), bn_s, isDigit_c hti, bn_s]
  cases hp : dgt (T i)
  · rw [if_pos (by rfl)]
    exact stop (fun z => by
      have := z.2
      unfold pD at this
      rw [hp] at this
      cases this)
  have hp2 := dgt_r hp
  have hr' : rn (pD T) e (i + 1) = rn (pD T) e s := by rw [← hr, rn_y (show i < e by omega) hp]
  rw [if_neg (by decide), g7, g6, u_sub hsi, show (4 : Int32) = nI 4 from rfl]
  by_cases q4 : 4 ≤ i - s
  · rw [if_pos (nI_le q4 (by omega)), lt_e, L_1, nI_add]
    refine hco (m - 1) _ (by omega) ⟨i + 1, by omega, by omega, hr', hb.s (by omega), by rw [rI_j (by omega)]; exact g6, rI_e rfl rfl, ?_⟩
    rw [rI_j (by omega), g8, Nat.min_eq_left q4, Nat.min_eq_left (by omega)]
  · rw [if_neg (nI_ge (by omega) (by omega)), charAt_in ht hb (by omega), bn_s, lt_e, lt_e, g8, sb8_n (by omega), rI_j (show 7 ≠ 8 by omega), g7, L_1, nI_add, show (10 : Int32) = nI 10 from rfl, show (48 : Int32) = nI 48 from rfl, nI_mul, nI_add, u_sub (by omega)]
    refine hco (m - 1) _ (by omega) ⟨i + 1, by omega, by omega, hr', (hb.s (by omega)).s (by omega), by rw [rI_j (by omega), rI_j (by omega)]; exact g6, rI_e rfl rfl, ?_⟩
    rw [rI_j (by omega), rI_e rfl rfl, Nat.min_eq_right (show i - s ≤ 4 by omega), Nat.min_eq_right (show i + 1 - s ≤ 4 by omega), show i + 1 - s = (i - s) + 1 by omega]
    show _ = nI (dv T s (i - s) * 10 + (T (s + (i - s)) - 48))
    rw [show s + (i - s) = i by omega, show dv T s (i - s) * 10 + T i - 48 = dv T s (i - s) * 10 + (T i - 48) by omega]
theorem b54_c {N e s : Nat} {T : Nat → Nat} {τ : Ms} (hN : 1000 < N) (ht : TT T e) (h : BB T e τ) (hs : s ≤ e) (h6 : τ.1 20 6 = nI s) : wp (F8_step_b54 N τ) fun _ τ' => TE T e s τ' := by
  have he := ht.1
  unfold F8_step_b54
  rw [lt_e, h6]
  have e6 : (sI τ 20 7 (nI s)).1 20 6 = nI s := by rw [rI_j (by omega)]; exact h6
  have hb : BB T e (sI τ 20 7 (nI s)) := h.s (by omega)
  rw [e6]
  by_cases q : e ≤ s
  · rw [charAt_end ht hb q (by omega), bn_s, e6, hb.1, if_neg (nI_nlt q (by omega)), lt_e]
    refine wp_some.mpr ⟨?_, ?_, ?_, fun z => ?_⟩
    · unfold kdS
      rw [if_pos q, rI_e rfl rfl]
      rfl
    · rw [rI_j (by omega)]; exact e6
    · unfold hdS
      rw [if_pos q, rI_j (by omega), rI_e rfl rfl]
    · unfold kdS at z
      rw [if_pos q] at z
      cases z
  have hti := ht.2 s (by omega)
  rw [charAt_in ht hb (by omega), bn_s, e6, hb.1, if_pos (nI_lt (by omega) (by omega)), isLetter_c hti, bn_s]
  cases hl : ltr (T s)
  rotate_left
  · have hkd : kdS T e s = 1 := by
      unfold kdS
      rw [if_neg q, if_pos hl]
    have hhd : hdS T e s = rn (pL T) e s := by
      unfold hdS
      rw [if_neg q, if_pos hl]
    rw [if_neg (by decide), lt_e]
    unfold F8_step_b102
    refine wp_fx (fun m x => ∃ i, i + m = e ∧ s ≤ i ∧ rn (pL T) e i = rn (pL T) e s ∧ BB T e x ∧ x.1 20 5 = nI 1 ∧ x.1 20 6 = nI s ∧ x.1 20 7 = nI i) ?_ (n := e - s) (by omega) ⟨s, by omega, by omega, rfl, hb.s (by omega), rI_e rfl rfl, by rw [rI_j (by omega)]; exact e6, by rw [rI_j (by omega), rI_e rfl rfl]⟩
    rintro m co x ⟨i, hi, hsi, hr, hb', g5, g6, g7⟩ hco
    unfold F8_step_b102B
    have stop : ¬ (i < e ∧ pL T i = true) → wp (some ((), x)) fun _ τ' => TE T e s τ' := fun hn => by
      have er : rn (pL T) e s = i := by rw [← hr, rn_n hn]
      refine wp_some.mpr ⟨by rw [hkd]; exact g5, g6, by rw [hhd, er]; exact g7, fun z => ?_⟩
      rw [hkd] at z
      cases z
    rw [hb'.1, g7]
    by_cases q : e ≤ i
    · rw [if_pos (nI_le q (by omega))]
      exact stop (by omega)
    have hti' := ht.2 i (by omega)
    rw [if_neg (nI_ge (by omega) (by omega)), charAt_in ht hb' (by omega), bn_s, isLetter_c hti', bn_s]
    cases hp : ltr (T i)
    · rw [if_pos (by rfl)]
      exact stop (fun z => by
        have := z.2
        unfold pL at this
        rw [hp] at this
        cases this)
    rw [if_neg (by decide), lt_e, g7, L_1, nI_add]
    exact hco (m - 1) _ (by omega) ⟨i + 1, by omega, by omega, by rw [← hr, rn_y (show i < e by omega) hp], hb'.s (by omega), by rw [rI_j (by omega)]; exact g5, by rw [rI_j (by omega)]; exact g6, rI_e rfl rfl⟩
  rw [if_pos (by rfl), isDigit_c hti, bn_s]
  cases hd : dgt (T s)
  rotate_left
  · rw [if_neg (by decide)]
    refine wp_bn.mpr (wp_mono (readNumber_c hN ht hb (by omega) e6 (rI_e rfl rfl) hl hd) ?_)
    intro _ t h
    exact wp_some.mpr h
  rw [if_pos (by rfl), isSign_c hti, bn_s]
  have hhd : hdS T e s = s + 1 := by
    unfold hdS
    rw [if_neg q, hl, if_neg (by decide), hd, if_neg (by decide)]
  have hkd : kdS T e s = if sgb (T s) = true then 3 else 4 := by
    unfold kdS
    rw [if_neg q, hl, if_neg (by decide), hd, if_neg (by decide)]
  unfold F8_step_b167
  have fin2 : ∀ k : Nat, k = kdS T e s → k ≠ 2 → wp (lt (sI (sI τ 20 7 (nI s)) 20 5 (nI k)) fun t1 => lt (sI t1 20 7 (t1.1 20 7 + (1 : Int32))) fun t2 => some ((), t2)) fun _ τ' => TE T e s τ' := fun k hk h2 => by
    rw [lt_e, lt_e, rI_j (show 7 ≠ 5 by omega), rI_e (σ := τ) (k := 20) (j := 7) rfl rfl, L_1, nI_add]
    refine wp_some.mpr ⟨?_, ?_, ?_, fun z => absurd (hk.trans z) h2⟩
    · rw [rI_j (by omega), rI_e rfl rfl, hk]
    · rw [rI_j (by omega), rI_j (by omega)]; exact e6
    · rw [rI_e rfl rfl, hhd]
  cases hg : sgb (T s)
  · rw [if_pos (by rfl)]
    exact fin2 4 (by rw [hkd, hg]; rfl) (by decide)
  · rw [if_neg (by decide)]
    exact fin2 3 (by rw [hkd, hg]; rfl) (by decide)
theorem step_c {N e b : Nat} {T : Nat → Nat} {τ : Ms} (hN : 1000 < N) (ht : TT T e) (h : BB T e τ) (hb : b ≤ e) (h2 : τ.1 20 2 = nI 0) (h7 : τ.1 20 7 = nI b) : wp (F8_step N τ) fun _ τ' => TE T e (tS T e b) τ' ∧ Fr W8_step τ τ' := by
  have he := ht.1
  refine wp_fr ?_ (fr_F8_step N τ)
  unfold F8_step
  rw [h2, if_pos (by rfl), lt_e, h7]
  unfold F8_step_b16
  refine wp_fx (fun m x => ∃ i, i + m = e ∧ rn (pB T) e i = rn (pB T) e b ∧ BB T e x ∧ x.1 20 6 = nI i) ?_ (n := e - b) (by omega) ⟨b, by omega, rfl, h.s (by omega), rI_e rfl rfl⟩
  rintro m co x ⟨i, hi, hr, hb', g6⟩ hco
  unfold F8_step_b16B
  have stop : ¬ (i < e ∧ pB T i = true) → wp (F8_step_b54 N x) fun _ τ' => TE T e (tS T e b) τ' := fun hn => by
    have er : tS T e b = i := by
      unfold tS
      rw [← hr, rn_n hn]
    rw [er]
    exact b54_c hN ht hb' (by omega) g6
  rw [hb'.1, g6]
  by_cases q : e ≤ i
  · rw [if_pos (nI_le q (by omega))]
    exact stop (by omega)
  have hti := ht.2 i (by omega)
  rw [if_neg (nI_ge (by omega) (by omega)), charAt_in ht hb' (by omega), bn_s, isBlank_c hti, bn_s]
  cases hp : blk (T i)
  · rw [if_pos (by rfl)]
    exact stop (fun z => by
      have := z.2
      unfold pB at this
      rw [hp] at this
      cases this)
  rw [if_neg (by decide), lt_e, g6, L_1, nI_add]
  exact hco (m - 1) _ (by omega) ⟨i + 1, by omega, by rw [← hr, rn_y (show i < e by omega) hp], hb'.s (by omega), rI_e rfl rfl⟩
