/-- the words of the texts -/
def strW (i j : Nat) : Nat := ((strB.getD i []).getD j 0).toNatClampNeg
def strZ (i : Nat) : Nat := strN.getD i 0
def wdc (i : Nat) : Int := wvd (strW i) 0 (strZ i)
def isWd (T : Nat → Nat) (e s i : Nat) : Bool := decide (kdS T e s = 1) && decide (wcS T e s = wdc i)
theorem str_l : ∀ i, i < 22 → strZ i ≤ 8 ∧ 2 ≤ strZ i := by decide
theorem str_w : ∀ i, i < 22 → ∀ j, j < strZ i → 97 ≤ strW i j ∧ strW i j ≤ 122 := by decide
theorem str_c : ∀ i, i < 22 → ∀ j, j < strZ i → ((((strB.getD i []).getD j 0) &&& (255 : Int32)).toUInt32 % 65536).toInt32 = nI (strW i j) ∧ nkC (nI (strW i j)) = true := by decide +kernel
theorem strlen_ok (i : Nat) (σ : Ms) : FJ0_length_8abf5 i σ = some (nI (strZ i), σ) := by
  unfold FJ0_length_8abf5 FJ0_coder_7d493
  rw [if_neg (by decide), show nkY (0 : Int32) = true by decide, ck_t, bn_s]
  have : ∀ x : Int32, x >>> ((0 : Int32) &&& 31) = x := fun x => by
    apply Int32.toBitVec_inj.mp
    rw [Int32.toBitVec_shiftRight]
    show x.toBitVec.sshiftRight (((0 : Int32) &&& 31).toBitVec.smod 32).toNat = x.toBitVec
    rw [show (((0 : Int32) &&& 31).toBitVec.smod 32).toNat = 0 by decide]
    simp
  rw [this]
  rfl
theorem strchar_ok {i j : Nat} (hi : i < 22) (hj : j < strZ i) (σ : Ms) : FJ0_charAt_5068e i (nI j) σ = some (nI (strW i j), σ) := by
  obtain ⟨h1, h2⟩ := str_c i hi j hj
  have hl := (str_l i hi).1
  have hl' : strN.getD i 0 = strZ i := rfl
  unfold FJ0_charAt_5068e FJ0_isLatin1_aae02 FJ1_charAt_3b067 FJ0_checkIndex_df160 FJ3_checkIndex_8e157
  rw [if_neg (by decide), if_neg (by decide), bn_s, if_neg (by decide), if_neg (nI_pos (by omega)), hl', if_pos (nI_lt hj (by omega)), bn_s, bn_s, u_ix hj (by omega), ck_t, u_cl (by omega), h1, h2, ck_t, bn_s, h2, ck_t]
theorem wvd_b {T : Nat → Nat} {s : Nat} : ∀ n, n ≤ 8 → (∀ j, j < n → 97 ≤ T (s + j) ∧ T (s + j) ≤ 122) → 0 ≤ wvd T s n ∧ wvd T s n < (32 ^ n : Nat)
  | 0, _, _ => by
    show 0 ≤ (0 : Int) ∧ (0 : Int) < ((32 ^ 0 : Nat) : Int)
    decide
  | n + 1, h, hl => by
    have ih := wvd_b n (by omega) fun j hj => hl j (by omega)
    have hd := hl n (by omega)
    have e : wvd T s (n + 1) = wvd T s n * 32 + ((T (s + n) : Int) - 96) := by
      show (if n < 8 then wvd T s n * 32 + ((T (s + n) : Int) - 96) else -1) = _
      rw [if_pos (by omega)]
    rw [e, Nat.pow_succ]
    omega
theorem wvd_eq {T W : Nat → Nat} {s r : Nat} : ∀ n l, n ≤ 8 → l ≤ 8 → (∀ j, j < n → 97 ≤ T (s + j) ∧ T (s + j) ≤ 122) → (∀ j, j < l → 97 ≤ W (r + j) ∧ W (r + j) ≤ 122) → (wvd T s n = wvd W r l ↔ n = l ∧ ∀ j, j < n → T (s + j) = W (r + j))
  | 0, 0, _, _, _, _ => ⟨fun _ => ⟨rfl, fun j hj => absurd hj (Nat.not_lt_zero j)⟩, fun _ => rfl⟩
  | 0, l + 1, _, hl, _, hW => by
    have ih := wvd_b (T := W) (s := r) l (by omega) fun j hj => hW j (by omega)
    have hd := hW l (by omega)
    have e : wvd W r (l + 1) = wvd W r l * 32 + ((W (r + l) : Int) - 96) := by
      show (if l < 8 then wvd W r l * 32 + ((W (r + l) : Int) - 96) else -1) = _
      rw [if_pos (by omega)]
    have e0 : wvd T s 0 = 0 := rfl
    rw [e, e0]
    omega
  | n + 1, 0, hn, _, hT, _ => by
    have ih := wvd_b (T := T) (s := s) n (by omega) fun j hj => hT j (by omega)
    have hd := hT n (by omega)
    have e : wvd T s (n + 1) = wvd T s n * 32 + ((T (s + n) : Int) - 96) := by
      show (if n < 8 then wvd T s n * 32 + ((T (s + n) : Int) - 96) else -1) = _
      rw [if_pos (by omega)]
    have e0 : wvd W r 0 = 0 := rfl
    rw [e, e0]
    omega
  | n + 1, l + 1, hn, hl, hT, hW => by
    have ih := wvd_eq (T := T) (W := W) (s := s) (r := r) n l (by omega) (by omega) (fun j hj => hT j (by omega)) (fun j hj => hW j (by omega))
    have hd := hT n (by omega)
    have hd' := hW l (by omega)
    have e : wvd T s (n + 1) = wvd T s n * 32 + ((T (s + n) : Int) - 96) := by
      show (if n < 8 then wvd T s n * 32 + ((T (s + n) : Int) - 96) else -1) = _
      rw [if_pos (by omega)]
    have e' : wvd W r (l + 1) = wvd W r l * 32 + ((W (r + l) : Int) - 96) := by
      show (if l < 8 then wvd W r l * 32 + ((W (r + l) : Int) - 96) else -1) = _
      rw [if_pos (by omega)]
    rw [e, e']
    constructor
    · intro h
      have h1 : wvd T s n = wvd W r l := by omega
      have h2 : T (s + n) = W (r + l) := by omega
      obtain ⟨rfl, h3⟩ := ih.mp h1
      refine ⟨rfl, fun j hj => ?_⟩
      by_cases q : j = n
      · rw [q]; exact h2
      · exact h3 j (by omega)
    · rintro ⟨h1, h2⟩
      have h3 : n = l := by omega
      subst h3
      rw [ih.mpr ⟨rfl, fun j hj => h2 j (by omega)⟩, h2 n (by omega)]
theorem hd_word {T : Nat → Nat} {e s : Nat} (h : kdS T e s = 1) : s < e ∧ hdS T e s = rn (pL T) e s ∧ s ≤ hdS T e s ∧ hdS T e s ≤ e ∧ ∀ j, j < hdS T e s - s → 97 ≤ T (s + j) ∧ T (s + j) ≤ 122 := by
  unfold kdS at h
  by_cases q : e ≤ s
  · rw [if_pos q] at h; cases h
  rw [if_neg q] at h
  cases hl : ltr (T s)
  · rw [hl, if_neg (by decide)] at h
    split at h
    · split at h <;> cases h
    · split at h <;> cases h
  have hh : hdS T e s = rn (pL T) e s := by
    unfold hdS
    rw [if_neg q, if_pos hl]
  refine ⟨by omega, hh, by rw [hh]; exact rn_ge _ _ _, by rw [hh]; exact rn_le (by omega), fun j hj => ?_⟩
  exact ltr_r (rn_all (p := pL T) (e := e) (b := s) (by omega) (by omega))
theorem wvd_m {T : Nat → Nat} {s n : Nat} (h : 8 < n) : wvd T s n = -1 := by
  obtain ⟨k, rfl⟩ : ∃ k, n = k + 1 := ⟨n - 1, by omega⟩
  show (if k < 8 then wvd T s k * 32 + ((T (s + k) : Int) - 96) else -1) = -1
  rw [if_neg (by omega)]
theorem wdc_eq {T : Nat → Nat} {e s i : Nat} (hi : i < 22) (h : kdS T e s = 1) : wcS T e s = wdc i ↔ hdS T e s - s = strZ i ∧ ∀ j, j < strZ i → T (s + j) = strW i j := by
  obtain ⟨h1, h2, h3, h4, h5⟩ := hd_word h
  have hl := (str_l i hi).1
  have hW : ∀ j, j < strZ i → 97 ≤ strW i (0 + j) ∧ strW i (0 + j) ≤ 122 := fun j hj => by
    rw [Nat.zero_add]
    exact str_w i hi j hj
  unfold wcS wdc
  by_cases q : hdS T e s - s ≤ 8
  · rw [wvd_eq _ _ q hl h5 hW]
    constructor
    · rintro ⟨a, b⟩
      refine ⟨a, fun j hj => ?_⟩
      have := b j (by omega)
      rwa [Nat.zero_add] at this
    · rintro ⟨a, b⟩
      refine ⟨a, fun j hj => ?_⟩
      rw [Nat.zero_add]
      exact b j (by omega)
  · have := (wvd_b (T := strW i) (s := 0) (strZ i) hl hW).1
    rw [wvd_m (by omega)]
    constructor
    · intro z; omega
    · rintro ⟨a, -⟩; omega
theorem isWord_c {N e s i : Nat} {T : Nat → Nat} {τ : Ms} (hN : 1000 < N) (ht : TT T e) (h : BB T e τ) (hx : TE T e s τ) (hi : i < 22) : F8_isWord N i τ = some (bI (isWd T e s i), τ) := by
  have he := ht.1
  refine wp_eq ?_
  unfold F8_isWord isWd
  rw [hx.1]
  by_cases hk : kdS T e s = 1
  rotate_left
  · have hk5 : kdS T e s < 5 := by
      unfold kdS
      repeat' split
      all_goals omega
    rw [if_pos (by exact fun z => hk ((nI_eq (b := 1) (by omega) (by omega)).mp z)), decide_eq_false hk]
    exact wp_some.mpr ⟨rfl, rfl⟩
  obtain ⟨g1, g2, g3, g4, g5⟩ := hd_word hk
  have hl := (str_l i hi).1
  rw [hk, if_neg (by exact fun z => z rfl), strlen_ok, bn_s, hx.2.1, hx.2.2.1, u_sub g3, decide_eq_true rfl, Bool.true_and]
  by_cases q : hdS T e s - s = strZ i
  rotate_left
  · rw [if_neg (by exact fun z => q ((nI_eq (by omega) (by omega)).mp z)), decide_eq_false (fun z => q ((wdc_eq hi hk).mp z).1)]
    exact wp_some.mpr ⟨rfl, rfl⟩
  rw [if_pos (by rw [q])]
  unfold F8_isWord_b28
  refine wp_fx (fun m x => ∃ j, j + m = strZ i ∧ x = (nI j, τ) ∧ ∀ a, a < j → T (s + a) = strW i a) ?_ (n := strZ i) (by omega) ⟨0, by omega, rfl, fun a ha => absurd ha (Nat.not_lt_zero a)⟩
  rintro m co _ ⟨j, hj, rfl, hall⟩ hco
  try dsimp only
  unfold F8_isWord_b28B
  rw [strlen_ok, bn_s]
  by_cases q2 : strZ i ≤ j
  · rw [if_pos (nI_le q2 (by omega)), decide_eq_true ((wdc_eq hi hk).mpr ⟨q, fun a ha => hall a (by omega)⟩)]
    exact wp_some.mpr ⟨rfl, rfl⟩
  have hw := str_w i hi j (by omega)
  have hti := ht.2 (s + j) (by omega)
  rw [if_neg (nI_ge (by omega) (by omega)), hx.2.1, nI_add, charAt_in ht h (by omega), bn_s, strchar_ok hi (by omega), bn_s]
  have hj5 := g5 j (by omega)
  rw [sb8_n (by omega)]
  by_cases q3 : T (s + j) = strW i j
  · rw [if_pos (by rw [q3]), L_1, nI_add]
    exact hco (m - 1) _ (by omega) ⟨j + 1, by omega, rfl, fun a ha => by
      by_cases z : a = j
      · rw [z]; exact q3
      · exact hall a (by omega)⟩
  · rw [if_neg (by exact fun z => q3 ((nI_eq (by omega) (by omega)).mp z)), decide_eq_false (fun z => q3 (((wdc_eq hi hk).mp z).2 j (by omega)))]
    exact wp_some.mpr ⟨rfl, rfl⟩
/-- the model's words -/
theorem wcS_b {T : Nat → Nat} {e s : Nat} (h : kdS T e s = 1) : -1 ≤ wcS T e s ∧ wcS T e s < 2 ^ 40 := by
  obtain ⟨h1, h2, h3, h4, h5⟩ := hd_word h
  unfold wcS
  by_cases q : hdS T e s - s ≤ 8
  · have hb := wvd_b _ q h5
    have hp : 32 ^ (hdS T e s - s) ≤ 32 ^ 8 := Nat.pow_le_pow_right (by decide) q
    have : (32 ^ 8 : Nat) = 2 ^ 40 := by decide
    omega
  · rw [wvd_m (by omega)]
    omega
theorem wdc_b : ∀ i, i < 22 → 0 ≤ wdc i ∧ wdc i < 2 ^ 40 := by decide +kernel
theorem isWord_m {e s i : Nat} {T : Nat → Nat} {τ : Ms} (hx : ME T e s τ) (hi : i < 22) : F12_isWord (zL (wdc i)) τ = some (bI (isWd T e s i), τ) := by
  unfold F12_isWord isWd
  rw [hx.1]
  by_cases hk : kdS T e s = 1
  rotate_left
  · have hk5 : kdS T e s < 5 := by
      unfold kdS
      repeat' split
      all_goals omega
    rw [if_pos (by exact fun z => hk ((nI_eq (b := 1) (by omega) (by omega)).mp z)), decide_eq_false hk]
    rfl
  have h1 := wcS_b hk
  have h2 := wdc_b i hi
  rw [hk, if_neg (by exact fun z => z rfl), hx.2.2.2.2.2 hk, decide_eq_true rfl, Bool.true_and]
  by_cases q : wcS T e s = wdc i
  · rw [if_neg (fun z => z ((zL_eq (by omega) (by omega)).mpr q)), decide_eq_true q]
    rfl
  · rw [if_pos (fun z => q ((zL_eq (by omega) (by omega)).mp z)), decide_eq_false q]
    rfl
def spz (a b c d e f : Nat) : Int :=
  let w := ((a : Int) - 96) * 32 + (b : Int) - 96
  let w := if c = 0 then w else w * 32 + (c : Int) - 96
  let w := if d = 0 then w else w * 32 + (d : Int) - 96
  let w := if e = 0 then w else w * 32 + (e : Int) - 96
  if f = 0 then w else w * 32 + (f : Int) - 96
theorem sp91 {f : Nat} {z : Int} (hf : f < 128) (σ : Ms) : F12_spelled_b91 (nI f) (zL z) σ = some (zL (if f = 0 then z else z * 32 + (f : Int) - 96), σ) := by
  unfold F12_spelled_b91
  by_cases q : f = 0
  · subst q
    rw [if_pos (by decide), if_pos (by rfl)]
  · rw [if_neg (by exact nI_ge (a := 0) (by omega) (by omega)), if_neg q, nI_zL (by omega), show (32 : Int64) = zL 32 by decide, show (96 : Int64) = zL 96 by decide, zL_mul, zL_add, zL_sub]
theorem sp65 {e f : Nat} {z : Int} (he : e < 128) (hf : f < 128) (σ : Ms) : F12_spelled_b65 (nI e) (nI f) (zL z) σ = some (zL (if f = 0 then (if e = 0 then z else z * 32 + (e : Int) - 96) else (if e = 0 then z else z * 32 + (e : Int) - 96) * 32 + (f : Int) - 96), σ) := by
  unfold F12_spelled_b65
  by_cases q : e = 0
  · subst q
    rw [if_pos (by decide), sp91 hf]
    rfl
  · rw [if_neg (by exact nI_ge (a := 0) (by omega) (by omega)), nI_zL (by omega), show (32 : Int64) = zL 32 by decide, show (96 : Int64) = zL 96 by decide, zL_mul, zL_add, zL_sub, sp91 hf, if_neg q]
theorem sp41 {d e f : Nat} {z : Int} (hd : d < 128) (he : e < 128) (hf : f < 128) (σ : Ms) : F12_spelled_b41 (nI d) (nI e) (nI f) (zL z) σ = some (zL (if f = 0 then (if e = 0 then (if d = 0 then z else z * 32 + (d : Int) - 96) else (if d = 0 then z else z * 32 + (d : Int) - 96) * 32 + (e : Int) - 96) else (if e = 0 then (if d = 0 then z else z * 32 + (d : Int) - 96) else (if d = 0 then z else z * 32 + (d : Int) - 96) * 32 + (e : Int) - 96) * 32 + (f : Int) - 96), σ) := by
  unfold F12_spelled_b41
  by_cases q : d = 0
  · subst q
    rw [if_pos (by decide), sp65 he hf]
    rfl
  · rw [if_neg (by exact nI_ge (a := 0) (by omega) (by omega)), nI_zL (by omega), show (32 : Int64) = zL 32 by decide, show (96 : Int64) = zL 96 by decide, zL_mul, zL_add, zL_sub, sp65 he hf, if_neg q]
theorem spelled_ok {a b c d e f : Nat} (ha : a < 128) (hb : b < 128) (hc : c < 128) (hd : d < 128) (he : e < 128) (hf : f < 128) (σ : Ms) : F12_spelled (nI a) (nI b) (nI c) (nI d) (nI e) (nI f) σ = some (zL (spz a b c d e f), σ) := by
  unfold F12_spelled spz
  rw [nI_zL (by omega), nI_zL (by omega), show (32 : Int64) = zL 32 by decide, show (96 : Int64) = zL 96 by decide, zL_sub, zL_mul, zL_add, zL_sub, lt_e]
  by_cases q : c = 0
  · subst q
    rw [if_pos (by decide), sp41 hd he hf]
    rfl
  · rw [if_neg (by exact nI_ge (a := 0) (by omega) (by omega)), nI_zL (by omega), zL_mul, zL_add, zL_sub, sp41 hd he hf]
    dsimp only
    rw [if_neg q]
theorem mword {a b c d e' f i : Nat} {A : Type} {K : Int32 → Ms → Option (A × Ms)} {e s : Nat} {T : Nat → Nat} {τ : Ms} (hx : ME T e s τ) (hi : i < 22) (h : a < 128 ∧ b < 128 ∧ c < 128 ∧ d < 128 ∧ e' < 128 ∧ f < 128) (hc : spz a b c d e' f = wdc i) : bn (F12_spelled (nI a) (nI b) (nI c) (nI d) (nI e') (nI f) τ) (fun r1 t2 => bn (F12_isWord r1 t2) K) = K (bI (isWd T e s i)) τ := by
  rw [spelled_ok h.1 h.2.1 h.2.2.1 h.2.2.2.1 h.2.2.2.2.1 h.2.2.2.2.2, bn_s, hc, isWord_m hx hi, bn_s]
theorem isSprig_m {e s : Nat} {T : Nat → Nat} {τ : Ms} (hx : ME T e s τ) : F12_isSprig τ = some (bI (isWd T e s 0), τ) := by
  have := mword (K := fun r3 t4 => ck (nkB r3) (some (r3, t4))) hx (i := 0) (by decide) (a := 115) (b := 112) (c := 114) (d := 105) (e' := 103) (f := 0) (by decide) (by decide +kernel)
  rw [nk_b, ck_t] at this
  exact this
theorem isHeap_m {e s : Nat} {T : Nat → Nat} {τ : Ms} (hx : ME T e s τ) : F12_isHeap τ = some (bI (isWd T e s 1), τ) := by
  have := mword (K := fun r3 t4 => ck (nkB r3) (some (r3, t4))) hx (i := 1) (by decide) (a := 104) (b := 101) (c := 97) (d := 112) (e' := 0) (f := 0) (by decide) (by decide +kernel)
  rw [nk_b, ck_t] at this
  exact this
theorem isBet_m {e s : Nat} {T : Nat → Nat} {τ : Ms} (hx : ME T e s τ) : F12_isBet τ = some (bI (isWd T e s 2), τ) := by
  have := mword (K := fun r3 t4 => ck (nkB r3) (some (r3, t4))) hx (i := 2) (by decide) (a := 98) (b := 101) (c := 116) (d := 0) (e' := 0) (f := 0) (by decide) (by decide +kernel)
  rw [nk_b, ck_t] at this
  exact this
theorem isOn_m {e s : Nat} {T : Nat → Nat} {τ : Ms} (hx : ME T e s τ) : F12_isOn τ = some (bI (isWd T e s 3), τ) := by
  have := mword (K := fun r3 t4 => ck (nkB r3) (some (r3, t4))) hx (i := 3) (by decide) (a := 111) (b := 110) (c := 0) (d := 0) (e' := 0) (f := 0) (by decide) (by decide +kernel)
  rw [nk_b, ck_t] at this
  exact this
theorem isEnd_m {e s : Nat} {T : Nat → Nat} {τ : Ms} (hx : ME T e s τ) : F12_isEnd τ = some (bI (isWd T e s 9), τ) := by
  have := mword (K := fun r3 t4 => ck (nkB r3) (some (r3, t4))) hx (i := 9) (by decide) (a := 101) (b := 110) (c := 100) (d := 0) (e' := 0) (f := 0) (by decide) (by decide +kernel)
  rw [nk_b, ck_t] at this
  exact this
/-- which word of a row stands here: i0 + k, or none (m) -/
def wich (T : Nat → Nat) (e s i : Nat) : Nat → Nat → Nat
  | 0, k => k
  | m + 1, k => if isWd T e s (i + k) = true then k else wich T e s i m (k + 1)
def wI (m k : Nat) : Int32 := if k = m then -nI 1 else nI k
theorem wich_le {T : Nat → Nat} {e s i : Nat} : ∀ m k, k ≤ wich T e s i m k ∧ wich T e s i m k ≤ m + k
  | 0, k => ⟨Nat.le_refl k, by show k ≤ 0 + k; omega⟩
  | m + 1, k => by
    unfold wich
    split
    · omega
    · have := wich_le (T := T) (e := e) (s := s) (i := i) m (k + 1)
      omega
theorem wich_d {T : Nat → Nat} {e s i : Nat} (h : kdS T e s ≠ 1) : ∀ m k, wich T e s i m k = m + k
  | 0, k => (Nat.zero_add k).symm
  | m + 1, k => by
    unfold wich
    have : isWd T e s (i + k) = false := by
      unfold isWd
      rw [decide_eq_false h]
      rfl
    rw [this, if_neg (by decide), wich_d h m (k + 1)]
    omega
theorem colour_m {e s : Nat} {T : Nat → Nat} {τ : Ms} (hx : ME T e s τ) : F12_colourWord τ = some (wI 3 (wich T e s 4 3 0), τ) := by
  unfold F12_colourWord
  have h4 := fun K => mword (A := Int32) (K := K) hx (i := 4) (by decide) (a := 98) (b := 108) (c := 117) (d := 101) (e' := 0) (f := 0) (by decide) (by decide +kernel)
  have h5 := fun K => mword (A := Int32) (K := K) hx (i := 5) (by decide) (a := 114) (b := 101) (c := 100) (d := 0) (e' := 0) (f := 0) (by decide) (by decide +kernel)
  have h6 := fun K => mword (A := Int32) (K := K) hx (i := 6) (by decide) (a := 103) (b := 114) (c := 101) (d := 101) (e' := 110) (f := 0) (by decide) (by decide +kernel)
  refine (h4 _).trans ?_
  unfold wich wich wich wich
  dsimp only [Nat.add_zero, Nat.reduceAdd]
  cases isWd T e s 4
  rotate_left
  · rfl
  rw [if_pos (by rfl), if_neg (by decide)]
  refine (h5 _).trans ?_
  try dsimp only
  cases isWd T e s 5
  rotate_left
  · rfl
  rw [if_pos (by rfl), if_neg (by decide)]
  refine (h6 _).trans ?_
  try dsimp only
  cases isWd T e s 6 <;> rfl
theorem side_m {e s : Nat} {T : Nat → Nat} {τ : Ms} (hx : ME T e s τ) : F12_sideWord τ = some (wI 2 (wich T e s 7 2 0), τ) := by
  unfold F12_sideWord
  have h4 := fun K => mword (A := Int32) (K := K) hx (i := 7) (by decide) (a := 108) (b := 101) (c := 102) (d := 116) (e' := 0) (f := 0) (by decide) (by decide +kernel)
  have h5 := fun K => mword (A := Int32) (K := K) hx (i := 8) (by decide) (a := 114) (b := 105) (c := 103) (d := 104) (e' := 116) (f := 0) (by decide) (by decide +kernel)
  refine (h4 _).trans ?_
  unfold wich wich wich
  dsimp only [Nat.add_zero, Nat.reduceAdd]
  cases isWd T e s 7
  rotate_left
  · rfl
  rw [if_pos (by rfl), if_neg (by decide)]
  refine (h5 _).trans ?_
  try dsimp only
  cases isWd T e s 8 <;> rfl
