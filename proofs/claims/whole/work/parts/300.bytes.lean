/-- a byte, as the class has it -/
def sb8 (t : Nat) : Int32 := if t < 128 then nI t else -(nI (256 - t))
theorem byte_c : ∀ k, k < 256 → (Int8.ofNat k).toInt32 = sb8 k ∧ (Int8.ofNat k).toInt32 &&& 255 = nI k := by decide +kernel
theorem byte_ok {x : Int32} (h : x.toInt8.toInt32 = x) : ∃ t, t < 256 ∧ x = sb8 t ∧ x &&& 255 = nI t := by
  have e : Int8.ofNat x.toInt8.toBitVec.toNat = x.toInt8 := by
    apply Int8.toBitVec_inj.mp
    show BitVec.ofNat 8 x.toInt8.toBitVec.toNat = x.toInt8.toBitVec
    simp
  have hk : x.toInt8.toBitVec.toNat < 256 := x.toInt8.toBitVec.isLt
  obtain ⟨h1, h2⟩ := byte_c _ hk
  rw [e, h] at h1 h2
  exact ⟨_, hk, h1, h2⟩
def I_byte (σ : Ms) : Prop := ∀ j, j < 900 → (σ.1 21 j).toInt8.toInt32 = σ.1 21 j
theorem i8_i8 (y : Int8) : y.toInt32.toInt8.toInt32 = y.toInt32 := by rw [Int8.toInt8_toInt32]
/-- the text, as numbers from 0 to 255 -/
def tT (σ : Ms) (j : Nat) : Nat := (σ.1 21 j &&& 255).toNatClampNeg
theorem tT_ok {σ : Ms} (hb : I_byte σ) {j : Nat} (hj : j < 900) : tT σ j < 256 ∧ σ.1 21 j = sb8 (tT σ j) ∧ σ.1 21 j &&& 255 = nI (tT σ j) := by
  obtain ⟨t, ht, h1, h2⟩ := byte_ok (hb j hj)
  have : tT σ j = t := by
    unfold tT
    rw [h2, u_cl (by omega)]
  rw [this]
  exact ⟨ht, h1, h2⟩
theorem wp_and {A : Type} {o : Option (A × Ms)} {P Q : A → Ms → Prop} (h : wp o P) (h' : wp o Q) : wp o fun r τ => P r τ ∧ Q r τ := by
  obtain ⟨r, τ, e, p⟩ := h
  obtain ⟨r', τ', e', p'⟩ := h'
  rw [e] at e'
  cases e'
  exact ⟨r, τ, e, p, p'⟩
theorem k_byte (N : Nat) (hN : 4 < N) (p0 p1 p2 p3 p4 : Int32) (σ : Ms) (hI : I_tape σ) (hb : I_byte σ) : wp (F11_feed N p0 p1 p2 p3 p4 σ) fun _ t => I_byte t := by
  obtain ⟨⟨n, hn, e1, e2⟩, ht⟩ := hI
  by_cases h : n + 20 ≤ 900
  · refine wp_mono (feed11 N hN h p0 p1 p2 p3 p4 σ e1) ?_
    rintro r τ ⟨-, h1⟩
    intro j hj
    rw [h1.2]
    split
    · exact i8_i8 _
    · rw [if_neg (by omega)]
      exact hb j hj
  · unfold F11_feed F8_hasRoom
    have e9 : (900 : Int32) - 20 = nI 880 := by decide +kernel
    have e10 : nI 880 < nI n := nI_lt (by omega) (by omega)
    rw [e1, e9, if_pos e10, bn_s, if_neg (by decide)]
    exact wp_some.mpr hb
theorem I0_byte : I_byte σ0 := fun _ _ => by
  show (0 : Int32).toInt8.toInt32 = 0
  decide
/-- kinds of bytes -/
def blk (t : Nat) : Bool := t == 10 || t == 32
def ltr (t : Nat) : Bool := decide (97 ≤ t) && decide (t ≤ 122)
def dgt (t : Nat) : Bool := decide (48 ≤ t) && decide (t ≤ 57)
def sgb (t : Nat) : Bool := t == 59 || t == 60 || t == 62 || t == 61
theorem c_blk : ∀ t, t < 256 → (if sb8 t = (10 : Int32) then (1 : Int32) else if sb8 t ≠ (32 : Int32) then (0 : Int32) else (1 : Int32)) = bI (blk t) := by decide +kernel
theorem c_ltr : ∀ t, t < 256 → (if sb8 t < (97 : Int32) then (0 : Int32) else if (122 : Int32) < sb8 t then (0 : Int32) else (1 : Int32)) = bI (ltr t) := by decide +kernel
theorem c_dgt : ∀ t, t < 256 → (if sb8 t < (48 : Int32) then (0 : Int32) else if (57 : Int32) < sb8 t then (0 : Int32) else (1 : Int32)) = bI (dgt t) := by decide +kernel
theorem c_sgb : ∀ t, t < 256 → (if sb8 t = (59 : Int32) then (1 : Int32) else if sb8 t = (60 : Int32) then (1 : Int32) else if sb8 t = (62 : Int32) then (1 : Int32) else if sb8 t ≠ (61 : Int32) then (0 : Int32) else (1 : Int32)) = bI (sgb t) := by decide +kernel
theorem m_ltr : ∀ t, t < 256 → (if nI t < (97 : Int32) then (0 : Int32) else if (122 : Int32) < nI t then (0 : Int32) else (1 : Int32)) = bI (ltr t) := by decide +kernel
theorem m_dgt : ∀ t, t < 256 → (if nI t < (48 : Int32) then (0 : Int32) else if (57 : Int32) < nI t then (0 : Int32) else (1 : Int32)) = bI (dgt t) := by decide +kernel
theorem m_sgb : ∀ t, t < 256 → (if nI t = (59 : Int32) then (1 : Int32) else if nI t = (60 : Int32) then (1 : Int32) else if nI t = (62 : Int32) then (1 : Int32) else if nI t ≠ (61 : Int32) then (0 : Int32) else (1 : Int32)) = bI (sgb t) := by decide +kernel
theorem sm {p : Prop} [Decidable p] {a b : Int32} {σ : Ms} : (if p then some (a, σ) else some (b, σ)) = some (if p then a else b, σ) := by split <;> rfl
theorem isBlank_c {t : Nat} (h : t < 256) (σ : Ms) : F8_isBlank (sb8 t) σ = some (bI (blk t), σ) := by
  unfold F8_isBlank F8_isBlank_b12
  rw [sm, sm, c_blk t h]
theorem isLetter_c {t : Nat} (h : t < 256) (σ : Ms) : F8_isLetter (sb8 t) σ = some (bI (ltr t), σ) := by
  unfold F8_isLetter
  rw [sm, sm, c_ltr t h]
theorem isDigit_c {t : Nat} (h : t < 256) (σ : Ms) : F8_isDigit (sb8 t) σ = some (bI (dgt t), σ) := by
  unfold F8_isDigit
  rw [sm, sm, c_dgt t h]
theorem isSign_c {t : Nat} (h : t < 256) (σ : Ms) : F8_isSign (sb8 t) σ = some (bI (sgb t), σ) := by
  unfold F8_isSign F8_isSign_b24
  rw [sm, sm, sm, sm, c_sgb t h]
theorem isLetter_m {t : Nat} (h : t < 256) (σ : Ms) : F12_isLetter (nI t) σ = some (bI (ltr t), σ) := by
  unfold F12_isLetter
  rw [sm, sm, m_ltr t h]
theorem isDigit_m {t : Nat} (h : t < 256) (σ : Ms) : F12_isDigit (nI t) σ = some (bI (dgt t), σ) := by
  unfold F12_isDigit
  rw [sm, sm, m_dgt t h]
theorem isSign_m {t : Nat} (h : t < 256) (σ : Ms) : F12_isSignByte (nI t) σ = some (bI (sgb t), σ) := by
  unfold F12_isSignByte F12_isSignByte_b24
  rw [sm, sm, sm, sm, m_sgb t h]
/-- how far a kind of byte goes -/
def rgo (p : Nat → Bool) (e : Nat) : Nat → Nat → Nat
  | 0, b => b
  | f + 1, b => if b < e ∧ p b = true then rgo p e f (b + 1) else b
def rn (p : Nat → Bool) (e b : Nat) : Nat := rgo p e (e - b) b
theorem rn_y {p : Nat → Bool} {e b : Nat} (h : b < e) (hp : p b = true) : rn p e b = rn p e (b + 1) := by
  unfold rn
  rw [show e - b = (e - (b + 1)) + 1 by omega]
  exact if_pos ⟨h, hp⟩
theorem rn_n {p : Nat → Bool} {e b : Nat} (h : ¬ (b < e ∧ p b = true)) : rn p e b = b := by
  unfold rn
  cases e - b with
  | zero => rfl
  | succ f => exact if_neg h
theorem rgo_ge (p : Nat → Bool) (e : Nat) : ∀ f b, b ≤ rgo p e f b
  | 0, b => Nat.le_refl b
  | f + 1, b => by
    unfold rgo
    split
    · have := rgo_ge p e f (b + 1)
      omega
    · exact Nat.le_refl b
theorem rn_ge (p : Nat → Bool) (e b : Nat) : b ≤ rn p e b := rgo_ge p e _ b
theorem rgo_le (p : Nat → Bool) (e : Nat) : ∀ f b, b ≤ e → rgo p e f b ≤ e
  | 0, b, h => h
  | f + 1, b, h => by
    unfold rgo
    split
    · next q => exact rgo_le p e f (b + 1) (by omega)
    · exact h
theorem rn_le {p : Nat → Bool} {e b : Nat} (h : b ≤ e) : rn p e b ≤ e := rgo_le p e _ b h
theorem rgo_all (p : Nat → Bool) (e : Nat) : ∀ f b j, b ≤ j → j < rgo p e f b → p j = true
  | 0, b, j, h1, h2 => by
    have : j < b := h2
    omega
  | f + 1, b, j, h1, h2 => by
    unfold rgo at h2
    split at h2
    · next q =>
      by_cases z : j = b
      · rw [z]
        exact q.2
      · exact rgo_all p e f (b + 1) j (by omega) h2
    · omega
theorem rn_all {p : Nat → Bool} {e b j : Nat} (h1 : b ≤ j) (h2 : j < rn p e b) : p j = true := rgo_all p e _ b j h1 h2
