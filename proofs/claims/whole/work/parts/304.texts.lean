/-- a text being read: where the token starts, the fault, its place -/
abbrev TX : Type := Nat × Nat × Nat
def tStp (T : Nat → Nat) (e : Nat) (x : TX) : TX := if x.2.1 = 0 then (tS T e (hdS T e x.1), x.2) else x
def tRef (T : Nat → Nat) (e w : Nat) (x : TX) : TX := if x.2.1 = 0 then (x.1, (if kdS T e x.1 = 4 then 1 else w), x.1) else x
def tMust (T : Nat → Nat) (e : Nat) (b : Bool) (x : TX) : TX := if b = true then tStp T e x else tRef T e 2 x
def isMk (T : Nat → Nat) (e s c : Nat) : Bool := decide (kdS T e s = 3) && decide (T s = c)
def tNum (T : Nat → Nat) (e lo m : Nat) (x : TX) : TX := tStp T e (if kdS T e x.1 = 2 then (if lo ≤ vlS T e x.1 ∧ vlS T e x.1 < m then x else tRef T e 4 x) else tRef T e 2 x)
def tWch (T : Nat → Nat) (e i m : Nat) (x : TX) : TX := tStp T e (if wich T e x.1 i m 0 = m then tRef T e 2 x else x)
theorem kdS_lt (T : Nat → Nat) (e s : Nat) : kdS T e s < 5 := by
  unfold kdS
  repeat' split
  all_goals omega
theorem tS_le {T : Nat → Nat} {e b : Nat} (h : b ≤ e) : b ≤ tS T e b ∧ tS T e b ≤ e := ⟨rn_ge _ _ _, rn_le h⟩
theorem hdS_le {T : Nat → Nat} {e s : Nat} (h : s ≤ e) : s ≤ hdS T e s ∧ hdS T e s ≤ e ∧ (kdS T e s ≠ 0 → s < e ∧ s < hdS T e s) := by
  unfold hdS kdS
  by_cases q : e ≤ s
  · rw [if_pos q, if_pos q]
    exact ⟨Nat.le_refl s, h, fun z => absurd rfl z⟩
  rw [if_neg q, if_neg q]
  by_cases hl : ltr (T s) = true
  · rw [if_pos hl]
    have h1 : rn (pL T) e s = rn (pL T) e (s + 1) := rn_y (by omega) hl
    have h2 := rn_ge (pL T) e (s + 1)
    have h3 := rn_le (p := pL T) (show s ≤ e from h)
    exact ⟨by omega, h3, fun _ => ⟨by omega, by omega⟩⟩
  rw [if_neg hl]
  by_cases hd : dgt (T s) = true
  · rw [if_pos hd]
    have h1 : rn (pD T) e s = rn (pD T) e (s + 1) := rn_y (by omega) hd
    have h2 := rn_ge (pD T) e (s + 1)
    have h3 := rn_le (p := pD T) (show s ≤ e from h)
    exact ⟨by omega, h3, fun _ => ⟨by omega, by omega⟩⟩
  rw [if_neg hd]
  exact ⟨by omega, by omega, fun _ => ⟨by omega, by omega⟩⟩
theorem vl_lt {T : Nat → Nat} {e s : Nat} (ht : TT T e) (h : kdS T e s = 2) : vlS T e s < 1000000 := by
  have h' := h
  unfold kdS at h
  by_cases q : e ≤ s
  · rw [if_pos q] at h; cases h
  rw [if_neg q] at h
  by_cases hl : ltr (T s) = true
  · rw [if_pos hl] at h; cases h
  rw [if_neg hl] at h
  by_cases hd : dgt (T s) = true
  rotate_left
  · rw [if_neg hd] at h
    split at h <;> cases h
  rw [if_pos hd] at h
  by_cases q4 : rn (pD T) e s - s ≤ 4
  rotate_left
  · rw [if_neg q4] at h; cases h
  have hh : hdS T e s = rn (pD T) e s := by
    unfold hdS
    rw [if_neg q, if_neg hl, if_pos hd]
  have h3 := rn_le (p := pD T) (show s ≤ e by omega)
  unfold vlS
  rw [hh]
  exact dv_lt _ q4 fun j hj => ht.2 _ (by omega)
theorem tStp_f {T : Nat → Nat} {e : Nat} {x : TX} (h : x.2.1 ≠ 0) : tStp T e x = x := if_neg h
theorem tRef_f {T : Nat → Nat} {e w : Nat} {x : TX} (h : x.2.1 ≠ 0) : tRef T e w x = x := if_neg h
theorem tRef_n {T : Nat → Nat} {e w : Nat} (x : TX) (hw : 0 < w) : (tRef T e w x).2.1 ≠ 0 := by
  unfold tRef
  split
  · show (if kdS T e x.1 = 4 then 1 else w) ≠ 0
    split <;> omega
  · next h => exact h
theorem tNum_f {T : Nat → Nat} {e lo m : Nat} {x : TX} (h : x.2.1 ≠ 0) : tNum T e lo m x = x := by
  unfold tNum
  rw [tRef_f h, tRef_f h, ite_self, ite_self, tStp_f h]
theorem tWch_f {T : Nat → Nat} {e i m : Nat} {x : TX} (h : x.2.1 ≠ 0) : tWch T e i m x = x := by
  unfold tWch
  rw [tRef_f h, ite_self, tStp_f h]
theorem tMust_f {T : Nat → Nat} {e : Nat} {b : Bool} {x : TX} (h : x.2.1 ≠ 0) : tMust T e b x = x := by
  unfold tMust
  rw [tRef_f h, tStp_f h, ite_self]
/-- the class's text -/
def TC (T : Nat → Nat) (e : Nat) (x : TX) (τ : Ms) : Prop := BB T e τ ∧ TE T e x.1 τ ∧ x.1 ≤ e ∧ τ.1 20 2 = nI x.2.1 ∧ τ.1 20 3 = (if x.2.1 = 0 then -nI 1 else nI x.2.2) ∧ x.2.1 < 100
def K20 (σ τ : Ms) : Prop := (∀ k j, k ≠ 20 → τ.1 k j = σ.1 k j) ∧ τ.1 20 1 = σ.1 20 1
theorem K20.rf (σ : Ms) : K20 σ σ := ⟨fun _ _ _ => rfl, rfl⟩
theorem K20.tr {a b c : Ms} (h : K20 a b) (h' : K20 b c) : K20 a c := ⟨fun k j hk => (h'.1 k j hk).trans (h.1 k j hk), h'.2.trans h.2⟩
theorem K20.fr {W : List (Nat × Option Nat)} {σ τ : Ms} (F : Fr W σ τ) (hW : ∀ w ∈ W, w.1 = 20 ∧ w.2 ≠ none ∧ w.2 ≠ some 1) : K20 σ τ := by
  refine ⟨fun k j hk => F.1 k j fun ⟨w, hw, e1, _⟩ => hk (by rw [← e1]; exact (hW w hw).1), F.1 20 1 fun ⟨w, hw, e1, e2⟩ => ?_⟩
  obtain ⟨-, h1, h2⟩ := hW w hw
  cases hc : w.2 with
  | none => exact h1 hc
  | some s => exact h2 (by rw [hc, e2 s hc])
theorem TC.mv {T : Nat → Nat} {e : Nat} {x : TX} {σ τ : Ms} (h : TC T e x σ) (e20 : ∀ j, τ.1 20 j = σ.1 20 j) (e21 : ∀ j, τ.1 21 j = σ.1 21 j) : TC T e x τ := by
  unfold TC BB TE at *
  simp only [e20, e21]
  exact h
theorem step_t {N e : Nat} {T : Nat → Nat} {x : TX} {τ : Ms} (hN : 1000 < N) (ht : TT T e) (h : TC T e x τ) : wp (F8_step N τ) fun _ τ' => TC T e (tStp T e x) τ' ∧ K20 τ τ' := by
  obtain ⟨hb, he, hx, h2, h3, h100⟩ := h
  by_cases q : x.2.1 = 0
  rotate_left
  · rw [tStp_f q]
    unfold F8_step
    rw [h2, if_neg (by exact fun z => q ((nI_eq (b := 0) (by omega) (by omega)).mp z))]
    exact wp_some.mpr ⟨⟨hb, he, hx, h2, h3, h100⟩, K20.rf τ⟩
  have hh := hdS_le (T := T) hx
  refine wp_mono (step_c hN ht hb hh.2.1 (by rw [h2, q]) he.2.2.1) ?_
  rintro _ t ⟨g1, hF⟩
  have e4 : t.1 20 4 = τ.1 20 4 := (hF.keep (D := [(20, some 4)]) rfl (In_o 0 rfl)).1
  have e2 : t.1 20 2 = τ.1 20 2 := (hF.keep (D := [(20, some 2)]) rfl (In_o 0 rfl)).1
  have e3 : t.1 20 3 = τ.1 20 3 := (hF.keep (D := [(20, some 3)]) rfl (In_o 0 rfl)).1
  have hk := K20.fr hF (by decide)
  unfold tStp
  rw [if_pos q]
  exact ⟨⟨⟨e4.trans hb.1, fun j hj => (hk.1 _ _ (by omega)).trans (hb.2 j hj)⟩, g1, (tS_le hh.2.1).2, e2.trans h2, e3.trans h3, h100⟩, hk⟩
theorem refuse_t {e w : Nat} {T : Nat → Nat} {x : TX} {τ : Ms} (h : TC T e x τ) (hw : 0 < w) (hw' : w < 100) : wp (F8_refuse (nI w) τ) fun _ τ' => TC T e (tRef T e w x) τ' ∧ K20 τ τ' := by
  obtain ⟨hb, he, hx, h2, h3, h100⟩ := h
  unfold F8_refuse tRef
  rw [h2]
  by_cases q : x.2.1 = 0
  rotate_left
  · rw [if_neg (by exact fun z => q ((nI_eq (b := 0) (by omega) (by omega)).mp z)), if_neg q]
    exact wp_some.mpr ⟨⟨hb, he, hx, h2, h3, h100⟩, K20.rf τ⟩
  rw [q, if_pos (show nI 0 = 0 from rfl), if_pos (show (0 : Nat) = 0 from rfl), he.1]
  have hk5 := kdS_lt T e x.1
  have go : ∀ v : Nat, v < 100 → v ≠ 0 → wp (F8_refuse_b22 (nI v) τ) fun _ τ' => TC T e (x.1, v, x.1) τ' ∧ K20 τ τ' := fun v hv h0 => by
    unfold F8_refuse_b22
    rw [lt_e, lt_e]
    refine wp_some.mpr ⟨⟨(hb.s (by omega)).s (by omega), ⟨?_, ?_, ?_, fun z => ?_⟩, hx, ?_, ?_, hv⟩, fun k j hk => by rw [rI_k hk, rI_k hk], by rw [rI_j (by omega), rI_j (by omega)]⟩
    · rw [rI_j (by omega), rI_j (by omega)]; exact he.1
    · rw [rI_j (by omega), rI_j (by omega)]; exact he.2.1
    · rw [rI_j (by omega), rI_j (by omega)]; exact he.2.2.1
    · rw [rI_j (by omega), rI_j (by omega)]; exact he.2.2.2 z
    · rw [rI_j (by omega), rI_e rfl rfl]
    · rw [rI_e rfl rfl, rI_j (by omega), he.2.1]
      exact (if_neg h0).symm
  by_cases q4 : kdS T e x.1 = 4
  · rw [q4, if_neg (by exact fun z => z rfl), if_pos (by rfl)]
    exact go 1 (by omega) (by omega)
  · rw [if_pos (by exact fun z => q4 ((nI_eq (b := 4) (by omega) (by omega)).mp z)), if_neg q4]
    exact go w hw' (by omega)
theorem word_t {N e i : Nat} {T : Nat → Nat} {x : TX} {τ : Ms} (hN : 1000 < N) (ht : TT T e) (h : TC T e x τ) (hi : i < 22) : F8_isWord N i τ = some (bI (isWd T e x.1 i), τ) := isWord_c hN ht h.1 h.2.1 hi
theorem sgb_r {t : Nat} (h : sgb t = true) : t < 128 := by
  unfold sgb at h
  simp at h
  omega
theorem kd3 {T : Nat → Nat} {e s : Nat} (h : kdS T e s = 3) : s < e ∧ T s < 128 := by
  unfold kdS at h
  by_cases q : e ≤ s
  · rw [if_pos q] at h; cases h
  rw [if_neg q] at h
  by_cases hl : ltr (T s) = true
  · rw [if_pos hl] at h; cases h
  rw [if_neg hl] at h
  by_cases hd : dgt (T s) = true
  · rw [if_pos hd] at h
    split at h <;> cases h
  rw [if_neg hd] at h
  by_cases hg : sgb (T s) = true
  · exact ⟨by omega, sgb_r hg⟩
  · rw [if_neg hg] at h; cases h
theorem mark_t {e c : Nat} {T : Nat → Nat} {x : TX} {τ : Ms} (ht : TT T e) (h : TC T e x τ) (hc : c < 128) : F8_isMark (nI c) τ = some (bI (isMk T e x.1 c), τ) := by
  have he := ht.1
  have hk5 := kdS_lt T e x.1
  unfold F8_isMark isMk
  rw [h.2.1.1, h.2.1.2.1]
  by_cases q : kdS T e x.1 = 3
  rotate_left
  · rw [if_pos (by exact fun z => q ((nI_eq (b := 3) (by omega) (by omega)).mp z)), decide_eq_false q]
    rfl
  have h3 := kd3 q
  rw [q, if_neg (by exact fun z => z rfl), charAt_in ht h.1 h3.1, bn_s, sb8_n h3.2, decide_eq_true rfl, Bool.true_and]
  by_cases q2 : T x.1 = c
  · rw [q2, if_neg (by exact fun z => z rfl), decide_eq_true rfl]
    rfl
  · rw [if_pos (by exact fun z => q2 ((nI_eq (by omega) (by omega)).mp z)), decide_eq_false q2]
    rfl
theorem close_t {N e : Nat} {T : Nat → Nat} {x : TX} {τ : Ms} (hN : 1000 < N) (ht : TT T e) (h : TC T e x τ) : wp (F8_takeClose N τ) fun _ τ' => TC T e (tMust T e (isMk T e x.1 59) x) τ' ∧ K20 τ τ' := by
  unfold F8_takeClose tMust
  rw [show (59 : Int32) = nI 59 from rfl, mark_t ht h (by omega), bn_s]
  cases isMk T e x.1 59
  · rw [if_pos (by rfl), if_neg (by decide)]
    exact wp_bn.mpr (wp_mono (refuse_t h (w := 2) (by omega) (by omega)) fun _ t g => wp_some.mpr g)
  · rw [if_neg (by decide), if_pos (by rfl)]
    exact wp_bn.mpr (wp_mono (step_t hN ht h) fun _ t g => wp_some.mpr g)
theorem num_t {N e lo m : Nat} {T : Nat → Nat} {x : TX} {τ : Ms} (hN : 1000 < N) (ht : TT T e) (h : TC T e x τ) (hl : lo < 100) (hm : m < 1000) : wp (F8_takeNumber N (nI lo) (cI m) τ) fun r τ' => ((tNum T e lo m x).2.1 = 0 → r = nI (vlS T e x.1) ∧ lo ≤ vlS T e x.1 ∧ vlS T e x.1 < m) ∧ TC T e (tNum T e lo m x) τ' ∧ K20 τ τ' := by
  have hk5 := kdS_lt T e x.1
  unfold F8_takeNumber F8_takeNumber_b31
  rw [lt_e, h.2.1.1]
  have fin2 : ∀ (y : TX) (t : Ms) (v : Int32), TC T e y t → ((tStp T e y).2.1 = 0 → v = nI (vlS T e x.1) ∧ lo ≤ vlS T e x.1 ∧ vlS T e x.1 < m) → wp (F8_takeNumber_b36 N (nI lo) v t) fun r τ' => ((tStp T e y).2.1 = 0 → r = nI (vlS T e x.1) ∧ lo ≤ vlS T e x.1 ∧ vlS T e x.1 < m) ∧ TC T e (tStp T e y) τ' ∧ K20 t τ' := fun y t v hy hv => by
    unfold F8_takeNumber_b36
    refine wp_bn.mpr (wp_mono (step_t hN ht hy) ?_)
    rintro _ t' ⟨g1, g2⟩
    rw [g1.2.2.2.1]
    have h100 := g1.2.2.2.2.2
    by_cases z : (tStp T e y).2.1 = 0
    · rw [z, if_neg (by exact fun z => z rfl)]
      refine wp_some.mpr ⟨fun _ => hv z, g1, g2⟩
    · rw [if_pos (by exact fun y => z ((nI_eq (b := 0) (by omega) (by omega)).mp y))]
      exact wp_some.mpr ⟨fun y => absurd y z, g1, g2⟩
  have bad : ∀ (w : Nat) (v : Int32), 0 < w → w < 100 → wp (bn (F8_refuse (nI w) τ) fun _ t4 => F8_takeNumber_b36 N (nI lo) v t4) fun r τ' => ((tStp T e (tRef T e w x)).2.1 = 0 → r = nI (vlS T e x.1) ∧ lo ≤ vlS T e x.1 ∧ vlS T e x.1 < m) ∧ TC T e (tStp T e (tRef T e w x)) τ' ∧ K20 τ τ' := fun w v h1 h2 => by
    refine wp_bn.mpr (wp_mono (refuse_t h h1 h2) ?_)
    rintro _ t ⟨g1, g2⟩
    have hne : (tRef T e w x).2.1 ≠ 0 := tRef_n x h1
    refine wp_mono (fin2 _ t v g1 (fun z => absurd (by rwa [tStp_f hne] at z) hne)) ?_
    rintro r t' ⟨a, b, c⟩
    exact ⟨a, b, g2.tr c⟩
  unfold tNum
  by_cases q : kdS T e x.1 = 2
  rotate_left
  · rw [if_neg (by exact fun z => q ((nI_eq (b := 2) (by omega) (by omega)).mp z)), if_neg q]
    exact bad 2 _ (by omega) (by omega)
  have hv := vl_lt ht q
  rw [if_pos (by rw [q]; rfl), if_pos q, h.2.1.2.2.2 q]
  by_cases q1 : vlS T e x.1 < lo
  · rw [if_pos (nI_lt q1 (by omega)), if_neg (by omega)]
    exact bad 4 _ (by omega) (by omega)
  rw [if_neg (nI_nlt (by omega) (by omega))]
  by_cases q2 : vlS T e x.1 < m
  · obtain ⟨k, rfl⟩ : ∃ k, m = k + 1 := ⟨m - 1, by omega⟩
    rw [cI_s, if_pos (nI_le (by omega) (by omega)), if_pos ⟨by omega, q2⟩]
    exact fin2 x τ _ h fun _ => ⟨rfl, by omega, q2⟩
  · have hng : ¬ nI (vlS T e x.1) ≤ cI m := by
      rcases Nat.eq_zero_or_pos m with z | z
      · subst z
        rw [cI_0]
        exact fun y => (u_mle (a := vlS T e x.1) (by omega)).mp y
      · rw [show m = (m - 1) + 1 by omega, cI_s]
        exact nI_ge (by omega) (by omega)
    rw [if_neg hng, if_neg (by omega)]
    exact bad 4 _ (by omega) (by omega)
theorem wch_end {N e i m : Nat} {T : Nat → Nat} {x : TX} {τ : Ms} {K : Int32 → Ms → Option (Int32 × Ms)} {K' : Int32 → Ms → Option (Int32 × Ms)} (hN : 1000 < N) (ht : TT T e) (h : TC T e x τ) (hm : m < 100) (hle : wich T e x.1 i m 0 ≤ m) (hK : ∀ a t, K a t = if a ≠ (-1 : Int32) then K' a t else bn (F8_refuse (2 : Int32) t) (fun _ t4 => K' a t4)) (hK' : ∀ a t, K' a t = bn (F8_step N t) (fun _ t2 => some (a, t2))) : wp (K (wI m (wich T e x.1 i m 0)) τ) fun r τ' => r = wI m (wich T e x.1 i m 0) ∧ TC T e (tWch T e i m x) τ' ∧ K20 τ τ' := by
  unfold tWch
  rw [hK]
  by_cases q : wich T e x.1 i m 0 = m
  · rw [if_pos q, q, show wI m m = -nI 1 from if_pos rfl, if_neg (by exact fun z => z rfl)]
    refine wp_bn.mpr (wp_mono (refuse_t h (w := 2) (by omega) (by omega)) ?_)
    rintro _ t ⟨g1, g2⟩
    rw [hK']
    refine wp_bn.mpr (wp_mono (step_t hN ht g1) ?_)
    rintro _ t' ⟨g3, g4⟩
    exact wp_some.mpr ⟨rfl, g3, g2.tr g4⟩
  · have e1 : wI m (wich T e x.1 i m 0) = nI (wich T e x.1 i m 0) := if_neg q
    rw [if_neg q, e1, if_pos (by exact fun z => (u_eqm (a := wich T e x.1 i m 0) (by omega)).mp z), hK']
    refine wp_bn.mpr (wp_mono (step_t hN ht h) ?_)
    rintro _ t ⟨g1, g2⟩
    exact wp_some.mpr ⟨rfl, g1, g2⟩
theorem col_t {N e : Nat} {T : Nat → Nat} {x : TX} {τ : Ms} (hN : 1000 < N) (ht : TT T e) (h : TC T e x τ) : wp (F8_takeColour N τ) fun r τ' => r = wI 3 (wich T e x.1 4 3 0) ∧ TC T e (tWch T e 4 3 x) τ' ∧ K20 τ τ' := by
  have en := wch_end (i := 4) (m := 3) (K := F8_takeColour_b40 N) (K' := F8_takeColour_b51 N) hN ht h (by omega) (wich_le 3 0).2 (fun a t => rfl) (fun a t => rfl)
  unfold F8_takeColour
  rw [word_t hN ht h (by omega), bn_s]
  unfold wich wich wich wich at *
  dsimp only [Nat.add_zero, Nat.reduceAdd] at *
  cases h4 : isWd T e x.1 4
  rotate_left
  · rw [h4] at en
    exact en
  rw [h4, if_neg (by decide)] at en
  rw [if_pos (by rfl), if_neg (by decide), word_t hN ht h (by omega), bn_s]
  cases h5 : isWd T e x.1 5
  rotate_left
  · rw [h5] at en
    exact en
  rw [h5, if_neg (by decide)] at en
  rw [if_pos (by rfl), if_neg (by decide), word_t hN ht h (by omega), bn_s]
  cases h6 : isWd T e x.1 6
  rotate_left
  · rw [h6] at en
    exact en
  rw [h6, if_neg (by decide)] at en
  exact en
theorem side_t {N e : Nat} {T : Nat → Nat} {x : TX} {τ : Ms} (hN : 1000 < N) (ht : TT T e) (h : TC T e x τ) : wp (F8_takeSide N τ) fun r τ' => r = wI 2 (wich T e x.1 7 2 0) ∧ TC T e (tWch T e 7 2 x) τ' ∧ K20 τ τ' := by
  have en := wch_end (i := 7) (m := 2) (K := F8_takeSide_b27 N) (K' := F8_takeSide_b38 N) hN ht h (by omega) (wich_le 2 0).2 (fun a t => rfl) (fun a t => rfl)
  unfold F8_takeSide
  rw [word_t hN ht h (by omega), bn_s]
  unfold wich wich wich at *
  dsimp only [Nat.add_zero, Nat.reduceAdd] at *
  cases h4 : isWd T e x.1 7
  rotate_left
  · rw [h4] at en
    exact en
  rw [h4, if_neg (by decide)] at en
  rw [if_pos (by rfl), if_neg (by decide), word_t hN ht h (by omega), bn_s]
  cases h5 : isWd T e x.1 8
  rotate_left
  · rw [h5] at en
    exact en
  rw [h5, if_neg (by decide)] at en
  exact en
