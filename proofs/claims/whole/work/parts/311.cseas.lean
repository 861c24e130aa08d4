/-- the class's seasons being read: steps, entries, open -/
def SB (n E g : Nat) (τ : Ms) : Prop := τ.1 69 1 = nI n ∧ τ.1 69 2 = nI E ∧ τ.1 69 8 = nI g ∧ n ≤ 30 ∧ E ≤ 60 ∧ g ≤ 3
theorem SB.k {n E g : Nat} {σ τ : Ms} (h : SB n E g σ) (k : K20 σ τ) : SB n E g τ := ⟨(k.1 _ _ (by omega)).trans h.1, (k.1 _ _ (by omega)).trans h.2.1, (k.1 _ _ (by omega)).trans h.2.2.1, h.2.2.2⟩
/-- an entry added -/
def AD (n E g : Nat) (blk : Bool) (k a b c : Int32) (σ t : Ms) : Prop := t.1 70 E = k ∧ t.1 71 E = a ∧ t.1 72 E = b ∧ t.1 73 E = c ∧ (∀ q j, 70 ≤ q → q ≤ 74 → j ≠ E → t.1 q j = σ.1 q j) ∧ t.1 69 1 = nI (n + 1) ∧ t.1 69 2 = nI (E + 1) ∧ (∀ j, j < g → t.1 75 j = σ.1 75 j) ∧ (blk = false → t.1 69 8 = nI g) ∧ (blk = true → g < 3 → t.1 69 8 = nI (g + 1) ∧ t.1 75 g = nI E)
theorem AD.pre {n E g : Nat} {blk : Bool} {k a b c : Int32} {σ τ t : Ms} (k20 : K20 σ τ) (h : AD n E g blk k a b c τ t) : AD n E g blk k a b c σ t := by
  obtain ⟨h1, h2, h3, h4, h5, h6, h7, h8, h9, h10⟩ := h
  exact ⟨h1, h2, h3, h4, fun q j a1 a2 a3 => (h5 q j a1 a2 a3).trans (k20.1 _ _ (by omega)), h6, h7, fun j hj => (h8 j hj).trans (k20.1 _ _ (by omega)), h9, h10⟩
theorem AD.post {n E g : Nat} {blk : Bool} {k a b c : Int32} {σ t t' : Ms} (h : AD n E g blk k a b c σ t) (k20 : K20 t t') : AD n E g blk k a b c σ t' := by
  obtain ⟨h1, h2, h3, h4, h5, h6, h7, h8, h9, h10⟩ := h
  have e : ∀ q j, q ≠ 20 → t'.1 q j = t.1 q j := k20.1
  exact ⟨(e _ _ (by omega)).trans h1, (e _ _ (by omega)).trans h2, (e _ _ (by omega)).trans h3, (e _ _ (by omega)).trans h4, fun q j a1 a2 a3 => (e _ _ (by omega)).trans (h5 q j a1 a2 a3), (e _ _ (by omega)).trans h6, (e _ _ (by omega)).trans h7, fun j hj => (e _ _ (by omega)).trans (h8 j hj), fun z => (e _ _ (by omega)).trans (h9 z), fun z z' => ⟨(e _ _ (by omega)).trans (h10 z z').1, (e _ _ (by omega)).trans (h10 z z').2⟩⟩
theorem isBlock_any (p : Int32) : ∃ b, ∀ σ, F5_isBlock p σ = some (bI b, σ) := by
  unfold F5_isBlock F5_isBlock_b11
  by_cases q : p = 5
  · exact ⟨true, fun σ => by rw [if_pos q]; rfl⟩
  · by_cases q2 : p = 6
    · exact ⟨true, fun σ => by rw [if_neg q, if_neg (fun z => z q2)]; rfl⟩
    · exact ⟨false, fun σ => by rw [if_neg q, if_pos q2]; rfl⟩
theorem isBlock_k : ∀ k, k < 8 → ∀ σ, F5_isBlock (nI k) σ = some (bI (isBk k), σ)
  | 0, _, _ => rfl
  | 1, _, _ => rfl
  | 2, _, _ => rfl
  | 3, _, _ => rfl
  | 4, _, _ => rfl
  | 5, _, _ => rfl
  | 6, _, _ => rfl
  | 7, _, _ => rfl
  | k + 8, h, _ => by omega
theorem add_t {n E g : Nat} {p a b c : Int32} {τ : Ms} (h : SB n E g τ) : ∃ t, F5_add 69 p a b c τ = some ((), t) ∧ (∀ k j, (k < 69 ∨ 75 < k) → t.1 k j = τ.1 k j) ∧ (n < 30 → E < 60 → ∀ blk, (∀ σ, F5_isBlock p σ = some (bI blk, σ)) → AD n E g blk p a b c τ t) := by
  obtain ⟨e1, e2, e8, hn, hE, hg⟩ := h
  unfold F5_add
  rw [e1]
  by_cases q : 30 ≤ n
  · rw [if_pos (by exact nI_le (a := 30) q (by omega))]
    exact ⟨_, rfl, fun _ _ _ => rfl, fun z => by omega⟩
  rw [if_neg (by exact nI_ge (b := 30) (by omega) (by omega)), e2]
  by_cases q2 : E < 60
  rotate_left
  · rw [if_neg (by exact nI_nlt (b := 60) (by omega) (by omega))]
    exact ⟨_, rfl, fun _ _ _ => rfl, fun _ z => by omega⟩
  have ue : ixb (nI E) 60 = true := u_ix q2 (by omega)
  have ce : (nI E).toNatClampNeg = E := u_cl (by omega)
  rw [if_pos (by exact nI_lt (b := 60) q2 (by omega)), ue, ce, ck_t, lt_e]
  have s1 : (sI τ (69 + 1) E p).1 69 2 = nI E := by rw [rI_k (by omega)]; exact e2
  rw [s1, ue, ce, ck_t, lt_e]
  have s2 : (sI (sI τ (69 + 1) E p) (69 + 2) E a).1 69 2 = nI E := by rw [rI_k (by omega)]; exact s1
  rw [s2, ue, ce, ck_t, lt_e]
  have s3 : (sI (sI (sI τ (69 + 1) E p) (69 + 2) E a) (69 + 3) E b).1 69 2 = nI E := by rw [rI_k (by omega)]; exact s2
  rw [s3, ue, ce, ck_t, lt_e]
  have s4 : (sI (sI (sI (sI τ (69 + 1) E p) (69 + 2) E a) (69 + 3) E b) (69 + 4) E c).1 69 2 = nI E := by rw [rI_k (by omega)]; exact s3
  rw [s4, ue, ce, ck_t, lt_e]
  have t5 : ∀ t, t = sI (sI (sI (sI (sI τ (69 + 1) E p) (69 + 2) E a) (69 + 3) E b) (69 + 4) E c) (69 + 5) E (-1 : Int32) → t.1 69 2 = nI E ∧ t.1 69 1 = nI n ∧ t.1 69 8 = nI g ∧ t.1 70 E = p ∧ t.1 71 E = a ∧ t.1 72 E = b ∧ t.1 73 E = c ∧ (∀ q j, 70 ≤ q → q ≤ 74 → j ≠ E → t.1 q j = τ.1 q j) ∧ (∀ q j, (q < 70 ∨ 74 < q) → t.1 q j = τ.1 q j) := fun t ht => by
    subst ht
    refine ⟨by rw [rI_k (by omega)]; exact s4, by rw [rI_k (by omega), rI_k (by omega), rI_k (by omega), rI_k (by omega), rI_k (by omega)]; exact e1, by rw [rI_k (by omega), rI_k (by omega), rI_k (by omega), rI_k (by omega), rI_k (by omega)]; exact e8, by rw [rI_k (by omega), rI_k (by omega), rI_k (by omega), rI_k (by omega), rI_e (by omega) rfl], by rw [rI_k (by omega), rI_k (by omega), rI_k (by omega), rI_e (by omega) rfl], by rw [rI_k (by omega), rI_k (by omega), rI_e (by omega) rfl], by rw [rI_k (by omega), rI_e (by omega) rfl], fun q j _ _ hj => by rw [rI_j hj, rI_j hj, rI_j hj, rI_j hj, rI_j hj], fun q j hq => by rw [rI_k (by omega), rI_k (by omega), rI_k (by omega), rI_k (by omega), rI_k (by omega)]⟩
  generalize sI (sI (sI (sI (sI τ (69 + 1) E p) (69 + 2) E a) (69 + 3) E b) (69 + 4) E c) (69 + 5) E (-1 : Int32) = t at t5
  obtain ⟨x2, x1, x8, y0, y1, y2, y3, yj, yk⟩ := t5 t rfl
  obtain ⟨bl, hbl⟩ := isBlock_any p
  have b108 : ∀ s : Ms, s.1 69 2 = nI E → s.1 69 1 = nI n → F5_add_b108 69 s = some ((), sI (sI s 69 2 (nI (E + 1))) 69 1 (nI (n + 1))) := fun s h1 h2 => by
    unfold F5_add_b108
    rw [h1, lt_e, rI_j (show 1 ≠ 2 by omega), h2, lt_e, L_1, nI_add, nI_add]
  rw [hbl, bn_s]
  have same : ∀ blk, (∀ σ, F5_isBlock p σ = some (bI blk, σ)) → blk = bl := fun blk hh => by
    have h1 := (hbl τ).symm.trans (hh τ)
    cases bl <;> cases blk
    · rfl
    · injection h1 with h1
      injection h1 with h1
      exact absurd h1 (by decide)
    · injection h1 with h1
      injection h1 with h1
      exact absurd h1 (by decide)
    · rfl
  cases bl
  · rw [if_pos (by rfl), b108 t x2 x1]
    refine ⟨_, rfl, fun k j hk => by rw [rI_k (by omega), rI_k (by omega)]; exact yk k j (by omega), fun _ _ blk hh => ?_⟩
    rw [same blk hh]
    refine ⟨by rw [rI_k (by omega), rI_k (by omega)]; exact y0, by rw [rI_k (by omega), rI_k (by omega)]; exact y1, by rw [rI_k (by omega), rI_k (by omega)]; exact y2, by rw [rI_k (by omega), rI_k (by omega)]; exact y3, fun q j h1 h2 h3 => by rw [rI_k (by omega), rI_k (by omega)]; exact yj q j h1 h2 h3, rI_e rfl rfl, by rw [rI_j (by omega), rI_e rfl rfl], fun j hj => by rw [rI_k (by omega), rI_k (by omega)]; exact yk _ _ (by omega), fun _ => by rw [rI_j (by omega), rI_j (by omega)]; exact x8, fun z => by cases z⟩
  · rw [if_neg (by decide), x8]
    by_cases q3 : 3 ≤ g
    · rw [if_pos (by exact nI_le (a := 3) q3 (by omega)), b108 t x2 x1]
      refine ⟨_, rfl, fun k j hk => by rw [rI_k (by omega), rI_k (by omega)]; exact yk k j (by omega), fun _ _ blk hh => ?_⟩
      rw [same blk hh]
      refine ⟨by rw [rI_k (by omega), rI_k (by omega)]; exact y0, by rw [rI_k (by omega), rI_k (by omega)]; exact y1, by rw [rI_k (by omega), rI_k (by omega)]; exact y2, by rw [rI_k (by omega), rI_k (by omega)]; exact y3, fun q j h1 h2 h3 => by rw [rI_k (by omega), rI_k (by omega)]; exact yj q j h1 h2 h3, rI_e rfl rfl, by rw [rI_j (by omega), rI_e rfl rfl], fun j hj => by rw [rI_k (by omega), rI_k (by omega)]; exact yk _ _ (by omega), fun z => (by cases z), fun _ z => absurd z (by omega)⟩
    · rw [if_neg (by exact nI_ge (b := 3) (by omega) (by omega)), u_ix (show g < 3 by omega) (by omega), ck_t, u_cl (by omega), x2, lt_e]
      have z8 : (sI t (69 + 6) g (nI E)).1 69 8 = nI g := by rw [rI_k (by omega)]; exact x8
      rw [z8, lt_e, L_1, nI_add, b108 _ (by rw [rI_j (by omega), rI_k (by omega)]; exact x2) (by rw [rI_j (by omega), rI_k (by omega)]; exact x1)]
      refine ⟨_, rfl, fun k j hk => by rw [rI_k (by omega), rI_k (by omega), rI_k (by omega), rI_k (by omega)]; exact yk k j (by omega), fun _ _ blk hh => ?_⟩
      rw [same blk hh]
      refine ⟨by rw [rI_k (by omega), rI_k (by omega), rI_k (by omega), rI_k (by omega)]; exact y0, by rw [rI_k (by omega), rI_k (by omega), rI_k (by omega), rI_k (by omega)]; exact y1, by rw [rI_k (by omega), rI_k (by omega), rI_k (by omega), rI_k (by omega)]; exact y2, by rw [rI_k (by omega), rI_k (by omega), rI_k (by omega), rI_k (by omega)]; exact y3, fun q j h1 h2 h3 => by rw [rI_k (by omega), rI_k (by omega), rI_k (by omega), rI_k (by omega)]; exact yj q j h1 h2 h3, rI_e rfl rfl, by rw [rI_j (by omega), rI_e rfl rfl], fun j hj => by rw [rI_k (by omega), rI_k (by omega), rI_k (by omega), rI_j (by omega)]; exact yk _ _ (by omega), fun z => (by cases z), fun _ _ => ⟨by rw [rI_j (by omega), rI_j (by omega), rI_e rfl rfl], by rw [rI_k (by omega), rI_k (by omega), rI_k (by omega), rI_e rfl rfl]⟩⟩
/-- what an entry has to say of the model's step -/
def vO (k : Nat) (a b c : Int32) (D : DG) (n : Nat) : Prop := (isBk k = false → stepOk (fun _ => nI k) (fun _ => a) (fun _ => b) D 0 n) ∧ (isBk k = true → whenOk (fun _ => nI k) (fun _ => a) (fun _ => b) (fun _ => c) D 0 n ∨ loopOk (fun _ => nI k) (fun _ => a) D 0 n)
/-- a step's rest read by the class -/
def RC (T : Nat → Nat) (e n E g k : Nat) (y : TX) (D : DG) (σ t : Ms) : Prop := TC T e y t ∧ (y.2.1 = 0 → n < 30 → E < 60 → ∃ a b c, AD n E g (isBk k) (nI k) a b c σ t ∧ vO k a b c D n)
theorem TC.far {T : Nat → Nat} {e : Nat} {x : TX} {σ τ : Ms} (h : TC T e x σ) (f : ∀ k j, (k < 69 ∨ 75 < k) → τ.1 k j = σ.1 k j) : TC T e x τ := h.mv (fun j => f _ _ (by omega)) (fun j => f _ _ (by omega))
theorem rc_add {T : Nat → Nat} {e n E g k : Nat} {y : TX} {D : DG} {σ τ : Ms} {p a b c : Int32} (hk : k < 8) (tc : TC T e y τ) (k20 : K20 σ τ) (hs : SB n E g σ) (hv : y.2.1 = 0 → p = nI k ∧ vO k a b c D n) : wp (F5_add 69 p a b c τ) fun _ t => RC T e n E g k y D σ t := by
  obtain ⟨t, e1, e2, e3⟩ := add_t (p := p) (a := a) (b := b) (c := c) (hs.k k20)
  rw [e1]
  refine wp_some.mpr ⟨tc.far e2, fun z hn hE => ?_⟩
  obtain ⟨rfl, hv'⟩ := hv z
  exact ⟨a, b, c, (e3 hn hE (isBk k) (isBlock_k k hk)).pre k20, hv'⟩
theorem deed_c {N e n E g k m : Nat} {T : Nat → Nat} {x : TX} {D : DG} {σ : Ms} (hN : 1000 < N) (ht : TT T e) (h : TC T e x σ) (hs : SB n E g σ) (hk : (k = 0 ∧ m = 20) ∨ (k = 1 ∧ m = 5)) (hD : D n 0 = nI k) : wp (F6_parseDeed N 69 (nI k) (nI m) σ) fun _ t => RC T e n E g k (aSide T e m n x D).1 (aSide T e m n x D).2 σ t := by
  unfold F6_parseDeed
  refine wp_bn.mpr (wp_mono (side_t hN ht h) ?_)
  rintro _ t1 ⟨rfl, g1, k1⟩
  refine wp_bn.mpr (wp_mono (num_t (lo := 0) (m := m) hN ht g1 (by omega) (by omega)) ?_)
  rintro r t2 ⟨hr, g2, k2⟩
  refine wp_bn.mpr (wp_mono (rc_add (k := k) (y := (aSide T e m n x D).1) (D := (aSide T e m n x D).2) (by omega) g2 (k1.tr k2) hs (fun z => ⟨rfl, ?_⟩)) fun _ t q => wp_some.mpr q)
  have z' : (tNum T e 0 m (tWch T e 7 2 x)).2.1 = 0 := z
  obtain ⟨rfl, -, hv⟩ := hr z'
  have hw := (tWch_z (tNum_z z').1).2
  refine ⟨fun _ => Or.inl ⟨k, wich T e x.1 7 2 0, vlS T e (tWch T e 7 2 x).1, by omega, rfl, ?_, if_neg (by omega), ?_, rfl, ?_⟩, fun q => ?_⟩
  · show sD _ n 2 _ n 0 = nI k
    rw [sD_o (by omega), sD_o (by omega), hD]
  · show sD _ n 2 _ n 1 = _
    rw [sD_o (by omega), sD_e]
  · show sD _ n 2 _ n 2 = _
    rw [sD_e]
  · rcases hk with ⟨rfl, -⟩ | ⟨rfl, -⟩ <;> cases q
theorem less_c {N e n E g : Nat} {T : Nat → Nat} {x : TX} {D : DG} {σ : Ms} (hN : 1000 < N) (ht : TT T e) (h : TC T e x σ) (hs : SB n E g σ) (hD : D n 0 = nI 2) : wp (F6_parseLess N 69 σ) fun _ t => RC T e n E g 2 (aLessT T e n x D).1 (aLessT T e n x D).2 σ t := by
  unfold F6_parseLess
  rw [show (3 : Int32) = cI 4 from rfl, show (15 : Int32) = cI 16 from rfl]
  refine wp_bn.mpr (wp_mono (num_t (lo := 0) (m := 4) hN ht h (by omega) (by omega)) ?_)
  rintro r1 t1 ⟨hr1, g1, k1⟩
  refine wp_bn.mpr (wp_mono (num_t (lo := 0) (m := 16) hN ht g1 (by omega) (by omega)) ?_)
  rintro r t2 ⟨hr, g2, k2⟩
  refine wp_bn.mpr (wp_mono (rc_add (k := 2) (y := (aLessT T e n x D).1) (D := (aLessT T e n x D).2) (by omega) g2 (k1.tr k2) hs (fun z => ⟨rfl, ?_⟩)) fun _ t q => wp_some.mpr q)
  have z' : (tNum T e 0 16 (tNum T e 0 4 x)).2.1 = 0 := z
  obtain ⟨rfl, -, hv⟩ := hr z'
  obtain ⟨rfl, -, hv1⟩ := hr1 (tNum_z z').1
  refine ⟨fun _ => Or.inl ⟨2, vlS T e x.1, vlS T e (tNum T e 0 4 x).1, by omega, rfl, ?_, rfl, ?_, rfl, ?_⟩, fun q => by cases q⟩
  · show sD _ n 2 _ n 0 = nI 2
    rw [sD_o (by omega), sD_o (by omega), hD]
  · show sD _ n 2 _ n 1 = _
    rw [sD_o (by omega), sD_e]
  · show sD _ n 2 _ n 2 = _
    rw [sD_e]
theorem grow_c {N e n E g : Nat} {T : Nat → Nat} {x : TX} {D : DG} {σ : Ms} (hN : 1000 < N) (ht : TT T e) (h : TC T e x σ) (hs : SB n E g σ) (hD : D n 0 = nI 3) : wp (F6_parseGrow N 69 σ) fun _ t => RC T e n E g 3 (aGrowT T e n x D).1 (aGrowT T e n x D).2 σ t := by
  unfold F6_parseGrow F6_parseGrow_b28 aGrowT
  refine wp_bn.mpr (wp_mono (col_t hN ht h) ?_)
  rintro _ t1 ⟨rfl, g1, k1⟩
  rw [word_t hN ht g1 (by omega), bn_s]
  cases hb : isWd T e (tWch T e 4 3 x).1 3
  · rw [if_pos (by rfl), if_neg (by decide)]
    refine wp_bn.mpr (wp_mono (rc_add (k := 3) (y := tWch T e 4 3 x) (D := sD (sD D n 1 (nI (wich T e x.1 4 3 0))) n 2 (-nI 1)) (by omega) g1 k1 hs (fun z => ⟨rfl, ?_⟩)) fun _ t q => wp_some.mpr q)
    have hw := (tWch_z z).2
    refine ⟨fun _ => Or.inr (Or.inl ⟨rfl, ?_, wich T e x.1 4 3 0, 0, by omega, by omega, if_neg (by omega), ?_, rfl, ?_⟩), fun q => by cases q⟩
    · rw [sD_o (by omega), sD_o (by omega), hD]
    · rw [sD_o (by omega), sD_e]
    · rw [sD_e]
      rfl
  · rw [if_neg (by decide), if_pos (by rfl)]
    refine wp_bn.mpr (wp_mono (step_t hN ht g1) ?_)
    rintro _ t2 ⟨g2, k2⟩
    rw [show (19 : Int32) = cI 20 from rfl]
    refine wp_bn.mpr (wp_mono (num_t (lo := 0) (m := 20) hN ht g2 (by omega) (by omega)) ?_)
    rintro r t3 ⟨hr, g3, k3⟩
    refine wp_bn.mpr (wp_mono (rc_add (k := 3) (y := tNum T e 0 20 (tStp T e (tWch T e 4 3 x))) (D := sD (sD D n 1 (nI (wich T e x.1 4 3 0))) n 2 (nI (vlS T e (tStp T e (tWch T e 4 3 x)).1))) (by omega) g3 ((k1.tr k2).tr k3) hs (fun z => ⟨rfl, ?_⟩)) fun _ t q => wp_some.mpr q)
    obtain ⟨rfl, -, hv⟩ := hr z
    have z2 := (tNum_z z).1
    have hw := (tWch_z (Classical.byContradiction fun y => by
      rw [tStp_f y] at z2
      exact y z2 : (tWch T e 4 3 x).2.1 = 0)).2
    refine ⟨fun _ => Or.inr (Or.inl ⟨rfl, ?_, wich T e x.1 4 3 0, vlS T e (tStp T e (tWch T e 4 3 x)).1 + 1, by omega, by omega, if_neg (by omega), ?_, (cI_s _).symm, ?_⟩), fun q => by cases q⟩
    · rw [sD_o (by omega), sD_o (by omega), hD]
    · rw [sD_o (by omega), sD_e]
    · rw [sD_e, cI_s]
theorem loop_c {N e n E g : Nat} {T : Nat → Nat} {x : TX} {D : DG} {σ : Ms} {K : Unit → Ms → Option (Unit × Ms)} {P : Unit → Ms → Prop} (hN : 1000 < N) (ht : TT T e) (h : TC T e x σ) (hs : SB n E g σ) (hD : D n 0 = nI 6) (hK : ∀ t, RC T e n E g 6 (aLoopT T e n x D).1 (aLoopT T e n x D).2 σ t → wp (K () t) P) : wp (bn (F8_takeNumber N (1 : Int32) (99 : Int32) σ) (fun r17 t18 => bn (F5_add 69 (nI 6) r17 (0 : Int32) (0 : Int32) t18) K)) P := by
  rw [show (99 : Int32) = cI 100 from rfl, show (1 : Int32) = nI 1 from rfl]
  refine wp_bn.mpr (wp_mono (num_t (lo := 1) (m := 100) hN ht h (by omega) (by omega)) ?_)
  rintro r t2 ⟨hr, g2, k2⟩
  refine wp_bn.mpr (wp_mono (rc_add (k := 6) (y := (aLoopT T e n x D).1) (D := (aLoopT T e n x D).2) (by omega) g2 k2 hs (fun z => ⟨rfl, ?_⟩)) fun _ t q => hK t q)
  have z' : (tNum T e 1 100 x).2.1 = 0 := z
  obtain ⟨rfl, hl, hv⟩ := hr z'
  refine ⟨fun q => (by cases q), fun _ => Or.inr ⟨rfl, ?_, vlS T e x.1, hl, by omega, rfl, ?_⟩⟩
  · show sD _ n 1 _ n 0 = nI 6
    rw [sD_o (by omega), hD]
  · show sD _ n 1 _ n 1 = _
    rw [sD_e]
theorem aCmp_st {T : Nat → Nat} {e : Nat} {x : TX} : aCmp T e x = tStp T e (if aSg T e x = 3 then tRef T e 2 x else x) := by
  unfold aCmp tMust
  by_cases q : aSg T e x = 3
  · rw [if_pos q, decide_eq_false (fun z => z q), if_neg (by decide), tStp_f (tRef_n x (by omega))]
  · rw [if_neg q, decide_eq_true q, if_pos (by rfl)]
theorem cmp_t {N e : Nat} {T : Nat → Nat} {x : TX} {τ : Ms} (hN : 1000 < N) (ht : TT T e) (h : TC T e x τ) : wp (F6_takeComparison N τ) fun r τ' => r = wI 3 (aSg T e x) ∧ TC T e (aCmp T e x) τ' ∧ K20 τ τ' := by
  have hle : aSg T e x ≤ 3 := by
    unfold aSg
    repeat' split
    all_goals omega
  rw [aCmp_st]
  have en : wp (F6_takeComparison_b40 N (wI 3 (aSg T e x)) τ) fun r τ' => r = wI 3 (aSg T e x) ∧ TC T e (tStp T e (if aSg T e x = 3 then tRef T e 2 x else x)) τ' ∧ K20 τ τ' := by
    unfold F6_takeComparison_b40 F6_takeComparison_b51
    by_cases q : aSg T e x = 3
    · rw [if_pos q, q, show wI 3 3 = -nI 1 from if_pos rfl, if_neg (by exact fun z => z rfl)]
      refine wp_bn.mpr (wp_mono (refuse_t h (w := 2) (by omega) (by omega)) ?_)
      rintro _ t ⟨g1, g2⟩
      refine wp_bn.mpr (wp_mono (step_t hN ht g1) ?_)
      rintro _ t' ⟨g3, g4⟩
      exact wp_some.mpr ⟨rfl, g3, g2.tr g4⟩
    · have e1 : wI 3 (aSg T e x) = nI (aSg T e x) := if_neg q
      rw [if_neg q, e1, if_pos (by exact fun z => (u_eqm (a := aSg T e x) (by omega)).mp z)]
      refine wp_bn.mpr (wp_mono (step_t hN ht h) ?_)
      rintro _ t ⟨g1, g2⟩
      exact wp_some.mpr ⟨rfl, g1, g2⟩
  unfold F6_takeComparison
  rw [show (60 : Int32) = nI 60 from rfl, show (62 : Int32) = nI 62 from rfl, show (61 : Int32) = nI 61 from rfl, mark_t ht h (by omega), bn_s]
  unfold aSg at *
  cases h0 : isMk T e x.1 60
  rotate_left
  · rw [h0] at en
    exact en
  rw [h0, if_neg (by decide)] at en
  rw [if_pos (by rfl), if_neg (by decide), mark_t ht h (by omega), bn_s]
  cases h1 : isMk T e x.1 62
  rotate_left
  · rw [h1] at en
    exact en
  rw [h1, if_neg (by decide)] at en
  rw [if_pos (by rfl), if_neg (by decide), mark_t ht h (by omega), bn_s]
  cases h2 : isMk T e x.1 61
  rotate_left
  · rw [h2] at en
    exact en
  rw [h2, if_neg (by decide)] at en
  exact en
theorem test_c {N e : Nat} {T : Nat → Nat} {x : TX} {τ : Ms} (hN : 1000 < N) (ht : TT T e) (h : TC T e x τ) : F6_testHere N τ = some (wI 4 (wich T e x.1 18 4 0), τ) := by
  unfold F6_testHere
  rw [word_t hN ht h (by omega), bn_s]
  unfold wich wich wich wich wich
  dsimp only [Nat.add_zero, Nat.reduceAdd]
  cases h0 : isWd T e x.1 18
  rotate_left
  · rfl
  rw [if_pos (by rfl), if_neg (by decide), word_t hN ht h (by omega), bn_s]
  cases h1 : isWd T e x.1 19
  rotate_left
  · rfl
  rw [if_pos (by rfl), if_neg (by decide), word_t hN ht h (by omega), bn_s]
  cases h2 : isWd T e x.1 20
  rotate_left
  · rfl
  rw [if_pos (by rfl), if_neg (by decide), word_t hN ht h (by omega), bn_s]
  cases h3 : isWd T e x.1 21 <;> rfl
theorem kind_c {N e : Nat} {T : Nat → Nat} {x : TX} {τ : Ms} (hN : 1000 < N) (ht : TT T e) (h : TC T e x τ) : F6_kindHere N τ = some (wI 8 (kdW T e x), τ) := by
  unfold F6_kindHere kdW
  rw [word_t hN ht h (by omega), bn_s]
  unfold wich wich wich wich wich wich wich wich wich
  dsimp only [Nat.add_zero, Nat.reduceAdd]
  cases h0 : isWd T e x.1 10
  rotate_left
  · rfl
  rw [if_pos (by rfl), if_neg (by decide), word_t hN ht h (by omega), bn_s]
  cases h1 : isWd T e x.1 11
  rotate_left
  · rfl
  rw [if_pos (by rfl), if_neg (by decide), word_t hN ht h (by omega), bn_s]
  cases h2 : isWd T e x.1 12
  rotate_left
  · rfl
  rw [if_pos (by rfl), if_neg (by decide), word_t hN ht h (by omega), bn_s]
  cases h3 : isWd T e x.1 13
  rotate_left
  · rfl
  rw [if_pos (by rfl), if_neg (by decide), word_t hN ht h (by omega), bn_s]
  cases h4 : isWd T e x.1 14
  rotate_left
  · rfl
  rw [if_pos (by rfl), if_neg (by decide), word_t hN ht h (by omega), bn_s]
  cases h5 : isWd T e x.1 15
  rotate_left
  · rfl
  rw [if_pos (by rfl), if_neg (by decide), word_t hN ht h (by omega), bn_s]
  cases h6 : isWd T e x.1 16
  rotate_left
  · rfl
  rw [if_pos (by rfl), if_neg (by decide), word_t hN ht h (by omega), bn_s]
  cases h7 : isWd T e x.1 17 <;> rfl
theorem aSg_v {T : Nat → Nat} {e : Nat} {x : TX} (h : aSg T e x ≠ 3) : T x.1 = chr (aSg T e x) := by
  have mk : ∀ c, isMk T e x.1 c = true → T x.1 = c := fun c hc => by
    unfold isMk at hc
    simp only [Bool.and_eq_true, decide_eq_true_eq] at hc
    exact hc.2
  unfold aSg at *
  by_cases h0 : isMk T e x.1 60 = true
  · rw [if_pos h0]
    exact mk 60 h0
  rw [if_neg h0] at *
  by_cases h1 : isMk T e x.1 62 = true
  · rw [if_pos h1]
    exact mk 62 h1
  rw [if_neg h1] at *
  by_cases h2 : isMk T e x.1 61 = true
  · rw [if_pos h2]
    exact mk 61 h2
  · rw [if_neg h2] at h
    exact absurd rfl h
theorem when_c {N e n E g : Nat} {T : Nat → Nat} {x : TX} {D : DG} {σ : Ms} (hN : 1000 < N) (ht : TT T e) (h : TC T e x σ) (hs : SB n E g σ) (hD : D n 0 = nI 5) : wp (F6_parseWhen N 69 σ) fun _ t => RC T e n E g 5 (aWhenT T e n x D).1 (aWhenT T e n x D).2 σ t := by
  have hwl := (wich_le (T := T) (e := e) (s := x.1) (i := 18) 4 0).2
  unfold F6_parseWhen
  rw [test_c hN ht h, bn_s]
  have head : ∀ t13 : Ms, TC T e (if wich T e x.1 18 4 0 = 4 then tRef T e 2 x else x) t13 → K20 σ t13 → wp (F6_parseWhen_b15 N 69 (wI 4 (wich T e x.1 18 4 0)) t13) fun _ t => RC T e n E g 5 (aWhenT T e n x D).1 (aWhenT T e n x D).2 σ t := fun t13 g0 k0 => by
    unfold F6_parseWhen_b15
    refine wp_bn.mpr (wp_mono (step_t hN ht g0) ?_)
    rintro _ t1 ⟨g1, k1⟩
    have g1' : TC T e (tWch T e 18 4 x) t1 := g1
    have k01 := k0.tr k1
    have add5 : ∀ (y : TX) (G : DG) (v c : Int32) (t : Ms), TC T e y t → K20 σ t → y = (aWhenT T e n x D).1 → G = (aWhenT T e n x D).2 → (y.2.1 = 0 → vO 5 (wI 4 (wich T e x.1 18 4 0)) v c G n) → wp (F6_parseWhen_b110 N 69 (wI 4 (wich T e x.1 18 4 0)) c v t) fun _ t => RC T e n E g 5 (aWhenT T e n x D).1 (aWhenT T e n x D).2 σ t := fun y G v c t gy ky e1 e2 hv => by
      unfold F6_parseWhen_b110
      rw [← e1, ← e2]
      exact wp_bn.mpr (wp_mono (rc_add (k := 5) (y := y) (D := G) (by omega) gy ky hs (fun z => ⟨rfl, hv z⟩)) fun _ t q => wp_some.mpr q)
    by_cases q0 : wich T e x.1 18 4 0 = 0
    · have ew : aWhenT T e n x D = (tNum T e 0 20 (tWch T e 18 4 x), sD (sD D n 5 (nI 0)) n 1 (nI (vlS T e (tWch T e 18 4 x).1))) := if_pos q0
      have el : wI 4 (wich T e x.1 18 4 0) = nI 0 := by rw [q0]; rfl
      rw [el] at add5 ⊢
      rw [if_neg (by decide), if_pos (by decide)]
      unfold F6_parseWhen_b37
      rw [if_pos (by rfl), show (19 : Int32) = cI 20 from rfl]
      refine wp_bn.mpr (wp_mono (num_t (lo := 0) (m := 20) hN ht g1' (by omega) (by omega)) ?_)
      rintro r t2 ⟨hr, g2, k2⟩
      refine add5 _ (sD (sD D n 5 (nI 0)) n 1 (nI (vlS T e (tWch T e 18 4 x).1))) r _ t2 g2 (k01.tr k2) (by rw [ew]) (by rw [ew]) (fun z => ?_)
      obtain ⟨rfl, -, hv⟩ := hr z
      refine ⟨fun q => (by cases q), fun _ => Or.inl ⟨rfl, ?_, Or.inl ⟨rfl, ?_, vlS T e (tWch T e 18 4 x).1, hv, rfl, ?_⟩⟩⟩
      · rw [sD_o (by omega), sD_o (by omega), hD]
      · rw [sD_o (by omega), sD_e]
      · rw [sD_e]
    by_cases q3 : wich T e x.1 18 4 0 = 3
    · have ew : aWhenT T e n x D = (tWch T e 7 2 (tWch T e 18 4 x), sD (sD D n 5 (nI 3)) n 1 (nI (wich T e (tWch T e 18 4 x).1 7 2 0))) := (if_neg q0).trans (if_pos q3)
      have el : wI 4 (wich T e x.1 18 4 0) = nI 3 := by rw [q3]; rfl
      rw [el] at add5 ⊢
      rw [if_neg (by decide), if_pos (by decide)]
      unfold F6_parseWhen_b37
      rw [if_neg (by decide), if_neg (by decide), if_neg (by decide)]
      refine wp_bn.mpr (wp_mono (side_t hN ht g1') ?_)
      rintro _ t2 ⟨rfl, g2, k2⟩
      refine add5 _ (sD (sD D n 5 (nI 3)) n 1 (nI (wich T e (tWch T e 18 4 x).1 7 2 0))) _ _ t2 g2 (k01.tr k2) (by rw [ew]) (by rw [ew]) (fun z => ?_)
      have hw := (tWch_z z).2
      refine ⟨fun q => (by cases q), fun _ => Or.inl ⟨rfl, ?_, Or.inr (Or.inl ⟨rfl, ?_, wich T e (tWch T e 18 4 x).1 7 2 0, hw, if_neg (by omega), ?_⟩)⟩⟩
      · rw [sD_o (by omega), sD_o (by omega), hD]
      · rw [sD_o (by omega), sD_e]
      · rw [sD_e]
    by_cases q4 : wich T e x.1 18 4 0 = 4
    · have ew : aWhenT T e n x D = (tWch T e 18 4 x, D) := (if_neg q0).trans ((if_neg q3).trans (if_pos q4))
      have el : wI 4 (wich T e x.1 18 4 0) = -nI 1 := by rw [q4]; rfl
      have hf : (tWch T e 18 4 x).2.1 ≠ 0 := fun z => by
        have := (tWch_z z).2
        omega
      rw [el] at add5 ⊢
      rw [if_neg (by decide), if_pos (by decide)]
      unfold F6_parseWhen_b37
      rw [if_neg (by decide), if_neg (by decide), if_neg (by decide)]
      refine wp_bn.mpr (wp_mono (side_t hN ht g1') ?_)
      rintro _ t2 ⟨rfl, g2, k2⟩
      rw [tWch_f hf] at g2
      exact add5 _ D _ _ t2 g2 (k01.tr k2) (by rw [ew]) (by rw [ew]) (fun z => absurd z hf)
    have hT : wich T e x.1 18 4 0 = 1 ∨ wich T e x.1 18 4 0 = 2 := by omega
    have ew : aWhenT T e n x D = (tNum T e 0 (if wich T e x.1 18 4 0 = 1 then 21 else 32) (aCmp T e (tWch T e 18 4 x)), sD (sD (sD D n 5 (nI (wich T e x.1 18 4 0))) n 7 (nI (T (tWch T e 18 4 x).1))) n 6 (nI (vlS T e (aCmp T e (tWch T e 18 4 x)).1))) := (if_neg q0).trans ((if_neg q3).trans (if_neg q4))
    have el : wI 4 (wich T e x.1 18 4 0) = nI (wich T e x.1 18 4 0) := if_neg q4
    have b29 : ∀ t : Nat, t = wich T e x.1 18 4 0 → wp (F6_parseWhen_b29 N 69 (nI t) t1) fun _ t => RC T e n E g 5 (aWhenT T e n x D).1 (aWhenT T e n x D).2 σ t := fun tt ett => by
      unfold F6_parseWhen_b29
      refine wp_bn.mpr (wp_mono (cmp_t hN ht g1') ?_)
      rintro _ t2 ⟨rfl, g2, k2⟩
      have k02 := k01.tr k2
      have fin2 : ∀ r t3, ((tNum T e 0 (if wich T e x.1 18 4 0 = 1 then 21 else 32) (aCmp T e (tWch T e 18 4 x))).2.1 = 0 → r = nI (vlS T e (aCmp T e (tWch T e 18 4 x)).1) ∧ 0 ≤ vlS T e (aCmp T e (tWch T e 18 4 x)).1 ∧ vlS T e (aCmp T e (tWch T e 18 4 x)).1 < (if wich T e x.1 18 4 0 = 1 then 21 else 32)) → TC T e (tNum T e 0 (if wich T e x.1 18 4 0 = 1 then 21 else 32) (aCmp T e (tWch T e 18 4 x))) t3 → K20 t2 t3 → wp (F6_parseWhen_b110 N 69 (nI tt) (wI 3 (aSg T e (tWch T e 18 4 x))) r t3) fun _ t => RC T e n E g 5 (aWhenT T e n x D).1 (aWhenT T e n x D).2 σ t := fun r t3 hr g3 k3 => by
        rw [el] at add5
        rw [ett]
        refine add5 _ (sD (sD (sD D n 5 (nI (wich T e x.1 18 4 0))) n 7 (nI (T (tWch T e 18 4 x).1))) n 6 (nI (vlS T e (aCmp T e (tWch T e 18 4 x)).1))) r _ t3 g3 (k02.tr k3) (by rw [ew]) (by rw [ew]) (fun z => ?_)
        obtain ⟨rfl, -, hv⟩ := hr z
        have zc := (tNum_z z).1
        have hs3 : aSg T e (tWch T e 18 4 x) ≠ 3 := fun y => by
          rw [aCmp_st, if_pos y, tStp_f (tRef_n _ (by omega))] at zc
          exact tRef_n _ (by omega) zc
        have hsl : aSg T e (tWch T e 18 4 x) < 3 := by
          have : aSg T e (tWch T e 18 4 x) ≤ 3 := by
            unfold aSg
            repeat' split
            all_goals omega
          omega
        have hv31 : vlS T e (aCmp T e (tWch T e 18 4 x)).1 ≤ 31 := by
          split at hv <;> omega
        refine ⟨fun q => (by cases q), fun _ => Or.inl ⟨rfl, ?_, Or.inr (Or.inr ⟨wich T e x.1 18 4 0, vlS T e (aCmp T e (tWch T e 18 4 x)).1, aSg T e (tWch T e 18 4 x), hT, hv31, hsl, rfl, ?_, rfl, ?_, if_neg hs3, ?_⟩)⟩⟩
        · rw [sD_o (by omega), sD_o (by omega), sD_o (by omega), hD]
        · rw [sD_o (by omega), sD_o (by omega), sD_e]
        · rw [sD_e]
        · rw [sD_o (by omega), sD_e, aSg_v hs3]
          rfl
      unfold F6_parseWhen_b37
      rcases hT with h1 | h1
      · rw [ett, h1, if_neg (by decide), if_pos (show nI 1 = (1 : Int32) from rfl), show (20 : Int32) = cI 21 from rfl]
        rw [h1, if_pos (show (1 : Nat) = 1 from rfl)] at fin2
        rw [ett, h1] at fin2
        refine wp_bn.mpr (wp_mono (num_t (lo := 0) (m := 21) hN ht g2 (by omega) (by omega)) ?_)
        rintro r t3 ⟨hr, g3, k3⟩
        exact fin2 r t3 hr g3 k3
      · rw [ett, h1, if_neg (by decide), if_neg (by decide), if_pos (show nI 2 = (2 : Int32) from rfl), show (31 : Int32) = cI 32 from rfl]
        rw [h1, if_neg (show ¬ (2 : Nat) = 1 by decide)] at fin2
        rw [ett, h1] at fin2
        refine wp_bn.mpr (wp_mono (num_t (lo := 0) (m := 32) hN ht g2 (by omega) (by omega)) ?_)
        rintro r t3 ⟨hr, g3, k3⟩
        exact fin2 r t3 hr g3 k3
    rw [el]
    rcases hT with h1 | h1
    · have b := b29 1 h1.symm
      rw [h1, if_pos (show nI 1 = (1 : Int32) from rfl)]
      exact b
    · have b := b29 2 h1.symm
      rw [h1, if_neg (by decide), if_neg (by exact fun z => z rfl)]
      exact b
  by_cases q4 : wich T e x.1 18 4 0 = 4
  · have el : wI 4 (wich T e x.1 18 4 0) = -nI 1 := by rw [q4]; rfl
    rw [if_pos q4] at head
    rw [el] at head ⊢
    rw [if_neg (by exact fun z => z rfl)]
    refine wp_bn.mpr (wp_mono (refuse_t h (w := 2) (by omega) (by omega)) ?_)
    rintro _ t ⟨g1, g2⟩
    exact head t g1 g2
  · have el : wI 4 (wich T e x.1 18 4 0) = nI (wich T e x.1 18 4 0) := if_neg q4
    rw [if_neg q4] at head
    rw [el] at head ⊢
    rw [if_pos (by exact fun z => (u_eqm (a := wich T e x.1 18 4 0) (by omega)).mp z)]
    exact head σ h (K20.rf σ)
