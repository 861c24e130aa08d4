/-- the model's text -/
def TMx (T : Nat → Nat) (e : Nat) (x : TX) (τ : Ms) : Prop := MM T e τ ∧ ME T e x.1 τ ∧ x.1 ≤ e ∧ τ.1 0 12 = nI x.2.1 ∧ (x.2.1 ≠ 0 → τ.1 0 13 = nI x.2.2) ∧ x.2.1 < 100
def K00 (σ τ : Ms) : Prop := (∀ k j, k ≠ 0 → τ.1 k j = σ.1 k j) ∧ τ.1 0 22 = σ.1 0 22 ∧ ∀ j, j < 9 → τ.1 0 j = σ.1 0 j
theorem K00.rf (σ : Ms) : K00 σ σ := ⟨fun _ _ _ => rfl, rfl, fun _ _ => rfl⟩
theorem K00.tr {a b c : Ms} (h : K00 a b) (h' : K00 b c) : K00 a c := ⟨fun k j hk => (h'.1 k j hk).trans (h.1 k j hk), h'.2.1.trans h.2.1, fun j hj => (h'.2.2 j hj).trans (h.2.2 j hj)⟩
theorem K00.fr {W : List (Nat × Option Nat)} {σ τ : Ms} (F : Fr W σ τ) (hW : ∀ w ∈ W, w.1 = 0 ∧ w.2 ≠ none ∧ w.2 ≠ some 22 ∧ ∀ j, j < 9 → w.2 ≠ some j) : K00 σ τ := by
  have g : ∀ i, (i = 22 ∨ i < 9) → τ.1 0 i = σ.1 0 i := fun i hi => F.1 0 i fun ⟨w, hw, e1, e2⟩ => by
    obtain ⟨-, h1, h2, h3⟩ := hW w hw
    cases hc : w.2 with
    | none => exact h1 hc
    | some s =>
      have hs := e2 s hc
      rcases hi with hi | hi
      · exact h2 (by rw [hc, hs, hi])
      · exact h3 i hi (by rw [hc, hs])
  exact ⟨fun k j hk => F.1 k j fun ⟨w, hw, e1, _⟩ => hk (by rw [← e1]; exact (hW w hw).1), g 22 (Or.inl rfl), fun j hj => g j (Or.inr hj)⟩
theorem K00.s {σ : Ms} {j : Nat} {v : Int32} (h : j ≠ 22 ∧ 9 ≤ j) : K00 σ (sI σ 0 j v) := ⟨fun k i hk => rI_k hk, rI_j (Ne.symm h.1), fun i hi => rI_j (by omega)⟩
theorem ME.s {T : Nat → Nat} {e s j : Nat} {v : Int32} {τ : Ms} (h : ME T e s τ) (hj : j < 14) : ME T e s (sI τ 0 j v) := ⟨by rw [rI_j (by omega)]; exact h.1, by rw [rI_j (by omega)]; exact h.2.1, by rw [rI_j (by omega)]; exact h.2.2.1, fun z => by rw [rI_j (by omega)]; exact h.2.2.2.1 z, fun z => by rw [rI_j (by omega)]; exact h.2.2.2.2.1 z, h.2.2.2.2.2⟩
theorem adv_t {N e : Nat} {T : Nat → Nat} {x : TX} {τ : Ms} (hN : 1000 < N) (ht : TT T e) (h : TMx T e x τ) (q : x.2.1 = 0) : wp (F12_advance N τ) fun _ τ' => TMx T e (tStp T e x) τ' ∧ K00 τ τ' := by
  obtain ⟨hb, he, hx, h2, h3, h100⟩ := h
  have hh := hdS_le (T := T) hx
  refine wp_mono (advance_m hN ht hb hh.2.1 he.2.2.1) ?_
  rintro _ t ⟨g1, hF⟩
  have e9 : t.1 0 9 = τ.1 0 9 := (hF.keep (D := [(0, some 9)]) rfl (In_o 0 rfl)).1
  have e12 : t.1 0 12 = τ.1 0 12 := (hF.keep (D := [(0, some 12)]) rfl (In_o 0 rfl)).1
  have hk := K00.fr hF (by decide)
  unfold tStp
  rw [if_pos q]
  exact ⟨⟨⟨e9.trans hb.1, fun j hj => by rw [hk.1 _ _ (by omega)]; exact hb.2 j hj⟩, g1, (tS_le hh.2.1).2, e12.trans h2, fun z => absurd q z, h100⟩, hk⟩
theorem TMx.f {T : Nat → Nat} {e : Nat} {x : TX} {τ : Ms} (h : TMx T e x τ) : (τ.1 0 12 ≤ 0 ↔ x.2.1 = 0) ∧ (0 < τ.1 0 12 ↔ x.2.1 ≠ 0) ∧ (τ.1 0 12 ≠ 0 ↔ x.2.1 ≠ 0) := by
  have := h.2.2.2.2.2
  rw [h.2.2.2.1]
  by_cases q : x.2.1 = 0
  · rw [q]
    exact ⟨⟨fun _ => rfl, fun _ => by decide⟩, ⟨fun z => absurd z (by decide), fun z => absurd rfl z⟩, ⟨fun z => absurd rfl z, fun z => absurd rfl z⟩⟩
  · refine ⟨⟨fun z => absurd z (nI_ge (a := 0) (by omega) (by omega)), fun z => absurd z q⟩, ⟨fun _ => q, fun _ => nI_lt (a := 0) (by omega) (by omega)⟩, ⟨fun _ => q, fun _ z => q ((nI_eq (b := 0) (by omega) (by omega)).mp z)⟩⟩
/-- a fault told -/
theorem fail_t {e w : Nat} {T : Nat → Nat} {x : TX} {τ : Ms} (h : TMx T e x τ) (hw : 0 < w) (hw' : w < 100) (hk : kdS T e x.1 = 4 → w = 1) : wp (F12_fail (nI w) (τ.1 0 15) τ) fun _ τ' => TMx T e (tRef T e w x) τ' ∧ K00 τ τ' := by
  have hf := h.f.1
  unfold F12_fail tRef
  by_cases q : x.2.1 = 0
  · rw [if_pos (hf.mpr q), if_pos q, lt_e, lt_e]
    obtain ⟨hb, he, hx, h2, h3, h100⟩ := h
    have ew : (if kdS T e x.1 = 4 then 1 else w) = w := by
      by_cases z : kdS T e x.1 = 4
      · rw [if_pos z, hk z]
      · rw [if_neg z]
    rw [ew]
    refine wp_some.mpr ⟨⟨(hb.s (by omega)).s (by omega), (he.s (by omega)).s (by omega), hx, ?_, fun _ => ?_, hw'⟩, (K00.s (by omega)).tr (K00.s (by omega))⟩
    · rw [rI_j (by omega), rI_e rfl rfl]
    · rw [rI_e rfl rfl, he.2.1]
  · rw [if_neg (fun z => q (hf.mp z)), if_neg q]
    exact wp_some.mpr ⟨h, K00.rf τ⟩
theorem tRef_12 {T : Nat → Nat} {e : Nat} {x : TX} (h : kdS T e x.1 = 4) : tRef T e 1 x = tRef T e 2 x := by
  unfold tRef
  rw [if_pos h, if_pos h]
theorem amiss_t {e : Nat} {T : Nat → Nat} {x : TX} {τ : Ms} (h : TMx T e x τ) : wp (F12_amiss τ) fun _ τ' => TMx T e (tRef T e 2 x) τ' ∧ K00 τ τ' := by
  have hk5 := kdS_lt T e x.1
  unfold F12_amiss F12_amiss_b14
  rw [h.2.1.1]
  by_cases q : kdS T e x.1 = 4
  · rw [q, if_neg (by exact fun z => z rfl), ← tRef_12 q]
    exact wp_bn.mpr (wp_mono (fail_t h (w := 1) (by omega) (by omega) (fun _ => rfl)) fun _ t g => wp_some.mpr g)
  · rw [if_pos (by exact fun z => q ((nI_eq (b := 4) (by omega) (by omega)).mp z))]
    exact wp_bn.mpr (wp_mono (fail_t h (w := 2) (by omega) (by omega) (fun z => absurd z q)) fun _ t g => wp_some.mpr g)
theorem must_t {N e : Nat} {b : Bool} {T : Nat → Nat} {x : TX} {τ : Ms} (hN : 1000 < N) (ht : TT T e) (h : TMx T e x τ) : wp (F12_must N (bI b) τ) fun _ τ' => TMx T e (tMust T e b x) τ' ∧ K00 τ τ' := by
  have hf := h.f.1
  unfold F12_must
  by_cases q : x.2.1 = 0
  rotate_left
  · rw [if_neg (fun z => q (hf.mp z)), tMust_f q]
    exact wp_some.mpr ⟨h, K00.rf τ⟩
  rw [if_pos (hf.mpr q)]
  unfold tMust
  cases b
  · rw [if_pos (by rfl), if_neg (by decide)]
    exact wp_bn.mpr (wp_mono (amiss_t h) fun _ t g => wp_some.mpr g)
  · rw [if_neg (by decide), if_pos (by rfl)]
    exact wp_bn.mpr (wp_mono (adv_t hN ht h q) fun _ t g => wp_some.mpr g)
theorem mark_m {e c : Nat} {T : Nat → Nat} {x : TX} {τ : Ms} (h : TMx T e x τ) (hc : c < 128) : F12_isSign (nI c) τ = some (bI (isMk T e x.1 c), τ) := by
  have hk5 := kdS_lt T e x.1
  unfold F12_isSign isMk
  rw [h.2.1.1]
  by_cases q : kdS T e x.1 = 3
  rotate_left
  · rw [if_pos (by exact fun z => q ((nI_eq (b := 3) (by omega) (by omega)).mp z)), decide_eq_false q]
    rfl
  have h3 := kd3 q
  rw [q, if_neg (by exact fun z => z rfl), h.2.1.2.2.2.2.1 q, decide_eq_true rfl, Bool.true_and]
  by_cases q2 : T x.1 = c
  · rw [q2, if_neg (by exact fun z => z rfl), decide_eq_true rfl]
    rfl
  · rw [if_pos (by exact fun z => q2 ((nI_eq (by omega) (by omega)).mp z)), decide_eq_false q2]
    rfl
theorem close_m {N e : Nat} {T : Nat → Nat} {x : TX} {τ : Ms} {A : Type} {K : Unit → Ms → Option (A × Ms)} {P : A → Ms → Prop} (hN : 1000 < N) (ht : TT T e) (h : TMx T e x τ) (hK : ∀ t, TMx T e (tMust T e (isMk T e x.1 59) x) t → K00 τ t → wp (K () t) P) : wp (bn (F12_isSign (59 : Int32) τ) fun r t => bn (F12_must N r t) K) P := by
  rw [show (59 : Int32) = nI 59 from rfl, mark_m h (by omega), bn_s]
  exact wp_bn.mpr (wp_mono (must_t hN ht h) fun _ t g => hK t g.1 g.2)
def tMay (T : Nat → Nat) (e lo m : Nat) (x : TX) : TX := if kdS T e x.1 = 2 then (if lo ≤ vlS T e x.1 ∧ vlS T e x.1 < m then x else tRef T e 4 x) else tRef T e 2 x
theorem tMay_f {T : Nat → Nat} {e lo m : Nat} {x : TX} (h : x.2.1 ≠ 0) : tMay T e lo m x = x := by
  unfold tMay
  rw [tRef_f h, tRef_f h, ite_self, ite_self]
theorem tNum_may {T : Nat → Nat} {e lo m : Nat} {x : TX} : tNum T e lo m x = tStp T e (tMay T e lo m x) := rfl
theorem cI_int {m : Nat} (h : m < 1000) : (cI m).toInt = (m : Int) - 1 := by
  rcases Nat.eq_zero_or_pos m with z | z
  · subst z
    rfl
  · rw [show m = (m - 1) + 1 by omega, cI_s, nI_toInt (by omega)]
    omega
theorem may_t {e lo m : Nat} {T : Nat → Nat} {x : TX} {τ : Ms} (ht : TT T e) (h : TMx T e x τ) (hl : lo < 100) (hm : m < 1000) : wp (F12_mayBe (nI lo) (cI m) τ) fun _ τ' => TMx T e (tMay T e lo m x) τ' ∧ K00 τ τ' := by
  have hf := h.f
  have hk5 := kdS_lt T e x.1
  unfold F12_mayBe F12_mayBe_b19
  by_cases q : x.2.1 = 0
  rotate_left
  · rw [if_pos (hf.2.2.mpr q), if_pos (hf.2.2.mpr q), tMay_f q]
    exact wp_some.mpr ⟨h, K00.rf τ⟩
  rw [if_neg (fun z => hf.2.2.mp z q), h.2.1.1]
  unfold tMay
  by_cases q2 : kdS T e x.1 = 2
  rotate_left
  · rw [if_neg (by exact fun z => q2 ((nI_eq (b := 2) (by omega) (by omega)).mp z)), if_neg q2]
    refine wp_bn.mpr (wp_mono (amiss_t h) ?_)
    rintro _ t ⟨g1, g2⟩
    rw [if_pos (g1.f.2.2.mpr (tRef_n x (by omega)))]
    exact wp_some.mpr ⟨g1, g2⟩
  have hv := vl_lt ht q2
  rw [q2, if_pos (show nI 2 = (2 : Int32) from rfl), if_neg (fun z => hf.2.2.mp z q), isIn_ok, Int32.toInt_toInt64, Int32.toInt_toInt64, Int32.toInt_toInt64, h.2.1.2.2.2.1 q2, nI_toInt (by omega), nI_toInt (by omega), cI_int hm, bn_s, if_pos (show (2 : Nat) = 2 from rfl)]
  by_cases q3 : lo ≤ vlS T e x.1 ∧ vlS T e x.1 < m
  · rw [if_pos (show (lo : Int) ≤ (vlS T e x.1 : Int) ∧ (vlS T e x.1 : Int) ≤ (m : Int) - 1 by omega), if_pos (by decide), if_pos q3]
    exact wp_some.mpr ⟨h, K00.rf τ⟩
  · rw [if_neg (show ¬ ((lo : Int) ≤ (vlS T e x.1 : Int) ∧ (vlS T e x.1 : Int) ≤ (m : Int) - 1) by omega), if_neg (by decide), if_neg q3]
    exact wp_bn.mpr (wp_mono (fail_t h (w := 4) (by omega) (by omega) (fun z => by omega)) fun _ t g => wp_some.mpr g)
theorem count_t {N e lo m : Nat} {T : Nat → Nat} {x : TX} {τ : Ms} (hN : 1000 < N) (ht : TT T e) (h : TMx T e x τ) (hl : lo < 100) (hm : m < 1000) : wp (F12_count N (nI lo) (cI m) τ) fun r τ' => ((tNum T e lo m x).2.1 = 0 → r = nI (vlS T e x.1)) ∧ TMx T e (tNum T e lo m x) τ' ∧ K00 τ τ' := by
  unfold F12_count
  rw [tNum_may]
  refine wp_bn.mpr (wp_mono (may_t ht h hl hm) ?_)
  rintro _ t ⟨g1, g2⟩
  by_cases q : (tMay T e lo m x).2.1 = 0
  rotate_left
  · rw [if_neg (fun z => q (g1.f.1.mp z)), tStp_f q]
    exact wp_some.mpr ⟨fun z => absurd z q, g1, g2⟩
  rw [if_pos (g1.f.1.mpr q), lt_e]
  have hx : x.2.1 = 0 ∧ kdS T e x.1 = 2 ∧ tMay T e lo m x = x := by
    by_cases z : x.2.1 = 0
    rotate_left
    · rw [tMay_f z] at q
      exact absurd q z
    refine ⟨z, ?_⟩
    unfold tMay at q ⊢
    by_cases z2 : kdS T e x.1 = 2
    · rw [if_pos z2] at q ⊢
      by_cases z3 : lo ≤ vlS T e x.1 ∧ vlS T e x.1 < m
      · rw [if_pos z3]
        exact ⟨z2, rfl⟩
      · rw [if_neg z3] at q
        exact absurd q (tRef_n x (by omega))
    · rw [if_neg z2] at q
      exact absurd q (tRef_n x (by omega))
  rw [hx.2.2] at g1 ⊢
  rw [g1.2.1.2.2.2.1 hx.2.1]
  refine wp_bn.mpr (wp_mono (adv_t hN ht g1 hx.1) ?_)
  rintro _ t' ⟨g3, g4⟩
  exact wp_some.mpr ⟨fun _ => rfl, g3, g2.tr g4⟩
theorem tWch_must {T : Nat → Nat} {e i m : Nat} {x : TX} : tWch T e i m x = tMust T e (decide (wich T e x.1 i m 0 ≠ m)) x := by
  unfold tWch tMust
  by_cases q : wich T e x.1 i m 0 = m
  · rw [if_pos q, decide_eq_false (fun z => z q), if_neg (by decide), tStp_f (tRef_n x (by omega))]
  · rw [if_neg q, decide_eq_true q, if_pos (by rfl)]
theorem mwch {N e i m : Nat} {T : Nat → Nat} {x : TX} {τ : Ms} {K K' : Int32 → Ms → Option (Int32 × Ms)} (hN : 1000 < N) (ht : TT T e) (h : TMx T e x τ) (hm : m < 100) (hle : wich T e x.1 i m 0 ≤ m) (hK : ∀ a t, K a t = if a < 0 then bn (F12_must N (0 : Int32) t) (fun _ t2 => bn (FJ9_max_7cf53 (0 : Int32) a t2) (fun r3 t4 => some (r3, t4))) else bn (F12_must N (1 : Int32) t) (fun _ t2 => bn (FJ9_max_7cf53 (0 : Int32) a t2) (fun r3 t4 => some (r3, t4)))) (v : Int32) (hv : x.2.1 = 0 → v = wI m (wich T e x.1 i m 0)) (hv' : x.2.1 ≠ 0 → v = 0) : wp (K v τ) fun r τ' => ((tWch T e i m x).2.1 = 0 → r = nI (wich T e x.1 i m 0) ∧ wich T e x.1 i m 0 < m) ∧ TMx T e (tWch T e i m x) τ' ∧ K00 τ τ' := by
  rw [hK, tWch_must]
  have mx : ∀ (a : Int32) (t : Ms), ∃ r, FJ9_max_7cf53 (0 : Int32) a t = some (r, t) := fun a t => by
    unfold FJ9_max_7cf53
    split
    · exact ⟨_, rfl⟩
    · exact ⟨_, rfl⟩
  have go : ∀ (b : Bool), (b = decide (wich T e x.1 i m 0 ≠ m) ∨ x.2.1 ≠ 0) → (x.2.1 = 0 → b = true → v = nI (wich T e x.1 i m 0) ∧ wich T e x.1 i m 0 < m) → wp (bn (F12_must N (bI b) τ) (fun _ t2 => bn (FJ9_max_7cf53 (0 : Int32) v t2) (fun r3 t4 => some (r3, t4)))) fun r τ' => ((tMust T e (decide (wich T e x.1 i m 0 ≠ m)) x).2.1 = 0 → r = nI (wich T e x.1 i m 0) ∧ wich T e x.1 i m 0 < m) ∧ TMx T e (tMust T e (decide (wich T e x.1 i m 0 ≠ m)) x) τ' ∧ K00 τ τ' := fun b hb hvv => by
    refine wp_bn.mpr (wp_mono (must_t hN ht h) ?_)
    rintro _ t ⟨g1, g2⟩
    have e1 : tMust T e b x = tMust T e (decide (wich T e x.1 i m 0 ≠ m)) x := by
      rcases hb with hb | hb
      · rw [hb]
      · rw [tMust_f hb, tMust_f hb]
    rw [e1] at g1
    by_cases z : (tMust T e (decide (wich T e x.1 i m 0 ≠ m)) x).2.1 = 0
    rotate_left
    · obtain ⟨r, hr⟩ := mx v t
      rw [hr, bn_s]
      exact wp_some.mpr ⟨fun y => absurd y z, g1, g2⟩
    · have hx0 : x.2.1 = 0 := Classical.byContradiction fun y => by
        rw [tMust_f y] at z
        exact y z
      have hbt : b = true := by
        cases b
        · rw [← e1] at z
          unfold tMust at z
          rw [if_neg (by decide)] at z
          exact absurd z (tRef_n x (by omega))
        · rfl
      obtain ⟨h1, h2⟩ := hvv hx0 hbt
      rw [h1, max_n (show wich T e x.1 i m 0 < 2147483648 by omega), bn_s]
      exact wp_some.mpr ⟨fun _ => ⟨rfl, h2⟩, g1, g2⟩
  by_cases q : x.2.1 = 0
  rotate_left
  · rw [hv' q, if_neg (by decide)]
    have g := go true (Or.inr q) (fun z => absurd z q)
    rw [hv' q] at g
    exact g
  have hvq := hv q
  by_cases z : wich T e x.1 i m 0 = m
  · have e2 : v = -nI 1 := hvq.trans (if_pos z)
    have g := go false (Or.inl (by rw [decide_eq_false (fun y => y z)])) (fun _ y => by cases y)
    rw [e2] at g ⊢
    rw [if_pos (by decide)]
    exact g
  · have e2 : v = nI (wich T e x.1 i m 0) := hvq.trans (if_neg z)
    have g := go true (Or.inl (by rw [decide_eq_true z])) (fun _ _ => ⟨e2, by omega⟩)
    rw [e2] at g ⊢
    rw [if_neg (nI_pos (by omega))]
    exact g
theorem col_m {N e : Nat} {T : Nat → Nat} {x : TX} {τ : Ms} (hN : 1000 < N) (ht : TT T e) (h : TMx T e x τ) : wp (F12_readColour N τ) fun r τ' => ((tWch T e 4 3 x).2.1 = 0 → r = nI (wich T e x.1 4 3 0) ∧ wich T e x.1 4 3 0 < 3) ∧ TMx T e (tWch T e 4 3 x) τ' ∧ K00 τ τ' := by
  have en := fun v hv hv' => mwch (i := 4) (m := 3) (K := F12_readColour_b15 N) (K' := F12_readColour_b15 N) hN ht h (by omega) (wich_le 3 0).2 (fun a t => rfl) v hv hv'
  unfold F12_readColour
  by_cases q : x.2.1 = 0
  · rw [if_pos (h.f.1.mpr q), colour_m h.2.1, bn_s]
    exact en _ (fun _ => rfl) (fun z => absurd q z)
  · rw [if_neg (fun z => q (h.f.1.mp z))]
    exact en _ (fun z => absurd z q) (fun _ => rfl)
theorem sid_m {N e : Nat} {T : Nat → Nat} {x : TX} {τ : Ms} (hN : 1000 < N) (ht : TT T e) (h : TMx T e x τ) : wp (F12_readSide N τ) fun r τ' => ((tWch T e 7 2 x).2.1 = 0 → r = nI (wich T e x.1 7 2 0) ∧ wich T e x.1 7 2 0 < 2) ∧ TMx T e (tWch T e 7 2 x) τ' ∧ K00 τ τ' := by
  have en := fun v hv hv' => mwch (i := 7) (m := 2) (K := F12_readSide_b15 N) (K' := F12_readSide_b15 N) hN ht h (by omega) (wich_le 2 0).2 (fun a t => rfl) v hv hv'
  unfold F12_readSide
  by_cases q : x.2.1 = 0
  · rw [if_pos (h.f.1.mpr q), side_m h.2.1, bn_s]
    exact en _ (fun _ => rfl) (fun z => absurd q z)
  · rw [if_neg (fun z => q (h.f.1.mp z))]
    exact en _ (fun z => absurd z q) (fun _ => rfl)
theorem perh_t {N e : Nat} {b : Bool} {T : Nat → Nat} {x : TX} {τ : Ms} (hN : 1000 < N) (ht : TT T e) (h : TMx T e x τ) : wp (F12_perhaps N (bI b) τ) fun r τ' => r = bI (b && decide (x.2.1 = 0)) ∧ TMx T e (if b = true then tStp T e x else x) τ' ∧ K00 τ τ' := by
  unfold F12_perhaps
  by_cases q : x.2.1 = 0
  rotate_left
  · rw [if_pos (h.f.2.1.mpr q), decide_eq_false q, Bool.and_false, tStp_f q, ite_self]
    exact wp_some.mpr ⟨rfl, h, K00.rf τ⟩
  rw [if_neg (fun z => h.f.2.1.mp z q), decide_eq_true q, Bool.and_true]
  cases b
  · rw [if_neg (by exact fun z => z rfl), if_neg (by decide)]
    exact wp_some.mpr ⟨rfl, h, K00.rf τ⟩
  · rw [if_pos (by decide), if_pos (by rfl)]
    refine wp_bn.mpr (wp_mono (adv_t hN ht h q) ?_)
    rintro _ t ⟨g1, g2⟩
    exact wp_some.mpr ⟨rfl, g1, g2⟩
