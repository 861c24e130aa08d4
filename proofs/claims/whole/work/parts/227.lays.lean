/-- heaps -/
def WH (m : Nat) (hp : Nat → Nat) : Prop := m ≤ 4 ∧ ∀ i, i < m → hp i ≤ 15
def RH (h m : Nat) (hp : Nat → Nat) (σ : Ms) : Prop := σ.1 h 7 = nI m ∧ ∀ i, i < m → σ.1 (h + 3) i = nI (hp i)
def MH (B m : Nat) (hp : Nat → Nat) (σ : Ms) : Prop := σ.1 5 (B + 1) = nI m ∧ ∀ i, i < m → σ.1 5 (B + (65 + i)) = nI (hp i)
theorem MH.at0 {m : Nat} {hp : Nat → Nat} {σ : Ms} (h : MH 0 m hp σ) : σ.1 5 1 = nI m ∧ ∀ i, i < m → σ.1 5 (65 + i) = nI (hp i) := ⟨h.1, fun i hi => by have := h.2 i hi; rwa [Nat.zero_add] at this⟩
def I_hp (B h : Nat) (σ : Ms) : Prop := ∃ m hp, WH m hp ∧ RH h m hp σ ∧ MH B m hp σ
/-- the class's nimber -/
theorem nimWith_b60 {N h n S X hx : Nat} {col on : Nat → Nat} {σ : Ms} (hN : 20 < N) (hW : WS n S col on) (hR : RS h n S col on σ) (hX : X < 2 ^ 31) {τ₀ : Ms} (h1 : τ₀.2 = σ.2) (h2 : ∀ j, j < 20 → τ₀.1 (h + 7) j = nI 0) (h3 : ∀ k j, k ≠ h + 7 → τ₀.1 k j = σ.1 k j) : wp (F0_nimWith_b60 N h (nI X) (nI hx) (cI n) τ₀) fun r τ => r = nI (xA n X col on hx n).2 ∧ τ.2 = σ.2 ∧ (∀ j, j < 20 → τ.1 (h + 7) j = nI ((xA n X col on hx n).1 j)) ∧ ∀ k j, k ≠ h + 7 → τ.1 k j = σ.1 k j := by
  obtain ⟨hn, hS, hw⟩ := hW
  have ho : ∀ i, i < n → on i ≤ i := fun i hi => (hw i hi).2.1
  unfold F0_nimWith_b60
  refine wp_fx (fun k x => ∃ m τ, m + k = n ∧ x = (nI X, nI (xA n X col on hx m).2, cI (n - m), τ) ∧ τ.2 = σ.2 ∧ (∀ j, j < 20 → τ.1 (h + 7) j = nI ((xA n X col on hx m).1 j)) ∧ ∀ k j, k ≠ h + 7 → τ.1 k j = σ.1 k j) ?_ (n := n) (by omega) ⟨0, τ₀, by omega, rfl, h1, fun j hj => by rw [h2 j hj]; rfl, h3⟩
  rintro k c _ ⟨m, τ, hm, rfl, g1, g2, g3⟩ hc
  simp only
  unfold F0_nimWith_b60B F0_nimWith_b140
  cases hq : n - m with
  | zero =>
    have em : m = n := by omega
    subst em
    rw [cI_0, if_pos (by decide)]
    exact wp_some.mpr ⟨rfl, g1, g2, g3⟩
  | succ q =>
    have eq : n - (m + 1) = q := by omega
    have hqn : q < n := by omega
    obtain ⟨hc2, hoq, -⟩ := hw q hqn
    obtain ⟨ec, eo⟩ := hR.2.2 q hqn
    have e5 : τ.1 h 5 = nI n := (g3 _ _ (by omega)).trans hR.1
    have ec' : τ.1 (h + 1) q = nI (col q) := (g3 _ _ (by omega)).trans ec
    have eo' : τ.1 (h + 2) q = cI (on q) := (g3 _ _ (by omega)).trans eo
    rw [cI_s, if_neg (nI_pos (by omega)), isIn11 hX (by omega)]
    have nx : ∀ (v : Int32) (τ' : Ms), v = nI (xA n X col on hx (m + 1)).2 → τ'.2 = σ.2 → (∀ j, j < 20 → τ'.1 (h + 7) j = nI ((xA n X col on hx (m + 1)).1 j)) → (∀ k j, k ≠ h + 7 → τ'.1 k j = σ.1 k j) → wp (c (nI X, v, nI q + (-1 : Int32), τ')) fun r τ => r = nI (xA n X col on hx n).2 ∧ τ.2 = σ.2 ∧ (∀ j, j < 20 → τ.1 (h + 7) j = nI ((xA n X col on hx n).1 j)) ∧ ∀ k j, k ≠ h + 7 → τ.1 k j = σ.1 k j := fun v τ' hv a1 a2 a3 => hc (k - 1) _ (by omega) ⟨m + 1, τ', by omega, by rw [hv, eq]; exact congrArg (fun w => (nI X, nI (xA n X col on hx (m + 1)).2, w, τ')) (u_dec q), a1, a2, a3⟩
    have ws : xA n X col on hx (m + 1) = xstp X col on q (xA n X col on hx m) := by rw [xA_s, eq]
    have skip : ¬ (X.testBit q = true ∧ col q = 2) → wp (c (nI X, nI (xA n X col on hx m).2, nI q + (-1 : Int32), τ)) fun r τ => r = nI (xA n X col on hx n).2 ∧ τ.2 = σ.2 ∧ (∀ j, j < 20 → τ.1 (h + 7) j = nI ((xA n X col on hx n).1 j)) ∧ ∀ k j, k ≠ h + 7 → τ.1 k j = σ.1 k j := fun z => nx _ τ (by rw [ws, xstp_no z]) g1 (fun j hj => by rw [ws, xstp_no z]; exact g2 j hj) g3
    cases hb : X.testBit q
    · rw [bn_s, if_pos (by rfl)]
      exact skip (by rw [hb]; exact fun z => absurd z.1 (by decide))
    rw [bn_s, if_neg (by decide), hasSprig_in hn e5 hqn, bn_s, if_neg (by decide), u_ix (show q < 20 by omega) (by omega), ck_t, u_cl (by omega), ec']
    by_cases hgr : col q = 2
    rotate_left
    · rw [if_neg (by exact fun z => hgr ((nI_eq (b := 2) (by omega) (by omega)).mp z))]
      exact skip fun z => hgr z.2
    have hyes : X.testBit q = true ∧ col q = 2 := ⟨hb, hgr⟩
    rw [if_pos (by rw [hgr]; rfl), ck_t, g2 q (by omega), lt_e, ck_t, eo', show (1 : Int32) = nI 1 from rfl, nI_add]
    cases hoi : on q with
    | zero =>
      rw [cI_0, hasSprig_m e5 hn, bn_s, if_pos (by rfl), lt_e, nx_xor]
      exact nx _ τ (by rw [ws, xstp_0 hyes hoi]) g1 (fun j hj => by rw [ws, xstp_0 hyes hoi]; exact g2 j hj) g3
    | succ j =>
      have hjq : j < q := by omega
      have eoj : τ.1 (h + 2) q = nI j := by rw [eo', hoi, cI_s]
      rw [cI_s, hasSprig_in hn e5 (show j < n by omega), bn_s, if_neg (by decide), ck_t, eoj, u_ix (show j < 20 by omega) (by omega), ck_t, ck_t, lt_e, u_cl (by omega), g2 j (by omega), nx_xor]
      refine nx _ _ (by rw [ws, xstp_j hyes hoi]) g1 (fun i hi => ?_) (fun a b hab => ?_)
      · rw [ws, xstp_j hyes hoi]
        show (if h + 7 = h + 7 ∧ i = j then _ else τ.1 (h + 7) i) = nI (if i = j then _ else _)
        by_cases z : i = j
        · rw [if_pos ⟨rfl, z⟩, if_pos z, z]
        · rw [if_neg fun y => z y.2, if_neg z]
          exact g2 i hi
      · show (if a = h + 7 ∧ b = j then _ else τ.1 a b) = _
        rw [if_neg fun z => hab z.1]
        exact g3 a b hab
theorem hasHeap_in' {h i m : Nat} {σ : Ms} (hm : m ≤ 4) (e : σ.1 h 7 = nI m) (hi : i < m) : F0_hasHeap h (nI i) σ = some (nI 1, σ) := hasHeap_in hm e hi
theorem hasHeap_out' {h m : Nat} {p : Int32} {σ : Ms} (hm : m ≤ 4) (e : σ.1 h 7 = nI m) (hp : ¬ ∃ i, i < m ∧ p = nI i) : F0_hasHeap h p σ = some (nI 0, σ) := hasHeap_out hm e hp
theorem nimWith_b34 {N h n S X hx : Nat} {col on : Nat → Nat} {σ : Ms} (hN : 20 < N) (hW : WS n S col on) (hR : RS h n S col on σ) (hX : X < 2 ^ 31) : wp (F0_nimWith_b34 N h (nI X) (nI hx) (0 : Int32) σ) fun r τ => r = nI (xA n X col on hx n).2 ∧ τ.2 = σ.2 ∧ (∀ j, j < 20 → τ.1 (h + 7) j = nI ((xA n X col on hx n).1 j)) ∧ ∀ k j, k ≠ h + 7 → τ.1 k j = σ.1 k j := by
  unfold F0_nimWith_b34
  refine wp_fx (fun k x => ∃ i τ, i + k = 20 ∧ x = (nI X, nI hx, nI i, τ) ∧ τ.2 = σ.2 ∧ (∀ j, j < i → τ.1 (h + 7) j = nI 0) ∧ ∀ k j, k ≠ h + 7 → τ.1 k j = σ.1 k j) ?_ (n := 20) (by omega) ⟨0, σ, by omega, rfl, rfl, fun j hj => absurd hj (Nat.not_lt_zero j), fun _ _ _ => rfl⟩
  rintro k c _ ⟨i, τ, hi, rfl, g1, g2, g3⟩ hc
  simp only
  unfold F0_nimWith_b34B
  by_cases q : 20 ≤ i
  · have ei : i = 20 := by omega
    subst ei
    rw [if_pos (by decide), lt_e, show τ.1 h 5 = nI n from (g3 h 5 (by omega)).trans hR.1]
    exact nimWith_b60 hN hW hR hX g1 g2 g3
  · rw [if_neg (by exact fun z => q ((lit_le (c := 20) 20 rfl (by omega) (by omega)).mp z)), u_ix (show i < 20 by omega) (by omega), ck_t, lt_e, u_cl (by omega)]
    first | rw [nI_1] | rw [nI_add] | skip
    refine hc (k - 1) _ (by omega) ⟨i + 1, _, by omega, rfl, g1, fun j hj => ?_, fun a b hab => ?_⟩
    · show (if h + 7 = h + 7 ∧ j = i then (0 : Int32) else τ.1 (h + 7) j) = _
      by_cases z : j = i
      · rw [if_pos ⟨rfl, z⟩]; rfl
      · rw [if_neg fun y => z y.2]
        exact g2 j (by omega)
    · show (if a = h + 7 ∧ b = i then (0 : Int32) else τ.1 a b) = _
      rw [if_neg fun z => hab z.1]
      exact g3 a b hab
theorem nimWith_ok {N h n S X m : Nat} {col on hp : Nat → Nat} {σ : Ms} (hN : 20 < N) (hW : WS n S col on) (hR : RS h n S col on σ) (hX : X < 2 ^ 31) (hWh : WH m hp) (hRh : RH h m hp σ) : wp (F0_nimWith N h (nI X) σ) fun r τ => r = nI (xA n X col on (hxo hp m) n).2 ∧ τ.2 = σ.2 ∧ (∀ j, j < 20 → τ.1 (h + 7) j = nI ((xA n X col on (hxo hp m) n).1 j)) ∧ ∀ k j, k ≠ h + 7 → τ.1 k j = σ.1 k j := by
  obtain ⟨hm, hv⟩ := hWh
  obtain ⟨e7, er⟩ := hRh
  unfold F0_nimWith F0_nimWith_b4
  refine wp_fx (fun k x => ∃ i, i + k = 4 ∧ x = (nI X, nI (hxo hp (min i m)), nI i, σ)) ?_ (n := 4) (by omega) ⟨0, by omega, by rw [Nat.zero_min]; rfl⟩
  rintro k c _ ⟨i, hi, rfl⟩ hc
  simp only
  unfold F0_nimWith_b4B F0_nimWith_b26
  by_cases q : 4 ≤ i
  · have ei : i = 4 := by omega
    subst ei
    rw [if_pos (by decide), show min 4 m = m by omega]
    exact nimWith_b34 hN hW hR hX
  · rw [if_neg (by exact fun z => q ((lit_le (c := 4) 4 rfl (by omega) (by omega)).mp z))]
    by_cases r : i < m
    · rw [hasHeap_in' hm e7 r, bn_s, if_neg (by decide), u_ix (show i < 4 by omega) (by omega), ck_t, lt_e, u_cl (by omega), er i r, nx_xor]
      first | rw [nI_1] | rw [nI_add] | skip
      refine hc (k - 1) _ (by omega) ⟨i + 1, by omega, ?_⟩
      rw [show min i m = i by omega, show min (i + 1) m = i + 1 by omega]
      rfl
    · rw [hasHeap_out' hm e7 (fun ⟨j, hj, z⟩ => r (by have := (nI_eq (a := i) (b := j) (by omega) (by omega)).mp z; omega)), bn_s, if_pos (by rfl)]
      first | rw [nI_1] | rw [nI_add] | skip
      refine hc (k - 1) _ (by omega) ⟨i + 1, by omega, ?_⟩
      rw [show min i m = m by omega, show min (i + 1) m = m by omega]
