/-- a sum over the first places (rows of the kit's COUNTS, pasted) -/
def fb_sm (f : Nat → Nat) : Nat → Nat
  | 0 => 0
  | n + 1 => fb_sm f n + f n
theorem fb_sm_succ (f : Nat → Nat) (n : Nat) : fb_sm f (n + 1) = fb_sm f n + f n := rfl
theorem fb_sm_cong {f g : Nat → Nat} : ∀ {n : Nat}, (∀ k, k < n → f k = g k) → fb_sm f n = fb_sm g n
  | 0, _ => rfl
  | n + 1, h => by rw [fb_sm_succ, fb_sm_succ, fb_sm_cong (fun k hk => h k (by omega)), h n (by omega)]
theorem fb_sm_upd (f : Nat → Nat) (v : Nat) {i : Nat} : ∀ {n : Nat}, i < n → fb_sm (fun k => if k = i then v else f k) n + f i = fb_sm f n + v
  | 0, h => absurd h (Nat.not_lt_zero i)
  | n + 1, h => by
    rw [fb_sm_succ, fb_sm_succ]
    rcases Nat.lt_or_ge i n with q | q
    · have := fb_sm_upd f v q
      have e : (if n = i then v else f n) = f n := if_neg (by omega)
      rw [e]
      omega
    · have e : i = n := by omega
      subst e
      rw [fb_sm_cong (f := fun k => if k = i then v else f k) (g := f) fun k hk => if_neg (by omega)]
      simp only [if_true]
      omega
/-- the worth of all branches, from the last sprig on: what stands right on each, what stands on the ground -/
def wstp (X : Nat) (col on : Nat → Nat) (i : Nat) (p : (Nat → Int) × Int) : (Nat → Int) × Int := if X.testBit i = true ∧ col i ≠ 2 then (if on i = 0 then (p.1, p.2 + brw (col i) (p.1 i)) else (fun j => if j + 1 = on i then p.1 j + brw (col i) (p.1 i) else p.1 j, p.2)) else p
def wA (n X : Nat) (col on : Nat → Nat) : Nat → (Nat → Int) × Int
  | 0 => (fun _ => 0, 0)
  | m + 1 => wstp X col on (n - (m + 1)) (wA n X col on m)
theorem wA_s (n X : Nat) (col on : Nat → Nat) (m : Nat) : wA n X col on (m + 1) = wstp X col on (n - (m + 1)) (wA n X col on m) := rfl
theorem wstp_no {X : Nat} {col on : Nat → Nat} {i : Nat} {p : (Nat → Int) × Int} (h : ¬ (X.testBit i = true ∧ col i ≠ 2)) : wstp X col on i p = p := if_neg h
theorem wstp_0 {X : Nat} {col on : Nat → Nat} {i : Nat} {p : (Nat → Int) × Int} (h : X.testBit i = true ∧ col i ≠ 2) (ho : on i = 0) : wstp X col on i p = (p.1, p.2 + brw (col i) (p.1 i)) := by
  unfold wstp
  rw [if_pos h, if_pos ho]
theorem wstp_j {X : Nat} {col on : Nat → Nat} {i j : Nat} {p : (Nat → Int) × Int} (h : X.testBit i = true ∧ col i ≠ 2) (ho : on i = j + 1) : wstp X col on i p = (fun k => if k = j then p.1 k + brw (col i) (p.1 i) else p.1 k, p.2) := by
  unfold wstp
  rw [if_pos h, if_neg (by omega)]
  simp only [ho, Nat.add_right_cancel_iff]
theorem wstp_hi {X : Nat} {col on : Nat → Nat} {i k : Nat} {p : (Nat → Int) × Int} (h : on i ≤ k) : (wstp X col on i p).1 k = p.1 k := by
  unfold wstp
  split
  · split
    · rfl
    · exact if_neg (by omega)
  · rfl
theorem wA_ok {n X : Nat} {col on : Nat → Nat} (hn : n ≤ 20) (ho : ∀ i, i < n → on i ≤ i) : ∀ m, m ≤ n → ∃ (w : Nat → Nat) (M : Nat), (∀ j, Ok ((wA n X col on m).1 j) (w j)) ∧ Ok (wA n X col on m).2 M ∧ fb_sm w (n - m) + M ≤ m
  | 0, _ => ⟨fun _ => 0, 0, fun _ => Ok_0, Ok_0, by
    have : ∀ k, fb_sm (fun _ => 0) k = 0 := fun k => by
      induction k with
      | zero => rfl
      | succ k ih => rw [fb_sm_succ, ih]
    rw [this]
    omega⟩
  | m + 1, hm => by
    obtain ⟨w, M, h1, h2, h3⟩ := wA_ok (X := X) (col := col) hn ho m (by omega)
    obtain ⟨i, hi⟩ : ∃ i, n - (m + 1) = i := ⟨_, rfl⟩
    rw [wA_s, hi]
    have hsum : fb_sm w (n - m) = fb_sm w i + w i := by rw [← fb_sm_succ, show i + 1 = n - m by omega]
    by_cases q : X.testBit i = true ∧ col i ≠ 2
    · have hb := Ok_brw (c := col i) (h1 i) (show w i ≤ 19 by omega)
      cases hoi : on i with
      | zero =>
        rw [wstp_0 q hoi]
        exact ⟨w, M + (w i + 1), h1, Ok_add h2 hb, by omega⟩
      | succ j =>
        rw [wstp_j q hoi]
        have hj : j < i := by have := ho i (by omega); omega
        refine ⟨fun k => if k = j then w j + (w i + 1) else w k, M, fun k => ?_, h2, ?_⟩
        · by_cases e : k = j
          · subst e
            simp only [if_true]
            exact Ok_add (h1 k) hb
          · simp only [if_neg e]
            exact h1 k
        · have := fb_sm_upd w (w j + (w i + 1)) hj
          omega
    · rw [wstp_no q]
      exact ⟨w, M, h1, h2, by omega⟩
theorem wA_at {n X : Nat} {col on : Nat → Nat} (hn : n ≤ 20) (ho : ∀ i, i < n → on i ≤ i) {m : Nat} (hm : m < n) : ∃ w, w ≤ 19 ∧ Ok ((wA n X col on m).1 (n - (m + 1))) w := by
  obtain ⟨w, M, h1, -, h3⟩ := wA_ok (X := X) (col := col) hn ho m (by omega)
  have hsum : fb_sm w (n - m) = fb_sm w (n - (m + 1)) + w (n - (m + 1)) := by rw [← fb_sm_succ, show n - (m + 1) + 1 = n - m by omega]
  exact ⟨_, by omega, h1 _⟩
theorem wA_st {n X : Nat} {col on : Nat → Nat} (ho : ∀ i, i < n → on i ≤ i) {m k : Nat} (hk : n - m ≤ k + 1) : ∀ t, m + t ≤ n → (wA n X col on (m + t)).1 k = (wA n X col on m).1 k
  | 0, _ => rfl
  | t + 1, ht => by
    rw [← Nat.add_assoc, wA_s, wstp_hi, wA_st ho hk t (by omega)]
    have := ho (n - (m + t + 1)) (by omega)
    omega
/-- what stands right on a sprig, together, in the end -/
theorem wA_fin {n X : Nat} {col on : Nat → Nat} (ho : ∀ i, i < n → on i ≤ i) {m : Nat} (hm : m < n) : (wA n X col on n).1 (n - (m + 1)) = (wA n X col on m).1 (n - (m + 1)) := by
  have := wA_st (X := X) (col := col) ho (m := m) (k := n - (m + 1)) (by omega) (n - m) (by omega)
  rwa [Nat.add_sub_cancel' (by omega)] at this
theorem wA_end {n X k : Nat} {col on : Nat → Nat} (hn : n ≤ 20) (ho : ∀ i, i < n → on i ≤ i) (hk : k < n) : ∃ w, w ≤ 19 ∧ Ok ((wA n X col on n).1 k) w := by
  have h := wA_at (X := X) (col := col) hn ho (m := n - (k + 1)) (by omega)
  have e := wA_fin (X := X) (col := col) ho (m := n - (k + 1)) (by omega)
  rw [show n - (n - (k + 1) + 1) = k by omega] at h e
  rw [e]
  exact h
theorem wA_all {n X : Nat} {col on : Nat → Nat} (hn : n ≤ 20) (ho : ∀ i, i < n → on i ≤ i) {m : Nat} (hm : m ≤ n) : Ok (wA n X col on m).2 20 := by
  obtain ⟨w, M, -, h2, h3⟩ := wA_ok (X := X) (col := col) hn ho m hm
  exact Ok_mono h2 (by omega)
theorem wA_green {n X : Nat} {col on : Nat → Nat} (hw : ∀ i, i < n → ∀ j, on i = j + 1 → (col i = 2 ↔ col j = 2)) : ∀ m, m ≤ n → ∀ j, col j = 2 → (wA n X col on m).1 j = 0
  | 0, _, _, _ => rfl
  | m + 1, hm, j, hj => by
    have ih := wA_green (X := X) hw m (by omega) j hj
    rw [wA_s]
    by_cases q : X.testBit (n - (m + 1)) = true ∧ col (n - (m + 1)) ≠ 2
    · cases hoi : on (n - (m + 1)) with
      | zero => rw [wstp_0 q hoi]; exact ih
      | succ k =>
        rw [wstp_j q hoi]
        have := hw (n - (m + 1)) (by omega) k hoi
        show (if j = k then _ else _) = _
        rw [if_neg (show ¬ j = k from fun z => q.2 (this.mpr (by rw [← z]; exact hj)))]
        exact ih
    · rw [wstp_no q]
      exact ih
/-- the nims, likewise -/
def xstp (X : Nat) (col on : Nat → Nat) (i : Nat) (p : (Nat → Nat) × Nat) : (Nat → Nat) × Nat := if X.testBit i = true ∧ col i = 2 then (if on i = 0 then (p.1, p.2 ^^^ (p.1 i + 1)) else (fun j => if j + 1 = on i then p.1 j ^^^ (p.1 i + 1) else p.1 j, p.2)) else p
def xA (n X : Nat) (col on : Nat → Nat) (h0 : Nat) : Nat → (Nat → Nat) × Nat
  | 0 => (fun _ => 0, h0)
  | m + 1 => xstp X col on (n - (m + 1)) (xA n X col on h0 m)
theorem xA_s (n X : Nat) (col on : Nat → Nat) (h0 m : Nat) : xA n X col on h0 (m + 1) = xstp X col on (n - (m + 1)) (xA n X col on h0 m) := rfl
theorem xstp_no {X : Nat} {col on : Nat → Nat} {i : Nat} {p : (Nat → Nat) × Nat} (h : ¬ (X.testBit i = true ∧ col i = 2)) : xstp X col on i p = p := if_neg h
theorem xstp_0 {X : Nat} {col on : Nat → Nat} {i : Nat} {p : (Nat → Nat) × Nat} (h : X.testBit i = true ∧ col i = 2) (ho : on i = 0) : xstp X col on i p = (p.1, p.2 ^^^ (p.1 i + 1)) := by
  unfold xstp
  rw [if_pos h, if_pos ho]
theorem xstp_j {X : Nat} {col on : Nat → Nat} {i j : Nat} {p : (Nat → Nat) × Nat} (h : X.testBit i = true ∧ col i = 2) (ho : on i = j + 1) : xstp X col on i p = (fun k => if k = j then p.1 k ^^^ (p.1 i + 1) else p.1 k, p.2) := by
  unfold xstp
  rw [if_pos h, if_neg (by omega)]
  simp only [ho, Nat.add_right_cancel_iff]
theorem xstp_hi {X : Nat} {col on : Nat → Nat} {i k : Nat} {p : (Nat → Nat) × Nat} (h : on i ≤ k) : (xstp X col on i p).1 k = p.1 k := by
  unfold xstp
  split
  · split
    · rfl
    · exact if_neg (by omega)
  · rfl
theorem xA_st {n X h0 : Nat} {col on : Nat → Nat} (ho : ∀ i, i < n → on i ≤ i) {m k : Nat} (hk : n - m ≤ k + 1) : ∀ t, m + t ≤ n → (xA n X col on h0 (m + t)).1 k = (xA n X col on h0 m).1 k
  | 0, _ => rfl
  | t + 1, ht => by
    rw [← Nat.add_assoc, xA_s, xstp_hi, xA_st ho hk t (by omega)]
    have := ho (n - (m + t + 1)) (by omega)
    omega
theorem xA_fin {n X h0 : Nat} {col on : Nat → Nat} (ho : ∀ i, i < n → on i ≤ i) {m : Nat} (hm : m < n) : (xA n X col on h0 n).1 (n - (m + 1)) = (xA n X col on h0 m).1 (n - (m + 1)) := by
  have := xA_st (X := X) (h0 := h0) (col := col) ho (m := m) (k := n - (m + 1)) (by omega) (n - m) (by omega)
  rwa [Nat.add_sub_cancel' (by omega)] at this
theorem xA_lt {n X h0 : Nat} {col on : Nat → Nat} (hh : h0 < 16) : ∀ m, (∀ j, (xA n X col on h0 m).1 j < 2 ^ (m + 4)) ∧ (xA n X col on h0 m).2 < 2 ^ (m + 4)
  | 0 => ⟨fun _ => Nat.two_pow_pos _, hh⟩
  | m + 1 => by
    obtain ⟨h1, h2⟩ := xA_lt (X := X) (n := n) (col := col) (on := on) hh m
    have e : 2 ^ (m + 1 + 4) = 2 * 2 ^ (m + 4) := by rw [show m + 1 + 4 = m + 4 + 1 by omega, Nat.pow_succ, Nat.mul_comm]
    have u : ∀ j, (xA n X col on h0 m).1 j < 2 ^ (m + 1 + 4) := fun j => by have := h1 j; omega
    have v : (xA n X col on h0 m).2 < 2 ^ (m + 1 + 4) := by omega
    have s : ∀ j, (xA n X col on h0 m).1 j + 1 < 2 ^ (m + 1 + 4) := fun j => by
      have := h1 j
      have : 0 < 2 ^ (m + 4) := Nat.two_pow_pos _
      have : 16 ≤ 2 ^ (m + 4) := by
        have : 2 ^ (m + 4) = 2 ^ m * 16 := by rw [Nat.pow_add]
        have : 0 < 2 ^ m := Nat.two_pow_pos _
        omega
      omega
    rw [xA_s]
    unfold xstp
    split
    · split
      · exact ⟨u, Nat.xor_lt_two_pow v (s _)⟩
      · refine ⟨fun j => ?_, v⟩
        show (if _ then _ else _) < _
        split
        · exact Nat.xor_lt_two_pow (u _) (s _)
        · exact u _
    · exact ⟨u, v⟩
theorem xA_blue {n X h0 : Nat} {col on : Nat → Nat} (hw : ∀ i, i < n → ∀ j, on i = j + 1 → (col i = 2 ↔ col j = 2)) : ∀ m, m ≤ n → ∀ j, col j ≠ 2 → (xA n X col on h0 m).1 j = 0
  | 0, _, _, _ => rfl
  | m + 1, hm, j, hj => by
    have ih := xA_blue (X := X) (h0 := h0) hw m (by omega) j hj
    rw [xA_s]
    by_cases q : X.testBit (n - (m + 1)) = true ∧ col (n - (m + 1)) = 2
    · cases hoi : on (n - (m + 1)) with
      | zero => rw [xstp_0 q hoi]; exact ih
      | succ k =>
        rw [xstp_j q hoi]
        have := hw (n - (m + 1)) (by omega) k hoi
        show (if j = k then _ else _) = _
        rw [if_neg (show ¬ j = k from fun z => hj (by rw [z]; exact this.mp q.2))]
        exact ih
    · rw [xstp_no q]
      exact ih
/-- heaps, by exclusive or -/
def hxo (hp : Nat → Nat) : Nat → Nat
  | 0 => 0
  | m + 1 => hxo hp m ^^^ hp m
theorem hxo_lt {hp : Nat → Nat} : ∀ {m : Nat}, (∀ i, i < m → hp i ≤ 15) → hxo hp m < 16
  | 0, _ => Nat.succ_pos 15
  | m + 1, h => by
    have h1 := hxo_lt (m := m) fun i hi => h i (by omega)
    have h2 := h m (by omega)
    exact Nat.xor_lt_two_pow (n := 4) h1 (by omega)
theorem u_dec (q : Nat) : nI q + -nI 1 = cI q := by unfold cI; rw [Int32.sub_eq_add_neg]
/-- the class weighs the hedge -/
theorem worthWith_b42 {N h n S X : Nat} {col on : Nat → Nat} {s : Int} {σ : Ms} (hN : 20 < N) (hW : WS n S col on) (hR : RS h n S col on σ) (hX : X < 2 ^ 31) {τ₀ : Ms} (h1 : τ₀.1 = σ.1) (h2 : ∀ j, j < 20 → τ₀.2 (h + 6) j = zL 0) (h3 : ∀ k j, k ≠ h + 6 → τ₀.2 k j = σ.2 k j) : wp (F0_worthWith_b42 N h (nI X) (zL (1024 * s)) (cI n) τ₀) fun r τ => r = zL (1024 * (s + (wA n X col on n).2)) ∧ τ.1 = σ.1 ∧ (∀ j, j < 20 → τ.2 (h + 6) j = zL (1024 * (wA n X col on n).1 j)) ∧ ∀ k j, k ≠ h + 6 → τ.2 k j = σ.2 k j := by
  obtain ⟨hn, hS, hw⟩ := hW
  have ho : ∀ i, i < n → on i ≤ i := fun i hi => (hw i hi).2.1
  unfold F0_worthWith_b42
  refine wp_fx (fun k x => ∃ m τ, m + k = n ∧ x = (nI X, zL (1024 * (s + (wA n X col on m).2)), cI (n - m), τ) ∧ τ.1 = σ.1 ∧ (∀ j, j < 20 → τ.2 (h + 6) j = zL (1024 * (wA n X col on m).1 j)) ∧ ∀ k j, k ≠ h + 6 → τ.2 k j = σ.2 k j) ?_ (n := n) (by omega) ⟨0, τ₀, by omega, by rw [show (wA n X col on 0).2 = 0 from rfl, Int.add_zero]; rfl, h1, fun j hj => by rw [h2 j hj]; rfl, h3⟩
  rintro k c _ ⟨m, τ, hm, rfl, g1, g2, g3⟩ hc
  simp only
  unfold F0_worthWith_b42B F0_worthWith_b137
  cases hq : n - m with
  | zero =>
    have em : m = n := by omega
    subst em
    rw [cI_0, if_pos (by decide)]
    exact wp_some.mpr ⟨rfl, g1, g2, g3⟩
  | succ q =>
    have eq : n - (m + 1) = q := by omega
    have hqn : q < n := by omega
    obtain ⟨hc2, hoq, -⟩ := hw q hqn
    obtain ⟨ec, eo⟩ := hR.2.2 q hqn
    have rc : ∀ a b, τ.1 a b = σ.1 a b := fun a b => by rw [g1]
    have e5 : τ.1 h 5 = nI n := (rc _ _).trans hR.1
    rw [cI_s, if_neg (nI_pos (by omega)), isIn11 hX (by omega)]
    have nx : ∀ (v : Int64) (τ' : Ms), v = zL (1024 * (s + (wA n X col on (m + 1)).2)) → τ'.1 = σ.1 → (∀ j, j < 20 → τ'.2 (h + 6) j = zL (1024 * (wA n X col on (m + 1)).1 j)) → (∀ k j, k ≠ h + 6 → τ'.2 k j = σ.2 k j) → wp (c (nI X, v, nI q + (-1 : Int32), τ')) fun r τ => r = zL (1024 * (s + (wA n X col on n).2)) ∧ τ.1 = σ.1 ∧ (∀ j, j < 20 → τ.2 (h + 6) j = zL (1024 * (wA n X col on n).1 j)) ∧ ∀ k j, k ≠ h + 6 → τ.2 k j = σ.2 k j := fun v τ' hv a1 a2 a3 => hc (k - 1) _ (by omega) ⟨m + 1, τ', by omega, by rw [hv, eq]; exact congrArg (fun w => (nI X, zL (1024 * (s + (wA n X col on (m + 1)).2)), w, τ')) (u_dec q), a1, a2, a3⟩
    have ws : wA n X col on (m + 1) = wstp X col on q (wA n X col on m) := by rw [wA_s, eq]
    have skip : ¬ (X.testBit q = true ∧ col q ≠ 2) → wp (c (nI X, zL (1024 * (s + (wA n X col on m).2)), nI q + (-1 : Int32), τ)) fun r τ => r = zL (1024 * (s + (wA n X col on n).2)) ∧ τ.1 = σ.1 ∧ (∀ j, j < 20 → τ.2 (h + 6) j = zL (1024 * (wA n X col on n).1 j)) ∧ ∀ k j, k ≠ h + 6 → τ.2 k j = σ.2 k j := fun z => nx _ τ (by rw [ws, wstp_no z]) g1 (fun j hj => by rw [ws, wstp_no z]; exact g2 j hj) g3
    cases hb : X.testBit q
    · rw [bn_s, if_pos (by rfl)]
      exact skip (by rw [hb]; exact fun z => absurd z.1 (by decide))
    rw [bn_s, if_neg (by decide), hasSprig_in hn e5 hqn, bn_s, if_neg (by decide), u_ix (show q < 20 by omega) (by omega), ck_t, u_cl (by omega), rc, ec]
    by_cases hgr : col q = 2
    · rw [if_neg (by exact fun z => z (by rw [hgr]; rfl))]
      exact skip fun z => z.2 hgr
    have hyes : X.testBit q = true ∧ col q ≠ 2 := ⟨hb, hgr⟩
    obtain ⟨w, hw19, hok⟩ := wA_at (X := X) (col := col) hn ho (m := m) (by omega)
    rw [eq] at hok
    rw [if_pos (by exact fun z => hgr ((nI_eq (b := 2) (by omega) (by omega)).mp z)), ck_t, ck_t, g2 q (by omega), branch_ok hok hw19 hc2, bn_s, ck_t, rc, eo]
    cases hoi : on q with
    | zero =>
      rw [cI_0, hasSprig_m e5 hn, bn_s, if_pos (by rfl), lt_e]
      refine nx _ τ ?_ g1 (fun j hj => by rw [ws, wstp_0 hyes hoi]; exact g2 j hj) g3
      rw [ws, wstp_0 hyes hoi, zL_add]
      congr 1
      omega
    | succ j =>
      have hjq : j < q := by omega
      have eoj : τ.1 (h + 2) q = nI j := by rw [rc, eo, hoi, cI_s]
      rw [cI_s, hasSprig_in hn e5 (show j < n by omega), bn_s, if_neg (by decide), ck_t, eoj, u_ix (show j < 20 by omega) (by omega), ck_t, ck_t, lt_e, u_cl (by omega), g2 j (by omega), zL_add]
      refine nx _ _ (by rw [ws, wstp_j hyes hoi]) g1 (fun i hi => ?_) (fun a b hab => ?_)
      · rw [ws, wstp_j hyes hoi]
        show (if h + 6 = h + 6 ∧ i = j then _ else τ.2 (h + 6) i) = zL (1024 * (if i = j then _ else _))
        by_cases z : i = j
        · rw [if_pos ⟨rfl, z⟩, if_pos z, z]
          congr 1
          omega
        · rw [if_neg fun y => z y.2, if_neg z]
          exact g2 i hi
      · show (if a = h + 6 ∧ b = j then _ else τ.2 a b) = _
        rw [if_neg fun z => hab z.1]
        exact g3 a b hab
theorem worthWith_ok {N h n S X : Nat} {col on : Nat → Nat} {z : Int} {σ : Ms} (hN : 20 < N) (hW : WS n S col on) (hR : RS h n S col on σ) (hX : X < 2 ^ 31) (hz : σ.1 h 10 = Int32.ofInt z) (hz1 : -1000 ≤ z ∧ z ≤ 1000) : wp (F0_worthWith N h (nI X) σ) fun r τ => r = zL (1024 * (z * 1048576 + (wA n X col on n).2)) ∧ τ.1 = σ.1 ∧ (∀ j, j < 20 → τ.2 (h + 6) j = zL (1024 * (wA n X col on n).1 j)) ∧ ∀ k j, k ≠ h + 6 → τ.2 k j = σ.2 k j := by
  unfold F0_worthWith
  rw [hz, zI_zL (by omega) (by omega), ONE_z, zL_mul, lt_e, show z * 1073741824 = 1024 * (z * 1048576) by omega]
  unfold F0_worthWith_b13
  refine wp_fx (fun k x => ∃ i τ, i + k = 20 ∧ x = (nI X, zL (1024 * (z * 1048576)), nI i, τ) ∧ τ.1 = σ.1 ∧ (∀ j, j < i → τ.2 (h + 6) j = zL 0) ∧ ∀ k j, k ≠ h + 6 → τ.2 k j = σ.2 k j) ?_ (n := 20) (by omega) ⟨0, σ, by omega, rfl, rfl, fun j hj => absurd hj (Nat.not_lt_zero j), fun _ _ _ => rfl⟩
  rintro k c _ ⟨i, τ, hi, rfl, g1, g2, g3⟩ hc
  simp only
  unfold F0_worthWith_b13B
  by_cases q : 20 ≤ i
  · have ei : i = 20 := by omega
    subst ei
    rw [if_pos (by decide), lt_e, show τ.1 h 5 = nI n from (congrFun (congrFun g1 h) 5).trans hR.1]
    exact worthWith_b42 hN hW hR hX g1 g2 g3
  · rw [if_neg (by exact fun z => q ((lit_le (c := 20) 20 rfl (by omega) (by omega)).mp z)), u_ix (show i < 20 by omega) (by omega), ck_t, lt_e, u_cl (by omega)]
    first | rw [nI_1] | rw [nI_add] | skip
    refine hc (k - 1) _ (by omega) ⟨i + 1, _, by omega, rfl, g1, fun j hj => ?_, fun a b hab => ?_⟩
    · show (if h + 6 = h + 6 ∧ j = i then (0 : Int64) else τ.2 (h + 6) j) = _
      by_cases z : j = i
      · rw [if_pos ⟨rfl, z⟩]; rfl
      · rw [if_neg fun y => z y.2]
        exact g2 j (by omega)
    · show (if a = h + 6 ∧ b = i then (0 : Int64) else τ.2 a b) = _
      rw [if_neg fun z => hab z.1]
      exact g3 a b hab
