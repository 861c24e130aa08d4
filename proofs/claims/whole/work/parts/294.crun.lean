/-- a life as a function: on the model's program D -/
def aThen (p : LSt × Nat) (k : LSt → LSt × Nat) : LSt × Nat := if p.2 = 0 then k p.1 else p
def aLoop (F : LSt → LSt × Nat) : Nat → LSt → LSt × Nat
  | 0, s => (s, 0)
  | r + 1, s => aThen (F s) (aLoop F r)
def aSeq (D : Nat → Nat → Int32) : Nat → Nat → Nat → LSt → LSt × Nat
  | 0, _, _, s => (s, 0)
  | f + 1, t, t', s => if t = t' then (s, 0) else if s.2.1 = 300 then (s, 2) else if (D t 0).toNatClampNeg < 5 then aSeq D f (t + 1) t' (fnd (aTry D t (more s))) else if (D t 0).toNatClampNeg = 5 then aThen (if aHold D t s.1 = true then aSeq D f (t + 1) (D t 8).toNatClampNeg (more s) else (more s, 0)) (aSeq D f (D t 8).toNatClampNeg t') else if (D t 0).toNatClampNeg = 6 then aThen (aLoop (aSeq D f (t + 1) (D t 8).toNatClampNeg) (D t 1).toNatClampNeg (more s)) (aSeq D f (D t 8).toNatClampNeg t') else (more s, 1)
theorem Seg_le {K A B C M : Nat → Int32} {D : Nat → Nat → Int32} : ∀ {f g e s e' s' : Nat}, Seg K A B C M D f g e s e' s' → e ≤ e' ∧ s ≤ s'
  | 0, _, _, _, _, _, h => ⟨Nat.le_of_eq h.1, Nat.le_of_eq h.2⟩
  | f + 1, g, e, s, e', s', h => by
    rcases h with h | ⟨-, -, -, -, h⟩ | ⟨-, -, -, m, t, i, -, -, -, -, -, ha, -, hb⟩
    · omega
    · have := Seg_le h
      omega
    · have := Seg_le ha
      have := Seg_le hb
      omega
theorem step_k {K A B : Nat → Int32} {D : Nat → Nat → Int32} {e t : Nat} (h : stepOk K A B D e t) : (∃ k, k < 5 ∧ K e = nI k ∧ D t 0 = nI k) ∨ (K e = nI 7 ∧ D t 0 = nI 7) := by
  rcases h with ⟨k, a, b, hk, h1, h2, -⟩ | ⟨h1, h2, -⟩ | ⟨h1, h2⟩ | ⟨h1, h2⟩
  · exact Or.inl ⟨k, by omega, h1, h2⟩
  · exact Or.inl ⟨3, by omega, h1, h2⟩
  · exact Or.inl ⟨4, by omega, h1, h2⟩
  · exact Or.inr ⟨h1, h2⟩
/-- a life whose parts keep it in order -/
def LO (s : LSt) : Prop := LWf s ∧ s.2.1 ≤ 300
theorem fnd_d (p : Bool × LSt) : (fnd p).2.1 = p.2.2.1 := by
  unfold fnd
  split <;> rfl
theorem sown_d (s : LSt) (r : Nat) : (sown s r).2.1 = s.2.1 := rfl
theorem sown_m (s : LSt) (r : Nat) : (sown s r).2.2.1 = s.2.2.1 := rfl
theorem aTry_d (D : Nat → Nat → Int32) (t : Nat) (s : LSt) : (aTry D t s).2.2.1 = s.2.1 := by
  have c : ∀ d i (s : LSt), (cutT d i s).2.2.1 = s.2.1 := fun d i s => by
    unfold cutT
    split <;> rfl
  unfold aTry
  split
  · exact c _ _ _
  split
  · unfold takeT
    split <;> rfl
  split
  · unfold lessT
    split <;> rfl
  split
  · unfold growT
    split <;> rfl
  · unfold anyT
    split
    · rfl
    · rw [c, sown_d]
theorem more_O {s : LSt} (h : LO s) (hd : s.2.1 ≠ 300) : LO (more s) := ⟨h.1, show s.2.1 + 1 ≤ 300 by have := h.2; omega⟩
theorem step_O {K A B : Nat → Int32} {D : Nat → Nat → Int32} {e t : Nat} {s : LSt} (h : LO s) (hs : stepOk K A B D e t) : LO (fnd (aTry D t s)) := ⟨fnd_W (aTry_W h.1 hs), by rw [fnd_d, aTry_d]; exact h.2⟩
theorem aThen_O {p : LSt × Nat} {k : LSt → LSt × Nat} (h : LO p.1) (hk : LO p.1 → LO (k p.1).1) : LO (aThen p k).1 := by
  unfold aThen
  split
  · exact hk h
  · exact h
theorem aLoop_O {F : LSt → LSt × Nat} (hF : ∀ s, LO s → LO (F s).1) : ∀ r s, LO s → LO (aLoop F r s).1
  | 0, _, h => h
  | r + 1, s, h => aThen_O (hF s h) fun h' => aLoop_O hF r _ h'
theorem aSeq_O {K A B C M : Nat → Int32} {D : Nat → Nat → Int32} : ∀ {f g e t e' t' : Nat}, Seg K A B C M D f g e t e' t' → t' < 2147483648 → ∀ s, LO s → LO (aSeq D f t t' s).1
  | 0, _, _, _, _, _, _, _, _, h => h
  | f + 1, g, e, t, e', t', hS, ht, s, h => by
    unfold aSeq
    by_cases q : t = t'
    · rw [if_pos q]
      exact h
    rw [if_neg q]
    by_cases qd : s.2.1 = 300
    · rw [if_pos qd]
      exact h
    rw [if_neg qd]
    rcases hS with ⟨-, z⟩ | ⟨he, hs, ho, hd, hr⟩ | ⟨he, hs, ho, m, n, i, hg, hm, hM, hK, hM', ha, hd, hb⟩
    · exact absurd z q
    · rcases step_k ho with ⟨k, hk, -, d0⟩ | ⟨-, d0⟩
      · rw [d0, u_cl (by omega), if_pos hk]
        exact aSeq_O hr ht _ (step_O (more_O h qd) ho)
      · rw [d0, u_cl (by omega), if_neg (by omega), if_neg (by omega), if_neg (by omega)]
        exact more_O h qd
    · have hn := Seg_le hb
      have hc : (nI n).toNatClampNeg = n := u_cl (by omega)
      rcases ho with hw | hl
      · rw [hw.2.1, u_cl (by omega), if_neg (by omega), if_pos (by rfl), hd, hc]
        refine aThen_O ?_ fun h' => aSeq_O hb ht _ h'
        split
        · exact aSeq_O ha (by omega) _ (more_O h qd)
        · exact more_O h qd
      · rw [hl.2.1, u_cl (by omega), if_neg (by omega), if_neg (by omega), if_pos (by rfl), hd, hc]
        exact aThen_O (aLoop_O (fun s' h' => aSeq_O ha (by omega) s' h') _ _ (more_O h qd)) fun h' => aSeq_O hb ht _ h'
/-- a loop taken some turns on -/
def Rch {S R : Type} (F : (S → Option R) → S → Option R) (n : Nat) (x y : S) : Prop := ∀ m, fx (m + n) F x = fx m F y
theorem Rch.one {S R : Type} {F : (S → Option R) → S → Option R} {x y : S} (h : ∀ k, F k x = k y) : Rch F 1 x y := fun m => h (fx m F)
theorem Rch.z {S R : Type} (F : (S → Option R) → S → Option R) (x : S) : Rch F 0 x x := fun _ => rfl
theorem Rch.tr {S R : Type} {F : (S → Option R) → S → Option R} {n n' : Nat} {x y z : S} (h : Rch F n x y) (h' : Rch F n' y z) : Rch F (n + n') x z := fun m => by
  rw [Nat.add_comm n n', ← Nat.add_assoc, h (m + n'), h' m]
/-- the turns of the class's life -/
noncomputable def RF (N L h : Nat) : (Int32 × Int32 × Ms → Option (Unit × Ms)) → Int32 × Int32 × Ms → Option (Unit × Ms) := fun k x => F2_run_b41B N L h 62 k x.1 x.2.1 x.2.2
def S62 (σ τ : Ms) : Prop := ∀ k j, 62 ≤ k → k ≤ 67 → τ.1 k j = σ.1 k j
theorem S62.k {L : Nat} {σ τ τ' : Ms} (h : S62 σ τ) (k : K9 L τ τ') : S62 σ τ' := fun a j h1 h2 => (k.1 a j h1 h2).trans (h a j h1 h2)
/-- the class's life, from the entry e at the turn u up to e', does as p says -/
def CO (N : Nat) (σ : Ms) (h L : Nat) (y : Int32) (lo e u : Nat) (τ : Ms) (e' B : Nat) (p : LSt × Nat) : Prop :=
  (p.2 = 0 → ∃ n τ', Rch (RF N L h) n (nI e, nI u, τ) (nI e', nI (u + n), τ') ∧ CL h L y p.1 τ' ∧ S62 σ τ' ∧ τ'.1 L 5 = nI 0 ∧ u + n + 100 * (300 - p.1.2.1) ≤ B ∧ ∀ j, (j < lo ∨ e' ≤ j) → τ'.1 (L + 1) j = τ.1 (L + 1) j) ∧
  (p.2 ≠ 0 → ∃ n τ', u + n ≤ 30002 ∧ (∀ m, fx (m + n) (RF N L h) (nI e, nI u, τ) = some ((), τ')) ∧ CL h L y p.1 τ' ∧ τ'.1 L 5 = nI (p.2 - 1))
theorem CO.pre {N h L lo e u n e1 e' B : Nat} {σ τ τ1 : Ms} {y : Int32} {p : LSt × Nat} (hr : Rch (RF N L h) n (nI e, nI u, τ) (nI e1, nI (u + n), τ1)) (ho : ∀ j, (j < lo ∨ e' ≤ j) → τ1.1 (L + 1) j = τ.1 (L + 1) j) (c : CO N σ h L y lo e1 (u + n) τ1 e' B p) : CO N σ h L y lo e u τ e' B p := by
  refine ⟨fun hp => ?_, fun hp => ?_⟩
  · obtain ⟨n', τ', h1, h2, h3, h4, h5, h6⟩ := c.1 hp
    exact ⟨n + n', τ', by rw [← Nat.add_assoc]; exact hr.tr h1, h2, h3, h4, by omega, fun j hj => (h6 j hj).trans (ho j hj)⟩
  · obtain ⟨n', τ', h1, h2, h3, h4⟩ := c.2 hp
    refine ⟨n + n', τ', by omega, fun m => ?_, h3, h4⟩
    rw [show m + (n + n') = (m + n') + n by omega, hr (m + n'), h2 m]
theorem CO.lo {N h L lo lo' e u e' e1 B B' : Nat} {σ τ : Ms} {y : Int32} {p : LSt × Nat} {k : LSt → LSt × Nat} (h1 : lo' ≤ lo) (he : e1 ≤ e') (hB : B ≤ B') (c : CO N σ h L y lo e u τ e1 B p) (hk : p.2 = 0 → ∀ n τ', CL h L y p.1 τ' → S62 σ τ' → τ'.1 L 5 = nI 0 → u + n + 100 * (300 - p.1.2.1) ≤ B → (∀ j, (j < lo ∨ e1 ≤ j) → τ'.1 (L + 1) j = τ.1 (L + 1) j) → CO N σ h L y lo' e1 (u + n) τ' e' B' (k p.1)) : CO N σ h L y lo' e u τ e' B' (aThen p k) := by
  unfold aThen
  by_cases q : p.2 = 0
  · rw [if_pos q]
    obtain ⟨n, τ', g1, g2, g3, g4, g5, g6⟩ := c.1 q
    exact CO.pre g1 (fun j hj => g6 j (by omega)) (hk q n τ' g2 g3 g4 g5 g6)
  · rw [if_neg q]
    exact ⟨fun z => absurd z q, fun _ => c.2 q⟩
theorem hasE {E e : Nat} {τ : Ms} (hE : E ≤ 60) (h2 : τ.1 62 2 = nI E) (he : e ≤ 60) : F5_hasEntry 62 (nI e) τ = some (bI (decide (e < E)), τ) := by
  unfold F5_hasEntry
  rw [if_neg (nI_pos (by omega)), h2]
  by_cases q : e < E
  · rw [if_neg (nI_ge q (by omega)), if_neg (by exact nI_ge (b := 60) (by omega) (by omega)), decide_eq_true q]
    rfl
  · rw [if_pos (nI_le (by omega) (by omega)), decide_eq_false q]
    rfl
theorem turn_end {N L h E u : Nat} {τ : Ms} (hE : E ≤ 60) (h2 : τ.1 62 2 = nI E) (hu : u ≤ 30000) (m : Nat) : fx (m + 1) (RF N L h) (nI E, nI u, τ) = some ((), τ) := by
  show F2_run_b41B N L h 62 (fx m (RF N L h)) (nI E) (nI u) τ = _
  unfold F2_run_b41B
  rw [if_neg (by exact nI_nlt (a := 30000) hu (by omega)), hasE hE h2 (by omega), bn_s, decide_eq_false (by omega), if_pos (by rfl)]
theorem turn_full {N L h E e k u : Nat} {τ : Ms} (hE : E ≤ 60) (h2 : τ.1 62 2 = nI E) (hu : u ≤ 30000) (he : e < E) (hk : τ.1 63 e = nI k) (hk8 : k < 8) (hd : τ.1 L 0 = nI 300) (m : Nat) : fx (m + 1) (RF N L h) (nI e, nI u, τ) = some ((), sI τ L 5 (nI 1)) := by
  show F2_run_b41B N L h 62 (fx m (RF N L h)) (nI e) (nI u) τ = _
  unfold F2_run_b41B
  rw [if_neg (by exact nI_nlt (a := 30000) hu (by omega)), hasE hE h2 (by omega), bn_s, decide_eq_true he, if_neg (by decide), u_ix (show e < 60 by omega) (by omega), ck_t, u_cl (by omega), hk, if_pos (by exact fun z => by have := (nI_eq (b := 8) (by omega) (by omega)).mp z; omega), hd, if_neg (by exact fun z => z rfl)]
  rfl
theorem turn_step {N L h E e k u d : Nat} {r : Int32} {τ τ' : Ms} (hE : E ≤ 60) (h2 : τ.1 62 2 = nI E) (hu : u ≤ 30000) (he : e < E) (hk : τ.1 63 e = nI k) (hk8 : k < 8) (hd : τ.1 L 0 = nI d) (hd3 : d < 300) (hs : F2_doStep N L h 62 (nI e) (sI τ L 0 (nI (d + 1))) = some (r, τ')) : Rch (RF N L h) 1 (nI e, nI u, τ) (r, nI (u + 1), τ') := by
  refine Rch.one fun K => ?_
  show F2_run_b41B N L h 62 K (nI e) (nI u) τ = _
  unfold F2_run_b41B F2_run_b118
  rw [if_neg (by exact nI_nlt (a := 30000) hu (by omega)), hasE hE h2 (by omega), bn_s, decide_eq_true he, if_neg (by decide), u_ix (show e < 60 by omega) (by omega), ck_t, u_cl (by omega), hk, if_pos (by exact fun z => by have := (nI_eq (b := 8) (by omega) (by omega)).mp z; omega), hd, if_pos (by exact fun z => by have := (nI_eq (b := 300) (by omega) (by omega)).mp z; omega), L_1, nI_add, lt_e, hs, bn_s, nI_add]
theorem turn_back {N L h E e u : Nat} {r : Int32} {τ τ' : Ms} (hE : E ≤ 60) (h2 : τ.1 62 2 = nI E) (hu : u ≤ 30000) (he : e < E) (hk : τ.1 63 e = nI 8) (hs : F2_behindEnd L 62 (nI e) τ = some (r, τ')) : Rch (RF N L h) 1 (nI e, nI u, τ) (r, nI (u + 1), τ') := by
  refine Rch.one fun K => ?_
  show F2_run_b41B N L h 62 K (nI e) (nI u) τ = _
  unfold F2_run_b41B F2_run_b118
  rw [if_neg (by exact nI_nlt (a := 30000) hu (by omega)), hasE hE h2 (by omega), bn_s, decide_eq_true he, if_neg (by decide), u_ix (show e < 60 by omega) (by omega), ck_t, u_cl (by omega), hk, if_neg (by exact fun z => z rfl), hs, bn_s, L_1, nI_add]
theorem back_when {L E e m k : Nat} {τ : Ms} (hE : E ≤ 60) (h2 : τ.1 62 2 = nI E) (he : e < E) (hm : m < 60) (hM : τ.1 67 m = nI e) (hk : τ.1 63 e = nI k) (hk6 : k < 6) : F2_behindEnd L 62 (nI m) τ = some (nI (m + 1), τ) := by
  unfold F2_behindEnd F2_behindEnd_b26
  rw [u_ix hm (by omega), ck_t, u_cl (show m < 2147483648 by omega), hM, lt_e, hasE hE h2 (by omega), bn_s, decide_eq_true he, if_neg (by decide), u_ix (show e < 60 by omega) (by omega), ck_t, u_cl (show e < 2147483648 by omega), hk, if_neg (by exact fun z => by have := (nI_eq (b := 6) (by omega) (by omega)).mp z; omega), L_1, nI_add]
theorem back_loop {L E e m r : Nat} {τ : Ms} (hE : E ≤ 60) (h2 : τ.1 62 2 = nI E) (he : e < E) (hm : m < 60) (hM : τ.1 67 m = nI e) (hk : τ.1 63 e = nI 6) (hr : τ.1 (L + 1) e = nI (r + 1)) (hr' : r < 1000) : F2_behindEnd L 62 (nI m) τ = some (nI (if r = 0 then m + 1 else e + 1), sI τ (L + 1) e (nI r)) := by
  unfold F2_behindEnd F2_behindEnd_b26
  rw [u_ix hm (by omega), ck_t, u_cl (show m < 2147483648 by omega), hM, lt_e, hasE hE h2 (by omega), bn_s, decide_eq_true he, if_neg (by decide), u_ix (show e < 60 by omega) (by omega), ck_t, u_cl (show e < 2147483648 by omega), hk, if_pos (by rfl), ck_t, ck_t, hr, L_1, u_sub (by omega), Nat.add_sub_cancel, lt_e, ck_t, rI_e rfl rfl]
  by_cases q : r = 0
  · rw [q, if_pos (by decide), if_pos (by rfl), nI_add]
  · rw [if_neg (by exact nI_ge (a := 0) (by omega) (by omega)), if_neg q, nI_add]
