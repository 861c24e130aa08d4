/-- the model's program, in its block 0 -/
def mD (σ : Ms) : Nat → Nat → Int32 := fun t o => σ.1 5 (86 + 9 * t + o)
def S84 (σ τ : Ms) : Prop := ∀ j, 84 ≤ j → τ.1 5 j = σ.1 5 j
/-- the model's life has gone as p says -/
def MO (σ : Ms) (x : Int32) (p : LSt × Nat) (τ : Ms) : Prop := ML x p.1 τ ∧ S84 σ τ ∧ τ.1 0 38 = nI (if p.2 = 0 then 0 else 1) ∧ τ.1 0 45 = nI (p.2 - 1)
theorem MO.d {σ τ : Ms} {x : Int32} {p : LSt × Nat} (h : MO σ x p τ) {t o : Nat} : τ.1 5 (86 + 9 * t + o) = mD σ t o := h.2.1 _ (by omega)
noncomputable def DAF (N Dp : Nat) : (Int32 × Int32 × Ms → Option (Unit × Ms)) → Int32 × Int32 × Ms → Option (Unit × Ms) := fun k x => F12_doAll_b2B N (fun q τ => F12_doOneB N (F12_doAll N Dp) q τ) k x.1 x.2.1 x.2.2
theorem doAll_s (N Dp : Nat) (p q : Int32) (τ : Ms) : F12_doAll N (Dp + 1) p q τ = fx N (DAF N Dp) (q, p, τ) := rfl
theorem m_end {N n Dp t t' : Nat} {τ : Ms} (hn : 0 < n) (h : t' ≤ t) (ht : t < 2147483648) : fx n (DAF N Dp) (nI t', nI t, τ) = some ((), τ) := by
  obtain ⟨k, rfl⟩ : ∃ k, n = k + 1 := ⟨n - 1, by omega⟩
  show F12_doAll_b2B N _ (fx k (DAF N Dp)) (nI t') (nI t) τ = _
  unfold F12_doAll_b2B
  rw [if_pos (nI_le h ht)]
theorem m_over {N n Dp : Nat} {p q : Int32} {τ : Ms} (hn : 0 < n) (h : τ.1 0 38 = nI 1) : fx n (DAF N Dp) (p, q, τ) = some ((), τ) := by
  obtain ⟨k, rfl⟩ : ∃ k, n = k + 1 := ⟨n - 1, by omega⟩
  show F12_doAll_b2B N _ (fx k (DAF N Dp)) p q τ = _
  unfold F12_doAll_b2B
  by_cases z : p ≤ q
  · rw [if_pos z]
  · rw [if_neg z, h, if_pos (by decide)]
theorem more_M {x : Int32} {s : LSt} {τ : Ms} (c : ML x s τ) : ML x (more s) (sI τ 0 40 (τ.1 0 40 + (1 : Int32))) := by
  obtain ⟨m, e4, e40, e41, e42, e43, e44, e39⟩ := c
  exact ⟨m.mv fun j => rI_k (by omega), by rw [rI_k (by omega)]; exact e4, by rw [rI_e rfl rfl, e40, L_1, nI_add]; rfl, by rw [rI_j (by omega)]; exact e41, by rw [rI_j (by omega)]; exact e42, by rw [rI_j (by omega)]; exact e43, by rw [rI_j (by omega)]; exact e44, by rw [rI_j (by omega)]; exact e39⟩
theorem flag_M {x : Int32} {s : LSt} {τ : Ms} {j : Nat} {v : Int32} (hj : j = 38 ∨ j = 45) (c : ML x s τ) : ML x s (sI τ 0 j v) := by
  obtain ⟨m, e4, e40, e41, e42, e43, e44, e39⟩ := c
  exact ⟨m.mv fun j => rI_k (by omega), by rw [rI_k (by omega)]; exact e4, by rw [rI_j (by omega)]; exact e40, by rw [rI_j (by omega)]; exact e41, by rw [rI_j (by omega)]; exact e42, by rw [rI_j (by omega)]; exact e43, by rw [rI_j (by omega)]; exact e44, by rw [rI_j (by omega)]; exact e39⟩
theorem miss_M {x : Int32} {p : Bool × LSt} {τ : Ms} (c : ML x p.2 τ) : ML x (fnd p) (sI τ 0 41 (nI p.2.2.2.1 + (if p.1 = true then nI 0 else nI 1))) := by
  obtain ⟨m, e4, e40, e41, e42, e43, e44, e39⟩ := c
  have h : ML x (fnd p) (sI τ 0 41 (nI (fnd p).2.2.1)) := by
    have e : (fnd p).1 = p.2.1 ∧ (fnd p).2.1 = p.2.2.1 ∧ (fnd p).2.2.2 = p.2.2.2.2 := by
      unfold fnd
      split <;> exact ⟨rfl, rfl, rfl⟩
    refine ⟨by rw [e.1]; exact m.mv fun j => rI_k (by omega), by rw [e.2.2, rI_k (by omega)]; exact e4, by rw [e.2.1, rI_j (by omega)]; exact e40, rI_e rfl rfl, by rw [rI_j (by omega)]; exact e42, by rw [e.2.2, rI_j (by omega)]; exact e43, by rw [e.2.2, rI_j (by omega)]; exact e44, by rw [e.2.2, rI_j (by omega)]; exact e39⟩
  have hv : nI p.2.2.2.1 + (if p.1 = true then nI 0 else nI 1) = nI (fnd p).2.2.1 := by
    unfold fnd
    cases p.1
    · rw [if_neg (by decide), if_neg (by decide), nI_add]
      rfl
    · rw [if_pos (by rfl), if_pos (by rfl), nI_add]
      rfl
  rw [hv]
  exact h
theorem aTry_m (D : Nat → Nat → Int32) (t : Nat) (s : LSt) : (aTry D t s).2.2.2.1 = s.2.2.1 := by
  have c : ∀ d i (s : LSt), (cutT d i s).2.2.2.1 = s.2.2.1 := fun d i s => by
    unfold cutT
    split <;> rfl
  unfold aTry
  split
  · exact c _ _ _
  split
  · unfold takeT
    split <;> rfl
  split
  · unfold lessT
    split <;> rfl
  split
  · unfold growT
    split <;> rfl
  · unfold anyT
    split
    · rfl
    · rw [c, sown_m]
/-- one step of the model: the head of doOne -/
theorem one_head {N t k : Nat} {r12 : Int32 → Int32 → Ms → Option (Unit × Ms)} {σ τ : Ms} {P : Unit → Ms → Prop} (ht : t < 30) (hd : τ.1 0 40 ≠ nI 300) (h84 : S84 σ τ) (hk : mD σ t 0 = nI k) (hk' : k < 100) (h : wp (if 5 ≤ k then (if k ≠ 5 then F12_doOne_b108 N r12 (nI t) (nI (86 + 9 * t)) (nI k) (sI τ 0 40 (τ.1 0 40 + (1 : Int32))) else bn (F12_holds N (nI (86 + 9 * t)) (sI τ 0 40 (τ.1 0 40 + (1 : Int32)))) (fun r8 t9 => if r8 = 0 then F12_doOne_b108 N r12 (nI t) (nI (86 + 9 * t)) (nI k) t9 else bn (r12 (nI (t + 1)) (t9.1 5 (86 + 9 * t + 8)) t9) (fun _ t11 => some ((), t11)))) else bn (F12_does N (nI (86 + 9 * t)) (sI τ 0 40 (τ.1 0 40 + (1 : Int32)))) (fun r12' t13 => if r12' = 0 then F12_doOne_b69 N r12 (τ.1 0 41) (1 : Int32) t13 else F12_doOne_b69 N r12 (τ.1 0 41) (0 : Int32) t13)) P) : wp (F12_doOneB N r12 (nI t) τ) P := by
  unfold F12_doOneB
  have e0 : (sI τ 0 40 (τ.1 0 40 + (1 : Int32))).1 5 (86 + 9 * t) = nI k := by
    rw [rI_k (by omega), h84 _ (by omega)]
    exact hk
  rw [if_pos (by exact hd), lt_e, show (86 : Int32) = nI 86 from rfl, show (9 : Int32) = nI 9 from rfl, nI_mul, nI_add, lt_e, u_ix (show 86 + 9 * t < 1780 by omega) (by omega), ck_t, u_cl (show 86 + 9 * t < 2147483648 by omega), e0, lt_e, show (8 : Int32) = nI 8 from rfl, nI_add, u_ix (show 86 + 9 * t + 8 < 1780 by omega) (by omega), u_cl (show 86 + 9 * t + 8 < 2147483648 by omega), rI_j (show 41 ≠ 40 by omega)]
  have e1 : nI t + (1 : Int32) = nI (t + 1) := nI_add t 1
  rw [e1]
  by_cases q : 5 ≤ k
  · rw [if_pos q] at h
    rw [if_pos (by exact nI_le (a := 5) q (by omega))]
    by_cases q5 : k = 5
    · rw [if_neg (by exact fun z => z q5)] at h
      rw [if_neg (by exact fun z => z (by rw [q5]; rfl))]
      exact h
    · rw [if_pos q5] at h
      rw [if_pos (by exact fun z => q5 ((nI_eq (b := 5) (by omega) (by omega)).mp z))]
      exact h
  · rw [if_neg q] at h
    rw [if_neg (by exact nI_ge (b := 5) (by omega) (by omega))]
    exact h
theorem S84.k {σ τ τ' : Ms} (h : S84 σ τ) (k : KM τ τ') : S84 σ τ' := fun j hj => (k.1 j hj).trans (h j hj)
theorem S84.s {σ τ : Ms} {j : Nat} {v : Int32} (h : S84 σ τ) : S84 σ (sI τ 0 j v) := fun i hi => (rI_k (by omega)).trans (h i hi)
/-- the rounds of a loop -/
theorem mLoop {N t r n : Nat} {σ : Ms} {x : Int32} {r12 : Int32 → Int32 → Ms → Option (Unit × Ms)} {F : LSt → LSt × Nat} (ht : t < 30) (h1 : mD σ t 1 = nI r) (hr : r < 100) (h8 : mD σ t 8 = nI n) (hO : ∀ s, LO s → LO (F s).1) (body : ∀ s τ, LO s → MO σ x (s, 0) τ → wp (r12 (nI (t + 1)) (nI n) τ) fun _ τ' => MO σ x (F s) τ') : ∀ k m s τ, k ≤ r → r - k < m → LO s → MO σ x (s, 0) τ → wp (fx m (fun k x => F12_doOne_b117B N r12 k x.1 x.2.1 x.2.2.1 x.2.2.2) (nI t, nI (86 + 9 * t), nI k, τ)) fun _ τ' => MO σ x (aLoop F (r - k) s) τ' := by
  intro k m
  induction m generalizing k with
  | zero => intro s τ _ h; omega
  | succ m ih =>
    intro s τ hk hm o c
    have hv1 := c.d (t := t) (o := 1)
    have hv8 := c.d (t := t) (o := 8)
    rw [h1] at hv1
    rw [h8] at hv8
    show wp (F12_doOne_b117B N r12 (fx m _) (nI t) (nI (86 + 9 * t)) (nI k) τ) _
    unfold F12_doOne_b117B
    rw [show (1 : Int32) = nI 1 from rfl, show (8 : Int32) = nI 8 from rfl, nI_add, nI_add, nI_add, nI_add, u_ix (show 86 + 9 * t + 1 < 1780 by omega) (by omega), u_ix (show 86 + 9 * t + 8 < 1780 by omega) (by omega), ck_t, ck_t, u_cl (show 86 + 9 * t + 1 < 2147483648 by omega), u_cl (show 86 + 9 * t + 8 < 2147483648 by omega), hv1, hv8]
    by_cases q : r ≤ k
    · rw [if_pos (nI_le q (by omega)), show r - k = 0 by omega]
      exact wp_some.mpr c
    rw [if_neg (nI_ge (by omega) (by omega)), c.2.2.1, if_neg (by exact fun z => z rfl)]
    refine wp_bn.mpr (wp_mono (body s τ o c) ?_)
    rintro _ τ' c'
    rw [show r - k = (r - (k + 1)) + 1 by omega]
    show wp _ fun _ τ'' => MO σ x (aThen (F s) (aLoop F (r - (k + 1)))) τ''
    unfold aThen
    by_cases z : (F s).2 = 0
    · rw [if_pos z]
      refine ih (k + 1) (F s).1 τ' (by omega) (by omega) (hO s o) ?_
      have := c'
      unfold MO at *
      rw [z] at this
      exact this
    · rw [if_neg z]
      have h38 : τ'.1 0 38 = nI 1 := by rw [c'.2.2.1, if_neg z]
      have hv1' := c'.d (t := t) (o := 1)
      rw [h1] at hv1'
      obtain ⟨m', rfl⟩ : ∃ m', m = m' + 1 := ⟨m - 1, by omega⟩
      show wp (F12_doOne_b117B N r12 (fx m' _) (nI t) (nI (86 + 9 * t)) (nI (k + 1)) τ') _
      unfold F12_doOne_b117B
      rw [show (1 : Int32) = nI 1 from rfl, show (8 : Int32) = nI 8 from rfl, nI_add, nI_add, u_ix (show 86 + 9 * t + 1 < 1780 by omega) (by omega), ck_t, u_cl (show 86 + 9 * t + 1 < 2147483648 by omega), hv1']
      by_cases q2 : r ≤ k + 1
      · rw [if_pos (nI_le q2 (by omega))]
        exact wp_some.mpr c'
      · rw [if_neg (nI_ge (by omega) (by omega)), h38, if_pos (by decide)]
        exact wp_some.mpr c'
theorem MO.st {σ τ : Ms} {x : Int32} {p : LSt × Nat} (h : MO σ x p τ) (z : p.2 = 0) : MO σ x (p.1, 0) τ := by
  unfold MO at *
  rw [z] at h
  exact h
theorem mSeg {N : Nat} {σ : Ms} {x : Int32} (hN : 200 < N) : ∀ {K A B C M : Nat → Int32} {f g e t e' t' Dp m : Nat}, Seg K A B C M (mD σ) f g e t e' t' → g < Dp → t' ≤ 30 → t' - t < m → ∀ s τ, LO s → MO σ x (s, 0) τ → wp (fx m (DAF N Dp) (nI t', nI t, τ)) fun _ τ' => MO σ x (aSeq (mD σ) f t t' s) τ'
  | K, A, B, C, M, 0, g, e, t, e', t', Dp, m, hS, hg, ht', hm, s, τ, o, c => by
    obtain ⟨-, rfl⟩ := hS
    rw [m_end (by omega) (Nat.le_refl _) (by omega)]
    exact wp_some.mpr c
  | K, A, B, C, M, f + 1, g, e, t, e', t', Dp, m, hS, hg, ht', hm, s, τ, o, c => by
    unfold aSeq
    by_cases q : t = t'
    · rw [if_pos q, m_end (by omega) (by omega) (by omega)]
      exact wp_some.mpr c
    rw [if_neg q]
    obtain ⟨m', rfl⟩ : ∃ m', m = m' + 1 := ⟨m - 1, by omega⟩
    have hlt : t < t' := by
      have := (Seg_le hS).2
      omega
    have ho2 := o.2
    show wp (F12_doAll_b2B N _ (fx m' (DAF N Dp)) (nI t') (nI t) τ) _
    unfold F12_doAll_b2B
    rw [if_neg (nI_ge hlt (by omega)), c.2.2.1, if_neg (by exact fun z => z rfl), show (86 : Int32) = nI 86 from rfl, show (9 : Int32) = nI 9 from rfl, show (8 : Int32) = nI 8 from rfl, nI_mul, nI_add, nI_add, u_ix (show 86 + 9 * t + 8 < 1780 by omega) (by omega), u_cl (show 86 + 9 * t + 8 < 2147483648 by omega)]
    have over : ∀ (p : LSt × Nat) (τ' : Ms), p.2 ≠ 0 → MO σ x p τ' → wp (ck true (lt (τ'.1 5 (86 + 9 * t + 8)) fun x3 => fx m' (DAF N Dp) (nI t', x3, τ'))) fun _ τ'' => MO σ x p τ'' := fun p τ' hp h => by
      rw [ck_t, lt_e, m_over (by omega) (by rw [h.2.2.1, if_neg hp])]
      exact wp_some.mpr h
    by_cases qd : s.2.1 = 300
    · rw [if_pos qd]
      have e1 : F12_doOneB N (F12_doAll N Dp) (nI t) τ = some ((), sI (sI τ 0 38 (1 : Int32)) 0 45 (1 : Int32)) := by
        unfold F12_doOneB
        rw [c.1.2.2.1, qd, if_neg (by exact fun z => z rfl)]
        rfl
      rw [e1, bn_s]
      exact over (s, 2) _ (show (2 : Nat) ≠ 0 by decide) ⟨flag_M (Or.inr rfl) (flag_M (Or.inl rfl) c.1), c.2.1.s.s, by rw [rI_j (by omega), rI_e rfl rfl]; rfl, by rw [rI_e rfl rfl]; rfl⟩
    rw [if_neg qd]
    have hd : τ.1 0 40 ≠ nI 300 := by
      rw [c.1.2.2.1]
      exact fun z => qd ((nI_eq (by omega) (by omega)).mp z)
    have cm := more_M c.1
    have om := more_O o qd
    have s84 : S84 σ (sI τ 0 40 (τ.1 0 40 + (1 : Int32))) := c.2.1.s
    have c38 : (sI τ 0 40 (τ.1 0 40 + (1 : Int32))).1 0 38 = nI 0 := by rw [rI_j (by omega), c.2.2.1]; rfl
    have c45 : (sI τ 0 40 (τ.1 0 40 + (1 : Int32))).1 0 45 = nI 0 := by rw [rI_j (by omega), c.2.2.2]; rfl
    rcases hS with ⟨-, z⟩ | ⟨he, hs30, ho, hd8, hr⟩ | ⟨he, hs30, ho, em, n, i, hgi, hm60, hM, hK, hM', ha, hd8, hb⟩
    · exact absurd z q
    · rcases step_k ho with ⟨k, hk, -, d0⟩ | ⟨-, d0⟩
      · rw [d0, u_cl (show k < 2147483648 by omega), if_pos hk]
        refine wp_bn.mpr (one_head (σ := σ) (k := k) hs30 hd c.2.1 d0 (by omega) ?_)
        rw [if_neg (by omega)]
        refine wp_bn.mpr (wp_mono (mDoes (by omega) om.1 cm ho (by rw [d0]; exact fun z => by have := (nI_eq (b := 7) (by omega) (by omega)).mp z; omega) (by omega) (s84 _ (by omega)) (s84 _ (by omega)) (s84 _ (by omega))) ?_)
        rintro _ τ' ⟨rfl, c1, k1⟩
        have hfin := miss_M c1
        rw [aTry_m] at hfin
        have e41 : τ.1 0 41 = nI (more s).2.2.1 := c.1.2.2.2.1
        have nx : ∀ v : Int32, v = (if (aTry (mD σ) t (more s)).1 = true then nI 0 else nI 1) → wp (F12_doOne_b69 N (F12_doAll N Dp) (τ.1 0 41) v τ') fun _ τ'' => wp (ck true (lt (τ''.1 5 (86 + 9 * t + 8)) fun x3 => fx m' (DAF N Dp) (nI t', x3, τ''))) fun _ τ3 => MO σ x (aSeq (mD σ) f (t + 1) t' (fnd (aTry (mD σ) t (more s)))) τ3 := fun v hv => by
          unfold F12_doOne_b69
          rw [lt_e, e41, hv]
          refine wp_some.mpr ?_
          have mo : MO σ x (fnd (aTry (mD σ) t (more s)), 0) (sI τ' 0 41 (nI (more s).2.2.1 + (if (aTry (mD σ) t (more s)).1 = true then nI 0 else nI 1))) := ⟨hfin, (s84.k k1).s, by rw [rI_j (by omega), k1.2.1]; exact c38, by rw [rI_j (by omega), k1.2.2.1]; exact c45⟩
          rw [ck_t, lt_e, mo.d, hd8]
          exact mSeg hN hr hg ht' (by omega) _ _ (step_O om ho) mo
        cases hb : (aTry (mD σ) t (more s)).1
        · rw [if_pos (by rfl)]
          exact nx _ (by rw [hb]; rfl)
        · rw [if_neg (by decide)]
          exact nx _ (by rw [hb]; rfl)
      · rw [d0, u_cl (show 7 < 2147483648 by omega), if_neg (by omega), if_neg (by omega), if_neg (by omega)]
        refine wp_bn.mpr (one_head (σ := σ) (k := 7) hs30 hd c.2.1 d0 (by omega) ?_)
        rw [if_pos (by omega), if_pos (by omega)]
        unfold F12_doOne_b108
        rw [if_pos (by decide), if_neg (by decide), show nkB (1 : Int32) = true by decide, ck_t, lt_e]
        refine wp_some.mpr (over (more s, 1) _ (show (1 : Nat) ≠ 0 by decide) ⟨flag_M (Or.inl rfl) cm, s84.s, by rw [rI_e rfl rfl]; rfl, by rw [rI_j (by omega)]; exact c45⟩)
    · have hla := Seg_le ha
      have hlb := Seg_le hb
      have hn : (nI n).toNatClampNeg = n := u_cl (by omega)
      obtain ⟨Dq, rfl⟩ : ∃ Dq, Dp = Dq + 1 := ⟨Dp - 1, by omega⟩
      have bodyF : ∀ s1 τ1, LO s1 → MO σ x (s1, 0) τ1 → wp (F12_doAll N (Dq + 1) (nI (t + 1)) (nI n) τ1) fun _ τ' => MO σ x (aSeq (mD σ) f (t + 1) n s1) τ' := fun s1 τ1 o1 c1 => by
        rw [doAll_s]
        exact mSeg hN ha (by omega) (by omega) (by omega) s1 τ1 o1 c1
      have rest : ∀ (p : LSt × Nat) (τ' : Ms), (p.2 = 0 → LO p.1) → MO σ x p τ' → wp (ck true (lt (τ'.1 5 (86 + 9 * t + 8)) fun x3 => fx m' (DAF N (Dq + 1)) (nI t', x3, τ'))) fun _ τ3 => MO σ x (aThen p (aSeq (mD σ) f n t')) τ3 := fun p τ' op h => by
        unfold aThen
        by_cases z : p.2 = 0
        · rw [if_pos z, ck_t, lt_e, h.d, hd8]
          exact mSeg hN hb hg ht' (by omega) _ _ (op z) (h.st z)
        · rw [if_neg z]
          exact over p τ' z h
      have mo : MO σ x (more s, 0) (sI τ 0 40 (τ.1 0 40 + (1 : Int32))) := ⟨cm, s84, c38, c45⟩
      rcases ho with hw | hl
      · rw [hw.2.1, u_cl (show 5 < 2147483648 by omega), if_neg (by omega), if_pos (by rfl), hd8, hn]
        refine wp_bn.mpr (one_head (σ := σ) (k := 5) hs30 hd c.2.1 hw.2.1 (by omega) ?_)
        rw [if_pos (by omega), if_neg (by omega)]
        refine wp_bn.mpr (wp_mono (mHold (by omega) om.1 cm hw (by omega) (fun o _ => s84 _ (by omega))) ?_)
        rintro _ τ' ⟨rfl, c1, k1⟩
        have mo' : MO σ x (more s, 0) τ' := ⟨c1, s84.k k1, by rw [k1.2.1]; exact c38, by rw [k1.2.2.1]; exact c45⟩
        have hms : (more s).1 = s.1 := rfl
        rw [hms]
        cases hb' : aHold (mD σ) t s.1
        · rw [if_pos (by rfl), if_neg (by decide)]
          unfold F12_doOne_b108
          rw [if_pos (by decide), if_pos (by decide)]
          exact wp_some.mpr (rest (more s, 0) τ' (fun _ => om) mo')
        · rw [if_neg (by decide), if_pos (by rfl), mo'.d, hd8]
          refine wp_bn.mpr (wp_mono (bodyF (more s) τ' om mo') ?_)
          rintro _ τ'' c2
          exact wp_some.mpr (rest _ τ'' (fun _ => aSeq_O ha (by omega) _ om) c2)
      · obtain ⟨k6, d6, r, hr1, hr9, ka, da⟩ := hl
        rw [d6, u_cl (show 6 < 2147483648 by omega), if_neg (by omega), if_neg (by omega), if_pos (by rfl), hd8, hn, da, u_cl (show r < 2147483648 by omega)]
        refine wp_bn.mpr (one_head (σ := σ) (k := 6) hs30 hd c.2.1 d6 (by omega) ?_)
        rw [if_pos (by omega), if_pos (by omega)]
        unfold F12_doOne_b108 F12_doOne_b117
        rw [if_neg (by exact fun z => z rfl)]
        refine wp_mono (mLoop (N := N) (k := 0) hs30 da (by omega) hd8 (fun s' h' => aSeq_O ha (by omega) s' h') bodyF N (more s) _ (by omega) (by omega) om mo) ?_
        rintro _ τ'' c2
        exact rest _ τ'' (fun _ => aLoop_O (fun s' h' => aSeq_O ha (by omega) s' h') _ _ om) c2
theorem aThen_z {p : LSt × Nat} {k : LSt → LSt × Nat} (h : p.2 ≤ 2) (hk : ∀ s, (k s).2 ≤ 2) : (aThen p k).2 ≤ 2 := by
  unfold aThen
  split
  · exact hk _
  · exact h
theorem aLoop_z {F : LSt → LSt × Nat} (hF : ∀ s, (F s).2 ≤ 2) : ∀ r s, (aLoop F r s).2 ≤ 2
  | 0, _ => Nat.zero_le _
  | r + 1, s => aThen_z (hF s) fun s' => aLoop_z hF r s'
theorem aSeq_z2 (D : Nat → Nat → Int32) : ∀ f t t' s, (aSeq D f t t' s).2 ≤ 2
  | 0, _, _, _ => Nat.zero_le _
  | f + 1, t, t', s => by
    unfold aSeq
    split
    · exact Nat.zero_le _
    split
    · exact Nat.le_refl _
    split
    · exact aSeq_z2 D f _ _ _
    split
    · refine aThen_z ?_ fun s' => aSeq_z2 D f _ _ s'
      split
      · exact aSeq_z2 D f _ _ _
      · exact Nat.zero_le _
    split
    · exact aThen_z (aLoop_z (fun s' => aSeq_z2 D f _ _ s') _ _) fun s' => aSeq_z2 D f _ _ s'
    · exact (by decide : 1 ≤ 2)
theorem aSeq_z (D : Nat → Nat → Int32) (f t t' : Nat) (s : LSt) : (aSeq D f t t' s).2 - 1 ≤ 1 := by
  have := aSeq_z2 D f t t' s
  omega
/-- the model's life, whole -/
theorem mRun {N E n f sd : Nat} {K A B C M : Nat → Int32} {σ : Ms} {H : HG} (hN : 200 < N) (hS : Seg K A B C M (mD σ) f 3 0 0 E n) (hn : n ≤ 30) (h85 : σ.1 5 85 = nI n) (w : WG H) (c : MG 0 H σ) (hsd : sd < 65536) : wp (F12_runsSeasons N (nI sd) σ) fun _ τ' => MO σ (σ.1 5 4) (aSeq (mD σ) f 0 n (H, 0, 0, 0, 0, 0, sd)) τ' := by
  unfold F12_runsSeasons
  rw [lt_e, lt_e, lt_e, show ixb (4 : Int32) 1780 = true by decide, ck_t, lt_e, lt_e, lt_e, lt_e, show nkB (0 : Int32) = true by decide, ck_t, lt_e, show ixb (85 : Int32) 1780 = true by decide, ck_t, show (4 : Int32).toNatClampNeg = 4 by decide, show (85 : Int32).toNatClampNeg = 85 by decide]
  have t0 : ∀ t : Ms, t = sI (sI (sI (sI (sI (sI (sI (sI σ 0 39 (nI sd)) 0 40 (0 : Int32)) 0 41 (0 : Int32)) 0 42 ((sI (sI (sI σ 0 39 (nI sd)) 0 40 (0 : Int32)) 0 41 (0 : Int32)).1 5 4)) 0 43 (0 : Int32)) 0 44 (0 : Int32)) 0 45 (0 : Int32)) 0 38 (0 : Int32) → MO σ (σ.1 5 4) ((H, 0, 0, 0, 0, 0, sd), 0) t ∧ t.1 5 85 = nI n := fun t ht => by
    have ek : ∀ j, t.1 5 j = σ.1 5 j := fun j => by rw [ht, rI_k (by omega), rI_k (by omega), rI_k (by omega), rI_k (by omega), rI_k (by omega), rI_k (by omega), rI_k (by omega), rI_k (by omega)]
    refine ⟨⟨⟨c.mv ek, ?_, ?_, ?_, ?_, ?_, ?_, ?_⟩, fun j _ => ek j, ?_, ?_⟩, by rw [ek]; exact h85⟩
    · rw [ek]
      show σ.1 5 4 = σ.1 5 4 + 0
      rw [Int32.add_zero]
    · rw [ht]; try simp (disch := first | omega | assumption) only [lt_e, bn_s, ck_t, nk0, nk1, nk_b, bI_t, bI_f, L_0, L_1, L_2, L_3, L_4, L_5, L_6, L_7, L_8, L_9, L_10, L_11, L_12, L_15, L_20, L_25, L_30, L_45, L_60, L_65, L_69, L_74, L_79, L_84, L_85, L_86, L_99, L_100, L_255, L_300, L_356, L_900, L_1424, L_1425, L_1489, L_1510, L_9999, L_10000, nI_add, nI_mul, u_lt_t, u_lt_f, u_le_t, u_le_f, u_eq_t, u_eq_f, u_mlt, u_ltm, u_eqm, u_meq, u_mle, u_b0, u_b1, u_ix, u_cl, u_sub, u_suc, u_z0, u_0m, cI_0, cI_s, rI_e, rI_k, rI_j, rI_l, rL_e, rL_k, rL_j, rL_i, told11, none11, refuse12, no11q, no12q, yes11q, if_true, if_false, ite_true, ite_false, ne_eq, not_true_eq_false, not_false_eq_true, Classical.not_not, Bool.not_eq_true, Bool.not_eq_false, reduceCtorEq, Nat.add_zero, Nat.zero_add, Nat.mul_zero, and_self, and_true, true_and, Bool.true_eq_false, Bool.false_eq_true, eq_self]
    · rw [ht]; try simp (disch := first | omega | assumption) only [lt_e, bn_s, ck_t, nk0, nk1, nk_b, bI_t, bI_f, L_0, L_1, L_2, L_3, L_4, L_5, L_6, L_7, L_8, L_9, L_10, L_11, L_12, L_15, L_20, L_25, L_30, L_45, L_60, L_65, L_69, L_74, L_79, L_84, L_85, L_86, L_99, L_100, L_255, L_300, L_356, L_900, L_1424, L_1425, L_1489, L_1510, L_9999, L_10000, nI_add, nI_mul, u_lt_t, u_lt_f, u_le_t, u_le_f, u_eq_t, u_eq_f, u_mlt, u_ltm, u_eqm, u_meq, u_mle, u_b0, u_b1, u_ix, u_cl, u_sub, u_suc, u_z0, u_0m, cI_0, cI_s, rI_e, rI_k, rI_j, rI_l, rL_e, rL_k, rL_j, rL_i, told11, none11, refuse12, no11q, no12q, yes11q, if_true, if_false, ite_true, ite_false, ne_eq, not_true_eq_false, not_false_eq_true, Classical.not_not, Bool.not_eq_true, Bool.not_eq_false, reduceCtorEq, Nat.add_zero, Nat.zero_add, Nat.mul_zero, and_self, and_true, true_and, Bool.true_eq_false, Bool.false_eq_true, eq_self]
    · rw [ht]; try simp (disch := first | omega | assumption) only [lt_e, bn_s, ck_t, nk0, nk1, nk_b, bI_t, bI_f, L_0, L_1, L_2, L_3, L_4, L_5, L_6, L_7, L_8, L_9, L_10, L_11, L_12, L_15, L_20, L_25, L_30, L_45, L_60, L_65, L_69, L_74, L_79, L_84, L_85, L_86, L_99, L_100, L_255, L_300, L_356, L_900, L_1424, L_1425, L_1489, L_1510, L_9999, L_10000, nI_add, nI_mul, u_lt_t, u_lt_f, u_le_t, u_le_f, u_eq_t, u_eq_f, u_mlt, u_ltm, u_eqm, u_meq, u_mle, u_b0, u_b1, u_ix, u_cl, u_sub, u_suc, u_z0, u_0m, cI_0, cI_s, rI_e, rI_k, rI_j, rI_l, rL_e, rL_k, rL_j, rL_i, told11, none11, refuse12, no11q, no12q, yes11q, if_true, if_false, ite_true, ite_false, ne_eq, not_true_eq_false, not_false_eq_true, Classical.not_not, Bool.not_eq_true, Bool.not_eq_false, reduceCtorEq, Nat.add_zero, Nat.zero_add, Nat.mul_zero, and_self, and_true, true_and, Bool.true_eq_false, Bool.false_eq_true, eq_self]
    · rw [ht]; try simp (disch := first | omega | assumption) only [lt_e, bn_s, ck_t, nk0, nk1, nk_b, bI_t, bI_f, L_0, L_1, L_2, L_3, L_4, L_5, L_6, L_7, L_8, L_9, L_10, L_11, L_12, L_15, L_20, L_25, L_30, L_45, L_60, L_65, L_69, L_74, L_79, L_84, L_85, L_86, L_99, L_100, L_255, L_300, L_356, L_900, L_1424, L_1425, L_1489, L_1510, L_9999, L_10000, nI_add, nI_mul, u_lt_t, u_lt_f, u_le_t, u_le_f, u_eq_t, u_eq_f, u_mlt, u_ltm, u_eqm, u_meq, u_mle, u_b0, u_b1, u_ix, u_cl, u_sub, u_suc, u_z0, u_0m, cI_0, cI_s, rI_e, rI_k, rI_j, rI_l, rL_e, rL_k, rL_j, rL_i, told11, none11, refuse12, no11q, no12q, yes11q, if_true, if_false, ite_true, ite_false, ne_eq, not_true_eq_false, not_false_eq_true, Classical.not_not, Bool.not_eq_true, Bool.not_eq_false, reduceCtorEq, Nat.add_zero, Nat.zero_add, Nat.mul_zero, and_self, and_true, true_and, Bool.true_eq_false, Bool.false_eq_true, eq_self]
    · rw [ht]; try simp (disch := first | omega | assumption) only [lt_e, bn_s, ck_t, nk0, nk1, nk_b, bI_t, bI_f, L_0, L_1, L_2, L_3, L_4, L_5, L_6, L_7, L_8, L_9, L_10, L_11, L_12, L_15, L_20, L_25, L_30, L_45, L_60, L_65, L_69, L_74, L_79, L_84, L_85, L_86, L_99, L_100, L_255, L_300, L_356, L_900, L_1424, L_1425, L_1489, L_1510, L_9999, L_10000, nI_add, nI_mul, u_lt_t, u_lt_f, u_le_t, u_le_f, u_eq_t, u_eq_f, u_mlt, u_ltm, u_eqm, u_meq, u_mle, u_b0, u_b1, u_ix, u_cl, u_sub, u_suc, u_z0, u_0m, cI_0, cI_s, rI_e, rI_k, rI_j, rI_l, rL_e, rL_k, rL_j, rL_i, told11, none11, refuse12, no11q, no12q, yes11q, if_true, if_false, ite_true, ite_false, ne_eq, not_true_eq_false, not_false_eq_true, Classical.not_not, Bool.not_eq_true, Bool.not_eq_false, reduceCtorEq, Nat.add_zero, Nat.zero_add, Nat.mul_zero, and_self, and_true, true_and, Bool.true_eq_false, Bool.false_eq_true, eq_self]
    · rw [ht, rI_j (by omega), rI_j (by omega), rI_j (by omega), rI_j (by omega), rI_j (by omega), rI_j (by omega), rI_j (by omega)]
      exact rI_e rfl rfl
    · rw [ht]; try simp (disch := first | omega | assumption) only [lt_e, bn_s, ck_t, nk0, nk1, nk_b, bI_t, bI_f, L_0, L_1, L_2, L_3, L_4, L_5, L_6, L_7, L_8, L_9, L_10, L_11, L_12, L_15, L_20, L_25, L_30, L_45, L_60, L_65, L_69, L_74, L_79, L_84, L_85, L_86, L_99, L_100, L_255, L_300, L_356, L_900, L_1424, L_1425, L_1489, L_1510, L_9999, L_10000, nI_add, nI_mul, u_lt_t, u_lt_f, u_le_t, u_le_f, u_eq_t, u_eq_f, u_mlt, u_ltm, u_eqm, u_meq, u_mle, u_b0, u_b1, u_ix, u_cl, u_sub, u_suc, u_z0, u_0m, cI_0, cI_s, rI_e, rI_k, rI_j, rI_l, rL_e, rL_k, rL_j, rL_i, told11, none11, refuse12, no11q, no12q, yes11q, if_true, if_false, ite_true, ite_false, ne_eq, not_true_eq_false, not_false_eq_true, Classical.not_not, Bool.not_eq_true, Bool.not_eq_false, reduceCtorEq, Nat.add_zero, Nat.zero_add, Nat.mul_zero, and_self, and_true, true_and, Bool.true_eq_false, Bool.false_eq_true, eq_self]
    · rw [ht]; try simp (disch := first | omega | assumption) only [lt_e, bn_s, ck_t, nk0, nk1, nk_b, bI_t, bI_f, L_0, L_1, L_2, L_3, L_4, L_5, L_6, L_7, L_8, L_9, L_10, L_11, L_12, L_15, L_20, L_25, L_30, L_45, L_60, L_65, L_69, L_74, L_79, L_84, L_85, L_86, L_99, L_100, L_255, L_300, L_356, L_900, L_1424, L_1425, L_1489, L_1510, L_9999, L_10000, nI_add, nI_mul, u_lt_t, u_lt_f, u_le_t, u_le_f, u_eq_t, u_eq_f, u_mlt, u_ltm, u_eqm, u_meq, u_mle, u_b0, u_b1, u_ix, u_cl, u_sub, u_suc, u_z0, u_0m, cI_0, cI_s, rI_e, rI_k, rI_j, rI_l, rL_e, rL_k, rL_j, rL_i, told11, none11, refuse12, no11q, no12q, yes11q, if_true, if_false, ite_true, ite_false, ne_eq, not_true_eq_false, not_false_eq_true, Classical.not_not, Bool.not_eq_true, Bool.not_eq_false, reduceCtorEq, Nat.add_zero, Nat.zero_add, Nat.mul_zero, and_self, and_true, true_and, Bool.true_eq_false, Bool.false_eq_true, eq_self]
  generalize sI (sI (sI (sI (sI (sI (sI (sI σ 0 39 (nI sd)) 0 40 (0 : Int32)) 0 41 (0 : Int32)) 0 42 ((sI (sI (sI σ 0 39 (nI sd)) 0 40 (0 : Int32)) 0 41 (0 : Int32)).1 5 4)) 0 43 (0 : Int32)) 0 44 (0 : Int32)) 0 45 (0 : Int32)) 0 38 (0 : Int32) = t at t0
  obtain ⟨mo, h5⟩ := t0 t rfl
  rw [h5]
  refine wp_bn.mpr ?_
  show wp (F12_doAll N (4 + 1) (nI 0) (nI n) t) _
  rw [doAll_s]
  refine wp_mono (mSeg hN hS (by omega) hn (by omega) _ t (show LO (H, 0, 0, 0, 0, 0, sd) from ⟨⟨w, hsd⟩, Nat.zero_le _⟩) mo) ?_
  rintro _ τ' c'
  exact wp_some.mpr c'
