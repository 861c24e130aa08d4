/-- the model's life -/
def ML (x : Int32) (s : LSt) (τ : Ms) : Prop := MG 0 s.1 τ ∧ τ.1 5 4 = x + nI s.2.2.2.1 ∧ τ.1 0 40 = nI s.2.1 ∧ τ.1 0 41 = nI s.2.2.1 ∧ τ.1 0 42 = x ∧ τ.1 0 43 = nI s.2.2.2.2.1 ∧ τ.1 0 44 = nI s.2.2.2.2.2.1 ∧ τ.1 0 39 = nI s.2.2.2.2.2.2
/-- what no deed of the model's life writes -/
def KM (σ τ : Ms) : Prop := (∀ j, 84 ≤ j → τ.1 5 j = σ.1 5 j) ∧ τ.1 0 38 = σ.1 0 38 ∧ τ.1 0 45 = σ.1 0 45 ∧ τ.1 0 41 = σ.1 0 41
theorem KM.rf (σ : Ms) : KM σ σ := ⟨fun _ _ => rfl, rfl, rfl, rfl⟩
theorem KM.tr {a b c : Ms} (h : KM a b) (h' : KM b c) : KM a c := ⟨fun j hj => (h'.1 j hj).trans (h.1 j hj), h'.2.1.trans h.2.1, h'.2.2.1.trans h.2.2.1, h'.2.2.2.trans h.2.2.2⟩
theorem KM.s {σ : Ms} {j : Nat} {v : Int32} (h : j ≠ 38 ∧ j ≠ 45 ∧ j ≠ 41) : KM σ (sI σ 0 j v) := ⟨fun i _ => rI_k (by omega), rI_j (by omega), rI_j (by omega), rI_j (by omega)⟩
theorem KM.k {σ τ : Ms} (k : K5 σ τ) : KM σ τ := ⟨k.1, k.2.1 _ _ (by omega), k.2.1 _ _ (by omega), k.2.1 _ _ (by omega)⟩
theorem ML.o {x : Int32} {s s' : LSt} {τ τ' : Ms} (m : MG 0 s'.1 τ') (e4 : τ'.1 5 4 = x + nI s'.2.2.2.1) (k : K5 τ τ') (c : ML x s τ) (h1 : s'.2.1 = s.2.1) (h2 : s'.2.2.1 = s.2.2.1) (h3 : s'.2.2.2.2 = s.2.2.2.2) : ML x s' τ' := by
  obtain ⟨-, -, e40, e41, e42, e43, e44, e39⟩ := c
  refine ⟨m, e4, ?_, ?_, ?_, ?_, ?_, ?_⟩
  · rw [h1, k.2.1 _ _ (by omega)]; exact e40
  · rw [h2, k.2.1 _ _ (by omega)]; exact e41
  · rw [k.2.1 _ _ (by omega)]; exact e42
  · rw [h3, k.2.1 _ _ (by omega)]; exact e43
  · rw [h3, k.2.1 _ _ (by omega)]; exact e44
  · rw [h3, k.2.1 _ _ (by omega)]; exact e39
theorem nI_0add (a : Nat) : nI a + nI 0 = nI a := by rw [nI_add, Nat.add_zero]
theorem max_m (σ : Ms) : FJ9_max_7cf53 (0 : Int32) (-nI 1) σ = some (nI 0, σ) := by
  unfold FJ9_max_7cf53
  rw [if_neg (by decide)]
  rfl
theorem max_n {a : Nat} (ha : a < 2147483648) (σ : Ms) : FJ9_max_7cf53 (0 : Int32) (nI a) σ = some (nI a, σ) := by
  unfold FJ9_max_7cf53
  by_cases q : a = 0
  · subst q
    rw [if_neg (by decide)]
    rfl
  · rw [if_pos (by exact nI_lt (a := 0) (by omega) ha)]
theorem mCut {N d i : Nat} {x : Int32} {s : LSt} {τ : Ms} (hN : 20 < N) (w : LWf s) (c : ML x s τ) (hd : d < 2) (hi : i < 2147483648) : wp (F12_isCut N (nI d) (nI i) τ) fun r τ' => r = bI (cutT d i s).1 ∧ ML x (cutT d i s).2 τ' ∧ KM τ τ' := by
  unfold F12_isCut cutT
  cases hp : cutP d i s.1
  · rw [if_neg (by decide), cuts_no hN w.1 c.1 hd (fun ⟨k, hk, h1, h2, h3⟩ => by
      have hn := w.1.n
      have : i = k := (nI_eq hi (by omega)).mp hk
      subst this
      unfold cutP at hp
      simp [h1, h2, h3] at hp), bn_s, max_m, bn_s, lt_e, if_pos (by decide)]
    refine wp_some.mpr ⟨rfl, ?_, KM.s (by omega)⟩
    obtain ⟨m, e4, e40, e41, e42, e43, e44, e39⟩ := c
    refine ⟨m.mv fun j => rI_k (by omega), by rw [rI_k (by omega)]; exact e4, by rw [rI_j (by omega)]; exact e40, by rw [rI_j (by omega)]; exact e41, by rw [rI_j (by omega)]; exact e42, ?_, by rw [rI_j (by omega)]; exact e44, by rw [rI_j (by omega)]; exact e39⟩
    rw [rI_e rfl rfl, e43, nI_0add]
  rw [if_pos (by rfl)]
  unfold cutP at hp
  simp only [Bool.and_eq_true, decide_eq_true_eq, bne_iff_ne, ne_eq] at hp
  refine wp_bn.mpr (wp_mono (mCuts hN w.1 c.1 hd hp.1 hp.2.1 hp.2.2) ?_)
  rintro _ t ⟨rfl, m1, x1, k1⟩
  have hf : fell s.1 i < 2147483648 := Nat.lt_of_le_of_lt (pc_le _ 20) (by omega)
  rw [max_n hf, bn_s, lt_e, if_neg (by exact nI_pos hf)]
  obtain ⟨m, e4, e40, e41, e42, e43, e44, e39⟩ := c
  refine wp_some.mpr ⟨rfl, ⟨m1.mv fun j => rI_k (by omega), ?_, ?_, ?_, ?_, ?_, ?_, ?_⟩, (KM.k k1).tr (KM.s (by omega))⟩
  · rw [rI_k (by omega), x1, e4, L_1, Int32.add_assoc, nI_add]
    rfl
  · rw [rI_j (by omega), k1.2.1 _ _ (by omega)]; exact e40
  · rw [rI_j (by omega), k1.2.1 _ _ (by omega)]; exact e41
  · rw [rI_j (by omega), k1.2.1 _ _ (by omega)]; exact e42
  · rw [rI_e rfl rfl, k1.2.1 _ _ (by omega), e43, nI_add]
    rfl
  · rw [rI_j (by omega), k1.2.1 _ _ (by omega)]; exact e44
  · rw [rI_j (by omega), k1.2.1 _ _ (by omega)]; exact e39
theorem mTakeL {d b : Nat} {x : Int32} {s : LSt} {τ : Ms} (w : LWf s) (c : ML x s τ) (hd : d < 2) (hb : b < 2147483648) : wp (F12_takes (nI d) (nI b) τ) fun r τ' => r = bI (takeT d b s).1 ∧ ML x (takeT d b s).2 τ' ∧ KM τ τ' := by
  unfold takeT
  cases hp : takeP b s.1
  · rw [if_neg (by decide), takes_no w.1 c.1 (fun ⟨k, hk, h1, h2⟩ => by
      have hn := w.1.2.2.1
      have : b = k := (nI_eq hb (by omega)).mp hk
      subst this
      unfold takeP at hp
      simp [h1, h2] at hp)]
    exact wp_some.mpr ⟨rfl, c, KM.rf τ⟩
  rw [if_pos (by rfl)]
  unfold takeP at hp
  simp only [Bool.and_eq_true, decide_eq_true_eq, Bool.not_eq_true'] at hp
  refine wp_mono (mTake w.1 c.1 hp.1 hp.2 hd) ?_
  rintro _ t ⟨rfl, m1, x1, k1⟩
  exact ⟨rfl, ML.o m1 (x1.trans c.2.1) k1 c rfl rfl rfl, KM.k k1⟩
theorem mLessL {i v : Nat} {x : Int32} {s : LSt} {τ : Ms} (w : LWf s) (c : ML x s τ) (hi : i < 2147483648) (hv : v < 2147483648) : wp (F12_lessens (nI i) (nI v) τ) fun r τ' => r = bI (lessT i v s).1 ∧ ML x (lessT i v s).2 τ' ∧ KM τ τ' := by
  unfold lessT
  cases hp : lessP i v s.1
  · rw [if_neg (by decide), lessens_no w.1 c.1 hv (fun ⟨k, hk, h1, h2⟩ => by
      have hn := w.1.2.1.1
      have : i = k := (nI_eq hi (by omega)).mp hk
      subst this
      unfold lessP at hp
      simp [h1, h2] at hp)]
    exact wp_some.mpr ⟨rfl, c, KM.rf τ⟩
  rw [if_pos (by rfl)]
  unfold lessP at hp
  simp only [Bool.and_eq_true, decide_eq_true_eq] at hp
  refine wp_mono (mLess w.1 c.1 hp.1 hp.2) ?_
  rintro _ t ⟨rfl, m1, x1, k1⟩
  exact ⟨rfl, ML.o m1 (x1.trans c.2.1) k1 c rfl rfl rfl, KM.k k1⟩
theorem mGrowL {k p : Nat} {x : Int32} {s : LSt} {τ : Ms} (w : LWf s) (c : ML x s τ) (hk : k ≤ 2) (hp' : p ≤ 20) : wp (F12_isGrown (nI k) (cI p) τ) fun r τ' => r = bI (growT k p s).1 ∧ ML x (growT k p s).2 τ' ∧ KM τ τ' := by
  have hn := w.1.n
  unfold F12_isGrown growT
  rw [show ixb (0 : Int32) 1780 = true by decide, ck_t, ck_t, show (0 : Int32).toNatClampNeg = 0 by decide, c.1.1.at0.1]
  have no : growB s.1 k p = false → wp (some ((0 : Int32), τ)) fun r τ' => r = bI (if growB s.1 k p = true then (true, growU k p s) else (false, s)).1 ∧ ML x (if growB s.1 k p = true then (true, growU k p s) else (false, s)).2 τ' ∧ KM τ τ' := fun h => by
    rw [h, if_neg (by decide)]
    exact wp_some.mpr ⟨rfl, c, KM.rf τ⟩
  by_cases q : gn s.1 = 20
  · rw [if_pos (by rw [q]; rfl)]
    exact no (by unfold growB; rw [q]; rfl)
  rw [if_neg (by exact fun z => q ((nI_eq (b := 20) (by omega) (by omega)).mp z))]
  by_cases q2 : p = 0 ∨ p - 1 < gn s.1
  rotate_left
  · have hp1 : p = (p - 1) + 1 := by omega
    rw [hp1, cI_s, if_pos (nI_le (by omega) (by omega)), ← hp1]
    exact no (by unfold growB; simp; intro _; omega)
  have hng : ¬ nI (gn s.1) ≤ cI p := by
    rcases Nat.eq_zero_or_pos p with h | h
    · subst h
      rw [cI_0]
      exact fun z => (u_mle (a := gn s.1) (by omega)).mp z
    · rw [show p = (p - 1) + 1 by omega, cI_s]
      exact nI_ge (by omega) (by omega)
  have hg : growB s.1 k p = (p == 0 || ((gS s.1).testBit (p - 1) && (decide (k = 2) == decide (gc s.1 (p - 1) = 2)))) := by
    unfold growB
    rw [decide_eq_true (show gn s.1 < 20 by omega), Bool.true_and]
    rcases q2 with h | h
    · rw [h]; rfl
    · rw [decide_eq_true h, Bool.true_and]
  rw [if_neg hng, canGrow_ok w.1 c.1 hk q2, ← hg, bn_s]
  cases hb : growB s.1 k p
  · rw [if_neg (by exact fun z => z rfl), if_neg (by decide)]
    exact wp_some.mpr ⟨rfl, c, KM.rf τ⟩
  rw [if_pos (by decide), if_pos (by rfl)]
  refine wp_bn.mpr (wp_mono (mGrow w.1 c.1 (show gn s.1 < 20 by omega)) ?_)
  rintro _ t ⟨m1, x1, k1⟩
  rw [lt_e]
  obtain ⟨m, e4, e40, e41, e42, e43, e44, e39⟩ := c
  refine wp_some.mpr ⟨rfl, ⟨m1.mv fun j => rI_k (by omega), ?_, ?_, ?_, ?_, ?_, ?_, ?_⟩, (KM.k k1).tr (KM.s (by omega))⟩
  · rw [rI_k (by omega), x1]; exact e4
  · rw [rI_j (by omega), k1.2.1 _ _ (by omega)]; exact e40
  · rw [rI_j (by omega), k1.2.1 _ _ (by omega)]; exact e41
  · rw [rI_j (by omega), k1.2.1 _ _ (by omega)]; exact e42
  · rw [rI_j (by omega), k1.2.1 _ _ (by omega)]; exact e43
  · rw [rI_e rfl rfl, k1.2.1 _ _ (by omega), e44, L_1, nI_add]
    rfl
  · rw [rI_j (by omega), k1.2.1 _ _ (by omega)]; exact e39
theorem mDraw {n r : Nat} {σ : Ms} (e : σ.1 0 39 = nI r) (hr : r < 65536) (hn : 0 < n) (hn' : n < 2147483648) : F12_draw (nI n) σ = some (nI (nxt r / 8 % n), sI σ 0 39 (nI (nxt r))) := by
  have hx := nxt_lt r
  unfold F12_draw
  have z : (!(nI n == 0)) = true := by
    have : ¬ nI n = nI 0 := fun z => by have := (nI_eq hn' (by omega)).mp z; omega
    simp only [Bool.not_eq_true', beq_eq_false_iff_ne, ne_eq]
    exact this
  rw [e, show (2971 : Int32) = nI 2971 from rfl, show (10987 : Int32) = nI 10987 from rfl, show (65536 : Int32) = nI 65536 from rfl, nI_mul, nI_add, pk_rem (by omega) (by omega) (by omega)]
  have : nI ((r * 2971 + 10987) % 65536) = nI (nxt r) := rfl
  rw [this, lt_e, rI_e rfl rfl, show (8 : Int32) = nI 8 from rfl, pk_div (by omega) (by omega) (by omega), pk_rem (by omega) hn (by omega), z]
  rfl
theorem ML.sown {r : Nat} {x : Int32} {s : LSt} {τ : Ms} (c : ML x s τ) : ML x (sown s r) (sI τ 0 39 (nI r)) := by
  obtain ⟨m, e4, e40, e41, e42, e43, e44, e39⟩ := c
  exact ⟨m.mv fun j => rI_k (by omega), by rw [rI_k (by omega)]; exact e4, by rw [rI_j (by omega)]; exact e40, by rw [rI_j (by omega)]; exact e41, by rw [rI_j (by omega)]; exact e42, by rw [rI_j (by omega)]; exact e43, by rw [rI_j (by omega)]; exact e44, rI_e rfl rfl⟩
theorem mAny {N : Nat} {x : Int32} {s : LSt} {τ : Ms} (hN : 20 < N) (w : LWf s) (c : ML x s τ) : wp (F12_isAny N τ) fun r τ' => r = bI (anyT s).1 ∧ ML x (anyT s).2 τ' ∧ KM τ τ' := by
  have hn := w.1.n
  unfold F12_isAny anyT
  rw [show ixb (0 : Int32) 1780 = true by decide, ck_t, show (0 : Int32).toNatClampNeg = 0 by decide, c.1.1.at0.1]
  by_cases q : gn s.1 = 0
  · rw [q, if_neg (by exact fun z => z rfl), if_pos (by rfl)]
    exact wp_some.mpr ⟨rfl, c, KM.rf τ⟩
  rw [if_pos (by exact fun z => q ((nI_eq (b := 0) (by omega) (by omega)).mp z)), if_neg q, show (2 : Int32) = nI 2 from rfl, mDraw (show τ.1 0 39 = nI (lR s) from c.2.2.2.2.2.2.2) w.2 (by omega) (by omega), bn_s, ck_t, rI_k (show 5 ≠ 0 by omega), c.1.1.at0.1, mDraw (rI_e rfl rfl) (nxt_lt _) (by omega) (by omega), bn_s]
  have c2 := (c.sown (r := nxt (lR s))).sown (r := nxt (nxt (lR s)))
  rw [sown_2] at c2
  refine wp_bn.mpr (wp_mono (mCut hN (s := sown s (nxt (nxt (lR s)))) (sown_W w (nxt_lt _)) c2 (Nat.mod_lt _ (by omega)) (Nat.lt_trans (Nat.mod_lt _ (by omega)) (show gn s.1 < 2147483648 by omega))) ?_)
  rintro _ t ⟨rfl, c3, k3⟩
  rw [nk_b, ck_t]
  exact wp_some.mpr ⟨rfl, c3, ((KM.s (by omega)).tr (KM.s (by omega))).tr k3⟩
/-- a step of the model's program, tried -/
def aTry (D : Nat → Nat → Int32) (t : Nat) (s : LSt) : Bool × LSt := if (D t 0).toNatClampNeg = 0 then cutT (D t 1).toNatClampNeg (D t 2).toNatClampNeg s else if (D t 0).toNatClampNeg = 1 then takeT (D t 1).toNatClampNeg (D t 2).toNatClampNeg s else if (D t 0).toNatClampNeg = 2 then lessT (D t 1).toNatClampNeg (D t 2).toNatClampNeg s else if (D t 0).toNatClampNeg = 3 then growT (D t 1).toNatClampNeg (D t 2 + nI 1).toNatClampNeg s else anyT s
def cmpB (c : Nat) (x y : Int) : Bool := if c = 60 then decide (x < y) else if c = 62 then decide (y < x) else decide (x = y)
def aHold (D : Nat → Nat → Int32) (t : Nat) (H : HG) : Bool := if (D t 5).toNatClampNeg = 0 then decide ((D t 1).toNatClampNeg < gn H) && (gS H).testBit (D t 1).toNatClampNeg else if (D t 5).toNatClampNeg = 3 then decide (winr H (gw H (gS H)) (gx H (gS H)) (gT H) (D t 1).toNatClampNeg = (D t 1).toNatClampNeg) else if (D t 5).toNatClampNeg = 1 then cmpB (D t 7).toNatClampNeg (gw H (gS H)) (((D t 6).toNatClampNeg : Int) * 1048576) else cmpB (D t 7).toNatClampNeg ((gx H (gS H) : Nat) : Int) ((D t 6).toNatClampNeg : Int)
theorem cI_back {o : Nat} : cI o + nI 1 = nI o := Int32.sub_add_cancel _ _
theorem aTry_W {K A B : Nat → Int32} {D : Nat → Nat → Int32} {e t : Nat} {s : LSt} (w : LWf s) (h : stepOk K A B D e t) : LWf (aTry D t s).2 := by
  unfold aTry
  rcases h with ⟨k, a, b, hk, -, d0, -, d1, -, d2⟩ | ⟨-, d0, a, o, ha, ho, -, d1, -, d2⟩ | ⟨-, d0⟩ | ⟨-, d0⟩
  · rw [d0, d1, d2]
    rcases hk with ⟨rfl, ha, hb⟩ | ⟨rfl, ha, hb⟩ | ⟨rfl, ha, hb⟩
    · exact cutT_W w
    · exact takeT_W w
    · refine lessT_W w ?_
      rw [u_cl (by omega)]
      exact hb
  · rw [d0, d1, d2, cI_back]
    refine growT_W w ?_
    rw [u_cl (by omega)]
    exact ha
  · rw [d0]
    exact anyT_W w
  · rw [d0]
    exact anyT_W w
theorem mDoes {N e t v : Nat} {K A B : Nat → Int32} {D : Nat → Nat → Int32} {x : Int32} {s : LSt} {τ : Ms} (hN : 20 < N) (w : LWf s) (c : ML x s τ) (h : stepOk K A B D e t) (h7 : D t 0 ≠ nI 7) (hv : v < 1000) (c0 : τ.1 5 v = D t 0) (c1 : τ.1 5 (v + 1) = D t 1) (c2 : τ.1 5 (v + 2) = D t 2) : wp (F12_does N (nI v) τ) fun r τ' => r = bI (aTry D t s).1 ∧ ML x (aTry D t s).2 τ' ∧ KM τ τ' := by
  unfold F12_does
  rw [show (1 : Int32) = nI 1 from rfl, show (2 : Int32) = nI 2 from rfl, show (3 : Int32) = nI 3 from rfl, nI_add, nI_add, u_ix (show v < 1780 by omega) (by omega), u_ix (show v + 1 < 1780 by omega) (by omega), u_ix (show v + 2 < 1780 by omega) (by omega), u_cl (show v < 2147483648 by omega), u_cl (show v + 1 < 2147483648 by omega), u_cl (show v + 2 < 2147483648 by omega), ck_t, lt_e, ck_t, lt_e, c0, c1, c2]
  unfold aTry
  rcases h with ⟨k, a, b, hk, -, d0, -, d1, -, d2⟩ | ⟨-, d0, a, o, ha, ho, -, d1, -, d2⟩ | ⟨-, d0⟩ | ⟨-, d0⟩
  · rcases hk with ⟨rfl, ha, hb⟩ | ⟨rfl, ha, hb⟩ | ⟨rfl, ha, hb⟩
    · rw [d0, d1, d2, if_neg (by exact fun z => z rfl), u_cl (show 0 < 2147483648 by omega), if_pos (by rfl), u_cl (show a < 2147483648 by omega), u_cl (show b < 2147483648 by omega), ck_t]
      refine wp_bn.mpr (wp_mono (mCut hN w c ha (by omega)) ?_)
      rintro _ t' ⟨rfl, h1, h2⟩
      rw [nk_b, ck_t]
      exact wp_some.mpr ⟨rfl, h1, h2⟩
    · rw [d0, d1, d2, if_pos (by decide), if_neg (by exact fun z => z rfl), u_cl (show 1 < 2147483648 by omega), if_neg (by decide), if_pos (by rfl), u_cl (show a < 2147483648 by omega), u_cl (show b < 2147483648 by omega), ck_t]
      refine wp_bn.mpr (wp_mono (mTakeL w c ha (by omega)) ?_)
      rintro _ t' ⟨rfl, h1, h2⟩
      rw [nk_b, ck_t]
      exact wp_some.mpr ⟨rfl, h1, h2⟩
    · rw [d0, d1, d2, if_pos (by decide), if_pos (by decide), if_neg (by exact fun z => z rfl), u_cl (show 2 < 2147483648 by omega), if_neg (by decide), if_neg (by decide), if_pos (by rfl), u_cl (show a < 2147483648 by omega), u_cl (show b < 2147483648 by omega), ck_t]
      refine wp_bn.mpr (wp_mono (mLessL w c (by omega) (by omega)) ?_)
      rintro _ t' ⟨rfl, h1, h2⟩
      rw [nk_b, ck_t]
      exact wp_some.mpr ⟨rfl, h1, h2⟩
  · rw [d0, d1, d2, cI_back, if_pos (by decide), if_pos (by decide), if_pos (by decide), if_neg (by exact fun z => z rfl), u_cl (show 3 < 2147483648 by omega), if_neg (by decide), if_neg (by decide), if_neg (by decide), if_pos (by rfl), u_cl (show a < 2147483648 by omega), u_cl (show o < 2147483648 by omega), ck_t]
    refine wp_bn.mpr (wp_mono (mGrowL w c ha ho) ?_)
    rintro _ t' ⟨rfl, h1, h2⟩
    rw [nk_b, ck_t]
    exact wp_some.mpr ⟨rfl, h1, h2⟩
  · rw [d0, if_pos (by decide), if_pos (by decide), if_pos (by decide), if_pos (by decide), u_cl (show 4 < 2147483648 by omega), if_neg (by decide), if_neg (by decide), if_neg (by decide), if_neg (by decide)]
    refine wp_bn.mpr (wp_mono (mAny hN w c) ?_)
    rintro _ t' ⟨rfl, h1, h2⟩
    rw [nk_b, ck_t]
    exact wp_some.mpr ⟨rfl, h1, h2⟩
  · exact absurd d0 h7
