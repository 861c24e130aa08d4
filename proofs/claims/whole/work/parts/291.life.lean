/-- a life: the hedge, steps, missed, cuts, fallen, grown, the last draw -/
abbrev LSt : Type := HG × Nat × Nat × Nat × Nat × Nat × Nat
def miss (s : LSt) : LSt := (s.1, s.2.1, s.2.2.1 + 1, s.2.2.2)
def more (s : LSt) : LSt := (s.1, s.2.1 + 1, s.2.2)
def sown (s : LSt) (r : Nat) : LSt := (s.1, s.2.1, s.2.2.1, s.2.2.2.1, s.2.2.2.2.1, s.2.2.2.2.2.1, r)
def lR (s : LSt) : Nat := s.2.2.2.2.2.2
def cutP (d i : Nat) (H : HG) : Bool := decide (i < gn H) && ((gS H).testBit i && gc H i != 1 - d)
def cutU (i : Nat) (s : LSt) : LSt := (hSt s.1 (cutS s.1 i), s.2.1, s.2.2.1, s.2.2.2.1 + 1, s.2.2.2.2.1 + fell s.1 i, s.2.2.2.2.2)
def cutT (d i : Nat) (s : LSt) : Bool × LSt := if cutP d i s.1 = true then (true, cutU i s) else (false, s)
def takeP (b : Nat) (H : HG) : Bool := decide (b < gk H) && !(gT H).testBit b
def takeU (d b : Nat) (s : LSt) : LSt := (hBt s.1 (gT s.1 ||| 2 ^ b) (gz s.1 + gain s.1 b d), s.2)
def takeT (d b : Nat) (s : LSt) : Bool × LSt := if takeP b s.1 = true then (true, takeU d b s) else (false, s)
def lessP (i v : Nat) (H : HG) : Bool := decide (i < gm H) && decide (v < gh H i)
def lessT (i v : Nat) (s : LSt) : Bool × LSt := if lessP i v s.1 = true then (true, (hHp s.1 i v, s.2)) else (false, s)
def growU (c o : Nat) (s : LSt) : LSt := (hGr s.1 c o, s.2.1, s.2.2.1, s.2.2.2.1, s.2.2.2.2.1, s.2.2.2.2.2.1 + 1, s.2.2.2.2.2.2)
def growT (c o : Nat) (s : LSt) : Bool × LSt := if growB s.1 c o = true then (true, growU c o s) else (false, s)
def nxt (r : Nat) : Nat := (r * 2971 + 10987) % 65536
def anyT (s : LSt) : Bool × LSt := if gn s.1 = 0 then (false, s) else cutT (nxt (lR s) / 8 % 2) (nxt (nxt (lR s)) / 8 % gn s.1) (sown s (nxt (nxt (lR s))))
def fnd (p : Bool × LSt) : LSt := if p.1 = true then p.2 else miss p.2
def LWf (s : LSt) : Prop := WG s.1 ∧ lR s < 65536
theorem nxt_lt (r : Nat) : nxt r < 65536 := Nat.mod_lt _ (by decide)
theorem cutT_W {d i : Nat} {s : LSt} (w : LWf s) : LWf (cutT d i s).2 := by
  unfold cutT
  split
  · exact ⟨WG_cut w.1 i, w.2⟩
  · exact w
theorem takeT_W {d b : Nat} {s : LSt} (w : LWf s) : LWf (takeT d b s).2 := by
  unfold takeT takeP
  split
  · next h =>
    simp only [Bool.and_eq_true, decide_eq_true_eq, Bool.not_eq_true'] at h
    exact ⟨WG_take w.1 h.1 h.2, w.2⟩
  · exact w
theorem lessT_W {i v : Nat} {s : LSt} (w : LWf s) (hv : v ≤ 15) : LWf (lessT i v s).2 := by
  unfold lessT
  split
  · exact ⟨WG_less w.1 hv, w.2⟩
  · exact w
theorem growT_W {c o : Nat} {s : LSt} (w : LWf s) (hc : c ≤ 2) : LWf (growT c o s).2 := by
  unfold growT
  split
  · next h => exact ⟨WG_grow w.1 hc h, w.2⟩
  · exact w
theorem sown_W {s : LSt} {r : Nat} (w : LWf s) (h : r < 65536) : LWf (sown s r) := ⟨w.1, h⟩
theorem sown_2 (s : LSt) (a b : Nat) : sown (sown s a) b = sown s b := rfl
theorem anyT_W {s : LSt} (w : LWf s) : LWf (anyT s).2 := by
  unfold anyT
  split
  · exact w
  · exact cutT_W (sown_W w (nxt_lt _))
theorem fnd_W {p : Bool × LSt} (w : LWf p.2) : LWf (fnd p) := by
  unfold fnd
  split
  · exact w
  · exact w
/-- the class's life L over the hedge h -/
def CL (h L : Nat) (y : Int32) (s : LSt) (τ : Ms) : Prop := CG h s.1 τ ∧ τ.1 h 11 = y + nI s.2.2.2.1 ∧ τ.1 L 0 = nI s.2.1 ∧ τ.1 L 1 = nI s.2.2.1 ∧ τ.1 L 2 = nI s.2.2.2.1 ∧ τ.1 L 3 = nI s.2.2.2.2.1 ∧ τ.1 L 4 = nI s.2.2.2.2.2.1 ∧ τ.1 L 6 = nI s.2.2.2.2.2.2
def hLs (h L : Nat) : Prop := h = 22 ∧ L = 109 ∨ h = 30 ∧ L = 111
/-- what no deed of a life writes: the seasons, the rounds, whether it is unfinished -/
def K9 (L : Nat) (σ τ : Ms) : Prop := (∀ k j, 62 ≤ k → k ≤ 67 → τ.1 k j = σ.1 k j) ∧ (∀ j, τ.1 (L + 1) j = σ.1 (L + 1) j) ∧ τ.1 L 5 = σ.1 L 5
theorem K9.rf (L : Nat) (σ : Ms) : K9 L σ σ := ⟨fun _ _ _ _ => rfl, fun _ => rfl, rfl⟩
theorem K9.tr {L : Nat} {a b c : Ms} (h : K9 L a b) (h' : K9 L b c) : K9 L a c := ⟨fun k j h1 h2 => (h'.1 k j h1 h2).trans (h.1 k j h1 h2), fun j => (h'.2.1 j).trans (h.2.1 j), h'.2.2.trans h.2.2⟩
theorem K9.s {h L : Nat} (hL : hLs h L) {σ : Ms} {j : Nat} {v : Int32} (hj : j ≠ 5) : K9 L σ (sI σ L j v) := by
  unfold hLs at hL
  exact ⟨fun k i h1 h2 => rI_k (by omega), fun i => rI_k (by omega), rI_j (Ne.symm hj)⟩
theorem K9.f {h L : Nat} (hL : hLs h L) {σ τ : Ms} (e : ∀ k j, (k < h ∨ h + 7 < k) → τ.1 k j = σ.1 k j) : K9 L σ τ := by
  unfold hLs at hL
  exact ⟨fun k i h1 h2 => e k i (by omega), fun i => e _ i (by omega), e _ _ (by omega)⟩
theorem Fr.win {W : List (Nat × Option Nat)} {h : Nat} {σ τ : Ms} (F : Fr W σ τ) (hw : ∀ w ∈ W, h ≤ w.1 ∧ w.1 ≤ h + 7) : ∀ k j, (k < h ∨ h + 7 < k) → τ.1 k j = σ.1 k j := fun k j hk => F.1 k j fun ⟨w, hm, e, _⟩ => by
  have := hw w hm
  omega
theorem win_shear (h : Nat) : ∀ w ∈ W0_shear h, h ≤ w.1 ∧ w.1 ≤ h + 7 := by simp
theorem win_winBet (h : Nat) : ∀ w ∈ W0_winBet h, h ≤ w.1 ∧ w.1 ≤ h + 7 := by simp
theorem win_lessen (h : Nat) : ∀ w ∈ W0_lessen h, h ≤ w.1 ∧ w.1 ≤ h + 7 := by simp
theorem win_addSprig (h : Nat) : ∀ w ∈ W0_addSprig h, h ≤ w.1 ∧ w.1 ≤ h + 7 := by simp
theorem CL.o {h L : Nat} {y : Int32} {s s' : LSt} {τ τ' : Ms} (hL : hLs h L) (cg : CG h s'.1 τ') (e11 : τ'.1 h 11 = y + nI s'.2.2.2.1) (e0 : τ'.1 L 0 = nI s'.2.1) (e1 : τ'.1 L 1 = nI s'.2.2.1) (e2 : τ'.1 L 2 = nI s'.2.2.2.1) (e3 : τ'.1 L 3 = nI s'.2.2.2.2.1) (e4 : τ'.1 L 4 = nI s'.2.2.2.2.2.1) (e6 : τ'.1 L 6 = nI s'.2.2.2.2.2.2) : CL h L y s' τ' := ⟨cg, e11, e0, e1, e2, e3, e4, e6⟩
theorem CL.hs {h L : Nat} {y : Int32} {s : LSt} {τ : Ms} (hL : hLs h L) (c : CL h L y s τ) {j : Nat} {v : Int32} : CG h s.1 (sI τ L j v) := by
  unfold hLs at hL
  exact c.1.mv (fun i _ _ => rI_k (by omega)) (fun k i _ _ => rI_k (by omega))
theorem CL_miss {h L : Nat} {y : Int32} {s : LSt} {τ : Ms} (hL : hLs h L) (c : CL h L y s τ) : CL h L y (miss s) (sI τ L 1 (τ.1 L 1 + (1 : Int32))) := by
  have hh := CL.hs hL c (j := 1) (v := τ.1 L 1 + (1 : Int32))
  unfold hLs at hL
  obtain ⟨cg, e11, e0, e1, e2, e3, e4, e6⟩ := c
  refine ⟨hh, by rw [rI_k (by omega)]; exact e11, by rw [rI_j (by omega)]; exact e0, ?_, by rw [rI_j (by omega)]; exact e2, by rw [rI_j (by omega)]; exact e3, by rw [rI_j (by omega)]; exact e4, by rw [rI_j (by omega)]; exact e6⟩
  rw [rI_e rfl rfl, e1, L_1, nI_add]
  rfl
theorem mayCut_ok {h d i : Nat} {H : HG} {σ : Ms} (w : WG H) (c : CG h H σ) (hd : d < 2) (hi : i < 2147483648) : F0_mayCut h (nI d) (nI i) σ = some (bI (cutP d i H), σ) := by
  have hn := w.n
  unfold cutP
  by_cases q : i < gn H
  · obtain ⟨ec, -⟩ := c.1.2.2 i q
    rw [mayCut_in hn w.1.2.1 c.1.1 c.1.2.1 q ec (w.1.2.2 i q).1 hd, decide_eq_true q, Bool.true_and]
  · unfold F0_mayCut
    rw [isStanding_out hn c.1.1 (fun ⟨k, hk, z⟩ => q (by have := (nI_eq hi (by omega)).mp z; omega)), decide_eq_false q, Bool.false_and]
    try simp (disch := first | omega | assumption) only [lt_e, bn_s, ck_t, nk0, nk1, nk_b, bI_t, bI_f, L_0, L_1, L_2, L_3, L_4, L_5, L_6, L_7, L_8, L_9, L_10, L_11, L_12, L_15, L_20, L_25, L_30, L_45, L_60, L_65, L_69, L_74, L_79, L_84, L_85, L_86, L_99, L_100, L_255, L_300, L_356, L_900, L_1424, L_1425, L_1489, L_1510, L_9999, L_10000, nI_add, nI_mul, u_lt_t, u_lt_f, u_le_t, u_le_f, u_eq_t, u_eq_f, u_mlt, u_ltm, u_eqm, u_meq, u_mle, u_b0, u_b1, u_ix, u_cl, u_sub, u_suc, u_z0, u_0m, cI_0, cI_s, rI_e, rI_k, rI_j, rI_l, rL_e, rL_k, rL_j, rL_i, told11, none11, refuse12, no11q, no12q, yes11q, if_true, if_false, ite_true, ite_false, ne_eq, not_true_eq_false, not_false_eq_true, Classical.not_not, Bool.not_eq_true, Bool.not_eq_false, reduceCtorEq, Nat.add_zero, Nat.zero_add, Nat.mul_zero, and_self, and_true, true_and, Bool.true_eq_false, Bool.false_eq_true, eq_self]
theorem mayTake_ok {h b : Nat} {H : HG} {σ : Ms} (w : WG H) (c : CG h H σ) (hb : b < 2147483648) : F0_mayTake h (nI b) σ = some (bI (takeP b H), σ) := by
  have hk := w.2.2.1
  unfold takeP
  by_cases q : b < gk H
  · rw [mayTake_in w c q, decide_eq_true q, Bool.true_and]
  · unfold F0_mayTake
    rw [hasBet_out hk c.2.2.1 (fun ⟨k, hk, z⟩ => q (by have := (nI_eq hb (by omega)).mp z; omega)), decide_eq_false q, Bool.false_and]
    try simp (disch := first | omega | assumption) only [lt_e, bn_s, ck_t, nk0, nk1, nk_b, bI_t, bI_f, L_0, L_1, L_2, L_3, L_4, L_5, L_6, L_7, L_8, L_9, L_10, L_11, L_12, L_15, L_20, L_25, L_30, L_45, L_60, L_65, L_69, L_74, L_79, L_84, L_85, L_86, L_99, L_100, L_255, L_300, L_356, L_900, L_1424, L_1425, L_1489, L_1510, L_9999, L_10000, nI_add, nI_mul, u_lt_t, u_lt_f, u_le_t, u_le_f, u_eq_t, u_eq_f, u_mlt, u_ltm, u_eqm, u_meq, u_mle, u_b0, u_b1, u_ix, u_cl, u_sub, u_suc, u_z0, u_0m, cI_0, cI_s, rI_e, rI_k, rI_j, rI_l, rL_e, rL_k, rL_j, rL_i, told11, none11, refuse12, no11q, no12q, yes11q, if_true, if_false, ite_true, ite_false, ne_eq, not_true_eq_false, not_false_eq_true, Classical.not_not, Bool.not_eq_true, Bool.not_eq_false, reduceCtorEq, Nat.add_zero, Nat.zero_add, Nat.mul_zero, and_self, and_true, true_and, Bool.true_eq_false, Bool.false_eq_true, eq_self]
theorem mayLess_ok {h i v : Nat} {H : HG} {σ : Ms} (w : WG H) (c : CG h H σ) (hi : i < 2147483648) (hv : v < 2147483648) : F0_mayLessen h (nI i) (nI v) σ = some (bI (lessP i v H), σ) := by
  have hm := w.2.1.1
  unfold lessP
  by_cases q : i < gm H
  · rw [mayLessen_in w c q hv, decide_eq_true q, Bool.true_and]
  · unfold F0_mayLessen
    rw [hasHeap_out' hm c.2.1.1 (fun ⟨k, hk, z⟩ => q (by have := (nI_eq hi (by omega)).mp z; omega)), decide_eq_false q, Bool.false_and]
    try simp (disch := first | omega | assumption) only [lt_e, bn_s, ck_t, nk0, nk1, nk_b, bI_t, bI_f, L_0, L_1, L_2, L_3, L_4, L_5, L_6, L_7, L_8, L_9, L_10, L_11, L_12, L_15, L_20, L_25, L_30, L_45, L_60, L_65, L_69, L_74, L_79, L_84, L_85, L_86, L_99, L_100, L_255, L_300, L_356, L_900, L_1424, L_1425, L_1489, L_1510, L_9999, L_10000, nI_add, nI_mul, u_lt_t, u_lt_f, u_le_t, u_le_f, u_eq_t, u_eq_f, u_mlt, u_ltm, u_eqm, u_meq, u_mle, u_b0, u_b1, u_ix, u_cl, u_sub, u_suc, u_z0, u_0m, cI_0, cI_s, rI_e, rI_k, rI_j, rI_l, rL_e, rL_k, rL_j, rL_i, told11, none11, refuse12, no11q, no12q, yes11q, if_true, if_false, ite_true, ite_false, ne_eq, not_true_eq_false, not_false_eq_true, Classical.not_not, Bool.not_eq_true, Bool.not_eq_false, reduceCtorEq, Nat.add_zero, Nat.zero_add, Nat.mul_zero, and_self, and_true, true_and, Bool.true_eq_false, Bool.false_eq_true, eq_self]
theorem lCut {N h L d i : Nat} {y : Int32} {s : LSt} {τ : Ms} (hN : 20 < N) (hL : hLs h L) (w : LWf s) (c : CL h L y s τ) (hd : d < 2) (hi : i < 2147483648) : wp (F2_cutOff N L h (nI d) (nI i) τ) fun _ τ' => CL h L y (fnd (cutT d i s)) τ' ∧ K9 L τ τ' := by
  have hL' := hL
  unfold hLs at hL'
  unfold F2_cutOff cutT
  rw [mayCut_ok w.1 c.1 hd hi, bn_s]
  cases hp : cutP d i s.1
  · rw [if_pos (by rfl), if_neg (by decide), lt_e]
    exact wp_some.mpr ⟨CL_miss hL c, K9.s hL (by omega)⟩
  rw [if_neg (by decide), if_pos (by rfl), lt_e]
  have hin : i < gn s.1 := by
    unfold cutP at hp
    simp only [Bool.and_eq_true, decide_eq_true_eq] at hp
    exact hp.1
  refine wp_bn.mpr (wp_mono (cShear hN w.1 (CL.hs hL c) hin) ?_)
  rintro _ t ⟨rfl, c1, x1, hF⟩
  have o := hF.win (win_shear h)
  obtain ⟨cg, e11, e0, e1, e2, e3, e4, e6⟩ := c
  rw [lt_e]
  refine wp_some.mpr ⟨⟨c1.mv (fun j _ _ => rI_k (by omega)) (fun k j _ _ => rI_k (by omega)), ?_, ?_, ?_, ?_, ?_, ?_, ?_⟩, ((K9.s hL (by omega)).tr (K9.f hL o)).tr (K9.s hL (by omega))⟩
  · rw [rI_k (by omega), x1, rI_k (by omega), e11, L_1, Int32.add_assoc, nI_add]
    rfl
  · rw [rI_j (by omega), o _ _ (by omega), rI_j (by omega)]; exact e0
  · rw [rI_j (by omega), o _ _ (by omega), rI_j (by omega)]; exact e1
  · rw [rI_j (by omega), o _ _ (by omega), rI_e rfl rfl, e2, L_1, nI_add]
    rfl
  · rw [rI_e rfl rfl, rI_j (by omega), e3, nI_add]
    rfl
  · rw [rI_j (by omega), o _ _ (by omega), rI_j (by omega)]; exact e4
  · rw [rI_j (by omega), o _ _ (by omega), rI_j (by omega)]; exact e6
theorem lTake {h L d b : Nat} {y : Int32} {s : LSt} {τ : Ms} (hL : hLs h L) (w : LWf s) (c : CL h L y s τ) (hd : d < 2) (hb : b < 2147483648) : wp (F2_takeBet L h (nI d) (nI b) τ) fun _ τ' => CL h L y (fnd (takeT d b s)) τ' ∧ K9 L τ τ' := by
  have hL' := hL
  unfold hLs at hL'
  unfold F2_takeBet takeT
  rw [mayTake_ok w.1 c.1 hb, bn_s]
  cases hp : takeP b s.1
  · rw [if_pos (by rfl), if_neg (by decide), lt_e]
    exact wp_some.mpr ⟨CL_miss hL c, K9.s hL (by omega)⟩
  rw [if_neg (by decide), if_pos (by rfl)]
  unfold takeP at hp
  simp only [Bool.and_eq_true, decide_eq_true_eq, Bool.not_eq_true'] at hp
  refine wp_bn.mpr (wp_mono (cTake w.1 c.1 hp.1 hp.2 hd) ?_)
  rintro _ t ⟨c1, x1, hF⟩
  have o := hF.win (win_winBet h)
  obtain ⟨cg, e11, e0, e1, e2, e3, e4, e6⟩ := c
  exact wp_some.mpr ⟨⟨c1, x1.trans e11, (o _ _ (by omega)).trans e0, (o _ _ (by omega)).trans e1, (o _ _ (by omega)).trans e2, (o _ _ (by omega)).trans e3, (o _ _ (by omega)).trans e4, (o _ _ (by omega)).trans e6⟩, K9.f hL o⟩
theorem lLess {h L i v : Nat} {y : Int32} {s : LSt} {τ : Ms} (hL : hLs h L) (w : LWf s) (c : CL h L y s τ) (hi : i < 2147483648) (hv : v < 2147483648) : wp (F2_lessenHeap L h (nI i) (nI v) τ) fun _ τ' => CL h L y (fnd (lessT i v s)) τ' ∧ K9 L τ τ' := by
  have hL' := hL
  unfold hLs at hL'
  unfold F2_lessenHeap lessT
  rw [mayLess_ok w.1 c.1 hi hv, bn_s]
  cases hp : lessP i v s.1
  · rw [if_pos (by rfl), if_neg (by decide), lt_e]
    exact wp_some.mpr ⟨CL_miss hL c, K9.s hL (by omega)⟩
  rw [if_neg (by decide), if_pos (by rfl)]
  unfold lessP at hp
  simp only [Bool.and_eq_true, decide_eq_true_eq] at hp
  refine wp_bn.mpr (wp_mono (cLess w.1 c.1 hp.1 hp.2) ?_)
  rintro _ t ⟨c1, x1, hF⟩
  have o := hF.win (win_lessen h)
  obtain ⟨cg, e11, e0, e1, e2, e3, e4, e6⟩ := c
  exact wp_some.mpr ⟨⟨c1, x1.trans e11, (o _ _ (by omega)).trans e0, (o _ _ (by omega)).trans e1, (o _ _ (by omega)).trans e2, (o _ _ (by omega)).trans e3, (o _ _ (by omega)).trans e4, (o _ _ (by omega)).trans e6⟩, K9.f hL o⟩
theorem lGrow {h L k p : Nat} {y : Int32} {s : LSt} {τ : Ms} (hL : hLs h L) (w : LWf s) (c : CL h L y s τ) (hk : k ≤ 2) (hp' : p ≤ 20) : wp (F2_growOne L h (nI k) (cI p) τ) fun _ τ' => CL h L y (fnd (growT k p s)) τ' ∧ K9 L τ τ' := by
  have hL' := hL
  unfold hLs at hL'
  unfold F2_growOne growT
  rw [mayGrow_ok w.1 c.1 hk hp', bn_s]
  cases hp : growB s.1 k p
  · rw [if_pos (by rfl), if_neg (by decide), lt_e]
    exact wp_some.mpr ⟨CL_miss hL c, K9.s hL (by omega)⟩
  rw [if_neg (by decide), if_pos (by rfl)]
  have hn : gn s.1 < 20 := by
    unfold growB at hp
    simp only [Bool.and_eq_true, decide_eq_true_eq] at hp
    exact hp.1
  refine wp_bn.mpr (wp_mono (cGrow w.1 c.1 hn) ?_)
  rintro _ t ⟨c1, x1, hF⟩
  have o := hF.win (win_addSprig h)
  obtain ⟨cg, e11, e0, e1, e2, e3, e4, e6⟩ := c
  rw [lt_e]
  refine wp_some.mpr ⟨⟨c1.mv (fun j _ _ => rI_k (by omega)) (fun k j _ _ => rI_k (by omega)), ?_, ?_, ?_, ?_, ?_, ?_, ?_⟩, (K9.f hL o).tr (K9.s hL (by omega))⟩
  · rw [rI_k (by omega), x1]; exact e11
  · rw [rI_j (by omega), o _ _ (by omega)]; exact e0
  · rw [rI_j (by omega), o _ _ (by omega)]; exact e1
  · rw [rI_j (by omega), o _ _ (by omega)]; exact e2
  · rw [rI_j (by omega), o _ _ (by omega)]; exact e3
  · rw [rI_e rfl rfl, o _ _ (by omega), e4, L_1, nI_add]
    rfl
  · rw [rI_j (by omega), o _ _ (by omega)]; exact e6
/-- draws -/
theorem nxt_c (r : Nat) : (nI r * (2971 : Int32) + (10987 : Int32)) &&& (65535 : Int32) = nI (nxt r) := by
  rw [show (2971 : Int32) = nI 2971 from rfl, show (10987 : Int32) = nI 10987 from rfl, show (65535 : Int32) = nI 65535 from rfl, nI_mul, nI_add, fa_and, show (65535 : Nat) = 2 ^ 16 - 1 from rfl, Nat.and_two_pow_sub_one_eq_mod]
  rfl
theorem lDraw {L n r : Nat} {σ : Ms} (e : σ.1 L 6 = nI r) (hn : 0 < n) (hn' : n < 2147483648) : F2_draw L (nI n) σ = some (nI (nxt r / 8 % n), sI σ L 6 (nI (nxt r))) := by
  have hr := nxt_lt r
  have hd : nxt r / 8 < 2147483648 := by omega
  unfold F2_draw
  rw [e, nxt_c, lt_e, if_neg (by exact nI_ge (a := 0) hn hn'), rI_e rfl rfl, show (3 : Int32) = nI 3 from rfl, u_shr (by omega) (by omega), Nat.shiftRight_eq_div_pow, show (2 : Nat) ^ 3 = 8 from rfl, pk_rem (by omega) hn (by omega)]
  have z : (!(nI n == 0)) = true := by
    have : ¬ nI n = nI 0 := fun z => by have := (nI_eq hn' (by omega)).mp z; omega
    simp only [Bool.not_eq_true', beq_eq_false_iff_ne, ne_eq]
    exact this
  rw [z, ck_t]
theorem CL.sown {h L r : Nat} {y : Int32} {s : LSt} {τ : Ms} (hL : hLs h L) (c : CL h L y s τ) : CL h L y (sown s r) (sI τ L 6 (nI r)) := by
  have hh := CL.hs hL c (j := 6) (v := nI r)
  unfold hLs at hL
  obtain ⟨cg, e11, e0, e1, e2, e3, e4, e6⟩ := c
  exact ⟨hh, by rw [rI_k (by omega)]; exact e11, by rw [rI_j (by omega)]; exact e0, by rw [rI_j (by omega)]; exact e1, by rw [rI_j (by omega)]; exact e2, by rw [rI_j (by omega)]; exact e3, by rw [rI_j (by omega)]; exact e4, rI_e rfl rfl⟩
theorem lAny {N h L : Nat} {y : Int32} {s : LSt} {τ : Ms} (hN : 20 < N) (hL : hLs h L) (w : LWf s) (c : CL h L y s τ) : wp (F2_cutAny N L h τ) fun _ τ' => CL h L y (fnd (anyT s)) τ' ∧ K9 L τ τ' := by
  have hL' := hL
  have hn := w.1.n
  unfold hLs at hL'
  unfold F2_cutAny anyT
  rw [c.1.1.1]
  by_cases q : gn s.1 = 0
  · rw [q, if_pos (by decide), if_pos (by rfl), lt_e]
    exact wp_some.mpr ⟨CL_miss hL c, K9.s hL (by omega)⟩
  have c1 : CG h s.1 (sI τ L 6 (nI (nxt (lR s)))) := CL.hs hL c
  rw [if_neg (by exact nI_ge (a := 0) (by omega) (by omega)), if_neg q, show (2 : Int32) = nI 2 from rfl, lDraw (show τ.1 L 6 = nI (lR s) from c.2.2.2.2.2.2.2) (by omega) (by omega), bn_s, c1.1.1, lDraw (rI_e rfl rfl) (by omega) (by omega), bn_s]
  have c2 := (c.sown hL (r := nxt (lR s))).sown hL (r := nxt (nxt (lR s)))
  rw [sown_2] at c2
  refine wp_bn.mpr (wp_mono (lCut hN hL (s := sown s (nxt (nxt (lR s)))) (sown_W w (nxt_lt _)) c2 (Nat.mod_lt _ (by omega)) (Nat.lt_trans (Nat.mod_lt _ (by omega)) (show gn s.1 < 2147483648 by omega))) ?_)
  rintro _ t ⟨c3, k3⟩
  exact wp_some.mpr ⟨c3, ((K9.s hL (by omega)).tr (K9.s hL (by omega))).tr k3⟩
