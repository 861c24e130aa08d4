/-- what a when asks -/
def sg3 (a b : Int) : Int32 := if a < b then (-1 : Int32) else if a = b then (0 : Int32) else (1 : Int32)
theorem cmp13 {a b : Int} (ha : -9223372036854775808 ≤ a ∧ a < 9223372036854775808) (hb : -9223372036854775808 ≤ b ∧ b < 9223372036854775808) (σ : Ms) : FJ13_compare_74951 (zL a) (zL b) σ = some (sg3 a b, σ) := by
  unfold FJ13_compare_74951 sg3
  by_cases y : a < b
  · rw [if_neg (by exact fun z => by have := (zL_ge ha hb).mp z; omega), if_pos y]
  · rw [if_pos ((zL_ge ha hb).mpr (by omega)), if_neg y]
    by_cases x : a = b
    · rw [if_neg (by exact fun z => z ((zL_eq ha hb).mpr x)), if_pos x]
    · rw [if_pos (by exact fun z => x ((zL_eq ha hb).mp z)), if_neg x]
theorem cmp6 {a b : Nat} (ha : a < 2147483648) (hb : b < 2147483648) (σ : Ms) : FJ6_compare_7cf53 (nI a) (nI b) σ = some (sg3 (a : Int) (b : Int), σ) := by
  unfold FJ6_compare_7cf53 sg3
  by_cases y : a < b
  · rw [if_neg (nI_ge y hb), if_pos (show (a : Int) < b by omega)]
  · rw [if_pos (nI_le (by omega) ha), if_neg (show ¬ (a : Int) < b by omega)]
    by_cases x : a = b
    · rw [if_neg (by exact fun z => z (by rw [x])), if_pos (show (a : Int) = b by omega)]
    · rw [if_pos (by exact fun z => x ((nI_eq ha hb).mp z)), if_neg (show ¬ (a : Int) = b by omega)]
def chr (c : Nat) : Nat := if c = 0 then 60 else if c = 1 then 62 else 61
theorem cmp_0 (a b : Int) : cmpB (chr 0) a b = decide (a < b) := rfl
theorem cmp_1 (a b : Int) : cmpB (chr 1) a b = decide (b < a) := rfl
theorem cmp_2 (a b : Int) : cmpB (chr 2) a b = decide (a = b) := rfl
theorem compares_ok {a b : Int} {c : Nat} (hc : c < 3) (σ : Ms) : F2_compares (sg3 a b) (nI c) σ = some (bI (cmpB (chr c) a b), σ) := by
  unfold F2_compares sg3
  rcases (show c = 0 ∨ c = 1 ∨ c = 2 by omega) with rfl | rfl | rfl
  · rw [cmp_0]
    by_cases y : a < b
    · rw [if_pos y, if_neg (by decide), if_neg (by decide), decide_eq_true y]
      rfl
    · rw [if_neg y, if_neg (by decide), if_pos (by split <;> decide), decide_eq_false y]
      rfl
  · rw [cmp_1, if_pos (by decide), if_neg (by decide)]
    by_cases y : a < b
    · rw [if_pos y, if_pos (by decide), decide_eq_false (show ¬ b < a by omega)]
      rfl
    · by_cases x : a = b
      · rw [if_neg y, if_pos x, if_pos (by decide), decide_eq_false (show ¬ b < a by omega)]
        rfl
      · rw [if_neg y, if_neg x, if_neg (by decide), decide_eq_true (show b < a by omega)]
        rfl
  · rw [cmp_2, if_pos (by decide), if_pos (by decide)]
    by_cases y : a < b
    · rw [if_pos y, if_pos (by decide), decide_eq_false (show ¬ a = b by omega)]
      rfl
    · by_cases x : a = b
      · rw [if_neg y, if_pos x, if_neg (by exact fun z => z rfl), decide_eq_true x]
        rfl
      · rw [if_neg y, if_neg x, if_pos (by decide), decide_eq_false x]
        rfl
theorem cmpB_1024 (c : Nat) (x : Int) (v : Nat) : cmpB c (1024 * x) ((v : Int) * 1073741824) = cmpB c x ((v : Int) * 1048576) := by
  unfold cmpB
  split
  · exact decide_eq_decide.mpr (by omega)
  · split
    · exact decide_eq_decide.mpr (by omega)
    · exact decide_eq_decide.mpr (by omega)
theorem b124_ok {N l c : Nat} {a b : Int} {σ : Ms} (ha : -9223372036854775808 ≤ a ∧ a < 9223372036854775808) (hb : -9223372036854775808 ≤ b ∧ b < 9223372036854775808) (hl : l + 7 < 1780) (e : σ.1 5 (l + 7) = nI (chr c)) (hc : c < 3) : F12_holds_b124 N (nI l) (zL a) (zL b) σ = some (bI (cmpB (chr c) a b), σ) := by
  unfold F12_holds_b124
  rw [show (7 : Int32) = nI 7 from rfl, nI_add, u_ix hl (by omega), ck_t, ck_t, u_cl (by omega), e]
  rcases (show c = 0 ∨ c = 1 ∨ c = 2 by omega) with rfl | rfl | rfl
  · rw [cmp_0, if_neg (by exact fun z => z rfl)]
    by_cases y : a < b
    · rw [if_neg (fun z => by have := (zL_ge ha hb).mp z; omega), decide_eq_true y]
      rfl
    · rw [if_pos ((zL_ge ha hb).mpr (by omega)), decide_eq_false y]
      rfl
  · rw [cmp_1, if_pos (by decide), if_neg (by exact fun z => z rfl)]
    by_cases y : a ≤ b
    · rw [if_pos ((zL_le ha hb).mpr y), decide_eq_false (show ¬ b < a by omega)]
      rfl
    · rw [if_neg (fun z => y ((zL_le ha hb).mp z)), decide_eq_true (show b < a by omega)]
      rfl
  · rw [cmp_2, if_pos (by decide), if_pos (by decide)]
    by_cases y : a = b
    · rw [if_neg (fun z => z ((zL_eq ha hb).mpr y)), decide_eq_true y]
      rfl
    · rw [if_pos (fun z => y ((zL_eq ha hb).mp z)), decide_eq_false y]
      rfl
theorem K9.m {h L : Nat} (hL : hLs h L) {σ τ : Ms} (e : ∀ k j, k ≠ h + 7 → τ.1 k j = σ.1 k j) : K9 L σ τ := K9.f hL fun k j hk => e k j (by omega)
theorem CL.m {h L : Nat} {y : Int32} {s : LSt} {σ τ : Ms} (hL : hLs h L) (c : CL h L y s σ) (e : ∀ k j, k ≠ h + 7 → τ.1 k j = σ.1 k j) : CL h L y s τ := by
  unfold hLs at hL
  obtain ⟨cg, e11, e0, e1, e2, e3, e4, e6⟩ := c
  exact ⟨cg.mv (fun j _ _ => e _ _ (by omega)) (fun k j _ _ => e _ _ (by omega)), (e _ _ (by omega)).trans e11, (e _ _ (by omega)).trans e0, (e _ _ (by omega)).trans e1, (e _ _ (by omega)).trans e2, (e _ _ (by omega)).trans e3, (e _ _ (by omega)).trans e4, (e _ _ (by omega)).trans e6⟩
theorem lHold {N h L e t : Nat} {y : Int32} {K A B C : Nat → Int32} {D : Nat → Nat → Int32} {s : LSt} {τ : Ms} (hN : 20 < N) (hL : hLs h L) (w : LWf s) (c : CL h L y s τ) (hw : whenOk K A B C D e t) : wp (F2_holds N h (A e) (B e) (C e) τ) fun r τ' => r = bI (aHold D t s.1) ∧ CL h L y s τ' ∧ K9 L τ τ' := by
  have hn := w.1.n
  unfold F2_holds aHold
  obtain ⟨-, -, ⟨a, d, k, hk, b, d1⟩ | ⟨a, d, k, hk, b, d1⟩ | ⟨T, v, q, hT, hv, hq, a, d5, b, d6, cc, d7⟩⟩ := hw
  · rw [a, b, d, d1, if_pos (by rfl), u_cl (show 0 < 2147483648 by omega), if_pos (by rfl), u_cl (show k < 2147483648 by omega)]
    by_cases z : k < gn s.1
    · rw [isStanding_in hn w.1.1.2.1 c.1.1.1 c.1.1.2.1 z, bn_s, nk_b, ck_t, decide_eq_true z, Bool.true_and]
      exact wp_some.mpr ⟨rfl, c, K9.rf L τ⟩
    · rw [isStanding_out hn c.1.1.1 (fun ⟨i, hi, z'⟩ => z (by have := (nI_eq (a := k) (b := i) (by omega) (by omega)).mp z'; omega)), bn_s, decide_eq_false z, Bool.false_and]
      exact wp_some.mpr ⟨rfl, c, K9.rf L τ⟩
  · rw [a, b, d, d1, if_neg (by decide), if_neg (by decide), if_neg (by decide), u_cl (show 3 < 2147483648 by omega), if_neg (by decide), if_pos (by rfl), u_cl (show k < 2147483648 by omega)]
    refine wp_bn.mpr (wp_mono (cWins hN w.1 c.1 hk) ?_)
    rintro _ t' ⟨rfl, h1, h2⟩
    rw [nk_b, ck_t]
    exact wp_some.mpr ⟨rfl, c.m hL h1, K9.m hL h1⟩
  · have hd7 : D t 7 = nI (chr q) := d7
    have hc61 : chr q < 2147483648 := by
      unfold chr
      split
      · omega
      · split <;> omega
    have hwa := gw_abs w.1 (gS s.1)
    have hxa := gx_lt w.1 (gS s.1)
    rcases hT with rfl | rfl
    · rw [a, b, cc, d5, d6, hd7, if_neg (by decide), if_pos (by rfl), u_cl (show 1 < 2147483648 by omega), if_neg (by decide), if_neg (by decide), if_pos (by rfl), u_cl (show v < 2147483648 by omega), u_cl hc61, c.1.1.2.1]
      refine wp_bn.mpr (wp_mono (cWorth hN w.1 c.1 w.1.S) ?_)
      rintro _ t' ⟨rfl, h1, -, -⟩
      have h1' : ∀ k j, k ≠ h + 7 → t'.1 k j = τ.1 k j := fun k j _ => by rw [h1]
      rw [nI_zL (by omega), ONE_z, zL_mul, cmp13 (by omega) (by omega), bn_s, compares_ok hq, bn_s, nk_b, ck_t, cmpB_1024]
      exact wp_some.mpr ⟨rfl, c.m hL h1', K9.m hL h1'⟩
    · rw [a, b, cc, d5, d6, hd7, if_neg (by decide), if_neg (by decide), if_pos (by rfl), u_cl (show 2 < 2147483648 by omega), if_neg (by decide), if_neg (by decide), if_neg (by decide), u_cl (show v < 2147483648 by omega), u_cl hc61, c.1.1.2.1]
      refine wp_bn.mpr (wp_mono (cNim hN w.1 c.1 w.1.S) ?_)
      rintro _ t' ⟨rfl, -, -, h1⟩
      rw [cmp6 (by omega) (by omega), bn_s, compares_ok hq, bn_s, nk_b, ck_t]
      exact wp_some.mpr ⟨rfl, c.m hL h1, K9.m hL h1⟩
theorem ML.fr {x : Int32} {s : LSt} {σ τ : Ms} (F : Fr W12_winnerNow σ τ) (c : ML x s σ) : ML x s τ ∧ KM σ τ := by
  have f5 : ∀ j, τ.1 5 j = σ.1 5 j := fun j => (F.keep (D := [(5, none)]) rfl (In_a 0 rfl)).1
  have f0 : ∀ j, 38 ≤ j → j ≤ 45 → τ.1 0 j = σ.1 0 j := fun j h1 h2 => F.1 0 j fun ⟨w, hw, e1, e2⟩ => by
    simp only [W12_winnerNow, List.mem_cons, List.not_mem_nil, or_false] at hw
    rcases hw with rfl | rfl | rfl | rfl | rfl
    · have := e2 25 rfl; omega
    · have := e2 26 rfl; omega
    · cases e1
    · cases e1
    · have := e2 27 rfl; omega
  obtain ⟨m, e4, e40, e41, e42, e43, e44, e39⟩ := c
  refine ⟨⟨m.mv f5, (f5 4).trans e4, (f0 _ (by omega) (by omega)).trans e40, (f0 _ (by omega) (by omega)).trans e41, (f0 _ (by omega) (by omega)).trans e42, (f0 _ (by omega) (by omega)).trans e43, (f0 _ (by omega) (by omega)).trans e44, (f0 _ (by omega) (by omega)).trans e39⟩, fun j _ => f5 j, f0 _ (by omega) (by omega), f0 _ (by omega) (by omega), f0 _ (by omega) (by omega)⟩
theorem sub_now : SubW W12_laysWorths W12_winnerNow := Sub_of [0, 1, 2, 3] rfl
theorem mHold {N e t v : Nat} {K A B C : Nat → Int32} {D : Nat → Nat → Int32} {x : Int32} {s : LSt} {τ : Ms} (hN : 30 < N) (w : LWf s) (c : ML x s τ) (hw : whenOk K A B C D e t) (hv : v < 1000) (hD : ∀ o, o < 9 → τ.1 5 (v + o) = D t o) : wp (F12_holds N (nI v) τ) fun r τ' => r = bI (aHold D t s.1) ∧ ML x s τ' ∧ KM τ τ' := by
  have hn := w.1.n
  have c1 := hD 1 (by omega)
  have c5 := hD 5 (by omega)
  have c6 := hD 6 (by omega)
  have c7 := hD 7 (by omega)
  unfold F12_holds aHold
  rw [show (1 : Int32) = nI 1 from rfl, show (5 : Int32) = nI 5 from rfl, show (3 : Int32) = nI 3 from rfl, nI_add, nI_add, u_ix (show v + 1 < 1780 by omega) (by omega), u_ix (show v + 5 < 1780 by omega) (by omega), u_cl (show v + 1 < 2147483648 by omega), u_cl (show v + 5 < 2147483648 by omega), ck_t, lt_e, ck_t, lt_e, c1, c5]
  obtain ⟨-, -, ⟨a, d, k, hk, b, d1⟩ | ⟨a, d, k, hk, b, d1⟩ | ⟨T, V, q, hT, hV, hq, a, d5, b, d6, cc, d7⟩⟩ := hw
  · rw [d, d1, if_neg (by exact fun z => z rfl), u_cl (show 0 < 2147483648 by omega), if_pos (by rfl), u_cl (show k < 2147483648 by omega)]
    by_cases z : k < gn s.1
    · obtain ⟨-, -, es⟩ := c.1.1.at0.2 k z
      rw [isSprigAt_in (n := gn s.1) (by omega) c.1.1.at0.1 z, bn_s, if_neg (by decide), show (45 : Int32) = nI 45 from rfl, nI_add, u_ix (show 45 + k < 1780 by omega) (by omega), ck_t, u_cl (by omega), es, decide_eq_true z, Bool.true_and]
      cases (gS s.1).testBit k
      · rw [if_pos (by decide)]
        exact wp_some.mpr ⟨rfl, c, KM.rf τ⟩
      · rw [if_neg (by exact fun z => z rfl)]
        exact wp_some.mpr ⟨rfl, c, KM.rf τ⟩
    · rw [isSprigAt_out (n := gn s.1) (by omega) c.1.1.at0.1 (fun ⟨i, hi, z'⟩ => z (by have := (nI_eq (a := k) (b := i) (by omega) (by omega)).mp z'; omega)), bn_s, if_pos (by rfl), decide_eq_false z, Bool.false_and]
      exact wp_some.mpr ⟨rfl, c, KM.rf τ⟩
  · rw [d, d1, if_pos (by decide), if_neg (by exact fun z => z rfl), u_cl (show 3 < 2147483648 by omega), if_neg (by decide), if_pos (by rfl), u_cl (show k < 2147483648 by omega)]
    have hl := winr_lt (W := gw s.1 (gS s.1)) (x := gx s.1 (gS s.1)) (T := gT s.1) w.1 hk
    refine wp_bn.mpr (wp_mono (mWins hN w.1 c.1 hk) ?_)
    rintro _ t' ⟨rfl, hF⟩
    obtain ⟨h1, h2⟩ := c.fr hF
    by_cases z : winr s.1 (gw s.1 (gS s.1)) (gx s.1 (gS s.1)) (gT s.1) k = k
    · rw [if_neg (by exact fun y => y (by rw [z])), decide_eq_true z]
      exact wp_some.mpr ⟨rfl, h1, h2⟩
    · rw [if_pos (by exact fun y => z ((nI_eq (by omega) (by omega)).mp y)), decide_eq_false z]
      exact wp_some.mpr ⟨rfl, h1, h2⟩
  · have hd7 : D t 7 = nI (chr q) := d7
    have hc61 : chr q < 2147483648 := by
      unfold chr
      split
      · omega
      · split <;> omega
    have hwa := gw_abs w.1 (gS s.1)
    have hxa := gx_lt w.1 (gS s.1)
    rw [hd7, d6, u_cl (show V < 2147483648 by omega), u_cl hc61]
    have lay := mNow hN w.1 c.1
    rcases hT with rfl | rfl
    · rw [d5, if_pos (by decide), if_pos (by decide), u_cl (show 1 < 2147483648 by omega), if_neg (by decide), if_neg (by decide), if_pos (by rfl)]
      refine wp_bn.mpr (wp_mono lay ?_)
      rintro _ t' hl
      obtain ⟨h1, h2⟩ := c.fr (hl.2.2.2.2.mono sub_now)
      rw [if_neg (by exact fun z => z rfl), hl.1]
      unfold F12_holds_b90
      rw [if_neg (by exact fun z => z rfl), show (6 : Int32) = nI 6 from rfl, nI_add, u_ix (show v + 6 < 1780 by omega) (by omega), ck_t, u_cl (show v + 6 < 2147483648 by omega), hl.five, c6, d6, nI_zL (by omega), UNIT_z, zL_mul, b124_ok (c := q) (by omega) (by omega) (by omega) (by rw [hl.five, c7, hd7]) hq]
      exact wp_some.mpr ⟨rfl, h1, h2⟩
    · rw [d5, if_pos (by decide), if_pos (by decide), u_cl (show 2 < 2147483648 by omega), if_neg (by decide), if_neg (by decide), if_neg (by decide)]
      refine wp_bn.mpr (wp_mono lay ?_)
      rintro _ t' hl
      obtain ⟨h1, h2⟩ := c.fr (hl.2.2.2.2.mono sub_now)
      rw [if_pos (by decide), hl.2.1, nI_zL (by omega)]
      unfold F12_holds_b90
      rw [if_pos (by decide), show (6 : Int32) = nI 6 from rfl, nI_add, u_ix (show v + 6 < 1780 by omega) (by omega), ck_t, u_cl (show v + 6 < 2147483648 by omega), hl.five, c6, d6, nI_zL (by omega), b124_ok (c := q) (by omega) (by omega) (by omega) (by rw [hl.five, c7, hd7]) hq]
      exact wp_some.mpr ⟨rfl, h1, h2⟩
