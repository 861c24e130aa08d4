theorem cText {N e m : Nat} {T : Nat → Nat} {σ : Ms} {A : Type} {P : A → Ms → Prop} {K : Int32 → Ms → Option (A × Ms)} (hN : 2000 < N) (ht : TT T e) (h1 : σ.1 20 1 = nI m) (hm : m ≤ 900) (hem : e ≤ m) (hb : ∀ j, j < e → σ.1 21 j = sb8 (T j)) (hK : ∀ t, t.1 11 15 = nI (pAll T e (e + 2) (tS T e 0, 0, 0) H00).1.2.1 → t.1 11 16 = (if (pAll T e (e + 2) (tS T e 0, 0, 0) H00).1.2.1 = 0 then -nI 1 else nI (pAll T e (e + 2) (tS T e 0, 0, 0) H00).1.2.2) → t.1 20 1 = nI 0 → ((pAll T e (e + 2) (tS T e 0, 0, 0) H00).1.2.1 = 0 → CG 30 (pAll T e (e + 2) (tS T e 0, 0, 0) H00).2 t) → t.1 30 11 = nI 0 → (∀ k j, k ≠ 11 → k ≠ 20 → (k < 30 ∨ 35 < k) → t.1 k j = σ.1 k j) → (pAll T e (e + 2) (tS T e 0, 0, 0) H00).1.2.1 < 100 → wp (K (bI (decide ((pAll T e (e + 2) (tS T e 0, 0, 0) H00).1.2.1 = 0))) t) P) : wp (bn (F8_open N (nI e) σ) fun _ t4 => bn (F1_parse N 30 t4) fun _ t6 => bn (F11_closeText t6) K) P := by
  refine wp_bn.mpr (wp_mono (open_c hN ht h1 hm hem hb) ?_)
  rintro _ t ⟨tc, k20⟩
  have pr : wp (F1_parse N 30 t) fun _ τ' => TC T e (pAll T e (e + 2) (tS T e 0, 0, 0) H00).1 τ' ∧ ((pAll T e (e + 2) (tS T e 0, 0, 0) H00).1.2.1 = 0 → CG 30 (pAll T e (e + 2) (tS T e 0, 0, 0) H00).2 τ') ∧ τ'.1 30 11 = nI 0 := by
    unfold F1_parse
    obtain ⟨t1, e1, c1, x1, k1⟩ := clear_c (σ := t)
    rw [e1, bn_s]
    exact cAllT hN ht (tc.mv (fun j => k1 _ _ (by omega)) (fun j => k1 _ _ (by omega))) PH_0 c1 x1
  refine wp_bn.mpr (wp_mono (wp_fr pr (fr_F1_parse 30 N t)) ?_)
  rintro _ t2 ⟨⟨tc2, cg2, x2⟩, hF⟩
  obtain ⟨t3, e3, a15, a16, a1, ak⟩ := closeT tc2
  rw [e3, bn_s]
  refine hK t3 a15 a16 a1 (fun z => (cg2 z).mv (fun j _ _ => ak _ _ (by omega) (by omega)) (fun k j _ _ => ak _ _ (by omega) (by omega))) ((ak _ _ (by omega) (by omega)).trans x2) (fun k j h1 h2 h3 => ?_) tc2.2.2.2.2.2
  rw [ak k j h1 h2, ← k20.1 k j h2]
  refine hF.1 k j fun ⟨w, hw, e1, _⟩ => ?_
  simp only [W1_parse, List.mem_cons, List.not_mem_nil, or_false] at hw
  rcases hw with rfl | rfl | rfl | rfl | rfl | rfl | rfl | rfl | rfl | rfl | rfl | rfl | rfl | rfl | rfl | rfl | rfl | rfl <;> (dsimp only at e1; omega)
theorem mText {N e m : Nat} {T : Nat → Nat} {σ : Ms} (hN : 2000 < N) (ht : TT T e) (h1 : σ.1 0 8 = nI m) (hm : m ≤ 900) (hem : e ≤ m) (hb : ∀ j, j < e → σ.1 4 j &&& 255 = nI (T j)) (q : TX × HG) (hq : pAll T e (e + 2) (tS T e 0, 0, 0) H00 = q) : wp (F12_hedge N (nI e) σ) fun r t => r = (if q.1.2.1 = 0 then nI (gn q.2) else -nI 1) ∧ t.1 0 0 = (if q.1.2.1 = 0 then nI 0 else nI 10) ∧ t.1 0 10 = nI q.1.2.1 ∧ t.1 0 11 = (if q.1.2.1 = 0 then -nI 1 else nI q.1.2.2) ∧ t.1 0 8 = nI 0 ∧ (∀ k j, k ≠ 0 → k ≠ 5 → t.1 k j = σ.1 k j) ∧ K356 σ t ∧ (q.1.2.1 = 0 → MG 0 q.2 t ∧ t.1 5 4 = nI 0 ∧ t.1 5 84 = nI 0) ∧ (q.1.2.1 ≠ 0 → ∀ j, j < 356 → t.1 5 j = σ.1 5 j) := by
  unfold F12_hedge
  rw [lt_e, lt_e]
  have s8 : (sI (sI σ 0 1 (0 : Int32)) 0 0 (0 : Int32)).1 0 8 = nI m := by rw [rI_j (by omega), rI_j (by omega)]; exact h1
  have s0 : (sI (sI σ 0 1 (0 : Int32)) 0 0 (0 : Int32)).1 0 0 = nI 0 := rI_e rfl rfl
  have sk : ∀ k j, k ≠ 0 → (sI (sI σ 0 1 (0 : Int32)) 0 0 (0 : Int32)).1 k j = σ.1 k j := fun k j h => by rw [rI_k h, rI_k h]
  generalize sI (sI σ 0 1 (0 : Int32)) 0 0 (0 : Int32) = s at s8 s0 sk
  refine wp_bn.mpr (wp_mono (starts_m (N := N) (lim := 900) hN ht s8 hm hem ht.1 (by omega) (fun j hj => by rw [sk _ _ (by omega)]; exact hb j hj)) ?_)
  rintro _ t1 ⟨rfl, tm, tk, t8, t0, -⟩
  rw [if_pos (by decide)]
  refine zero_m hN ?_
  intro t2 z1 z2 z3
  have tm2 : TMx T e (tS T e 0, 0, 0) t2 := tm.mv (fun j => z2 _ _ (Or.inl (by omega))) (fun j => z2 _ _ (Or.inl (by omega))) z3
  have mg2 : MG 1424 H00 t2 := ⟨⟨z1 _ (by omega) (by omega), fun i hi => absurd hi (Nat.not_lt_zero i)⟩, ⟨z1 _ (by omega) (by omega), fun i hi => absurd hi (Nat.not_lt_zero i)⟩, z1 _ (by omega) (by omega), z1 _ (by omega) (by omega), fun i hi => absurd hi (Nat.not_lt_zero i)⟩
  have z0 : ∀ j, t2.1 0 j = t1.1 0 j := fun j => z2 _ _ (Or.inl (by omega))
  refine mAllT (σ := t2) hN ht tm2 PH_0 mg2 (KP.rf t2) ?_
  rw [hq]
  intro t3 tm3 mg3 kp
  have k5 : ∀ j, j < 1424 → t3.1 5 j = σ.1 5 j := fun j hj => by rw [kp.2.1 j (by omega), z2 5 j (Or.inr hj), tk 5 j (by omega), sk 5 j (by omega)]
  have kk : ∀ k j, k ≠ 0 → k ≠ 5 → t3.1 k j = σ.1 k j := fun k j h0 h5 => by rw [kp.1 k j h0 h5, z2 k j (Or.inl h5), tk k j h0, sk k j h0]
  have k0 : t3.1 0 0 = nI 0 := by rw [kp.2.2 0 (by omega), z0, t0, s0]
  have k8 : t3.1 0 8 = nI 0 := by rw [kp.2.2 8 (by omega), z0, t8]
  unfold F12_hedge_b80
  obtain ⟨t4, e4, w10, w11, w0, w0', wk, w8, -⟩ := well_m tm3
  rw [e4, bn_s]
  by_cases z : q.1.2.1 = 0
  · have m3 := mg3 z
    rw [decide_eq_true z, if_pos (by decide), show (4 : Int32) = nI 4 from rfl, show (0 : Int32) = nI 0 from rfl, copy12_ok (by omega) (by omega) (by omega) (by omega), bn_s, show ixb (nI 0) 1780 = true by decide, ck_t, u_cl (by omega), if_pos z, if_pos z, if_pos z]
    have cin : ∀ j, j < 356 → (cpB 4 0 356 t4).1 5 j = t3.1 5 (1424 + j) := fun j hj => by
      have := B_in (σ := t4) (x := 4) (y := 0) hj
      rw [show 356 * 0 + j = j by omega, show 356 * 4 + j = 1424 + j by omega] at this
      rw [this, wk _ _ (by omega)]
    have cout : ∀ k j, k ≠ 5 → (cpB 4 0 356 t4).1 k j = t4.1 k j := fun k j h => B_out h
    refine wp_some.mpr ⟨?_, ?_, ?_, ?_, ?_, fun k j h0 h5 => ?_, fun j h1 h2 => ?_, fun _ => ⟨?_, ?_, ?_⟩, fun y => absurd z y⟩
    · rw [cin 0 (by omega)]
      exact m3.1.1
    · rw [cout _ _ (by omega), w0 z, k0]
    · rw [cout _ _ (by omega), w10]
    · rw [cout _ _ (by omega), w11, if_pos z]
    · rw [cout _ _ (by omega), w8, k8]
    · rw [cout _ _ h5, wk _ _ h0, kk k j h0 h5]
    · have h : (cpB 4 0 356 t4).1 5 j = t4.1 5 j := if_neg (by omega)
      rw [h, wk _ _ (by omega), k5 j h2]
    · have wq := pAll_PH ht (e + 2) (tS T e 0, 0, 0) H00 (tS_le (Nat.zero_le e)).2 PH_0 (by rw [hq]; exact z)
      rw [hq] at wq
      obtain ⟨⟨a1, a2⟩, ⟨b1, b2⟩, d1, d2, d3⟩ := m3
      have hn := wq.1.n
      have hm4 := wq.1.2.1.1
      have hk5 := wq.1.2.2.1
      refine ⟨⟨(cin 0 (by omega)).trans a1, fun i hi => ?_⟩, ⟨(cin 1 (by omega)).trans b1, fun i hi => ?_⟩, (cin 2 (by omega)).trans d1, (cin 3 (by omega)).trans d2, fun i hi => ?_⟩
      · obtain ⟨x1, x2, x3⟩ := a2 i hi
        rw [Nat.zero_add, Nat.zero_add, Nat.zero_add, cin _ (by omega), cin _ (by omega), cin _ (by omega)]
        exact ⟨x1, x2, x3⟩
      · rw [Nat.zero_add, cin _ (by omega)]
        exact b2 i hi
      · obtain ⟨x1, x2, x3⟩ := d3 i hi
        rw [Nat.zero_add, Nat.zero_add, Nat.zero_add, cin _ (by omega), cin _ (by omega), cin _ (by omega)]
        exact ⟨x1, x2, x3⟩
    · rw [cin 4 (by omega), kp.2.1 _ (by omega)]
      exact z1 _ (by omega) (by omega)
    · rw [cin 84 (by omega), kp.2.1 _ (by omega)]
      exact z1 _ (by omega) (by omega)
  · rw [decide_eq_false z, if_neg (by exact fun y => y rfl), if_neg z, if_neg z, if_neg z]
    refine wp_some.mpr ⟨rfl, w0' z, w10, by rw [w11, if_neg z], by rw [w8, k8], fun k j h0 h5 => by rw [wk _ _ h0, kk k j h0 h5], fun j h1 h2 => by rw [wk _ _ (by omega), k5 j h2], fun y => absurd y z, fun _ j hj => by rw [wk _ _ (by omega), k5 j (by omega)]⟩
theorem R_hedge {N : Nat} (hN : 2000 < N) (p : Int32) (σ : Ms) (hh : I_hg 0 22 σ) (hse : I_se 0 62 σ) (hta : I_tape σ) (hby : I_byte σ) (hf : I_fault σ) : wp (F11_hedge N p σ) fun r t => wp (F12_hedge N p t) fun r' t' => r = r' ∧ t'.1 11 17 = t'.1 0 0 ∧ I_hg 0 22 t' ∧ I_se 0 62 t' ∧ I_tape t' ∧ I_fault t' ∧ K356 σ t' := by
  obtain ⟨⟨m, hm, h1, h8⟩, h4⟩ := hta
  unfold F11_hedge F11_hedge_b15
  rcases ix_or p (m + 1) (by omega) with ⟨e, hem, rfl⟩ | ho
  rotate_left
  · have five : wp (some (-nI 1, sI σ 11 17 (nI 5))) fun r t => wp (F12_hedge N p t) fun r' t' => r = r' ∧ t'.1 11 17 = t'.1 0 0 ∧ I_hg 0 22 t' ∧ I_se 0 62 t' ∧ I_tape t' ∧ I_fault t' ∧ K356 σ t' := by
      refine wp_some.mpr ?_
      unfold F12_hedge F12_starts F12_starts_b17
      have ag : ∀ k j, k ≠ 0 → k ≠ 11 → (sI (sI (sI (sI σ 11 17 (nI 5)) 0 1 (0 : Int32)) 0 0 (0 : Int32)) 0 0 (nI 5)).1 k j = σ.1 k j := fun k j h0 h11 => by rw [rI_k h0, rI_k h0, rI_k h0, rI_k h11]
      have fin2 : wp (some (-nI 1, sI (sI (sI (sI σ 11 17 (nI 5)) 0 1 (0 : Int32)) 0 0 (0 : Int32)) 0 0 (nI 5))) fun r' t' => -nI 1 = r' ∧ t'.1 11 17 = t'.1 0 0 ∧ I_hg 0 22 t' ∧ I_se 0 62 t' ∧ I_tape t' ∧ I_fault t' ∧ K356 σ t' := by
        refine wp_some.mpr ⟨rfl, by try simp (disch := first | omega | assumption) only [lt_e, bn_s, ck_t, nk0, nk1, nk_b, bI_t, bI_f, L_0, L_1, L_2, L_3, L_4, L_5, L_6, L_7, L_8, L_9, L_10, L_11, L_12, L_15, L_20, L_25, L_30, L_45, L_60, L_65, L_69, L_74, L_79, L_84, L_85, L_86, L_99, L_100, L_255, L_300, L_356, L_900, L_1424, L_1425, L_1489, L_1510, L_9999, L_10000, nI_add, nI_mul, u_lt_t, u_lt_f, u_le_t, u_le_f, u_eq_t, u_eq_f, u_mlt, u_ltm, u_eqm, u_meq, u_mle, u_b0, u_b1, u_ix, u_cl, u_sub, u_suc, u_z0, u_0m, cI_0, cI_s, rI_e, rI_k, rI_j, rI_l, rL_e, rL_k, rL_j, rL_i, told11, none11, refuse12, no11q, no12q, yes11q, if_true, if_false, ite_true, ite_false, ne_eq, not_true_eq_false, not_false_eq_true, Classical.not_not, Bool.not_eq_true, Bool.not_eq_false, reduceCtorEq, Nat.add_zero, Nat.zero_add, Nat.mul_zero, and_self, and_true, true_and, Bool.true_eq_false, Bool.false_eq_true, eq_self], hh.mv (fun j => ag _ _ (by omega) (by omega)) (fun k j _ _ => ag _ _ (by omega) (by omega)), I_se_mv hse (fun r j _ => ag _ _ (by omega) (by omega)) (fun j _ _ => ag _ _ (by omega) (by omega)), ⟨⟨m, hm, by rw [ag _ _ (by omega) (by omega)]; exact h1, by try simp (disch := first | omega | assumption) only [lt_e, bn_s, ck_t, nk0, nk1, nk_b, bI_t, bI_f, L_0, L_1, L_2, L_3, L_4, L_5, L_6, L_7, L_8, L_9, L_10, L_11, L_12, L_15, L_20, L_25, L_30, L_45, L_60, L_65, L_69, L_74, L_79, L_84, L_85, L_86, L_99, L_100, L_255, L_300, L_356, L_900, L_1424, L_1425, L_1489, L_1510, L_9999, L_10000, nI_add, nI_mul, u_lt_t, u_lt_f, u_le_t, u_le_f, u_eq_t, u_eq_f, u_mlt, u_ltm, u_eqm, u_meq, u_mle, u_b0, u_b1, u_ix, u_cl, u_sub, u_suc, u_z0, u_0m, cI_0, cI_s, rI_e, rI_k, rI_j, rI_l, rL_e, rL_k, rL_j, rL_i, told11, none11, refuse12, no11q, no12q, yes11q, if_true, if_false, ite_true, ite_false, ne_eq, not_true_eq_false, not_false_eq_true, Classical.not_not, Bool.not_eq_true, Bool.not_eq_false, reduceCtorEq, Nat.add_zero, Nat.zero_add, Nat.mul_zero, and_self, and_true, true_and, Bool.true_eq_false, Bool.false_eq_true, eq_self]; exact h8⟩, fun j hj => by rw [ag _ _ (by omega) (by omega), ag _ _ (by omega) (by omega)]; exact h4 j hj⟩, ⟨by try simp (disch := first | omega | assumption) only [lt_e, bn_s, ck_t, nk0, nk1, nk_b, bI_t, bI_f, L_0, L_1, L_2, L_3, L_4, L_5, L_6, L_7, L_8, L_9, L_10, L_11, L_12, L_15, L_20, L_25, L_30, L_45, L_60, L_65, L_69, L_74, L_79, L_84, L_85, L_86, L_99, L_100, L_255, L_300, L_356, L_900, L_1424, L_1425, L_1489, L_1510, L_9999, L_10000, nI_add, nI_mul, u_lt_t, u_lt_f, u_le_t, u_le_f, u_eq_t, u_eq_f, u_mlt, u_ltm, u_eqm, u_meq, u_mle, u_b0, u_b1, u_ix, u_cl, u_sub, u_suc, u_z0, u_0m, cI_0, cI_s, rI_e, rI_k, rI_j, rI_l, rL_e, rL_k, rL_j, rL_i, told11, none11, refuse12, no11q, no12q, yes11q, if_true, if_false, ite_true, ite_false, ne_eq, not_true_eq_false, not_false_eq_true, Classical.not_not, Bool.not_eq_true, Bool.not_eq_false, reduceCtorEq, Nat.add_zero, Nat.zero_add, Nat.mul_zero, and_self, and_true, true_and, Bool.true_eq_false, Bool.false_eq_true, eq_self]; exact hf.1, by try simp (disch := first | omega | assumption) only [lt_e, bn_s, ck_t, nk0, nk1, nk_b, bI_t, bI_f, L_0, L_1, L_2, L_3, L_4, L_5, L_6, L_7, L_8, L_9, L_10, L_11, L_12, L_15, L_20, L_25, L_30, L_45, L_60, L_65, L_69, L_74, L_79, L_84, L_85, L_86, L_99, L_100, L_255, L_300, L_356, L_900, L_1424, L_1425, L_1489, L_1510, L_9999, L_10000, nI_add, nI_mul, u_lt_t, u_lt_f, u_le_t, u_le_f, u_eq_t, u_eq_f, u_mlt, u_ltm, u_eqm, u_meq, u_mle, u_b0, u_b1, u_ix, u_cl, u_sub, u_suc, u_z0, u_0m, cI_0, cI_s, rI_e, rI_k, rI_j, rI_l, rL_e, rL_k, rL_j, rL_i, told11, none11, refuse12, no11q, no12q, yes11q, if_true, if_false, ite_true, ite_false, ne_eq, not_true_eq_false, not_false_eq_true, Classical.not_not, Bool.not_eq_true, Bool.not_eq_false, reduceCtorEq, Nat.add_zero, Nat.zero_add, Nat.mul_zero, and_self, and_true, true_and, Bool.true_eq_false, Bool.false_eq_true, eq_self]; exact hf.2⟩, fun j _ _ => ag _ _ (by omega) (by omega)⟩
      rw [lt_e, lt_e]
      by_cases q0 : p < 0
      · rw [if_pos q0, no12q, bn_s, show nkB (nI 0) = true by decide, ck_t, bn_s, if_neg (by exact fun z => z rfl)]
        exact fin2
      · have q1 : (sI (sI (sI σ 11 17 (nI 5)) 0 1 (0 : Int32)) 0 0 (0 : Int32)).1 0 8 < p := by
          rw [rI_j (by omega), rI_j (by omega), rI_k (by omega), h8]
          exact Int32.not_le.mp (le_out m rfl (by omega) q0 ho)
        rw [if_neg q0, if_pos q1, no12q, bn_s, show nkB (nI 0) = true by decide, ck_t, bn_s, if_neg (by exact fun z => z rfl)]
        exact fin2
    by_cases q0 : p < 0
    · rw [if_pos q0, none11, bn_s]
      exact five
    · rw [if_neg q0, h1, if_neg (le_out m rfl (by omega) q0 ho), none11, bn_s]
      exact five
  rw [if_neg (nI_pos (by omega)), h1, if_pos (nI_le (by omega) (by omega))]
  have ht : TT (tT σ) e := ⟨by omega, fun j hj => (tT_ok hby (by omega)).1⟩
  refine cText (N := N) (T := tT σ) hN ht h1 hm (by omega) (fun j hj => (tT_ok hby (by omega)).2.1) ?_
  intro t a15 a16 a1 acg a11 ak alt
  have hPH : (pAll (tT σ) e (e + 2) (tS (tT σ) e 0, 0, 0) H00).1.2.1 = 0 → PH (pAll (tT σ) e (e + 2) (tS (tT σ) e 0, 0, 0) H00).2 := pAll_PH ht (e + 2) (tS (tT σ) e 0, 0, 0) H00 (tS_le (Nat.zero_le e)).2 PH_0
  generalize hq : pAll (tT σ) e (e + 2) (tS (tT σ) e 0, 0, 0) H00 = q at *
  -- the model from a state of the class
  have mod : ∀ (s : Ms), (∀ k j, k ≠ 11 → k ≠ 20 → (k < 22 ∨ 35 < k ∧ k ≠ 62) → s.1 k j = σ.1 k j) → s.1 20 1 = nI 0 → s.1 11 15 = t.1 11 15 → s.1 11 16 = t.1 11 16 → s.1 11 17 = (if q.1.2.1 = 0 then nI 0 else nI 10) → (q.1.2.1 = 0 → CG 22 q.2 s ∧ s.1 22 11 = nI 0 ∧ s.1 62 0 = nI 0) → (q.1.2.1 ≠ 0 → ∀ k j, k ≠ 11 → k ≠ 20 → (k < 30 ∨ 35 < k) → s.1 k j = σ.1 k j) → wp (F12_hedge N (nI e) s) fun r' t' => (if q.1.2.1 = 0 then nI (gn q.2) else -nI 1) = r' ∧ t'.1 11 17 = t'.1 0 0 ∧ I_hg 0 22 t' ∧ I_se 0 62 t' ∧ I_tape t' ∧ I_fault t' ∧ K356 σ t' := fun s sk s1 s15 s16 s17 sy sn => by
    refine wp_mono (mText (N := N) (T := tT σ) (m := m) (e := e) hN ht (by rw [sk _ _ (by omega) (by omega) (by omega)]; exact h8) hm (by omega) (fun j hj => by rw [sk _ _ (by omega) (by omega) (by omega), ← h4 j (by omega)]; exact (tT_ok hby (by omega)).2.2) q hq) ?_
    rintro r t' ⟨rfl, x0, x10, x11, x8, xk, x356, xy, xn⟩
    have tk : ∀ k j, k ≠ 0 → k ≠ 5 → t'.1 k j = s.1 k j := xk
    have tape : I_tape t' := ⟨⟨0, by omega, by rw [tk _ _ (by omega) (by omega)]; exact s1, x8⟩, fun j hj => by rw [tk _ _ (by omega) (by omega), tk _ _ (by omega) (by omega), sk 21 j (by omega) (by omega) (by omega), sk 4 j (by omega) (by omega) (by omega)]; exact h4 j hj⟩
    refine ⟨rfl, by rw [tk _ _ (by omega) (by omega), s17, x0], ?_, ?_, tape, ⟨by rw [tk _ _ (by omega) (by omega), s15, x10, a15], by rw [tk _ _ (by omega) (by omega), s16, x11, a16]⟩, fun j h1' h2' => by rw [x356 j h1' h2', sk _ _ (by omega) (by omega) (by omega)]⟩
    · by_cases z : q.1.2.1 = 0
      · obtain ⟨c1, c2, c3⟩ := sy z
        obtain ⟨y1, y2, y3⟩ := xy z
        exact ⟨q.2, (hPH z).1, c1.mv (fun j _ _ => tk _ _ (by omega) (by omega)) (fun k j _ _ => tk _ _ (by omega) (by omega)), y1, by rw [tk _ _ (by omega) (by omega), c2, Nat.zero_add, y2]⟩
      · exact I_hg_mv hh (fun r j hr => by rw [tk _ _ (by omega) (by unfold Phg at hr; omega), sn z _ _ (by omega) (by omega) (by unfold Phg at hr; omega)]) (fun j hj => by rw [Nat.zero_add, xn z j (by omega), sk _ _ (by omega) (by omega) (by omega)])
    · by_cases z : q.1.2.1 = 0
      · obtain ⟨c1, c2, c3⟩ := sy z
        obtain ⟨y1, y2, y3⟩ := xy z
        exact Or.inl ⟨by rw [tk _ _ (by omega) (by omega), c3], by rw [Nat.mul_zero, Nat.zero_add, y3]⟩
      · exact I_se_mv hse (fun r j hr => by rw [tk _ _ (by omega) (by omega), sn z _ _ (by omega) (by omega) (by omega)]) (fun j _ hj => by rw [Nat.mul_zero, Nat.zero_add, xn z j (by omega), sk _ _ (by omega) (by omega) (by omega)])
  by_cases z : q.1.2.1 = 0
  · have w := (hPH z).1
    rw [decide_eq_true z, if_pos (by decide), copy0_ok (by omega) (by omega), bn_s]
    unfold F5_forget
    rw [show nkB (0 : Int32) = true by decide, ck_t, lt_e, bn_s, told11, bn_s]
    have c22 := CG_copy (a := 30) (b := 22) (by omega) w (acg z)
    have co : ∀ k j, (k < 22 ∨ 27 < k) → (cpH 30 22 Phg t).1 k j = t.1 k j := fun k j h => H_out (by omega)
    refine wp_some.mpr ?_
    have er : (sI (cpH 30 22 Phg t) 62 0 (0 : Int32)).1 22 5 = nI (gn q.2) := by rw [rI_k (by omega)]; exact c22.1.1
    rw [er]
    have md := mod (sI (sI (cpH 30 22 Phg t) 62 0 (0 : Int32)) 11 17 (nI 0)) (fun k j h11 h20 hk => by rw [rI_k h11, rI_k (by omega), co _ _ (by omega)]; exact ak k j h11 h20 (by omega)) (by rw [rI_k (by omega), rI_k (by omega), co _ _ (by omega)]; exact a1) (by rw [rI_j (by omega), rI_k (by omega), co _ _ (by omega)]) (by rw [rI_j (by omega), rI_k (by omega), co _ _ (by omega)]) (by rw [rI_e rfl rfl, if_pos z]) (fun _ => ⟨c22.mv (fun j _ _ => by rw [rI_k (by omega), rI_k (by omega)]) (fun k j _ _ => by rw [rI_k (by omega), rI_k (by omega)]), by
      rw [rI_k (by omega), rI_k (by omega)]
      have := H_in (σ := t) (a := 30) (b := 22) (P := Phg) (r := 0) (j := 11) (by omega) (Or.inl ⟨rfl, by omega, by omega⟩)
      exact this.trans a11, by rw [rI_k (by omega), rI_e rfl rfl]; rfl⟩) (fun y => absurd z y)
    rw [if_pos z] at md
    exact md
  · rw [decide_eq_false z, if_neg (by exact fun y => y rfl), none11, bn_s]
    refine wp_some.mpr ?_
    have md := mod (sI t 11 17 (10 : Int32)) (fun k j h11 h20 hk => by rw [rI_k h11]; exact ak k j h11 h20 (by omega)) (by rw [rI_k (by omega)]; exact a1) (by rw [rI_j (by omega)]) (by rw [rI_j (by omega)]) (by rw [rI_e rfl rfl, if_neg z]; rfl) (fun y => absurd y z) (fun _ k j h11 h20 hk => by rw [rI_k h11]; exact ak k j h11 h20 hk)
    rw [if_neg z] at md
    exact md
