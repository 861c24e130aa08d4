def D00 (σ : Ms) : DG := fun t o => σ.1 5 (1510 + 9 * t + o)
/-- the class reads its seasons -/
theorem cSeasT {N e : Nat} {T : Nat → Nat} {σ : Ms} (hN : 2000 < N) (ht : TT T e) (he : e ≤ 300) (D : DG) (h : TC T e (tS T e 0, 0, 0) σ) (q : TX × Nat × DG) (hq : aSq T e (e + 2) 0 (tS T e 0, 0, 0) 0 D = q) : wp (F6_parse N 69 σ) fun _ t => TC T e q.1 t ∧ (q.1.2.1 = 0 → t.1 69 0 = nI 1 ∧ ∃ E f, SB q.2.1 E 0 t ∧ Seg (t.1 70) (t.1 71) (t.1 72) (t.1 73) (t.1 74) q.2.2 f 3 0 0 E q.2.1) := by
  unfold F6_parse F5_begin
  rw [show nkB (1 : Int32) = true by decide, ck_t, lt_e, lt_e, lt_e, lt_e, bn_s]
  have f : ∀ t, t = sI (sI (sI (sI σ 69 0 (1 : Int32)) 69 1 (0 : Int32)) 69 2 (0 : Int32)) 69 8 (0 : Int32) → TC T e (tS T e 0, 0, 0) t ∧ SB 0 0 0 t ∧ t.1 69 0 = nI 1 := fun t et => by
    subst et
    refine ⟨h.mv (fun j => by rw [rI_k (by omega), rI_k (by omega), rI_k (by omega), rI_k (by omega)]) (fun j => by rw [rI_k (by omega), rI_k (by omega), rI_k (by omega), rI_k (by omega)]), ⟨by try simp (disch := first | omega | assumption) only [lt_e, bn_s, ck_t, nk0, nk1, nk_b, bI_t, bI_f, L_0, L_1, L_2, L_3, L_4, L_5, L_6, L_7, L_8, L_9, L_10, L_11, L_12, L_15, L_20, L_25, L_30, L_45, L_60, L_65, L_69, L_74, L_79, L_84, L_85, L_86, L_99, L_100, L_255, L_300, L_356, L_900, L_1424, L_1425, L_1489, L_1510, L_9999, L_10000, nI_add, nI_mul, u_lt_t, u_lt_f, u_le_t, u_le_f, u_eq_t, u_eq_f, u_mlt, u_ltm, u_eqm, u_meq, u_mle, u_b0, u_b1, u_ix, u_cl, u_sub, u_suc, u_z0, u_0m, cI_0, cI_s, rI_e, rI_k, rI_j, rI_l, rL_e, rL_k, rL_j, rL_i, told11, none11, refuse12, no11q, no12q, yes11q, if_true, if_false, ite_true, ite_false, ne_eq, not_true_eq_false, not_false_eq_true, Classical.not_not, Bool.not_eq_true, Bool.not_eq_false, reduceCtorEq, Nat.add_zero, Nat.zero_add, Nat.mul_zero, and_self, and_true, true_and, Bool.true_eq_false, Bool.false_eq_true, eq_self], by try simp (disch := first | omega | assumption) only [lt_e, bn_s, ck_t, nk0, nk1, nk_b, bI_t, bI_f, L_0, L_1, L_2, L_3, L_4, L_5, L_6, L_7, L_8, L_9, L_10, L_11, L_12, L_15, L_20, L_25, L_30, L_45, L_60, L_65, L_69, L_74, L_79, L_84, L_85, L_86, L_99, L_100, L_255, L_300, L_356, L_900, L_1424, L_1425, L_1489, L_1510, L_9999, L_10000, nI_add, nI_mul, u_lt_t, u_lt_f, u_le_t, u_le_f, u_eq_t, u_eq_f, u_mlt, u_ltm, u_eqm, u_meq, u_mle, u_b0, u_b1, u_ix, u_cl, u_sub, u_suc, u_z0, u_0m, cI_0, cI_s, rI_e, rI_k, rI_j, rI_l, rL_e, rL_k, rL_j, rL_i, told11, none11, refuse12, no11q, no12q, yes11q, if_true, if_false, ite_true, ite_false, ne_eq, not_true_eq_false, not_false_eq_true, Classical.not_not, Bool.not_eq_true, Bool.not_eq_false, reduceCtorEq, Nat.add_zero, Nat.zero_add, Nat.mul_zero, and_self, and_true, true_and, Bool.true_eq_false, Bool.false_eq_true, eq_self], by try simp (disch := first | omega | assumption) only [lt_e, bn_s, ck_t, nk0, nk1, nk_b, bI_t, bI_f, L_0, L_1, L_2, L_3, L_4, L_5, L_6, L_7, L_8, L_9, L_10, L_11, L_12, L_15, L_20, L_25, L_30, L_45, L_60, L_65, L_69, L_74, L_79, L_84, L_85, L_86, L_99, L_100, L_255, L_300, L_356, L_900, L_1424, L_1425, L_1489, L_1510, L_9999, L_10000, nI_add, nI_mul, u_lt_t, u_lt_f, u_le_t, u_le_f, u_eq_t, u_eq_f, u_mlt, u_ltm, u_eqm, u_meq, u_mle, u_b0, u_b1, u_ix, u_cl, u_sub, u_suc, u_z0, u_0m, cI_0, cI_s, rI_e, rI_k, rI_j, rI_l, rL_e, rL_k, rL_j, rL_i, told11, none11, refuse12, no11q, no12q, yes11q, if_true, if_false, ite_true, ite_false, ne_eq, not_true_eq_false, not_false_eq_true, Classical.not_not, Bool.not_eq_true, Bool.not_eq_false, reduceCtorEq, Nat.add_zero, Nat.zero_add, Nat.mul_zero, and_self, and_true, true_and, Bool.true_eq_false, Bool.false_eq_true, eq_self], by omega, by omega, by omega⟩, by try simp (disch := first | omega | assumption) only [lt_e, bn_s, ck_t, nk0, nk1, nk_b, bI_t, bI_f, L_0, L_1, L_2, L_3, L_4, L_5, L_6, L_7, L_8, L_9, L_10, L_11, L_12, L_15, L_20, L_25, L_30, L_45, L_60, L_65, L_69, L_74, L_79, L_84, L_85, L_86, L_99, L_100, L_255, L_300, L_356, L_900, L_1424, L_1425, L_1489, L_1510, L_9999, L_10000, nI_add, nI_mul, u_lt_t, u_lt_f, u_le_t, u_le_f, u_eq_t, u_eq_f, u_mlt, u_ltm, u_eqm, u_meq, u_mle, u_b0, u_b1, u_ix, u_cl, u_sub, u_suc, u_z0, u_0m, cI_0, cI_s, rI_e, rI_k, rI_j, rI_l, rL_e, rL_k, rL_j, rL_i, told11, none11, refuse12, no11q, no12q, yes11q, if_true, if_false, ite_true, ite_false, ne_eq, not_true_eq_false, not_false_eq_true, Classical.not_not, Bool.not_eq_true, Bool.not_eq_false, reduceCtorEq, Nat.add_zero, Nat.zero_add, Nat.mul_zero, and_self, and_true, true_and, Bool.true_eq_false, Bool.false_eq_true, eq_self]⟩
  generalize sI (sI (sI (sI σ 69 0 (1 : Int32)) 69 1 (0 : Int32)) 69 2 (0 : Int32)) 69 8 (0 : Int32) = t at f
  obtain ⟨tc, sb, t69⟩ := f t rfl
  have hmsr : msr e (tS T e 0, 0, 0) ≤ e + 2 := by
    unfold msr
    split <;> omega
  have Q := cSeqT (N := N) (by omega) ht he (e + 2) 0 (tS T e 0, 0, 0) 0 D t 0 0 hmsr tc rfl sb (by omega) (Nat.zero_le _)
  have hend := aSq_end (T := T) (e := e) (e + 2) 0 (tS T e 0, 0, 0) 0 D tc.2.2.1 hmsr
  rw [hq] at Q hend
  show wp (fx N (FF N) (nI 0, t)) _
  by_cases z : q.1.2.1 = 0
  · obtain ⟨j, τ', E', f, i1, i2, i3, i4, i5, -, -, -, i9, i10⟩ := Q.1 z
    have hqe := i3.2.2.1
    have hk : kdS T e q.1.1 = 0 := by
      unfold stpB at hend
      rw [decide_eq_false (fun y => y z), Bool.false_or, if_pos (by rfl)] at hend
      exact of_decide_eq_true hend
    have e2 : ∀ m, fx (m + 1) (FF N) (nI (0 + j), τ') = some ((), τ') := fun m => by
      show F6_parse_b6B N 69 (fx m (FF N)) (nI (0 + j)) τ' = _
      have b48 : F6_parse_b48 N 69 τ' = some ((), τ') := by
        unfold F6_parse_b48
        rw [i4.2.2.1, if_pos (by decide)]
      unfold F6_parse_b6B F8_goesOn
      by_cases q3 : 300 ≤ 0 + j
      · rw [if_pos (by exact nI_le (a := 300) q3 (by omega))]
        exact b48
      · rw [if_neg (by exact nI_ge (b := 300) (by omega) (by omega)), i3.2.2.2.1, z, if_neg (by exact fun z => z rfl), i3.2.1.1, hk, if_pos (show nI 0 = (0 : Int32) from rfl), bn_s, if_pos (by rfl)]
        exact b48
    have e1 := i1 (N - j)
    rw [show N - j + j = N by omega] at e1
    rw [e1, show N - j = (N - j - 1) + 1 by omega, e2]
    exact wp_some.mpr ⟨i3, fun _ => ⟨i10.trans t69, E', f, i4, i9⟩⟩
  · obtain ⟨j, τ', j1, j2, j3⟩ := Q.2 z
    have e1 := j2 (N - j)
    rw [show N - j + j = N by omega] at e1
    rw [e1]
    exact wp_some.mpr ⟨j3, fun y => absurd y z⟩
/-- the model lays its steps down -/
theorem lay_m {N n : Nat} {σ : Ms} {D : DG} (hN : 2000 < N) (hn : n ≤ 30) (h22 : σ.1 0 22 = nI n) (hd : MDx D σ) : wp (F12_seasons_b80 N (0 : Int32) σ) fun r t => r = nI n ∧ (∀ s o, s < n → o < 9 → t.1 5 (86 + 9 * s + o) = D s o) ∧ (∀ k j, (k ≠ 5 ∨ j < 86 ∨ 356 ≤ j) → t.1 k j = σ.1 k j) := by
  unfold F12_seasons_b80
  refine wp_fx (fun a s => ∃ i t, i + a = 9 * n ∧ s = (nI i, t) ∧ (∀ j, j < i → t.1 5 (86 + j) = σ.1 5 (1510 + j)) ∧ (∀ k j, (k ≠ 5 ∨ j < 86 ∨ 86 + i ≤ j) → t.1 k j = σ.1 k j)) ?_ (n := 9 * n) (by omega) ⟨0, σ, by omega, rfl, fun j hj => absurd hj (Nat.not_lt_zero j), fun _ _ _ => rfl⟩
  rintro a co _ ⟨i, t, hi, rfl, g1, g2⟩ hco
  dsimp only
  unfold F12_seasons_b80B
  have e22 : t.1 0 22 = nI n := (g2 0 22 (Or.inl (by omega))).trans h22
  rw [e22, show (9 : Int32) = nI 9 from rfl, nI_mul]
  by_cases q : 9 * n ≤ i
  · rw [if_pos (nI_le q (by omega))]
    refine wp_some.mpr ⟨rfl, fun s o hs ho => ?_, fun k j h => g2 k j (by omega)⟩
    rw [show 86 + 9 * s + o = 86 + (9 * s + o) by omega, g1 _ (by omega), ← hd s o (by omega) ho, show 1510 + 9 * s + o = 1510 + (9 * s + o) by omega]
  · rw [if_neg (nI_ge (by omega) (by omega)), show (1510 : Int32) = nI 1510 from rfl, show (86 : Int32) = nI 86 from rfl, nI_add, nI_add, u_ix (show 1510 + i < 1780 by omega) (by omega), u_ix (show 86 + i < 1780 by omega) (by omega), ck_t, ck_t, u_cl (by omega), u_cl (by omega), lt_e, L_1, nI_add]
    refine hco (a - 1) _ (by omega) ⟨i + 1, _, by omega, rfl, fun j hj => ?_, fun k j h => by rw [show (sI t 5 (86 + i) (t.1 5 (1510 + i))).1 k j = t.1 k j from if_neg (by omega)]; exact g2 k j (by omega)⟩
    by_cases z : j = i
    · rw [rI_e rfl (by omega), z, g2 5 _ (by omega)]
    · rw [rI_j (by omega)]
      exact g1 j (by omega)
theorem mSeasT {N e m : Nat} {T : Nat → Nat} {σ : Ms} (hN : 2000 < N) (ht : TT T e) (he : e ≤ 300) (h1 : σ.1 0 8 = nI m) (hm : m ≤ 900) (hem : e ≤ m) (hb : ∀ j, j < e → σ.1 4 j &&& 255 = nI (T j)) (q : TX × Nat × DG) (hq : aSq T e (e + 2) 0 (tS T e 0, 0, 0) 0 (D00 σ) = q) : wp (F12_seasons N (nI e) σ) fun r t => r = (if q.1.2.1 = 0 then nI q.2.1 else -nI 1) ∧ t.1 0 0 = (if q.1.2.1 = 0 then nI 0 else nI 10) ∧ t.1 0 10 = nI q.1.2.1 ∧ t.1 0 11 = (if q.1.2.1 = 0 then -nI 1 else nI q.1.2.2) ∧ t.1 0 8 = nI 0 ∧ (∀ k j, k ≠ 0 → k ≠ 5 → t.1 k j = σ.1 k j) ∧ K356 σ t ∧ (∀ j, j < 84 → t.1 5 j = σ.1 5 j) ∧ (q.1.2.1 = 0 → t.1 5 84 = nI 1 ∧ t.1 5 85 = nI q.2.1 ∧ ∀ s o, s < q.2.1 → o < 9 → t.1 5 (86 + 9 * s + o) = q.2.2 s o) ∧ (q.1.2.1 ≠ 0 → ∀ j, j < 356 → t.1 5 j = σ.1 5 j) := by
  unfold F12_seasons
  rw [lt_e, lt_e]
  have s8 : (sI (sI σ 0 1 (0 : Int32)) 0 0 (0 : Int32)).1 0 8 = nI m := by rw [rI_j (by omega), rI_j (by omega)]; exact h1
  have s0 : (sI (sI σ 0 1 (0 : Int32)) 0 0 (0 : Int32)).1 0 0 = nI 0 := rI_e rfl rfl
  have sk : ∀ k j, k ≠ 0 → (sI (sI σ 0 1 (0 : Int32)) 0 0 (0 : Int32)).1 k j = σ.1 k j := fun k j h => by rw [rI_k h, rI_k h]
  generalize sI (sI σ 0 1 (0 : Int32)) 0 0 (0 : Int32) = s at s8 s0 sk
  refine wp_bn.mpr (wp_mono (starts_m (N := N) (lim := 300) hN ht s8 hm hem he (by omega) (fun j hj => by rw [sk _ _ (by omega)]; exact hb j hj)) ?_)
  rintro _ t1 ⟨rfl, tm, tk, t8, t0, -⟩
  rw [if_pos (by decide), lt_e]
  have tm2 : TMx T e (tS T e 0, 0, 0) (sI t1 0 22 (0 : Int32)) := by
    obtain ⟨m1, m2, m3, m4, m5, m6⟩ := tm
    exact ⟨m1.s (by omega), ⟨by rw [rI_j (by omega)]; exact m2.1, by rw [rI_j (by omega)]; exact m2.2.1, by rw [rI_j (by omega)]; exact m2.2.2.1, fun z => by rw [rI_j (by omega)]; exact m2.2.2.2.1 z, fun z => by rw [rI_j (by omega)]; exact m2.2.2.2.2.1 z, m2.2.2.2.2.2⟩, m3, by rw [rI_j (by omega)]; exact m4, fun z => absurd rfl z, m6⟩
  have uk : ∀ k j, k ≠ 0 → (sI t1 0 22 (0 : Int32)).1 k j = σ.1 k j := fun k j h => by rw [rI_k h, tk k j h, sk k j h]
  have u0 : (sI t1 0 22 (0 : Int32)).1 0 0 = nI 0 := by rw [rI_j (by omega), t0, s0]
  have u8 : (sI t1 0 22 (0 : Int32)).1 0 8 = nI 0 := by rw [rI_j (by omega), t8]
  have u22 : (sI t1 0 22 (0 : Int32)).1 0 22 = nI 0 := rI_e rfl rfl
  generalize sI t1 0 22 (0 : Int32) = u at tm2 uk u0 u8 u22
  have du : MDx (D00 σ) u := fun t o h1 h2 => uk _ _ (by omega)
  have hmsr : msr e (tS T e 0, 0, 0) ≤ e + 2 := by
    unfold msr
    split <;> omega
  have fin2 : ∀ t3, TMx T e q.1 t3 → (q.1.2.1 = 0 → MDx q.2.2 t3 ∧ t3.1 0 22 = nI q.2.1 ∧ q.2.1 ≤ 30) → KSt u t3 → wp (F12_seasons_b50 N t3) fun r t => r = (if q.1.2.1 = 0 then nI q.2.1 else -nI 1) ∧ t.1 0 0 = (if q.1.2.1 = 0 then nI 0 else nI 10) ∧ t.1 0 10 = nI q.1.2.1 ∧ t.1 0 11 = (if q.1.2.1 = 0 then -nI 1 else nI q.1.2.2) ∧ t.1 0 8 = nI 0 ∧ (∀ k j, k ≠ 0 → k ≠ 5 → t.1 k j = σ.1 k j) ∧ K356 σ t ∧ (∀ j, j < 84 → t.1 5 j = σ.1 5 j) ∧ (q.1.2.1 = 0 → t.1 5 84 = nI 1 ∧ t.1 5 85 = nI q.2.1 ∧ ∀ s o, s < q.2.1 → o < 9 → t.1 5 (86 + 9 * s + o) = q.2.2 s o) ∧ (q.1.2.1 ≠ 0 → ∀ j, j < 356 → t.1 5 j = σ.1 5 j) := fun t3 tm3 d3 ks => by
    have k5 : ∀ j, j < 1510 → t3.1 5 j = σ.1 5 j := fun j hj => by rw [ks.2.1 j hj, uk 5 j (by omega)]
    have kk : ∀ k j, k ≠ 0 → k ≠ 5 → t3.1 k j = σ.1 k j := fun k j h0 h5 => by rw [ks.1 k j h0 h5, uk k j h0]
    have k0 : t3.1 0 0 = nI 0 := by rw [ks.2.2 0 (by omega), u0]
    have k8 : t3.1 0 8 = nI 0 := by rw [ks.2.2 8 (by omega), u8]
    unfold F12_seasons_b50
    obtain ⟨t4, e4, w10, w11, w0, w0', wk, w8, w22⟩ := well_m tm3
    rw [e4, bn_s]
    by_cases z : q.1.2.1 = 0
    · obtain ⟨d4, n4, n30⟩ := d3 z
      rw [decide_eq_true z, if_pos (by decide), show ixb (84 : Int32) 1780 = true by decide, show ixb (85 : Int32) 1780 = true by decide, show (84 : Int32).toNatClampNeg = 84 by decide, show (85 : Int32).toNatClampNeg = 85 by decide, ck_t, lt_e, ck_t, lt_e, rI_k (show 0 ≠ 5 by omega), w22, n4]
      have dv : MDx q.2.2 (sI (sI t4 5 84 (1 : Int32)) 5 85 (nI q.2.1)) := fun s o a b => by rw [rI_j (by omega), rI_j (by omega), wk _ _ (by omega)]; exact d4 s o a b
      have v22 : (sI (sI t4 5 84 (1 : Int32)) 5 85 (nI q.2.1)).1 0 22 = nI q.2.1 := by rw [rI_k (by omega), rI_k (by omega), w22, n4]
      have vk : ∀ k j, (k ≠ 5 ∨ (j ≠ 84 ∧ j ≠ 85)) → (sI (sI t4 5 84 (1 : Int32)) 5 85 (nI q.2.1)).1 k j = t4.1 k j := fun k j h => by
        rcases h with h | h
        · rw [rI_k h, rI_k h]
        · rw [rI_j h.2, rI_j h.1]
      have v84 : (sI (sI t4 5 84 (1 : Int32)) 5 85 (nI q.2.1)).1 5 84 = nI 1 := by rw [rI_j (by omega), rI_e rfl rfl]; rfl
      have v85 : (sI (sI t4 5 84 (1 : Int32)) 5 85 (nI q.2.1)).1 5 85 = nI q.2.1 := rI_e rfl rfl
      generalize sI (sI t4 5 84 (1 : Int32)) 5 85 (nI q.2.1) = v at dv v22 vk v84 v85
      refine wp_mono (lay_m hN n30 v22 dv) ?_
      rintro _ t ⟨rfl, x1, x2⟩
      refine ⟨(if_pos z).symm, ?_, ?_, ?_, ?_, fun k j h0 h5 => ?_, fun j h1 h2 => ?_, fun j hj => ?_, fun _ => ⟨?_, ?_, x1⟩, fun y => absurd z y⟩
      · rw [x2 _ _ (Or.inl (by omega)), vk _ _ (Or.inl (by omega)), w0 z, k0, if_pos z]
      · rw [x2 _ _ (Or.inl (by omega)), vk _ _ (Or.inl (by omega)), w10]
      · rw [x2 _ _ (Or.inl (by omega)), vk _ _ (Or.inl (by omega)), w11]
      · rw [x2 _ _ (Or.inl (by omega)), vk _ _ (Or.inl (by omega)), w8, k8]
      · rw [x2 _ _ (Or.inl h5), vk _ _ (Or.inl h5), wk _ _ h0, kk k j h0 h5]
      · rw [x2 _ _ (by omega), vk _ _ (by omega), wk _ _ (by omega), k5 j (by omega)]
      · rw [x2 _ _ (by omega), vk _ _ (by omega), wk _ _ (by omega), k5 j (by omega)]
      · rw [x2 _ _ (by omega), v84]
      · rw [x2 _ _ (by omega), v85]
    · rw [decide_eq_false z, if_neg (by exact fun y => y rfl), if_neg z, if_neg z, if_neg z]
      refine wp_some.mpr ⟨rfl, w0' z, w10, by rw [w11, if_neg z], by rw [w8, k8], fun k j h0 h5 => by rw [wk _ _ h0, kk k j h0 h5], fun j h1 h2 => by rw [wk _ _ (by omega), k5 j (by omega)], fun j hj => by rw [wk _ _ (by omega), k5 j (by omega)], fun y => absurd y z, fun _ j hj => by rw [wk _ _ (by omega), k5 j (by omega)]⟩
  unfold F12_seasons_b28
  refine wp_fx (fun a t => ∃ k y n G, aSq T e k 0 y n G = q ∧ msr e y ≤ k ∧ TMx T e y t ∧ (y.2.1 = 0 → MDx G t ∧ t.1 0 22 = nI n) ∧ n ≤ 30 ∧ KSt u t ∧ a = msr e y) ?_ (n := msr e (tS T e 0, 0, 0)) (by omega) ⟨e + 2, _, _, _, hq, hmsr, tm2, fun _ => ⟨du, u22⟩, by omega, KSt.rf u, rfl⟩
  rintro a co t ⟨k, y, n, G, hy, hmy, gy, dy, hn30, ky, ha⟩ hco
  unfold F12_seasons_b28B
  have stop : stpB T e 0 y = true → wp (F12_seasons_b50 N t) _ := fun hs => by
    rw [aSq_s hs] at hy
    refine fin2 t (by rw [← hy]; exact gy) (fun z => ?_) ky
    rw [← hy] at z ⊢
    exact ⟨(dy z).1, (dy z).2, hn30⟩
  by_cases qy : y.2.1 = 0
  rotate_left
  · rw [if_pos (gy.f.2.2.mpr qy)]
    exact stop (stpB_f qy)
  have hk5 := kdS_lt T e y.1
  rw [if_neg (fun z => gy.f.2.2.mp z qy), gy.2.1.1]
  by_cases qk : kdS T e y.1 = 0
  · rw [qk, if_pos (show nI 0 = (0 : Int32) from rfl)]
    refine stop ?_
    unfold stpB
    rw [if_pos (by rfl), decide_eq_true qk, Bool.or_true]
  rw [if_neg (by exact fun z => qk ((nI_eq (b := 0) (by omega) (by omega)).mp z))]
  have hmp : 1 ≤ msr e y := by
    unfold msr
    rw [if_pos qy]
    have := gy.2.2.1
    omega
  obtain ⟨k2, rfl⟩ : ∃ k2, k = k2 + 1 := ⟨k - 1, by omega⟩
  have hns : ¬ stpB T e 0 y = true := fun z => by
    unfold stpB at z
    rw [if_pos (by rfl), decide_eq_false (fun q => q qy), Bool.false_or] at z
    exact qk (of_decide_eq_true z)
  rw [aSq_g hns] at hy
  refine wp_bn.mpr (wp_mono (mOneT (by omega) ht k2 0 y n G t 4 hmy gy qy (dy qy).1 (dy qy).2 hn30 (by omega) (by omega)) ?_)
  rintro _ t5 ⟨g5, d5, ks5⟩
  have hlt := msr_one (T := T) (w := 0) (n := n) (k := k2) (D := G) gy.2.2.1 qy
  have h30 : (aOne (aSq T e k2 (0 + 1)) T e 0 y n G).2.1 ≤ 30 := by
    unfold aOne
    by_cases q1 : (aHd T e 0 n (kdW T e y) y).2.1 ≠ 0
    · rw [if_pos q1]
      exact hn30
    rw [if_neg q1]
    have hm' := (aHd_z (Classical.not_not.mp q1)).2.2.1
    split
    · exact (aSq_D (T := T) (e := e) k2 (0 + 1) (clsT T e (aR T e 0 y n G).1) (n + 1) (aR T e 0 y n G).2 hm').2.1
    · exact hm'
  exact hco (msr e (aOne (aSq T e k2 (0 + 1)) T e 0 y n G).1) _ (by omega) ⟨k2, _, _, _, hy, by omega, g5, d5, h30, ky.tr ks5, rfl⟩
theorem R_seasons {N : Nat} (hN : 2000 < N) (p : Int32) (σ : Ms) (hh : I_hg 0 22 σ) (hse : I_se 0 62 σ) (hta : I_tape σ) (hby : I_byte σ) (hf : I_fault σ) : wp (F11_seasons N p σ) fun r t => wp (F12_seasons N p t) fun r' t' => r = r' ∧ t'.1 11 17 = t'.1 0 0 ∧ I_hg 0 22 t' ∧ I_se 0 62 t' ∧ I_tape t' ∧ I_fault t' ∧ K356 σ t' := by
  obtain ⟨⟨m, hm, h1, h8⟩, h4⟩ := hta
  unfold F11_seasons F11_seasons_b22
  have five : (p < 0 ∨ nI m < p ∨ ¬ p ≤ (300 : Int32)) → wp (some (-nI 1, sI σ 11 17 (nI 5))) fun r t => wp (F12_seasons N p t) fun r' t' => r = r' ∧ t'.1 11 17 = t'.1 0 0 ∧ I_hg 0 22 t' ∧ I_se 0 62 t' ∧ I_tape t' ∧ I_fault t' ∧ K356 σ t' := fun hp => by
    refine wp_some.mpr ?_
    unfold F12_seasons F12_starts F12_starts_b17
    have ag : ∀ k j, k ≠ 0 → k ≠ 11 → (sI (sI (sI (sI σ 11 17 (nI 5)) 0 1 (0 : Int32)) 0 0 (0 : Int32)) 0 0 (nI 5)).1 k j = σ.1 k j := fun k j h0 h11 => by rw [rI_k h0, rI_k h0, rI_k h0, rI_k h11]
    have fin2 : wp (some (-nI 1, sI (sI (sI (sI σ 11 17 (nI 5)) 0 1 (0 : Int32)) 0 0 (0 : Int32)) 0 0 (nI 5))) fun r' t' => -nI 1 = r' ∧ t'.1 11 17 = t'.1 0 0 ∧ I_hg 0 22 t' ∧ I_se 0 62 t' ∧ I_tape t' ∧ I_fault t' ∧ K356 σ t' := by
      refine wp_some.mpr ⟨rfl, by try simp (disch := first | omega | assumption) only [lt_e, bn_s, ck_t, nk0, nk1, nk_b, bI_t, bI_f, L_0, L_1, L_2, L_3, L_4, L_5, L_6, L_7, L_8, L_9, L_10, L_11, L_12, L_15, L_20, L_25, L_30, L_45, L_60, L_65, L_69, L_74, L_79, L_84, L_85, L_86, L_99, L_100, L_255, L_300, L_356, L_900, L_1424, L_1425, L_1489, L_1510, L_9999, L_10000, nI_add, nI_mul, u_lt_t, u_lt_f, u_le_t, u_le_f, u_eq_t, u_eq_f, u_mlt, u_ltm, u_eqm, u_meq, u_mle, u_b0, u_b1, u_ix, u_cl, u_sub, u_suc, u_z0, u_0m, cI_0, cI_s, rI_e, rI_k, rI_j, rI_l, rL_e, rL_k, rL_j, rL_i, told11, none11, refuse12, no11q, no12q, yes11q, if_true, if_false, ite_true, ite_false, ne_eq, not_true_eq_false, not_false_eq_true, Classical.not_not, Bool.not_eq_true, Bool.not_eq_false, reduceCtorEq, Nat.add_zero, Nat.zero_add, Nat.mul_zero, and_self, and_true, true_and, Bool.true_eq_false, Bool.false_eq_true, eq_self], hh.mv (fun j => ag _ _ (by omega) (by omega)) (fun k j _ _ => ag _ _ (by omega) (by omega)), I_se_mv hse (fun r j _ => ag _ _ (by omega) (by omega)) (fun j _ _ => ag _ _ (by omega) (by omega)), ⟨⟨m, hm, by rw [ag _ _ (by omega) (by omega)]; exact h1, by try simp (disch := first | omega | assumption) only [lt_e, bn_s, ck_t, nk0, nk1, nk_b, bI_t, bI_f, L_0, L_1, L_2, L_3, L_4, L_5, L_6, L_7, L_8, L_9, L_10, L_11, L_12, L_15, L_20, L_25, L_30, L_45, L_60, L_65, L_69, L_74, L_79, L_84, L_85, L_86, L_99, L_100, L_255, L_300, L_356, L_900, L_1424, L_1425, L_1489, L_1510, L_9999, L_10000, nI_add, nI_mul, u_lt_t, u_lt_f, u_le_t, u_le_f, u_eq_t, u_eq_f, u_mlt, u_ltm, u_eqm, u_meq, u_mle, u_b0, u_b1, u_ix, u_cl, u_sub, u_suc, u_z0, u_0m, cI_0, cI_s, rI_e, rI_k, rI_j, rI_l, rL_e, rL_k, rL_j, rL_i, told11, none11, refuse12, no11q, no12q, yes11q, if_true, if_false, ite_true, ite_false, ne_eq, not_true_eq_false, not_false_eq_true, Classical.not_not, Bool.not_eq_true, Bool.not_eq_false, reduceCtorEq, Nat.add_zero, Nat.zero_add, Nat.mul_zero, and_self, and_true, true_and, Bool.true_eq_false, Bool.false_eq_true, eq_self]; exact h8⟩, fun j hj => by rw [ag _ _ (by omega) (by omega), ag _ _ (by omega) (by omega)]; exact h4 j hj⟩, ⟨by try simp (disch := first | omega | assumption) only [lt_e, bn_s, ck_t, nk0, nk1, nk_b, bI_t, bI_f, L_0, L_1, L_2, L_3, L_4, L_5, L_6, L_7, L_8, L_9, L_10, L_11, L_12, L_15, L_20, L_25, L_30, L_45, L_60, L_65, L_69, L_74, L_79, L_84, L_85, L_86, L_99, L_100, L_255, L_300, L_356, L_900, L_1424, L_1425, L_1489, L_1510, L_9999, L_10000, nI_add, nI_mul, u_lt_t, u_lt_f, u_le_t, u_le_f, u_eq_t, u_eq_f, u_mlt, u_ltm, u_eqm, u_meq, u_mle, u_b0, u_b1, u_ix, u_cl, u_sub, u_suc, u_z0, u_0m, cI_0, cI_s, rI_e, rI_k, rI_j, rI_l, rL_e, rL_k, rL_j, rL_i, told11, none11, refuse12, no11q, no12q, yes11q, if_true, if_false, ite_true, ite_false, ne_eq, not_true_eq_false, not_false_eq_true, Classical.not_not, Bool.not_eq_true, Bool.not_eq_false, reduceCtorEq, Nat.add_zero, Nat.zero_add, Nat.mul_zero, and_self, and_true, true_and, Bool.true_eq_false, Bool.false_eq_true, eq_self]; exact hf.1, by try simp (disch := first | omega | assumption) only [lt_e, bn_s, ck_t, nk0, nk1, nk_b, bI_t, bI_f, L_0, L_1, L_2, L_3, L_4, L_5, L_6, L_7, L_8, L_9, L_10, L_11, L_12, L_15, L_20, L_25, L_30, L_45, L_60, L_65, L_69, L_74, L_79, L_84, L_85, L_86, L_99, L_100, L_255, L_300, L_356, L_900, L_1424, L_1425, L_1489, L_1510, L_9999, L_10000, nI_add, nI_mul, u_lt_t, u_lt_f, u_le_t, u_le_f, u_eq_t, u_eq_f, u_mlt, u_ltm, u_eqm, u_meq, u_mle, u_b0, u_b1, u_ix, u_cl, u_sub, u_suc, u_z0, u_0m, cI_0, cI_s, rI_e, rI_k, rI_j, rI_l, rL_e, rL_k, rL_j, rL_i, told11, none11, refuse12, no11q, no12q, yes11q, if_true, if_false, ite_true, ite_false, ne_eq, not_true_eq_false, not_false_eq_true, Classical.not_not, Bool.not_eq_true, Bool.not_eq_false, reduceCtorEq, Nat.add_zero, Nat.zero_add, Nat.mul_zero, and_self, and_true, true_and, Bool.true_eq_false, Bool.false_eq_true, eq_self]; exact hf.2⟩, fun j _ _ => ag _ _ (by omega) (by omega)⟩
    rw [lt_e, lt_e]
    by_cases q0 : p < 0
    · rw [if_pos q0, no12q, bn_s, show nkB (nI 0) = true by decide, ck_t, bn_s, if_neg (by exact fun z => z rfl)]
      exact fin2
    rw [if_neg q0]
    have e8 : (sI (sI (sI σ 11 17 (nI 5)) 0 1 (0 : Int32)) 0 0 (0 : Int32)).1 0 8 = nI m := by rw [rI_j (by omega), rI_j (by omega), rI_k (by omega), h8]
    rw [e8]
    by_cases q1 : nI m < p
    · rw [if_pos q1, no12q, bn_s, show nkB (nI 0) = true by decide, ck_t, bn_s, if_neg (by exact fun z => z rfl)]
      exact fin2
    have q2 : ¬ p ≤ (300 : Int32) := by
      rcases hp with h | h | h
      · exact absurd h q0
      · exact absurd h q1
      · exact h
    rw [if_neg q1, if_neg q2, no12q, bn_s, show nkB (nI 0) = true by decide, ck_t, bn_s, if_neg (by exact fun z => z rfl)]
    exact fin2
  rw [h1]
  by_cases q0 : p < 0
  · rw [if_pos q0, none11, bn_s]
    exact five (Or.inl q0)
  rw [if_neg q0]
  by_cases q1 : nI m < p
  · rw [if_pos q1, none11, bn_s]
    exact five (Or.inr (Or.inl q1))
  rw [if_neg q1]
  by_cases q2 : p ≤ (300 : Int32)
  rotate_left
  · rw [if_neg q2, none11, bn_s]
    exact five (Or.inr (Or.inr q2))
  obtain ⟨e, he', rfl⟩ := nI_of q0
  have hem : e ≤ m := Nat.le_of_not_lt fun z => q1 (nI_lt z he')
  have he3 : e ≤ 300 := Nat.le_of_not_lt fun z => nI_ge (a := 300) z he' q2
  rw [if_pos q2]
  have ht : TT (tT σ) e := ⟨by omega, fun j hj => (tT_ok hby (by omega)).1⟩
  refine wp_bn.mpr (wp_mono (open_c hN ht h1 hm hem (fun j hj => (tT_ok hby (by omega)).2.1)) ?_)
  rintro _ t0 ⟨tc0, k20⟩
  generalize hq : aSq (tT σ) e (e + 2) 0 (tS (tT σ) e 0, 0, 0) 0 (D00 σ) = q
  refine wp_bn.mpr (wp_mono (wp_fr (cSeasT hN ht he3 (D00 σ) tc0 q hq) (fr_F6_parse 69 N t0)) ?_)
  rintro _ t2 ⟨⟨tc2, sq⟩, hF⟩
  obtain ⟨t3, e3, a15, a16, a1, ak⟩ := closeT tc2
  rw [e3, bn_s]
  have alt := tc2.2.2.2.2.2
  have ak' : ∀ k j, k ≠ 11 → k ≠ 20 → (k < 69 ∨ 75 < k) → t3.1 k j = σ.1 k j := fun k j h1 h2 h3 => by
    rw [ak k j h1 h2, ← k20.1 k j h2]
    refine hF.1 k j fun ⟨w, hw, e1, _⟩ => ?_
    simp only [W6_parse, List.mem_cons, List.not_mem_nil, or_false] at hw
    rcases hw with rfl | rfl | rfl | rfl | rfl | rfl | rfl | rfl | rfl | rfl | rfl | rfl | rfl | rfl | rfl | rfl <;> (dsimp only at e1; omega)
  -- the model from a state of the class
  have mod : ∀ (s : Ms), (∀ k j, k ≠ 11 → k ≠ 20 → (k < 62 ∨ 75 < k) → s.1 k j = σ.1 k j) → s.1 20 1 = nI 0 → s.1 11 15 = t3.1 11 15 → s.1 11 16 = t3.1 11 16 → s.1 11 17 = (if q.1.2.1 = 0 then nI 0 else nI 10) → (q.1.2.1 = 0 → s.1 62 0 = nI 1 ∧ ∃ E f, E ≤ 60 ∧ q.2.1 ≤ 30 ∧ s.1 62 2 = nI E ∧ s.1 62 1 = nI q.2.1 ∧ Seg (s.1 63) (s.1 64) (s.1 65) (s.1 66) (s.1 67) q.2.2 f 3 0 0 E q.2.1) → (q.1.2.1 ≠ 0 → ∀ k j, k ≠ 11 → k ≠ 20 → (k < 69 ∨ 75 < k) → s.1 k j = σ.1 k j) → wp (F12_seasons N (nI e) s) fun r' t' => (if q.1.2.1 = 0 then nI q.2.1 else -nI 1) = r' ∧ t'.1 11 17 = t'.1 0 0 ∧ I_hg 0 22 t' ∧ I_se 0 62 t' ∧ I_tape t' ∧ I_fault t' ∧ K356 σ t' := fun s sk s1 s15 s16 s17 sy sn => by
    have hD : D00 s = D00 σ := by
      funext a b
      exact sk _ _ (by omega) (by omega) (by omega)
    refine wp_mono (mSeasT (N := N) (T := tT σ) (m := m) (e := e) hN ht he3 (by rw [sk _ _ (by omega) (by omega) (by omega)]; exact h8) hm hem (fun j hj => by rw [sk _ _ (by omega) (by omega) (by omega), ← h4 j (by omega)]; exact (tT_ok hby (by omega)).2.2) q (by rw [hD]; exact hq)) ?_
    rintro r t' ⟨rfl, x0, x10, x11, x8, xk, x356, x84, xy, xn⟩
    have tk : ∀ k j, k ≠ 0 → k ≠ 5 → t'.1 k j = s.1 k j := xk
    have tape : I_tape t' := ⟨⟨0, by omega, by rw [tk _ _ (by omega) (by omega)]; exact s1, x8⟩, fun j hj => by rw [tk _ _ (by omega) (by omega), tk _ _ (by omega) (by omega), sk 21 j (by omega) (by omega) (by omega), sk 4 j (by omega) (by omega) (by omega)]; exact h4 j hj⟩
    refine ⟨rfl, by rw [tk _ _ (by omega) (by omega), s17, x0], ?_, ?_, tape, ⟨by rw [tk _ _ (by omega) (by omega), s15, x10, a15], by rw [tk _ _ (by omega) (by omega), s16, x11, a16]⟩, fun j h1' h2' => by rw [x356 j h1' h2', sk _ _ (by omega) (by omega) (by omega)]⟩
    · exact I_hg_mv hh (fun r j hr => by rw [tk _ _ (by omega) (by unfold Phg at hr; omega), sk _ _ (by omega) (by omega) (by unfold Phg at hr; omega)]) (fun j hj => by rw [Nat.zero_add, x84 j (by omega), sk _ _ (by omega) (by omega) (by omega)])
    · by_cases z : q.1.2.1 = 0
      · obtain ⟨c0, E, f, c1, c2, c3, c4, c5⟩ := sy z
        obtain ⟨y1, y2, y3⟩ := xy z
        have tks : ∀ k, k ≠ 0 → k ≠ 5 → t'.1 k = s.1 k := fun k h0 h5 => funext fun j => tk k j h0 h5
        refine Or.inr ⟨by rw [tk _ _ (by omega) (by omega), c0], by rw [Nat.mul_zero, Nat.zero_add, y1], E, q.2.1, f, c1, c2, by rw [tk _ _ (by omega) (by omega), c3], by rw [tk _ _ (by omega) (by omega), c4], by rw [Nat.mul_zero, Nat.zero_add, y2], ?_⟩
        rw [tks (62 + 1) (by omega) (by omega), tks (62 + 2) (by omega) (by omega), tks (62 + 3) (by omega) (by omega), tks (62 + 4) (by omega) (by omega), tks (62 + 5) (by omega) (by omega)]
        exact Seg_at c5 (fun j _ _ => ⟨rfl, rfl, rfl, rfl, rfl⟩) (fun t o h1 h2 h3 => by
          show t'.1 5 (356 * 0 + (86 + 9 * t + o)) = _
          rw [Nat.mul_zero, Nat.zero_add]
          exact y3 t o h2 h3)
      · exact I_se_mv hse (fun r j hr => by rw [tk _ _ (by omega) (by omega), sn z _ _ (by omega) (by omega) (by unfold Pse at hr; omega)]) (fun j _ hj => by rw [Nat.mul_zero, Nat.zero_add, xn z j (by omega), sk _ _ (by omega) (by omega) (by omega)])
  by_cases z : q.1.2.1 = 0
  · obtain ⟨s69, E, f, sb, sg⟩ := sq z
    have e69 : t3.1 69 0 = nI 1 := (ak _ _ (by omega) (by omega)).trans s69
    rw [decide_eq_true z, if_pos (by decide), copy5_ok (by omega) (by omega) (by rw [e69]; rfl), bn_s, told11, bn_s]
    refine wp_some.mpr ?_
    have cin : ∀ r j, Pse r j → (cpH 69 62 Pse t3).1 (62 + r) j = t3.1 (69 + r) j := fun r j hp => H_in (by unfold Pse at hp; omega) hp
    have cout : ∀ k j, (k < 62 ∨ 67 < k) → (cpH 69 62 Pse t3).1 k j = t3.1 k j := fun k j h => H_out (by omega)
    have c0 : ∀ j, j < 3 → (cpH 69 62 Pse t3).1 62 j = t3.1 69 j := fun j hj => cin 0 j (Or.inl ⟨rfl, hj⟩)
    have er : (cpH 69 62 Pse t3).1 62 1 = nI q.2.1 := (c0 1 (by omega)).trans ((ak _ _ (by omega) (by omega)).trans sb.1)
    rw [er]
    have md := mod (sI (cpH 69 62 Pse t3) 11 17 (nI 0)) (fun k j h11 h20 hk => by rw [rI_k h11, cout _ _ (by omega)]; exact ak' k j h11 h20 (by omega)) (by rw [rI_k (by omega), cout _ _ (by omega)]; exact a1) (by rw [rI_j (by omega), cout _ _ (by omega)]) (by rw [rI_j (by omega), cout _ _ (by omega)]) (by rw [rI_e rfl rfl, if_pos z]) (fun _ => ⟨by rw [rI_k (by omega), c0 0 (by omega)]; exact e69, E, f, sb.2.2.2.2.1, sb.2.2.2.1, by rw [rI_k (by omega), c0 2 (by omega), ak _ _ (by omega) (by omega)]; exact sb.2.1, by rw [rI_k (by omega)]; exact er, Seg_at sg (fun j _ hj => by
      have h60 : j < 60 := by
        have := sb.2.2.2.2.1
        omega
      have hin : ∀ r, 1 ≤ r → r ≤ 5 → (sI (cpH 69 62 Pse t3) 11 17 (nI 0)).1 (62 + r) j = t2.1 (69 + r) j := fun r h1 h2 => by
        rw [rI_k (by omega), cin r j (Or.inr ⟨h1, h2, h60⟩), ak _ _ (by omega) (by omega)]
      exact ⟨hin 1 (by omega) (by omega), hin 2 (by omega) (by omega), hin 3 (by omega) (by omega), hin 4 (by omega) (by omega), hin 5 (by omega) (by omega)⟩) (fun _ _ _ _ _ => rfl)⟩) (fun y => absurd z y)
    rw [if_pos z] at md
    exact md
  · rw [decide_eq_false z, if_neg (by exact fun y => y rfl), none11, bn_s]
    refine wp_some.mpr ?_
    have md := mod (sI t3 11 17 (10 : Int32)) (fun k j h11 h20 hk => by rw [rI_k h11]; exact ak' k j h11 h20 (by omega)) (by rw [rI_k (by omega)]; exact a1) (by rw [rI_j (by omega)]) (by rw [rI_j (by omega)]) (by rw [rI_e rfl rfl, if_neg z]; rfl) (fun y => absurd y z) (fun _ k j h11 h20 hk => by rw [rI_k h11]; exact ak' k j h11 h20 hk)
    rw [if_neg z] at md
    exact md
