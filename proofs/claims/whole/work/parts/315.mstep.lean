/-- a step read by the model -/
def MQs (T : Nat → Nat) (e : Nat) (q : TX × Nat × DG) (σ t : Ms) : Prop := TMx T e q.1 t ∧ (q.1.2.1 = 0 → MDx q.2.2 t ∧ t.1 0 22 = nI q.2.1) ∧ KSt σ t
theorem mOneT {N e : Nat} {T : Nat → Nat} (hN : 1000 < N) (ht : TT T e) : ∀ k w x n D σ Dp, msr e x ≤ k + 1 → TMx T e x σ → x.2.1 = 0 → MDx D σ → σ.1 0 22 = nI n → n ≤ 30 → w ≤ 3 → 4 ≤ w + Dp → wp (F12_readStep N (Dp + 1) (nI w) σ) fun _ t => MQs T e (aOne (aSq T e k (w + 1)) T e w x n D) σ t := by
  intro k
  induction k using Nat.strongRecOn with
  | ind k ih =>
    intro w x n D σ Dp hm tm h0 hd h22 hn hw hDp
    have he := ht.1
    have hxe := tm.2.2.1
    have hwl : kdW T e x ≤ 8 := (wich_le (T := T) (e := e) (s := x.1) (i := 10) 8 0).2
    show wp (F12_readStepB N (F12_readStep N Dp) (nI w) σ) _
    unfold F12_readStepB F12_readStep_b16
    rw [mstep_w tm, bn_s]
    -- the end of the head
    have b82 : ∀ t0, TMx T e (aHd T e w n (kdW T e x) x) t0 → K00 σ t0 → wp (F12_readStep_b82 N (F12_readStep N Dp) (nI w) (wI 8 (kdW T e x)) (bI (isBk (kdW T e x))) t0) fun _ t => MQs T e (aOne (aSq T e k (w + 1)) T e w x n D) σ t := fun t0 g0 k0 => by
      unfold F12_readStep_b82
      by_cases qh : (aHd T e w n (kdW T e x) x).2.1 ≠ 0
      · have e1 : aOne (aSq T e k (w + 1)) T e w x n D = (aHd T e w n (kdW T e x) x, n, D) := by
          unfold aOne
          rw [if_pos qh]
        rw [if_neg (fun z => qh (g0.f.1.mp z)), e1]
        exact wp_some.mpr ⟨g0, fun z => absurd z qh, KSt.k k0⟩
      have qh' := Classical.not_not.mp qh
      obtain ⟨z0, z8, zn, zw, ze⟩ := aHd_z qh'
      have hk8 : kdW T e x < 8 := by omega
      have s22 : t0.1 0 22 = nI n := k0.2.1.trans h22
      rw [if_pos (g0.f.1.mpr qh'), s22, show (1510 : Int32) = nI 1510 from rfl, show (9 : Int32) = nI 9 from rfl, nI_mul, nI_add, lt_e, lt_e, L_1, nI_add]
      have g1 : TMx T e (aHd T e w n (kdW T e x) x) (sI t0 0 22 (nI (n + 1))) := by
        obtain ⟨m1, m2, m3, m4, m5, m6⟩ := g0
        exact ⟨m1.s (by omega), ⟨by rw [rI_j (by omega)]; exact m2.1, by rw [rI_j (by omega)]; exact m2.2.1, by rw [rI_j (by omega)]; exact m2.2.2.1, fun z => by rw [rI_j (by omega)]; exact m2.2.2.2.1 z, fun z => by rw [rI_j (by omega)]; exact m2.2.2.2.2.1 z, m2.2.2.2.2.2⟩, m3, by rw [rI_j (by omega)]; exact m4, fun z => by rw [rI_j (by omega)]; exact m5 z, m6⟩
      have ks1 : KSt σ (sI t0 0 22 (nI (n + 1))) := (KSt.k k0).tr ⟨fun a j h1 _ => rI_k h1, fun j _ => rI_k (by omega), fun j hj => rI_j (by omega)⟩
      have d1 : MDx D (sI t0 0 22 (nI (n + 1))) := fun t o a b => (rI_k (by omega)).trans ((hd.k k0) t o a b)
      have e22 : (sI t0 0 22 (nI (n + 1))).1 0 22 = nI (n + 1) := rI_e rfl rfl
      generalize sI t0 0 22 (nI (n + 1)) = t1 at g1 ks1 d1 e22
      refine wp_bn.mpr (wp_mono (adv_t hN ht g1 qh') ?_)
      rintro _ t2 ⟨g2, k2⟩
      have el : wI 8 (kdW T e x) = nI (kdW T e x) := if_neg z8
      rw [u_ix (show 1510 + 9 * n < 1780 by omega) (by omega), ck_t, u_cl (show 1510 + 9 * n < 2147483648 by omega), lt_e, el]
      have zf : (tStp T e (aHd T e w n (kdW T e x) x)).2.1 = 0 := by
        unfold tStp
        rw [if_pos qh']
        exact qh'
      refine wp_bn.mpr (wp_mono (mrest_c (k := kdW T e x) (x := tStp T e (aHd T e w n (kdW T e x) x)) (D := sD D n 0 (nI (kdW T e x))) hN ht g2.s5 zf ((d1.k k2).s zn (show 0 < 9 by omega)) zn hk8 sD_e) ?_)
      rintro _ t3 ⟨g3, d3, ks3, s3⟩
      have g3' : TMx T e (aR T e w x n D).1 t3 := g3
      have d3' : (aR T e w x n D).1.2.1 = 0 → MDx (aR T e w x n D).2 t3 := d3
      have ks3' : KSt σ t3 := ((ks1.tr (KSt.k k2)).tr (KSt.s (by omega))).tr ks3
      have s3' : t3.1 0 22 = nI (n + 1) := s3.trans ((rI_k (by omega)).trans (k2.2.1.trans e22))
      refine close_m hN ht g3' ?_
      intro t4 g4 k4
      have g4' : TMx T e (clsT T e (aR T e w x n D).1) t4 := g4
      have d4 : (clsT T e (aR T e w x n D).1).2.1 = 0 → MDx (aR T e w x n D).2 t4 := fun z => (d3' (clsT_z z)).k k4
      have ks4 : KSt σ t4 := ks3'.tr (KSt.k k4)
      have s4 : t4.1 0 22 = nI (n + 1) := k4.2.1.trans s3'
      have l2 := aR_le (T := T) (w := w) (n := n) (D := D) hxe
      have l3 := clsT_le (T := T) l2.2
      have c8 := cell_ck (v := 1510 + 9 * n) (o := 8) (by omega)
      have b191 : ∀ (y : TX) (m : Nat) (G : DG) (t : Ms), TMx T e y t → (y.2.1 = 0 → MDx G t ∧ t.1 0 22 = nI m) → KSt σ t → wp (F12_readStep_b191 N (F12_readStep N Dp) (nI (1510 + 9 * n)) t) fun _ t' => MQs T e (y, m, sD G n 8 (nI m)) σ t' := fun y m G t gy dy ky => by
        unfold F12_readStep_b191
        rw [show (8 : Int32) = nI 8 from rfl, c8.1, c8.2, ck_t, lt_e]
        refine wp_some.mpr ⟨gy.s5, fun z => ⟨?_, (rI_k (by omega)).trans (dy z).2⟩, ky.tr (KSt.s (by omega))⟩
        rw [(dy z).2]
        exact (dy z).1.s zn (by omega)
      cases hb : isBk (kdW T e x)
      · have e1 : aOne (aSq T e k (w + 1)) T e w x n D = (clsT T e (aR T e w x n D).1, n + 1, sD (aR T e w x n D).2 n 8 (nI (n + 1))) := by
          unfold aOne
          rw [if_neg qh, hb, if_neg (by decide)]
        rw [e1]
        unfold F12_readStep_b141
        obtain ⟨N', rfl⟩ : ∃ N', N = N' + 1 := ⟨N - 1, by omega⟩
        show wp (F12_readStep_b141B (N' + 1) _ (fx N' _) (nI w) (bI false) (nI (1510 + 9 * n)) t4) _
        unfold F12_readStep_b141B F12_readStep_b169
        rw [if_pos (by rfl), if_pos (by rfl)]
        exact b191 _ _ _ t4 g4' (fun z => ⟨d4 z, s4⟩) ks4
      · have w3 := zw hb
        have e1 : aOne (aSq T e k (w + 1)) T e w x n D = (aEnd T e (aSq T e k (w + 1) (clsT T e (aR T e w x n D).1) (n + 1) (aR T e w x n D).2).1, (aSq T e k (w + 1) (clsT T e (aR T e w x n D).1) (n + 1) (aR T e w x n D).2).2.1, sD (aSq T e k (w + 1) (clsT T e (aR T e w x n D).1) (n + 1) (aR T e w x n D).2).2.2 n 8 (nI (aSq T e k (w + 1) (clsT T e (aR T e w x n D).1) (n + 1) (aR T e w x n D).2).2.1)) := by
          unfold aOne
          rw [if_neg qh, hb, if_pos (by rfl)]
        rw [e1]
        have hmb := msr_body (T := T) (w := w) (n := n) (D := D) hxe qh'
        generalize hQ : aSq T e k (w + 1) (clsT T e (aR T e w x n D).1) (n + 1) (aR T e w x n D).2 = Q
        unfold F12_readStep_b141
        refine wp_fx (fun a s => ∃ k' y m G t, s = (nI w, bI true, nI (1510 + 9 * n), t) ∧ aSq T e k' (w + 1) y m G = Q ∧ msr e y ≤ k' ∧ k' ≤ k ∧ TMx T e y t ∧ (y.2.1 = 0 → MDx G t ∧ t.1 0 22 = nI m) ∧ m ≤ 30 ∧ KSt σ t ∧ a = msr e y) ?_ (n := msr e (clsT T e (aR T e w x n D).1)) (by unfold msr; split <;> omega) ⟨k, _, _, _, t4, rfl, hQ, by omega, Nat.le_refl _, g4', fun z => ⟨d4 z, s4⟩, zn, ks4, rfl⟩
        rintro a co _ ⟨k', y, m, G, t, rfl, hy, hmy, hkk, gy, dy, hm30, ky, ha⟩ hco
        dsimp only
        unfold F12_readStep_b141B
        rw [if_neg (show ¬ bI true = 0 by decide)]
        have b169 : stpB T e (w + 1) y = true → wp (F12_readStep_b169 N (F12_readStep N Dp) (bI true) (nI (1510 + 9 * n)) t) fun _ t' => MQs T e (aEnd T e Q.1, Q.2.1, sD Q.2.2 n 8 (nI Q.2.1)) σ t' := fun hs => by
          rw [aSq_s hs] at hy
          rw [← hy]
          dsimp only
          unfold F12_readStep_b169
          rw [if_neg (show ¬ bI true = 0 by decide), isEnd_m gy.2.1, bn_s]
          refine wp_bn.mpr (wp_mono (must_t hN ht gy) ?_)
          rintro _ t5 ⟨g5, k5⟩
          refine close_m hN ht g5 ?_
          intro t6 g6 k6
          have g6' : TMx T e (aEnd T e y) t6 := g6
          refine b191 _ _ _ t6 g6' (fun z => ?_) (ky.tr ((KSt.k k5).tr (KSt.k k6)))
          have zy : y.2.1 = 0 := Classical.byContradiction fun q => by
            rw [aEnd_f q] at z
            exact q z
          exact ⟨((dy zy).1.k k5).k k6, k6.2.1.trans (k5.2.1.trans (dy zy).2)⟩
        by_cases qy : y.2.1 = 0
        rotate_left
        · rw [if_pos (gy.f.2.2.mpr qy)]
          exact b169 (stpB_f qy)
        rw [if_neg (fun z => gy.f.2.2.mp z qy), isEnd_m gy.2.1, bn_s]
        by_cases q9 : isWd T e y.1 9 = true
        · rw [q9, if_pos (by decide)]
          exact b169 (by
            unfold stpB
            rw [if_neg (by omega), q9, Bool.or_true])
        have q9f : isWd T e y.1 9 = false := by
          cases h : isWd T e y.1 9
          · rfl
          · exact absurd h q9
        rw [q9f, if_neg (by exact fun z => z rfl), L_1, nI_add]
        have hmp : 1 ≤ msr e y := by
          unfold msr
          rw [if_pos qy]
          have := gy.2.2.1
          omega
        obtain ⟨k2, rfl⟩ : ∃ k2, k' = k2 + 1 := ⟨k' - 1, by omega⟩
        obtain ⟨Dq, rfl⟩ : ∃ Dq, Dp = Dq + 1 := ⟨Dp - 1, by omega⟩
        have hns : ¬ stpB T e (w + 1) y = true := fun z => by
          unfold stpB at z
          rw [if_neg (by omega), decide_eq_false (fun q => q qy), Bool.false_or] at z
          exact q9 z
        rw [aSq_g hns] at hy
        refine wp_bn.mpr (wp_mono (ih k2 (by omega) (w + 1) y m G t Dq hmy gy qy (dy qy).1 (dy qy).2 hm30 (by omega) (by omega)) ?_)
        rintro _ t5 ⟨g5, d5, ks5⟩
        have hlt := msr_one (T := T) (w := w + 1) (n := m) (k := k2) (D := G) gy.2.2.1 qy
        have h30 : (aOne (aSq T e k2 (w + 1 + 1)) T e (w + 1) y m G).2.1 ≤ 30 := by
          unfold aOne
          by_cases q1 : (aHd T e (w + 1) m (kdW T e y) y).2.1 ≠ 0
          · rw [if_pos q1]
            exact hm30
          rw [if_neg q1]
          have hm' := (aHd_z (Classical.not_not.mp q1)).2.2.1
          split
          · exact (aSq_D (T := T) (e := e) k2 (w + 1 + 1) (clsT T e (aR T e (w + 1) y m G).1) (m + 1) (aR T e (w + 1) y m G).2 hm').2.1
          · exact hm'
        exact hco (msr e (aOne (aSq T e k2 (w + 1 + 1)) T e (w + 1) y m G).1) _ (by omega) ⟨k2, _, _, _, t5, rfl, hy, by omega, by omega, g5, d5, h30, ky.tr ks5, rfl⟩
    have k1f : ∀ y : TX, y.1 = x.1 → y.2.1 = 0 → kdW T e x ≠ 8 → kdS T e y.1 = 1 := fun y hy _ h8 => by
      rw [hy]
      exact Classical.byContradiction fun z => h8 (kdW_0 z)
    have b56 : ∀ (y : TX) (t0 : Ms), TMx T e y t0 → K00 σ t0 → y.1 = x.1 → (y.2.1 = 0 → kdW T e x ≠ 8) → aHd T e w n (kdW T e x) x = (if isBk (kdW T e x) = true ∧ ¬ w < 3 then tRef T e 7 y else y) → wp (F12_readStep_b56 N (F12_readStep N Dp) (nI w) (wI 8 (kdW T e x)) (bI (isBk (kdW T e x))) t0) fun _ t => MQs T e (aOne (aSq T e k (w + 1)) T e w x n D) σ t := fun y t0 gy ky hy1 hy8 eh => by
      unfold F12_readStep_b56
      by_cases qy : y.2.1 = 0
      rotate_left
      · rw [if_pos (gy.f.2.2.mpr qy)]
        rw [tRef_f qy, ite_self] at eh
        exact b82 t0 (by rw [eh]; exact gy) ky
      rw [if_neg (fun z => gy.f.2.2.mp z qy)]
      cases hb : isBk (kdW T e x)
      · rw [hb, if_neg (fun z => by cases z.1)] at eh
        rw [if_pos (by rfl)]
        have b := b82 t0 (by rw [eh]; exact gy) ky
        rw [hb] at b
        exact b
      · rw [if_neg (by decide)]
        rw [hb] at eh b82
        by_cases q3 : w < 3
        · rw [if_neg (fun z => z.2 q3)] at eh
          rw [if_pos (by exact fun z => by have := (nI_eq (b := 3) (by omega) (by omega)).mp z; omega)]
          exact b82 t0 (by rw [eh]; exact gy) ky
        · have w3 : w = 3 := by omega
          rw [if_pos ⟨rfl, q3⟩] at eh
          rw [if_neg (by exact fun z => z (by rw [w3]; rfl))]
          refine wp_bn.mpr (wp_mono (fail_t gy (w := 7) (by omega) (by omega) (fun z => by have := k1f y hy1 qy (hy8 qy); omega)) ?_)
          rintro _ t ⟨g1, k1⟩
          exact b82 t (by rw [eh]; exact g1) (ky.tr k1)
    have b30 : ∀ (y : TX) (t0 : Ms), TMx T e y t0 → K00 σ t0 → y = (if kdW T e x = 8 then tRef T e 2 x else x) → wp (F12_readStep_b30 N (F12_readStep N Dp) (nI w) (wI 8 (kdW T e x)) (bI (isBk (kdW T e x))) t0) fun _ t => MQs T e (aOne (aSq T e k (w + 1)) T e w x n D) σ t := fun y t0 gy ky ey => by
      have hy1 : y.1 = x.1 := by
        rw [ey]
        split
        · exact tRef_1
        · rfl
      have hy8 : y.2.1 = 0 → kdW T e x ≠ 8 := fun z h8 => by
        rw [ey, if_pos h8] at z
        exact tRef_n x (by omega) z
      have eh : ∀ y2 : TX, y2 = (if n < 30 then y else tRef T e 6 y) → aHd T e w n (kdW T e x) x = (if isBk (kdW T e x) = true ∧ ¬ w < 3 then tRef T e 7 y2 else y2) := fun y2 h2 => by
        rw [h2, ey]
        rfl
      unfold F12_readStep_b30
      by_cases qy : y.2.1 = 0
      rotate_left
      · rw [if_pos (gy.f.2.2.mpr qy)]
        exact b56 y t0 gy ky hy1 hy8 (eh y (by rw [tRef_f qy, ite_self]))
      rw [if_neg (fun z => gy.f.2.2.mp z qy), ky.2.1, h22]
      by_cases q : n < 30
      · rw [if_pos (by exact fun z => by have := (nI_eq (b := 30) (by omega) (by omega)).mp z; omega)]
        exact b56 y t0 gy ky hy1 hy8 (eh y (if_pos q).symm)
      · have n30 : n = 30 := by omega
        rw [if_neg (by exact fun z => z (by rw [n30]; rfl))]
        refine wp_bn.mpr (wp_mono (fail_t gy (w := 6) (by omega) (by omega) (fun z => by have := k1f y hy1 qy (hy8 qy); omega)) ?_)
        rintro _ t ⟨g1, k1⟩
        exact b56 _ t g1 (ky.tr k1) (by rw [tRef_1]; exact hy1) (fun z => absurd z (tRef_n y (by omega))) (eh _ (if_neg q).symm)
    have b21 : wp (F12_readStep_b21 N (F12_readStep N Dp) (nI w) (wI 8 (kdW T e x)) (bI (isBk (kdW T e x))) σ) fun _ t => MQs T e (aOne (aSq T e k (w + 1)) T e w x n D) σ t := by
      unfold F12_readStep_b21
      by_cases q8 : kdW T e x = 8
      · rw [if_pos q8] at b30
        rw [show wI 8 (kdW T e x) = -nI 1 from if_pos q8] at b30 ⊢
        rw [if_neg (by decide)]
        refine wp_bn.mpr (wp_mono (amiss_t tm) ?_)
        rintro _ t ⟨g1, k1⟩
        exact b30 _ t g1 k1 rfl
      · rw [if_neg q8] at b30
        rw [show wI 8 (kdW T e x) = nI (kdW T e x) from if_neg q8] at b30 ⊢
        rw [if_pos (nI_pos' (by omega))]
        exact b30 _ σ tm (K00.rf σ) rfl
    have hc : kdW T e x = 5 ∨ kdW T e x = 6 ∨ (kdW T e x ≠ 5 ∧ kdW T e x ≠ 6) := by omega
    rcases hc with h5 | h6 | ⟨h5, h6⟩
    · rw [h5] at b21 ⊢
      rw [if_pos (show wI 8 5 = (5 : Int32) from rfl)]
      exact b21
    · rw [h6] at b21 ⊢
      rw [if_neg (by decide), if_neg (by exact fun z => z rfl)]
      exact b21
    · have hb : isBk (kdW T e x) = false := by
        unfold isBk
        simp [h5, h6]
      rw [hb] at b21
      have n5 : wI 8 (kdW T e x) ≠ (5 : Int32) := fun z => by
        by_cases q8 : kdW T e x = 8
        · rw [show wI 8 (kdW T e x) = -nI 1 from if_pos q8] at z
          exact absurd z (by decide)
        · rw [show wI 8 (kdW T e x) = nI (kdW T e x) from if_neg q8] at z
          exact h5 ((nI_eq (b := 5) (by omega) (by omega)).mp z)
      have n6 : wI 8 (kdW T e x) ≠ (6 : Int32) := fun z => by
        by_cases q8 : kdW T e x = 8
        · rw [show wI 8 (kdW T e x) = -nI 1 from if_pos q8] at z
          exact absurd z (by decide)
        · rw [show wI 8 (kdW T e x) = nI (kdW T e x) from if_neg q8] at z
          exact h6 ((nI_eq (b := 6) (by omega) (by omega)).mp z)
      rw [if_neg n5, if_pos n6]
      exact b21
