def KSt (σ τ : Ms) : Prop := (∀ k j, k ≠ 0 → k ≠ 5 → τ.1 k j = σ.1 k j) ∧ (∀ j, j < 1510 → τ.1 5 j = σ.1 5 j) ∧ ∀ j, j < 9 → τ.1 0 j = σ.1 0 j
theorem KSt.rf (σ : Ms) : KSt σ σ := ⟨fun _ _ _ _ => rfl, fun _ _ => rfl, fun _ _ => rfl⟩
theorem KSt.tr {a b c : Ms} (h : KSt a b) (h' : KSt b c) : KSt a c := ⟨fun k j h1 h2 => (h'.1 k j h1 h2).trans (h.1 k j h1 h2), fun j hj => (h'.2.1 j hj).trans (h.2.1 j hj), fun j hj => (h'.2.2 j hj).trans (h.2.2 j hj)⟩
theorem KSt.k {σ τ : Ms} (k : K00 σ τ) : KSt σ τ := ⟨fun a j h1 _ => k.1 a j h1, fun j _ => k.1 5 j (by omega), k.2.2⟩
theorem KSt.s {σ : Ms} {j : Nat} {v : Int32} (h : 1510 ≤ j) : KSt σ (sI σ 5 j v) := ⟨fun k i _ h2 => rI_k h2, fun i hi => rI_j (by omega), fun i _ => rI_k (by omega)⟩
def MDx (D : DG) (τ : Ms) : Prop := ∀ t o, t < 30 → o < 9 → τ.1 5 (1510 + 9 * t + o) = D t o
theorem MDx.k {D : DG} {σ τ : Ms} (h : MDx D σ) (k : K00 σ τ) : MDx D τ := fun t o h1 h2 => (k.1 _ _ (by omega)).trans (h t o h1 h2)
theorem MDx.s {D : DG} {σ : Ms} {n o : Nat} {v : Int32} (h : MDx D σ) (hn : n < 30) (ho : o < 9) : MDx (sD D n o v) (sI σ 5 (1510 + 9 * n + o) v) := fun t i h1 h2 => by
  by_cases q : t = n ∧ i = o
  · rw [q.1, q.2, rI_e rfl rfl, sD_e]
  · rw [rI_j (by omega), show sD D n o v t i = D t i from if_neg q]
    exact h t i h1 h2
/-- a rest read by the model -/
def MR (T : Nat → Nat) (e : Nat) (y : TX) (D : DG) (σ t : Ms) : Prop := TMx T e y t ∧ (y.2.1 = 0 → MDx D t) ∧ KSt σ t ∧ t.1 0 22 = σ.1 0 22
theorem MR.pre {T : Nat → Nat} {e : Nat} {y : TX} {D : DG} {σ τ t : Ms} (k : KSt σ τ) (k22 : τ.1 0 22 = σ.1 0 22) (h : MR T e y D τ t) : MR T e y D σ t := ⟨h.1, h.2.1, k.tr h.2.2.1, h.2.2.2.trans k22⟩
theorem cell_ck {v o : Nat} (h : v + o < 1780) : ixb (nI v + nI o) 1780 = true ∧ (nI v + nI o).toNatClampNeg = v + o := ⟨by rw [nI_add]; exact u_ix h (by omega), by rw [nI_add]; exact u_cl (by omega)⟩
theorem mside_c {N e n m : Nat} {T : Nat → Nat} {x : TX} {D : DG} {σ : Ms} (hN : 1000 < N) (ht : TT T e) (h : TMx T e x σ) (hd : MDx D σ) (hn : n < 30) (l2 : Int32) (hm : (l2 = 0 ∧ m = 20) ∨ (l2 ≠ 0 ∧ m = 5)) : wp (F12_readRest_b16 N (nI (1510 + 9 * n)) l2 σ) fun _ t => MR T e (aSide T e m n x D).1 (aSide T e m n x D).2 σ t := by
  have c1 := cell_ck (v := 1510 + 9 * n) (o := 1) (by omega)
  have c2 := cell_ck (v := 1510 + 9 * n) (o := 2) (by omega)
  unfold F12_readRest_b16
  rw [show (1 : Int32) = nI 1 from rfl, show (2 : Int32) = nI 2 from rfl, c1.1, c1.2]
  refine wp_bn.mpr (wp_mono (sid_m hN ht h) ?_)
  rintro r t1 ⟨hr, g1, k1⟩
  rw [ck_t, lt_e]
  have g1' : TMx T e (tWch T e 7 2 x) (sI t1 5 (1510 + 9 * n + 1) r) := g1.s5
  have kk : KSt σ (sI t1 5 (1510 + 9 * n + 1) r) := (KSt.k k1).tr (KSt.s (by omega))
  have k22 : (sI t1 5 (1510 + 9 * n + 1) r).1 0 22 = σ.1 0 22 := (rI_k (by omega)).trans k1.2.1
  have d1 : (tWch T e 7 2 x).2.1 = 0 → MDx (sD D n 1 (nI (wich T e x.1 7 2 0))) (sI t1 5 (1510 + 9 * n + 1) r) := fun z => by
    rw [(hr z).1]
    exact (hd.k k1).s hn (by omega)
  have last : wp (F12_readRest_b47 N (nI (1510 + 9 * n) + nI 2) (0 : Int32) (cI m) (sI t1 5 (1510 + 9 * n + 1) r)) fun _ t => MR T e (aSide T e m n x D).1 (aSide T e m n x D).2 σ t := by
    unfold F12_readRest_b47
    rw [c2.1, c2.2]
    refine wp_bn.mpr (wp_mono (count_t (lo := 0) (m := m) hN ht g1' (by omega) (by omega)) ?_)
    rintro r2 t2 ⟨hr2, g2, k2⟩
    rw [ck_t, lt_e]
    refine wp_some.mpr ⟨g2.s5, fun z => ?_, (kk.tr (KSt.k k2)).tr (KSt.s (by omega)), (rI_k (by omega)).trans (k2.2.1.trans k22)⟩
    have z' : (tNum T e 0 m (tWch T e 7 2 x)).2.1 = 0 := z
    rw [hr2 z']
    exact ((d1 (tNum_z z').1).k k2).s hn (by omega)
  rcases hm with ⟨h1, h2⟩ | ⟨h1, h2⟩
  · subst h2
    rw [if_neg (fun z => z h1), show (19 : Int32) = cI 20 from rfl]
    exact last
  · subst h2
    rw [if_pos h1, show (4 : Int32) = cI 5 from rfl]
    exact last
theorem mtest_w {e : Nat} {T : Nat → Nat} {x : TX} {τ : Ms} (h : TMx T e x τ) : F12_testWord τ = some (wI 4 (wich T e x.1 18 4 0), τ) := by
  have hx := h.2.1
  unfold F12_testWord
  have h4 := fun K => mword (A := Int32) (K := K) hx (i := 18) (by decide) (a := 115) (b := 116) (c := 97) (d := 110) (e' := 100) (f := 115) (by decide) (by decide +kernel)
  have h5 := fun K => mword (A := Int32) (K := K) hx (i := 19) (by decide) (a := 119) (b := 111) (c := 114) (d := 116) (e' := 104) (f := 0) (by decide) (by decide +kernel)
  have h6 := fun K => mword (A := Int32) (K := K) hx (i := 20) (by decide) (a := 110) (b := 105) (c := 109) (d := 98) (e' := 101) (f := 114) (by decide) (by decide +kernel)
  have h7 := fun K => mword (A := Int32) (K := K) hx (i := 21) (by decide) (a := 119) (b := 105) (c := 110) (d := 115) (e' := 0) (f := 0) (by decide) (by decide +kernel)
  refine (h4 _).trans ?_
  unfold wich wich wich wich wich
  dsimp only [Nat.add_zero, Nat.reduceAdd]
  cases isWd T e x.1 18
  rotate_left
  · rfl
  rw [if_pos (by rfl), if_neg (by decide)]
  refine (h5 _).trans ?_
  try dsimp only
  cases isWd T e x.1 19
  rotate_left
  · rfl
  rw [if_pos (by rfl), if_neg (by decide)]
  refine (h6 _).trans ?_
  try dsimp only
  cases isWd T e x.1 20
  rotate_left
  · rfl
  rw [if_pos (by rfl), if_neg (by decide)]
  refine (h7 _).trans ?_
  try dsimp only
  cases isWd T e x.1 21 <;> rfl
theorem mstep_w {e : Nat} {T : Nat → Nat} {x : TX} {τ : Ms} (h : TMx T e x τ) : F12_stepWord τ = some (wI 8 (kdW T e x), τ) := by
  have hx := h.2.1
  unfold F12_stepWord kdW
  have h0 := fun K => mword (A := Int32) (K := K) hx (i := 10) (by decide) (a := 99) (b := 117) (c := 116) (d := 0) (e' := 0) (f := 0) (by decide) (by decide +kernel)
  have h1 := fun K => mword (A := Int32) (K := K) hx (i := 11) (by decide) (a := 116) (b := 97) (c := 107) (d := 101) (e' := 0) (f := 0) (by decide) (by decide +kernel)
  have h2 := fun K => mword (A := Int32) (K := K) hx (i := 12) (by decide) (a := 108) (b := 101) (c := 115) (d := 115) (e' := 0) (f := 0) (by decide) (by decide +kernel)
  have h3 := fun K => mword (A := Int32) (K := K) hx (i := 13) (by decide) (a := 103) (b := 114) (c := 111) (d := 119) (e' := 0) (f := 0) (by decide) (by decide +kernel)
  have h4 := fun K => mword (A := Int32) (K := K) hx (i := 14) (by decide) (a := 97) (b := 110) (c := 121) (d := 0) (e' := 0) (f := 0) (by decide) (by decide +kernel)
  have h5 := fun K => mword (A := Int32) (K := K) hx (i := 15) (by decide) (a := 119) (b := 104) (c := 101) (d := 110) (e' := 0) (f := 0) (by decide) (by decide +kernel)
  have h6 := fun K => mword (A := Int32) (K := K) hx (i := 16) (by decide) (a := 108) (b := 111) (c := 111) (d := 112) (e' := 0) (f := 0) (by decide) (by decide +kernel)
  have h7 := fun K => mword (A := Int32) (K := K) hx (i := 17) (by decide) (a := 115) (b := 116) (c := 111) (d := 112) (e' := 0) (f := 0) (by decide) (by decide +kernel)
  refine (h0 _).trans ?_
  unfold wich wich wich wich wich wich wich wich wich
  dsimp only [Nat.add_zero, Nat.reduceAdd]
  cases isWd T e x.1 10
  rotate_left
  · rfl
  rw [if_pos (by rfl), if_neg (by decide)]
  refine (h1 _).trans ?_
  try dsimp only
  cases isWd T e x.1 11
  rotate_left
  · rfl
  rw [if_pos (by rfl), if_neg (by decide)]
  refine (h2 _).trans ?_
  try dsimp only
  cases isWd T e x.1 12
  rotate_left
  · rfl
  rw [if_pos (by rfl), if_neg (by decide)]
  refine (h3 _).trans ?_
  try dsimp only
  cases isWd T e x.1 13
  rotate_left
  · rfl
  rw [if_pos (by rfl), if_neg (by decide)]
  refine (h4 _).trans ?_
  try dsimp only
  cases isWd T e x.1 14
  rotate_left
  · rfl
  rw [if_pos (by rfl), if_neg (by decide)]
  refine (h5 _).trans ?_
  try dsimp only
  cases isWd T e x.1 15
  rotate_left
  · rfl
  rw [if_pos (by rfl), if_neg (by decide)]
  refine (h6 _).trans ?_
  try dsimp only
  cases isWd T e x.1 16
  rotate_left
  · rfl
  rw [if_pos (by rfl), if_neg (by decide)]
  refine (h7 _).trans ?_
  try dsimp only
  cases isWd T e x.1 17 <;> rfl
theorem mtest_c {N e n : Nat} {T : Nat → Nat} {x : TX} {D : DG} {σ : Ms} (hN : 1000 < N) (ht : TT T e) (h : TMx T e x σ) (h0 : x.2.1 = 0) (hd : MDx D σ) (hn : n < 30) : wp (F12_readTest N (nI (1510 + 9 * n)) σ) fun _ t => MR T e (aWhenT T e n x D).1 (aWhenT T e n x D).2 σ t := by
  have c1 := cell_ck (v := 1510 + 9 * n) (o := 1) (by omega)
  have c5 := cell_ck (v := 1510 + 9 * n) (o := 5) (by omega)
  have c6 := cell_ck (v := 1510 + 9 * n) (o := 6) (by omega)
  have c7 := cell_ck (v := 1510 + 9 * n) (o := 7) (by omega)
  have hwl := (wich_le (T := T) (e := e) (s := x.1) (i := 18) 4 0).2
  unfold F12_readTest
  rw [mtest_w h, bn_s]
  have b15 : ∀ s1 : Int32, s1 = bI (decide (wich T e x.1 18 4 0 ≠ 4)) → wp (F12_readTest_b15 N (nI (1510 + 9 * n)) (wI 4 (wich T e x.1 18 4 0)) s1 σ) fun _ t => MR T e (aWhenT T e n x D).1 (aWhenT T e n x D).2 σ t := fun s1 hs1 => by
    subst hs1
    unfold F12_readTest_b15
    rw [show (1 : Int32) = nI 1 from rfl, show (5 : Int32) = nI 5 from rfl, c5.1, c5.2]
    refine wp_bn.mpr (wp_mono (must_t hN ht h) ?_)
    rintro _ t1 ⟨g1, k1⟩
    rw [← tWch_must] at g1
    rw [ck_t, lt_e]
    have g1' : TMx T e (tWch T e 18 4 x) (sI t1 5 (1510 + 9 * n + 5) (wI 4 (wich T e x.1 18 4 0))) := g1.s5
    have kk : KSt σ (sI t1 5 (1510 + 9 * n + 5) (wI 4 (wich T e x.1 18 4 0))) := (KSt.k k1).tr (KSt.s (by omega))
    have k22 : (sI t1 5 (1510 + 9 * n + 5) (wI 4 (wich T e x.1 18 4 0))).1 0 22 = σ.1 0 22 := (rI_k (by omega)).trans k1.2.1
    have d1 : wich T e x.1 18 4 0 ≠ 4 → MDx (sD D n 5 (nI (wich T e x.1 18 4 0))) (sI t1 5 (1510 + 9 * n + 5) (wI 4 (wich T e x.1 18 4 0))) := fun z => by
      rw [show wI 4 (wich T e x.1 18 4 0) = nI (wich T e x.1 18 4 0) from if_neg z]
      exact (hd.k k1).s hn (by omega)
    generalize sI t1 5 (1510 + 9 * n + 5) (wI 4 (wich T e x.1 18 4 0)) = t at g1' kk k22 d1
    by_cases q0 : wich T e x.1 18 4 0 = 0
    · have ew : aWhenT T e n x D = (tNum T e 0 20 (tWch T e 18 4 x), sD (sD D n 5 (nI 0)) n 1 (nI (vlS T e (tWch T e 18 4 x).1))) := if_pos q0
      have el : wI 4 (wich T e x.1 18 4 0) = nI 0 := by rw [q0]; rfl
      rw [el, if_neg (by exact fun z => z rfl), show (19 : Int32) = cI 20 from rfl, c1.1, c1.2, ew]
      refine wp_bn.mpr (wp_mono (count_t (lo := 0) (m := 20) hN ht g1' (by omega) (by omega)) ?_)
      rintro r t2 ⟨hr, g2, k2⟩
      rw [ck_t, lt_e]
      unfold F12_readTest_b66
      have mr : MR T e (tNum T e 0 20 (tWch T e 18 4 x)) (sD (sD D n 5 (nI 0)) n 1 (nI (vlS T e (tWch T e 18 4 x).1))) σ (sI t2 5 (1510 + 9 * n + 1) r) := ⟨g2.s5, fun z => by
        rw [hr z]
        have d2 := (d1 (by omega)).k k2
        rw [q0] at d2
        exact d2.s hn (by omega), (kk.tr (KSt.k k2)).tr (KSt.s (by omega)), (rI_k (by omega)).trans (k2.2.1.trans k22)⟩
      split
      · exact wp_some.mpr mr
      · rw [if_pos (by rfl)]
        exact wp_some.mpr mr
    by_cases q3 : wich T e x.1 18 4 0 = 3
    · have ew : aWhenT T e n x D = (tWch T e 7 2 (tWch T e 18 4 x), sD (sD D n 5 (nI 3)) n 1 (nI (wich T e (tWch T e 18 4 x).1 7 2 0))) := (if_neg q0).trans (if_pos q3)
      have el : wI 4 (wich T e x.1 18 4 0) = nI 3 := by rw [q3]; rfl
      rw [el, if_pos (by decide), if_neg (by exact fun z => z rfl), c1.1, c1.2, ew]
      refine wp_bn.mpr (wp_mono (sid_m hN ht g1') ?_)
      rintro r t2 ⟨hr, g2, k2⟩
      rw [ck_t, lt_e]
      unfold F12_readTest_b66
      have mr : MR T e (tWch T e 7 2 (tWch T e 18 4 x)) (sD (sD D n 5 (nI 3)) n 1 (nI (wich T e (tWch T e 18 4 x).1 7 2 0))) σ (sI t2 5 (1510 + 9 * n + 1) r) := ⟨g2.s5, fun z => by
        rw [(hr z).1]
        have d2 := (d1 (by omega)).k k2
        rw [q3] at d2
        exact d2.s hn (by omega), (kk.tr (KSt.k k2)).tr (KSt.s (by omega)), (rI_k (by omega)).trans (k2.2.1.trans k22)⟩
      split
      · exact wp_some.mpr mr
      · rw [if_neg (by decide), if_neg (by exact fun z => z rfl)]
        exact wp_some.mpr mr
    by_cases q4 : wich T e x.1 18 4 0 = 4
    · have ew : aWhenT T e n x D = (tWch T e 18 4 x, D) := (if_neg q0).trans ((if_neg q3).trans (if_pos q4))
      have el : wI 4 (wich T e x.1 18 4 0) = -nI 1 := by rw [q4]; rfl
      have hf : (tWch T e 18 4 x).2.1 ≠ 0 := fun z => by
        have := (tWch_z z).2
        omega
      rw [el, if_pos (by decide), if_pos (by decide), ew]
      unfold F12_readTest_b66
      rw [if_pos (g1'.f.2.1.mpr hf)]
      exact wp_some.mpr ⟨g1', fun z => absurd z hf, kk, k22⟩
    have hT : wich T e x.1 18 4 0 = 1 ∨ wich T e x.1 18 4 0 = 2 := by omega
    have ew : aWhenT T e n x D = (tNum T e 0 (if wich T e x.1 18 4 0 = 1 then 21 else 32) (aCmp T e (tWch T e 18 4 x)), sD (sD (sD D n 5 (nI (wich T e x.1 18 4 0))) n 7 (nI (T (tWch T e 18 4 x).1))) n 6 (nI (vlS T e (aCmp T e (tWch T e 18 4 x)).1))) := (if_neg q0).trans ((if_neg q3).trans (if_neg q4))
    have el : wI 4 (wich T e x.1 18 4 0) = nI (wich T e x.1 18 4 0) := if_neg q4
    have zf : (tWch T e 18 4 x).2.1 = 0 := by
      unfold tWch tStp
      rw [if_neg q4, if_pos h0]
      exact h0
    rw [ew, el, if_pos (by exact fun z => q0 ((nI_eq (b := 0) (by omega) (by omega)).mp z)), if_pos (by exact fun z => q3 ((nI_eq (b := 3) (by omega) (by omega)).mp z))]
    unfold F12_readTest_b66
    rw [if_neg (fun z => g1'.f.2.1.mp z zf), if_neg (by exact fun z => q0 ((nI_eq (b := 0) (by omega) (by omega)).mp z)), if_pos (by exact fun z => q3 ((nI_eq (b := 3) (by omega) (by omega)).mp z))]
    have hle : aSg T e (tWch T e 18 4 x) ≤ 3 := by
      unfold aSg
      repeat' split
      all_goals omega
    have b107 : ∀ s2 : Int32, (aSg T e (tWch T e 18 4 x) ≠ 3 → s2 = nI (T (tWch T e 18 4 x).1)) → wp (F12_readTest_b107 N (nI (1510 + 9 * n)) (nI (wich T e x.1 18 4 0)) (nI (1510 + 9 * n) + (7 : Int32)) s2 t) fun _ t' => MR T e (tNum T e 0 (if wich T e x.1 18 4 0 = 1 then 21 else 32) (aCmp T e (tWch T e 18 4 x))) (sD (sD (sD D n 5 (nI (wich T e x.1 18 4 0))) n 7 (nI (T (tWch T e 18 4 x).1))) n 6 (nI (vlS T e (aCmp T e (tWch T e 18 4 x)).1))) σ t' := fun s2 hs2 => by
      unfold F12_readTest_b107 F12_readTest_b136
      rw [show (7 : Int32) = nI 7 from rfl, c7.1, c7.2, ck_t, lt_e]
      have gm : TMx T e (tWch T e 18 4 x) (sI t 5 (1510 + 9 * n + 7) s2) := g1'.s5
      have km : KSt σ (sI t 5 (1510 + 9 * n + 7) s2) := kk.tr (KSt.s (by omega))
      have k22m : (sI t 5 (1510 + 9 * n + 7) s2).1 0 22 = σ.1 0 22 := (rI_k (by omega)).trans k22
      have dm : aSg T e (tWch T e 18 4 x) ≠ 3 → MDx (sD (sD D n 5 (nI (wich T e x.1 18 4 0))) n 7 (nI (T (tWch T e 18 4 x).1))) (sI t 5 (1510 + 9 * n + 7) s2) := fun z => by
        rw [hs2 z]
        exact (d1 q4).s hn (by omega)
      generalize sI t 5 (1510 + 9 * n + 7) s2 = u at gm km k22m dm
      have b141 : ∀ b : Bool, b = decide (aSg T e (tWch T e 18 4 x) ≠ 3) → wp (F12_readTest_b141 N (nI (1510 + 9 * n)) (nI (wich T e x.1 18 4 0)) (bI b) u) fun _ t' => MR T e (tNum T e 0 (if wich T e x.1 18 4 0 = 1 then 21 else 32) (aCmp T e (tWch T e 18 4 x))) (sD (sD (sD D n 5 (nI (wich T e x.1 18 4 0))) n 7 (nI (T (tWch T e 18 4 x).1))) n 6 (nI (vlS T e (aCmp T e (tWch T e 18 4 x)).1))) σ t' := fun b hb => by
        subst hb
        unfold F12_readTest_b141
        refine wp_bn.mpr (wp_mono (must_t hN ht gm) ?_)
        rintro _ u2 ⟨g2, k2⟩
        have g2' : TMx T e (aCmp T e (tWch T e 18 4 x)) u2 := g2
        have b166 : ∀ m, m < 1000 → m = (if wich T e x.1 18 4 0 = 1 then 21 else 32) → wp (F12_readTest_b166 N (nI (1510 + 9 * n) + nI 6) (0 : Int32) (cI m) u2) fun _ t' => MR T e (tNum T e 0 (if wich T e x.1 18 4 0 = 1 then 21 else 32) (aCmp T e (tWch T e 18 4 x))) (sD (sD (sD D n 5 (nI (wich T e x.1 18 4 0))) n 7 (nI (T (tWch T e 18 4 x).1))) n 6 (nI (vlS T e (aCmp T e (tWch T e 18 4 x)).1))) σ t' := fun m hm em => by
          unfold F12_readTest_b166
          rw [c6.1, c6.2, ← em]
          refine wp_bn.mpr (wp_mono (count_t (lo := 0) (m := m) hN ht g2' (by omega) hm) ?_)
          rintro r u3 ⟨hr, g3, k3⟩
          rw [ck_t, lt_e]
          refine wp_some.mpr ⟨g3.s5, fun z => ?_, ((km.tr (KSt.k k2)).tr (KSt.k k3)).tr (KSt.s (by omega)), (rI_k (by omega)).trans (k3.2.1.trans (k2.2.1.trans k22m))⟩
          have zc := (tNum_z z).1
          have hs3 : aSg T e (tWch T e 18 4 x) ≠ 3 := fun y => by
            rw [aCmp_st, if_pos y, tStp_f (tRef_n _ (by omega))] at zc
            exact tRef_n _ (by omega) zc
          rw [hr z]
          exact (((dm hs3).k k2).k k3).s hn (by omega)
        rcases hT with h1 | h1
        · rw [h1, if_neg (by exact fun z => z rfl), show (6 : Int32) = nI 6 from rfl, show (20 : Int32) = cI 21 from rfl]
          have b := b166 21 (by omega) (by rw [if_pos h1])
          rw [h1] at b
          exact b
        · rw [h1, if_pos (by decide), show (6 : Int32) = nI 6 from rfl, show (31 : Int32) = cI 32 from rfl]
          have b := b166 32 (by omega) (by rw [if_neg (by omega)])
          rw [h1] at b
          exact b
      rw [show (60 : Int32) = nI 60 from rfl, show (62 : Int32) = nI 62 from rfl, show (61 : Int32) = nI 61 from rfl, mark_m gm (by omega), bn_s]
      unfold aSg at b141
      cases h0 : isMk T e (tWch T e 18 4 x).1 60
      rotate_left
      · rw [if_pos (by decide)]
        exact b141 true (by rw [h0]; rfl)
      rw [if_neg (by exact fun z => z rfl), mark_m gm (by omega), bn_s]
      cases h1 : isMk T e (tWch T e 18 4 x).1 62
      rotate_left
      · rw [if_pos (by decide)]
        exact b141 true (by rw [h0, h1]; rfl)
      rw [if_neg (by exact fun z => z rfl), mark_m gm (by omega), bn_s]
      cases h2 : isMk T e (tWch T e 18 4 x).1 61
      · rw [if_pos (by rfl)]
        exact b141 false (by rw [h0, h1, h2]; rfl)
      · rw [if_neg (by decide)]
        exact b141 true (by rw [h0, h1, h2]; rfl)
    have hk5 := kdS_lt T e (tWch T e 18 4 x).1
    rw [g1'.2.1.1]
    by_cases qk : kdS T e (tWch T e 18 4 x).1 = 3
    · rw [qk, if_neg (by exact fun z => z rfl), g1'.2.1.2.2.2.2.1 qk]
      exact b107 _ (fun _ => rfl)
    · rw [if_pos (by exact fun z => qk ((nI_eq (b := 3) (by omega) (by omega)).mp z))]
      refine b107 _ (fun z => absurd ?_ z)
      have no : ∀ c, isMk T e (tWch T e 18 4 x).1 c = false := fun c => by
        unfold isMk
        rw [decide_eq_false qk]
        rfl
      unfold aSg
      rw [no, no, no]
      rfl
  by_cases q4 : wich T e x.1 18 4 0 = 4
  · have b := b15 (0 : Int32) (by rw [decide_eq_false (fun z => z q4)]; rfl)
    rw [show wI 4 (wich T e x.1 18 4 0) = -nI 1 from if_pos q4] at b ⊢
    rw [if_pos (by decide)]
    exact b
  · have b := b15 (1 : Int32) (by rw [decide_eq_true q4]; rfl)
    rw [show wI 4 (wich T e x.1 18 4 0) = nI (wich T e x.1 18 4 0) from if_neg q4] at b ⊢
    rw [if_neg (nI_pos (by omega))]
    exact b
theorem mrest_c {N e n k : Nat} {T : Nat → Nat} {x : TX} {D : DG} {σ : Ms} (hN : 1000 < N) (ht : TT T e) (h : TMx T e x σ) (h0 : x.2.1 = 0) (hd : MDx D σ) (hn : n < 30) (hk : k < 8) (hD : D n 0 = nI k) : wp (F12_readRest N (nI (1510 + 9 * n)) σ) fun _ t => MR T e (aRest T e n k x D).1 (aRest T e n k x D).2 σ t := by
  have c1 := cell_ck (v := 1510 + 9 * n) (o := 1) (by omega)
  have c2 := cell_ck (v := 1510 + 9 * n) (o := 2) (by omega)
  have e0 : σ.1 5 (1510 + 9 * n) = nI k := (hd n 0 hn (by omega)).trans hD
  unfold F12_readRest F12_readRest_b137
  rw [u_ix (show 1510 + 9 * n < 1780 by omega) (by omega), ck_t, u_cl (show 1510 + 9 * n < 2147483648 by omega), e0, lt_e, show (1 : Int32) = nI 1 from rfl, show (2 : Int32) = nI 2 from rfl, c1.1, c1.2, c2.1, c2.2]
  rcases (show k = 0 ∨ k = 1 ∨ k = 2 ∨ k = 3 ∨ k = 4 ∨ k = 5 ∨ k = 6 ∨ k = 7 by omega) with rfl | rfl | rfl | rfl | rfl | rfl | rfl | rfl
  · rw [if_pos (by rfl)]
    exact mside_c hN ht h hd hn (nI 0) (Or.inl ⟨rfl, rfl⟩)
  · rw [if_neg (by decide), if_neg (by exact fun z => z rfl)]
    exact mside_c hN ht h hd hn (nI 1) (Or.inr ⟨by decide, rfl⟩)
  · rw [if_neg (by decide), if_pos (by decide), if_neg (by exact fun z => z rfl), show (3 : Int32) = cI 4 from rfl, show (15 : Int32) = cI 16 from rfl]
    refine wp_bn.mpr (wp_mono (count_t (lo := 0) (m := 4) hN ht h (by omega) (by omega)) ?_)
    rintro r t1 ⟨hr, g1, k1⟩
    rw [ck_t, lt_e]
    refine wp_bn.mpr (wp_mono (count_t (lo := 0) (m := 16) hN ht (TMx.s5 g1) (by omega) (by omega)) ?_)
    rintro r2 t2 ⟨hr2, g2, k2⟩
    rw [ck_t, lt_e]
    refine wp_some.mpr ⟨g2.s5, fun z => ?_, (((KSt.k k1).tr (KSt.s (by omega))).tr (KSt.k k2)).tr (KSt.s (by omega)), (rI_k (by omega)).trans (k2.2.1.trans ((rI_k (by omega)).trans k1.2.1))⟩
    have z' : (tNum T e 0 16 (tNum T e 0 4 x)).2.1 = 0 := z
    have d1 := (hd.k k1).s (v := r) hn (show 1 < 9 by omega)
    have d2 := (d1.k k2).s (v := r2) hn (show 2 < 9 by omega)
    rw [hr2 z', hr (tNum_z z').1] at d2
    rw [hr2 z']
    exact d2
  · rw [if_neg (by decide), if_pos (by decide), if_pos (by decide), if_neg (by exact fun z => z rfl)]
    show wp _ fun _ t => MR T e (aGrowT T e n x D).1 (aGrowT T e n x D).2 σ t
    unfold aGrowT
    refine wp_bn.mpr (wp_mono (col_m hN ht h) ?_)
    rintro r t1 ⟨hr, g1, k1⟩
    rw [ck_t, lt_e]
    have g1' : TMx T e (tWch T e 4 3 x) (sI t1 5 (1510 + 9 * n + 1) r) := TMx.s5 g1
    have kk : KSt σ (sI t1 5 (1510 + 9 * n + 1) r) := (KSt.k k1).tr (KSt.s (by omega))
    have k22 : (sI t1 5 (1510 + 9 * n + 1) r).1 0 22 = σ.1 0 22 := (rI_k (by omega)).trans k1.2.1
    have d1 : (tWch T e 4 3 x).2.1 = 0 → MDx (sD D n 1 (nI (wich T e x.1 4 3 0))) (sI t1 5 (1510 + 9 * n + 1) r) := fun z => by
      rw [(hr z).1]
      exact (hd.k k1).s hn (by omega)
    generalize sI t1 5 (1510 + 9 * n + 1) r = t at g1' kk k22 d1
    rw [isOn_m g1'.2.1, bn_s]
    refine wp_bn.mpr (wp_mono (perh_t hN ht g1') ?_)
    rintro _ t3 ⟨rfl, g3, k3⟩
    cases hb : isWd T e (tWch T e 4 3 x).1 3
    · rw [hb, if_neg (by decide)] at g3
      rw [Bool.false_and, if_pos (by rfl), if_neg (by decide), ck_t, lt_e]
      refine wp_some.mpr ⟨TMx.s5 g3, fun z => ((d1 z).k k3).s hn (by omega), (kk.tr (KSt.k k3)).tr (KSt.s (by omega)), (rI_k (by omega)).trans (k3.2.1.trans k22)⟩
    · rw [hb, if_pos (by rfl)] at g3
      rw [Bool.true_and, if_pos (show true = true from rfl)]
      by_cases q : (tWch T e 4 3 x).2.1 = 0
      · rw [decide_eq_true q, if_neg (by decide), show (19 : Int32) = cI 20 from rfl]
        refine wp_bn.mpr (wp_mono (count_t (lo := 0) (m := 20) hN ht g3 (by omega) (by omega)) ?_)
        rintro r2 t4 ⟨hr2, g4, k4⟩
        rw [ck_t, lt_e]
        refine wp_some.mpr ⟨TMx.s5 g4, fun z => ?_, ((kk.tr (KSt.k k3)).tr (KSt.k k4)).tr (KSt.s (by omega)), (rI_k (by omega)).trans (k4.2.1.trans (k3.2.1.trans k22))⟩
        rw [hr2 z]
        exact (((d1 q).k k3).k k4).s hn (by omega)
      · rw [decide_eq_false q, if_pos (by rfl), ck_t, lt_e]
        have ef : tNum T e 0 20 (tStp T e (tWch T e 4 3 x)) = tWch T e 4 3 x := by rw [tStp_f q, tNum_f q]
        rw [tStp_f q] at g3
        refine wp_some.mpr ⟨by rw [ef]; exact TMx.s5 g3, fun z => ?_, (kk.tr (KSt.k k3)).tr (KSt.s (by omega)), (rI_k (by omega)).trans (k3.2.1.trans k22)⟩
        rw [ef] at z
        exact absurd z q
  · rw [if_neg (by decide), if_pos (by decide), if_pos (by decide), if_pos (by decide), if_pos (by decide), if_pos (by decide)]
    exact wp_some.mpr ⟨h, fun _ => hd, KSt.rf σ, rfl⟩
  · rw [if_neg (by decide), if_pos (by decide), if_pos (by decide), if_pos (by decide), if_pos (by decide), if_neg (by exact fun z => z rfl)]
    exact wp_bn.mpr (wp_mono (mtest_c hN ht h h0 hd hn) fun _ t q => wp_some.mpr q)
  · rw [if_neg (by decide), if_pos (by decide), if_pos (by decide), if_pos (by decide), if_neg (by exact fun z => z rfl), show (99 : Int32) = cI 100 from rfl]
    refine wp_bn.mpr (wp_mono (count_t (lo := 1) (m := 100) hN ht h (by omega) (by omega)) ?_)
    rintro r t1 ⟨hr, g1, k1⟩
    rw [ck_t, lt_e]
    refine wp_some.mpr ⟨TMx.s5 g1, fun z => ?_, (KSt.k k1).tr (KSt.s (by omega)), (rI_k (by omega)).trans k1.2.1⟩
    have z' : (tNum T e 1 100 x).2.1 = 0 := z
    rw [hr z']
    exact (hd.k k1).s hn (by omega)
  · rw [if_neg (by decide), if_pos (by decide), if_pos (by decide), if_pos (by decide), if_pos (by decide), if_pos (by decide)]
    exact wp_some.mpr ⟨h, fun _ => hd, KSt.rf σ, rfl⟩
