/-- what the model's parts leave alone -/
def KP (σ τ : Ms) : Prop := (∀ k j, k ≠ 0 → k ≠ 5 → τ.1 k j = σ.1 k j) ∧ (∀ j, (j < 1424 ∨ j = 1428 ∨ 1508 ≤ j) → τ.1 5 j = σ.1 5 j) ∧ ∀ j, j < 9 → τ.1 0 j = σ.1 0 j
theorem KP.rf (σ : Ms) : KP σ σ := ⟨fun _ _ _ _ => rfl, fun _ _ => rfl, fun _ _ => rfl⟩
theorem KP.tr {a b c : Ms} (h : KP a b) (h' : KP b c) : KP a c := ⟨fun k j h1 h2 => (h'.1 k j h1 h2).trans (h.1 k j h1 h2), fun j hj => (h'.2.1 j hj).trans (h.2.1 j hj), fun j hj => (h'.2.2 j hj).trans (h.2.2 j hj)⟩
theorem KP.k {σ τ : Ms} (k : K00 σ τ) : KP σ τ := ⟨fun a j h1 _ => k.1 a j h1, fun j _ => k.1 5 j (by omega), k.2.2⟩
theorem KP.s {σ : Ms} {j : Nat} {v : Int32} (h : 1424 ≤ j) (h' : j < 1508) (h'' : j ≠ 1428) : KP σ (sI σ 5 j v) := ⟨fun k i _ h2 => rI_k h2, fun i hi => rI_j (by omega), fun i _ => rI_k (by omega)⟩
theorem MG.k00 {B : Nat} {H : HG} {σ τ : Ms} (c : MG B H σ) (k : K00 σ τ) : MG B H τ := c.mv fun j => k.1 5 j (by omega)
theorem TMx.mv {T : Nat → Nat} {e : Nat} {x : TX} {σ τ : Ms} (h : TMx T e x σ) (e0 : ∀ j, τ.1 0 j = σ.1 0 j) (e4 : ∀ j, τ.1 4 j = σ.1 4 j) (el : τ.2 = σ.2) : TMx T e x τ := by
  unfold TMx MM ME at *
  simp only [e0, e4, el]
  exact h
theorem TMx.s5 {T : Nat → Nat} {e j : Nat} {v : Int32} {x : TX} {σ : Ms} (h : TMx T e x σ) : TMx T e x (sI σ 5 j v) := h.mv (fun i => rI_k (by omega)) (fun i => rI_k (by omega)) rfl
theorem grow4 {c o : Nat} {H : HG} {σ : Ms} (w : WG H) (cg : MG 1424 H σ) (hn : gn H < 20) : ∃ t, F12_grows (4 : Int32) (nI c) (cI o) σ = some ((), t) ∧ MG 1424 (hGr H c o) t ∧ KP σ t ∧ (∀ k j, k ≠ 5 → t.1 k j = σ.1 k j) ∧ t.2 = σ.2 := by
  have hk := w.2.2.1
  have hm := w.2.1.1
  have hoo : cI o + (1 : Int32) = nI o := Int32.sub_add_cancel _ _
  unfold F12_grows
  rw [show (356 : Int32) * (4 : Int32) = nI 1424 by decide, lt_e, u_ix (show 1424 < 1780 by omega) (by omega), ck_t, u_cl (show 1424 < 2147483648 by omega), cg.1.1, lt_e, show (5 : Int32) = nI 5 from rfl, show (25 : Int32) = nI 25 from rfl, show (45 : Int32) = nI 45 from rfl, nI_add, nI_add, nI_add, nI_add, nI_add, nI_add, u_ix (show 1424 + 5 + gn H < 1780 by omega) (by omega), u_ix (show 1424 + 25 + gn H < 1780 by omega) (by omega), u_ix (show 1424 + 45 + gn H < 1780 by omega) (by omega), u_cl (show 1424 + 5 + gn H < 2147483648 by omega), u_cl (show 1424 + 25 + gn H < 2147483648 by omega), u_cl (show 1424 + 45 + gn H < 2147483648 by omega), ck_t, lt_e, ck_t, lt_e, ck_t, lt_e, ck_t, ck_t, lt_e, hoo, rI_j (show 1424 ≠ 1424 + 45 + gn H by omega), rI_j (show 1424 ≠ 1424 + 25 + gn H by omega), rI_j (show 1424 ≠ 1424 + 5 + gn H by omega), cg.1.1, L_1, nI_add]
  refine ⟨_, rfl, ?_, ?_, ?_, rfl⟩
  · refine ⟨⟨?_, fun i hi => ?_⟩, ⟨?_, fun i hi => ?_⟩, ?_, ?_, fun i hi => ?_⟩
    · rw [rI_e rfl rfl]
      rfl
    · have hi' : i < gn H + 1 := hi
      show _ = nI (if i = gn H then c else gc H i) ∧ _ = nI (if i = gn H then o else go H i) ∧ _ = bI ((gS H ||| 2 ^ gn H).testBit i)
      rw [Nat.testBit_or, Nat.testBit_two_pow]
      by_cases z : i = gn H
      · rw [if_pos z, if_pos z, decide_eq_true z.symm, Bool.or_true]
        refine ⟨?_, ?_, ?_⟩
        · rw [rI_j (by omega), rI_j (by omega), rI_j (by omega), rI_e rfl (by omega)]
        · rw [rI_j (by omega), rI_j (by omega), rI_e rfl (by omega)]
        · rw [rI_j (by omega), rI_e rfl (by omega)]
          rfl
      · rw [if_neg z, if_neg z, decide_eq_false (fun y => z y.symm), Bool.or_false]
        obtain ⟨a, b, d⟩ := cg.1.2 i (by omega)
        refine ⟨?_, ?_, ?_⟩
        · rw [rI_j (by omega), rI_j (by omega), rI_j (by omega), rI_j (by omega)]; exact a
        · rw [rI_j (by omega), rI_j (by omega), rI_j (by omega), rI_j (by omega)]; exact b
        · rw [rI_j (by omega), rI_j (by omega), rI_j (by omega), rI_j (by omega)]; exact d
    · rw [rI_j (by omega), rI_j (by omega), rI_j (by omega), rI_j (by omega)]; exact cg.2.1.1
    · have : i < gm H := hi
      rw [rI_j (by omega), rI_j (by omega), rI_j (by omega), rI_j (by omega)]; exact cg.2.1.2 i hi
    · rw [rI_j (by omega), rI_j (by omega), rI_j (by omega), rI_j (by omega)]; exact cg.2.2.1
    · rw [rI_j (by omega), rI_j (by omega), rI_j (by omega), rI_j (by omega)]; exact cg.2.2.2.1
    · have : i < gk H := hi
      obtain ⟨a, b, d⟩ := cg.2.2.2.2 i hi
      refine ⟨?_, ?_, ?_⟩
      · rw [rI_j (by omega), rI_j (by omega), rI_j (by omega), rI_j (by omega)]; exact a
      · rw [rI_j (by omega), rI_j (by omega), rI_j (by omega), rI_j (by omega)]; exact b
      · rw [rI_j (by omega), rI_j (by omega), rI_j (by omega), rI_j (by omega)]; exact d
  · exact (((KP.s (by omega) (by omega) (by omega)).tr (KP.s (by omega) (by omega) (by omega))).tr (KP.s (by omega) (by omega) (by omega))).tr (KP.s (by omega) (by omega) (by omega))
  · intro k j h
    rw [rI_k h, rI_k h, rI_k h, rI_k h]
theorem another_t {N e n m cell : Nat} {T : Nat → Nat} {x : TX} {τ : Ms} (hN : 1000 < N) (ht : TT T e) (h : TMx T e x τ) (hc : cell < 84) (hv : τ.1 5 (1424 + cell) = nI n) (hn : n ≤ m) (hm : m < 1000) (hk : kdS T e x.1 = 1) : wp (F12_another N (nI cell) (nI m) τ) fun _ τ' => TMx T e (spF T e n m x) τ' ∧ K00 τ τ' := by
  unfold F12_another F12_another_b24 spF
  have mt : ∀ (y : TX), tStp T e y = tMust T e true y := fun y => rfl
  rw [show (1424 : Int32) = nI 1424 from rfl, nI_add, u_ix (show 1424 + cell < 1780 by omega) (by omega), ck_t, u_cl (by omega), hv, mt, show (1 : Int32) = bI true from rfl]
  by_cases q : n < m
  · rw [if_pos (by exact fun z => by have := (nI_eq (by omega) (by omega)).mp z; omega), if_pos q]
    exact wp_bn.mpr (wp_mono (must_t hN ht h) fun _ t g => wp_some.mpr g)
  · have : n = m := by omega
    subst this
    rw [if_neg (by exact fun z => z rfl), if_neg q]
    refine wp_bn.mpr (wp_mono (fail_t h (w := 6) (by omega) (by omega) (fun z => by omega)) ?_)
    rintro _ t ⟨g1, g2⟩
    refine wp_bn.mpr (wp_mono (must_t hN ht g1) ?_)
    rintro _ t' ⟨g3, g4⟩
    exact wp_some.mpr ⟨g3, g2.tr g4⟩
theorem mayGrow4 {c j : Nat} {H : HG} {σ : Ms} (w : WG H) (cg : MG 1424 H σ) (hc : c ≤ 2) (hj : j < gn H) : F12_mayGrow (4 : Int32) (nI c) (nI j) σ = some (bI (ftB H c j), σ) := by
  have hn := w.n
  have hc2 := (w.1.2.2 j hj).1
  obtain ⟨ec, -, -⟩ := cg.1.2 j hj
  unfold F12_mayGrow F12_mayGrow_b14 F12_mayGrow_b37 F12_mayGrow_b40 ftB
  rw [if_neg (nI_pos (by omega)), show (356 : Int32) * (4 : Int32) = nI 1424 by decide, show (5 : Int32) = nI 5 from rfl, nI_add, nI_add, u_ix (show 1424 + 5 + j < 1780 by omega) (by omega), ck_t, ck_t, u_cl (by omega), show 1424 + 5 + j = 1424 + (5 + j) by omega, ec]
  by_cases x : c = 2
  · rw [if_neg (by exact fun z => z (by rw [x]; rfl)), decide_eq_true x]
    by_cases y : gc H j = 2
    · rw [if_neg (by exact fun z => z (by rw [y]; rfl)), if_neg (by exact fun z => z rfl), decide_eq_true y]
      rfl
    · rw [if_pos (by exact fun z => y ((nI_eq (b := 2) (by omega) (by omega)).mp z)), if_pos (by decide), decide_eq_false y]
      rfl
  · rw [if_pos (by exact fun z => x ((nI_eq (b := 2) (by omega) (by omega)).mp z)), decide_eq_false x]
    by_cases y : gc H j = 2
    · rw [if_neg (by exact fun z => z (by rw [y]; rfl)), if_pos (by decide), decide_eq_true y]
      rfl
    · rw [if_pos (by exact fun z => y ((nI_eq (b := 2) (by omega) (by omega)).mp z)), if_neg (by exact fun z => z rfl), decide_eq_false y]
      rfl
/-- the end of a part, before its sign is read -/
def MP (T : Nat → Nat) (e : Nat) (σ : Ms) (x : TX) (H : HG) (τ : Ms) : Prop := TMx T e x τ ∧ (x.2.1 = 0 → MG 1424 H τ) ∧ KP σ τ
theorem mSprig {N e : Nat} {T : Nat → Nat} {H : HG} {x : TX} {τ : Ms} (hN : 1000 < N) (ht : TT T e) (h : TMx T e x τ) (w : WG H) (cg : MG 1424 H τ) (hk : kdS T e x.1 = 1) : wp (F12_readSprig N τ) fun _ τ' => MP T e τ (spOn T e H (wich T e (spF T e (gn H) 20 x).1 4 3 0) (tWch T e 4 3 (spF T e (gn H) 20 x))) (hGr H (wich T e (spF T e (gn H) 20 x).1 4 3 0) (spO T e (tWch T e 4 3 (spF T e (gn H) 20 x)))) τ' := by
  have hn := w.n
  have hsp : (spF T e (gn H) 20 x).2.1 = 0 → gn H < 20 := fun z => Classical.byContradiction fun y => by
    unfold spF at z
    rw [if_neg y, tStp_f (tRef_n x (by omega))] at z
    exact tRef_n x (by omega) z
  unfold F12_readSprig
  refine wp_bn.mpr (wp_mono (another_t (n := gn H) (m := 20) (cell := 0) hN ht h (by omega) cg.1.1 hn (by omega) hk) ?_)
  rintro _ t1 ⟨g1, k1⟩
  refine wp_bn.mpr (wp_mono (col_m hN ht g1) ?_)
  rintro r t2 ⟨hr, g2, k2⟩
  rw [isOn_m g2.2.1, bn_s]
  refine wp_bn.mpr (wp_mono (perh_t hN ht g2) ?_)
  rintro _ t3 ⟨rfl, g3, k3⟩
  have k13 := (k1.tr k2).tr k3
  have c3 := cg.k00 k13
  have last : ∀ (y : TX) (v : Int32) (t : Ms), TMx T e y t → MG 1424 H t → KP τ t → y = spOn T e H (wich T e (spF T e (gn H) 20 x).1 4 3 0) (tWch T e 4 3 (spF T e (gn H) 20 x)) → (y.2.1 = 0 → (tWch T e 4 3 (spF T e (gn H) 20 x)).2.1 = 0 ∧ v = cI (spO T e (tWch T e 4 3 (spF T e (gn H) 20 x)))) → wp (F12_readSprig_b85 N r v t) fun _ τ' => MP T e τ (spOn T e H (wich T e (spF T e (gn H) 20 x).1 4 3 0) (tWch T e 4 3 (spF T e (gn H) 20 x))) (hGr H (wich T e (spF T e (gn H) 20 x).1 4 3 0) (spO T e (tWch T e 4 3 (spF T e (gn H) 20 x)))) τ' := fun y v t hy hcg kp e1 hv => by
    unfold F12_readSprig_b85
    rw [← e1]
    by_cases z : y.2.1 = 0
    · obtain ⟨hw0, rfl⟩ := hv z
      obtain ⟨rfl, -⟩ := hr hw0
      rw [if_neg (fun q => hy.f.2.2.mp q z)]
      obtain ⟨t', e', m', kp', k0, kl⟩ := grow4 (c := wich T e (spF T e (gn H) 20 x).1 4 3 0) (o := spO T e (tWch T e 4 3 (spF T e (gn H) 20 x))) w hcg (hsp (tWch_z hw0).1)
      rw [e', bn_s]
      exact wp_some.mpr ⟨hy.mv (fun j => k0 _ _ (by omega)) (fun j => k0 _ _ (by omega)) kl, fun _ => m', kp.tr kp'⟩
    · rw [if_pos (hy.f.2.2.mpr z)]
      exact wp_some.mpr ⟨hy, fun q => absurd q z, kp⟩
  cases hb : isWd T e (tWch T e 4 3 (spF T e (gn H) 20 x)).1 3
  · rw [hb] at g3
    rw [Bool.false_and, if_pos (by rfl)]
    refine last _ _ t3 g3 c3 (KP.k k13) ?_ (fun z => ⟨z, ?_⟩)
    · unfold spOn
      rw [hb, if_neg (by decide), if_neg (by decide)]
    · unfold spO
      rw [hb, if_neg (by decide)]
      rfl
  rw [hb, if_pos (by rfl)] at g3
  rw [Bool.true_and]
  have eon : spOn T e H (wich T e (spF T e (gn H) 20 x).1 4 3 0) (tWch T e 4 3 (spF T e (gn H) 20 x)) = tNum T e 0 (gn H) (gnd T e H (wich T e (spF T e (gn H) 20 x).1 4 3 0) (tStp T e (tWch T e 4 3 (spF T e (gn H) 20 x)))) := by
    unfold spOn
    rw [hb, if_pos (by rfl)]
  by_cases q0 : (tWch T e 4 3 (spF T e (gn H) 20 x)).2.1 = 0
  rotate_left
  · rw [decide_eq_false q0, if_pos (by rfl)]
    refine last _ _ t3 g3 c3 (KP.k k13) ?_ (fun z => ?_)
    · rw [eon, tStp_f q0]
      have : gnd T e H (wich T e (spF T e (gn H) 20 x).1 4 3 0) (tWch T e 4 3 (spF T e (gn H) 20 x)) = tWch T e 4 3 (spF T e (gn H) 20 x) := by
        unfold gnd
        rw [tRef_f q0, ite_self]
      rw [this, tNum_f q0]
    · rw [tStp_f q0] at z
      exact absurd z q0
  obtain ⟨rfl, hc3⟩ := hr q0
  rw [decide_eq_true q0, if_neg (by decide), show ixb (1424 : Int32) 1780 = true by decide, ck_t, show (1424 : Int32).toNatClampNeg = 1424 by decide, c3.1.1]
  refine wp_bn.mpr (wp_mono (may_t (lo := 0) (m := gn H) ht g3 (by omega) (by omega)) ?_)
  rintro _ t4 ⟨g4, k4⟩
  have k14 := k13.tr k4
  have c4 := cg.k00 k14
  have b69 : ∀ (z : TX) (t : Ms), TMx T e z t → K00 τ t → tNum T e 0 (gn H) z = tNum T e 0 (gn H) (gnd T e H (wich T e (spF T e (gn H) 20 x).1 4 3 0) (tStp T e (tWch T e 4 3 (spF T e (gn H) 20 x)))) → ((tNum T e 0 (gn H) z).2.1 = 0 → z.1 = (tStp T e (tWch T e 4 3 (spF T e (gn H) 20 x))).1) → wp (F12_readSprig_b69 N (nI (wich T e (spF T e (gn H) 20 x).1 4 3 0)) t) fun _ τ' => MP T e τ (spOn T e H (wich T e (spF T e (gn H) 20 x).1 4 3 0) (tWch T e 4 3 (spF T e (gn H) 20 x))) (hGr H (wich T e (spF T e (gn H) 20 x).1 4 3 0) (spO T e (tWch T e 4 3 (spF T e (gn H) 20 x)))) τ' := fun z t hz kt e1 e2 => by
    unfold F12_readSprig_b69
    have ct := cg.k00 kt
    rw [show ixb (1424 : Int32) 1780 = true by decide, ck_t, show (1424 : Int32).toNatClampNeg = 1424 by decide, ct.1.1]
    refine wp_bn.mpr (wp_mono (count_t (lo := 0) (m := gn H) hN ht hz (by omega) (by omega)) ?_)
    rintro r' t' ⟨hr', g', k'⟩
    refine last _ r' t' g' (ct.k00 k') (KP.k (kt.tr k')) (by rw [e1, eon]) (fun y => ⟨q0, ?_⟩)
    rw [hr' y, e2 y]
    unfold spO
    rw [hb, if_pos (by rfl), cI_s]
  generalize hx3 : tStp T e (tWch T e 4 3 (spF T e (gn H) 20 x)) = x3 at *
  by_cases q1 : (tMay T e 0 (gn H) x3).2.1 = 0
  rotate_left
  · rw [if_pos (g4.f.2.2.mpr q1)]
    refine b69 _ t4 g4 k14 ?_ (fun y => ?_)
    · rw [tNum_f q1]
      by_cases z3 : x3.2.1 = 0
      rotate_left
      · have eg : gnd T e H (wich T e (spF T e (gn H) 20 x).1 4 3 0) x3 = x3 := by
          unfold gnd
          rw [tRef_f z3, ite_self]
        rw [eg, tNum_f z3, tMay_f z3]
      · have eg : gnd T e H (wich T e (spF T e (gn H) 20 x).1 4 3 0) x3 = x3 := by
          unfold gnd
          refine if_neg (fun z => q1 ?_)
          unfold tMay
          rw [if_pos z.1, if_pos ⟨Nat.zero_le _, z.2.1⟩]
          exact z3
        rw [eg, tNum_may, tStp_f q1]
    · rw [tNum_f q1] at y
      exact absurd y q1
  have hx3' : x3.2.1 = 0 ∧ kdS T e x3.1 = 2 ∧ vlS T e x3.1 < gn H ∧ tMay T e 0 (gn H) x3 = x3 := by
    have z3 : x3.2.1 = 0 := Classical.byContradiction fun z => by
      rw [tMay_f z] at q1
      exact z q1
    refine ⟨z3, ?_⟩
    unfold tMay at q1 ⊢
    by_cases z2 : kdS T e x3.1 = 2
    · rw [if_pos z2] at q1 ⊢
      by_cases z4 : 0 ≤ vlS T e x3.1 ∧ vlS T e x3.1 < gn H
      · rw [if_pos z4]
        exact ⟨z2, z4.2, rfl⟩
      · rw [if_neg z4] at q1
        exact absurd q1 (tRef_n x3 (by omega))
    · rw [if_neg z2] at q1
      exact absurd q1 (tRef_n x3 (by omega))
  obtain ⟨z3, z2, zv, ze⟩ := hx3'
  rw [ze] at g4
  rw [if_neg (fun q => g4.f.2.2.mp q z3), g4.2.1.2.2.2.1 z2, mayGrow4 w c4 (by omega) zv, bn_s]
  cases hf : ftB H (wich T e (spF T e (gn H) 20 x).1 4 3 0) (vlS T e x3.1)
  · rw [if_neg (by exact fun z => z rfl)]
    refine wp_bn.mpr (wp_mono (fail_t g4 (w := 5) (by omega) (by omega) (fun z => by omega)) ?_)
    rintro _ t5 ⟨g5, k5⟩
    refine b69 _ t5 g5 (k14.tr k5) ?_ (fun _ => tRef_1)
    unfold gnd
    rw [if_pos ⟨z2, zv, hf⟩]
  · rw [if_pos (by decide)]
    refine b69 _ t4 g4 k14 ?_ (fun _ => rfl)
    unfold gnd
    rw [if_neg (fun z => by rw [z.2.2] at hf; cases hf)]
theorem mHeap {N e : Nat} {T : Nat → Nat} {H : HG} {x : TX} {τ : Ms} (hN : 1000 < N) (ht : TT T e) (h : TMx T e x τ) (w : WG H) (cg : MG 1424 H τ) (hk : kdS T e x.1 = 1) : wp (F12_readHeap N τ) fun _ τ' => MP T e τ (tNum T e 0 16 (spF T e (gm H) 4 x)) (hPi H (vlS T e (spF T e (gm H) 4 x).1)) τ' := by
  have hm := w.2.1.1
  have hsp : (spF T e (gm H) 4 x).2.1 = 0 → gm H < 4 := fun z => Classical.byContradiction fun y => by
    unfold spF at z
    rw [if_neg y, tStp_f (tRef_n x (by omega))] at z
    exact tRef_n x (by omega) z
  unfold F12_readHeap
  refine wp_bn.mpr (wp_mono (another_t (n := gm H) (m := 4) (cell := 1) hN ht h (by omega) cg.2.1.1 hm (by omega) hk) ?_)
  rintro _ t1 ⟨g1, k1⟩
  rw [show (15 : Int32) = cI 16 from rfl]
  refine wp_bn.mpr (wp_mono (count_t (lo := 0) (m := 16) hN ht g1 (by omega) (by omega)) ?_)
  rintro r t2 ⟨hr, g2, k2⟩
  have k12 := k1.tr k2
  have c2 := cg.k00 k12
  by_cases z : (tNum T e 0 16 (spF T e (gm H) 4 x)).2.1 = 0
  rotate_left
  · rw [if_neg (fun q => z (g2.f.1.mp q))]
    exact wp_some.mpr ⟨g2, fun q => absurd q z, KP.k k12⟩
  have hm4 := hsp (tNum_z z).1
  have e1 : t2.1 5 1425 = nI (gm H) := c2.2.1.1
  rw [if_pos (g2.f.1.mpr z), hr z, show ixb (1425 : Int32) 1780 = true by decide, show (1425 : Int32).toNatClampNeg = 1425 by decide, ck_t, e1, show (1489 : Int32) = nI 1489 from rfl, nI_add, u_ix (show 1489 + gm H < 1780 by omega) (by omega), ck_t, u_cl (show 1489 + gm H < 2147483648 by omega), lt_e, ck_t, ck_t, rI_j (show 1425 ≠ 1489 + gm H by omega), e1, L_1, nI_add, lt_e]
  refine wp_some.mpr ⟨g2.s5.s5, fun _ => ?_, (KP.k k12).tr ((KP.s (by omega) (by omega) (by omega)).tr (KP.s (by omega) (by omega) (by omega)))⟩
  have hn := w.n
  have hk5 := w.2.2.1
  refine ⟨⟨?_, fun i hi => ?_⟩, ⟨?_, fun i hi => ?_⟩, ?_, ?_, fun i hi => ?_⟩
  · rw [rI_j (by omega), rI_j (by omega)]; exact c2.1.1
  · have : i < gn H := hi
    obtain ⟨a, b, d⟩ := c2.1.2 i hi
    refine ⟨?_, ?_, ?_⟩
    · rw [rI_j (by omega), rI_j (by omega)]; exact a
    · rw [rI_j (by omega), rI_j (by omega)]; exact b
    · rw [rI_j (by omega), rI_j (by omega)]; exact d
  · rw [rI_e rfl rfl]
    rfl
  · have hi' : i < gm H + 1 := hi
    show _ = nI (if i = gm H then vlS T e (spF T e (gm H) 4 x).1 else gh H i)
    by_cases y : i = gm H
    · rw [if_pos y, rI_j (by omega), rI_e rfl (by omega)]
    · rw [if_neg y, rI_j (by omega), rI_j (by omega)]
      exact c2.2.1.2 i (by omega)
  · rw [rI_j (by omega), rI_j (by omega)]; exact c2.2.2.1
  · rw [rI_j (by omega), rI_j (by omega)]; exact c2.2.2.2.1
  · have : i < gk H := hi
    obtain ⟨a, b, d⟩ := c2.2.2.2.2 i hi
    refine ⟨?_, ?_, ?_⟩
    · rw [rI_j (by omega), rI_j (by omega)]; exact a
    · rw [rI_j (by omega), rI_j (by omega)]; exact b
    · rw [rI_j (by omega), rI_j (by omega)]; exact d
theorem offer4 {l r : Nat} {H : HG} {σ : Ms} (w : WG H) (cg : MG 1424 H σ) (hn : gk H < 5) (hT : gT H = 0) : ∃ t, F12_offers (4 : Int32) (nI l) (nI r) σ = some ((), t) ∧ MG 1424 (hOf H l r) t ∧ KP σ t ∧ (∀ k j, k ≠ 5 → t.1 k j = σ.1 k j) ∧ t.2 = σ.2 := by
  have hnn := w.n
  have hm := w.2.1.1
  unfold F12_offers
  have e2 := cg.2.2.1
  rw [show (356 : Int32) * (4 : Int32) = nI 1424 by decide, lt_e, show (2 : Int32) = nI 2 from rfl, show (69 : Int32) = nI 69 from rfl, show (5 : Int32) = nI 5 from rfl, show (79 : Int32) = nI 79 from rfl, nI_add, nI_add, nI_add, nI_add, u_ix (show 1424 + 2 < 1780 by omega) (by omega), u_cl (show 1424 + 2 < 2147483648 by omega), ck_t, e2, lt_e, nI_add, nI_add, nI_add, u_ix (show 1424 + 69 + gk H < 1780 by omega) (by omega), u_ix (show 1424 + 69 + 5 + gk H < 1780 by omega) (by omega), u_ix (show 1424 + 79 + gk H < 1780 by omega) (by omega), u_cl (show 1424 + 69 + gk H < 2147483648 by omega), u_cl (show 1424 + 69 + 5 + gk H < 2147483648 by omega), u_cl (show 1424 + 79 + gk H < 2147483648 by omega), ck_t, lt_e, ck_t, lt_e, ck_t, lt_e, ck_t, ck_t, lt_e, rI_j (show 1424 + 2 ≠ 1424 + 79 + gk H by omega), rI_j (show 1424 + 2 ≠ 1424 + 69 + 5 + gk H by omega), rI_j (show 1424 + 2 ≠ 1424 + 69 + gk H by omega), e2, L_1, nI_add]
  refine ⟨_, rfl, ?_, ?_, ?_, rfl⟩
  · refine ⟨⟨?_, fun i hi => ?_⟩, ⟨?_, fun i hi => ?_⟩, ?_, ?_, fun i hi => ?_⟩
    · rw [rI_j (by omega), rI_j (by omega), rI_j (by omega), rI_j (by omega)]; exact cg.1.1
    · have : i < gn H := hi
      obtain ⟨a, b, d⟩ := cg.1.2 i hi
      refine ⟨?_, ?_, ?_⟩
      · rw [rI_j (by omega), rI_j (by omega), rI_j (by omega), rI_j (by omega)]; exact a
      · rw [rI_j (by omega), rI_j (by omega), rI_j (by omega), rI_j (by omega)]; exact b
      · rw [rI_j (by omega), rI_j (by omega), rI_j (by omega), rI_j (by omega)]; exact d
    · rw [rI_j (by omega), rI_j (by omega), rI_j (by omega), rI_j (by omega)]; exact cg.2.1.1
    · have : i < gm H := hi
      rw [rI_j (by omega), rI_j (by omega), rI_j (by omega), rI_j (by omega)]; exact cg.2.1.2 i hi
    · rw [rI_e rfl rfl]
      rfl
    · rw [rI_j (by omega), rI_j (by omega), rI_j (by omega), rI_j (by omega)]; exact cg.2.2.2.1
    · have hi' : i < gk H + 1 := hi
      show _ = nI (if i = gk H then l else gl H i) ∧ _ = nI (if i = gk H then r else gr H i) ∧ _ = bI ((gT H).testBit i)
      by_cases z : i = gk H
      · rw [if_pos z, if_pos z, hT, Nat.zero_testBit]
        refine ⟨?_, ?_, ?_⟩
        · rw [rI_j (by omega), rI_j (by omega), rI_j (by omega), rI_e rfl (by omega)]
        · rw [rI_j (by omega), rI_j (by omega), rI_e rfl (by omega)]
        · rw [rI_j (by omega), rI_e rfl (by omega)]
          rfl
      · rw [if_neg z, if_neg z]
        obtain ⟨a, b, d⟩ := cg.2.2.2.2 i (by omega)
        refine ⟨?_, ?_, ?_⟩
        · rw [rI_j (by omega), rI_j (by omega), rI_j (by omega), rI_j (by omega)]; exact a
        · rw [rI_j (by omega), rI_j (by omega), rI_j (by omega), rI_j (by omega)]; exact b
        · rw [rI_j (by omega), rI_j (by omega), rI_j (by omega), rI_j (by omega)]; exact d
  · exact (((KP.s (by omega) (by omega) (by omega)).tr (KP.s (by omega) (by omega) (by omega))).tr (KP.s (by omega) (by omega) (by omega))).tr (KP.s (by omega) (by omega) (by omega))
  · intro k j h
    rw [rI_k h, rI_k h, rI_k h, rI_k h]
theorem mBet {N e : Nat} {T : Nat → Nat} {H : HG} {x : TX} {τ : Ms} (hN : 1000 < N) (ht : TT T e) (h : TMx T e x τ) (w : WG H) (hT : gT H = 0) (cg : MG 1424 H τ) (hk : kdS T e x.1 = 1) : wp (F12_readBet N τ) fun _ τ' => MP T e τ (tNum T e (if vlS T e (spF T e (gk H) 5 x).1 = 0 then 1 else 0) 21 (tNum T e 0 21 (spF T e (gk H) 5 x))) (hOf H (vlS T e (spF T e (gk H) 5 x).1) (vlS T e (tNum T e 0 21 (spF T e (gk H) 5 x)).1)) τ' := by
  have hm := w.2.2.1
  have hsp : (spF T e (gk H) 5 x).2.1 = 0 → gk H < 5 := fun z => Classical.byContradiction fun y => by
    unfold spF at z
    rw [if_neg y, tStp_f (tRef_n x (by omega))] at z
    exact tRef_n x (by omega) z
  unfold F12_readBet
  refine wp_bn.mpr (wp_mono (another_t (n := gk H) (m := 5) (cell := 2) hN ht h (by omega) cg.2.2.1 hm (by omega) hk) ?_)
  rintro _ t1 ⟨g1, k1⟩
  rw [show (20 : Int32) = cI 21 from rfl]
  refine wp_bn.mpr (wp_mono (count_t (lo := 0) (m := 21) hN ht g1 (by omega) (by omega)) ?_)
  rintro r t2 ⟨hr, g2, k2⟩
  have k12 := k1.tr k2
  have c2 := cg.k00 k12
  have last : ∀ (lo : Nat), lo < 2 → ((tNum T e 0 21 (spF T e (gk H) 5 x)).2.1 = 0 → lo = if vlS T e (spF T e (gk H) 5 x).1 = 0 then 1 else 0) → wp (F12_readBet_b24 N r (nI lo) t2) fun _ τ' => MP T e τ (tNum T e (if vlS T e (spF T e (gk H) 5 x).1 = 0 then 1 else 0) 21 (tNum T e 0 21 (spF T e (gk H) 5 x))) (hOf H (vlS T e (spF T e (gk H) 5 x).1) (vlS T e (tNum T e 0 21 (spF T e (gk H) 5 x)).1)) τ' := fun lo hlo he => by
    unfold F12_readBet_b24
    rw [show (20 : Int32) = cI 21 from rfl]
    refine wp_bn.mpr (wp_mono (count_t (lo := lo) (m := 21) hN ht g2 (by omega) (by omega)) ?_)
    rintro r' t3 ⟨hr', g3, k3⟩
    have ex : tNum T e lo 21 (tNum T e 0 21 (spF T e (gk H) 5 x)) = tNum T e (if vlS T e (spF T e (gk H) 5 x).1 = 0 then 1 else 0) 21 (tNum T e 0 21 (spF T e (gk H) 5 x)) := by
      by_cases z : (tNum T e 0 21 (spF T e (gk H) 5 x)).2.1 = 0
      · rw [← he z]
      · rw [tNum_f z, tNum_f z]
    rw [ex] at hr' g3
    have k13 := k12.tr k3
    by_cases z : (tNum T e (if vlS T e (spF T e (gk H) 5 x).1 = 0 then 1 else 0) 21 (tNum T e 0 21 (spF T e (gk H) 5 x))).2.1 = 0
    · have z2 := (tNum_z z).1
      rw [if_neg (fun q => g3.f.2.2.mp q z), hr' z, hr z2]
      obtain ⟨t', e', m', kp', k0, kl⟩ := offer4 (l := vlS T e (spF T e (gk H) 5 x).1) (r := vlS T e (tNum T e 0 21 (spF T e (gk H) 5 x)).1) w (cg.k00 k13) (hsp (tNum_z z2).1) hT
      rw [e', bn_s]
      exact wp_some.mpr ⟨g3.mv (fun j => k0 _ _ (by omega)) (fun j => k0 _ _ (by omega)) kl, fun _ => m', (KP.k k13).tr kp'⟩
    · rw [if_pos (g3.f.2.2.mpr z)]
      exact wp_some.mpr ⟨g3, fun q => absurd q z, KP.k k13⟩
  split
  · next hz =>
    refine last 0 (by omega) (fun z => ?_)
    rw [if_neg (fun y => hz (by rw [hr z, y]; rfl))]
  · next hz =>
    refine last 1 (by omega) (fun z => ?_)
    have hv := (tNum_z z).2.2.2
    rw [if_pos (Classical.byContradiction fun y => hz (by
      rw [hr z]
      exact fun q => y ((nI_eq (b := 0) (by omega) (by omega)).mp q)))]
theorem isWd_k {T : Nat → Nat} {e s i : Nat} (h : isWd T e s i = true) : kdS T e s = 1 := by
  unfold isWd at h
  simp only [Bool.and_eq_true, decide_eq_true_eq] at h
  exact h.1
/-- a part of the model's text with its sign -/
theorem mPartT {N e : Nat} {T : Nat → Nat} {H : HG} {x : TX} {τ : Ms} {A : Type} {P : A → Ms → Prop} {K : Unit → Ms → Option (A × Ms)} (hN : 1000 < N) (ht : TT T e) (h : TMx T e x τ) (w : WG H) (hT : gT H = 0) (cg : MG 1424 H τ) (hK : ∀ t, TMx T e (pPart T e x H).1 t → ((pPart T e x H).1.2.1 = 0 → MG 1424 (pPart T e x H).2 t) → KP τ t → wp (K () t) P) : wp (bn (F12_readPart N τ) fun _ t6 => bn (F12_isSign (59 : Int32) t6) fun r7 t8 => bn (F12_must N r7 t8) K) P := by
  have close : ∀ (y : TX) (H' : HG) (t : Ms), MP T e τ y H' t → (pPart T e x H).1 = clsT T e y → ((clsT T e y).2.1 = 0 → (pPart T e x H).2 = H') → wp (bn (F12_isSign (59 : Int32) t) fun r7 t8 => bn (F12_must N r7 t8) K) P := fun y H' t g e1 e2 => by
    refine close_m hN ht g.1 ?_
    intro t' g1 k1
    have g1' : TMx T e (clsT T e y) t' := g1
    refine hK t' (by rw [e1]; exact g1') (fun z => ?_) (g.2.2.tr (KP.k k1))
    rw [e1] at z
    rw [e2 z]
    exact (g.2.1 (clsT_z z)).k00 k1
  unfold F12_readPart
  rw [isSprig_m h.2.1, bn_s]
  cases h0 : isWd T e x.1 0
  rotate_left
  · have ep : pPart T e x H = pSprig T e x H := by
      unfold pPart
      rw [h0, if_pos (by rfl)]
    rw [if_neg (by decide)]
    refine wp_bn.mpr (wp_bn.mpr (wp_mono (mSprig hN ht h w cg (isWd_k h0)) ?_))
    intro _ t g
    refine wp_some.mpr (close _ _ t g (by rw [ep]; rfl) (fun z => ?_))
    rw [ep]
    exact if_pos z
  rw [if_pos (by rfl), isHeap_m h.2.1, bn_s]
  cases h1 : isWd T e x.1 1
  rotate_left
  · have ep : pPart T e x H = pHeap T e x H := by
      unfold pPart
      rw [h0, if_neg (by decide), h1, if_pos (by rfl)]
    rw [if_neg (by decide)]
    refine wp_bn.mpr (wp_bn.mpr (wp_mono (mHeap hN ht h w cg (isWd_k h1)) ?_))
    intro _ t g
    refine wp_some.mpr (close _ _ t g (by rw [ep]; rfl) (fun z => ?_))
    rw [ep]
    exact if_pos z
  rw [if_pos (by rfl), isBet_m h.2.1, bn_s]
  cases h2 : isWd T e x.1 2
  rotate_left
  · have ep : pPart T e x H = pBet T e x H := by
      unfold pPart
      rw [h0, if_neg (by decide), h1, if_neg (by decide), h2, if_pos (by rfl)]
    rw [if_neg (by decide)]
    refine wp_bn.mpr (wp_bn.mpr (wp_mono (mBet hN ht h w hT cg (isWd_k h2)) ?_))
    intro _ t g
    refine wp_some.mpr (close _ _ t g (by rw [ep]; rfl) (fun z => ?_))
    rw [ep]
    exact if_pos z
  have ep : pPart T e x H = (tRef T e 2 x, H) := by
    unfold pPart
    rw [h0, if_neg (by decide), h1, if_neg (by decide), h2, if_neg (by decide)]
  rw [if_pos (by rfl)]
  refine wp_bn.mpr (wp_bn.mpr (wp_mono (amiss_t h) ?_))
  rintro _ t ⟨g1, g2⟩
  have hne : (tRef T e 2 x).2.1 ≠ 0 := tRef_n x (by omega)
  refine wp_some.mpr (close (tRef T e 2 x) H t ⟨g1, fun z => absurd z hne, KP.k g2⟩ (by rw [ep, clsT_f hne]) (fun z => ?_))
  rw [clsT_f hne] at z
  exact absurd z hne
