/-- a part of the text of a hedge -/
def ftB (H : HG) (c j : Nat) : Bool := decide (c = 2) == decide (gc H j = 2)
def spF (T : Nat → Nat) (e n m : Nat) (x : TX) : TX := tStp T e (if n < m then x else tRef T e 6 x)
def clsT (T : Nat → Nat) (e : Nat) (x : TX) : TX := tMust T e (isMk T e x.1 59) x
def gnd (T : Nat → Nat) (e : Nat) (H : HG) (c : Nat) (y : TX) : TX := if kdS T e y.1 = 2 ∧ vlS T e y.1 < gn H ∧ ftB H c (vlS T e y.1) = false then tRef T e 5 y else y
def spOn (T : Nat → Nat) (e : Nat) (H : HG) (c : Nat) (x : TX) : TX := if isWd T e x.1 3 = true then tNum T e 0 (gn H) (gnd T e H c (tStp T e x)) else x
def spO (T : Nat → Nat) (e : Nat) (x : TX) : Nat := if isWd T e x.1 3 = true then vlS T e (tStp T e x).1 + 1 else 0
def pSprig (T : Nat → Nat) (e : Nat) (x : TX) (H : HG) : TX × HG :=
  let x1 := spF T e (gn H) 20 x
  let c := wich T e x1.1 4 3 0
  let x2 := tWch T e 4 3 x1
  let x6 := clsT T e (spOn T e H c x2)
  (x6, if x6.2.1 = 0 then hGr H c (spO T e x2) else H)
def pHeap (T : Nat → Nat) (e : Nat) (x : TX) (H : HG) : TX × HG :=
  let x1 := spF T e (gm H) 4 x
  let x3 := clsT T e (tNum T e 0 16 x1)
  (x3, if x3.2.1 = 0 then hPi H (vlS T e x1.1) else H)
def pBet (T : Nat → Nat) (e : Nat) (x : TX) (H : HG) : TX × HG :=
  let x1 := spF T e (gk H) 5 x
  let x2 := tNum T e 0 21 x1
  let x3 := tNum T e (if vlS T e x1.1 = 0 then 1 else 0) 21 x2
  let x4 := clsT T e x3
  (x4, if x4.2.1 = 0 then hOf H (vlS T e x1.1) (vlS T e x2.1) else H)
def pPart (T : Nat → Nat) (e : Nat) (x : TX) (H : HG) : TX × HG := if isWd T e x.1 0 = true then pSprig T e x H else if isWd T e x.1 1 = true then pHeap T e x H else if isWd T e x.1 2 = true then pBet T e x H else (tRef T e 2 x, H)
def PH (H : HG) : Prop := WG H ∧ (∀ i, i < gn H → (gS H).testBit i = true) ∧ gT H = 0 ∧ gz H = 0
theorem tRef_1 {T : Nat → Nat} {e w : Nat} {x : TX} : (tRef T e w x).1 = x.1 := by
  unfold tRef
  split <;> rfl
theorem clsT_f {T : Nat → Nat} {e : Nat} {x : TX} (h : x.2.1 ≠ 0) : clsT T e x = x := tMust_f h
theorem clsT_z {T : Nat → Nat} {e : Nat} {x : TX} (h : (clsT T e x).2.1 = 0) : x.2.1 = 0 := Classical.byContradiction fun z => by
  rw [clsT_f z] at h
  exact z h
theorem tNum_z {T : Nat → Nat} {e lo m : Nat} {x : TX} (h : (tNum T e lo m x).2.1 = 0) : x.2.1 = 0 ∧ kdS T e x.1 = 2 ∧ lo ≤ vlS T e x.1 ∧ vlS T e x.1 < m := by
  have h0 : x.2.1 = 0 := Classical.byContradiction fun z => by
    rw [tNum_f z] at h
    exact z h
  refine ⟨h0, ?_⟩
  unfold tNum at h
  by_cases q : kdS T e x.1 = 2
  · rw [if_pos q] at h
    by_cases q2 : lo ≤ vlS T e x.1 ∧ vlS T e x.1 < m
    · exact ⟨q, q2⟩
    · rw [if_neg q2, tStp_f (tRef_n x (by omega))] at h
      exact absurd h (tRef_n x (by omega))
  · rw [if_neg q, tStp_f (tRef_n x (by omega))] at h
    exact absurd h (tRef_n x (by omega))
theorem tWch_z {T : Nat → Nat} {e i m : Nat} {x : TX} (h : (tWch T e i m x).2.1 = 0) : x.2.1 = 0 ∧ wich T e x.1 i m 0 < m := by
  have h0 : x.2.1 = 0 := Classical.byContradiction fun z => by
    rw [tWch_f z] at h
    exact z h
  refine ⟨h0, ?_⟩
  have := (wich_le (T := T) (e := e) (s := x.1) (i := i) m 0).2
  unfold tWch at h
  by_cases q : wich T e x.1 i m 0 = m
  · rw [if_pos q, tStp_f (tRef_n x (by omega))] at h
    exact absurd h (tRef_n x (by omega))
  · omega
theorem gnd_z {T : Nat → Nat} {e c : Nat} {H : HG} {y : TX} (h : (tNum T e 0 (gn H) (gnd T e H c y)).2.1 = 0) : y.2.1 = 0 ∧ vlS T e y.1 < gn H ∧ ftB H c (vlS T e y.1) = true ∧ gnd T e H c y = y := by
  obtain ⟨h1, h2, -, h4⟩ := tNum_z h
  unfold gnd at *
  by_cases q : kdS T e y.1 = 2 ∧ vlS T e y.1 < gn H ∧ ftB H c (vlS T e y.1) = false
  · rw [if_pos q] at h1
    exact absurd h1 (tRef_n y (by omega))
  · rw [if_neg q] at *
    refine ⟨h1, h4, ?_, rfl⟩
    cases hf : ftB H c (vlS T e y.1)
    · exact absurd ⟨h2, h4, hf⟩ q
    · rfl
theorem WG_pi {H : HG} {v : Nat} (w : WG H) (hm : gm H < 4) (hv : v ≤ 15) : WG (hPi H v) := by
  refine ⟨w.1, ⟨hm, fun i hi => ?_⟩, w.2.2⟩
  have hi' : i < gm H + 1 := hi
  show (if i = gm H then v else gh H i) ≤ 15
  split
  · exact hv
  · exact w.2.1.2 i (by omega)
theorem WG_of {H : HG} {l r : Nat} (w : WG H) (hk : gk H < 5) (hl : l ≤ 20) (hr : r ≤ 20) (h0 : 0 < l + r) : WG (hOf H l r) := by
  obtain ⟨h1, h2, h3, h4, h5, h6, h7⟩ := w
  refine ⟨h1, h2, hk, Nat.lt_of_lt_of_le h4 (Nat.pow_le_pow_right (by decide) (Nat.le_succ _)), fun i hi => ?_, h6, h7⟩
  have hi' : i < gk H + 1 := hi
  show (if i = gk H then l else gl H i) ≤ 20 ∧ (if i = gk H then r else gr H i) ≤ 20 ∧ 0 < (if i = gk H then l else gl H i) + (if i = gk H then r else gr H i)
  by_cases q : i = gk H
  · rw [if_pos q, if_pos q]
    exact ⟨hl, hr, h0⟩
  · rw [if_neg q, if_neg q]
    exact h5 i (by omega)
theorem PH_gr {H : HG} {c o : Nat} (h : PH H) (hc : c ≤ 2) (hn : gn H < 20) (ho : o = 0 ∨ (o - 1 < gn H ∧ ftB H c (o - 1) = true)) : PH (hGr H c o) := by
  obtain ⟨w, hs, ht, hz⟩ := h
  refine ⟨WG_grow w hc ?_, fun i hi => ?_, ht, hz⟩
  · unfold growB
    rw [decide_eq_true hn, Bool.true_and]
    rcases ho with h | ⟨h1, h2⟩
    · rw [h]; rfl
    · rw [decide_eq_true h1, hs _ h1]
      unfold ftB at h2
      rw [h2]
      simp
  · have hi' : i < gn H + 1 := hi
    show (gS H ||| 2 ^ gn H).testBit i = true
    rw [Nat.testBit_or, Nat.testBit_two_pow]
    by_cases q : gn H = i
    · rw [decide_eq_true q, Bool.or_true]
    · rw [hs i (by omega)]
      rfl
theorem CG.k20 {H : HG} {σ τ : Ms} (c : CG 30 H σ) (k : K20 σ τ) : CG 30 H τ := c.mv (fun j _ _ => k.1 _ _ (by omega)) (fun a j _ _ => k.1 _ _ (by omega))
theorem first_t {N e n m w : Nat} {T : Nat → Nat} {x : TX} {τ : Ms} {P : Unit → Ms → Prop} {K : Ms → Option (Unit × Ms)} (hN : 1000 < N) (ht : TT T e) (h : TC T e x τ) (hn : w = n) (hn' : n < 1000) (hm : m < 1000) (hK : ∀ t, TC T e (spF T e n m x) t → K20 τ t → wp (K t) P) : wp (if nI w < nI m then bn (F8_step N τ) (fun _ t => K t) else bn (F8_refuse (6 : Int32) τ) (fun _ t16 => bn (F8_step N t16) (fun _ t => K t))) P := by
  subst hn
  unfold spF at hK
  by_cases q : w < m
  · rw [if_pos (nI_lt q (by omega))]
    rw [if_pos q] at hK
    exact wp_bn.mpr (wp_mono (step_t hN ht h) fun _ t g => hK t g.1 g.2)
  · rw [if_neg (nI_nlt (by omega) (by omega))]
    rw [if_neg q] at hK
    refine wp_bn.mpr (wp_mono (refuse_t h (w := 6) (by omega) (by omega)) fun _ t g => ?_)
    exact wp_bn.mpr (wp_mono (step_t hN ht g.1) fun _ t' g' => hK t' g'.1 (g.2.tr g'.2))
theorem fits_any {p : Int32} {j : Nat} {H : HG} {σ : Ms} (w : WG H) (cg : CG 30 H σ) (hj : j < gn H) : ∃ r, F0_fits 30 p (nI j) σ = some (r, σ) := by
  have hn := w.n
  have b40 : ∀ a b : Int32, ∃ r, F0_fits_b40 30 a b σ = some (r, σ) := fun a b => by
    unfold F0_fits_b40
    split <;> exact ⟨_, rfl⟩
  unfold F0_fits F0_fits_b25
  rw [if_pos (by exact fun z => (u_eqm (a := j) (by omega)).mp z), hasSprig_in hn cg.1.1 hj, bn_s, if_neg (by decide), u_ix (show j < 20 by omega) (by omega), ck_t, ck_t, u_cl (by omega)]
  split
  · split
    · exact b40 _ _
    · exact b40 _ _
  · split
    · exact b40 _ _
    · exact b40 _ _
theorem ground_t {N e c : Nat} {T : Nat → Nat} {p : Int32} {H : HG} {y : TX} {τ : Ms} (hN : 1000 < N) (ht : TT T e) (h : TC T e y τ) (w : WG H) (cg : CG 30 H τ) (hc : y.2.1 = 0 → c ≤ 2 ∧ p = nI c) : wp (F1_takeGround N 30 p τ) fun r τ' => ((tNum T e 0 (gn H) (gnd T e H c y)).2.1 = 0 → r = nI (vlS T e y.1)) ∧ TC T e (tNum T e 0 (gn H) (gnd T e H c y)) τ' ∧ K20 τ τ' := by
  have hn := w.n
  have hk5 := kdS_lt T e y.1
  have fin2 : ∀ (z : TX) (t : Ms), TC T e z t → K20 τ t → z = gnd T e H c y → wp (F1_takeGround_b28 N 30 t) fun r τ' => ((tNum T e 0 (gn H) (gnd T e H c y)).2.1 = 0 → r = nI (vlS T e y.1)) ∧ TC T e (tNum T e 0 (gn H) (gnd T e H c y)) τ' ∧ K20 τ τ' := fun z t hz kt e1 => by
    unfold F1_takeGround_b28
    have e5 : t.1 30 5 = nI (gn H) := (kt.1 _ _ (by omega)).trans cg.1.1
    rw [e5]
    refine wp_bn.mpr (wp_mono (num_t (lo := 0) (m := gn H) hN ht hz (by omega) (by omega)) ?_)
    rintro r t' ⟨g1, g2, g3⟩
    rw [e1] at g1 g2
    refine wp_some.mpr ⟨fun z0 => ?_, g2, kt.tr g3⟩
    have := gnd_z z0
    rw [(g1 z0).1, this.2.2.2]
  unfold F1_takeGround F8_isNumberBelow F8_valueHere
  rw [h.2.1.1, cg.1.1]
  by_cases q : kdS T e y.1 = 2
  rotate_left
  · rw [if_pos (by exact fun z => q ((nI_eq (b := 2) (by omega) (by omega)).mp z)), bn_s, if_pos (by rfl)]
    refine fin2 y τ h (K20.rf τ) ?_
    unfold gnd
    rw [if_neg (fun z => q z.1)]
  have hv := vl_lt ht q
  rw [q, if_neg (by exact fun z => z rfl), h.2.1.2.2.2 q]
  by_cases q2 : vlS T e y.1 < gn H
  rotate_left
  · rw [if_pos (nI_le (by omega) (by omega)), bn_s, if_pos (by rfl)]
    refine fin2 y τ h (K20.rf τ) ?_
    unfold gnd
    rw [if_neg (fun z => q2 z.2.1)]
  rw [if_neg (nI_ge q2 (by omega)), bn_s, if_neg (by decide), bn_s, h.2.1.2.2.2 q]
  by_cases q3 : y.2.1 = 0
  · obtain ⟨c2, rfl⟩ := hc q3
    rw [fits_in w cg c2 q2, bn_s]
    have ef : (decide (c = 2) == decide (gc H (vlS T e y.1) = 2)) = ftB H c (vlS T e y.1) := rfl
    rw [ef]
    cases hf : ftB H c (vlS T e y.1)
    · rw [if_neg (by exact fun z => z rfl)]
      refine wp_bn.mpr (wp_mono (refuse_t h (w := 5) (by omega) (by omega)) fun _ t g => ?_)
      refine fin2 _ t g.1 g.2 ?_
      unfold gnd
      rw [if_pos ⟨q, q2, hf⟩]
    · rw [if_pos (by decide)]
      refine fin2 y τ h (K20.rf τ) ?_
      unfold gnd
      rw [if_neg (fun z => by rw [z.2.2] at hf; cases hf)]
  · obtain ⟨r, hr⟩ := fits_any (p := p) w cg q2
    have eg : gnd T e H c y = y := by
      unfold gnd
      rw [tRef_f q3, ite_self]
    rw [hr, bn_s]
    split
    · exact fin2 y τ h (K20.rf τ) eg.symm
    · refine wp_bn.mpr (wp_mono (refuse_t h (w := 5) (by omega) (by omega)) fun _ t g => ?_)
      have g1 := g.1
      rw [tRef_f q3] at g1
      exact fin2 y t g1 g.2 eg.symm
/-- what the class's parts write: the tokens and the trial hedge -/
theorem cSprig {N e : Nat} {T : Nat → Nat} {H : HG} {x : TX} {τ : Ms} (hN : 1000 < N) (ht : TT T e) (h : TC T e x τ) (w : WG H) (cg : CG 30 H τ) : wp (F1_parseSprig N 30 τ) fun _ τ' => TC T e (pSprig T e x H).1 τ' ∧ CG 30 (pSprig T e x H).2 τ' := by
  have hn := w.n
  have hN20 : (x.2.1 = 0 ∧ ¬ gn H < 20) → (spF T e (gn H) 20 x).2.1 ≠ 0 := fun z => by
    unfold spF
    rw [if_neg z.2, tStp_f (tRef_n x (by omega))]
    exact tRef_n x (by omega)
  have hsp : (spF T e (gn H) 20 x).2.1 = 0 → gn H < 20 := fun z => Classical.byContradiction fun y => by
    unfold spF at z
    rw [if_neg y, tStp_f (tRef_n x (by omega))] at z
    exact tRef_n x (by omega) z
  unfold F1_parseSprig F1_parseSprig_b15
  rw [cg.1.1]
  refine first_t (n := gn H) (m := 20) hN ht h rfl (by omega) (by omega) ?_
  intro t1 g1 k1
  refine wp_bn.mpr (wp_mono (col_t hN ht g1) ?_)
  rintro _ t2 ⟨rfl, g2, k2⟩
  have k12 := k1.tr k2
  rw [word_t hN ht g2 (by omega), bn_s]
  have hcol : (tWch T e 4 3 (spF T e (gn H) 20 x)).2.1 = 0 → wich T e (spF T e (gn H) 20 x).1 4 3 0 ≤ 2 ∧ wI 3 (wich T e (spF T e (gn H) 20 x).1 4 3 0) = nI (wich T e (spF T e (gn H) 20 x).1 4 3 0) := fun z => by
    have := (tWch_z z).2
    exact ⟨by omega, if_neg (by omega)⟩
  have last : ∀ (y : TX) (o : Nat) (v : Int32) (t : Ms), TC T e y t → CG 30 H t → y = spOn T e H (wich T e (spF T e (gn H) 20 x).1 4 3 0) (tWch T e 4 3 (spF T e (gn H) 20 x)) → (y.2.1 = 0 → (tWch T e 4 3 (spF T e (gn H) 20 x)).2.1 = 0 ∧ v = cI (spO T e (tWch T e 4 3 (spF T e (gn H) 20 x)))) → wp (F1_parseSprig_b46 N 30 (wI 3 (wich T e (spF T e (gn H) 20 x).1 4 3 0)) v t) fun _ τ' => TC T e (pSprig T e x H).1 τ' ∧ CG 30 (pSprig T e x H).2 τ' := fun y o v t hy hcg e1 hv => by
    unfold F1_parseSprig_b46
    refine wp_bn.mpr (wp_mono (close_t hN ht hy) ?_)
    rintro _ t' ⟨g3, k3⟩
    have g3' : TC T e (clsT T e y) t' := g3
    have hp1 : (pSprig T e x H).1 = clsT T e y := by
      rw [e1]
      rfl
    have hp2 : (pSprig T e x H).2 = if (clsT T e y).2.1 = 0 then hGr H (wich T e (spF T e (gn H) 20 x).1 4 3 0) (spO T e (tWch T e 4 3 (spF T e (gn H) 20 x))) else H := by
      rw [e1]
      rfl
    rw [hp1, hp2, g3'.2.2.2.1]
    have h100 := g3'.2.2.2.2.2
    by_cases z : (clsT T e y).2.1 = 0
    · have hy0 := clsT_z z
      obtain ⟨hw0, rfl⟩ := hv hy0
      obtain ⟨c2, ec⟩ := hcol hw0
      rw [z, if_neg (by exact fun z => z rfl), if_pos (by rfl), ec]
      refine wp_bn.mpr (wp_mono (cGrow w (hcg.k20 k3) (hsp (tWch_z hw0).1)) ?_)
      rintro _ t'' ⟨g4, -, hF⟩
      have o := hF.win (win_addSprig 30)
      exact wp_some.mpr ⟨g3'.mv (fun j => o _ _ (by omega)) (fun j => o _ _ (by omega)), g4⟩
    · rw [if_pos (by exact fun y => z ((nI_eq (b := 0) (by omega) (by omega)).mp y)), if_neg z]
      exact wp_some.mpr ⟨g3', hcg.k20 k3⟩
  cases hb : isWd T e (tWch T e 4 3 (spF T e (gn H) 20 x)).1 3
  · rw [if_pos (by rfl)]
    have e1 : tWch T e 4 3 (spF T e (gn H) 20 x) = spOn T e H (wich T e (spF T e (gn H) 20 x).1 4 3 0) (tWch T e 4 3 (spF T e (gn H) 20 x)) := by
      unfold spOn
      rw [hb, if_neg (by decide)]
    refine last _ 0 _ t2 g2 (cg.k20 k12) e1 (fun z => ⟨z, ?_⟩)
    unfold spO
    rw [hb, if_neg (by decide)]
    rfl
  · rw [if_neg (by decide)]
    refine wp_bn.mpr (wp_mono (step_t hN ht g2) ?_)
    rintro _ t3 ⟨g3, k3⟩
    have k13 := k12.tr k3
    refine wp_bn.mpr (wp_mono (ground_t (c := wich T e (spF T e (gn H) 20 x).1 4 3 0) hN ht g3 w (cg.k20 k13) (fun z => hcol (Classical.byContradiction fun y => by
      rw [tStp_f y] at z
      exact y z))) ?_)
    rintro r t4 ⟨g4, g5, k4⟩
    have e1 : tNum T e 0 (gn H) (gnd T e H (wich T e (spF T e (gn H) 20 x).1 4 3 0) (tStp T e (tWch T e 4 3 (spF T e (gn H) 20 x)))) = spOn T e H (wich T e (spF T e (gn H) 20 x).1 4 3 0) (tWch T e 4 3 (spF T e (gn H) 20 x)) := by
      unfold spOn
      rw [hb, if_pos (by rfl)]
    refine last _ 0 r t4 g5 (cg.k20 (k13.tr k4)) e1 (fun z => ⟨?_, ?_⟩)
    · have := (gnd_z z).1
      exact Classical.byContradiction fun y => by
        rw [tStp_f y] at this
        exact y this
    · unfold spO
      rw [hb, if_pos (by rfl), cI_s]
      exact g4 z
theorem cHeap {N e : Nat} {T : Nat → Nat} {H : HG} {x : TX} {τ : Ms} (hN : 1000 < N) (ht : TT T e) (h : TC T e x τ) (w : WG H) (cg : CG 30 H τ) : wp (F1_parseHeap N 30 τ) fun _ τ' => TC T e (pHeap T e x H).1 τ' ∧ CG 30 (pHeap T e x H).2 τ' := by
  have hn := w.2.1.1
  have hsp : (spF T e (gm H) 4 x).2.1 = 0 → gm H < 4 := fun z => Classical.byContradiction fun y => by
    unfold spF at z
    rw [if_neg y, tStp_f (tRef_n x (by omega))] at z
    exact tRef_n x (by omega) z
  unfold F1_parseHeap F1_parseHeap_b14
  rw [cg.2.1.1]
  refine first_t (n := gm H) (m := 4) hN ht h rfl (by omega) (by omega) ?_
  intro t1 g1 k1
  rw [show (15 : Int32) = cI 16 from rfl]
  refine wp_bn.mpr (wp_mono (num_t (lo := 0) (m := 16) hN ht g1 (by omega) (by omega)) ?_)
  rintro r t2 ⟨hr, g2, k2⟩
  refine wp_bn.mpr (wp_mono (close_t hN ht g2) ?_)
  rintro _ t3 ⟨g3, k3⟩
  have g3' : TC T e (clsT T e (tNum T e 0 16 (spF T e (gm H) 4 x))) t3 := g3
  have hp1 : (pHeap T e x H).1 = clsT T e (tNum T e 0 16 (spF T e (gm H) 4 x)) := rfl
  have hp2 : (pHeap T e x H).2 = if (clsT T e (tNum T e 0 16 (spF T e (gm H) 4 x))).2.1 = 0 then hPi H (vlS T e (spF T e (gm H) 4 x).1) else H := rfl
  have c3 := cg.k20 ((k1.tr k2).tr k3)
  rw [hp1, hp2, g3'.2.2.2.1]
  have h100 := g3'.2.2.2.2.2
  by_cases z : (clsT T e (tNum T e 0 16 (spF T e (gm H) 4 x))).2.1 = 0
  · obtain ⟨rfl, -, hv⟩ := hr (clsT_z z)
    have hm4 := hsp (tNum_z (clsT_z z)).1
    rw [z, if_neg (by exact fun z => z rfl), if_pos (show (0 : Nat) = 0 from rfl)]
    unfold F0_addHeap
    rw [c3.2.1.1, if_pos (by exact nI_lt (b := 4) hm4 (by omega)), u_ix (show gm H < 4 by omega) (by omega), ck_t, lt_e, lt_e, u_cl (by omega), bn_s, rI_k (show 30 ≠ 30 + 3 by omega), c3.2.1.1, L_1, nI_add]
    refine wp_some.mpr ⟨g3'.mv (fun j => by rw [rI_k (by omega), rI_k (by omega)]) (fun j => by rw [rI_k (by omega), rI_k (by omega)]), ?_⟩
    refine ⟨⟨by try simp (disch := first | omega | assumption) only [lt_e, bn_s, ck_t, nk0, nk1, nk_b, bI_t, bI_f, L_0, L_1, L_2, L_3, L_4, L_5, L_6, L_7, L_8, L_9, L_10, L_11, L_12, L_15, L_20, L_25, L_30, L_45, L_60, L_65, L_69, L_74, L_79, L_84, L_85, L_86, L_99, L_100, L_255, L_300, L_356, L_900, L_1424, L_1425, L_1489, L_1510, L_9999, L_10000, nI_add, nI_mul, u_lt_t, u_lt_f, u_le_t, u_le_f, u_eq_t, u_eq_f, u_mlt, u_ltm, u_eqm, u_meq, u_mle, u_b0, u_b1, u_ix, u_cl, u_sub, u_suc, u_z0, u_0m, cI_0, cI_s, rI_e, rI_k, rI_j, rI_l, rL_e, rL_k, rL_j, rL_i, told11, none11, refuse12, no11q, no12q, yes11q, if_true, if_false, ite_true, ite_false, ne_eq, not_true_eq_false, not_false_eq_true, Classical.not_not, Bool.not_eq_true, Bool.not_eq_false, reduceCtorEq, Nat.add_zero, Nat.zero_add, Nat.mul_zero, and_self, and_true, true_and, Bool.true_eq_false, Bool.false_eq_true, eq_self]; exact c3.1.1, by try simp (disch := first | omega | assumption) only [lt_e, bn_s, ck_t, nk0, nk1, nk_b, bI_t, bI_f, L_0, L_1, L_2, L_3, L_4, L_5, L_6, L_7, L_8, L_9, L_10, L_11, L_12, L_15, L_20, L_25, L_30, L_45, L_60, L_65, L_69, L_74, L_79, L_84, L_85, L_86, L_99, L_100, L_255, L_300, L_356, L_900, L_1424, L_1425, L_1489, L_1510, L_9999, L_10000, nI_add, nI_mul, u_lt_t, u_lt_f, u_le_t, u_le_f, u_eq_t, u_eq_f, u_mlt, u_ltm, u_eqm, u_meq, u_mle, u_b0, u_b1, u_ix, u_cl, u_sub, u_suc, u_z0, u_0m, cI_0, cI_s, rI_e, rI_k, rI_j, rI_l, rL_e, rL_k, rL_j, rL_i, told11, none11, refuse12, no11q, no12q, yes11q, if_true, if_false, ite_true, ite_false, ne_eq, not_true_eq_false, not_false_eq_true, Classical.not_not, Bool.not_eq_true, Bool.not_eq_false, reduceCtorEq, Nat.add_zero, Nat.zero_add, Nat.mul_zero, and_self, and_true, true_and, Bool.true_eq_false, Bool.false_eq_true, eq_self]; exact c3.1.2.1, fun i hi => by try simp (disch := first | omega | assumption) only [lt_e, bn_s, ck_t, nk0, nk1, nk_b, bI_t, bI_f, L_0, L_1, L_2, L_3, L_4, L_5, L_6, L_7, L_8, L_9, L_10, L_11, L_12, L_15, L_20, L_25, L_30, L_45, L_60, L_65, L_69, L_74, L_79, L_84, L_85, L_86, L_99, L_100, L_255, L_300, L_356, L_900, L_1424, L_1425, L_1489, L_1510, L_9999, L_10000, nI_add, nI_mul, u_lt_t, u_lt_f, u_le_t, u_le_f, u_eq_t, u_eq_f, u_mlt, u_ltm, u_eqm, u_meq, u_mle, u_b0, u_b1, u_ix, u_cl, u_sub, u_suc, u_z0, u_0m, cI_0, cI_s, rI_e, rI_k, rI_j, rI_l, rL_e, rL_k, rL_j, rL_i, told11, none11, refuse12, no11q, no12q, yes11q, if_true, if_false, ite_true, ite_false, ne_eq, not_true_eq_false, not_false_eq_true, Classical.not_not, Bool.not_eq_true, Bool.not_eq_false, reduceCtorEq, Nat.add_zero, Nat.zero_add, Nat.mul_zero, and_self, and_true, true_and, Bool.true_eq_false, Bool.false_eq_true, eq_self]; exact c3.1.2.2 i hi⟩, ⟨by try simp (disch := first | omega | assumption) only [lt_e, bn_s, ck_t, nk0, nk1, nk_b, bI_t, bI_f, L_0, L_1, L_2, L_3, L_4, L_5, L_6, L_7, L_8, L_9, L_10, L_11, L_12, L_15, L_20, L_25, L_30, L_45, L_60, L_65, L_69, L_74, L_79, L_84, L_85, L_86, L_99, L_100, L_255, L_300, L_356, L_900, L_1424, L_1425, L_1489, L_1510, L_9999, L_10000, nI_add, nI_mul, u_lt_t, u_lt_f, u_le_t, u_le_f, u_eq_t, u_eq_f, u_mlt, u_ltm, u_eqm, u_meq, u_mle, u_b0, u_b1, u_ix, u_cl, u_sub, u_suc, u_z0, u_0m, cI_0, cI_s, rI_e, rI_k, rI_j, rI_l, rL_e, rL_k, rL_j, rL_i, told11, none11, refuse12, no11q, no12q, yes11q, if_true, if_false, ite_true, ite_false, ne_eq, not_true_eq_false, not_false_eq_true, Classical.not_not, Bool.not_eq_true, Bool.not_eq_false, reduceCtorEq, Nat.add_zero, Nat.zero_add, Nat.mul_zero, and_self, and_true, true_and, Bool.true_eq_false, Bool.false_eq_true, eq_self]; rfl, fun i hi => ?_⟩, by try simp (disch := first | omega | assumption) only [lt_e, bn_s, ck_t, nk0, nk1, nk_b, bI_t, bI_f, L_0, L_1, L_2, L_3, L_4, L_5, L_6, L_7, L_8, L_9, L_10, L_11, L_12, L_15, L_20, L_25, L_30, L_45, L_60, L_65, L_69, L_74, L_79, L_84, L_85, L_86, L_99, L_100, L_255, L_300, L_356, L_900, L_1424, L_1425, L_1489, L_1510, L_9999, L_10000, nI_add, nI_mul, u_lt_t, u_lt_f, u_le_t, u_le_f, u_eq_t, u_eq_f, u_mlt, u_ltm, u_eqm, u_meq, u_mle, u_b0, u_b1, u_ix, u_cl, u_sub, u_suc, u_z0, u_0m, cI_0, cI_s, rI_e, rI_k, rI_j, rI_l, rL_e, rL_k, rL_j, rL_i, told11, none11, refuse12, no11q, no12q, yes11q, if_true, if_false, ite_true, ite_false, ne_eq, not_true_eq_false, not_false_eq_true, Classical.not_not, Bool.not_eq_true, Bool.not_eq_false, reduceCtorEq, Nat.add_zero, Nat.zero_add, Nat.mul_zero, and_self, and_true, true_and, Bool.true_eq_false, Bool.false_eq_true, eq_self]; exact c3.2.2.1, by try simp (disch := first | omega | assumption) only [lt_e, bn_s, ck_t, nk0, nk1, nk_b, bI_t, bI_f, L_0, L_1, L_2, L_3, L_4, L_5, L_6, L_7, L_8, L_9, L_10, L_11, L_12, L_15, L_20, L_25, L_30, L_45, L_60, L_65, L_69, L_74, L_79, L_84, L_85, L_86, L_99, L_100, L_255, L_300, L_356, L_900, L_1424, L_1425, L_1489, L_1510, L_9999, L_10000, nI_add, nI_mul, u_lt_t, u_lt_f, u_le_t, u_le_f, u_eq_t, u_eq_f, u_mlt, u_ltm, u_eqm, u_meq, u_mle, u_b0, u_b1, u_ix, u_cl, u_sub, u_suc, u_z0, u_0m, cI_0, cI_s, rI_e, rI_k, rI_j, rI_l, rL_e, rL_k, rL_j, rL_i, told11, none11, refuse12, no11q, no12q, yes11q, if_true, if_false, ite_true, ite_false, ne_eq, not_true_eq_false, not_false_eq_true, Classical.not_not, Bool.not_eq_true, Bool.not_eq_false, reduceCtorEq, Nat.add_zero, Nat.zero_add, Nat.mul_zero, and_self, and_true, true_and, Bool.true_eq_false, Bool.false_eq_true, eq_self]; exact c3.2.2.2.1, by try simp (disch := first | omega | assumption) only [lt_e, bn_s, ck_t, nk0, nk1, nk_b, bI_t, bI_f, L_0, L_1, L_2, L_3, L_4, L_5, L_6, L_7, L_8, L_9, L_10, L_11, L_12, L_15, L_20, L_25, L_30, L_45, L_60, L_65, L_69, L_74, L_79, L_84, L_85, L_86, L_99, L_100, L_255, L_300, L_356, L_900, L_1424, L_1425, L_1489, L_1510, L_9999, L_10000, nI_add, nI_mul, u_lt_t, u_lt_f, u_le_t, u_le_f, u_eq_t, u_eq_f, u_mlt, u_ltm, u_eqm, u_meq, u_mle, u_b0, u_b1, u_ix, u_cl, u_sub, u_suc, u_z0, u_0m, cI_0, cI_s, rI_e, rI_k, rI_j, rI_l, rL_e, rL_k, rL_j, rL_i, told11, none11, refuse12, no11q, no12q, yes11q, if_true, if_false, ite_true, ite_false, ne_eq, not_true_eq_false, not_false_eq_true, Classical.not_not, Bool.not_eq_true, Bool.not_eq_false, reduceCtorEq, Nat.add_zero, Nat.zero_add, Nat.mul_zero, and_self, and_true, true_and, Bool.true_eq_false, Bool.false_eq_true, eq_self]; exact c3.2.2.2.2.1, fun i hi => by try simp (disch := first | omega | assumption) only [lt_e, bn_s, ck_t, nk0, nk1, nk_b, bI_t, bI_f, L_0, L_1, L_2, L_3, L_4, L_5, L_6, L_7, L_8, L_9, L_10, L_11, L_12, L_15, L_20, L_25, L_30, L_45, L_60, L_65, L_69, L_74, L_79, L_84, L_85, L_86, L_99, L_100, L_255, L_300, L_356, L_900, L_1424, L_1425, L_1489, L_1510, L_9999, L_10000, nI_add, nI_mul, u_lt_t, u_lt_f, u_le_t, u_le_f, u_eq_t, u_eq_f, u_mlt, u_ltm, u_eqm, u_meq, u_mle, u_b0, u_b1, u_ix, u_cl, u_sub, u_suc, u_z0, u_0m, cI_0, cI_s, rI_e, rI_k, rI_j, rI_l, rL_e, rL_k, rL_j, rL_i, told11, none11, refuse12, no11q, no12q, yes11q, if_true, if_false, ite_true, ite_false, ne_eq, not_true_eq_false, not_false_eq_true, Classical.not_not, Bool.not_eq_true, Bool.not_eq_false, reduceCtorEq, Nat.add_zero, Nat.zero_add, Nat.mul_zero, and_self, and_true, true_and, Bool.true_eq_false, Bool.false_eq_true, eq_self]; exact c3.2.2.2.2.2 i hi⟩
    have hi' : i < gm H + 1 := hi
    show _ = nI (if i = gm H then vlS T e (spF T e (gm H) 4 x).1 else gh H i)
    by_cases y : i = gm H
    · rw [if_pos y, rI_k (by omega), rI_e rfl y]
    · rw [if_neg y, rI_k (by omega), rI_j y]
      exact c3.2.1.2 i (by omega)
  · rw [if_pos (by exact fun y => z ((nI_eq (b := 0) (by omega) (by omega)).mp y)), if_neg z]
    exact wp_some.mpr ⟨g3', c3⟩
theorem cBet {N e : Nat} {T : Nat → Nat} {H : HG} {x : TX} {τ : Ms} (hN : 1000 < N) (ht : TT T e) (h : TC T e x τ) (w : WG H) (cg : CG 30 H τ) : wp (F1_parseBet N 30 τ) fun _ τ' => TC T e (pBet T e x H).1 τ' ∧ CG 30 (pBet T e x H).2 τ' := by
  have hn := w.2.2.1
  have hsp : (spF T e (gk H) 5 x).2.1 = 0 → gk H < 5 := fun z => Classical.byContradiction fun y => by
    unfold spF at z
    rw [if_neg y, tStp_f (tRef_n x (by omega))] at z
    exact tRef_n x (by omega) z
  unfold F1_parseBet F1_parseBet_b14
  rw [cg.2.2.1]
  refine first_t (n := gk H) (m := 5) hN ht h rfl (by omega) (by omega) ?_
  intro t1 g1 k1
  rw [show (20 : Int32) = cI 21 from rfl]
  refine wp_bn.mpr (wp_mono (num_t (lo := 0) (m := 21) hN ht g1 (by omega) (by omega)) ?_)
  rintro r t2 ⟨hr, g2, k2⟩
  have last : ∀ (lo : Nat), lo < 2 → ((tNum T e 0 21 (spF T e (gk H) 5 x)).2.1 = 0 → lo = if vlS T e (spF T e (gk H) 5 x).1 = 0 then 1 else 0) → wp (F1_parseBet_b36 N 30 r (nI lo) t2) fun _ τ' => TC T e (pBet T e x H).1 τ' ∧ CG 30 (pBet T e x H).2 τ' := fun lo hlo he => by
    unfold F1_parseBet_b36
    rw [show (20 : Int32) = cI 21 from rfl]
    refine wp_bn.mpr (wp_mono (num_t (lo := lo) (m := 21) hN ht g2 (by omega) (by omega)) ?_)
    rintro r' t3 ⟨hr', g3, k3⟩
    have ex : tNum T e lo 21 (tNum T e 0 21 (spF T e (gk H) 5 x)) = tNum T e (if vlS T e (spF T e (gk H) 5 x).1 = 0 then 1 else 0) 21 (tNum T e 0 21 (spF T e (gk H) 5 x)) := by
      by_cases z : (tNum T e 0 21 (spF T e (gk H) 5 x)).2.1 = 0
      · rw [← he z]
      · rw [tNum_f z, tNum_f z]
    rw [ex] at hr' g3
    refine wp_bn.mpr (wp_mono (close_t hN ht g3) ?_)
    rintro _ t4 ⟨g4, k4⟩
    have c4 := cg.k20 (((k1.tr k2).tr k3).tr k4)
    have g4' : TC T e (clsT T e (tNum T e (if vlS T e (spF T e (gk H) 5 x).1 = 0 then 1 else 0) 21 (tNum T e 0 21 (spF T e (gk H) 5 x)))) t4 := g4
    have hp1 : (pBet T e x H).1 = clsT T e (tNum T e (if vlS T e (spF T e (gk H) 5 x).1 = 0 then 1 else 0) 21 (tNum T e 0 21 (spF T e (gk H) 5 x))) := rfl
    have hp2 : (pBet T e x H).2 = if (clsT T e (tNum T e (if vlS T e (spF T e (gk H) 5 x).1 = 0 then 1 else 0) 21 (tNum T e 0 21 (spF T e (gk H) 5 x)))).2.1 = 0 then hOf H (vlS T e (spF T e (gk H) 5 x).1) (vlS T e (tNum T e 0 21 (spF T e (gk H) 5 x)).1) else H := rfl
    rw [hp1, hp2, g4'.2.2.2.1]
    have h100 := g4'.2.2.2.2.2
    by_cases z : (clsT T e (tNum T e (if vlS T e (spF T e (gk H) 5 x).1 = 0 then 1 else 0) 21 (tNum T e 0 21 (spF T e (gk H) 5 x)))).2.1 = 0
    · have z3 := clsT_z z
      obtain ⟨rfl, -, hv'⟩ := hr' z3
      have z2 := (tNum_z z3).1
      obtain ⟨rfl, -, hv⟩ := hr z2
      have hm4 := hsp (tNum_z z2).1
      rw [z, if_neg (by exact fun z => z rfl), if_pos (show (0 : Nat) = 0 from rfl)]
      unfold F0_addBet
      rw [c4.2.2.1, if_pos (by exact nI_lt (b := 5) hm4 (by omega)), u_ix (show gk H < 5 by omega) (by omega), ck_t, lt_e, u_cl (by omega), rI_k (show 30 ≠ 30 + 4 by omega), c4.2.2.1, u_ix (show gk H < 5 by omega) (by omega), ck_t, lt_e, lt_e, u_cl (by omega), bn_s, rI_k (show 30 ≠ 30 + 5 by omega), rI_k (show 30 ≠ 30 + 4 by omega), c4.2.2.1, L_1, nI_add]
      refine wp_some.mpr ⟨g4'.mv (fun j => by rw [rI_k (by omega), rI_k (by omega), rI_k (by omega)]) (fun j => by rw [rI_k (by omega), rI_k (by omega), rI_k (by omega)]), ?_⟩
      refine ⟨⟨by try simp (disch := first | omega | assumption) only [lt_e, bn_s, ck_t, nk0, nk1, nk_b, bI_t, bI_f, L_0, L_1, L_2, L_3, L_4, L_5, L_6, L_7, L_8, L_9, L_10, L_11, L_12, L_15, L_20, L_25, L_30, L_45, L_60, L_65, L_69, L_74, L_79, L_84, L_85, L_86, L_99, L_100, L_255, L_300, L_356, L_900, L_1424, L_1425, L_1489, L_1510, L_9999, L_10000, nI_add, nI_mul, u_lt_t, u_lt_f, u_le_t, u_le_f, u_eq_t, u_eq_f, u_mlt, u_ltm, u_eqm, u_meq, u_mle, u_b0, u_b1, u_ix, u_cl, u_sub, u_suc, u_z0, u_0m, cI_0, cI_s, rI_e, rI_k, rI_j, rI_l, rL_e, rL_k, rL_j, rL_i, told11, none11, refuse12, no11q, no12q, yes11q, if_true, if_false, ite_true, ite_false, ne_eq, not_true_eq_false, not_false_eq_true, Classical.not_not, Bool.not_eq_true, Bool.not_eq_false, reduceCtorEq, Nat.add_zero, Nat.zero_add, Nat.mul_zero, and_self, and_true, true_and, Bool.true_eq_false, Bool.false_eq_true, eq_self]; exact c4.1.1, by try simp (disch := first | omega | assumption) only [lt_e, bn_s, ck_t, nk0, nk1, nk_b, bI_t, bI_f, L_0, L_1, L_2, L_3, L_4, L_5, L_6, L_7, L_8, L_9, L_10, L_11, L_12, L_15, L_20, L_25, L_30, L_45, L_60, L_65, L_69, L_74, L_79, L_84, L_85, L_86, L_99, L_100, L_255, L_300, L_356, L_900, L_1424, L_1425, L_1489, L_1510, L_9999, L_10000, nI_add, nI_mul, u_lt_t, u_lt_f, u_le_t, u_le_f, u_eq_t, u_eq_f, u_mlt, u_ltm, u_eqm, u_meq, u_mle, u_b0, u_b1, u_ix, u_cl, u_sub, u_suc, u_z0, u_0m, cI_0, cI_s, rI_e, rI_k, rI_j, rI_l, rL_e, rL_k, rL_j, rL_i, told11, none11, refuse12, no11q, no12q, yes11q, if_true, if_false, ite_true, ite_false, ne_eq, not_true_eq_false, not_false_eq_true, Classical.not_not, Bool.not_eq_true, Bool.not_eq_false, reduceCtorEq, Nat.add_zero, Nat.zero_add, Nat.mul_zero, and_self, and_true, true_and, Bool.true_eq_false, Bool.false_eq_true, eq_self]; exact c4.1.2.1, fun i hi => by try simp (disch := first | omega | assumption) only [lt_e, bn_s, ck_t, nk0, nk1, nk_b, bI_t, bI_f, L_0, L_1, L_2, L_3, L_4, L_5, L_6, L_7, L_8, L_9, L_10, L_11, L_12, L_15, L_20, L_25, L_30, L_45, L_60, L_65, L_69, L_74, L_79, L_84, L_85, L_86, L_99, L_100, L_255, L_300, L_356, L_900, L_1424, L_1425, L_1489, L_1510, L_9999, L_10000, nI_add, nI_mul, u_lt_t, u_lt_f, u_le_t, u_le_f, u_eq_t, u_eq_f, u_mlt, u_ltm, u_eqm, u_meq, u_mle, u_b0, u_b1, u_ix, u_cl, u_sub, u_suc, u_z0, u_0m, cI_0, cI_s, rI_e, rI_k, rI_j, rI_l, rL_e, rL_k, rL_j, rL_i, told11, none11, refuse12, no11q, no12q, yes11q, if_true, if_false, ite_true, ite_false, ne_eq, not_true_eq_false, not_false_eq_true, Classical.not_not, Bool.not_eq_true, Bool.not_eq_false, reduceCtorEq, Nat.add_zero, Nat.zero_add, Nat.mul_zero, and_self, and_true, true_and, Bool.true_eq_false, Bool.false_eq_true, eq_self]; exact c4.1.2.2 i hi⟩, ⟨by try simp (disch := first | omega | assumption) only [lt_e, bn_s, ck_t, nk0, nk1, nk_b, bI_t, bI_f, L_0, L_1, L_2, L_3, L_4, L_5, L_6, L_7, L_8, L_9, L_10, L_11, L_12, L_15, L_20, L_25, L_30, L_45, L_60, L_65, L_69, L_74, L_79, L_84, L_85, L_86, L_99, L_100, L_255, L_300, L_356, L_900, L_1424, L_1425, L_1489, L_1510, L_9999, L_10000, nI_add, nI_mul, u_lt_t, u_lt_f, u_le_t, u_le_f, u_eq_t, u_eq_f, u_mlt, u_ltm, u_eqm, u_meq, u_mle, u_b0, u_b1, u_ix, u_cl, u_sub, u_suc, u_z0, u_0m, cI_0, cI_s, rI_e, rI_k, rI_j, rI_l, rL_e, rL_k, rL_j, rL_i, told11, none11, refuse12, no11q, no12q, yes11q, if_true, if_false, ite_true, ite_false, ne_eq, not_true_eq_false, not_false_eq_true, Classical.not_not, Bool.not_eq_true, Bool.not_eq_false, reduceCtorEq, Nat.add_zero, Nat.zero_add, Nat.mul_zero, and_self, and_true, true_and, Bool.true_eq_false, Bool.false_eq_true, eq_self]; exact c4.2.1.1, fun i hi => by try simp (disch := first | omega | assumption) only [lt_e, bn_s, ck_t, nk0, nk1, nk_b, bI_t, bI_f, L_0, L_1, L_2, L_3, L_4, L_5, L_6, L_7, L_8, L_9, L_10, L_11, L_12, L_15, L_20, L_25, L_30, L_45, L_60, L_65, L_69, L_74, L_79, L_84, L_85, L_86, L_99, L_100, L_255, L_300, L_356, L_900, L_1424, L_1425, L_1489, L_1510, L_9999, L_10000, nI_add, nI_mul, u_lt_t, u_lt_f, u_le_t, u_le_f, u_eq_t, u_eq_f, u_mlt, u_ltm, u_eqm, u_meq, u_mle, u_b0, u_b1, u_ix, u_cl, u_sub, u_suc, u_z0, u_0m, cI_0, cI_s, rI_e, rI_k, rI_j, rI_l, rL_e, rL_k, rL_j, rL_i, told11, none11, refuse12, no11q, no12q, yes11q, if_true, if_false, ite_true, ite_false, ne_eq, not_true_eq_false, not_false_eq_true, Classical.not_not, Bool.not_eq_true, Bool.not_eq_false, reduceCtorEq, Nat.add_zero, Nat.zero_add, Nat.mul_zero, and_self, and_true, true_and, Bool.true_eq_false, Bool.false_eq_true, eq_self]; exact c4.2.1.2 i hi⟩, by try simp (disch := first | omega | assumption) only [lt_e, bn_s, ck_t, nk0, nk1, nk_b, bI_t, bI_f, L_0, L_1, L_2, L_3, L_4, L_5, L_6, L_7, L_8, L_9, L_10, L_11, L_12, L_15, L_20, L_25, L_30, L_45, L_60, L_65, L_69, L_74, L_79, L_84, L_85, L_86, L_99, L_100, L_255, L_300, L_356, L_900, L_1424, L_1425, L_1489, L_1510, L_9999, L_10000, nI_add, nI_mul, u_lt_t, u_lt_f, u_le_t, u_le_f, u_eq_t, u_eq_f, u_mlt, u_ltm, u_eqm, u_meq, u_mle, u_b0, u_b1, u_ix, u_cl, u_sub, u_suc, u_z0, u_0m, cI_0, cI_s, rI_e, rI_k, rI_j, rI_l, rL_e, rL_k, rL_j, rL_i, told11, none11, refuse12, no11q, no12q, yes11q, if_true, if_false, ite_true, ite_false, ne_eq, not_true_eq_false, not_false_eq_true, Classical.not_not, Bool.not_eq_true, Bool.not_eq_false, reduceCtorEq, Nat.add_zero, Nat.zero_add, Nat.mul_zero, and_self, and_true, true_and, Bool.true_eq_false, Bool.false_eq_true, eq_self]; rfl, by try simp (disch := first | omega | assumption) only [lt_e, bn_s, ck_t, nk0, nk1, nk_b, bI_t, bI_f, L_0, L_1, L_2, L_3, L_4, L_5, L_6, L_7, L_8, L_9, L_10, L_11, L_12, L_15, L_20, L_25, L_30, L_45, L_60, L_65, L_69, L_74, L_79, L_84, L_85, L_86, L_99, L_100, L_255, L_300, L_356, L_900, L_1424, L_1425, L_1489, L_1510, L_9999, L_10000, nI_add, nI_mul, u_lt_t, u_lt_f, u_le_t, u_le_f, u_eq_t, u_eq_f, u_mlt, u_ltm, u_eqm, u_meq, u_mle, u_b0, u_b1, u_ix, u_cl, u_sub, u_suc, u_z0, u_0m, cI_0, cI_s, rI_e, rI_k, rI_j, rI_l, rL_e, rL_k, rL_j, rL_i, told11, none11, refuse12, no11q, no12q, yes11q, if_true, if_false, ite_true, ite_false, ne_eq, not_true_eq_false, not_false_eq_true, Classical.not_not, Bool.not_eq_true, Bool.not_eq_false, reduceCtorEq, Nat.add_zero, Nat.zero_add, Nat.mul_zero, and_self, and_true, true_and, Bool.true_eq_false, Bool.false_eq_true, eq_self]; exact c4.2.2.2.1, by try simp (disch := first | omega | assumption) only [lt_e, bn_s, ck_t, nk0, nk1, nk_b, bI_t, bI_f, L_0, L_1, L_2, L_3, L_4, L_5, L_6, L_7, L_8, L_9, L_10, L_11, L_12, L_15, L_20, L_25, L_30, L_45, L_60, L_65, L_69, L_74, L_79, L_84, L_85, L_86, L_99, L_100, L_255, L_300, L_356, L_900, L_1424, L_1425, L_1489, L_1510, L_9999, L_10000, nI_add, nI_mul, u_lt_t, u_lt_f, u_le_t, u_le_f, u_eq_t, u_eq_f, u_mlt, u_ltm, u_eqm, u_meq, u_mle, u_b0, u_b1, u_ix, u_cl, u_sub, u_suc, u_z0, u_0m, cI_0, cI_s, rI_e, rI_k, rI_j, rI_l, rL_e, rL_k, rL_j, rL_i, told11, none11, refuse12, no11q, no12q, yes11q, if_true, if_false, ite_true, ite_false, ne_eq, not_true_eq_false, not_false_eq_true, Classical.not_not, Bool.not_eq_true, Bool.not_eq_false, reduceCtorEq, Nat.add_zero, Nat.zero_add, Nat.mul_zero, and_self, and_true, true_and, Bool.true_eq_false, Bool.false_eq_true, eq_self]; exact c4.2.2.2.2.1, fun i hi => ?_⟩
      have hi' : i < gk H + 1 := hi
      show _ = nI (if i = gk H then vlS T e (spF T e (gk H) 5 x).1 else gl H i) ∧ _ = nI (if i = gk H then vlS T e (tNum T e 0 21 (spF T e (gk H) 5 x)).1 else gr H i)
      by_cases y : i = gk H
      · rw [if_pos y, if_pos y]
        exact ⟨by rw [rI_k (by omega), rI_k (by omega), rI_e rfl y], by rw [rI_k (by omega), rI_e rfl y]⟩
      · rw [if_neg y, if_neg y]
        obtain ⟨a, b⟩ := c4.2.2.2.2.2 i (by omega)
        exact ⟨by rw [rI_k (by omega), rI_k (by omega), rI_j y]; exact a, by rw [rI_k (by omega), rI_j y, rI_k (by omega)]; exact b⟩
    · rw [if_pos (by exact fun y => z ((nI_eq (b := 0) (by omega) (by omega)).mp y)), if_neg z]
      exact wp_some.mpr ⟨g4', c4⟩
  split
  · next hz =>
    refine last 0 (by omega) (fun z => ?_)
    obtain ⟨hr1, -⟩ := hr z
    rw [if_neg (fun y => hz (by rw [hr1, y]; rfl))]
  · next hz =>
    refine last 1 (by omega) (fun z => ?_)
    obtain ⟨hr1, -, hv⟩ := hr z
    rw [if_pos (Classical.byContradiction fun y => hz (by
      rw [hr1]
      exact fun q => y ((nI_eq (b := 0) (by omega) (by omega)).mp q)))]
theorem cPartT {N e : Nat} {T : Nat → Nat} {H : HG} {x : TX} {τ : Ms} {P : Unit → Ms → Prop} {K : Unit → Ms → Option (Unit × Ms)} (hN : 1000 < N) (ht : TT T e) (h : TC T e x τ) (w : WG H) (cg : CG 30 H τ) (hK : ∀ t, TC T e (pPart T e x H).1 t → CG 30 (pPart T e x H).2 t → t.1 30 11 = τ.1 30 11 → wp (K () t) P) : wp (bn (F8_isWord N 0 τ) (fun r3 t4 => if r3 = 0 then (bn (F8_isWord N 1 t4) (fun r5 t6 => if r5 = 0 then (bn (F8_isWord N 2 t6) (fun r7 t8 => if r7 = 0 then (bn (F8_refuse (2 : Int32) t8) (fun _ t10 => K () t10)) else (bn (F1_parseBet N 30 t8) (fun _ t12 => K () t12)))) else (bn (F1_parseHeap N 30 t6) (fun _ t14 => K () t14)))) else (bn (F1_parseSprig N 30 t4) (fun _ t16 => K () t16)))) P := by
  rw [word_t hN ht h (by omega), bn_s]
  unfold pPart at hK
  cases h0 : isWd T e x.1 0
  rotate_left
  · rw [if_neg (by decide)]
    rw [h0, if_pos (by rfl)] at hK
    exact wp_bn.mpr (wp_mono (wp_fr (cSprig hN ht h w cg) (fr_F1_parseSprig 30 N τ)) fun _ t g => hK t g.1.1 g.1.2 (g.2.keep (D := [(30, some 11)]) rfl (In_o 0 rfl)).1)
  rw [h0, if_neg (by decide)] at hK
  rw [if_pos (by rfl), word_t hN ht h (by omega), bn_s]
  cases h1 : isWd T e x.1 1
  rotate_left
  · rw [if_neg (by decide)]
    rw [h1, if_pos (by rfl)] at hK
    exact wp_bn.mpr (wp_mono (wp_fr (cHeap hN ht h w cg) (fr_F1_parseHeap 30 N τ)) fun _ t g => hK t g.1.1 g.1.2 (g.2.keep (D := [(30, some 11)]) rfl (In_o 0 rfl)).1)
  rw [h1, if_neg (by decide)] at hK
  rw [if_pos (by rfl), word_t hN ht h (by omega), bn_s]
  cases h2 : isWd T e x.1 2
  rotate_left
  · rw [if_neg (by decide)]
    rw [h2, if_pos (by rfl)] at hK
    exact wp_bn.mpr (wp_mono (wp_fr (cBet hN ht h w cg) (fr_F1_parseBet 30 N τ)) fun _ t g => hK t g.1.1 g.1.2 (g.2.keep (D := [(30, some 11)]) rfl (In_o 0 rfl)).1)
  rw [h2, if_neg (by decide)] at hK
  rw [if_pos (by rfl)]
  exact wp_bn.mpr (wp_mono (refuse_t h (w := 2) (by omega) (by omega)) fun _ t g => hK t g.1 (cg.k20 g.2) (g.2.1 _ _ (by omega)))
