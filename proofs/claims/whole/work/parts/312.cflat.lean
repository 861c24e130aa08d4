theorem aRest_f {T : Nat → Nat} {e n k : Nat} {x : TX} {D : DG} (h : x.2.1 ≠ 0) : (aRest T e n k x D).1 = x := by
  unfold aRest
  split
  · show tNum T e 0 _ (tWch T e 7 2 x) = x
    rw [tWch_f h, tNum_f h]
  split
  · show tNum T e 0 _ (tWch T e 7 2 x) = x
    rw [tWch_f h, tNum_f h]
  split
  · show tNum T e 0 _ (tNum T e 0 _ x) = x
    rw [tNum_f h, tNum_f h]
  split
  · unfold aGrowT
    split
    · show tNum T e 0 _ (tStp T e (tWch T e 4 3 x)) = x
      rw [tWch_f h, tStp_f h, tNum_f h]
    · exact tWch_f h
  split
  · unfold aWhenT
    split
    · show tNum T e 0 _ (tWch T e 18 4 x) = x
      rw [tWch_f h, tNum_f h]
    split
    · show tWch T e 7 2 (tWch T e 18 4 x) = x
      rw [tWch_f h, tWch_f h]
    split
    · exact tWch_f h
    · show tNum T e 0 _ (aCmp T e (tWch T e 18 4 x)) = x
      rw [tWch_f h]
      unfold aCmp
      rw [tMust_f h, tNum_f h]
  split
  · exact tNum_f h
  · rfl
/-- a step with its sign read by the class -/
def RS2 (T : Nat → Nat) (e n E g k : Nat) (y : TX) (D : DG) (σ t : Ms) : Prop := TC T e (clsT T e y) t ∧ ((clsT T e y).2.1 = 0 → n < 30 → E < 60 → ∃ a b c, AD n E g (isBk k) (nI k) a b c σ t ∧ vO k a b c D n)
theorem tail_c {N e n E g k : Nat} {T : Nat → Nat} {y : TX} {D : DG} {σ t : Ms} (hN : 1000 < N) (ht : TT T e) (h : RC T e n E g k y D σ t) : wp (F6_parseStep_b170 N 69 t) fun _ t' => RS2 T e n E g k y D σ t' := by
  unfold F6_parseStep_b170
  refine wp_bn.mpr (wp_mono (close_t hN ht h.1) ?_)
  rintro _ t' ⟨g1, k1⟩
  refine wp_some.mpr ⟨g1, fun z hn hE => ?_⟩
  obtain ⟨a, b, c, h1, h2⟩ := h.2 (clsT_z z) hn hE
  exact ⟨a, b, c, h1.post k1, h2⟩
theorem RC.pre {T : Nat → Nat} {e n E g k : Nat} {y : TX} {D : DG} {σ τ t : Ms} (k20 : K20 σ τ) (h : RC T e n E g k y D τ t) : RC T e n E g k y D σ t := ⟨h.1, fun z hn hE => by
  obtain ⟨a, b, c, h1, h2⟩ := h.2 z hn hE
  exact ⟨a, b, c, h1.pre k20, h2⟩⟩
theorem b51_c {N e n E g k : Nat} {T : Nat → Nat} {x : TX} {D : DG} {σ t0 : Ms} (hN : 1000 < N) (ht : TT T e) (h : TC T e x t0) (k0 : K20 σ t0) (hs : SB n E g σ) (hk : k < 8) (hD : D n 0 = nI k) : wp (F6_parseStep_b51 N 69 (nI k) t0) fun _ t => RS2 T e n E g k (aRest T e n k (tStp T e x) D).1 (aRest T e n k (tStp T e x) D).2 σ t := by
  unfold F6_parseStep_b51
  refine wp_bn.mpr (wp_mono (step_t hN ht h) ?_)
  rintro _ t1 ⟨g1, k1⟩
  have k01 := k0.tr k1
  have hs1 := hs.k k01
  rcases (show k = 0 ∨ k = 1 ∨ k = 2 ∨ k = 3 ∨ k = 4 ∨ k = 5 ∨ k = 6 ∨ k = 7 by omega) with rfl | rfl | rfl | rfl | rfl | rfl | rfl | rfl
  · rw [if_pos (by rfl)]
    exact wp_bn.mpr (wp_mono (deed_c (k := 0) (m := 20) hN ht g1 hs1 (Or.inl ⟨rfl, rfl⟩) hD) fun _ t q => tail_c hN ht (q.pre k01))
  · rw [if_neg (by decide), if_pos (by rfl)]
    exact wp_bn.mpr (wp_mono (deed_c (k := 1) (m := 5) hN ht g1 hs1 (Or.inr ⟨rfl, rfl⟩) hD) fun _ t q => tail_c hN ht (q.pre k01))
  · rw [if_neg (by decide), if_neg (by decide), if_pos (by rfl)]
    exact wp_bn.mpr (wp_mono (less_c hN ht g1 hs1 hD) fun _ t q => tail_c hN ht (q.pre k01))
  · rw [if_neg (by decide), if_neg (by decide), if_neg (by decide), if_pos (by rfl)]
    exact wp_bn.mpr (wp_mono (grow_c hN ht g1 hs1 hD) fun _ t q => tail_c hN ht (q.pre k01))
  · rw [if_neg (by decide), if_neg (by decide), if_neg (by decide), if_neg (by decide), if_pos (by rfl)]
    refine wp_bn.mpr (wp_mono (rc_add (k := 4) (y := tStp T e x) (D := D) (by omega) g1 (K20.rf t1) hs1 (fun _ => ⟨rfl, fun _ => Or.inr (Or.inr (Or.inl ⟨rfl, hD⟩)), fun z => (by cases z)⟩)) fun _ t q => tail_c hN ht ?_)
    exact q.pre k01
  · rw [if_neg (by decide), if_neg (by decide), if_neg (by decide), if_neg (by decide), if_neg (by decide), if_pos (by rfl)]
    exact wp_bn.mpr (wp_mono (when_c hN ht g1 hs1 hD) fun _ t q => tail_c hN ht (q.pre k01))
  · rw [if_neg (by decide), if_neg (by decide), if_neg (by decide), if_neg (by decide), if_neg (by decide), if_neg (by decide), if_pos (by rfl)]
    exact loop_c hN ht g1 hs1 hD fun t q => tail_c hN ht (q.pre k01)
  · rw [if_neg (by decide), if_neg (by decide), if_neg (by decide), if_neg (by decide), if_neg (by decide), if_neg (by decide), if_neg (by decide)]
    refine wp_bn.mpr (wp_mono (rc_add (k := 7) (y := tStp T e x) (D := D) (by omega) g1 (K20.rf t1) hs1 (fun _ => ⟨rfl, fun _ => Or.inr (Or.inr (Or.inr ⟨rfl, hD⟩)), fun z => (by cases z)⟩)) fun _ t q => tail_c hN ht ?_)
    exact q.pre k01
theorem b51_n {N e n E g : Nat} {T : Nat → Nat} {x : TX} {σ t0 : Ms} (hN : 1000 < N) (ht : TT T e) (h : TC T e x t0) (k0 : K20 σ t0) (hs : SB n E g σ) (hx : x.2.1 ≠ 0) : wp (F6_parseStep_b51 N 69 (-nI 1) t0) fun _ t => TC T e x t := by
  unfold F6_parseStep_b51 F6_parseStep_b170
  refine wp_bn.mpr (wp_mono (step_t hN ht h) ?_)
  rintro _ t1 ⟨g1, k1⟩
  rw [tStp_f hx] at g1
  rw [if_neg (by decide), if_neg (by decide), if_neg (by decide), if_neg (by decide), if_neg (by decide), if_neg (by decide), if_neg (by decide)]
  obtain ⟨t, e1, e2, -⟩ := add_t (p := -nI 1) (a := (0 : Int32)) (b := (0 : Int32)) (c := (0 : Int32)) (hs.k (k0.tr k1))
  rw [e1, bn_s]
  refine wp_bn.mpr (wp_mono (close_t hN ht (g1.far e2)) ?_)
  rintro _ t' ⟨g2, k2⟩
  have g2' : TC T e (clsT T e x) t' := g2
  rw [clsT_f hx] at g2'
  exact wp_some.mpr g2'
theorem step_c2 {N e n E w : Nat} {T : Nat → Nat} {x : TX} {D : DG} {σ : Ms} (hN : 1000 < N) (ht : TT T e) (h : TC T e x σ) (hs : SB n E w σ) : wp (F6_parseStep N 69 σ) fun _ t => ((aHd T e w n (kdW T e x) x).2.1 ≠ 0 → TC T e (aHd T e w n (kdW T e x) x) t) ∧ ((aHd T e w n (kdW T e x) x).2.1 = 0 → RS2 T e n E w (kdW T e x) (aR T e w x n D).1 (aR T e w x n D).2 σ t) := by
  have hwl := (wich_le (T := T) (e := e) (s := x.1) (i := 10) 8 0).2
  have hk8 : kdW T e x ≤ 8 := hwl
  have hn := hs.2.2.2.1
  unfold F6_parseStep
  rw [kind_c hN ht h, bn_s]
  -- the end: what is left of the head
  have last : ∀ t0, TC T e (aHd T e w n (kdW T e x) x) t0 → K20 σ t0 → wp (F6_parseStep_b51 N 69 (wI 8 (kdW T e x)) t0) fun _ t => ((aHd T e w n (kdW T e x) x).2.1 ≠ 0 → TC T e (aHd T e w n (kdW T e x) x) t) ∧ ((aHd T e w n (kdW T e x) x).2.1 = 0 → RS2 T e n E w (kdW T e x) (aR T e w x n D).1 (aR T e w x n D).2 σ t) := fun t0 g0 k0 => by
    by_cases q8 : kdW T e x = 8
    · have hf : (aHd T e w n (kdW T e x) x).2.1 ≠ 0 := fun z => (aHd_z z).2.1 q8
      have el : wI 8 (kdW T e x) = -nI 1 := if_pos q8
      rw [el]
      exact wp_mono (b51_n hN ht g0 k0 hs hf) fun _ t g => ⟨fun _ => g, fun z => absurd z hf⟩
    · have el : wI 8 (kdW T e x) = nI (kdW T e x) := if_neg q8
      rw [el]
      refine wp_mono (b51_c (k := kdW T e x) (D := sD D n 0 (nI (kdW T e x))) hN ht g0 k0 hs (by omega) sD_e) fun _ t g => ⟨fun z => ?_, fun _ => g⟩
      have g1 := g.1
      rw [tStp_f z, aRest_f z, clsT_f z] at g1
      exact g1
  have b30 : ∀ (y : TX) (t0 : Ms), TC T e y t0 → K20 σ t0 → y = (if n < 30 then (if kdW T e x = 8 then tRef T e 2 x else x) else tRef T e 6 (if kdW T e x = 8 then tRef T e 2 x else x)) → wp (F6_parseStep_b30 N 69 (wI 8 (kdW T e x)) t0) fun _ t => ((aHd T e w n (kdW T e x) x).2.1 ≠ 0 → TC T e (aHd T e w n (kdW T e x) x) t) ∧ ((aHd T e w n (kdW T e x) x).2.1 = 0 → RS2 T e n E w (kdW T e x) (aR T e w x n D).1 (aR T e w x n D).2 σ t) := fun y t0 gy ky ey => by
    have eh : aHd T e w n (kdW T e x) x = if isBk (kdW T e x) = true ∧ ¬ w < 3 then tRef T e 7 y else y := by
      rw [ey]
      rfl
    have hib : ∀ τ, F5_isBlock (wI 8 (kdW T e x)) τ = some (bI (isBk (kdW T e x)), τ) := fun τ => by
      by_cases q8 : kdW T e x = 8
      · rw [q8]
        rfl
      · rw [show wI 8 (kdW T e x) = nI (kdW T e x) from if_neg q8]
        exact isBlock_k _ (by omega) τ
    unfold F6_parseStep_b30
    rw [hib, bn_s]
    cases hb : isBk (kdW T e x)
    · rw [if_pos (by rfl)]
      rw [hb, if_neg (fun z => by cases z.1)] at eh
      exact last t0 (by rw [eh]; exact gy) ky
    · rw [if_neg (by decide), (hs.k ky).2.2.1]
      by_cases q3 : w < 3
      · rw [if_pos (by exact nI_lt (b := 3) q3 (by omega))]
        rw [if_neg (fun z => z.2 q3)] at eh
        exact last t0 (by rw [eh]; exact gy) ky
      · have hg := hs.2.2.2.2.2
        rw [if_neg (by exact nI_nlt (b := 3) (by omega) (by omega))]
        rw [hb, if_pos ⟨rfl, q3⟩] at eh
        refine wp_bn.mpr (wp_mono (refuse_t gy (w := 7) (by omega) (by omega)) ?_)
        rintro _ t ⟨g1, k1⟩
        exact last t (by rw [eh]; exact g1) (ky.tr k1)
  have b15 : ∀ (t0 : Ms), TC T e (if kdW T e x = 8 then tRef T e 2 x else x) t0 → K20 σ t0 → wp (F6_parseStep_b15 N 69 (wI 8 (kdW T e x)) t0) fun _ t => ((aHd T e w n (kdW T e x) x).2.1 ≠ 0 → TC T e (aHd T e w n (kdW T e x) x) t) ∧ ((aHd T e w n (kdW T e x) x).2.1 = 0 → RS2 T e n E w (kdW T e x) (aR T e w x n D).1 (aR T e w x n D).2 σ t) := fun t0 gy ky => by
    unfold F6_parseStep_b15
    rw [(hs.k ky).1]
    by_cases q : n < 30
    · rw [if_pos (by exact nI_lt (b := 30) q (by omega))]
      exact b30 _ t0 gy ky (if_pos q).symm
    · rw [if_neg (by exact nI_nlt (b := 30) (by omega) (by omega))]
      refine wp_bn.mpr (wp_mono (refuse_t gy (w := 6) (by omega) (by omega)) ?_)
      rintro _ t ⟨g1, k1⟩
      exact b30 _ t g1 (ky.tr k1) (if_neg q).symm
  by_cases q8 : kdW T e x = 8
  · rw [if_pos q8] at b15
    rw [show wI 8 (kdW T e x) = -nI 1 from if_pos q8] at b15 ⊢
    rw [if_neg (by exact fun z => z rfl)]
    refine wp_bn.mpr (wp_mono (refuse_t h (w := 2) (by omega) (by omega)) ?_)
    rintro _ t ⟨g1, k1⟩
    exact b15 t g1 k1
  · rw [if_neg q8] at b15
    rw [show wI 8 (kdW T e x) = nI (kdW T e x) from if_neg q8] at b15 ⊢
    rw [if_pos (by exact fun z => (u_eqm (a := kdW T e x) (by omega)).mp z)]
    exact b15 σ h (K20.rf σ)
/-- a block closed -/
theorem close_e {E E2 w : Nat} {τ : Ms} (h8 : τ.1 69 8 = nI (w + 1)) (hw : w < 3) (h75 : τ.1 75 w = nI E) (hE : E < E2) (h2 : τ.1 69 2 = nI E2) (hE2 : E2 < 60) : ∃ t, F5_close 69 τ = some ((), t) ∧ t.1 69 8 = nI w ∧ t.1 69 2 = nI (E2 + 1) ∧ t.1 69 1 = τ.1 69 1 ∧ t.1 70 E2 = nI 8 ∧ t.1 74 E2 = nI E ∧ t.1 74 E = nI E2 ∧ (∀ j, j ≠ E2 → t.1 70 j = τ.1 70 j) ∧ (∀ q j, 71 ≤ q → q ≤ 73 → t.1 q j = τ.1 q j) ∧ (∀ j, j ≠ E2 → j ≠ E → t.1 74 j = τ.1 74 j) ∧ (∀ q j, (q < 69 ∨ 74 < q) → t.1 q j = τ.1 q j) := by
  unfold F5_close F5_close_b84
  rw [h8, if_neg (by exact nI_ge (a := 0) (by omega) (by omega)), if_neg (by exact nI_nlt (a := 3) (by omega) (by omega)), h2, if_pos (by exact nI_lt (b := 60) hE2 (by omega)), L_1, u_sub (by omega), Nat.add_sub_cancel, lt_e, rI_e (σ := τ) (k := 69) (j := 8) rfl rfl, u_ix (show w < 3 by omega) (by omega), ck_t, u_cl (by omega), rI_k (show 69 + 6 ≠ 69 by omega)]
  have e75 : τ.1 (69 + 6) w = nI E := h75
  rw [e75, lt_e]
  have s2 : (sI τ 69 8 (nI w)).1 69 2 = nI E2 := by rw [rI_j (by omega)]; exact h2
  have ue : ixb (nI E2) 60 = true := u_ix hE2 (by omega)
  have ce : (nI E2).toNatClampNeg = E2 := u_cl (by omega)
  rw [s2, ue, ce, ck_t, lt_e]
  have s3 : (sI (sI τ 69 8 (nI w)) (69 + 1) E2 (8 : Int32)).1 69 2 = nI E2 := by rw [rI_k (by omega)]; exact s2
  rw [s3, ue, ce, ck_t, lt_e]
  have s4 : (sI (sI (sI τ 69 8 (nI w)) (69 + 1) E2 (8 : Int32)) (69 + 5) E2 (nI E)).1 69 2 = nI E2 := by rw [rI_k (by omega)]; exact s3
  have hh : F5_hasEntry 69 (nI E) (sI (sI (sI τ 69 8 (nI w)) (69 + 1) E2 (8 : Int32)) (69 + 5) E2 (nI E)) = some (nI 1, sI (sI (sI τ 69 8 (nI w)) (69 + 1) E2 (8 : Int32)) (69 + 5) E2 (nI E)) := by
    unfold F5_hasEntry
    rw [if_neg (nI_pos (by omega)), s4, if_neg (nI_ge hE (by omega)), if_neg (by exact nI_ge (b := 60) (by omega) (by omega))]
    rfl
  rw [hh, bn_s, if_neg (by decide), u_ix (show E < 60 by omega) (by omega), ck_t, u_cl (by omega), s4, lt_e, rI_k (show 69 ≠ 69 + 5 by omega), s4, lt_e, nI_add]
  refine ⟨_, rfl, ?_, rI_e rfl rfl, ?_, ?_, ?_, ?_, fun j hj => ?_, fun q j h1 h2 => ?_, fun j h1 h2 => ?_, fun q j hq => ?_⟩
  · rw [rI_j (by omega), rI_k (by omega), rI_k (by omega), rI_k (by omega), rI_e rfl rfl]
  · rw [rI_j (by omega), rI_k (by omega), rI_k (by omega), rI_k (by omega), rI_j (by omega)]
  · rw [rI_k (by omega), rI_k (by omega), rI_k (by omega), rI_e (by omega) rfl]
    rfl
  · rw [rI_k (by omega), rI_j (by omega), rI_e (by omega) rfl]
  · rw [rI_k (by omega), rI_e (by omega) rfl]
  · rw [rI_k (by omega), rI_k (by omega), rI_k (by omega), rI_j hj, rI_k (by omega)]
  · rw [rI_k (by omega), rI_k (by omega), rI_k (by omega), rI_k (by omega), rI_k (by omega)]
  · rw [rI_k (by omega), rI_j h2, rI_j h1, rI_k (by omega), rI_k (by omega)]
  · rw [rI_k (by omega), rI_k (by omega), rI_k (by omega), rI_k (by omega), rI_k (by omega)]
/-- the flat loop -/
noncomputable def FF (N : Nat) : (Int32 × Ms → Option (Unit × Ms)) → Int32 × Ms → Option (Unit × Ms) := fun k x => F6_parse_b6B N 69 k x.1 x.2
theorem ff_over {N e i : Nat} {T : Nat → Nat} {x : TX} {τ : Ms} (h : TC T e x τ) (hx : x.2.1 ≠ 0) (hi : i < 2147483648) : ∃ τ', (∀ m, fx (m + 1) (FF N) (nI i, τ) = some ((), τ')) ∧ TC T e x τ' := by
  have h100 := h.2.2.2.2.2
  obtain ⟨_, τ', er, g1, -⟩ := refuse_t (w := 2) h (by omega) (by omega)
  rw [tRef_f hx] at g1
  have b48 : ∃ τ', F6_parse_b48 N 69 τ = some ((), τ') ∧ TC T e x τ' := by
    unfold F6_parse_b48
    by_cases q : τ.1 69 8 ≤ 0
    · exact ⟨τ, if_pos q, h⟩
    · refine ⟨τ', ?_, g1⟩
      rw [if_neg q, show (2 : Int32) = nI 2 from rfl, er]
      rfl
  obtain ⟨τ2, e2, g2⟩ := b48
  refine ⟨τ2, fun m => ?_, g2⟩
  show F6_parse_b6B N 69 (fx m (FF N)) (nI i) τ = _
  unfold F6_parse_b6B F8_goesOn
  by_cases q : 300 ≤ i
  · rw [if_pos (by exact nI_le (a := 300) q (by omega))]
    exact e2
  · rw [if_neg (by exact nI_ge (b := 300) (by omega) (by omega)), h.2.2.2.1, if_pos (by exact fun z => hx ((nI_eq (b := 0) (by omega) (by omega)).mp z)), bn_s, if_pos (by rfl)]
    exact e2
/-- a turn of the flat loop -/
theorem ff_go {N e i : Nat} {T : Nat → Nat} {x : TX} {τ : Ms} (ht : TT T e) (h : TC T e x τ) (h0 : x.2.1 = 0) (hk : kdS T e x.1 ≠ 0) (he : e ≤ 300) (hN : 1000 < N) (hi : i ≤ x.1) (K : Int32 × Ms → Option (Unit × Ms)) : FF N K (nI i, τ) = if isWd T e x.1 9 = true then bn (F6_parseEnd N 69 τ) (fun _ t => K (nI (i + 1), t)) else bn (F6_parseStep N 69 τ) (fun _ t => K (nI (i + 1), t)) := by
  have hse := (hdS_le (T := T) h.2.2.1).2.2 hk
  have hk5 := kdS_lt T e x.1
  show F6_parse_b6B N 69 K (nI i) τ = _
  unfold F6_parse_b6B F8_goesOn F6_parse_b42
  rw [if_neg (by exact nI_ge (b := 300) (by omega) (by omega)), h.2.2.2.1, h0, if_neg (by exact fun z => z rfl), h.2.1.1, if_neg (by exact fun z => hk ((nI_eq (b := 0) (by omega) (by omega)).mp z)), bn_s, if_neg (by decide), word_t hN ht h (by omega), bn_s, L_1, nI_add]
  cases isWd T e x.1 9
  · rw [if_pos (by rfl), if_neg (by decide)]
  · rw [if_neg (by decide), if_pos (by rfl)]
