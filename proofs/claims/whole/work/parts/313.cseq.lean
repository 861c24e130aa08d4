theorem wdc_9 : ∀ i, 10 ≤ i → i < 18 → wdc 9 ≠ wdc i := by
  intro i h1 h2
  rcases (show i = 10 ∨ i = 11 ∨ i = 12 ∨ i = 13 ∨ i = 14 ∨ i = 15 ∨ i = 16 ∨ i = 17 by omega) with rfl | rfl | rfl | rfl | rfl | rfl | rfl | rfl <;> decide +kernel
theorem wich_no {T : Nat → Nat} {e s i : Nat} : ∀ m k, (∀ j, j < m → isWd T e s (i + (k + j)) = false) → wich T e s i m k = m + k
  | 0, k, _ => (Nat.zero_add k).symm
  | m + 1, k, h => by
    unfold wich
    have h0 := h 0 (by omega)
    rw [Nat.add_zero] at h0
    rw [h0, if_neg (by decide), wich_no m (k + 1) (fun j hj => by have := h (j + 1) (by omega); rwa [show k + 1 + j = k + (j + 1) by omega])]
    omega
theorem kdW_9 {T : Nat → Nat} {e : Nat} {x : TX} (h : isWd T e x.1 9 = true) : kdW T e x = 8 := by
  unfold kdW
  refine (wich_no 8 0 (fun j hj => ?_)).trans rfl
  unfold isWd at *
  simp only [Bool.and_eq_true, decide_eq_true_eq] at h
  rw [h.1, h.2, decide_eq_true rfl, Bool.true_and, Nat.zero_add]
  exact decide_eq_false (wdc_9 _ (by omega) (by omega))
theorem kdW_0 {T : Nat → Nat} {e : Nat} {x : TX} (h : kdS T e x.1 ≠ 1) : kdW T e x = 8 := by
  unfold kdW
  rw [wich_d h]
theorem aHd_8 {T : Nat → Nat} {e w n : Nat} {x : TX} : aHd T e w n 8 x = tRef T e 2 x := by
  have hz := tRef_n (T := T) (e := e) (w := 2) x (by omega)
  unfold aHd
  dsimp only
  rw [if_pos (show (8 : Nat) = 8 from rfl), tRef_f hz, ite_self, tRef_f hz, ite_self]
/-- what the flat loop comes to -/
def QS (N : Nat) (T : Nat → Nat) (e w E n i : Nat) (τ : Ms) (q : TX × Nat × DG) : Prop :=
  (q.1.2.1 = 0 → ∃ j τ' E' f, Rch (FF N) j (nI i, τ) (nI (i + j), τ') ∧ i + j ≤ q.1.1 ∧ TC T e q.1 τ' ∧ SB q.2.1 E' w τ' ∧ E' + w ≤ 2 * q.2.1 ∧ (∀ c j, 70 ≤ c → c ≤ 74 → j < E → τ'.1 c j = τ.1 c j) ∧ (∀ j, j < w → τ'.1 75 j = τ.1 75 j) ∧ E ≤ E' ∧ Seg (τ'.1 70) (τ'.1 71) (τ'.1 72) (τ'.1 73) (τ'.1 74) q.2.2 f (3 - w) E n E' q.2.1 ∧ τ'.1 69 0 = τ.1 69 0) ∧
  (q.1.2.1 ≠ 0 → ∃ j τ', i + j ≤ 310 ∧ (∀ m, fx (m + j) (FF N) (nI i, τ) = some ((), τ')) ∧ TC T e q.1 τ')
theorem QS.bad {N e w E n i : Nat} {T : Nat → Nat} {τ τ1 : Ms} {q : TX × Nat × DG} (hq : q.1.2.1 ≠ 0) (hi : i ≤ 300) (hr : Rch (FF N) 1 (nI i, τ) (nI (i + 1), τ1)) (tc : TC T e q.1 τ1) : QS N T e w E n i τ q := by
  obtain ⟨τ', e1, g1⟩ := ff_over (N := N) (i := i + 1) tc hq (by omega)
  exact ⟨fun z => absurd z hq, fun _ => ⟨2, τ', by omega, fun m => by rw [show m + 2 = (m + 1) + 1 by omega, hr (m + 1)]; exact e1 m, g1⟩⟩
theorem cSeqT {N e : Nat} {T : Nat → Nat} (hN : 1000 < N) (ht : TT T e) (he : e ≤ 300) : ∀ k w x n D τ i E, msr e x ≤ k → TC T e x τ → x.2.1 = 0 → SB n E w τ → E + w ≤ 2 * n → i ≤ x.1 → QS N T e w E n i τ (aSq T e k w x n D) := by
  intro k
  induction k with
  | zero =>
    intro w x n D τ i E hk tc h0
    unfold msr at hk
    rw [if_pos h0] at hk
    have := tc.2.2.1
    omega
  | succ k ih =>
    intro w x n D τ i E hk tc h0 hs hE hi
    have hxe := tc.2.2.1
    by_cases q : stpB T e w x = true
    · rw [aSq_s q]
      exact ⟨fun _ => ⟨0, τ, E, 0, Rch.z _ _, hi, tc, hs, hE, fun _ _ _ _ _ => rfl, fun _ _ => rfl, Nat.le_refl _, ⟨rfl, rfl⟩, rfl⟩, fun z => absurd h0 z⟩
    rw [aSq_g q]
    have hm1 := msr_one (T := T) (w := w) (n := n) (k := k) (D := D) hxe h0
    -- when the head fails
    have fail : ∀ y : TX, y = aHd T e w n (kdW T e x) x → y.2.1 ≠ 0 → aSq T e k w (aOne (aSq T e k (w + 1)) T e w x n D).1 (aOne (aSq T e k (w + 1)) T e w x n D).2.1 (aOne (aSq T e k (w + 1)) T e w x n D).2.2 = (y, n, D) := fun y hy hf => by
      have e1 : aOne (aSq T e k (w + 1)) T e w x n D = (y, n, D) := by
        unfold aOne
        rw [← hy, if_pos hf]
      rw [e1, aSq_s (stpB_f hf)]
    have hz2 := tRef_n (T := T) (e := e) (w := 2) x (by omega)
    by_cases qk : kdS T e x.1 = 0
    · have hw : w ≠ 0 := fun z => q (by
        unfold stpB
        rw [if_pos z, decide_eq_true qk, Bool.or_true])
      have h8 : kdW T e x = 8 := kdW_0 (by omega)
      rw [fail (tRef T e 2 x) (by rw [h8, aHd_8]) hz2]
      refine ⟨fun z => absurd z hz2, fun _ => ?_⟩
      obtain ⟨_, τ', er, g1, -⟩ := refuse_t (w := 2) tc (by omega) (by omega)
      refine ⟨1, τ', by omega, fun m => ?_, g1⟩
      have b48 : F6_parse_b48 N 69 τ = some ((), τ') := by
        have hg := hs.2.2.2.2.2
        unfold F6_parse_b48
        rw [hs.2.2.1, if_neg (by exact nI_ge (a := 0) (by omega) (by omega)), show (2 : Int32) = nI 2 from rfl, er]
        rfl
      show F6_parse_b6B N 69 (fx m (FF N)) (nI i) τ = _
      unfold F6_parse_b6B F8_goesOn
      by_cases q3 : 300 ≤ i
      · rw [if_pos (by exact nI_le (a := 300) q3 (by omega))]
        exact b48
      · rw [if_neg (by exact nI_ge (b := 300) (by omega) (by omega)), tc.2.2.2.1, h0, if_neg (by exact fun z => z rfl), tc.2.1.1, qk, if_pos (show nI 0 = (0 : Int32) from rfl), bn_s, if_pos (by rfl)]
        exact b48
    have hse := (hdS_le (T := T) hxe).2.2 qk
    have go := ff_go (N := N) ht tc h0 qk he hN hi
    by_cases q9 : isWd T e x.1 9 = true
    · have hw : w = 0 := Classical.byContradiction fun z => q (by
        unfold stpB
        rw [if_neg z, q9, Bool.or_true])
      subst hw
      have h8 : kdW T e x = 8 := kdW_9 q9
      rw [fail (tRef T e 2 x) (by rw [h8, aHd_8]) hz2]
      have pe : wp (F6_parseEnd N 69 τ) fun _ t => TC T e (tRef T e 2 x) t := by
        unfold F6_parseEnd F6_parseEnd_b12
        rw [hs.2.2.1, if_neg (by exact fun z => z rfl)]
        refine wp_bn.mpr (wp_mono (refuse_t tc (w := 2) (by omega) (by omega)) ?_)
        rintro _ t1 ⟨g1, -⟩
        refine wp_bn.mpr (wp_mono (step_t hN ht g1) ?_)
        rintro _ t2 ⟨g2, -⟩
        rw [tStp_f hz2] at g2
        refine wp_bn.mpr (wp_mono (close_t hN ht g2) ?_)
        rintro _ t3 ⟨g3, -⟩
        have g3' : TC T e (clsT T e (tRef T e 2 x)) t3 := g3
        rw [clsT_f hz2] at g3'
        have h100 := g3'.2.2.2.2.2
        rw [g3'.2.2.2.1, if_pos (by exact fun z => hz2 ((nI_eq (b := 0) (by omega) (by omega)).mp z))]
        exact wp_some.mpr g3'
      obtain ⟨_, t, et, g1⟩ := pe
      exact QS.bad hz2 (by omega) (Rch.one fun K => by rw [go K, if_pos q9, et]; rfl) g1
    obtain ⟨_, t, et, sf, sg⟩ := step_c2 (D := D) hN ht tc hs
    have t69 : t.1 69 0 = τ.1 69 0 := ((fr_F6_parseStep 69 N τ _ _ et).keep (D := [(69, some 0)]) rfl (In_o 0 rfl)).1
    have r1 : Rch (FF N) 1 (nI i, τ) (nI (i + 1), t) := Rch.one fun K => by rw [go K, if_neg q9, et]; rfl
    by_cases qh : (aHd T e w n (kdW T e x) x).2.1 ≠ 0
    · rw [fail _ rfl qh]
      exact QS.bad qh (by omega) r1 (sf qh)
    have qh' := Classical.not_not.mp qh
    obtain ⟨z0, z8, zn, zw, ze⟩ := aHd_z qh'
    have s2 := sg qh'
    have l1 := aR_lt (T := T) (w := w) (n := n) (D := D) hxe qh'
    have l2 := aR_le (T := T) (w := w) (n := n) (D := D) hxe
    have l3 := clsT_le (T := T) l2.2
    have hE6 := hs.2.2.2.2.1
    by_cases q4 : (clsT T e (aR T e w x n D).1).2.1 = 0
    rotate_left
    · have e1 : (aOne (aSq T e k (w + 1)) T e w x n D).1 = clsT T e (aR T e w x n D).1 := by
        unfold aOne
        rw [if_neg qh]
        split
        · show aEnd T e (aSq T e k (w + 1) _ _ _).1 = _
          rw [aSq_s (stpB_f q4)]
          exact aEnd_f q4
        · rfl
      rw [aSq_s (by rw [e1]; exact stpB_f q4)]
      exact QS.bad (by rw [e1]; exact q4) (by omega) r1 (by rw [e1]; exact s2.1)
    obtain ⟨a, b, c, ad, hv⟩ := s2.2 q4 zn (by omega)
    obtain ⟨y0, y1, y2, y3, yj, ys, yE, yst, yn, yb⟩ := ad
    have hn8 : kdW T e x < 8 := by
      have := (wich_le (T := T) (e := e) (s := x.1) (i := 10) 8 0).2
      unfold kdW at z8 ⊢
      omega
    cases hb : isBk (kdW T e x)
    · -- a deed
      have e1 : aOne (aSq T e k (w + 1)) T e w x n D = (clsT T e (aR T e w x n D).1, n + 1, sD (aR T e w x n D).2 n 8 (nI (n + 1))) := by
        unfold aOne
        rw [if_neg qh, hb, if_neg (by decide)]
      rw [e1] at hm1 ⊢
      dsimp only at hm1 ⊢
      have hs' : SB (n + 1) (E + 1) w t := ⟨ys, yE, yn hb, zn, by omega, hs.2.2.2.2.2⟩
      have I := ih w (clsT T e (aR T e w x n D).1) (n + 1) (sD (aR T e w x n D).2 n 8 (nI (n + 1))) t (i + 1) (E + 1) (by omega) s2.1 q4 hs' (by omega) (by omega)
      have aD := aSq_D (T := T) (e := e) k w (clsT T e (aR T e w x n D).1) (n + 1) (sD (aR T e w x n D).2 n 8 (nI (n + 1))) zn
      refine ⟨fun z => ?_, fun z => ?_⟩
      · obtain ⟨j, τ', E', f, i1, i2, i3, i4, i5, i6, i7, i8, i9, i10⟩ := I.1 z
        refine ⟨1 + j, τ', E', f + 1, ?_, by omega, i3, i4, i5, fun q j' h1 h2 h3 => (i6 q j' h1 h2 (by omega)).trans (yj q j' h1 h2 (by omega)), fun j' hj => (i7 j' hj).trans (yst j' hj), by omega, ?_, i10.trans t69⟩
        · rw [← Nat.add_assoc]
          exact r1.tr i1
        · refine Or.inr (Or.inl ⟨by omega, zn, ?_, ?_, i9⟩)
          · have hst := hv.1 hb
            unfold stepOk at *
            have f0 : τ'.1 70 E = nI (kdW T e x) := (i6 70 E (by omega) (by omega) (by omega)).trans y0
            have f1 : τ'.1 71 E = a := (i6 71 E (by omega) (by omega) (by omega)).trans y1
            have f2 : τ'.1 72 E = b := (i6 72 E (by omega) (by omega) (by omega)).trans y2
            rw [f0, f1, f2, aD.2.2 n 0 (by omega), aD.2.2 n 1 (by omega), aD.2.2 n 2 (by omega), sD_o (by omega), sD_o (by omega), sD_o (by omega)]
            exact hst
          · rw [aD.2.2 n 8 (by omega), sD_e]
      · obtain ⟨j, τ', j1, j2, j3⟩ := I.2 z
        exact ⟨1 + j, τ', by omega, fun m => by rw [show m + (1 + j) = (m + j) + 1 by omega, r1 (m + j)]; exact j2 m, j3⟩
    · -- a block
      have w3 := zw hb
      obtain ⟨y8, y75⟩ := yb hb w3
      have e1 : aOne (aSq T e k (w + 1)) T e w x n D = (aEnd T e (aSq T e k (w + 1) (clsT T e (aR T e w x n D).1) (n + 1) (aR T e w x n D).2).1, (aSq T e k (w + 1) (clsT T e (aR T e w x n D).1) (n + 1) (aR T e w x n D).2).2.1, sD (aSq T e k (w + 1) (clsT T e (aR T e w x n D).1) (n + 1) (aR T e w x n D).2).2.2 n 8 (nI (aSq T e k (w + 1) (clsT T e (aR T e w x n D).1) (n + 1) (aR T e w x n D).2).2.1)) := by
        unfold aOne
        rw [if_neg qh, hb, if_pos (by rfl)]
      have hs' : SB (n + 1) (E + 1) (w + 1) t := ⟨ys, yE, y8, zn, by omega, by omega⟩
      have hmb := msr_body (T := T) (w := w) (n := n) (D := D) hxe qh'
      have I := ih (w + 1) (clsT T e (aR T e w x n D).1) (n + 1) (aR T e w x n D).2 t (i + 1) (E + 1) (by omega) s2.1 q4 hs' (by omega) (by omega)
      have aD := aSq_D (T := T) (e := e) k (w + 1) (clsT T e (aR T e w x n D).1) (n + 1) (aR T e w x n D).2 zn
      have hst := aSq_end (T := T) (e := e) k (w + 1) (clsT T e (aR T e w x n D).1) (n + 1) (aR T e w x n D).2 l3.2 (by omega)
      rw [e1] at hm1 ⊢
      dsimp only at hm1 ⊢
      generalize aSq T e k (w + 1) (clsT T e (aR T e w x n D).1) (n + 1) (aR T e w x n D).2 = qb at *
      by_cases qz : qb.1.2.1 = 0
      rotate_left
      · obtain ⟨j, τ', j1, j2, j3⟩ := I.2 qz
        rw [aEnd_f qz, aSq_s (stpB_f qz)]
        exact ⟨fun z => absurd z qz, fun _ => ⟨1 + j, τ', by omega, fun m => by rw [show m + (1 + j) = (m + j) + 1 by omega, r1 (m + j)]; exact j2 m, j3⟩⟩
      obtain ⟨j, τ2, E2, f, i1, i2, i3, i4, i5, i6, i7, i8, i9, i10⟩ := I.1 qz
      have w9 : isWd T e qb.1.1 9 = true := by
        unfold stpB at hst
        rw [if_neg (by omega), decide_eq_false (fun z => z qz), Bool.false_or] at hst
        exact hst
      have k9 : kdS T e qb.1.1 ≠ 0 := by rw [isWd_k w9]; decide
      have go2 := ff_go (N := N) ht i3 qz k9 he hN i2
      have r12 : Rch (FF N) (1 + j) (nI i, τ) (nI (i + 1 + j), τ2) := r1.tr i1
      have hse2 := (hdS_le (T := T) i3.2.2.1).2.2 k9
      have ls1 := tStp_lt (T := T) i3.2.2.1 qz k9
      have ls2 := tStp_le (T := T) i3.2.2.1
      have ls3 := clsT_le (T := T) ls2.2
      have eEnd : aEnd T e qb.1 = clsT T e (tStp T e qb.1) := by
        unfold aEnd tMust
        rw [if_pos w9]
      have f75 : τ2.1 75 w = nI E := (i7 w (by omega)).trans y75
      have hle := Seg_le i9
      -- the end read
      have pe : ∃ t3, TC T e (aEnd T e qb.1) t3 ∧ K20 τ2 t3 ∧ F6_parseEnd N 69 τ2 = if (aEnd T e qb.1).2.1 = 0 then bn (F5_close 69 t3) (fun _ t6 => some ((), t6)) else some ((), t3) := by
        unfold F6_parseEnd F6_parseEnd_b12
        obtain ⟨_, t2, e2, g2, k2⟩ := step_t hN ht i3
        obtain ⟨_, t3, e3, g3, k3⟩ := close_t hN ht g2
        have g3' : TC T e (clsT T e (tStp T e qb.1)) t3 := g3
        rw [← eEnd] at g3'
        have h100 := g3'.2.2.2.2.2
        refine ⟨t3, g3', k2.tr k3, ?_⟩
        rw [i4.2.2.1, if_pos (by exact fun z => by have := (nI_eq (b := 0) (by omega) (by omega)).mp z; omega), e2, bn_s, e3, bn_s, g3'.2.2.2.1]
        by_cases z : (aEnd T e qb.1).2.1 = 0
        · rw [z, if_neg (by exact fun z => z rfl), if_pos (show (0 : Nat) = 0 from rfl)]
        · rw [if_pos (by exact fun y => z ((nI_eq (b := 0) (by omega) (by omega)).mp y)), if_neg z]
      obtain ⟨t3, g3, k3, ep⟩ := pe
      by_cases q6 : (aEnd T e qb.1).2.1 = 0
      rotate_left
      · rw [if_neg q6] at ep
        rw [aSq_s (stpB_f q6)]
        have rb := QS.bad (N := N) (w := w) (E := E) (n := n) (i := i + 1 + j) (τ := τ2) (τ1 := t3) (q := (aEnd T e qb.1, qb.2.1, sD qb.2.2 n 8 (nI qb.2.1))) q6 (by omega) (Rch.one fun K => by rw [go2 K, if_pos w9, ep]; rfl) g3
        obtain ⟨j', τ', j1, j2, j3⟩ := rb.2 q6
        exact ⟨fun z => absurd z q6, fun _ => ⟨1 + j + j', τ', by omega, fun m => by rw [show m + (1 + j + j') = (m + j') + (1 + j) by omega, r12 (m + j')]; exact j2 m, j3⟩⟩
      rw [if_pos q6] at ep
      have hE2 : E2 < 60 := by
        have := i4.2.2.2.1
        omega
      have s3 := i4.k k3
      obtain ⟨t6, e6, c8, c2, c1, c70, c74, c74', cK, cA, cM, cX⟩ := close_e (E := E) (E2 := E2) (w := w) s3.2.2.1 w3 ((k3.1 _ _ (by omega)).trans f75) (by omega) s3.2.1 hE2
      rw [e6, bn_s] at ep
      have u69 : t6.1 69 0 = τ2.1 69 0 := ((fr_F6_parseEnd 69 N τ2 _ _ ep).keep (D := [(69, some 0)]) rfl (In_o 0 rfl)).1
      have tc6 : TC T e (aEnd T e qb.1) t6 := g3.mv (fun j => cX _ _ (by omega)) (fun j => cX _ _ (by omega))
      have r3 : Rch (FF N) (1 + j + 1) (nI i, τ) (nI (i + 1 + j + 1), t6) := r12.tr (Rch.one fun K => by rw [go2 K, if_pos w9, ep]; rfl)
      have hs6 : SB qb.2.1 (E2 + 1) w t6 := ⟨c1.trans s3.1, c2, c8, i4.2.2.2.1, by omega, by omega⟩
      have l6 : (tStp T e qb.1).1 ≤ (aEnd T e qb.1).1 := by rw [eEnd]; exact ls3.1
      have J := ih w (aEnd T e qb.1) qb.2.1 (sD qb.2.2 n 8 (nI qb.2.1)) t6 (i + 1 + j + 1) (E2 + 1) (by omega) tc6 q6 hs6 (by omega) (by omega)
      have bD := aSq_D (T := T) (e := e) k w (aEnd T e qb.1) qb.2.1 (sD qb.2.2 n 8 (nI qb.2.1)) i4.2.2.2.1
      -- what an entry of before says at t6
      have old : ∀ q j', 70 ≤ q → q ≤ 74 → j' < E2 → (q = 74 → j' ≠ E) → t6.1 q j' = τ2.1 q j' := fun q j' h1 h2 h3 h4 => by
        have k : t3.1 q j' = τ2.1 q j' := k3.1 _ _ (by omega)
        rcases (show q = 70 ∨ (71 ≤ q ∧ q ≤ 73) ∨ q = 74 by omega) with rfl | h5 | rfl
        · exact (cK j' (by omega)).trans k
        · exact (cA q j' h5.1 h5.2).trans k
        · exact (cM j' (by omega) (h4 rfl)).trans k
      refine ⟨fun z => ?_, fun z => ?_⟩
      · obtain ⟨j', τ', E', f', p1, p2, p3, p4, p5, p6, p7, p8, p9, p10⟩ := J.1 z
        refine ⟨1 + j + 1 + j', τ', E', max f f' + 1, ?_, by omega, p3, p4, p5, fun q a' h1 h2 h3 => ?_, fun a' ha => ?_, by omega, ?_, p10.trans (u69.trans (i10.trans t69))⟩
        · have := r3.tr p1
          rw [show i + 1 + j + 1 + j' = i + (1 + j + 1 + j') by omega] at this
          exact this
        · rw [p6 q a' h1 h2 (by omega), old q a' h1 h2 (by omega) (by omega), i6 q a' h1 h2 (by omega), yj q a' h1 h2 (by omega)]
        · rw [p7 a' ha, cX 75 a' (by omega), k3.1 75 a' (by omega), i7 a' (by omega), yst a' ha]
        · have fin2 : ∀ q, 70 ≤ q → q ≤ 73 → τ'.1 q E = t.1 q E := fun q h1 h2 => by
            rw [p6 q E h1 (by omega) (by omega), old q E h1 (by omega) (by omega) (by omega), i6 q E h1 (by omega) (by omega)]
          refine Or.inr (Or.inr ⟨by omega, zn, ?_, E2, qb.2.1, 3 - (w + 1), by omega, hE2, ?_, ?_, ?_, ?_, ?_, ?_⟩)
          · have hw := hv.2 hb
            have f0 : τ'.1 70 E = nI (kdW T e x) := (fin2 70 (by omega) (by omega)).trans y0
            have f1 : τ'.1 71 E = a := (fin2 71 (by omega) (by omega)).trans y1
            have f2 : τ'.1 72 E = b := (fin2 72 (by omega) (by omega)).trans y2
            have f3 : τ'.1 73 E = c := (fin2 73 (by omega) (by omega)).trans y3
            have dd : ∀ o, o < 8 → (aSq T e k w (aEnd T e qb.1) qb.2.1 (sD qb.2.2 n 8 (nI qb.2.1))).2.2 n o = (aR T e w x n D).2 n o := fun o ho => by
              rw [bD.2.2 n o (by omega), sD_o (by omega), aD.2.2 n o (by omega)]
            unfold whenOk loopOk at *
            rw [f0, f1, f2, f3, dd 0 (by omega), dd 1 (by omega), dd 5 (by omega), dd 6 (by omega), dd 7 (by omega)]
            exact hw
          · rw [p6 74 E (by omega) (by omega) (by omega)]
            exact c74'
          · rw [p6 70 E2 (by omega) (by omega) (by omega)]
            exact c70
          · rw [p6 74 E2 (by omega) (by omega) (by omega)]
            exact c74
          · refine Seg_up (Nat.le_max_left f f') (Seg_at i9 (fun a' h1 h2 => ?_) (fun t' o h1 h2 h3 => ?_))
            · refine ⟨?_, ?_, ?_, ?_, ?_⟩
              · rw [p6 70 a' (by omega) (by omega) (by omega), old 70 a' (by omega) (by omega) h2 (by omega)]
              · rw [p6 71 a' (by omega) (by omega) (by omega), old 71 a' (by omega) (by omega) h2 (by omega)]
              · rw [p6 72 a' (by omega) (by omega) (by omega), old 72 a' (by omega) (by omega) h2 (by omega)]
              · rw [p6 73 a' (by omega) (by omega) (by omega), old 73 a' (by omega) (by omega) h2 (by omega)]
              · rw [p6 74 a' (by omega) (by omega) (by omega), old 74 a' (by omega) (by omega) h2 (by omega)]
            · rw [bD.2.2 t' o h2, sD_t (by omega)]
          · rw [bD.2.2 n 8 (by omega), sD_e]
          · exact Seg_up (Nat.le_max_right f f') p9
      · obtain ⟨j', τ', j1, j2, j3⟩ := J.2 z
        exact ⟨1 + j + 1 + j', τ', by omega, fun m => by rw [show m + (1 + j + 1 + j') = (m + j') + (1 + j + 1) by omega, r3 (m + j')]; exact j2 m, j3⟩
