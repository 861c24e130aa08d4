theorem tStp_le {T : Nat → Nat} {e : Nat} {x : TX} (h : x.1 ≤ e) : x.1 ≤ (tStp T e x).1 ∧ (tStp T e x).1 ≤ e := by
  unfold tStp
  split
  · have h1 := hdS_le (T := T) h
    have h2 := tS_le (T := T) h1.2.1
    show x.1 ≤ tS T e (hdS T e x.1) ∧ tS T e (hdS T e x.1) ≤ e
    omega
  · exact ⟨Nat.le_refl _, h⟩
theorem tStp_lt {T : Nat → Nat} {e : Nat} {x : TX} (h : x.1 ≤ e) (h0 : x.2.1 = 0) (hk : kdS T e x.1 ≠ 0) : x.1 < (tStp T e x).1 := by
  unfold tStp
  rw [if_pos h0]
  have h1 := hdS_le (T := T) h
  have h2 := tS_le (T := T) h1.2.1
  have h3 := h1.2.2 hk
  show x.1 < tS T e (hdS T e x.1)
  omega
theorem tMust_le {T : Nat → Nat} {e : Nat} {b : Bool} {x : TX} (h : x.1 ≤ e) : x.1 ≤ (tMust T e b x).1 ∧ (tMust T e b x).1 ≤ e := by
  unfold tMust
  split
  · exact tStp_le h
  · rw [tRef_1]
    exact ⟨Nat.le_refl _, h⟩
theorem tNum_le {T : Nat → Nat} {e lo m : Nat} {x : TX} (h : x.1 ≤ e) : x.1 ≤ (tNum T e lo m x).1 ∧ (tNum T e lo m x).1 ≤ e := by
  unfold tNum
  have key : ∀ y : TX, y.1 = x.1 → x.1 ≤ (tStp T e y).1 ∧ (tStp T e y).1 ≤ e := fun y hy => by
    have := tStp_le (T := T) (x := y) (by omega : y.1 ≤ e)
    omega
  split
  · split
    · exact key x rfl
    · exact key _ tRef_1
  · exact key _ tRef_1
theorem tWch_le {T : Nat → Nat} {e i m : Nat} {x : TX} (h : x.1 ≤ e) : x.1 ≤ (tWch T e i m x).1 ∧ (tWch T e i m x).1 ≤ e := by
  rw [tWch_must]
  exact tMust_le h
theorem spF_le {T : Nat → Nat} {e n m : Nat} {x : TX} (h : x.1 ≤ e) : x.1 ≤ (spF T e n m x).1 ∧ (spF T e n m x).1 ≤ e := by
  unfold spF
  split
  · exact tStp_le h
  · have := tStp_le (T := T) (x := tRef T e 6 x) (by rw [tRef_1]; exact h)
    rw [tRef_1] at this
    exact this
theorem spF_lt {T : Nat → Nat} {e n m : Nat} {x : TX} (h : x.1 ≤ e) (hk : kdS T e x.1 ≠ 0) (h0 : (spF T e n m x).2.1 = 0) : x.1 < (spF T e n m x).1 ∧ n < m := by
  unfold spF at *
  by_cases q : n < m
  · rw [if_pos q] at *
    exact ⟨tStp_lt h (Classical.byContradiction fun z => by
      rw [tStp_f z] at h0
      exact z h0) hk, q⟩
  · rw [if_neg q, tStp_f (tRef_n x (by omega))] at h0
    exact absurd h0 (tRef_n x (by omega))
theorem gnd_1 {T : Nat → Nat} {e c : Nat} {H : HG} {y : TX} : (gnd T e H c y).1 = y.1 := by
  unfold gnd
  split
  · exact tRef_1
  · rfl
theorem pPart_ok {T : Nat → Nat} {e : Nat} {x : TX} {H : HG} (hx : x.1 ≤ e) (h0 : (pPart T e x H).1.2.1 = 0) (hp : PH H) : x.1 < (pPart T e x H).1.1 ∧ PH (pPart T e x H).2 := by
  unfold pPart at *
  by_cases c0 : isWd T e x.1 0 = true
  · rw [if_pos c0] at h0 ⊢
    have hk : kdS T e x.1 ≠ 0 := by rw [isWd_k c0]; decide
    have e1 : (pSprig T e x H).1 = clsT T e (spOn T e H (wich T e (spF T e (gn H) 20 x).1 4 3 0) (tWch T e 4 3 (spF T e (gn H) 20 x))) := rfl
    have e2 : (pSprig T e x H).2 = if (pSprig T e x H).1.2.1 = 0 then hGr H (wich T e (spF T e (gn H) 20 x).1 4 3 0) (spO T e (tWch T e 4 3 (spF T e (gn H) 20 x))) else H := rfl
    rw [e2, if_pos h0]
    rw [e1] at h0 ⊢
    have z5 := clsT_z h0
    have z2 : (tWch T e 4 3 (spF T e (gn H) 20 x)).2.1 = 0 := Classical.byContradiction fun z => by
      unfold spOn at z5
      split at z5
      · have := (gnd_z z5).1
        rw [tStp_f z] at this
        exact z this
      · exact z z5
    obtain ⟨z1, c3⟩ := tWch_z z2
    have l1 := spF_le (T := T) (n := gn H) (m := 20) hx
    obtain ⟨l1', n20⟩ := spF_lt hx hk z1
    have l2 := tWch_le (T := T) (i := 4) (m := 3) l1.2
    have l5 : (tWch T e 4 3 (spF T e (gn H) 20 x)).1 ≤ (spOn T e H (wich T e (spF T e (gn H) 20 x).1 4 3 0) (tWch T e 4 3 (spF T e (gn H) 20 x))).1 ∧ (spOn T e H (wich T e (spF T e (gn H) 20 x).1 4 3 0) (tWch T e 4 3 (spF T e (gn H) 20 x))).1 ≤ e := by
      unfold spOn
      split
      · have a1 := tStp_le (T := T) l2.2
        have a2 := tNum_le (T := T) (lo := 0) (m := gn H) (x := gnd T e H (wich T e (spF T e (gn H) 20 x).1 4 3 0) (tStp T e (tWch T e 4 3 (spF T e (gn H) 20 x)))) (by rw [gnd_1]; exact a1.2)
        rw [gnd_1] at a2
        omega
      · exact ⟨Nat.le_refl _, l2.2⟩
    have l6 := tMust_le (T := T) (b := isMk T e (spOn T e H (wich T e (spF T e (gn H) 20 x).1 4 3 0) (tWch T e 4 3 (spF T e (gn H) 20 x))).1 59) l5.2
    refine ⟨?_, PH_gr hp (by omega) n20 ?_⟩
    · show x.1 < (tMust T e _ _).1
      omega
    · unfold spO
      unfold spOn at z5
      split
      · next hb =>
        rw [if_pos hb] at z5
        obtain ⟨-, a, b, -⟩ := gnd_z z5
        exact Or.inr ⟨a, b⟩
      · exact Or.inl rfl
  rw [if_neg c0] at h0 ⊢
  by_cases c1 : isWd T e x.1 1 = true
  · rw [if_pos c1] at h0 ⊢
    have hk : kdS T e x.1 ≠ 0 := by rw [isWd_k c1]; decide
    have e1 : (pHeap T e x H).1 = clsT T e (tNum T e 0 16 (spF T e (gm H) 4 x)) := rfl
    have e2 : (pHeap T e x H).2 = if (pHeap T e x H).1.2.1 = 0 then hPi H (vlS T e (spF T e (gm H) 4 x).1) else H := rfl
    rw [e2, if_pos h0]
    rw [e1] at h0 ⊢
    have z5 := clsT_z h0
    obtain ⟨z1, -, -, hv⟩ := tNum_z z5
    have l1 := spF_le (T := T) (n := gm H) (m := 4) hx
    obtain ⟨l1', n4⟩ := spF_lt hx hk z1
    have l2 := tNum_le (T := T) (lo := 0) (m := 16) l1.2
    have l6 := tMust_le (T := T) (b := isMk T e (tNum T e 0 16 (spF T e (gm H) 4 x)).1 59) l2.2
    refine ⟨?_, WG_pi hp.1 n4 (by omega), hp.2.1, hp.2.2.1, hp.2.2.2⟩
    show x.1 < (tMust T e _ _).1
    omega
  rw [if_neg c1] at h0 ⊢
  by_cases c2 : isWd T e x.1 2 = true
  · rw [if_pos c2] at h0 ⊢
    have hk : kdS T e x.1 ≠ 0 := by rw [isWd_k c2]; decide
    have e1 : (pBet T e x H).1 = clsT T e (tNum T e (if vlS T e (spF T e (gk H) 5 x).1 = 0 then 1 else 0) 21 (tNum T e 0 21 (spF T e (gk H) 5 x))) := rfl
    have e2 : (pBet T e x H).2 = if (pBet T e x H).1.2.1 = 0 then hOf H (vlS T e (spF T e (gk H) 5 x).1) (vlS T e (tNum T e 0 21 (spF T e (gk H) 5 x)).1) else H := rfl
    rw [e2, if_pos h0]
    rw [e1] at h0 ⊢
    have z5 := clsT_z h0
    obtain ⟨z2, -, hlo, hv2⟩ := tNum_z z5
    obtain ⟨z1, -, -, hv⟩ := tNum_z z2
    have l1 := spF_le (T := T) (n := gk H) (m := 5) hx
    obtain ⟨l1', n4⟩ := spF_lt hx hk z1
    have l2 := tNum_le (T := T) (lo := 0) (m := 21) l1.2
    have l3 := tNum_le (T := T) (lo := if vlS T e (spF T e (gk H) 5 x).1 = 0 then 1 else 0) (m := 21) l2.2
    have l6 := tMust_le (T := T) (b := isMk T e (tNum T e (if vlS T e (spF T e (gk H) 5 x).1 = 0 then 1 else 0) 21 (tNum T e 0 21 (spF T e (gk H) 5 x))).1 59) l3.2
    refine ⟨?_, WG_of hp.1 n4 (by omega) (by omega) ?_, hp.2.1, hp.2.2.1, hp.2.2.2⟩
    · show x.1 < (tMust T e _ _).1
      omega
    · split at hlo <;> omega
  rw [if_neg c2] at h0 ⊢
  exact absurd h0 (tRef_n x (by omega))
def pAll (T : Nat → Nat) (e : Nat) : Nat → TX → HG → TX × HG
  | 0, x, H => (x, H)
  | k + 1, x, H => if x.2.1 = 0 ∧ kdS T e x.1 ≠ 0 then pAll T e k (pPart T e x H).1 (pPart T e x H).2 else (x, H)
theorem pAll_n {T : Nat → Nat} {e : Nat} {x : TX} {H : HG} (h : ¬ (x.2.1 = 0 ∧ kdS T e x.1 ≠ 0)) : ∀ k, pAll T e k x H = (x, H)
  | 0 => rfl
  | k + 1 => if_neg h
theorem pAll_y {T : Nat → Nat} {e k : Nat} {x : TX} {H : HG} (h : x.2.1 = 0 ∧ kdS T e x.1 ≠ 0) : pAll T e (k + 1) x H = pAll T e k (pPart T e x H).1 (pPart T e x H).2 := if_pos h
def msr (e : Nat) (x : TX) : Nat := if x.2.1 = 0 then e + 1 - x.1 else 0
theorem pAll_PH {T : Nat → Nat} {e : Nat} (ht : TT T e) : ∀ k x H, x.1 ≤ e → PH H → (pAll T e k x H).1.2.1 = 0 → PH (pAll T e k x H).2
  | 0, _, _, _, h, _ => h
  | k + 1, x, H, hx, h, h0 => by
    by_cases q : x.2.1 = 0 ∧ kdS T e x.1 ≠ 0
    · rw [pAll_y q] at *
      by_cases z : (pPart T e x H).1.2.1 = 0
      · by_cases ze : (pPart T e x H).1.1 ≤ e
        · exact pAll_PH ht k _ _ ze (pPart_ok hx z h).2 h0
        · have hn : ¬ ((pPart T e x H).1.2.1 = 0 ∧ kdS T e (pPart T e x H).1.1 ≠ 0) := fun y => by
            have : kdS T e (pPart T e x H).1.1 = 0 := by
              unfold kdS
              rw [if_pos (by omega)]
            exact y.2 this
          rw [pAll_n hn] at *
          exact (pPart_ok hx z h).2
      · rw [pAll_n (fun y => z y.1)] at h0
        exact absurd h0 z
    · rw [pAll_n q] at *
      exact h
theorem cAllT {N e : Nat} {T : Nat → Nat} {H : HG} {x : TX} {τ : Ms} (hN : 2000 < N) (ht : TT T e) (h : TC T e x τ) (hp : PH H) (cg : CG 30 H τ) (hcut : τ.1 30 11 = nI 0) : wp (F1_parse_b6 N 30 (0 : Int32) τ) fun _ τ' => TC T e (pAll T e (e + 2) x H).1 τ' ∧ ((pAll T e (e + 2) x H).1.2.1 = 0 → CG 30 (pAll T e (e + 2) x H).2 τ') ∧ τ'.1 30 11 = nI 0 := by
  have he := ht.1
  unfold F1_parse_b6
  refine wp_fx (fun n s => ∃ i k y G t, s = (nI i, t) ∧ TC T e y t ∧ (y.2.1 = 0 → CG 30 G t ∧ PH G ∧ i ≤ y.1) ∧ i ≤ 900 ∧ t.1 30 11 = nI 0 ∧ n = msr e y ∧ n < k ∧ pAll T e k y G = pAll T e (e + 2) x H) ?_ (n := msr e x) (by unfold msr; split <;> omega) ⟨0, e + 2, x, H, τ, rfl, h, fun _ => ⟨cg, hp, Nat.zero_le _⟩, by omega, hcut, rfl, by unfold msr; split <;> omega, rfl⟩
  rintro n co _ ⟨i, k, y, G, t, rfl, tc, hy, hi, hct, hn, hk, hR⟩ hco
  dsimp only
  unfold F1_parse_b6B F1_parse_b76
  have fin2 : ¬ (y.2.1 = 0 ∧ kdS T e y.1 ≠ 0) → wp (some ((), t)) fun _ τ' => TC T e (pAll T e (e + 2) x H).1 τ' ∧ ((pAll T e (e + 2) x H).1.2.1 = 0 → CG 30 (pAll T e (e + 2) x H).2 τ') ∧ τ'.1 30 11 = nI 0 := fun hz => by
    rw [← hR, pAll_n hz]
    exact wp_some.mpr ⟨tc, fun z => (hy z).1, hct⟩
  by_cases q9 : 900 ≤ i
  · rw [if_pos (by exact nI_le (a := 900) q9 (by omega))]
    refine fin2 (fun z => z.2 ?_)
    have := (hy z.1).2.2
    unfold kdS
    rw [if_pos (by omega)]
  rw [if_neg (by exact nI_ge (b := 900) (by omega) (by omega))]
  have h100 := tc.2.2.2.2.2
  have hk5 := kdS_lt T e y.1
  unfold F8_goesOn
  rw [tc.2.2.2.1, tc.2.1.1]
  by_cases q0 : y.2.1 = 0
  rotate_left
  · rw [if_pos (by exact fun z => q0 ((nI_eq (b := 0) (by omega) (by omega)).mp z)), bn_s, if_pos (by rfl)]
    exact fin2 (fun z => q0 z.1)
  rw [q0, if_neg (by exact fun z => z rfl)]
  by_cases q1 : kdS T e y.1 = 0
  · rw [q1, if_pos (show nI 0 = (0 : Int32) from rfl), bn_s, if_pos (by rfl)]
    exact fin2 (fun z => z.2 q1)
  rw [if_neg (by exact fun z => q1 ((nI_eq (b := 0) (by omega) (by omega)).mp z)), bn_s, if_neg (by decide)]
  obtain ⟨cgy, phy, hiy⟩ := hy q0
  have hse := (hdS_le (T := T) tc.2.2.1).2.2 q1
  have hmy : msr e y = e + 1 - y.1 := if_pos q0
  obtain ⟨k', rfl⟩ : ∃ k', k = k' + 1 := ⟨k - 1, by omega⟩
  rw [pAll_y ⟨q0, q1⟩] at hR
  refine cPartT (N := N) (K := fun _ t' => co (nI i + (1 : Int32), t')) (by omega) ht tc phy.1 cgy ?_
  intro t' tc' cg' ct'
  rw [L_1, nI_add]
  by_cases z : (pPart T e y G).1.2.1 = 0
  · obtain ⟨p1, p2⟩ := pPart_ok tc.2.2.1 z phy
    have hm' : msr e (pPart T e y G).1 = e + 1 - (pPart T e y G).1.1 := if_pos z
    have := tc'.2.2.1
    exact hco (msr e (pPart T e y G).1) _ (by omega) ⟨i + 1, k', _, _, t', rfl, tc', fun _ => ⟨cg', p2, by omega⟩, by omega, ct'.trans hct, rfl, by omega, hR⟩
  · have hm' : msr e (pPart T e y G).1 = 0 := if_neg z
    exact hco (msr e (pPart T e y G).1) _ (by omega) ⟨i + 1, k', _, _, t', rfl, tc', fun y => absurd y z, by omega, ct'.trans hct, rfl, by omega, hR⟩
theorem mAllT {N e : Nat} {T : Nat → Nat} {H : HG} {x : TX} {σ τ : Ms} {P : Int32 → Ms → Prop} (hN : 2000 < N) (ht : TT T e) (h : TMx T e x τ) (hp : PH H) (cg : MG 1424 H τ) (kp : KP σ τ) (hend : ∀ t, TMx T e (pAll T e (e + 2) x H).1 t → ((pAll T e (e + 2) x H).1.2.1 = 0 → MG 1424 (pAll T e (e + 2) x H).2 t) → KP σ t → wp (F12_hedge_b80 N t) P) : wp (F12_hedge_b49 N τ) P := by
  have he := ht.1
  unfold F12_hedge_b49
  refine wp_fx (fun n t => ∃ k y G, TMx T e y t ∧ (y.2.1 = 0 → MG 1424 G t ∧ PH G) ∧ KP σ t ∧ n = msr e y ∧ n < k ∧ pAll T e k y G = pAll T e (e + 2) x H) ?_ (n := msr e x) (by unfold msr; split <;> omega) ⟨e + 2, x, H, h, fun _ => ⟨cg, hp⟩, kp, rfl, by unfold msr; split <;> omega, rfl⟩
  rintro n co t ⟨k, y, G, tc, hy, kpt, hn, hk, hR⟩ hco
  unfold F12_hedge_b49B
  have fin2 : ¬ (y.2.1 = 0 ∧ kdS T e y.1 ≠ 0) → wp (F12_hedge_b80 N t) P := fun hz => by
    rw [pAll_n hz] at hR
    exact hend t (by rw [← hR]; exact tc) (fun z => by
      rw [← hR] at z ⊢
      exact (hy z).1) kpt
  have h100 := tc.2.2.2.2.2
  have hk5 := kdS_lt T e y.1
  by_cases q0 : y.2.1 = 0
  rotate_left
  · rw [if_pos (tc.f.2.2.mpr q0)]
    exact fin2 (fun z => q0 z.1)
  rw [if_neg (fun z => tc.f.2.2.mp z q0), tc.2.1.1]
  by_cases q1 : kdS T e y.1 = 0
  · rw [q1, if_pos (show nI 0 = (0 : Int32) from rfl)]
    exact fin2 (fun z => z.2 q1)
  rw [if_neg (by exact fun z => q1 ((nI_eq (b := 0) (by omega) (by omega)).mp z))]
  obtain ⟨cgy, phy⟩ := hy q0
  have hse := (hdS_le (T := T) tc.2.2.1).2.2 q1
  have hmy : msr e y = e + 1 - y.1 := if_pos q0
  obtain ⟨k', rfl⟩ : ∃ k', k = k' + 1 := ⟨k - 1, by omega⟩
  rw [pAll_y ⟨q0, q1⟩] at hR
  refine mPartT (N := N) (K := fun _ t' => co t') (by omega) ht tc phy.1 phy.2.2.1 cgy ?_
  intro t' tc' cg' kp'
  by_cases z : (pPart T e y G).1.2.1 = 0
  · obtain ⟨p1, p2⟩ := pPart_ok tc.2.2.1 z phy
    have hm' : msr e (pPart T e y G).1 = e + 1 - (pPart T e y G).1.1 := if_pos z
    have := tc'.2.2.1
    exact hco (msr e (pPart T e y G).1) _ (by omega) ⟨k', _, _, tc', fun _ => ⟨cg' z, p2⟩, kpt.tr kp', rfl, by omega, hR⟩
  · have hm' : msr e (pPart T e y G).1 = 0 := if_neg z
    exact hco (msr e (pPart T e y G).1) _ (by omega) ⟨k', _, _, tc', fun y => absurd y z, kpt.tr kp', rfl, by omega, hR⟩
/-- a text begins -/
theorem open_c {N e m : Nat} {T : Nat → Nat} {σ : Ms} (hN : 2000 < N) (ht : TT T e) (h1 : σ.1 20 1 = nI m) (hm : m ≤ 900) (hem : e ≤ m) (hb : ∀ j, j < e → σ.1 21 j = sb8 (T j)) : wp (F8_open N (nI e) σ) fun _ τ => TC T e (tS T e 0, 0, 0) τ ∧ K20 σ τ := by
  have he := ht.1
  unfold F8_open FJ9_min_7cf53
  rw [h1, if_neg (nI_nlt hem (by omega)), bn_s, max_n (by omega), bn_s, lt_e, lt_e, lt_e, lt_e]
  have bb : BB T e (sI (sI (sI (sI σ 20 4 (nI e)) 20 2 (0 : Int32)) 20 3 (-1 : Int32)) 20 7 (0 : Int32)) := ⟨by try simp (disch := first | omega | assumption) only [lt_e, bn_s, ck_t, nk0, nk1, nk_b, bI_t, bI_f, L_0, L_1, L_2, L_3, L_4, L_5, L_6, L_7, L_8, L_9, L_10, L_11, L_12, L_15, L_20, L_25, L_30, L_45, L_60, L_65, L_69, L_74, L_79, L_84, L_85, L_86, L_99, L_100, L_255, L_300, L_356, L_900, L_1424, L_1425, L_1489, L_1510, L_9999, L_10000, nI_add, nI_mul, u_lt_t, u_lt_f, u_le_t, u_le_f, u_eq_t, u_eq_f, u_mlt, u_ltm, u_eqm, u_meq, u_mle, u_b0, u_b1, u_ix, u_cl, u_sub, u_suc, u_z0, u_0m, cI_0, cI_s, rI_e, rI_k, rI_j, rI_l, rL_e, rL_k, rL_j, rL_i, told11, none11, refuse12, no11q, no12q, yes11q, if_true, if_false, ite_true, ite_false, ne_eq, not_true_eq_false, not_false_eq_true, Classical.not_not, Bool.not_eq_true, Bool.not_eq_false, reduceCtorEq, Nat.add_zero, Nat.zero_add, Nat.mul_zero, and_self, and_true, true_and, Bool.true_eq_false, Bool.false_eq_true, eq_self], fun j hj => by rw [rI_k (by omega), rI_k (by omega), rI_k (by omega), rI_k (by omega)]; exact hb j hj⟩
  have x2 : (sI (sI (sI (sI σ 20 4 (nI e)) 20 2 (0 : Int32)) 20 3 (-1 : Int32)) 20 7 (0 : Int32)).1 20 2 = nI 0 := by try simp (disch := first | omega | assumption) only [lt_e, bn_s, ck_t, nk0, nk1, nk_b, bI_t, bI_f, L_0, L_1, L_2, L_3, L_4, L_5, L_6, L_7, L_8, L_9, L_10, L_11, L_12, L_15, L_20, L_25, L_30, L_45, L_60, L_65, L_69, L_74, L_79, L_84, L_85, L_86, L_99, L_100, L_255, L_300, L_356, L_900, L_1424, L_1425, L_1489, L_1510, L_9999, L_10000, nI_add, nI_mul, u_lt_t, u_lt_f, u_le_t, u_le_f, u_eq_t, u_eq_f, u_mlt, u_ltm, u_eqm, u_meq, u_mle, u_b0, u_b1, u_ix, u_cl, u_sub, u_suc, u_z0, u_0m, cI_0, cI_s, rI_e, rI_k, rI_j, rI_l, rL_e, rL_k, rL_j, rL_i, told11, none11, refuse12, no11q, no12q, yes11q, if_true, if_false, ite_true, ite_false, ne_eq, not_true_eq_false, not_false_eq_true, Classical.not_not, Bool.not_eq_true, Bool.not_eq_false, reduceCtorEq, Nat.add_zero, Nat.zero_add, Nat.mul_zero, and_self, and_true, true_and, Bool.true_eq_false, Bool.false_eq_true, eq_self]
  have x3 : (sI (sI (sI (sI σ 20 4 (nI e)) 20 2 (0 : Int32)) 20 3 (-1 : Int32)) 20 7 (0 : Int32)).1 20 3 = -nI 1 := by
    rw [rI_j (by omega), rI_e rfl rfl]
    rfl
  have kk : K20 σ (sI (sI (sI (sI σ 20 4 (nI e)) 20 2 (0 : Int32)) 20 3 (-1 : Int32)) 20 7 (0 : Int32)) := ⟨fun k j hk => by rw [rI_k hk, rI_k hk, rI_k hk, rI_k hk], by rw [rI_j (by omega), rI_j (by omega), rI_j (by omega), rI_j (by omega)]⟩
  refine wp_bn.mpr (wp_mono (step_c (b := 0) (by omega) ht bb (Nat.zero_le _) x2 (by rw [rI_e rfl rfl]; rfl)) ?_)
  rintro _ t ⟨g1, hF⟩
  have e4 : t.1 20 4 = _ := (hF.keep (D := [(20, some 4)]) rfl (In_o 0 rfl)).1
  have e2 : t.1 20 2 = _ := (hF.keep (D := [(20, some 2)]) rfl (In_o 0 rfl)).1
  have e3 : t.1 20 3 = _ := (hF.keep (D := [(20, some 3)]) rfl (In_o 0 rfl)).1
  have hk := K20.fr hF (by decide)
  refine wp_some.mpr ⟨⟨⟨e4.trans bb.1, fun j hj => (hk.1 _ _ (by omega)).trans (bb.2 j hj)⟩, g1, (tS_le (Nat.zero_le e)).2, e2.trans x2, e3.trans x3, show 0 < 100 by decide⟩, kk.tr hk⟩
theorem starts_m {N e m lim : Nat} {T : Nat → Nat} {σ : Ms} (hN : 2000 < N) (ht : TT T e) (h1 : σ.1 0 8 = nI m) (hm : m ≤ 900) (hem : e ≤ m) (hl : e ≤ lim) (hl' : lim < 1000) (hb : ∀ j, j < e → σ.1 4 j &&& 255 = nI (T j)) : wp (F12_starts N (nI e) (nI lim) σ) fun r τ => r = nI 1 ∧ TMx T e (tS T e 0, 0, 0) τ ∧ (∀ k j, k ≠ 0 → τ.1 k j = σ.1 k j) ∧ τ.1 0 8 = nI 0 ∧ τ.1 0 0 = σ.1 0 0 ∧ τ.1 0 22 = σ.1 0 22 := by
  have he := ht.1
  unfold F12_starts
  rw [if_neg (nI_pos (by omega)), h1, if_neg (nI_nlt hem (by omega)), if_pos (nI_le hl (by omega)), lt_e, lt_e, lt_e, lt_e]
  have bb : MM T e (sI (sI (sI (sI σ 0 9 (nI e)) 0 8 (0 : Int32)) 0 16 (0 : Int32)) 0 12 (0 : Int32)) := ⟨by try simp (disch := first | omega | assumption) only [lt_e, bn_s, ck_t, nk0, nk1, nk_b, bI_t, bI_f, L_0, L_1, L_2, L_3, L_4, L_5, L_6, L_7, L_8, L_9, L_10, L_11, L_12, L_15, L_20, L_25, L_30, L_45, L_60, L_65, L_69, L_74, L_79, L_84, L_85, L_86, L_99, L_100, L_255, L_300, L_356, L_900, L_1424, L_1425, L_1489, L_1510, L_9999, L_10000, nI_add, nI_mul, u_lt_t, u_lt_f, u_le_t, u_le_f, u_eq_t, u_eq_f, u_mlt, u_ltm, u_eqm, u_meq, u_mle, u_b0, u_b1, u_ix, u_cl, u_sub, u_suc, u_z0, u_0m, cI_0, cI_s, rI_e, rI_k, rI_j, rI_l, rL_e, rL_k, rL_j, rL_i, told11, none11, refuse12, no11q, no12q, yes11q, if_true, if_false, ite_true, ite_false, ne_eq, not_true_eq_false, not_false_eq_true, Classical.not_not, Bool.not_eq_true, Bool.not_eq_false, reduceCtorEq, Nat.add_zero, Nat.zero_add, Nat.mul_zero, and_self, and_true, true_and, Bool.true_eq_false, Bool.false_eq_true, eq_self], fun j hj => by rw [rI_k (by omega), rI_k (by omega), rI_k (by omega), rI_k (by omega)]; exact hb j hj⟩
  have x2 : (sI (sI (sI (sI σ 0 9 (nI e)) 0 8 (0 : Int32)) 0 16 (0 : Int32)) 0 12 (0 : Int32)).1 0 12 = nI 0 := by try simp (disch := first | omega | assumption) only [lt_e, bn_s, ck_t, nk0, nk1, nk_b, bI_t, bI_f, L_0, L_1, L_2, L_3, L_4, L_5, L_6, L_7, L_8, L_9, L_10, L_11, L_12, L_15, L_20, L_25, L_30, L_45, L_60, L_65, L_69, L_74, L_79, L_84, L_85, L_86, L_99, L_100, L_255, L_300, L_356, L_900, L_1424, L_1425, L_1489, L_1510, L_9999, L_10000, nI_add, nI_mul, u_lt_t, u_lt_f, u_le_t, u_le_f, u_eq_t, u_eq_f, u_mlt, u_ltm, u_eqm, u_meq, u_mle, u_b0, u_b1, u_ix, u_cl, u_sub, u_suc, u_z0, u_0m, cI_0, cI_s, rI_e, rI_k, rI_j, rI_l, rL_e, rL_k, rL_j, rL_i, told11, none11, refuse12, no11q, no12q, yes11q, if_true, if_false, ite_true, ite_false, ne_eq, not_true_eq_false, not_false_eq_true, Classical.not_not, Bool.not_eq_true, Bool.not_eq_false, reduceCtorEq, Nat.add_zero, Nat.zero_add, Nat.mul_zero, and_self, and_true, true_and, Bool.true_eq_false, Bool.false_eq_true, eq_self]
  have x8 : (sI (sI (sI (sI σ 0 9 (nI e)) 0 8 (0 : Int32)) 0 16 (0 : Int32)) 0 12 (0 : Int32)).1 0 8 = nI 0 := by try simp (disch := first | omega | assumption) only [lt_e, bn_s, ck_t, nk0, nk1, nk_b, bI_t, bI_f, L_0, L_1, L_2, L_3, L_4, L_5, L_6, L_7, L_8, L_9, L_10, L_11, L_12, L_15, L_20, L_25, L_30, L_45, L_60, L_65, L_69, L_74, L_79, L_84, L_85, L_86, L_99, L_100, L_255, L_300, L_356, L_900, L_1424, L_1425, L_1489, L_1510, L_9999, L_10000, nI_add, nI_mul, u_lt_t, u_lt_f, u_le_t, u_le_f, u_eq_t, u_eq_f, u_mlt, u_ltm, u_eqm, u_meq, u_mle, u_b0, u_b1, u_ix, u_cl, u_sub, u_suc, u_z0, u_0m, cI_0, cI_s, rI_e, rI_k, rI_j, rI_l, rL_e, rL_k, rL_j, rL_i, told11, none11, refuse12, no11q, no12q, yes11q, if_true, if_false, ite_true, ite_false, ne_eq, not_true_eq_false, not_false_eq_true, Classical.not_not, Bool.not_eq_true, Bool.not_eq_false, reduceCtorEq, Nat.add_zero, Nat.zero_add, Nat.mul_zero, and_self, and_true, true_and, Bool.true_eq_false, Bool.false_eq_true, eq_self]
  have kk : ∀ k j, k ≠ 0 → (sI (sI (sI (sI σ 0 9 (nI e)) 0 8 (0 : Int32)) 0 16 (0 : Int32)) 0 12 (0 : Int32)).1 k j = σ.1 k j := fun k j h => by rw [rI_k h, rI_k h, rI_k h, rI_k h]
  have kj : ∀ j, (j = 0 ∨ j = 22) → (sI (sI (sI (sI σ 0 9 (nI e)) 0 8 (0 : Int32)) 0 16 (0 : Int32)) 0 12 (0 : Int32)).1 0 j = σ.1 0 j := fun j h => by rw [rI_j (by omega), rI_j (by omega), rI_j (by omega), rI_j (by omega)]
  refine wp_bn.mpr (wp_mono (advance_m (b := 0) (by omega) ht bb (Nat.zero_le _) (by rw [rI_j (by omega), rI_e rfl rfl]; rfl)) ?_)
  rintro _ t ⟨g1, hF⟩
  have e9 : t.1 0 9 = _ := (hF.keep (D := [(0, some 9)]) rfl (In_o 0 rfl)).1
  have e8 : t.1 0 8 = _ := (hF.keep (D := [(0, some 8)]) rfl (In_o 0 rfl)).1
  have e12 : t.1 0 12 = _ := (hF.keep (D := [(0, some 12)]) rfl (In_o 0 rfl)).1
  have hk := K00.fr hF (by decide)
  refine wp_some.mpr ⟨rfl, ⟨⟨e9.trans bb.1, fun j hj => by rw [hk.1 _ _ (by omega)]; exact bb.2 j hj⟩, g1, (tS_le (Nat.zero_le e)).2, e12.trans x2, fun z => absurd rfl z, show 0 < 100 by decide⟩, fun k j h => (hk.1 k j h).trans (kk k j h), e8.trans x8, (hk.2.2 0 (by omega)).trans (kj 0 (Or.inl rfl)), hk.2.1.trans (kj 22 (Or.inr rfl))⟩
def H00 : HG := ((0, 0, fun _ => 0, fun _ => 0), (0, fun _ => 0), (0, 0, fun _ => 0, fun _ => 0, 0))
theorem PH_0 : PH H00 := ⟨⟨⟨Nat.zero_le _, by decide, fun i hi => absurd hi (Nat.not_lt_zero i)⟩, ⟨Nat.zero_le _, fun i hi => absurd hi (Nat.not_lt_zero i)⟩, Nat.zero_le _, by decide, fun i hi => absurd hi (Nat.not_lt_zero i), by decide, by decide⟩, fun i hi => absurd hi (Nat.not_lt_zero i), rfl, rfl⟩
theorem clear_c {σ : Ms} : ∃ t, F0_clear 30 σ = some ((), t) ∧ CG 30 H00 t ∧ t.1 30 11 = nI 0 ∧ ∀ k j, k ≠ 30 → t.1 k j = σ.1 k j := by
  unfold F0_clear
  rw [lt_e, lt_e, lt_e, lt_e, lt_e, lt_e, lt_e]
  refine ⟨_, rfl, ⟨⟨by try simp (disch := first | omega | assumption) only [lt_e, bn_s, ck_t, nk0, nk1, nk_b, bI_t, bI_f, L_0, L_1, L_2, L_3, L_4, L_5, L_6, L_7, L_8, L_9, L_10, L_11, L_12, L_15, L_20, L_25, L_30, L_45, L_60, L_65, L_69, L_74, L_79, L_84, L_85, L_86, L_99, L_100, L_255, L_300, L_356, L_900, L_1424, L_1425, L_1489, L_1510, L_9999, L_10000, nI_add, nI_mul, u_lt_t, u_lt_f, u_le_t, u_le_f, u_eq_t, u_eq_f, u_mlt, u_ltm, u_eqm, u_meq, u_mle, u_b0, u_b1, u_ix, u_cl, u_sub, u_suc, u_z0, u_0m, cI_0, cI_s, rI_e, rI_k, rI_j, rI_l, rL_e, rL_k, rL_j, rL_i, told11, none11, refuse12, no11q, no12q, yes11q, if_true, if_false, ite_true, ite_false, ne_eq, not_true_eq_false, not_false_eq_true, Classical.not_not, Bool.not_eq_true, Bool.not_eq_false, reduceCtorEq, Nat.add_zero, Nat.zero_add, Nat.mul_zero, and_self, and_true, true_and, Bool.true_eq_false, Bool.false_eq_true, eq_self]; rfl, by try simp (disch := first | omega | assumption) only [lt_e, bn_s, ck_t, nk0, nk1, nk_b, bI_t, bI_f, L_0, L_1, L_2, L_3, L_4, L_5, L_6, L_7, L_8, L_9, L_10, L_11, L_12, L_15, L_20, L_25, L_30, L_45, L_60, L_65, L_69, L_74, L_79, L_84, L_85, L_86, L_99, L_100, L_255, L_300, L_356, L_900, L_1424, L_1425, L_1489, L_1510, L_9999, L_10000, nI_add, nI_mul, u_lt_t, u_lt_f, u_le_t, u_le_f, u_eq_t, u_eq_f, u_mlt, u_ltm, u_eqm, u_meq, u_mle, u_b0, u_b1, u_ix, u_cl, u_sub, u_suc, u_z0, u_0m, cI_0, cI_s, rI_e, rI_k, rI_j, rI_l, rL_e, rL_k, rL_j, rL_i, told11, none11, refuse12, no11q, no12q, yes11q, if_true, if_false, ite_true, ite_false, ne_eq, not_true_eq_false, not_false_eq_true, Classical.not_not, Bool.not_eq_true, Bool.not_eq_false, reduceCtorEq, Nat.add_zero, Nat.zero_add, Nat.mul_zero, and_self, and_true, true_and, Bool.true_eq_false, Bool.false_eq_true, eq_self]; rfl, fun i hi => absurd hi (Nat.not_lt_zero i)⟩, ⟨by try simp (disch := first | omega | assumption) only [lt_e, bn_s, ck_t, nk0, nk1, nk_b, bI_t, bI_f, L_0, L_1, L_2, L_3, L_4, L_5, L_6, L_7, L_8, L_9, L_10, L_11, L_12, L_15, L_20, L_25, L_30, L_45, L_60, L_65, L_69, L_74, L_79, L_84, L_85, L_86, L_99, L_100, L_255, L_300, L_356, L_900, L_1424, L_1425, L_1489, L_1510, L_9999, L_10000, nI_add, nI_mul, u_lt_t, u_lt_f, u_le_t, u_le_f, u_eq_t, u_eq_f, u_mlt, u_ltm, u_eqm, u_meq, u_mle, u_b0, u_b1, u_ix, u_cl, u_sub, u_suc, u_z0, u_0m, cI_0, cI_s, rI_e, rI_k, rI_j, rI_l, rL_e, rL_k, rL_j, rL_i, told11, none11, refuse12, no11q, no12q, yes11q, if_true, if_false, ite_true, ite_false, ne_eq, not_true_eq_false, not_false_eq_true, Classical.not_not, Bool.not_eq_true, Bool.not_eq_false, reduceCtorEq, Nat.add_zero, Nat.zero_add, Nat.mul_zero, and_self, and_true, true_and, Bool.true_eq_false, Bool.false_eq_true, eq_self]; rfl, fun i hi => absurd hi (Nat.not_lt_zero i)⟩, by try simp (disch := first | omega | assumption) only [lt_e, bn_s, ck_t, nk0, nk1, nk_b, bI_t, bI_f, L_0, L_1, L_2, L_3, L_4, L_5, L_6, L_7, L_8, L_9, L_10, L_11, L_12, L_15, L_20, L_25, L_30, L_45, L_60, L_65, L_69, L_74, L_79, L_84, L_85, L_86, L_99, L_100, L_255, L_300, L_356, L_900, L_1424, L_1425, L_1489, L_1510, L_9999, L_10000, nI_add, nI_mul, u_lt_t, u_lt_f, u_le_t, u_le_f, u_eq_t, u_eq_f, u_mlt, u_ltm, u_eqm, u_meq, u_mle, u_b0, u_b1, u_ix, u_cl, u_sub, u_suc, u_z0, u_0m, cI_0, cI_s, rI_e, rI_k, rI_j, rI_l, rL_e, rL_k, rL_j, rL_i, told11, none11, refuse12, no11q, no12q, yes11q, if_true, if_false, ite_true, ite_false, ne_eq, not_true_eq_false, not_false_eq_true, Classical.not_not, Bool.not_eq_true, Bool.not_eq_false, reduceCtorEq, Nat.add_zero, Nat.zero_add, Nat.mul_zero, and_self, and_true, true_and, Bool.true_eq_false, Bool.false_eq_true, eq_self]; rfl, by try simp (disch := first | omega | assumption) only [lt_e, bn_s, ck_t, nk0, nk1, nk_b, bI_t, bI_f, L_0, L_1, L_2, L_3, L_4, L_5, L_6, L_7, L_8, L_9, L_10, L_11, L_12, L_15, L_20, L_25, L_30, L_45, L_60, L_65, L_69, L_74, L_79, L_84, L_85, L_86, L_99, L_100, L_255, L_300, L_356, L_900, L_1424, L_1425, L_1489, L_1510, L_9999, L_10000, nI_add, nI_mul, u_lt_t, u_lt_f, u_le_t, u_le_f, u_eq_t, u_eq_f, u_mlt, u_ltm, u_eqm, u_meq, u_mle, u_b0, u_b1, u_ix, u_cl, u_sub, u_suc, u_z0, u_0m, cI_0, cI_s, rI_e, rI_k, rI_j, rI_l, rL_e, rL_k, rL_j, rL_i, told11, none11, refuse12, no11q, no12q, yes11q, if_true, if_false, ite_true, ite_false, ne_eq, not_true_eq_false, not_false_eq_true, Classical.not_not, Bool.not_eq_true, Bool.not_eq_false, reduceCtorEq, Nat.add_zero, Nat.zero_add, Nat.mul_zero, and_self, and_true, true_and, Bool.true_eq_false, Bool.false_eq_true, eq_self]; rfl, by try simp (disch := first | omega | assumption) only [lt_e, bn_s, ck_t, nk0, nk1, nk_b, bI_t, bI_f, L_0, L_1, L_2, L_3, L_4, L_5, L_6, L_7, L_8, L_9, L_10, L_11, L_12, L_15, L_20, L_25, L_30, L_45, L_60, L_65, L_69, L_74, L_79, L_84, L_85, L_86, L_99, L_100, L_255, L_300, L_356, L_900, L_1424, L_1425, L_1489, L_1510, L_9999, L_10000, nI_add, nI_mul, u_lt_t, u_lt_f, u_le_t, u_le_f, u_eq_t, u_eq_f, u_mlt, u_ltm, u_eqm, u_meq, u_mle, u_b0, u_b1, u_ix, u_cl, u_sub, u_suc, u_z0, u_0m, cI_0, cI_s, rI_e, rI_k, rI_j, rI_l, rL_e, rL_k, rL_j, rL_i, told11, none11, refuse12, no11q, no12q, yes11q, if_true, if_false, ite_true, ite_false, ne_eq, not_true_eq_false, not_false_eq_true, Classical.not_not, Bool.not_eq_true, Bool.not_eq_false, reduceCtorEq, Nat.add_zero, Nat.zero_add, Nat.mul_zero, and_self, and_true, true_and, Bool.true_eq_false, Bool.false_eq_true, eq_self]; rfl, fun i hi => absurd hi (Nat.not_lt_zero i)⟩, by try simp (disch := first | omega | assumption) only [lt_e, bn_s, ck_t, nk0, nk1, nk_b, bI_t, bI_f, L_0, L_1, L_2, L_3, L_4, L_5, L_6, L_7, L_8, L_9, L_10, L_11, L_12, L_15, L_20, L_25, L_30, L_45, L_60, L_65, L_69, L_74, L_79, L_84, L_85, L_86, L_99, L_100, L_255, L_300, L_356, L_900, L_1424, L_1425, L_1489, L_1510, L_9999, L_10000, nI_add, nI_mul, u_lt_t, u_lt_f, u_le_t, u_le_f, u_eq_t, u_eq_f, u_mlt, u_ltm, u_eqm, u_meq, u_mle, u_b0, u_b1, u_ix, u_cl, u_sub, u_suc, u_z0, u_0m, cI_0, cI_s, rI_e, rI_k, rI_j, rI_l, rL_e, rL_k, rL_j, rL_i, told11, none11, refuse12, no11q, no12q, yes11q, if_true, if_false, ite_true, ite_false, ne_eq, not_true_eq_false, not_false_eq_true, Classical.not_not, Bool.not_eq_true, Bool.not_eq_false, reduceCtorEq, Nat.add_zero, Nat.zero_add, Nat.mul_zero, and_self, and_true, true_and, Bool.true_eq_false, Bool.false_eq_true, eq_self], fun k j hk => by rw [rI_k hk, rI_k hk, rI_k hk, rI_k hk, rI_k hk, rI_k hk, rI_k hk]⟩
theorem zero_m {N : Nat} {σ : Ms} {P : Int32 → Ms → Prop} (hN : 2000 < N) (hend : ∀ t, (∀ j, 1424 ≤ j → j < 1780 → t.1 5 j = nI 0) → (∀ k j, (k ≠ 5 ∨ j < 1424) → t.1 k j = σ.1 k j) → t.2 = σ.2 → wp (F12_hedge_b49 N t) P) : wp (F12_hedge_b25 N (0 : Int32) σ) P := by
  unfold F12_hedge_b25
  refine wp_fx (fun n s => ∃ i t, i + n = 356 ∧ s = (nI i, t) ∧ (∀ j, 1424 ≤ j → j < 1424 + i → t.1 5 j = nI 0) ∧ (∀ k j, (k ≠ 5 ∨ j < 1424) → t.1 k j = σ.1 k j) ∧ t.2 = σ.2) ?_ (n := 356) (by omega) ⟨0, σ, rfl, rfl, fun j h1 h2 => by omega, fun _ _ _ => rfl, rfl⟩
  rintro n co _ ⟨i, t, hi, rfl, g1, g2, g3⟩ hco
  dsimp only
  unfold F12_hedge_b25B
  by_cases q : 356 ≤ i
  · rw [if_pos (by exact nI_le (a := 356) q (by omega))]
    exact hend t (fun j h1 h2 => g1 j h1 (by omega)) g2 g3
  · rw [if_neg (by exact nI_ge (b := 356) (by omega) (by omega)), show (1424 : Int32) = nI 1424 from rfl, nI_add, u_ix (show 1424 + i < 1780 by omega) (by omega), ck_t, u_cl (by omega), lt_e, L_1, nI_add]
    refine hco (n - 1) _ (by omega) ⟨i + 1, _, by omega, rfl, fun j h1 h2 => ?_, fun k j h => by rw [show (sI t 5 (1424 + i) (0 : Int32)).1 k j = t.1 k j from if_neg (by omega)]; exact g2 k j h, g3⟩
    by_cases z : j = 1424 + i
    · rw [rI_e rfl z]
      rfl
    · rw [rI_j z]
      exact g1 j h1 (by omega)
/-- what a text leaves: the blocks kept -/
def K356 (σ τ : Ms) : Prop := ∀ j, 356 ≤ j → j < 1424 → τ.1 5 j = σ.1 5 j
theorem well_m {e : Nat} {T : Nat → Nat} {x : TX} {τ : Ms} (h : TMx T e x τ) : ∃ t, F12_isWell τ = some (bI (decide (x.2.1 = 0)), t) ∧ t.1 0 10 = nI x.2.1 ∧ t.1 0 11 = (if x.2.1 = 0 then -nI 1 else nI x.2.2) ∧ (x.2.1 = 0 → t.1 0 0 = τ.1 0 0) ∧ (x.2.1 ≠ 0 → t.1 0 0 = nI 10) ∧ (∀ k j, k ≠ 0 → t.1 k j = τ.1 k j) ∧ t.1 0 8 = τ.1 0 8 ∧ t.1 0 22 = τ.1 0 22 := by
  unfold F12_isWell F12_isWell_b24 F12_isWell_b43
  have e12 : (sI τ 0 10 (τ.1 0 12)).1 0 12 = nI x.2.1 := by rw [rI_j (by omega)]; exact h.2.2.2.1
  have h100 := h.2.2.2.2.2
  rw [lt_e, lt_e, lt_e]
  by_cases q : x.2.1 = 0
  · rw [e12, q, if_neg (by exact fun z => z rfl), rI_j (show 12 ≠ 11 by omega), e12, q, if_pos (by rfl)]
    refine ⟨_, rfl, ?_, ?_, fun _ => by rw [rI_j (by omega), rI_j (by omega)], fun z => absurd rfl z, fun k j hk => by rw [rI_k hk, rI_k hk], by rw [rI_j (by omega), rI_j (by omega)], by rw [rI_j (by omega), rI_j (by omega)]⟩
    · rw [rI_j (by omega), rI_e rfl rfl, h.2.2.2.1, q]
    · rw [rI_e rfl rfl]
      rfl
  · have hne : ¬ nI x.2.1 = (0 : Int32) := fun z => q ((nI_eq (b := 0) (by omega) (by omega)).mp z)
    rw [e12, if_pos hne, rI_j (show 12 ≠ 11 by omega), e12, if_neg hne, no12q, bn_s, if_pos (by rfl), decide_eq_false q]
    refine ⟨_, rfl, ?_, ?_, fun z => absurd z q, fun _ => by rw [rI_e rfl rfl]; rfl, fun k j hk => by rw [rI_k hk, rI_k hk, rI_k hk], by rw [rI_j (by omega), rI_j (by omega), rI_j (by omega)], by rw [rI_j (by omega), rI_j (by omega), rI_j (by omega)]⟩
    · rw [rI_j (by omega), rI_j (by omega), rI_e rfl rfl, h.2.2.2.1]
    · rw [rI_j (by omega), rI_e rfl rfl, rI_j (by omega), h.2.2.2.2.1 q, if_neg q]
theorem closeT {e : Nat} {T : Nat → Nat} {x : TX} {τ : Ms} (h : TC T e x τ) : ∃ t, F11_closeText τ = some (bI (decide (x.2.1 = 0)), t) ∧ t.1 11 15 = nI x.2.1 ∧ t.1 11 16 = (if x.2.1 = 0 then -nI 1 else nI x.2.2) ∧ t.1 20 1 = nI 0 ∧ (∀ k j, k ≠ 11 → k ≠ 20 → t.1 k j = τ.1 k j) := by
  have h100 := h.2.2.2.2.2
  unfold F11_closeText F8_empty
  rw [lt_e, lt_e, rI_k (show 20 ≠ 11 by omega), lt_e, bn_s, h.2.2.2.1, h.2.2.2.2.1]
  have e15 : (sI (sI (sI τ 11 15 (nI x.2.1)) 11 16 (if x.2.1 = 0 then -nI 1 else nI x.2.2)) 20 1 (0 : Int32)).1 11 15 = nI x.2.1 := by rw [rI_k (by omega), rI_j (by omega), rI_e rfl rfl]
  rw [e15]
  have rest : ∀ t, t = sI (sI (sI τ 11 15 (nI x.2.1)) 11 16 (if x.2.1 = 0 then -nI 1 else nI x.2.2)) 20 1 (0 : Int32) → t.1 11 15 = nI x.2.1 ∧ t.1 11 16 = (if x.2.1 = 0 then -nI 1 else nI x.2.2) ∧ t.1 20 1 = nI 0 ∧ (∀ k j, k ≠ 11 → k ≠ 20 → t.1 k j = τ.1 k j) := fun t e => by
    subst e
    refine ⟨e15, by rw [rI_k (by omega), rI_e rfl rfl], by rw [rI_e rfl rfl]; rfl, fun k j h1 h2 => by rw [rI_k h2, rI_k h1, rI_k h1]⟩
  by_cases q : x.2.1 = 0
  · rw [decide_eq_true q]
    refine ⟨_, ?_, rest _ rfl⟩
    rw [if_neg (by exact fun z => z (by rw [q]; rfl))]
    rfl
  · rw [decide_eq_false q]
    refine ⟨_, ?_, rest _ rfl⟩
    rw [if_pos (by exact fun z => q ((nI_eq (b := 0) (by omega) (by omega)).mp z))]
    rfl
