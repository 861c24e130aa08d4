/-- a hedge changed -/
def hSt (H : HG) (S : Nat) : HG := ((H.1.1, S, H.1.2.2.1, H.1.2.2.2), H.2)
def hBt (H : HG) (T : Nat) (z : Int) : HG := (H.1, H.2.1, (H.2.2.1, T, H.2.2.2.2.1, H.2.2.2.2.2.1, z))
def hHp (H : HG) (i v : Nat) : HG := (H.1, (H.2.1.1, fun k => if k = i then v else H.2.1.2 k), H.2.2)
def hCo (H : HG) (i v : Nat) : HG := ((H.1.1, H.1.2.1, (fun k => if k = i then v else H.1.2.2.1 k), H.1.2.2.2), H.2)
def hGr (H : HG) (c o : Nat) : HG := ((H.1.1 + 1, H.1.2.1 ||| 2 ^ H.1.1, (fun k => if k = H.1.1 then c else H.1.2.2.1 k), (fun k => if k = H.1.1 then o else H.1.2.2.2 k)), H.2)
def hPi (H : HG) (v : Nat) : HG := (H.1, (H.2.1.1 + 1, fun k => if k = H.2.1.1 then v else H.2.1.2 k), H.2.2)
def hOf (H : HG) (l r : Nat) : HG := (H.1, H.2.1, (H.2.2.1 + 1, H.2.2.2.1, (fun k => if k = H.2.2.1 then l else H.2.2.2.2.1 k), (fun k => if k = H.2.2.1 then r else H.2.2.2.2.2.1 k), H.2.2.2.2.2.2))
/-- what stands when a sprig is cut -/
def cutS (H : HG) (i : Nat) : Nat := dif (gS H) (brs (gn H) (gS H) (go H) i)
def fell (H : HG) (i : Nat) : Nat := pc (brs (gn H) (gS H) (go H) i) 20
theorem WG_cut {H : HG} (w : WG H) (i : Nat) : WG (hSt H (cutS H i)) := by
  refine ⟨⟨w.1.1, dif_lt w.1.2.1, fun k hk => ?_⟩, w.2⟩
  obtain ⟨h1, h2, h3⟩ := w.1.2.2 k hk
  refine ⟨h1, h2, fun j hj => ⟨(h3 j hj).1, fun hs => ?_⟩⟩
  have hk' : (cutS H i).testBit k = true := hs
  show (cutS H i).testBit j = true
  unfold cutS at *
  rw [← stb_dif w.1] at *
  rw [stb_bit (show k < gn H from hk) h2, show go H k = j + 1 from hj] at hk'
  simp at hk'
  exact hk'.2
theorem cShear {N h i : Nat} {H : HG} {σ : Ms} (hN : 20 < N) (w : WG H) (c : CG h H σ) (hi : i < gn H) : wp (F0_shear N h (nI i) σ) fun r τ => r = nI (fell H i) ∧ CG h (hSt H (cutS H i)) τ ∧ τ.1 h 11 = σ.1 h 11 + 1 ∧ Fr (W0_shear h) σ τ := by
  have hb20 : brs (gn H) (gS H) (go H) i < 2 ^ 20 := Nat.lt_of_lt_of_le (brs_lt _ _ _ _) (Nat.pow_le_pow_right (by decide) w.n)
  refine wp_mono (wp_fr (P := fun r τ => r = nI (fell H i) ∧ CG h (hSt H (cutS H i)) τ ∧ τ.1 h 11 = σ.1 h 11 + 1) ?_ (fr_F0_shear h N (nI i) σ)) fun r τ hh => ⟨hh.1.1, hh.1.2.1, hh.1.2.2, hh.2⟩
  unfold F0_shear
  rw [branchSet_in hN w.1 c.1 hi, bn_s, lt_e, lt_e, bitCount_ok hb20, bn_s, c.1.2.1, u_dif]
  refine wp_some.mpr ⟨rfl, ?_, ?_⟩
  · refine ⟨⟨?_, ?_, fun k hk => ?_⟩, ⟨?_, fun k hk => ?_⟩, ?_, ?_, ?_, fun k hk => ?_⟩
    · rw [rI_j (by omega), rI_j (by omega)]; exact c.1.1
    · rw [rI_j (by omega), rI_e rfl rfl]; rfl
    · rw [rI_k (by omega), rI_k (by omega), rI_k (by omega), rI_k (by omega)]; exact c.1.2.2 k hk
    · rw [rI_j (by omega), rI_j (by omega)]; exact c.2.1.1
    · rw [rI_k (by omega), rI_k (by omega)]; exact c.2.1.2 k hk
    · rw [rI_j (by omega), rI_j (by omega)]; exact c.2.2.1
    · rw [rI_j (by omega), rI_j (by omega)]; exact c.2.2.2.1
    · rw [rI_j (by omega), rI_j (by omega)]; exact c.2.2.2.2.1
    · rw [rI_k (by omega), rI_k (by omega), rI_k (by omega), rI_k (by omega)]; exact c.2.2.2.2.2 k hk
  · rw [rI_e rfl rfl, rI_j (by omega)]
/-- what the deeds of the model leave alone -/
def K5 (σ τ : Ms) : Prop := (∀ j, 84 ≤ j → τ.1 5 j = σ.1 5 j) ∧ (∀ k j, k ≠ 5 → τ.1 k j = σ.1 k j) ∧ τ.2 = σ.2
theorem K5.rf (σ : Ms) : K5 σ σ := ⟨fun _ _ => rfl, fun _ _ _ => rfl, rfl⟩
theorem K5.tr {a b c : Ms} (h : K5 a b) (h' : K5 b c) : K5 a c := ⟨fun j hj => (h'.1 j hj).trans (h.1 j hj), fun k j hk => (h'.2.1 k j hk).trans (h.2.1 k j hk), h'.2.2.trans h.2.2⟩
theorem K5.s {σ : Ms} {j : Nat} {v : Int32} (h : j < 84) : K5 σ (sI σ 5 j v) := ⟨fun i hi => rI_j (by omega), fun k i hk => rI_k hk, rfl⟩
theorem cuts_no {N d : Nat} {p : Int32} {H : HG} {σ : Ms} (hN : 20 < N) (w : WG H) (c : MG 0 H σ) (hd : d < 2) (hp : ¬ ∃ i, p = nI i ∧ i < gn H ∧ (gS H).testBit i = true ∧ gc H i ≠ 1 - d) : F12_cuts N (nI d) p σ = some (-nI 1, σ) := by
  have hn := w.n
  unfold F12_cuts
  rcases ix_or p (gn H) (by omega) with ⟨i, hi, rfl⟩ | ho
  rotate_left
  · rw [isSprigAt_out (n := gn H) (by omega) c.1.at0.1 ho, bn_s, if_pos (by rfl)]
    rfl
  obtain ⟨-, -, es⟩ := c.1.at0.2 i hi
  rw [isSprigAt_in (n := gn H) (by omega) c.1.at0.1 hi, bn_s, if_neg (by decide), show (45 : Int32) = nI 45 from rfl, nI_add, u_ix (show 45 + i < 1780 by omega) (by omega), ck_t, u_cl (by omega), es]
  cases hb : (gS H).testBit i
  · rw [if_pos (by rfl)]
    rfl
  rw [if_neg (by decide), may_ok w.1 c.1 hi hd, bn_s, decide_eq_false (fun z => hp ⟨i, rfl, hi, hb, z⟩), if_neg (by exact fun z => z rfl)]
  rfl
theorem mCuts {N d i : Nat} {H : HG} {σ : Ms} (hN : 20 < N) (w : WG H) (c : MG 0 H σ) (hd : d < 2) (hi : i < gn H) (hs : (gS H).testBit i = true) (hc : gc H i ≠ 1 - d) : wp (F12_cuts N (nI d) (nI i) σ) fun r τ => r = nI (fell H i) ∧ MG 0 (hSt H (cutS H i)) τ ∧ τ.1 5 4 = σ.1 5 4 + 1 ∧ K5 σ τ := by
  have hn := w.n
  have hS := w.S
  have p2 : (2 : Nat) ^ i < 2 ^ 31 := Nat.pow_lt_pow_right (by decide) (by omega)
  have hX : cutS H i < 2 ^ 31 := dif_x w i
  obtain ⟨-, -, es⟩ := c.1.at0.2 i hi
  unfold F12_cuts
  rw [isSprigAt_in (n := gn H) (by omega) c.1.at0.1 hi, bn_s, if_neg (by decide), show (45 : Int32) = nI 45 from rfl, nI_add, u_ix (show 45 + i < 1780 by omega) (by omega), ck_t, u_cl (by omega), es, hs, if_neg (by decide), may_ok w.1 c.1 hi hd, bn_s, decide_eq_true hc, if_pos (by decide), standing_ok hN w.1 c.1, bn_s, show (1 : Int32) = nI 1 from rfl, u_shl1 i (by omega), standsBut_ok hN w.1 c.1 hS p2, bn_s, standing_ok hN w.1 c.1, bn_s, sizeOf_ok hN hS, bn_s, stb_dif w.1]
  have hpc : pc (gS H) 20 - pc (dif (gS H) (brs (gn H) (gS H) (go H) i)) 20 = fell H i ∧ pc (dif (gS H) (brs (gn H) (gS H) (go H) i)) 20 ≤ pc (gS H) 20 := by
    have := pc_brs (k := i) w.1
    rw [stb_dif w.1] at this
    unfold fell
    omega
  rw [sizeOf_ok hN (show dif (gS H) (brs (gn H) (gS H) (go H) i) < 2 ^ 31 from hX), bn_s, u_sub hpc.2, hpc.1, lt_e]
  unfold F12_cuts_b60
  refine wp_fx (fun k x => ∃ j τ, j + k = gn H ∧ x = (nI (cutS H i), nI (fell H i), nI j, τ) ∧ (∀ a, a < j → τ.1 5 (45 + a) = bI ((cutS H i).testBit a)) ∧ (∀ a, (a < 45 ∨ 45 + j ≤ a) → τ.1 5 a = σ.1 5 a) ∧ (∀ k j, k ≠ 5 → τ.1 k j = σ.1 k j) ∧ τ.2 = σ.2) ?_ (n := gn H) (by omega) ⟨0, σ, by omega, rfl, fun a ha => absurd ha (Nat.not_lt_zero a), fun _ _ => rfl, fun _ _ _ => rfl, rfl⟩
  rintro k co _ ⟨j, τ, hj, rfl, g1, g2, g3, g4⟩ hco
  simp only
  unfold F12_cuts_b60B F12_cuts_b94
  rw [show ixb (0 : Int32) 1780 = true by decide, ck_t, show (0 : Int32).toNatClampNeg = 0 by decide, g2 0 (by omega), c.1.at0.1]
  by_cases q : gn H ≤ j
  · have ej : j = gn H := by omega
    subst ej
    rw [if_pos (nI_le (Nat.le_refl _) (by omega)), show ixb (4 : Int32) 1780 = true by decide, ck_t, ck_t, show (4 : Int32).toNatClampNeg = 4 by decide, lt_e]
    refine wp_some.mpr ⟨rfl, ⟨⟨?_, fun a ha => ⟨?_, ?_, ?_⟩⟩, ⟨?_, fun a ha => ?_⟩, ?_, ?_, fun a ha => ⟨?_, ?_, ?_⟩⟩, ?_, fun a ha => ?_, fun a b hab => ?_, g4⟩
    · rw [rI_j (by omega), g2 _ (by omega)]; exact c.1.1
    · have : a < gn H := ha
      rw [rI_j (by omega), g2 _ (by omega)]; exact (c.1.2 a ha).1
    · have : a < gn H := ha
      rw [rI_j (by omega), g2 _ (by omega)]; exact (c.1.2 a ha).2.1
    · have : a < gn H := ha
      rw [rI_j (by omega), Nat.zero_add, g1 a ha]; rfl
    · rw [rI_j (by omega), g2 _ (by omega)]; exact c.2.1.1
    · have := w.2.1.1
      have : a < gm H := ha
      rw [rI_j (by omega), g2 _ (by omega)]; exact c.2.1.2 a ha
    · rw [rI_j (by omega), g2 _ (by omega)]; exact c.2.2.1
    · rw [rI_j (by omega), g2 _ (by omega)]; exact c.2.2.2.1
    · have := w.2.2.1
      have : a < gk H := ha
      rw [rI_j (by omega), g2 _ (by omega)]; exact (c.2.2.2.2 a ha).1
    · have := w.2.2.1
      have : a < gk H := ha
      rw [rI_j (by omega), g2 _ (by omega)]; exact (c.2.2.2.2 a ha).2.1
    · have := w.2.2.1
      have : a < gk H := ha
      rw [rI_j (by omega), g2 _ (by omega)]; exact (c.2.2.2.2 a ha).2.2
    · rw [rI_e rfl rfl, g2 _ (by omega)]
      rfl
    · rw [rI_j (by omega), g2 _ (by omega)]
    · rw [rI_k hab, g3 _ _ hab]
  rw [if_neg (nI_ge (by omega) (by omega)), has12 hX (by omega), bn_s]
  have wr : ∀ v : Int32, v = bI ((cutS H i).testBit j) → wp (co (nI (cutS H i), nI (fell H i), nI j + (1 : Int32), sI τ 5 (45 + j) v)) fun r τ => r = nI (fell H i) ∧ MG 0 (hSt H (cutS H i)) τ ∧ τ.1 5 4 = σ.1 5 4 + 1 ∧ K5 σ τ := fun v hv => by
    first | rw [nI_1] | rw [nI_add] | skip
    refine hco (k - 1) _ (by omega) ⟨j + 1, _, by omega, rfl, fun a ha => ?_, fun a ha => ?_, fun a b hab => ?_, g4⟩
    · by_cases z : a = j
      · rw [rI_e rfl (by omega), hv, z]
      · rw [rI_j (by omega), g1 a (by omega)]
    · rw [rI_j (by omega), g2 a (by omega)]
    · rw [rI_k hab, g3 a b hab]
  rw [show (45 : Int32) = nI 45 from rfl, nI_add]
  cases hb : (cutS H i).testBit j
  · rw [if_pos (by rfl), u_ix (show 45 + j < 1780 by omega) (by omega), ck_t, lt_e, u_cl (by omega)]
    exact wr _ (by rw [hb]; rfl)
  · rw [if_neg (by decide), u_ix (show 45 + j < 1780 by omega) (by omega), ck_t, lt_e, u_cl (by omega)]
    exact wr _ (by rw [hb]; rfl)
