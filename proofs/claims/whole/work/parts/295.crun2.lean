theorem CO.stay {N h L lo e u B : Nat} {σ τ : Ms} {y : Int32} {s : LSt} (c : CL h L y s τ) (hs : S62 σ τ) (h5 : τ.1 L 5 = nI 0) (hB : u + 100 * (300 - s.2.1) ≤ B) : CO N σ h L y lo e u τ e B (s, 0) :=
  ⟨fun _ => ⟨0, τ, Rch.z _ _, c, hs, h5, by show u + 0 + 100 * (300 - s.2.1) ≤ B; omega, fun _ _ => rfl⟩, fun z => absurd rfl z⟩
theorem CO.wk {N h L lo lo' e u e' B : Nat} {σ τ : Ms} {y : Int32} {p : LSt × Nat} (hl : lo' ≤ lo) (c : CO N σ h L y lo e u τ e' B p) : CO N σ h L y lo' e u τ e' B p := by
  refine ⟨fun hp => ?_, c.2⟩
  obtain ⟨n, τ', g1, g2, g3, g4, g5, g6⟩ := c.1 hp
  exact ⟨n, τ', g1, g2, g3, g4, g5, fun j hj => g6 j (by omega)⟩
theorem CL.w {h L j : Nat} {y v : Int32} {s : LSt} {τ : Ms} (hL : hLs h L) (c : CL h L y s τ) (hj : j = 5) : CL h L y s (sI τ L j v) := by
  have hh := CL.hs hL c (j := j) (v := v)
  unfold hLs at hL
  obtain ⟨cg, e11, e0, e1, e2, e3, e4, e6⟩ := c
  exact ⟨hh, by rw [rI_k (by omega)]; exact e11, by rw [rI_j (by omega)]; exact e0, by rw [rI_j (by omega)]; exact e1, by rw [rI_j (by omega)]; exact e2, by rw [rI_j (by omega)]; exact e3, by rw [rI_j (by omega)]; exact e4, by rw [rI_j (by omega)]; exact e6⟩
theorem CL.more {h L : Nat} {y : Int32} {s : LSt} {τ : Ms} (hL : hLs h L) (c : CL h L y s τ) : CL h L y (more s) (sI τ L 0 (nI (s.2.1 + 1))) := by
  have hh := CL.hs hL c (j := 0) (v := nI (s.2.1 + 1))
  unfold hLs at hL
  obtain ⟨cg, e11, e0, e1, e2, e3, e4, e6⟩ := c
  exact ⟨hh, by rw [rI_k (by omega)]; exact e11, by rw [rI_e rfl rfl]; rfl, by rw [rI_j (by omega)]; exact e1, by rw [rI_j (by omega)]; exact e2, by rw [rI_j (by omega)]; exact e3, by rw [rI_j (by omega)]; exact e4, by rw [rI_j (by omega)]; exact e6⟩
theorem CL.rd {h L j : Nat} {y v : Int32} {s : LSt} {τ : Ms} (hL : hLs h L) (c : CL h L y s τ) : CL h L y s (sI τ (L + 1) j v) := by
  unfold hLs at hL
  obtain ⟨cg, e11, e0, e1, e2, e3, e4, e6⟩ := c
  exact ⟨cg.mv (fun i _ _ => rI_k (by omega)) (fun k i _ _ => rI_k (by omega)), by rw [rI_k (by omega)]; exact e11, by rw [rI_k (by omega)]; exact e0, by rw [rI_k (by omega)]; exact e1, by rw [rI_k (by omega)]; exact e2, by rw [rI_k (by omega)]; exact e3, by rw [rI_k (by omega)]; exact e4, by rw [rI_k (by omega)]; exact e6⟩
theorem S62.w {h L j : Nat} (hL : hLs h L) {v : Int32} {σ τ : Ms} (hs : S62 σ τ) : S62 σ (sI τ L j v) ∧ S62 σ (sI τ (L + 1) j v) := by
  unfold hLs at hL
  exact ⟨fun k i h1 h2 => by rw [rI_k (by omega)]; exact hs k i h1 h2, fun k i h1 h2 => by rw [rI_k (by omega)]; exact hs k i h1 h2⟩
theorem lStep {N h L e t : Nat} {y : Int32} {D : Nat → Nat → Int32} {s : LSt} {σ τ : Ms} (hN : 20 < N) (hL : hLs h L) (w : LWf s) (c : CL h L y s τ) (hs : S62 σ τ) (he : e < 60) (ho : stepOk (σ.1 63) (σ.1 64) (σ.1 65) D e t) (h7 : D t 0 ≠ nI 7) : wp (F2_doStep N L h 62 (nI e) τ) fun r τ' => r = nI (e + 1) ∧ CL h L y (fnd (aTry D t s)) τ' ∧ K9 L τ τ' := by
  have e63 : τ.1 (62 + 1) e = σ.1 63 e := hs 63 e (by omega) (by omega)
  have e64 : τ.1 (62 + 2) e = σ.1 64 e := hs 64 e (by omega) (by omega)
  have e65 : τ.1 (62 + 3) e = σ.1 65 e := hs 65 e (by omega) (by omega)
  unfold F2_doStep F2_doStep_b168 aTry
  rw [u_ix (show e < 60 by omega) (by omega), u_cl (show e < 2147483648 by omega), ck_t, lt_e, ck_t, lt_e, ck_t, e63, e64, e65, L_1, nI_add]
  rcases ho with ⟨k, a, b, hk, k0, d0, k1, d1, k2, d2⟩ | ⟨k0, d0, a, o, ha, ho, k1, d1, k2, d2⟩ | ⟨k0, d0⟩ | ⟨k0, d0⟩
  · rcases hk with ⟨rfl, ha, hb⟩ | ⟨rfl, ha, hb⟩ | ⟨rfl, ha, hb⟩
    · rw [k0, k1, k2, d0, d1, d2, if_pos (by rfl), u_cl (show 0 < 2147483648 by omega), if_pos (by rfl), u_cl (show a < 2147483648 by omega), u_cl (show b < 2147483648 by omega)]
      refine wp_bn.mpr (wp_mono (lCut hN hL w c ha (by omega)) ?_)
      rintro _ t' ⟨h1, h2⟩
      exact wp_some.mpr ⟨rfl, h1, h2⟩
    · rw [k0, k1, k2, d0, d1, d2, if_neg (by decide), if_pos (by rfl), u_cl (show 1 < 2147483648 by omega), if_neg (by decide), if_pos (by rfl), u_cl (show a < 2147483648 by omega), u_cl (show b < 2147483648 by omega)]
      refine wp_bn.mpr (wp_mono (lTake hL w c ha (by omega)) ?_)
      rintro _ t' ⟨h1, h2⟩
      exact wp_some.mpr ⟨rfl, h1, h2⟩
    · rw [k0, k1, k2, d0, d1, d2, if_neg (by decide), if_neg (by decide), if_pos (by rfl), u_cl (show 2 < 2147483648 by omega), if_neg (by decide), if_neg (by decide), if_pos (by rfl), u_cl (show a < 2147483648 by omega), u_cl (show b < 2147483648 by omega)]
      refine wp_bn.mpr (wp_mono (lLess hL w c (by omega) (by omega)) ?_)
      rintro _ t' ⟨h1, h2⟩
      exact wp_some.mpr ⟨rfl, h1, h2⟩
  · rw [k0, k1, k2, d0, d1, d2, cI_back, if_neg (by decide), if_neg (by decide), if_neg (by decide), if_pos (by rfl), u_cl (show 3 < 2147483648 by omega), if_neg (by decide), if_neg (by decide), if_neg (by decide), if_pos (by rfl), u_cl (show a < 2147483648 by omega), u_cl (show o < 2147483648 by omega)]
    refine wp_bn.mpr (wp_mono (lGrow hL w c ha ho) ?_)
    rintro _ t' ⟨h1, h2⟩
    exact wp_some.mpr ⟨rfl, h1, h2⟩
  · rw [k0, d0, if_neg (by decide), if_neg (by decide), if_neg (by decide), if_neg (by decide), if_pos (by rfl), u_cl (show 4 < 2147483648 by omega), if_neg (by decide), if_neg (by decide), if_neg (by decide), if_neg (by decide)]
    refine wp_bn.mpr (wp_mono (lAny hN hL w c) ?_)
    rintro _ t' ⟨h1, h2⟩
    exact wp_some.mpr ⟨rfl, h1, h2⟩
  · exact absurd d0 h7
theorem lStop {N h L e : Nat} {σ τ : Ms} (hs : S62 σ τ) (he : e < 60) (k7 : σ.1 63 e = nI 7) : F2_doStep N L h 62 (nI e) τ = some (σ.1 62 2, τ) := by
  have e63 : τ.1 (62 + 1) e = σ.1 63 e := hs 63 e (by omega) (by omega)
  unfold F2_doStep
  rw [u_ix (show e < 60 by omega) (by omega), u_cl (show e < 2147483648 by omega), ck_t, lt_e, ck_t, lt_e, ck_t, e63, k7, if_neg (by decide), if_neg (by decide), if_neg (by decide), if_neg (by decide), if_neg (by decide), if_neg (by decide), if_neg (by decide), hs 62 2 (by omega) (by omega)]
theorem lWhen {N h L e t m : Nat} {y : Int32} {D : Nat → Nat → Int32} {s : LSt} {σ τ : Ms} (hN : 20 < N) (hL : hLs h L) (w : LWf s) (c : CL h L y s τ) (hs : S62 σ τ) (he : e < 60) (ho : whenOk (σ.1 63) (σ.1 64) (σ.1 65) (σ.1 66) D e t) (hM : σ.1 67 e = nI m) : wp (F2_doStep N L h 62 (nI e) τ) fun r τ' => r = nI (if aHold D t s.1 = true then e + 1 else m + 1) ∧ CL h L y s τ' ∧ K9 L τ τ' := by
  have e63 : τ.1 (62 + 1) e = σ.1 63 e := hs 63 e (by omega) (by omega)
  have e64 : τ.1 (62 + 2) e = σ.1 64 e := hs 64 e (by omega) (by omega)
  have e65 : τ.1 (62 + 3) e = σ.1 65 e := hs 65 e (by omega) (by omega)
  have e66 : τ.1 (62 + 4) e = σ.1 66 e := hs 66 e (by omega) (by omega)
  unfold F2_doStep
  rw [u_ix (show e < 60 by omega) (by omega), u_cl (show e < 2147483648 by omega), ck_t, lt_e, ck_t, lt_e, ck_t, e63, e64, e65, e66, ho.1, if_neg (by decide), if_neg (by decide), if_neg (by decide), if_neg (by decide), if_neg (by decide), if_pos (by rfl), ck_t]
  refine wp_bn.mpr (wp_mono (lHold hN hL w c ho) ?_)
  rintro _ t' ⟨rfl, h1, h2⟩
  cases hb : aHold D t s.1
  · have e67 : t'.1 (62 + 5) e = nI m := ((h2.1 67 e (by omega) (by omega)).trans (hs 67 e (by omega) (by omega))).trans hM
    rw [if_pos (by rfl), ck_t, e67, if_neg (by decide), L_1, nI_add]
    exact wp_some.mpr ⟨rfl, h1, h2⟩
  · rw [if_neg (by decide), if_pos (by rfl), L_1, nI_add]
    exact wp_some.mpr ⟨rfl, h1, h2⟩
theorem lLoop {N h L e r : Nat} {σ τ : Ms} (hs : S62 σ τ) (he : e < 60) (k6 : σ.1 63 e = nI 6) (ka : σ.1 64 e = nI r) : F2_doStep N L h 62 (nI e) τ = some (nI (e + 1), sI τ (L + 1) e (nI r)) := by
  have e63 : τ.1 (62 + 1) e = σ.1 63 e := hs 63 e (by omega) (by omega)
  have e64 : τ.1 (62 + 2) e = σ.1 64 e := hs 64 e (by omega) (by omega)
  unfold F2_doStep F2_doStep_b168
  rw [u_ix (show e < 60 by omega) (by omega), u_cl (show e < 2147483648 by omega), ck_t, lt_e, ck_t, lt_e, ck_t, e63, e64, k6, ka, if_neg (by decide), if_neg (by decide), if_neg (by decide), if_neg (by decide), if_neg (by decide), if_neg (by decide), if_pos (by rfl), ck_t, lt_e, L_1, nI_add]
theorem cLoop {N h L e m E : Nat} {σ : Ms} {y : Int32} {F : LSt → LSt × Nat} (hL : hLs h L) (hE : E ≤ 60) (h2 : σ.1 62 2 = nI E) (hO : ∀ s, LO s → LO (F s).1) (body : ∀ s τ u B, LO s → CL h L y s τ → S62 σ τ → τ.1 L 5 = nI 0 → u + 100 * (300 - s.2.1) ≤ B → B ≤ 30000 → CO N σ h L y (e + 1) (e + 1) u τ m B (F s)) (hem : e < m) (hm : m < E) (hM : σ.1 67 m = nI e) (hK : σ.1 63 e = nI 6) (hKm : σ.1 63 m = nI 8) : ∀ r s τ u B, r < 99 → LO s → CL h L y s τ → S62 σ τ → τ.1 L 5 = nI 0 → τ.1 (L + 1) e = nI (r + 1) → u + (r + 1) + 100 * (300 - s.2.1) ≤ B → B ≤ 30000 → CO N σ h L y e (e + 1) u τ (m + 1) B (aLoop F (r + 1) s) := by
  intro r
  induction r with
  | zero =>
    intro s τ u B hr o c hs h5 hre hB hB'
    refine CO.lo (lo := e + 1) (e1 := m) (B := B - 1) (by omega) (by omega) (by omega) (body s τ u (B - 1) o c hs h5 (by omega) (by omega)) fun hp n τ' c' hs' h5' hb hrr => ?_
    have z62 : ∀ k j, 62 ≤ k → k ≤ 67 → τ'.1 k j = σ.1 k j := hs'
    have tb := turn_back (N := N) (L := L) (h := h) (u := u + n) hE ((z62 62 2 (by omega) (by omega)).trans h2) (by omega) hm ((z62 63 m (by omega) (by omega)).trans hKm) (back_loop (L := L) (r := 0) hE ((z62 62 2 (by omega) (by omega)).trans h2) (show e < E by omega) (by omega) ((z62 67 m (by omega) (by omega)).trans hM) ((z62 63 e (by omega) (by omega)).trans hK) ((hrr e (Or.inl (by omega))).trans hre) (by omega))
    rw [if_pos (by rfl)] at tb
    refine CO.pre tb (fun j hj => rI_j (by omega)) ?_
    exact CO.stay (c'.rd hL) (S62.w hL hs').2 (by unfold hLs at hL; rw [rI_k (by omega)]; exact h5') (by omega)
  | succ r ih =>
    intro s τ u B hr o c hs h5 hre hB hB'
    refine CO.lo (lo := e + 1) (e1 := m) (B := B - (r + 2)) (by omega) (by omega) (by omega) (body s τ u (B - (r + 2)) o c hs h5 (by omega) (by omega)) fun hp n τ' c' hs' h5' hb hrr => ?_
    have z62 : ∀ k j, 62 ≤ k → k ≤ 67 → τ'.1 k j = σ.1 k j := hs'
    have tb := turn_back (N := N) (L := L) (h := h) (u := u + n) hE ((z62 62 2 (by omega) (by omega)).trans h2) (by omega) hm ((z62 63 m (by omega) (by omega)).trans hKm) (back_loop (L := L) (r := r + 1) hE ((z62 62 2 (by omega) (by omega)).trans h2) (show e < E by omega) (by omega) ((z62 67 m (by omega) (by omega)).trans hM) ((z62 63 e (by omega) (by omega)).trans hK) ((hrr e (Or.inl (by omega))).trans hre) (by omega))
    rw [if_neg (by omega)] at tb
    refine CO.pre tb (fun j hj => rI_j (by omega)) ?_
    exact ih (F s).1 _ (u + n + 1) B (by omega) (hO s o) (c'.rd hL) (S62.w hL hs').2 (by unfold hLs at hL; rw [rI_k (by omega)]; exact h5') (rI_e rfl rfl) (by omega) hB'
theorem cSeg {N h L E : Nat} {σ : Ms} {y : Int32} {D : Nat → Nat → Int32} (hN : 20 < N) (hL : hLs h L) (hE : E ≤ 60) (h2 : σ.1 62 2 = nI E) : ∀ {f g e t e' t' : Nat}, Seg (σ.1 63) (σ.1 64) (σ.1 65) (σ.1 66) (σ.1 67) D f g e t e' t' → e' ≤ E → t' < 2147483648 → ∀ s τ u B, LO s → CL h L y s τ → S62 σ τ → τ.1 L 5 = nI 0 → u + 100 * (300 - s.2.1) ≤ B → B ≤ 30000 → CO N σ h L y e e u τ e' B (aSeq D f t t' s)
  | 0, g, e, t, e', t', hS, he', ht', s, τ, u, B, o, c, hs, h5, hB, hB' => by
    obtain ⟨rfl, rfl⟩ := hS
    exact CO.stay c hs h5 hB
  | f + 1, g, e, t, e', t', hS, he', ht', s, τ, u, B, o, c, hs, h5, hB, hB' => by
    have h2' : τ.1 62 2 = nI E := (hs 62 2 (by omega) (by omega)).trans h2
    have h53 : ∀ d, (sI τ L 0 d).1 L 5 = nI 0 := fun d => by rw [rI_j (by omega)]; exact h5
    unfold aSeq
    by_cases q : t = t'
    · rw [if_pos q]
      have : e = e' := by
        rcases hS with ⟨z, -⟩ | ⟨-, -, -, -, hr⟩ | ⟨-, -, -, m, n, i, -, -, -, -, -, ha, -, hb⟩
        · exact z
        · have := Seg_le hr; omega
        · have := Seg_le ha; have := Seg_le hb; omega
      subst this
      exact CO.stay c hs h5 hB
    rw [if_neg q]
    have full : ∀ k, k < 8 → e < E → σ.1 63 e = nI k → s.2.1 = 300 → CO N σ h L y e e u τ e' B (s, 2) := fun k hk he hke hd => ⟨fun z => (by cases z), fun _ => ⟨1, _, by omega, fun m => turn_full hE h2' (by omega) he ((hs 63 e (by omega) (by omega)).trans hke) hk (by rw [c.2.2.1, hd]) m, c.w hL rfl, rI_e rfl rfl⟩⟩
    rcases hS with ⟨-, z⟩ | ⟨he, hs30, ho, hd8, hr⟩ | ⟨he, hs30, ho, m, n, i, hg, hm, hM, hK, hM', ha, hd8, hb⟩
    · exact absurd z q
    · have hle := Seg_le hr
      rcases step_k ho with ⟨k, hk, k0, d0⟩ | ⟨k0, d0⟩
      · by_cases qd : s.2.1 = 300
        · rw [if_pos qd]
          exact full k (by omega) (by omega) k0 qd
        rw [if_neg qd, d0, u_cl (by omega), if_pos hk]
        have ho2 := o.2
        obtain ⟨_, τ', hds, rfl, c', k9⟩ := lStep hN hL (more_O o qd).1 (CL.more hL c) (S62.w hL hs).1 he ho (by rw [d0]; exact fun z => by have := (nI_eq (b := 7) (by omega) (by omega)).mp z; omega)
        refine CO.pre (turn_step hE h2' (by omega) (by omega) ((hs 63 e (by omega) (by omega)).trans k0) (by omega) c.2.2.1 (by omega) hds) (fun j _ => (k9.2.1 j).trans (by unfold hLs at hL; rw [rI_k (by omega)])) (CO.wk (show e ≤ e + 1 by omega) ?_)
        have hd' : (fnd (aTry D t (more s))).2.1 = s.2.1 + 1 := by rw [fnd_d, aTry_d]; rfl
        exact cSeg hN hL hE h2 hr he' ht' _ τ' (u + 1) B (step_O (more_O o qd) ho) c' (S62.k (S62.w hL hs).1 k9) (k9.2.2.trans (h53 _)) (by rw [hd']; omega) hB'
      · by_cases qd : s.2.1 = 300
        · rw [if_pos qd]
          exact full 7 (by omega) (by omega) k0 qd
        rw [if_neg qd, d0, u_cl (by omega), if_neg (by omega), if_neg (by omega), if_neg (by omega)]
        have ho2 := o.2
        have hsp := lStop (N := N) (h := h) (L := L) (S62.w hL hs (j := 0) (v := nI (s.2.1 + 1))).1 he k0
        rw [h2] at hsp
        have t1 := turn_step (N := N) hE h2' (u := u) (by omega) (show e < E by omega) ((hs 63 e (by omega) (by omega)).trans k0) (by omega) c.2.2.1 (by omega) hsp
        refine ⟨fun z => (by cases z), fun _ => ⟨2, _, by omega, fun m => ?_, CL.more hL c, h53 _⟩⟩
        rw [show m + 2 = (m + 1) + 1 by omega, t1 (m + 1)]
        exact turn_end hE ((S62.w hL hs).1 62 2 (by omega) (by omega) |>.trans h2) (by omega) m
    · have hla := Seg_le ha
      have hlb := Seg_le hb
      have hn : (nI n).toNatClampNeg = n := u_cl (by omega)
      have ho2 := o.2
      rcases ho with hw | hl
      · by_cases qd : s.2.1 = 300
        · rw [if_pos qd]
          exact full 5 (by omega) (by omega) hw.1 qd
        rw [if_neg qd, hw.2.1, u_cl (by omega), if_neg (by omega), if_pos (by rfl), hd8, hn]
        obtain ⟨_, τ', hds, rfl, c', k9⟩ := lWhen hN hL (more_O o qd).1 (CL.more hL c) (S62.w hL hs).1 he hw hM
        have hs' := S62.k (S62.w hL hs).1 k9
        have h5' := k9.2.2.trans (h53 _)
        have t1 := turn_step (N := N) hE h2' (u := u) (by omega) (show e < E by omega) ((hs 63 e (by omega) (by omega)).trans hw.1) (by omega) c.2.2.1 (by omega) hds
        have hm1 : (more s).2.1 = s.2.1 + 1 := rfl
        have hms : (more s).1 = s.1 := rfl
        have rr : ∀ j, (j < e ∨ e' ≤ j) → τ'.1 (L + 1) j = τ.1 (L + 1) j := fun j _ => (k9.2.1 j).trans (by unfold hLs at hL; rw [rI_k (by omega)])
        rw [hms] at t1
        cases hb' : aHold D t s.1
        · rw [hb', if_neg (by decide)] at t1
          rw [if_neg (by decide)]
          refine CO.pre t1 rr (CO.wk (show e ≤ m + 1 by omega) ?_)
          exact cSeg hN hL hE h2 hb he' ht' (more s) τ' (u + 1) B (more_O o qd) c' hs' h5' (by rw [hm1]; omega) hB'
        · rw [hb', if_pos (by rfl)] at t1
          rw [if_pos (by rfl)]
          refine CO.pre t1 rr ?_
          refine CO.lo (lo := e + 1) (e1 := m) (B := B - 1) (by omega) (by omega) (by omega) (cSeg hN hL hE h2 ha (by omega) (by omega) (more s) τ' (u + 1) (B - 1) (more_O o qd) c' hs' h5' (by rw [hm1]; omega) (by omega)) fun hp n' τ'' c'' hs'' h5'' hb'' hrr => ?_
          have tb := turn_back (N := N) (L := L) (h := h) (u := u + 1 + n') hE ((hs'' 62 2 (by omega) (by omega)).trans h2) (by omega) (show m < E by omega) ((hs'' 63 m (by omega) (by omega)).trans hK) (back_when (L := L) hE ((hs'' 62 2 (by omega) (by omega)).trans h2) (show e < E by omega) hm ((hs'' 67 m (by omega) (by omega)).trans hM') ((hs'' 63 e (by omega) (by omega)).trans hw.1) (by omega))
          refine CO.pre tb (fun j _ => rfl) (CO.wk (show e ≤ m + 1 by omega) ?_)
          exact cSeg hN hL hE h2 hb he' ht' _ τ'' (u + 1 + n' + 1) B (aSeq_O ha (by omega) _ (more_O o qd)) c'' hs'' h5'' (by omega) hB'
      · by_cases qd : s.2.1 = 300
        · rw [if_pos qd]
          exact full 6 (by omega) (by omega) hl.1 qd
        obtain ⟨k6, d6, r, hr1, hr9, ka, da⟩ := hl
        rw [if_neg qd, d6, u_cl (by omega), if_neg (by omega), if_neg (by omega), if_pos (by rfl), hd8, hn, da, u_cl (by omega)]
        have hlp := lLoop (N := N) (h := h) (L := L) (S62.w hL hs (j := 0) (v := nI (s.2.1 + 1))).1 he k6 ka
        have t1 := turn_step (N := N) hE h2' (u := u) (by omega) (show e < E by omega) ((hs 63 e (by omega) (by omega)).trans k6) (by omega) c.2.2.1 (by omega) hlp
        have hm1 : (more s).2.1 = s.2.1 + 1 := rfl
        refine CO.pre t1 (fun j hj => by unfold hLs at hL; rw [rI_j (by omega), rI_k (by omega)]) ?_
        obtain ⟨r', rfl⟩ : ∃ r', r = r' + 1 := ⟨r - 1, by omega⟩
        refine CO.lo (lo := e) (e1 := m + 1) (B := B) (by omega) (by omega) (by omega) (cLoop hL hE h2 (fun s' h' => aSeq_O ha (by omega) s' h') (fun s' τ1 u1 B1 o1 c1 hs1 h51 hB1 hB1' => cSeg hN hL hE h2 ha (by omega) (by omega) s' τ1 u1 B1 o1 c1 hs1 h51 hB1 hB1') (by omega) (by omega) hM' k6 hK r' (more s) _ (u + 1) B (by omega) (more_O o qd) ((CL.more hL c).rd hL) (S62.w hL (S62.w hL hs).1).2 (by unfold hLs at hL; rw [rI_k (by omega)]; exact h53 _) (rI_e rfl rfl) (by rw [hm1]; omega) hB') fun hp n' τ'' c'' hs'' h5'' hb'' hrr => ?_
        refine CO.wk (show e ≤ m + 1 by omega) ?_
        exact cSeg hN hL hE h2 hb he' ht' _ τ'' (u + 1 + n') B (aLoop_O (fun s' h' => aSeq_O ha (by omega) s' h') _ _ (more_O o qd)) c'' hs'' h5'' hb'' hB'
/-- the class's life, whole -/
theorem cRun {N h L E n f g sd : Nat} {σ : Ms} {H : HG} {D : Nat → Nat → Int32} (hN : 40000 < N) (hL : hLs h L) (hE : E ≤ 60) (h2 : σ.1 62 2 = nI E) (hS : Seg (σ.1 63) (σ.1 64) (σ.1 65) (σ.1 66) (σ.1 67) D f g 0 0 E n) (hn : n ≤ 30) (w : WG H) (c : CG h H σ) (hsd : sd < 65536) : wp (F2_run N L h 62 (nI sd) σ) fun _ τ' => CL h L (σ.1 h 11) (aSeq D f 0 n (H, 0, 0, 0, 0, 0, sd)).1 τ' ∧ τ'.1 L 5 = nI ((aSeq D f 0 n (H, 0, 0, 0, 0, 0, sd)).2 - 1) := by
  have hL' := hL
  unfold hLs at hL'
  unfold F2_run
  rw [lt_e, lt_e, lt_e, lt_e, lt_e, show nkB (0 : Int32) = true by decide, ck_t, lt_e, lt_e]
  have t0 : ∀ t : Ms, t = sI (sI (sI (sI (sI (sI (sI σ L 0 (0 : Int32)) L 1 (0 : Int32)) L 2 (0 : Int32)) L 3 (0 : Int32)) L 4 (0 : Int32)) L 5 (0 : Int32)) L 6 (nI sd) → CL h L (σ.1 h 11) (H, 0, 0, 0, 0, 0, sd) t ∧ S62 σ t ∧ t.1 L 5 = nI 0 := fun t ht => by
    have ek : ∀ k j, k ≠ L → t.1 k j = σ.1 k j := fun k j hk => by rw [ht, rI_k hk, rI_k hk, rI_k hk, rI_k hk, rI_k hk, rI_k hk, rI_k hk]
    refine ⟨⟨c.mv (fun j _ _ => ek _ _ (by omega)) (fun k j _ _ => ek _ _ (by omega)), ?_, ?_, ?_, ?_, ?_, ?_, ?_⟩, fun k j h1 h2 => ek k j (by omega), ?_⟩
    · rw [ek _ _ (by omega)]
      show σ.1 h 11 = σ.1 h 11 + 0
      rw [Int32.add_zero]
    · rw [ht]; try simp (disch := first | omega | assumption) only [lt_e, bn_s, ck_t, nk0, nk1, nk_b, bI_t, bI_f, L_0, L_1, L_2, L_3, L_4, L_5, L_6, L_7, L_8, L_9, L_10, L_11, L_12, L_15, L_20, L_25, L_30, L_45, L_60, L_65, L_69, L_74, L_79, L_84, L_85, L_86, L_99, L_100, L_255, L_300, L_356, L_900, L_1424, L_1425, L_1489, L_1510, L_9999, L_10000, nI_add, nI_mul, u_lt_t, u_lt_f, u_le_t, u_le_f, u_eq_t, u_eq_f, u_mlt, u_ltm, u_eqm, u_meq, u_mle, u_b0, u_b1, u_ix, u_cl, u_sub, u_suc, u_z0, u_0m, cI_0, cI_s, rI_e, rI_k, rI_j, rI_l, rL_e, rL_k, rL_j, rL_i, told11, none11, refuse12, no11q, no12q, yes11q, if_true, if_false, ite_true, ite_false, ne_eq, not_true_eq_false, not_false_eq_true, Classical.not_not, Bool.not_eq_true, Bool.not_eq_false, reduceCtorEq, Nat.add_zero, Nat.zero_add, Nat.mul_zero, and_self, and_true, true_and, Bool.true_eq_false, Bool.false_eq_true, eq_self]
    · rw [ht]; try simp (disch := first | omega | assumption) only [lt_e, bn_s, ck_t, nk0, nk1, nk_b, bI_t, bI_f, L_0, L_1, L_2, L_3, L_4, L_5, L_6, L_7, L_8, L_9, L_10, L_11, L_12, L_15, L_20, L_25, L_30, L_45, L_60, L_65, L_69, L_74, L_79, L_84, L_85, L_86, L_99, L_100, L_255, L_300, L_356, L_900, L_1424, L_1425, L_1489, L_1510, L_9999, L_10000, nI_add, nI_mul, u_lt_t, u_lt_f, u_le_t, u_le_f, u_eq_t, u_eq_f, u_mlt, u_ltm, u_eqm, u_meq, u_mle, u_b0, u_b1, u_ix, u_cl, u_sub, u_suc, u_z0, u_0m, cI_0, cI_s, rI_e, rI_k, rI_j, rI_l, rL_e, rL_k, rL_j, rL_i, told11, none11, refuse12, no11q, no12q, yes11q, if_true, if_false, ite_true, ite_false, ne_eq, not_true_eq_false, not_false_eq_true, Classical.not_not, Bool.not_eq_true, Bool.not_eq_false, reduceCtorEq, Nat.add_zero, Nat.zero_add, Nat.mul_zero, and_self, and_true, true_and, Bool.true_eq_false, Bool.false_eq_true, eq_self]
    · rw [ht]; try simp (disch := first | omega | assumption) only [lt_e, bn_s, ck_t, nk0, nk1, nk_b, bI_t, bI_f, L_0, L_1, L_2, L_3, L_4, L_5, L_6, L_7, L_8, L_9, L_10, L_11, L_12, L_15, L_20, L_25, L_30, L_45, L_60, L_65, L_69, L_74, L_79, L_84, L_85, L_86, L_99, L_100, L_255, L_300, L_356, L_900, L_1424, L_1425, L_1489, L_1510, L_9999, L_10000, nI_add, nI_mul, u_lt_t, u_lt_f, u_le_t, u_le_f, u_eq_t, u_eq_f, u_mlt, u_ltm, u_eqm, u_meq, u_mle, u_b0, u_b1, u_ix, u_cl, u_sub, u_suc, u_z0, u_0m, cI_0, cI_s, rI_e, rI_k, rI_j, rI_l, rL_e, rL_k, rL_j, rL_i, told11, none11, refuse12, no11q, no12q, yes11q, if_true, if_false, ite_true, ite_false, ne_eq, not_true_eq_false, not_false_eq_true, Classical.not_not, Bool.not_eq_true, Bool.not_eq_false, reduceCtorEq, Nat.add_zero, Nat.zero_add, Nat.mul_zero, and_self, and_true, true_and, Bool.true_eq_false, Bool.false_eq_true, eq_self]
    · rw [ht]; try simp (disch := first | omega | assumption) only [lt_e, bn_s, ck_t, nk0, nk1, nk_b, bI_t, bI_f, L_0, L_1, L_2, L_3, L_4, L_5, L_6, L_7, L_8, L_9, L_10, L_11, L_12, L_15, L_20, L_25, L_30, L_45, L_60, L_65, L_69, L_74, L_79, L_84, L_85, L_86, L_99, L_100, L_255, L_300, L_356, L_900, L_1424, L_1425, L_1489, L_1510, L_9999, L_10000, nI_add, nI_mul, u_lt_t, u_lt_f, u_le_t, u_le_f, u_eq_t, u_eq_f, u_mlt, u_ltm, u_eqm, u_meq, u_mle, u_b0, u_b1, u_ix, u_cl, u_sub, u_suc, u_z0, u_0m, cI_0, cI_s, rI_e, rI_k, rI_j, rI_l, rL_e, rL_k, rL_j, rL_i, told11, none11, refuse12, no11q, no12q, yes11q, if_true, if_false, ite_true, ite_false, ne_eq, not_true_eq_false, not_false_eq_true, Classical.not_not, Bool.not_eq_true, Bool.not_eq_false, reduceCtorEq, Nat.add_zero, Nat.zero_add, Nat.mul_zero, and_self, and_true, true_and, Bool.true_eq_false, Bool.false_eq_true, eq_self]
    · rw [ht]; try simp (disch := first | omega | assumption) only [lt_e, bn_s, ck_t, nk0, nk1, nk_b, bI_t, bI_f, L_0, L_1, L_2, L_3, L_4, L_5, L_6, L_7, L_8, L_9, L_10, L_11, L_12, L_15, L_20, L_25, L_30, L_45, L_60, L_65, L_69, L_74, L_79, L_84, L_85, L_86, L_99, L_100, L_255, L_300, L_356, L_900, L_1424, L_1425, L_1489, L_1510, L_9999, L_10000, nI_add, nI_mul, u_lt_t, u_lt_f, u_le_t, u_le_f, u_eq_t, u_eq_f, u_mlt, u_ltm, u_eqm, u_meq, u_mle, u_b0, u_b1, u_ix, u_cl, u_sub, u_suc, u_z0, u_0m, cI_0, cI_s, rI_e, rI_k, rI_j, rI_l, rL_e, rL_k, rL_j, rL_i, told11, none11, refuse12, no11q, no12q, yes11q, if_true, if_false, ite_true, ite_false, ne_eq, not_true_eq_false, not_false_eq_true, Classical.not_not, Bool.not_eq_true, Bool.not_eq_false, reduceCtorEq, Nat.add_zero, Nat.zero_add, Nat.mul_zero, and_self, and_true, true_and, Bool.true_eq_false, Bool.false_eq_true, eq_self]
    · rw [ht]
      first | exact rI_e rfl rfl | (try simp (disch := first | omega | assumption) only [lt_e, bn_s, ck_t, nk0, nk1, nk_b, bI_t, bI_f, L_0, L_1, L_2, L_3, L_4, L_5, L_6, L_7, L_8, L_9, L_10, L_11, L_12, L_15, L_20, L_25, L_30, L_45, L_60, L_65, L_69, L_74, L_79, L_84, L_85, L_86, L_99, L_100, L_255, L_300, L_356, L_900, L_1424, L_1425, L_1489, L_1510, L_9999, L_10000, nI_add, nI_mul, u_lt_t, u_lt_f, u_le_t, u_le_f, u_eq_t, u_eq_f, u_mlt, u_ltm, u_eqm, u_meq, u_mle, u_b0, u_b1, u_ix, u_cl, u_sub, u_suc, u_z0, u_0m, cI_0, cI_s, rI_e, rI_k, rI_j, rI_l, rL_e, rL_k, rL_j, rL_i, told11, none11, refuse12, no11q, no12q, yes11q, if_true, if_false, ite_true, ite_false, ne_eq, not_true_eq_false, not_false_eq_true, Classical.not_not, Bool.not_eq_true, Bool.not_eq_false, reduceCtorEq, Nat.add_zero, Nat.zero_add, Nat.mul_zero, and_self, and_true, true_and, Bool.true_eq_false, Bool.false_eq_true, eq_self]) 
    · rw [ht]; try simp (disch := first | omega | assumption) only [lt_e, bn_s, ck_t, nk0, nk1, nk_b, bI_t, bI_f, L_0, L_1, L_2, L_3, L_4, L_5, L_6, L_7, L_8, L_9, L_10, L_11, L_12, L_15, L_20, L_25, L_30, L_45, L_60, L_65, L_69, L_74, L_79, L_84, L_85, L_86, L_99, L_100, L_255, L_300, L_356, L_900, L_1424, L_1425, L_1489, L_1510, L_9999, L_10000, nI_add, nI_mul, u_lt_t, u_lt_f, u_le_t, u_le_f, u_eq_t, u_eq_f, u_mlt, u_ltm, u_eqm, u_meq, u_mle, u_b0, u_b1, u_ix, u_cl, u_sub, u_suc, u_z0, u_0m, cI_0, cI_s, rI_e, rI_k, rI_j, rI_l, rL_e, rL_k, rL_j, rL_i, told11, none11, refuse12, no11q, no12q, yes11q, if_true, if_false, ite_true, ite_false, ne_eq, not_true_eq_false, not_false_eq_true, Classical.not_not, Bool.not_eq_true, Bool.not_eq_false, reduceCtorEq, Nat.add_zero, Nat.zero_add, Nat.mul_zero, and_self, and_true, true_and, Bool.true_eq_false, Bool.false_eq_true, eq_self]
  generalize sI (sI (sI (sI (sI (sI (sI σ L 0 (0 : Int32)) L 1 (0 : Int32)) L 2 (0 : Int32)) L 3 (0 : Int32)) L 4 (0 : Int32)) L 5 (0 : Int32)) L 6 (nI sd) = t at t0
  obtain ⟨ct, hst, h5⟩ := t0 t rfl
  have co := cSeg (N := N) (y := σ.1 h 11) (by omega) hL hE h2 hS (Nat.le_refl _) (by omega) _ t 0 30000 (show LO (H, 0, 0, 0, 0, 0, sd) from ⟨⟨w, hsd⟩, Nat.zero_le _⟩) ct hst h5 (by omega) (by omega)
  show wp (fx N (RF N L h) (nI 0, nI 0, t)) _
  by_cases q : (aSeq D f 0 n (H, 0, 0, 0, 0, 0, sd)).2 = 0
  · obtain ⟨k, τ', hr, c', hs', h5', hb, -⟩ := co.1 q
    have e : fx N (RF N L h) (nI 0, nI 0, t) = some ((), τ') := by
      have e1 := hr (N - k)
      rw [show N - k + k = N by omega] at e1
      rw [e1, show N - k = (N - k - 1) + 1 by omega]
      exact turn_end hE ((hs' 62 2 (by omega) (by omega)).trans h2) (by omega) _
    rw [e]
    exact wp_some.mpr ⟨c', by rw [q]; exact h5'⟩
  · obtain ⟨k, τ', hk, hr, c', h5'⟩ := co.2 q
    have e1 := hr (N - k)
    rw [show N - k + k = N by omega] at e1
    rw [e1]
    exact wp_some.mpr ⟨c', h5'⟩
