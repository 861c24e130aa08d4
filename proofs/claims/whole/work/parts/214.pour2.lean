theorem cmp_N {a b : Nat} (ha : a < 2 ^ 62) (hb : b < 2 ^ 62) : lg_cmp (lN a) (lN b) = if b < a then 1 else if a = b then 0 else -1 := by
  have ea : (lN a).toInt = (a : Int) := lg_ofNat_toInt (by omega)
  have eb : (lN b).toInt = (b : Int) := lg_ofNat_toInt (by omega)
  unfold lg_cmp
  have h1 : lN a > lN b ↔ b < a := by
    rw [gt_iff_lt, Int64.lt_iff_toInt_lt, ea, eb]
    omega
  have h2 : lN a = lN b ↔ a = b := by
    rw [← Int64.toInt_inj, ea, eb]
    omega
  by_cases q : b < a
  · rw [if_pos (h1.mpr q), if_pos q]
  · rw [if_neg (mt h1.mp q), if_neg q]
    by_cases r : a = b
    · rw [if_pos (h2.mpr r), if_pos r]
    · rw [if_neg (mt h2.mp r), if_neg r]
theorem sum_l {i k : Nat} (hi : i < 2 ^ 31) (hk : k < 2 ^ 31) : (nI i).toInt64 + (nI k).toInt64 = lN (i + k) := by rw [nI_l hi, nI_l hk, lN_add]
theorem sortOf_in {t : Nat} (ht : t < 4) (σ : Ms) : F9_sortOf (nI t) σ = some (σ.1 14 t, σ) := by
  unfold F9_sortOf
  rw [isTray_in ht, bn_s, if_neg (by decide), ixb_nI ht (by omega), ck_t, nI_clamp (by omega)]
theorem k_pour (N : Nat) (hN : 60 < N) (p0 p1 p2 p3 p4 : Int32) (σ : Ms) (hm : I_misc σ) (hT : I_tray σ) : wp (F11_pour p0 p1 p2 p3 p4 σ) fun r t => wp (F12_pour N p0 p1 p2 p3 p4 t) fun r' t' => r = r' ∧ I_misc t' ∧ I_tray t' := by
  have fin : ∀ (c : Int32), c = c → (0 : Int32) = 0 ∧ I_misc (sI (sI (sI (sI σ 11 17 c) 0 1 0) 0 0 0) 0 0 c) ∧ I_tray (sI (sI (sI (sI σ 11 17 c) 0 1 0) 0 0 0) 0 0 c) := fun c _ => ⟨rfl, misc_end c hm, tray_end c hT⟩
  unfold F11_pour F12_pour F11_pour_b14 F11_pour_b42 F11_pour_b115 F12_pour_b28 F12_pour_b52 F12_pour_b136
  simp only [no11, no12, bn_s, nk0, ck_t, lt_e]
  by_cases h0 : ∃ t, t < 4 ∧ p0 = nI t
  rotate_left
  · rw [isTray_out h0, bn_s, if_pos rfl]
    refine wp_some.mpr ?_
    rcases three4 p0 with a | a | a
    · rw [if_pos a]
      exact wp_some.mpr (fin 1 rfl)
    · by_cases b : p0 < 0
      · rw [if_pos b]
        exact wp_some.mpr (fin 1 rfl)
      · rw [if_neg b, if_pos a]
        exact wp_some.mpr (fin 1 rfl)
    · exact absurd a h0
  have ⟨n1, n2⟩ := (in4 p0).mpr h0
  obtain ⟨t, ht, rfl⟩ := h0
  rw [isTray_in ht, bn_s, if_neg (by decide)]
  simp only [if_neg n1, if_neg n2]
  by_cases h1 : ∃ t, t < 4 ∧ p2 = nI t
  rotate_left
  · rw [isTray_out h1, bn_s, if_neg (by decide)]
    refine wp_some.mpr ?_
    by_cases a : p2 < 0
    · rw [if_pos a]
      exact wp_some.mpr (fin 1 rfl)
    · obtain ⟨j, hj, rfl⟩ := nI_of a
      rw [if_neg a, if_neg fun z => h1 ⟨j, (lt_lit (c := 4) 4 rfl hj (by omega)).mp z, rfl⟩]
      exact wp_some.mpr (fin 1 rfl)
  have m1 := ((in4 p2).mpr h1).1
  obtain ⟨u, hu, rfl⟩ := h1
  have m2 : nI u < (4 : Int32) := (lt_lit (c := 4) 4 rfl (by omega) (by omega)).mpr hu
  have ct : (nI t).toNatClampNeg = t := nI_clamp (by omega)
  have cu : (nI u).toNatClampNeg = u := nI_clamp (by omega)
  have xt : ixb (nI t) 4 = true := ixb_nI ht (by omega)
  have xu : ixb (nI u) 4 = true := ixb_nI hu (by omega)
  rw [isTray_in hu, bn_s, if_pos (by decide)]
  simp only [if_neg m1, if_pos m2, ct, cu, xt, xu, ck_t]
  have rd : ∀ (c : Int32) (k j : Nat), k ≠ 0 → (sI (sI (sI σ 11 17 c) 0 1 0) 0 0 0).1 k j = if k = 11 ∧ j = 17 then c else σ.1 k j := fun c k j h => by simp [sI, h]
  have r2 : ∀ (c : Int32) (v : Nat), (sI (sI (sI σ 11 17 c) 0 1 0) 0 0 0).1 2 v = σ.1 2 v := fun c v => by simp [sI]
  have r1 : ∀ (c : Int32) (v : Nat), (sI (sI (sI σ 11 17 c) 0 1 0) 0 0 0).1 1 v = σ.1 1 v := fun c v => by simp [sI]
  obtain ⟨at1, bt, ct1, -⟩ := hT t ht
  obtain ⟨au1, bu, cu1, -⟩ := hT u hu
  rcases bt with bt | ⟨n, hn, bt⟩
  · rw [missing_yes ht (at1.trans bt), bn_s, if_pos (by decide)]
    refine wp_some.mpr ?_
    rw [r2, bt, if_pos (by decide)]
    exact wp_some.mpr (fin 3 rfl)
  have p1' : ¬ nI n < 0 := nI_pos (by omega)
  rw [missing_no ht hn (at1.trans bt), bn_s, if_neg (by decide)]
  rcases bu with bu | ⟨m, hmm, bu⟩
  · rw [missing_yes hu (au1.trans bu), bn_s, if_neg (by decide)]
    refine wp_some.mpr ?_
    simp only [r2, bt, bu]
    rw [if_neg p1', if_neg (by decide)]
    exact wp_some.mpr (fin 3 rfl)
  have p2' : (0 : Int32) ≤ nI m := nI_pos' (by omega)
  rw [missing_no hu hmm (au1.trans bu), bn_s, if_pos rfl, sortOf_in ht, bn_s, sortOf_in hu, bn_s, ct1, cu1]
  by_cases hs : σ.1 1 t = σ.1 1 u
  rotate_left
  · rw [if_neg hs]
    refine wp_some.mpr ?_
    simp only [r2, r1, bt, bu]
    rw [if_neg p1', if_pos p2', if_neg hs]
    exact wp_some.mpr (fin 11 rfl)
  rw [if_pos hs]
  by_cases h4 : (0 : Int32) ≤ p4
  rotate_left
  · rw [if_neg h4]
    refine wp_some.mpr ?_
    simp only [r2, r1, bt, bu]
    rw [if_neg p1', if_pos p2', if_pos hs, if_neg h4]
    exact wp_some.mpr (fin 6 rfl)
  rw [if_pos h4]
  obtain ⟨k, hk, rfl⟩ := nI_of (x := p4) (by rw [Int32.not_lt]; exact h4)
  -- the model's two bounds, in naturals
  have bd : ∀ {i v : Nat}, i < 2 ^ 31 → v ≤ 60 → (0 < lg_cmp ((nI i).toInt64 + (nI k).toInt64) (nI v).toInt64 ↔ v < i + k) := fun {i v} hi hv => by
    rw [sum_l hi hk, nI_l (by omega), cmp_N (by omega) (by omega)]
    by_cases q : v < i + k
    · rw [if_pos q]; exact ⟨fun _ => q, fun _ => by decide⟩
    · rw [if_neg q]
      constructor
      · intro z
        by_cases y : i + k = v
        · rw [if_pos y] at z; exact absurd z (by decide)
        · rw [if_neg y] at z; exact absurd z (by decide)
      · exact fun z => absurd z q
  have bl : ∀ {i v : Nat}, i < 2 ^ 31 → v ≤ 60 → (lg_cmp ((nI i).toInt64 + (nI k).toInt64) (nI v).toInt64 ≤ 0 ↔ i + k ≤ v) := fun {i v} hi hv => by
    rw [← Int32.not_lt, bd hi hv]
    omega
  by_cases g : ∃ i j, p1 = nI i ∧ p3 = nI j ∧ i + k ≤ n ∧ j + k ≤ m
  rotate_left
  · -- no room
    have cls : ∀ {f : Int32 → Ms → Option (Int32 × Ms)}, (∀ τ, f 0 τ = some (0, sI τ 11 17 4)) → (∀ τ, f 1 τ = bn (F9_holds (nI u) p3 (nI k) τ) fun r21 t22 => if r21 ≠ 0 then bn (F9_move (nI t) p1 (nI u) p3 (nI k) t22) (fun r23 t24 => bn (F11_yes t24) (fun r25 t26 => ck (nkB r25) (some (r25, t26)))) else some (0, sI t22 11 17 4)) → bn (F9_holds (nI t) p1 (nI k) σ) f = some (0, sI σ 11 17 4) := fun {f} f0 f1 => by
      by_cases g1 : ∃ i, p1 = nI i ∧ i + k ≤ n
      · obtain ⟨i, rfl, gi⟩ := g1
        rw [holds_yes ht hn (at1.trans bt) gi, bn_s, f1, holds_no hu hmm (au1.trans bu) ?_, bn_s, if_neg (by decide)]
        rintro ⟨j, k', rfl, ek, hj⟩
        have : k' = k := by
          have := (nI_eq (a := k) (b := k') hk (by omega)).mp ek
          exact this.symm
        subst this
        exact g ⟨i, j, rfl, rfl, gi, hj⟩
      · rw [holds_no ht hn (at1.trans bt) ?_, bn_s, f0]
        rintro ⟨i, k', rfl, ek, hi⟩
        have : k' = k := by
          have := (nI_eq (a := k) (b := k') hk (by omega)).mp ek
          exact this.symm
        subst this
        exact g1 ⟨i, rfl, hi⟩
    rw [cls (fun τ => if_pos rfl) (fun τ => if_neg (by decide))]
    refine wp_some.mpr ?_
    simp only [r2, r1, bt, bu]
    rw [if_neg p1', if_pos p2', if_pos hs, if_pos h4]
    by_cases q1 : p1 < 0
    · rw [if_pos q1]
      exact wp_some.mpr (fin 4 rfl)
    rw [if_neg q1]
    by_cases q3 : p3 < 0
    · rw [if_pos q3]
      exact wp_some.mpr (fin 4 rfl)
    rw [if_neg q3]
    obtain ⟨i, hi, rfl⟩ := nI_of q1
    obtain ⟨j, hj, rfl⟩ := nI_of q3
    by_cases gi : n < i + k
    · rw [if_pos ((bd hi hn).mpr gi)]
      exact wp_some.mpr (fin 4 rfl)
    · rw [if_neg (mt (bd hi hn).mp gi), if_neg fun z => g ⟨i, j, rfl, rfl, by omega, (bl hj hmm).mp z⟩]
      exact wp_some.mpr (fin 4 rfl)
  obtain ⟨i, j, rfl, rfl, gi, gj⟩ := g
  have hy1 := holds_yes ht hn (at1.trans bt) gi
  have hy2 := holds_yes hu hmm (au1.trans bu) gj
  have hx : ixc (nI i) (nI j) (nI k) 60 = true := by
    simp only [ixc, Bool.and_eq_true, decide_eq_true_eq, nI_toInt (show i < 2 ^ 31 by omega), nI_toInt (show j < 2 ^ 31 by omega), nI_toInt (show k < 2 ^ 31 by omega)]
    omega
  have ci : (nI i).toNatClampNeg = i := nI_clamp (by omega)
  have cj : (nI j).toNatClampNeg = j := nI_clamp (by omega)
  have ck' : (nI k).toNatClampNeg = k := nI_clamp (by omega)
  have hmv : F9_move (nI t) (nI i) (nI u) (nI j) (nI k) σ = some ((), sCpy σ (16 + t) (16 + u) i j k) := by
    unfold F9_move
    rw [hy1, bn_s, if_neg (by decide), hy2, bn_s, if_pos (by decide), xt, ck_t, xu, ck_t, hx, ck_t, lt_e, ct, cu, ci, cj, ck']
  rw [hy1, bn_s, if_neg (by decide), hy2, bn_s, if_pos (by decide), hmv, bn_s, yes11, bn_s, nk1, ck_t]
  refine wp_some.mpr ?_
  have s2 : ∀ v, (sI (sI (sI (sCpy σ (16 + t) (16 + u) i j k) 11 17 0) 0 1 0) 0 0 0).1 2 v = σ.1 2 v := fun v => by simp [sI, sCpy]
  have s1 : ∀ v, (sI (sI (sI (sCpy σ (16 + t) (16 + u) i j k) 11 17 0) 0 1 0) 0 0 0).1 1 v = σ.1 1 v := fun v => by simp [sI, sCpy]
  simp only [s2, s1, bt, bu]
  rw [if_neg p1', if_pos p2', if_pos hs, if_pos h4, if_neg (nI_pos (by omega)), if_neg (nI_pos (by omega)), if_neg (mt (bd (by omega) hn).mp (by omega)), if_pos ((bl (by omega) hmm).mpr gj)]
  unfold F12_pour_b153
  have go : ∀ r, ((r = 0 ∧ j ≤ i) ∨ (r = 1 ∧ i < j)) → wp (F12_pour_b158 N (nI t) (nI i) (nI u) (nI j) (nI k) (nI r) (0 : Int32) (sI (sI (sI (sCpy σ (16 + t) (16 + u) i j k) 11 17 0) 0 1 0) 0 0 0)) fun r' t' => 1 = r' ∧ I_misc t' ∧ I_tray t' := fun r hr => by
    refine wp_mono (pour_loop N ht hu (by omega) (by omega) hr hN _) ?_
    rintro r' τ' ⟨rfl, f1, f2⟩
    have g2 : ∀ a b, τ'.2 a b = if a = 3 ∧ 60 * u + j ≤ b ∧ b < 60 * u + j + k then σ.2 3 (60 * t + i + (b - (60 * u + j))) else if a = 16 + u then va_cpy (σ.2 (16 + t)) (σ.2 (16 + u)) i j k b else σ.2 a b := fun a b => by
      rw [f2]
      show (if _ then (if 3 = 16 + u then _ else σ.2 3 _) else (if a = 16 + u then _ else σ.2 a b)) = _
      rw [if_neg (show ¬ 3 = 16 + u by omega)]
    refine ⟨rfl, ?_, ?_⟩
    · unfold I_misc
      rw [f1, g2, g2, g2, g2, if_neg (by omega), if_neg (by omega), if_neg (by omega), if_neg (by omega), if_neg (by omega), if_neg (by omega), if_neg (by omega), if_neg (by omega)]
      have := hm.2
      simpa [sI, sCpy] using this
    · intro v hv
      obtain ⟨a, b, c, d, e⟩ := hT v hv
      rw [f1]
      refine ⟨by simpa [sI, sCpy] using a, by simpa [sI, sCpy] using b, by simpa [sI, sCpy] using c, by simpa [sI, sCpy] using d, fun x hx => ?_⟩
      rw [g2, g2, if_neg (show ¬ (16 + v = 3 ∧ _ ∧ _) by omega), if_neg (show ¬ 3 = 16 + u by omega)]
      by_cases q : v = u
      · subst q
        rw [if_pos rfl]
        unfold va_cpy
        by_cases y : j ≤ x ∧ x < j + k
        · rw [if_pos y, if_pos ⟨rfl, by omega, by omega⟩, (hT t ht).2.2.2.2 _ (by omega)]
          exact congrArg (σ.2 3) (by omega)
        · rw [if_neg y, if_neg fun z => by omega]
          exact e x hx
      · rw [if_neg (show ¬ 16 + v = 16 + u by omega), if_neg fun z => by omega]
        exact e x hx
  by_cases hd : j ≤ i
  · rw [if_pos (nI_le hd (by omega))]
    exact go 0 (Or.inl ⟨rfl, hd⟩)
  · rw [if_neg (nI_ge (by omega) (by omega))]
    exact go 1 (Or.inr ⟨rfl, by omega⟩)
