/-- seasons as a text: the model's steps as they are read -/
abbrev DG : Type := Nat → Nat → Int32
def sD (D : DG) (n o : Nat) (v : Int32) : DG := fun t i => if t = n ∧ i = o then v else D t i
def kdW (T : Nat → Nat) (e : Nat) (x : TX) : Nat := wich T e x.1 10 8 0
def isBk (k : Nat) : Bool := k == 5 || k == 6
def aHd (T : Nat → Nat) (e w n k : Nat) (x : TX) : TX :=
  let x1 := if k = 8 then tRef T e 2 x else x
  let x2 := if n < 30 then x1 else tRef T e 6 x1
  if isBk k = true ∧ ¬ w < 3 then tRef T e 7 x2 else x2
def aSide (T : Nat → Nat) (e m n : Nat) (x : TX) (D : DG) : TX × DG := (tNum T e 0 m (tWch T e 7 2 x), sD (sD D n 1 (nI (wich T e x.1 7 2 0))) n 2 (nI (vlS T e (tWch T e 7 2 x).1)))
def aLessT (T : Nat → Nat) (e n : Nat) (x : TX) (D : DG) : TX × DG := (tNum T e 0 16 (tNum T e 0 4 x), sD (sD D n 1 (nI (vlS T e x.1))) n 2 (nI (vlS T e (tNum T e 0 4 x).1)))
def aGrowT (T : Nat → Nat) (e n : Nat) (x : TX) (D : DG) : TX × DG := if isWd T e (tWch T e 4 3 x).1 3 = true then (tNum T e 0 20 (tStp T e (tWch T e 4 3 x)), sD (sD D n 1 (nI (wich T e x.1 4 3 0))) n 2 (nI (vlS T e (tStp T e (tWch T e 4 3 x)).1))) else (tWch T e 4 3 x, sD (sD D n 1 (nI (wich T e x.1 4 3 0))) n 2 (-nI 1))
def aLoopT (T : Nat → Nat) (e n : Nat) (x : TX) (D : DG) : TX × DG := (tNum T e 1 100 x, sD D n 1 (nI (vlS T e x.1)))
def aSg (T : Nat → Nat) (e : Nat) (x : TX) : Nat := if isMk T e x.1 60 = true then 0 else if isMk T e x.1 62 = true then 1 else if isMk T e x.1 61 = true then 2 else 3
def aCmp (T : Nat → Nat) (e : Nat) (x : TX) : TX := tMust T e (decide (aSg T e x ≠ 3)) x
def aWhenT (T : Nat → Nat) (e n : Nat) (x : TX) (D : DG) : TX × DG := if wich T e x.1 18 4 0 = 0 then (tNum T e 0 20 (tWch T e 18 4 x), sD (sD D n 5 (nI 0)) n 1 (nI (vlS T e (tWch T e 18 4 x).1))) else if wich T e x.1 18 4 0 = 3 then (tWch T e 7 2 (tWch T e 18 4 x), sD (sD D n 5 (nI 3)) n 1 (nI (wich T e (tWch T e 18 4 x).1 7 2 0))) else if wich T e x.1 18 4 0 = 4 then (tWch T e 18 4 x, D) else (tNum T e 0 (if wich T e x.1 18 4 0 = 1 then 21 else 32) (aCmp T e (tWch T e 18 4 x)), sD (sD (sD D n 5 (nI (wich T e x.1 18 4 0))) n 7 (nI (T (tWch T e 18 4 x).1))) n 6 (nI (vlS T e (aCmp T e (tWch T e 18 4 x)).1)))
def aRest (T : Nat → Nat) (e n k : Nat) (x : TX) (D : DG) : TX × DG := if k = 0 then aSide T e 20 n x D else if k = 1 then aSide T e 5 n x D else if k = 2 then aLessT T e n x D else if k = 3 then aGrowT T e n x D else if k = 5 then aWhenT T e n x D else if k = 6 then aLoopT T e n x D else (x, D)
def aEnd (T : Nat → Nat) (e : Nat) (x : TX) : TX := clsT T e (tMust T e (isWd T e x.1 9) x)
def aR (T : Nat → Nat) (e w : Nat) (x : TX) (n : Nat) (D : DG) : TX × DG := aRest T e n (kdW T e x) (tStp T e (aHd T e w n (kdW T e x) x)) (sD D n 0 (nI (kdW T e x)))
def aOne (body : TX → Nat → DG → TX × Nat × DG) (T : Nat → Nat) (e w : Nat) (x : TX) (n : Nat) (D : DG) : TX × Nat × DG :=
  if (aHd T e w n (kdW T e x) x).2.1 ≠ 0 then (aHd T e w n (kdW T e x) x, n, D)
  else if isBk (kdW T e x) = true then (aEnd T e (body (clsT T e (aR T e w x n D).1) (n + 1) (aR T e w x n D).2).1, (body (clsT T e (aR T e w x n D).1) (n + 1) (aR T e w x n D).2).2.1, sD (body (clsT T e (aR T e w x n D).1) (n + 1) (aR T e w x n D).2).2.2 n 8 (nI (body (clsT T e (aR T e w x n D).1) (n + 1) (aR T e w x n D).2).2.1))
  else (clsT T e (aR T e w x n D).1, n + 1, sD (aR T e w x n D).2 n 8 (nI (n + 1)))
def stpB (T : Nat → Nat) (e w : Nat) (x : TX) : Bool := decide (x.2.1 ≠ 0) || (if w = 0 then decide (kdS T e x.1 = 0) else isWd T e x.1 9)
def aSq (T : Nat → Nat) (e : Nat) : Nat → Nat → TX → Nat → DG → TX × Nat × DG
  | 0, _, x, n, D => (x, n, D)
  | k + 1, w, x, n, D => if stpB T e w x = true then (x, n, D) else aSq T e k w (aOne (aSq T e k (w + 1)) T e w x n D).1 (aOne (aSq T e k (w + 1)) T e w x n D).2.1 (aOne (aSq T e k (w + 1)) T e w x n D).2.2
theorem stpB_f {T : Nat → Nat} {e w : Nat} {x : TX} (h : x.2.1 ≠ 0) : stpB T e w x = true := by
  unfold stpB
  rw [decide_eq_true h]
  rfl
theorem aSq_s {T : Nat → Nat} {e w n : Nat} {x : TX} {D : DG} (h : stpB T e w x = true) : ∀ k, aSq T e k w x n D = (x, n, D)
  | 0 => rfl
  | k + 1 => if_pos h
theorem aSq_g {T : Nat → Nat} {e w n k : Nat} {x : TX} {D : DG} (h : ¬ stpB T e w x = true) : aSq T e (k + 1) w x n D = aSq T e k w (aOne (aSq T e k (w + 1)) T e w x n D).1 (aOne (aSq T e k (w + 1)) T e w x n D).2.1 (aOne (aSq T e k (w + 1)) T e w x n D).2.2 := if_neg h
theorem sD_e {D : DG} {n o : Nat} {v : Int32} : sD D n o v n o = v := if_pos ⟨rfl, rfl⟩
theorem sD_t {D : DG} {n o t i : Nat} {v : Int32} (h : t ≠ n) : sD D n o v t i = D t i := if_neg fun z => h z.1
theorem sD_o {D : DG} {n o t i : Nat} {v : Int32} (h : i ≠ o) : sD D n o v t i = D t i := if_neg fun z => h z.2
theorem aHd_1 {T : Nat → Nat} {e w n k : Nat} {x : TX} : (aHd T e w n k x).1 = x.1 := by
  unfold aHd
  dsimp only
  repeat' split
  all_goals simp only [tRef_1]
theorem aHd_z {T : Nat → Nat} {e w n k : Nat} {x : TX} (h : (aHd T e w n k x).2.1 = 0) : x.2.1 = 0 ∧ k ≠ 8 ∧ n < 30 ∧ (isBk k = true → w < 3) ∧ aHd T e w n k x = x := by
  unfold aHd at *
  dsimp only at *
  by_cases q1 : k = 8
  · rw [if_pos q1] at h
    have hz := tRef_n (T := T) (e := e) (w := 2) x (by omega)
    by_cases q2 : n < 30
    · rw [if_pos q2] at h
      split at h
      · rw [tRef_f hz] at h; exact absurd h hz
      · exact absurd h hz
    · rw [if_neg q2, tRef_f hz] at h
      split at h
      · rw [tRef_f hz] at h; exact absurd h hz
      · exact absurd h hz
  rw [if_neg q1] at *
  by_cases q2 : n < 30
  rotate_left
  · rw [if_neg q2] at h
    have hz := tRef_n (T := T) (e := e) (w := 6) x (by omega)
    split at h
    · rw [tRef_f hz] at h; exact absurd h hz
    · exact absurd h hz
  rw [if_pos q2] at *
  by_cases q3 : isBk k = true ∧ ¬ w < 3
  · rw [if_pos q3] at h
    exact absurd h (tRef_n x (by omega))
  · rw [if_neg q3] at *
    refine ⟨h, q1, q2, fun y => ?_, rfl⟩
    exact Classical.byContradiction fun z => q3 ⟨y, z⟩
theorem aHd_f {T : Nat → Nat} {e w n k : Nat} {x : TX} (h : x.2.1 ≠ 0) : aHd T e w n k x = x := by
  unfold aHd
  dsimp only
  rw [tRef_f h, ite_self, tRef_f h, ite_self, tRef_f h, ite_self]
theorem clsT_le {T : Nat → Nat} {e : Nat} {x : TX} (h : x.1 ≤ e) : x.1 ≤ (clsT T e x).1 ∧ (clsT T e x).1 ≤ e := tMust_le h
theorem aRest_le {T : Nat → Nat} {e n k : Nat} {x : TX} {D : DG} (h : x.1 ≤ e) : x.1 ≤ (aRest T e n k x D).1.1 ∧ (aRest T e n k x D).1.1 ≤ e := by
  have s2 : ∀ m, x.1 ≤ (aSide T e m n x D).1.1 ∧ (aSide T e m n x D).1.1 ≤ e := fun m => by
    have h1 := tWch_le (T := T) (i := 7) (m := 2) h
    have h2 := tNum_le (T := T) (lo := 0) (m := m) h1.2
    exact ⟨Nat.le_trans h1.1 h2.1, h2.2⟩
  unfold aRest
  split
  · exact s2 _
  split
  · exact s2 _
  split
  · have h1 := tNum_le (T := T) (lo := 0) (m := 4) h
    have h2 := tNum_le (T := T) (lo := 0) (m := 16) h1.2
    exact ⟨Nat.le_trans h1.1 h2.1, h2.2⟩
  split
  · have h1 := tWch_le (T := T) (i := 4) (m := 3) h
    unfold aGrowT
    split
    · have h2 := tStp_le (T := T) h1.2
      have h3 := tNum_le (T := T) (lo := 0) (m := 20) h2.2
      exact ⟨Nat.le_trans h1.1 (Nat.le_trans h2.1 h3.1), h3.2⟩
    · exact h1
  split
  · have h1 := tWch_le (T := T) (i := 18) (m := 4) h
    unfold aWhenT
    split
    · have h2 := tNum_le (T := T) (lo := 0) (m := 20) h1.2
      exact ⟨Nat.le_trans h1.1 h2.1, h2.2⟩
    split
    · have h2 := tWch_le (T := T) (i := 7) (m := 2) h1.2
      exact ⟨Nat.le_trans h1.1 h2.1, h2.2⟩
    split
    · exact h1
    · have h2 := tMust_le (T := T) (b := decide (aSg T e (tWch T e 18 4 x) ≠ 3)) h1.2
      have h3 := tNum_le (T := T) (lo := 0) (m := if wich T e x.1 18 4 0 = 1 then 21 else 32) h2.2
      exact ⟨Nat.le_trans h1.1 (Nat.le_trans h2.1 h3.1), h3.2⟩
  split
  · exact tNum_le h
  · exact ⟨Nat.le_refl _, h⟩
theorem aEnd_le {T : Nat → Nat} {e : Nat} {x : TX} (h : x.1 ≤ e) : x.1 ≤ (aEnd T e x).1 ∧ (aEnd T e x).1 ≤ e := by
  have h1 := tMust_le (T := T) (b := isWd T e x.1 9) h
  have h2 := clsT_le (T := T) h1.2
  exact ⟨Nat.le_trans h1.1 h2.1, h2.2⟩
theorem aEnd_f {T : Nat → Nat} {e : Nat} {x : TX} (h : x.2.1 ≠ 0) : aEnd T e x = x := by
  unfold aEnd
  rw [tMust_f h, clsT_f h]
theorem aR_le {T : Nat → Nat} {e w n : Nat} {x : TX} {D : DG} (h : x.1 ≤ e) : x.1 ≤ (aR T e w x n D).1.1 ∧ (aR T e w x n D).1.1 ≤ e := by
  have h1 := tStp_le (T := T) (e := e) (x := aHd T e w n (kdW T e x) x) (by rw [aHd_1]; exact h)
  rw [aHd_1] at h1
  have h2 := aRest_le (T := T) (n := n) (k := kdW T e x) (D := sD D n 0 (nI (kdW T e x))) h1.2
  exact ⟨Nat.le_trans h1.1 h2.1, h2.2⟩
theorem aR_lt {T : Nat → Nat} {e w n : Nat} {x : TX} {D : DG} (h : x.1 ≤ e) (h0 : (aHd T e w n (kdW T e x) x).2.1 = 0) : x.1 < (aR T e w x n D).1.1 := by
  obtain ⟨z0, z8, -, -, ze⟩ := aHd_z h0
  have hk : kdS T e x.1 ≠ 0 := fun y => z8 (by
    unfold kdW
    rw [wich_d (by omega)])
  have h1 := tStp_lt h z0 hk
  have h2 := tStp_le (T := T) h
  have h3 := aRest_le (T := T) (n := n) (k := kdW T e x) (D := sD D n 0 (nI (kdW T e x))) h2.2
  unfold aR
  rw [ze]
  omega
theorem aOne_le {T : Nat → Nat} {e w n : Nat} {x : TX} {D : DG} {body : TX → Nat → DG → TX × Nat × DG} (hb : ∀ y m G, y.1 ≤ e → y.1 ≤ (body y m G).1.1 ∧ (body y m G).1.1 ≤ e) (h : x.1 ≤ e) : x.1 ≤ (aOne body T e w x n D).1.1 ∧ (aOne body T e w x n D).1.1 ≤ e := by
  have h1 := aR_le (T := T) (w := w) (n := n) (D := D) h
  have h2 := clsT_le (T := T) h1.2
  unfold aOne
  split
  · rw [aHd_1]
    exact ⟨Nat.le_refl _, h⟩
  split
  · have h3 := hb _ (n + 1) (aR T e w x n D).2 h2.2
    have h4 := aEnd_le (T := T) h3.2
    exact ⟨Nat.le_trans h1.1 (Nat.le_trans h2.1 (Nat.le_trans h3.1 h4.1)), h4.2⟩
  · exact ⟨Nat.le_trans h1.1 h2.1, h2.2⟩
theorem aOne_lt {T : Nat → Nat} {e w n : Nat} {x : TX} {D : DG} {body : TX → Nat → DG → TX × Nat × DG} (hb : ∀ y m G, y.1 ≤ e → y.1 ≤ (body y m G).1.1 ∧ (body y m G).1.1 ≤ e) (h : x.1 ≤ e) (h0 : (aOne body T e w x n D).1.2.1 = 0) : x.1 < (aOne body T e w x n D).1.1 := by
  unfold aOne at *
  by_cases q : (aHd T e w n (kdW T e x) x).2.1 ≠ 0
  · rw [if_pos q] at h0
    exact absurd h0 q
  rw [if_neg q] at *
  have h1 := aR_le (T := T) (w := w) (n := n) (D := D) h
  have h1' := aR_lt (T := T) (w := w) (n := n) (D := D) h (Classical.not_not.mp q)
  have h2 := clsT_le (T := T) h1.2
  split
  · have h3 := hb _ (n + 1) (aR T e w x n D).2 h2.2
    have h4 := aEnd_le (T := T) h3.2
    exact Nat.lt_of_lt_of_le h1' (Nat.le_trans h2.1 (Nat.le_trans h3.1 h4.1))
  · exact Nat.lt_of_lt_of_le h1' h2.1
theorem aSq_le {T : Nat → Nat} {e : Nat} : ∀ k w x n D, x.1 ≤ e → x.1 ≤ (aSq T e k w x n D).1.1 ∧ (aSq T e k w x n D).1.1 ≤ e
  | 0, _, _, _, _, h => ⟨Nat.le_refl _, h⟩
  | k + 1, w, x, n, D, h => by
    by_cases q : stpB T e w x = true
    · rw [aSq_s q]
      exact ⟨Nat.le_refl _, h⟩
    · rw [aSq_g q]
      have h1 := aOne_le (T := T) (w := w) (n := n) (D := D) (body := aSq T e k (w + 1)) (fun y m G hy => aSq_le (T := T) k (w + 1) y m G hy) h
      have h2 := aSq_le (T := T) k w _ (aOne (aSq T e k (w + 1)) T e w x n D).2.1 (aOne (aSq T e k (w + 1)) T e w x n D).2.2 h1.2
      exact ⟨Nat.le_trans h1.1 h2.1, h2.2⟩
theorem msr_one {T : Nat → Nat} {e w n k : Nat} {x : TX} {D : DG} (h : x.1 ≤ e) (h0 : x.2.1 = 0) : msr e (aOne (aSq T e k (w + 1)) T e w x n D).1 < msr e x := by
  unfold msr
  rw [if_pos h0]
  split
  · next z =>
    have h1 := aOne_lt (T := T) (w := w) (n := n) (D := D) (body := aSq T e k (w + 1)) (fun y m G hy => aSq_le (T := T) k (w + 1) y m G hy) h z
    omega
  · omega
theorem msr_body {T : Nat → Nat} {e w n : Nat} {x : TX} {D : DG} (h : x.1 ≤ e) (h0 : (aHd T e w n (kdW T e x) x).2.1 = 0) : msr e (clsT T e (aR T e w x n D).1) < msr e x := by
  have z := (aHd_z h0).1
  have h1 := aR_lt (T := T) (w := w) (n := n) (D := D) h h0
  have h2 := aR_le (T := T) (w := w) (n := n) (D := D) h
  have h3 := clsT_le (T := T) h2.2
  unfold msr
  rw [if_pos z]
  split <;> omega
/-- with fuel enough it comes to its end -/
theorem aSq_end {T : Nat → Nat} {e : Nat} : ∀ k w x n D, x.1 ≤ e → msr e x ≤ k → stpB T e w (aSq T e k w x n D).1 = true
  | 0, w, x, n, D, h, hk => by
    have : x.2.1 ≠ 0 := fun z => by
      unfold msr at hk
      rw [if_pos z] at hk
      omega
    exact stpB_f this
  | k + 1, w, x, n, D, h, hk => by
    by_cases q : stpB T e w x = true
    · rw [aSq_s q]
      exact q
    · rw [aSq_g q]
      have h0 : x.2.1 = 0 := Classical.byContradiction fun z => q (stpB_f z)
      have h1 := aOne_le (T := T) (w := w) (n := n) (D := D) (body := aSq T e k (w + 1)) (fun y m G hy => aSq_le (T := T) k (w + 1) y m G hy) h
      have h2 := msr_one (T := T) (w := w) (n := n) (k := k) (D := D) h h0
      exact aSq_end k w _ _ _ h1.2 (by omega)
/-- the steps before stay, and there are 30 at the most -/
theorem aRest_D {T : Nat → Nat} {e n k : Nat} {x : TX} {D : DG} {t i : Nat} (h : t ≠ n ∨ i = 0 ∨ i = 8) : (aRest T e n k x D).2 t i = D t i := by
  have g : ∀ (G : DG) (o : Nat) (v : Int32), o ≠ 0 → o ≠ 8 → sD G n o v t i = G t i := fun G o v h1 h2 => by
    rcases h with h | h | h
    · exact sD_t h
    · exact sD_o (by omega)
    · exact sD_o (by omega)
  unfold aRest
  split
  · exact (g _ _ _ (by omega) (by omega)).trans (g _ _ _ (by omega) (by omega))
  split
  · exact (g _ _ _ (by omega) (by omega)).trans (g _ _ _ (by omega) (by omega))
  split
  · exact (g _ _ _ (by omega) (by omega)).trans (g _ _ _ (by omega) (by omega))
  split
  · unfold aGrowT
    split
    · exact (g _ _ _ (by omega) (by omega)).trans (g _ _ _ (by omega) (by omega))
    · exact (g _ _ _ (by omega) (by omega)).trans (g _ _ _ (by omega) (by omega))
  split
  · unfold aWhenT
    split
    · exact (g _ _ _ (by omega) (by omega)).trans (g _ _ _ (by omega) (by omega))
    split
    · exact (g _ _ _ (by omega) (by omega)).trans (g _ _ _ (by omega) (by omega))
    split
    · rfl
    · exact (g _ _ _ (by omega) (by omega)).trans ((g _ _ _ (by omega) (by omega)).trans (g _ _ _ (by omega) (by omega)))
  split
  · exact g _ _ _ (by omega) (by omega)
  · rfl
theorem aR_D {T : Nat → Nat} {e w n : Nat} {x : TX} {D : DG} {t i : Nat} (h : t ≠ n) : (aR T e w x n D).2 t i = D t i := by
  unfold aR
  rw [aRest_D (Or.inl h), sD_t h]
theorem aR_0 {T : Nat → Nat} {e w n : Nat} {x : TX} {D : DG} : (aR T e w x n D).2 n 0 = nI (kdW T e x) := by
  unfold aR
  rw [aRest_D (Or.inr (Or.inl rfl)), sD_e]
theorem aSq_D {T : Nat → Nat} {e : Nat} : ∀ k w x n D, n ≤ 30 → n ≤ (aSq T e k w x n D).2.1 ∧ (aSq T e k w x n D).2.1 ≤ 30 ∧ ∀ t i, t < n → (aSq T e k w x n D).2.2 t i = D t i
  | 0, _, _, _, _, h => ⟨Nat.le_refl _, h, fun _ _ _ => rfl⟩
  | k + 1, w, x, n, D, h => by
    by_cases q : stpB T e w x = true
    · rw [aSq_s q]
      exact ⟨Nat.le_refl _, h, fun _ _ _ => rfl⟩
    · rw [aSq_g q]
      have one : n ≤ (aOne (aSq T e k (w + 1)) T e w x n D).2.1 ∧ (aOne (aSq T e k (w + 1)) T e w x n D).2.1 ≤ 30 ∧ ∀ t i, t < n → (aOne (aSq T e k (w + 1)) T e w x n D).2.2 t i = D t i := by
        unfold aOne
        by_cases q1 : (aHd T e w n (kdW T e x) x).2.1 ≠ 0
        · rw [if_pos q1]
          exact ⟨Nat.le_refl _, h, fun _ _ _ => rfl⟩
        rw [if_neg q1]
        have hn := (aHd_z (Classical.not_not.mp q1)).2.2.1
        split
        · obtain ⟨a, b, c⟩ := aSq_D (T := T) (e := e) k (w + 1) (clsT T e (aR T e w x n D).1) (n + 1) (aR T e w x n D).2 (by omega)
          refine ⟨by show n ≤ (aSq T e k (w + 1) _ _ _).2.1; omega, b, fun t i ht => ?_⟩
          show sD _ n 8 _ t i = D t i
          rw [sD_t (by omega), c t i (by omega), aR_D (by omega)]
        · refine ⟨Nat.le_succ n, hn, fun t i ht => ?_⟩
          show sD _ n 8 _ t i = D t i
          rw [sD_t (by omega), aR_D (by omega)]
      obtain ⟨a, b, c⟩ := aSq_D (T := T) (e := e) k w (aOne (aSq T e k (w + 1)) T e w x n D).1 (aOne (aSq T e k (w + 1)) T e w x n D).2.1 (aOne (aSq T e k (w + 1)) T e w x n D).2.2 one.2.1
      exact ⟨by omega, b, fun t i ht => (c t i (by omega)).trans (one.2.2 t i ht)⟩
/-- Seg by places -/
theorem Seg_at {K A B C M K' A' B' C' M' : Nat → Int32} {D D' : Nat → Nat → Int32} : ∀ {f g e s e' s' : Nat}, Seg K A B C M D f g e s e' s' → (∀ j, e ≤ j → j < e' → K' j = K j ∧ A' j = A j ∧ B' j = B j ∧ C' j = C j ∧ M' j = M j) → (∀ t o, s ≤ t → t < s' → o < 9 → D' t o = D t o) → Seg K' A' B' C' M' D' f g e s e' s'
  | 0, _, _, _, _, _, h, _, _ => h
  | f + 1, g, e, s, e', s', h, h1, h2 => by
    rcases h with h | ⟨he, hs, ho, hd, h⟩ | ⟨he, hs, ho, m, t, i, hg, hm, hM, hK, hM', ha, hd, hb⟩
    · exact Or.inl h
    · have hl := Seg_le h
      have h1e := h1 e (by omega) (by omega)
      refine Or.inr (Or.inl ⟨he, hs, ?_, by rw [h2 s 8 (by omega) (by omega) (by omega)]; exact hd, Seg_at h (fun j a b => h1 j (by omega) b) (fun t o a b c => h2 t o (by omega) b c)⟩)
      unfold stepOk at *
      rw [h1e.1, h1e.2.1, h1e.2.2.1, h2 s 0 (by omega) (by omega) (by omega), h2 s 1 (by omega) (by omega) (by omega), h2 s 2 (by omega) (by omega) (by omega)]
      exact ho
    · have hl := Seg_le ha
      have hl2 := Seg_le hb
      have h1e := h1 e (by omega) (by omega)
      have h1m := h1 m (by omega) (by omega)
      refine Or.inr (Or.inr ⟨he, hs, ?_, m, t, i, hg, hm, by rw [h1e.2.2.2.2]; exact hM, by rw [h1m.1]; exact hK, by rw [h1m.2.2.2.2]; exact hM', Seg_at ha (fun j a b => h1 j (by omega) (by omega)) (fun t o a b c => h2 t o (by omega) (by omega) c), by rw [h2 s 8 (by omega) (by omega) (by omega)]; exact hd, Seg_at hb (fun j a b => h1 j (by omega) b) (fun t o a b c => h2 t o (by omega) b c)⟩)
      unfold whenOk loopOk at *
      rw [h1e.1, h1e.2.1, h1e.2.2.1, h1e.2.2.2.1, h2 s 0 (by omega) (by omega) (by omega), h2 s 1 (by omega) (by omega) (by omega), h2 s 5 (by omega) (by omega) (by omega), h2 s 6 (by omega) (by omega) (by omega), h2 s 7 (by omega) (by omega) (by omega)]
      exact ho
theorem Seg_up {K A B C M : Nat → Int32} {D : Nat → Nat → Int32} : ∀ {f f' g e s e' s' : Nat}, f ≤ f' → Seg K A B C M D f g e s e' s' → Seg K A B C M D f' g e s e' s'
  | 0, 0, _, _, _, _, _, _, h => h
  | 0, f' + 1, _, _, _, _, _, _, h => Or.inl h
  | f + 1, 0, _, _, _, _, _, hf, _ => absurd hf (by omega)
  | f + 1, f' + 1, g, e, s, e', s', hf, h => by
    rcases h with h | ⟨he, hs, ho, hd, h⟩ | ⟨he, hs, ho, m, t, i, hg, hm, hM, hK, hM', ha, hd, hb⟩
    · exact Or.inl h
    · exact Or.inr (Or.inl ⟨he, hs, ho, hd, Seg_up (by omega) h⟩)
    · exact Or.inr (Or.inr ⟨he, hs, ho, m, t, i, hg, hm, hM, hK, hM', Seg_up (by omega) ha, hd, Seg_up (by omega) hb⟩)
