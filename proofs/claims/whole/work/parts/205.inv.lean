/-- no write of W meets what D names -/
def disj (W D : List (Nat × Option Nat)) : Bool := W.all fun w => D.all fun d => w.1 != d.1 || (match w.2, d.2 with | some a, some b => a != b | _, _ => false)
theorem Fr.keep {W : List (Nat × Option Nat)} {σ τ : Ms} (h : Fr W σ τ) {D : List (Nat × Option Nat)} (hd : disj W D = true) {k j : Nat} (hk : InW D k j) : τ.1 k j = σ.1 k j ∧ τ.2 k j = σ.2 k j := by
  have hn : ¬ InW W k j := by
    rintro ⟨w, hw, e1, e2⟩
    obtain ⟨d, hdm, f1, f2⟩ := hk
    have := List.all_eq_true.mp (List.all_eq_true.mp hd w hw) d hdm
    rw [e1, f1] at this
    simp only [bne_self_eq_false, Bool.false_or] at this
    split at this
    · next a b ha hb =>
      rw [e2 a ha, f2 b hb] at this
      simp at this
    · cases this
  exact ⟨h.1 k j hn, h.2 k j hn⟩
theorem FR_app {R R' : Type} {W W' : List (Nat × Option Nat)} {σ : Ms} {A : Option (R × Ms)} {B : Ms → Option (R' × Ms)} {Q : R → R' → Ms → Prop} (h : wp A fun r t => wp (B t) fun r' t' => Q r r' t') (hA : FR W σ A) (hB : ∀ t, FR W' t (B t)) : wp A fun r t => wp (B t) fun r' t' => Q r r' t' ∧ Fr (W ++ W') σ t' := by
  refine wp_mono (wp_fr h hA) fun r t ht => wp_mono (wp_fr ht.1 (hB t)) fun r' t' ht' => ⟨ht'.1, ?_⟩
  exact (ht.2.mono fun w hw => List.mem_append_left _ hw).trans (ht'.2.mono fun w hw => List.mem_append_right _ hw)
def I_misc (σ : Ms) : Prop := σ.1 11 17 = σ.1 0 0 ∧ σ.2 11 18 = σ.2 0 2 ∧ σ.2 11 19 = σ.2 0 3
def I_tray (σ : Ms) : Prop := ∀ t, t < 4 → σ.1 15 t = σ.1 2 t ∧ (σ.1 2 t = -1 ∨ ∃ n, n ≤ 60 ∧ σ.1 2 t = nI n) ∧ σ.1 14 t = σ.1 1 t ∧ (∃ n, n < 4 ∧ σ.1 1 t = nI n) ∧ ∀ i, i < 60 → σ.2 (16 + t) i = σ.2 3 (60 * t + i)
def D_misc : List (Nat × Option Nat) := [(11, some 17), (11, some 18), (11, some 19), (0, some 0), (0, some 2), (0, some 3)]
def D_tray : List (Nat × Option Nat) := [(1, none), (2, none), (3, none), (14, none), (15, none), (16, none), (17, none), (18, none), (19, none)]
theorem I_misc_keep {W : List (Nat × Option Nat)} {σ τ : Ms} (h : Fr W σ τ) (hd : disj W D_misc = true) (hI : I_misc σ) : I_misc τ := by
  unfold I_misc at *
  rw [(h.keep hd (In_o 0 rfl : InW D_misc 11 17)).1, (h.keep hd (In_o 1 rfl : InW D_misc 11 18)).2, (h.keep hd (In_o 2 rfl : InW D_misc 11 19)).2, (h.keep hd (In_o 3 rfl : InW D_misc 0 0)).1, (h.keep hd (In_o 4 rfl : InW D_misc 0 2)).2, (h.keep hd (In_o 5 rfl : InW D_misc 0 3)).2]
  exact hI
theorem I_tray_keep {W : List (Nat × Option Nat)} {σ τ : Ms} (h : Fr W σ τ) (hd : disj W D_tray = true) (hI : I_tray σ) : I_tray τ := by
  intro t ht
  have h16 : ∀ i, τ.2 (16 + t) i = σ.2 (16 + t) i := fun i => (h.keep hd (In_4 ht 5 6 7 8 rfl rfl rfl rfl : InW D_tray (16 + t) i)).2
  have h3 : ∀ i, τ.2 3 i = σ.2 3 i := fun i => (h.keep hd (In_a 2 rfl : InW D_tray 3 i)).2
  rw [(h.keep hd (In_a 4 rfl : InW D_tray 15 t)).1, (h.keep hd (In_a 1 rfl : InW D_tray 2 t)).1, (h.keep hd (In_a 3 rfl : InW D_tray 14 t)).1, (h.keep hd (In_a 0 rfl : InW D_tray 1 t)).1]
  obtain ⟨a, b, c, d, e⟩ := hI t ht
  exact ⟨a, b, c, d, fun i hi => by rw [h16, h3]; exact e i hi⟩
theorem three4 (p : Int32) : p < 0 ∨ (4 : Int32) ≤ p ∨ ∃ t, t < 4 ∧ p = nI t := by
  by_cases h : p < 0
  · exact Or.inl h
  obtain ⟨j, hj, rfl⟩ := nI_of h
  by_cases h4 : j < 4
  · exact Or.inr (Or.inr ⟨j, h4, rfl⟩)
  · exact Or.inr (Or.inl ((nI_leI (a := 4) (by omega) hj).mpr (by omega)))
theorem isTray_in {t : Nat} (ht : t < 4) (σ : Ms) : F9_isTray (nI t) σ = some (1, σ) := by
  unfold F9_isTray
  have e : ¬ (4 : Int32) ≤ nI t := fun z => absurd ((nI_leI (a := 4) (by omega) (by omega)).mp z) (by omega)
  rw [if_neg (nI_pos (by omega)), if_neg e]
theorem isTray_lo {p : Int32} (h : p < 0) (σ : Ms) : F9_isTray p σ = some (0, σ) := if_pos h
theorem isTray_hi {p : Int32} (h0 : ¬ p < 0) (h : (4 : Int32) ≤ p) (σ : Ms) : F9_isTray p σ = some (0, σ) := by
  unfold F9_isTray
  rw [if_neg h0, if_pos h]
