/-- what holds between the calls -/
def Inv (σ : Ms) : Prop := I_misc σ ∧ I_tray σ ∧ I_tape σ ∧ I_byte σ ∧ I_fault σ ∧ I_hg 0 22 σ ∧ I_se 0 62 σ ∧ I_marks σ ∧ I_lived σ
def D_frac : List (Nat × Option Nat) := [(11, some 18), (11, some 19), (0, some 2), (0, some 3)]
def D_byte : List (Nat × Option Nat) := [(21, none)]
def D_hgc : List (Nat × Option Nat) := [(22, some 5), (22, some 6), (22, some 7), (22, some 8), (22, some 9), (22, some 10), (22, some 11), (23, none), (24, none), (25, none), (26, none), (27, none)]
def D_sec : List (Nat × Option Nat) := [(62, some 0), (62, some 1), (62, some 2), (63, none), (64, none), (65, none), (66, none), (67, none)]
def D_mkc : List (Nat × Option Nat) := [(11, some 14), (0, some 21), (38, none), (39, none), (40, none), (41, none), (42, none), (43, none), (46, none), (47, none), (48, none), (49, none), (50, none), (51, none), (54, none), (55, none), (56, none), (57, none), (58, none), (59, none), (76, none), (77, none), (78, none), (79, none), (80, none), (81, none), (83, none), (84, none), (85, none), (86, none), (87, none), (88, none), (90, none), (91, none), (92, none), (93, none), (94, none), (95, none)]
def D_lived : List (Nat × Option Nat) := [(11, some 13), (0, some 37), (10, none), (109, none)]
def D_five : List (Nat × Option Nat) := [(5, none)]
def D_far : List (Nat × Option Nat) := D_tape ++ (D_fault ++ (D_lived ++ (D_sec ++ D_mkc)))
def D_ro : List (Nat × Option Nat) := D_tray ++ (D_far ++ (D_hgc ++ D_five))
theorem disj_sub {W D D' : List (Nat × Option Nat)} (h : disj W D = true) (s : ∀ d ∈ D', d ∈ D) : disj W D' = true := by
  unfold disj at *
  rw [List.all_eq_true] at *
  intro w hw
  have := h w hw
  rw [List.all_eq_true] at *
  exact fun d hd => this d (s d hd)
theorem disj_l {W A B : List (Nat × Option Nat)} (h : disj W (A ++ B) = true) : disj W A = true := disj_sub h fun _ hd => List.mem_append_left _ hd
theorem disj_r {W A B : List (Nat × Option Nat)} (h : disj W (A ++ B) = true) : disj W B = true := disj_sub h fun _ hd => List.mem_append_right _ hd
theorem misc_of {W : List (Nat × Option Nat)} {σ τ : Ms} (F : Fr W σ τ) (hd : disj W D_frac = true) (hs : τ.1 11 17 = τ.1 0 0) (hI : I_misc σ) : I_misc τ := by
  unfold I_misc at *
  rw [(F.keep hd (In_o 0 rfl : InW D_frac 11 18)).2, (F.keep hd (In_o 1 rfl : InW D_frac 11 19)).2, (F.keep hd (In_o 2 rfl : InW D_frac 0 2)).2, (F.keep hd (In_o 3 rfl : InW D_frac 0 3)).2]
  exact ⟨hs, hI.2⟩
theorem byte_keep {W : List (Nat × Option Nat)} {σ τ : Ms} (F : Fr W σ τ) (hd : disj W D_tape = true) (hI : I_byte σ) : I_byte τ := fun j hj => by
  rw [(F.keep hd (In_a 2 rfl : InW D_tape 21 j)).1]
  exact hI j hj
theorem lived_keep {W : List (Nat × Option Nat)} {σ τ : Ms} (F : Fr W σ τ) (hd : disj W D_lived = true) (hI : I_lived σ) : I_lived τ := by
  unfold I_lived at *
  have e109 : ∀ j, τ.1 109 j = σ.1 109 j := fun j => (F.keep hd (In_a 3 rfl : InW D_lived 109 j)).1
  have e10 : ∀ j, τ.1 10 j = σ.1 10 j := fun j => (F.keep hd (In_a 2 rfl : InW D_lived 10 j)).1
  rw [(F.keep hd (In_o 0 rfl : InW D_lived 11 13)).1, (F.keep hd (In_o 1 rfl : InW D_lived 0 37)).1]
  simp only [e109, e10]
  exact hI
theorem hgc_eq {W : List (Nat × Option Nat)} {σ τ : Ms} (F : Fr W σ τ) (hd : disj W D_hgc = true) : ∀ r j, Phg r j → τ.1 (22 + r) j = σ.1 (22 + r) j := fun r j hP => by
  unfold Phg at hP
  have e0 : ∀ j, 5 ≤ j → j ≤ 11 → τ.1 22 j = σ.1 22 j := fun j h1 h2 => by
    rcases (show j = 5 ∨ j = 6 ∨ j = 7 ∨ j = 8 ∨ j = 9 ∨ j = 10 ∨ j = 11 by omega) with rfl | rfl | rfl | rfl | rfl | rfl | rfl
    · exact (F.keep hd (In_o 0 rfl : InW D_hgc 22 5)).1
    · exact (F.keep hd (In_o 1 rfl : InW D_hgc 22 6)).1
    · exact (F.keep hd (In_o 2 rfl : InW D_hgc 22 7)).1
    · exact (F.keep hd (In_o 3 rfl : InW D_hgc 22 8)).1
    · exact (F.keep hd (In_o 4 rfl : InW D_hgc 22 9)).1
    · exact (F.keep hd (In_o 5 rfl : InW D_hgc 22 10)).1
    · exact (F.keep hd (In_o 6 rfl : InW D_hgc 22 11)).1
  have e1 : ∀ j, τ.1 23 j = σ.1 23 j := fun j => (F.keep hd (In_a 7 rfl : InW D_hgc 23 j)).1
  have e2 : ∀ j, τ.1 24 j = σ.1 24 j := fun j => (F.keep hd (In_a 8 rfl : InW D_hgc 24 j)).1
  have e3 : ∀ j, τ.1 25 j = σ.1 25 j := fun j => (F.keep hd (In_a 9 rfl : InW D_hgc 25 j)).1
  have e4 : ∀ j, τ.1 26 j = σ.1 26 j := fun j => (F.keep hd (In_a 10 rfl : InW D_hgc 26 j)).1
  have e5 : ∀ j, τ.1 27 j = σ.1 27 j := fun j => (F.keep hd (In_a 11 rfl : InW D_hgc 27 j)).1
  rcases (show (r = 0 ∧ 5 ≤ j ∧ j ≤ 11) ∨ r = 1 ∨ r = 2 ∨ r = 3 ∨ r = 4 ∨ r = 5 by omega) with ⟨rfl, h1, h2⟩ | rfl | rfl | rfl | rfl | rfl
  · exact e0 j h1 h2
  · exact e1 j
  · exact e2 j
  · exact e3 j
  · exact e4 j
  · exact e5 j
theorem sec_eq {W : List (Nat × Option Nat)} {σ τ : Ms} (F : Fr W σ τ) (hd : disj W D_sec = true) : ∀ r j, Pse r j → τ.1 (62 + r) j = σ.1 (62 + r) j := fun r j hP => by
  unfold Pse at hP
  have e0 : ∀ j, j < 3 → τ.1 62 j = σ.1 62 j := fun j h1 => by
    rcases (show j = 0 ∨ j = 1 ∨ j = 2 by omega) with rfl | rfl | rfl
    · exact (F.keep hd (In_o 0 rfl : InW D_sec 62 0)).1
    · exact (F.keep hd (In_o 1 rfl : InW D_sec 62 1)).1
    · exact (F.keep hd (In_o 2 rfl : InW D_sec 62 2)).1
  have e1 : ∀ j, τ.1 63 j = σ.1 63 j := fun j => (F.keep hd (In_a 3 rfl : InW D_sec 63 j)).1
  have e2 : ∀ j, τ.1 64 j = σ.1 64 j := fun j => (F.keep hd (In_a 4 rfl : InW D_sec 64 j)).1
  have e3 : ∀ j, τ.1 65 j = σ.1 65 j := fun j => (F.keep hd (In_a 5 rfl : InW D_sec 65 j)).1
  have e4 : ∀ j, τ.1 66 j = σ.1 66 j := fun j => (F.keep hd (In_a 6 rfl : InW D_sec 66 j)).1
  have e5 : ∀ j, τ.1 67 j = σ.1 67 j := fun j => (F.keep hd (In_a 7 rfl : InW D_sec 67 j)).1
  rcases (show (r = 0 ∧ j < 3) ∨ r = 1 ∨ r = 2 ∨ r = 3 ∨ r = 4 ∨ r = 5 by omega) with ⟨rfl, h1⟩ | rfl | rfl | rfl | rfl | rfl
  · exact e0 j h1
  · exact e1 j
  · exact e2 j
  · exact e3 j
  · exact e4 j
  · exact e5 j
theorem marks_keep {W : List (Nat × Option Nat)} {σ τ : Ms} (F : Fr W σ τ) (hd : disj W D_mkc = true) (h5 : ∀ j, 356 ≤ j → j < 1424 → τ.1 5 j = σ.1 5 j) (hI : I_marks σ) : I_marks τ := by
  have c38 : ∀ j, τ.1 38 j = σ.1 38 j := fun j => (F.keep hd (In_a 2 rfl : InW D_mkc 38 j)).1
  have c39 : ∀ j, τ.1 39 j = σ.1 39 j := fun j => (F.keep hd (In_a 3 rfl : InW D_mkc 39 j)).1
  have c40 : ∀ j, τ.1 40 j = σ.1 40 j := fun j => (F.keep hd (In_a 4 rfl : InW D_mkc 40 j)).1
  have c41 : ∀ j, τ.1 41 j = σ.1 41 j := fun j => (F.keep hd (In_a 5 rfl : InW D_mkc 41 j)).1
  have c42 : ∀ j, τ.1 42 j = σ.1 42 j := fun j => (F.keep hd (In_a 6 rfl : InW D_mkc 42 j)).1
  have c43 : ∀ j, τ.1 43 j = σ.1 43 j := fun j => (F.keep hd (In_a 7 rfl : InW D_mkc 43 j)).1
  have c46 : ∀ j, τ.1 46 j = σ.1 46 j := fun j => (F.keep hd (In_a 8 rfl : InW D_mkc 46 j)).1
  have c47 : ∀ j, τ.1 47 j = σ.1 47 j := fun j => (F.keep hd (In_a 9 rfl : InW D_mkc 47 j)).1
  have c48 : ∀ j, τ.1 48 j = σ.1 48 j := fun j => (F.keep hd (In_a 10 rfl : InW D_mkc 48 j)).1
  have c49 : ∀ j, τ.1 49 j = σ.1 49 j := fun j => (F.keep hd (In_a 11 rfl : InW D_mkc 49 j)).1
  have c50 : ∀ j, τ.1 50 j = σ.1 50 j := fun j => (F.keep hd (In_a 12 rfl : InW D_mkc 50 j)).1
  have c51 : ∀ j, τ.1 51 j = σ.1 51 j := fun j => (F.keep hd (In_a 13 rfl : InW D_mkc 51 j)).1
  have c54 : ∀ j, τ.1 54 j = σ.1 54 j := fun j => (F.keep hd (In_a 14 rfl : InW D_mkc 54 j)).1
  have c55 : ∀ j, τ.1 55 j = σ.1 55 j := fun j => (F.keep hd (In_a 15 rfl : InW D_mkc 55 j)).1
  have c56 : ∀ j, τ.1 56 j = σ.1 56 j := fun j => (F.keep hd (In_a 16 rfl : InW D_mkc 56 j)).1
  have c57 : ∀ j, τ.1 57 j = σ.1 57 j := fun j => (F.keep hd (In_a 17 rfl : InW D_mkc 57 j)).1
  have c58 : ∀ j, τ.1 58 j = σ.1 58 j := fun j => (F.keep hd (In_a 18 rfl : InW D_mkc 58 j)).1
  have c59 : ∀ j, τ.1 59 j = σ.1 59 j := fun j => (F.keep hd (In_a 19 rfl : InW D_mkc 59 j)).1
  have c76 : ∀ j, τ.1 76 j = σ.1 76 j := fun j => (F.keep hd (In_a 20 rfl : InW D_mkc 76 j)).1
  have c77 : ∀ j, τ.1 77 j = σ.1 77 j := fun j => (F.keep hd (In_a 21 rfl : InW D_mkc 77 j)).1
  have c78 : ∀ j, τ.1 78 j = σ.1 78 j := fun j => (F.keep hd (In_a 22 rfl : InW D_mkc 78 j)).1
  have c79 : ∀ j, τ.1 79 j = σ.1 79 j := fun j => (F.keep hd (In_a 23 rfl : InW D_mkc 79 j)).1
  have c80 : ∀ j, τ.1 80 j = σ.1 80 j := fun j => (F.keep hd (In_a 24 rfl : InW D_mkc 80 j)).1
  have c81 : ∀ j, τ.1 81 j = σ.1 81 j := fun j => (F.keep hd (In_a 25 rfl : InW D_mkc 81 j)).1
  have c83 : ∀ j, τ.1 83 j = σ.1 83 j := fun j => (F.keep hd (In_a 26 rfl : InW D_mkc 83 j)).1
  have c84 : ∀ j, τ.1 84 j = σ.1 84 j := fun j => (F.keep hd (In_a 27 rfl : InW D_mkc 84 j)).1
  have c85 : ∀ j, τ.1 85 j = σ.1 85 j := fun j => (F.keep hd (In_a 28 rfl : InW D_mkc 85 j)).1
  have c86 : ∀ j, τ.1 86 j = σ.1 86 j := fun j => (F.keep hd (In_a 29 rfl : InW D_mkc 86 j)).1
  have c87 : ∀ j, τ.1 87 j = σ.1 87 j := fun j => (F.keep hd (In_a 30 rfl : InW D_mkc 87 j)).1
  have c88 : ∀ j, τ.1 88 j = σ.1 88 j := fun j => (F.keep hd (In_a 31 rfl : InW D_mkc 88 j)).1
  have c90 : ∀ j, τ.1 90 j = σ.1 90 j := fun j => (F.keep hd (In_a 32 rfl : InW D_mkc 90 j)).1
  have c91 : ∀ j, τ.1 91 j = σ.1 91 j := fun j => (F.keep hd (In_a 33 rfl : InW D_mkc 91 j)).1
  have c92 : ∀ j, τ.1 92 j = σ.1 92 j := fun j => (F.keep hd (In_a 34 rfl : InW D_mkc 92 j)).1
  have c93 : ∀ j, τ.1 93 j = σ.1 93 j := fun j => (F.keep hd (In_a 35 rfl : InW D_mkc 93 j)).1
  have c94 : ∀ j, τ.1 94 j = σ.1 94 j := fun j => (F.keep hd (In_a 36 rfl : InW D_mkc 94 j)).1
  have c95 : ∀ j, τ.1 95 j = σ.1 95 j := fun j => (F.keep hd (In_a 37 rfl : InW D_mkc 95 j)).1
  obtain ⟨m, hm, e14, e21, hk⟩ := hI
  refine ⟨m, hm, (F.keep hd (In_o 0 rfl : InW D_mkc 11 14)).1.trans e14, (F.keep hd (In_o 1 rfl : InW D_mkc 0 21)).1.trans e21, fun i hi => ?_⟩
  obtain ⟨hg, se⟩ := hk i hi
  rcases (show i = 0 ∨ i = 1 ∨ i = 2 by omega) with rfl | rfl | rfl
  · refine ⟨I_hg_mv hg (fun r j hP => ?_) (fun j hj => h5 _ (by omega) (by omega)), I_se_mv se (fun r j hP => ?_) (fun j h1 h2 => h5 _ (by omega) (by omega))⟩
    · unfold Phg at hP
      rcases (show r = 0 ∨ r = 1 ∨ r = 2 ∨ r = 3 ∨ r = 4 ∨ r = 5 by omega) with rfl | rfl | rfl | rfl | rfl | rfl
      · exact c38 j
      · exact c39 j
      · exact c40 j
      · exact c41 j
      · exact c42 j
      · exact c43 j
    · unfold Pse at hP
      rcases (show r = 0 ∨ r = 1 ∨ r = 2 ∨ r = 3 ∨ r = 4 ∨ r = 5 by omega) with rfl | rfl | rfl | rfl | rfl | rfl
      · exact c76 j
      · exact c77 j
      · exact c78 j
      · exact c79 j
      · exact c80 j
      · exact c81 j
  · refine ⟨I_hg_mv hg (fun r j hP => ?_) (fun j hj => h5 _ (by omega) (by omega)), I_se_mv se (fun r j hP => ?_) (fun j h1 h2 => h5 _ (by omega) (by omega))⟩
    · unfold Phg at hP
      rcases (show r = 0 ∨ r = 1 ∨ r = 2 ∨ r = 3 ∨ r = 4 ∨ r = 5 by omega) with rfl | rfl | rfl | rfl | rfl | rfl
      · exact c46 j
      · exact c47 j
      · exact c48 j
      · exact c49 j
      · exact c50 j
      · exact c51 j
    · unfold Pse at hP
      rcases (show r = 0 ∨ r = 1 ∨ r = 2 ∨ r = 3 ∨ r = 4 ∨ r = 5 by omega) with rfl | rfl | rfl | rfl | rfl | rfl
      · exact c83 j
      · exact c84 j
      · exact c85 j
      · exact c86 j
      · exact c87 j
      · exact c88 j
  · refine ⟨I_hg_mv hg (fun r j hP => ?_) (fun j hj => h5 _ (by omega) (by omega)), I_se_mv se (fun r j hP => ?_) (fun j h1 h2 => h5 _ (by omega) (by omega))⟩
    · unfold Phg at hP
      rcases (show r = 0 ∨ r = 1 ∨ r = 2 ∨ r = 3 ∨ r = 4 ∨ r = 5 by omega) with rfl | rfl | rfl | rfl | rfl | rfl
      · exact c54 j
      · exact c55 j
      · exact c56 j
      · exact c57 j
      · exact c58 j
      · exact c59 j
    · unfold Pse at hP
      rcases (show r = 0 ∨ r = 1 ∨ r = 2 ∨ r = 3 ∨ r = 4 ∨ r = 5 by omega) with rfl | rfl | rfl | rfl | rfl | rfl
      · exact c90 j
      · exact c91 j
      · exact c92 j
      · exact c93 j
      · exact c94 j
      · exact c95 j
theorem mono2 {R : Type} {o : Option (R × Ms)} {B : Ms → Option (R × Ms)} {Q Q' : R → R → Ms → Prop} (h : wp o fun r t => wp (B t) fun r' t' => Q r r' t') (g : ∀ r r' t', Q r r' t' → Q' r r' t') : wp o fun r t => wp (B t) fun r' t' => Q' r r' t' := wp_mono h fun r t h' => wp_mono h' fun r' t' q => g r r' t' q
theorem far_of {W : List (Nat × Option Nat)} {σ τ : Ms} (F : Fr W σ τ) (hd : disj W D_far = true) (h5 : ∀ j, 84 ≤ j → j < 1424 → τ.1 5 j = σ.1 5 j) (hI : Inv σ) (m : I_misc τ) (tr : I_tray τ) (hg : I_hg 0 22 τ) : Inv τ := by
  obtain ⟨-, -, ta, by8, fa, -, se, ma, li⟩ := hI
  have d1 := disj_l hd
  have d2 := disj_r hd
  have d3 := disj_r d2
  have d4 := disj_r d3
  exact ⟨m, tr, I_tape_keep F d1 ta, byte_keep F d1 by8, I_fault_keep F (disj_l d2) fa, hg, I_se_mv se (sec_eq F (disj_l d4)) (fun j h1 h2 => h5 _ (by omega) (by omega)), marks_keep F (disj_r d4) (fun j h1 h2 => h5 _ (by omega) h2) ma, lived_keep F (disj_l d3) li⟩
theorem ro_of {W : List (Nat × Option Nat)} {σ τ : Ms} (F : Fr W σ τ) (hd : disj W D_ro = true) (hI : Inv σ) (m : I_misc τ) : Inv τ := by
  have d1 := disj_r hd
  have d2 := disj_r d1
  have five : ∀ j, τ.1 5 j = σ.1 5 j := fun j => (F.keep (disj_r d2) (In_a 0 rfl : InW D_five 5 j)).1
  exact far_of F (disj_l d1) (fun j _ _ => five j) hI m (I_tray_keep F (disj_l hd) hI.2.1) (I_hg_mv hI.2.2.2.2.2.1 (hgc_eq F (disj_l d2)) (fun j _ => five _))
theorem de_of {W : List (Nat × Option Nat)} {σ τ : Ms} (F : Fr W σ τ) (hd : disj W D_far = true) (ht : disj W D_tray = true) (hf : disj W D_frac = true) (hI : Inv σ) (h : DE σ τ) : Inv τ := far_of F hd (fun j h1 _ => h.2.2 j h1) hI (misc_of F hf h.1 hI.1) (I_tray_keep F ht hI.2.1) h.2.1
theorem I_hg.sp {σ : Ms} (h : I_hg 0 22 σ) : I_sp 0 22 σ ∧ I_bt 0 22 σ ∧ I_ct 0 22 σ ∧ I_heaps 0 22 σ := by
  obtain ⟨H, w, c, m, x⟩ := h
  refine ⟨⟨_, _, _, _, w.1, c.1, m.1⟩, ⟨_, _, _, _, _, w.2.2, c.2.2, m.2.2⟩, x, gm H, w.2.1.1, c.2.1.1, m.2.1.1, fun i hi => ⟨gh H i, w.2.1.2 i hi, c.2.1.2 i hi, ?_⟩⟩
  have := m.2.1.2 i hi
  rw [Nat.mul_zero, Nat.zero_add]
  rwa [Nat.zero_add] at this
theorem Inv_0 : Inv σ0 := by
  refine ⟨I0_misc, I0_tray, I0_tape, I0_byte, I0_fault, ⟨H00, PH_0.1, ⟨⟨by decide +kernel, by decide +kernel, fun i hi => absurd hi (Nat.not_lt_zero i)⟩, ⟨by decide +kernel, fun i hi => absurd hi (Nat.not_lt_zero i)⟩, by decide +kernel, by decide +kernel, by decide +kernel, fun i hi => absurd hi (Nat.not_lt_zero i)⟩, ⟨⟨by decide +kernel, fun i hi => absurd hi (Nat.not_lt_zero i)⟩, ⟨by decide +kernel, fun i hi => absurd hi (Nat.not_lt_zero i)⟩, by decide +kernel, by decide +kernel, fun i hi => absurd hi (Nat.not_lt_zero i)⟩, by decide +kernel⟩, Or.inl ⟨by decide +kernel, by decide +kernel⟩, ⟨0, by omega, by decide +kernel, by decide +kernel, fun i hi => absurd hi (Nat.not_lt_zero i)⟩, Or.inl ⟨by decide +kernel, by decide +kernel⟩⟩
theorem C_nimOf {N : Nat} (hN : 50000 < N) : Call_nimOf N Inv := fun p0 σ hI => mono2 (FR_app (R_nimOf (by omega) p0 σ hI.2.2.2.2.2.1) (fr_F11_nimOf N p0 σ) (fun t => fr_F12_nimOf N p0 t)) fun r r' t' h => ⟨h.1.1, ro_of h.2 (by decide +kernel) hI (misc_of h.2 (by decide +kernel) h.1.2 hI.1)⟩
theorem C_compare {N : Nat} (hN : 50000 < N) : Call_compare N Inv := fun p0 p1 σ hI => mono2 (FR_app (R_compare (by omega) p0 p1 σ hI.2.2.2.2.2.1) (fr_F11_compare N p0 p1 σ) (fun t => fr_F12_compare N p0 p1 t)) fun r r' t' h => ⟨h.1.1, ro_of h.2 (by decide +kernel) hI (misc_of h.2 (by decide +kernel) h.1.2 hI.1)⟩
theorem C_outcome {N : Nat} (hN : 50000 < N) : Call_outcome N Inv := fun σ hI => mono2 (FR_app (R_outcome (by omega)  σ hI.2.2.2.2.2.1) (fr_F11_outcome N σ) (fun t => fr_F12_outcome N t)) fun r r' t' h => ⟨h.1.1, ro_of h.2 (by decide +kernel) hI (misc_of h.2 (by decide +kernel) h.1.2 hI.1)⟩
theorem C_winner {N : Nat} (hN : 50000 < N) : Call_winner N Inv := fun p0 σ hI => mono2 (FR_app (R_winner (by omega) p0 σ hI.2.2.2.2.2.1) (fr_F11_winner N p0 σ) (fun t => fr_F12_winner N p0 t)) fun r r' t' h => ⟨h.1.1, ro_of h.2 (by decide +kernel) hI (misc_of h.2 (by decide +kernel) h.1.2 hI.1)⟩
theorem C_moves {N : Nat} (hN : 50000 < N) : Call_moves N Inv := fun p0 σ hI => mono2 (FR_app (R_moves (by omega) p0 σ hI.2.2.2.2.2.1) (fr_F11_moves N p0 σ) (fun t => fr_F12_moves N p0 t)) fun r r' t' h => ⟨h.1.1, ro_of h.2 (by decide +kernel) hI (misc_of h.2 (by decide +kernel) h.1.2 hI.1)⟩
theorem C_wins {N : Nat} (hN : 50000 < N) : Call_wins N Inv := fun p0 σ hI => mono2 (FR_app (R_wins (by omega) p0 σ hI.2.2.2.2.2.1) (fr_F11_wins N p0 σ) (fun t => fr_F12_wins N p0 t)) fun r r' t' h => ⟨h.1.1, ro_of h.2 (by decide +kernel) hI (misc_of h.2 (by decide +kernel) h.1.2 hI.1)⟩
theorem C_bestOf {N : Nat} (hN : 50000 < N) : Call_bestOf N Inv := fun p0 p1 σ hI => mono2 (FR_app (R_bestOf (by omega) p0 p1 σ hI.2.2.2.2.2.1) (fr_F11_bestOf N p0 p1 σ) (fun t => fr_F12_bestOf N p0 p1 t)) fun r r' t' h => ⟨h.1.1, ro_of h.2 (by decide +kernel) hI (misc_of h.2 (by decide +kernel) h.1.2 hI.1)⟩
theorem C_hottest {N : Nat} (hN : 50000 < N) : Call_hottest N Inv := fun σ hI => mono2 (FR_app (R_hottest (by omega)  σ hI.2.2.2.2.2.1) (fr_F11_hottest N σ) (fun t => fr_F12_hottest N t)) fun r r' t' h => ⟨h.1.1, ro_of h.2 (by decide +kernel) hI (misc_of h.2 (by decide +kernel) h.1.2 hI.1)⟩
theorem C_colourings {N : Nat} (hN : 50000 < N) : Call_colourings N Inv := fun p0 p1 p2 σ hI => mono2 (FR_app (R_colourings (by omega) p0 p1 p2 σ hI.2.2.2.2.2.1) (fr_F11_colourings N p0 p1 p2 σ) (fun t => fr_F12_colourings N p0 p1 p2 t)) fun r r' t' h => ⟨h.1.1, ro_of h.2 (by decide +kernel) hI (misc_of h.2 (by decide +kernel) h.1.2 hI.1)⟩
theorem C_firstRed {N : Nat} (hN : 50000 < N) : Call_firstRed N Inv := fun p0 p1 p2 σ hI => mono2 (FR_app (R_firstRed (by omega) p0 p1 p2 σ hI.2.2.2.2.2.1) (fr_F11_firstRed N p0 p1 p2 σ) (fun t => fr_F12_firstRed N p0 p1 p2 t)) fun r r' t' h => ⟨h.1.1, ro_of h.2 (by decide +kernel) hI (misc_of h.2 (by decide +kernel) h.1.2 hI.1)⟩
theorem C_ask {N : Nat} (hN : 50000 < N) : Call_ask N Inv := fun p0 p1 p2 σ hI => mono2 (FR_app (R_ask (by omega) p0 p1 p2 σ hI.2.2.2.2.2.1) (fr_F11_ask N p0 p1 p2 σ) (fun t => fr_F12_ask N p0 p1 p2 t)) fun r r' t' h => ⟨h.1.1, ro_of h.2 (by decide +kernel) hI (misc_of h.2 (by decide +kernel) h.1.2 hI.1)⟩
theorem C_balance {N : Nat} (hN : 50000 < N) : Call_balance N Inv := fun σ hI => mono2 (FR_app (R_balance (by omega)  σ hI.2.2.2.2.2.1) (fr_F11_balance N σ) (fun t => fr_F12_balance N t)) fun r r' t' h => ⟨h.1.1, ro_of h.2 (by decide +kernel) hI (misc_of h.2 (by decide +kernel) h.1.2 hI.1)⟩
theorem C_balanceSet {N : Nat} (hN : 50000 < N) : Call_balanceSet N Inv := fun σ hI => mono2 (FR_app (R_balanceSet (by omega)  σ hI.2.2.2.2.2.1) (fr_F11_balanceSet N σ) (fun t => fr_F12_balanceSet N t)) fun r r' t' h => ⟨h.1.1, ro_of h.2 (by decide +kernel) hI (misc_of h.2 (by decide +kernel) h.1.2 hI.1)⟩
theorem C_nimber {N : Nat} (hN : 50000 < N) : Call_nimber N Inv := fun σ hI => mono2 (FR_app (R_nimber (by omega) σ hI.1 hI.2.2.2.2.2.1) (fr_F11_nimber N σ) (fun t => fr_F12_nimber N t)) fun r r' t' h => ⟨h.1.1, ro_of h.2 (by decide +kernel) hI (misc_of h.2 (by decide +kernel) h.1.2 hI.1)⟩
theorem C_birthday {N : Nat} (hN : 50000 < N) : Call_birthday N Inv := fun p0 p1 σ hI => mono2 (FR_app (R_birthday (by omega) p0 p1 σ) (fr_F11_birthday p0 p1 σ) (fun t => fr_F12_birthday N p0 p1 t)) fun r r' t' h => ⟨h.1.1, ro_of h.2 (by decide +kernel) hI (misc_of h.2 (by decide +kernel) h.1.2 hI.1)⟩
theorem C_stalkAt {N : Nat} (hN : 50000 < N) : Call_stalkAt N Inv := fun p0 p1 p2 σ hI => mono2 (FR_app (R_stalkAt (by omega) p0 p1 p2 σ) (fr_F11_stalkAt N p0 p1 p2 σ) (fun t => fr_F12_stalkAt N p0 p1 p2 t)) fun r r' t' h => ⟨h.1.1, ro_of h.2 (by decide +kernel) hI (misc_of h.2 (by decide +kernel) h.1.2 hI.1)⟩
theorem C_lived {N : Nat} (hN : 50000 < N) : Call_lived N Inv := fun p0 σ hI => mono2 (FR_app (R_lived p0 σ hI.2.2.2.2.2.2.2.2) (fr_F11_lived p0 σ) (fun t => fr_F12_lived p0 t)) fun r r' t' h => ⟨h.1.1, ro_of h.2 (by decide +kernel) hI (misc_of h.2 (by decide +kernel) h.1.2 hI.1)⟩
theorem C_many {N : Nat} (hN : 50000 < N) : Call_many N Inv := fun p0 σ hI => mono2 (FR_app (R_many (by omega) p0 σ (I_hg.sp hI.2.2.2.2.2.1).1 (I_hg.sp hI.2.2.2.2.2.1).2.2.2 (I_hg.sp hI.2.2.2.2.2.1).2.1 (I_hg.sp hI.2.2.2.2.2.1).2.2.1) (fr_F11_many p0 σ) (fun t => fr_F12_many N p0 t)) fun r r' t' h => ⟨h.1.1, ro_of h.2 (by decide +kernel) hI (misc_of h.2 (by decide +kernel) h.1.2 hI.1)⟩
theorem C_sprig {N : Nat} (hN : 50000 < N) : Call_sprig N Inv := fun p0 p1 σ hI => mono2 (FR_app (R_sprig (by omega) p0 p1 σ (I_hg.sp hI.2.2.2.2.2.1).1) (fr_F11_sprig N p0 p1 σ) (fun t => fr_F12_sprig N p0 p1 t)) fun r r' t' h => ⟨h.1.1, ro_of h.2 (by decide +kernel) hI (misc_of h.2 (by decide +kernel) h.1.2 hI.1)⟩
theorem C_bet {N : Nat} (hN : 50000 < N) : Call_bet N Inv := fun p0 p1 σ hI => mono2 (FR_app (R_bet p0 p1 σ (I_hg.sp hI.2.2.2.2.2.1).2.1) (fr_F11_bet p0 p1 σ) (fun t => fr_F12_bet p0 p1 t)) fun r r' t' h => ⟨h.1.1, ro_of h.2 (by decide +kernel) hI (misc_of h.2 (by decide +kernel) h.1.2 hI.1)⟩
theorem C_worthOf {N : Nat} (hN : 50000 < N) : Call_worthOf N Inv := fun p0 σ hI => mono2 (FR_app (R_worthOf (by omega) p0 σ hI.1 hI.2.2.2.2.2.1) (fr_F11_worthOf N p0 σ) (fun t => fr_F12_worthOf N p0 t)) fun r r' t' h => ⟨h.1.1, ro_of h.2 (by decide +kernel) hI h.1.2⟩
theorem C_stop {N : Nat} (hN : 50000 < N) : Call_stop N Inv := fun p0 σ hI => mono2 (FR_app (R_stop (by omega) p0 σ hI.1 hI.2.2.2.2.2.1) (fr_F11_stop N p0 σ) (fun t => fr_F12_stop N p0 t)) fun r r' t' h => ⟨h.1.1, ro_of h.2 (by decide +kernel) hI h.1.2⟩
theorem C_heat {N : Nat} (hN : 50000 < N) : Call_heat N Inv := fun p0 p1 σ hI => mono2 (FR_app (R_heat (by omega) p0 p1 σ hI.1 hI.2.2.2.2.2.1) (fr_F11_heat N p0 p1 σ) (fun t => fr_F12_heat N p0 p1 t)) fun r r' t' h => ⟨h.1.1, ro_of h.2 (by decide +kernel) hI h.1.2⟩
theorem C_oddsBlue {N : Nat} (hN : 50000 < N) : Call_oddsBlue N Inv := fun p0 p1 p2 p3 σ hI => mono2 (FR_app (R_oddsBlue (by omega) p0 p1 p2 p3 σ hI.1 hI.2.2.2.2.2.1) (fr_F11_oddsBlue N p0 p1 p2 p3 σ) (fun t => fr_F12_oddsBlue N p0 p1 p2 p3 t)) fun r r' t' h => ⟨h.1.1, ro_of h.2 (by decide +kernel) hI h.1.2⟩
theorem C_luck {N : Nat} (hN : 50000 < N) : Call_luck N Inv := fun p0 σ hI => mono2 (FR_app (R_luck (by omega) p0 σ hI.1 hI.2.2.2.2.2.1) (fr_F11_luck N p0 σ) (fun t => fr_F12_luck N p0 t)) fun r r' t' h => ⟨h.1.1, ro_of h.2 (by decide +kernel) hI h.1.2⟩
theorem C_worth {N : Nat} (hN : 50000 < N) : Call_worth N Inv := fun σ hI => mono2 (FR_app (R_worth (by omega) σ hI.2.2.2.2.2.1) (fr_F11_worth N σ) (fun t => fr_F12_worth N t)) fun r r' t' h => ⟨h.1.1, ro_of h.2 (by decide +kernel) hI h.1.2⟩
theorem C_simplest {N : Nat} (hN : 50000 < N) : Call_simplest N Inv := fun p0 p1 p2 p3 σ hI => mono2 (FR_app (R_simplest (by omega) p0 p1 p2 p3 σ hI.1) (fr_F11_simplest N p0 p1 p2 p3 σ) (fun t => fr_F12_simplest N p0 p1 p2 p3 t)) fun r r' t' h => ⟨h.1.1, ro_of h.2 (by decide +kernel) hI h.1.2⟩
theorem C_stalkWorth {N : Nat} (hN : 50000 < N) : Call_stalkWorth N Inv := fun p0 p1 σ hI => mono2 (FR_app (R_stalkWorth (by omega) p0 p1 σ hI.1 hI.2.1) (fr_F11_stalkWorth N p0 p1 σ) (fun t => fr_F12_stalkWorth N p0 p1 t)) fun r r' t' h => ⟨h.1.1, ro_of h.2 (by decide +kernel) hI h.1.2⟩
theorem C_heap {N : Nat} (hN : 50000 < N) : Call_heap N Inv := fun p0 σ hI => mono2 (FR_app (k_heap p0 σ hI.1 (I_hg.sp hI.2.2.2.2.2.1).2.2.2) (fr_F11_heap p0 σ) (fun t => fr_F12_heap p0 t)) fun r r' t' h => ⟨h.1.1, ro_of h.2 (by decide +kernel) hI h.1.2.1⟩
theorem C_status {N : Nat} (hN : 50000 < N) : Call_status N Inv := fun σ hI => mono2 (FR_app (c_status σ hI.1) (fr_F11_status σ) (fun t => fr_F12_status t)) fun r r' t' h => ⟨h.1.1, ro_of h.2 (by decide +kernel) hI h.1.2⟩
theorem C_top {N : Nat} (hN : 50000 < N) : Call_top N Inv := fun σ hI => mono2 (FR_app (c_top σ hI.1) (fr_F11_top σ) (fun t => fr_F12_top t)) fun r r' t' h => ⟨h.1.1, ro_of h.2 (by decide +kernel) hI h.1.2⟩
theorem C_bottom {N : Nat} (hN : 50000 < N) : Call_bottom N Inv := fun σ hI => mono2 (FR_app (c_bottom σ hI.1) (fr_F11_bottom σ) (fun t => fr_F12_bottom t)) fun r r' t' h => ⟨h.1.1, ro_of h.2 (by decide +kernel) hI h.1.2⟩
theorem C_cut {N : Nat} (hN : 50000 < N) : Call_cut N Inv := fun p0 p1 σ hI => mono2 (FR_app (D_cut (by omega) p0 p1 σ hI.2.2.2.2.2.1) (fr_F11_cut N p0 p1 σ) (fun t => fr_F12_cut N p0 p1 t)) fun r r' t' h => ⟨h.1.1, de_of h.2 (by decide +kernel) (by decide +kernel) (by decide +kernel) hI h.1.2⟩
theorem C_take {N : Nat} (hN : 50000 < N) : Call_take N Inv := fun p0 p1 σ hI => mono2 (FR_app (D_take p0 p1 σ hI.2.2.2.2.2.1) (fr_F11_take p0 p1 σ) (fun t => fr_F12_take p0 p1 t)) fun r r' t' h => ⟨h.1.1, de_of h.2 (by decide +kernel) (by decide +kernel) (by decide +kernel) hI h.1.2⟩
theorem C_less {N : Nat} (hN : 50000 < N) : Call_less N Inv := fun p0 p1 σ hI => mono2 (FR_app (D_less (by omega) p0 p1 σ hI.2.2.2.2.2.1) (fr_F11_less N p0 p1 σ) (fun t => fr_F12_less N p0 p1 t)) fun r r' t' h => ⟨h.1.1, de_of h.2 (by decide +kernel) (by decide +kernel) (by decide +kernel) hI h.1.2⟩
theorem C_spend {N : Nat} (hN : 50000 < N) : Call_spend N Inv := fun p0 σ hI => mono2 (FR_app (D_spend p0 σ hI.2.2.2.2.2.1) (fr_F11_spend p0 σ) (fun t => fr_F12_spend p0 t)) fun r r' t' h => ⟨h.1.1, de_of h.2 (by decide +kernel) (by decide +kernel) (by decide +kernel) hI h.1.2⟩
theorem C_grow {N : Nat} (hN : 50000 < N) : Call_grow N Inv := fun p0 p1 σ hI => mono2 (FR_app (D_grow p0 p1 σ hI.2.2.2.2.2.1) (fr_F11_grow p0 p1 σ) (fun t => fr_F12_grow p0 p1 t)) fun r r' t' h => ⟨h.1.1, de_of h.2 (by decide +kernel) (by decide +kernel) (by decide +kernel) hI h.1.2⟩
theorem C_paint {N : Nat} (hN : 50000 < N) : Call_paint N Inv := fun p0 σ hI => mono2 (FR_app (D_paint p0 σ hI.2.2.2.2.2.1) (fr_F11_paint p0 σ) (fun t => fr_F12_paint p0 t)) fun r r' t' h => ⟨h.1.1, de_of h.2 (by decide +kernel) (by decide +kernel) (by decide +kernel) hI h.1.2⟩
theorem C_pile {N : Nat} (hN : 50000 < N) : Call_pile N Inv := fun p0 σ hI => mono2 (FR_app (D_pile p0 σ hI.2.2.2.2.2.1) (fr_F11_pile p0 σ) (fun t => fr_F12_pile p0 t)) fun r r' t' h => ⟨h.1.1, de_of h.2 (by decide +kernel) (by decide +kernel) (by decide +kernel) hI h.1.2⟩
theorem C_offer {N : Nat} (hN : 50000 < N) : Call_offer N Inv := fun p0 p1 σ hI => mono2 (FR_app (D_offer p0 p1 σ hI.2.2.2.2.2.1) (fr_F11_offer p0 p1 σ) (fun t => fr_F12_offer p0 p1 t)) fun r r' t' h => ⟨h.1.1, de_of h.2 (by decide +kernel) (by decide +kernel) (by decide +kernel) hI h.1.2⟩
theorem tr_of {W : List (Nat × Option Nat)} {σ τ : Ms} (F : Fr W σ τ) (hd : disj W (D_far ++ (D_hgc ++ D_five)) = true) (hI : Inv σ) (m : I_misc τ) (tr : I_tray τ) : Inv τ := by
  have d2 := disj_r hd
  have five : ∀ j, τ.1 5 j = σ.1 5 j := fun j => (F.keep (disj_r d2) (In_a 0 rfl : InW D_five 5 j)).1
  exact far_of F (disj_l hd) (fun j _ _ => five j) hI m tr (I_hg_mv hI.2.2.2.2.2.1 (hgc_eq F (disj_l d2)) (fun j _ => five _))
theorem C_tray {N : Nat} (hN : 50000 < N) : Call_tray N Inv := fun p0 p1 p2 σ hI => mono2 (FR_app (k_tray N (by omega) p0 p1 p2 σ hI.1 hI.2.1) (fr_F11_tray N p0 p1 p2 σ) (fun t => fr_F12_tray N p0 p1 p2 t)) fun r r' t' h => ⟨h.1.1, tr_of h.2 (by decide +kernel) hI h.1.2.1 h.1.2.2⟩
theorem C_pour {N : Nat} (hN : 50000 < N) : Call_pour N Inv := fun p0 p1 p2 p3 p4 σ hI => mono2 (FR_app (k_pour N (by omega) p0 p1 p2 p3 p4 σ hI.1 hI.2.1) (fr_F11_pour p0 p1 p2 p3 p4 σ) (fun t => fr_F12_pour N p0 p1 p2 p3 p4 t)) fun r r' t' h => ⟨h.1.1, tr_of h.2 (by decide +kernel) hI h.1.2.1 h.1.2.2⟩
theorem C_write {N : Nat} (hN : 50000 < N) : Call_write N Inv := fun p0 p1 p2 σ hI => mono2 (FR_app (k_write p0 p1 p2 σ hI.1 hI.2.1) (fr_F11_write p0 p1 p2 σ) (fun t => fr_F12_write p0 p1 p2 t)) fun r r' t' h => ⟨h.1.1, tr_of h.2 (by decide +kernel) hI h.1.2.1 h.1.2.2⟩
theorem C_read {N : Nat} (hN : 50000 < N) : Call_read N Inv := fun p0 p1 σ hI => mono2 (FR_app (k_read p0 p1 σ hI.1 hI.2.1) (fr_F11_read p0 p1 σ) (fun t => fr_F12_read p0 p1 t)) fun r r' t' h => ⟨h.1.1, tr_of h.2 (by decide +kernel) hI h.1.2.1 h.1.2.2⟩
theorem C_copyColours {N : Nat} (hN : 50000 < N) : Call_copyColours N Inv := fun p0 σ hI => mono2 (FR_app (R_copyColours (by omega) p0 σ hI.2.1 hI.2.2.2.2.2.1) (fr_F11_copyColours N p0 σ) (fun t => fr_F12_copyColours N p0 t)) fun r r' t' h => ⟨h.1.1, tr_of h.2 (by decide +kernel) hI (misc_of h.2 (by decide +kernel) h.1.2.1 hI.1) h.1.2.2⟩
def D_cls : List (Nat × Option Nat) := D_lived ++ (D_sec ++ D_mkc)
theorem cls_of {W : List (Nat × Option Nat)} {σ τ : Ms} (F : Fr W σ τ) (hd : disj W (D_tray ++ (D_cls ++ (D_hgc ++ D_five))) = true) (hI : Inv σ) (m : I_misc τ) (ta : I_tape τ) (by8 : I_byte τ) (fa : I_fault τ) : Inv τ := by
  have d1 := disj_r hd
  have d2 := disj_r d1
  have dc := disj_l d1
  have dc2 := disj_r dc
  have five : ∀ j, τ.1 5 j = σ.1 5 j := fun j => (F.keep (disj_r d2) (In_a 0 rfl : InW D_five 5 j)).1
  obtain ⟨-, tr, -, -, -, hg, se, ma, li⟩ := hI
  exact ⟨m, I_tray_keep F (disj_l hd) tr, ta, by8, fa, I_hg_mv hg (hgc_eq F (disj_l d2)) (fun j _ => five _), I_se_mv se (sec_eq F (disj_l dc2)) (fun j _ _ => five _), marks_keep F (disj_r dc2) (fun j _ _ => five _) ma, lived_keep F (disj_l dc) li⟩
theorem C_feed {N : Nat} (hN : 50000 < N) : Call_feed N Inv := fun p0 p1 p2 p3 p4 σ hI => by
  have b := k_byte N (by omega) p0 p1 p2 p3 p4 σ hI.2.2.1 hI.2.2.2.1
  have m := FR_app (k_feed N (by omega) p0 p1 p2 p3 p4 σ hI.2.2.1) (fr_F11_feed N p0 p1 p2 p3 p4 σ) (fun t => fr_F12_feed N p0 p1 p2 p3 p4 t)
  refine wp_mono (wp_and m b) fun r t h => wp_mono (wp_fr h.1 (fr_F12_feed N p0 p1 p2 p3 p4 t)) fun r' t' q => ⟨q.1.1.1, ?_⟩
  have by8 : I_byte t' := fun j hj => by
    rw [(q.2.keep (D := [(21, none)]) rfl (In_a 0 rfl)).1]
    exact h.2 j hj
  exact cls_of q.1.2 (by decide +kernel) hI (I_misc_keep q.1.2 (by decide +kernel) hI.1) q.1.1.2 by8 (I_fault_keep q.1.2 (by decide +kernel) hI.2.2.2.2.1)
theorem C_fault {N : Nat} (hN : 50000 < N) : Call_fault N Inv := fun p0 σ hI => mono2 (FR_app (k_fault p0 σ hI.2.2.2.2.1) (fr_F11_fault p0 σ) (fun t => fr_F12_fault p0 t)) fun r r' t' h => ⟨h.1.1, ro_of h.2 (by decide +kernel) hI (I_misc_keep h.2 (by decide +kernel) hI.1)⟩
theorem tx_of {W : List (Nat × Option Nat)} {σ τ : Ms} (F : Fr W σ τ) (hd : disj W (D_tray ++ (D_lived ++ (D_mkc ++ (D_byte ++ D_frac)))) = true) (hI : Inv σ) (h : τ.1 11 17 = τ.1 0 0 ∧ I_hg 0 22 τ ∧ I_se 0 62 τ ∧ I_tape τ ∧ I_fault τ ∧ K356 σ τ) : Inv τ := by
  have d1 := disj_r hd
  have d2 := disj_r d1
  have d3 := disj_r d2
  obtain ⟨h1, h2, h3, h4, h5, h6⟩ := h
  exact ⟨misc_of F (disj_r d3) h1 hI.1, I_tray_keep F (disj_l hd) hI.2.1, h4, fun j hj => by rw [(F.keep (disj_l d3) (In_a 0 rfl : InW D_byte 21 j)).1]; exact hI.2.2.2.1 j hj, h5, h2, h3, marks_keep F (disj_l d2) h6 hI.2.2.2.2.2.2.2.1, lived_keep F (disj_l d1) hI.2.2.2.2.2.2.2.2⟩
theorem C_hedge {N : Nat} (hN : 50000 < N) : Call_hedge N Inv := fun p0 σ hI => mono2 (FR_app (R_hedge (by omega) p0 σ hI.2.2.2.2.2.1 hI.2.2.2.2.2.2.1 hI.2.2.1 hI.2.2.2.1 hI.2.2.2.2.1) (fr_F11_hedge N p0 σ) (fun t => fr_F12_hedge N p0 t)) fun r r' t' h => ⟨h.1.1, tx_of h.2 (by decide +kernel) hI h.1.2⟩
theorem C_seasons {N : Nat} (hN : 50000 < N) : Call_seasons N Inv := fun p0 σ hI => mono2 (FR_app (R_seasons (by omega) p0 σ hI.2.2.2.2.2.1 hI.2.2.2.2.2.2.1 hI.2.2.1 hI.2.2.2.1 hI.2.2.2.2.1) (fr_F11_seasons N p0 σ) (fun t => fr_F12_seasons N p0 t)) fun r r' t' h => ⟨h.1.1, tx_of h.2 (by decide +kernel) hI h.1.2⟩
theorem C_live {N : Nat} (hN : 50000 < N) : Call_live N Inv := fun p0 σ hI => by
  have m := FR_app (R_live (by omega) p0 σ hI.2.2.2.2.2.1 hI.2.2.2.2.2.2.1 hI.2.2.2.2.2.2.2.2) (fr_F11_live N p0 σ) (fun t => fr_F12_live N p0 t)
  refine mono2 m fun r r' t' h => ⟨h.1.1, ?_⟩
  obtain ⟨⟨-, h1, h2, h3, h4⟩, F⟩ := h
  have d : disj (W11_live ++ W12_live) (D_tray ++ (D_tape ++ (D_fault ++ (D_sec ++ (D_mkc ++ D_frac))))) = true := by decide +kernel
  have d1 := disj_r d
  have d2 := disj_r d1
  have d3 := disj_r d2
  have d4 := disj_r d3
  exact ⟨misc_of F (disj_r d4) h1 hI.1, I_tray_keep F (disj_l d) hI.2.1, I_tape_keep F (disj_l d1) hI.2.2.1, byte_keep F (disj_l d1) hI.2.2.2.1, I_fault_keep F (disj_l d2) hI.2.2.2.2.1, h2, I_se_mv hI.2.2.2.2.2.2.1 (sec_eq F (disj_l d3)) (fun j a b => h3 _ (by omega)), marks_keep F (disj_l d4) (fun j a b => h3 _ (by omega)) hI.2.2.2.2.2.2.2.1, h4⟩
theorem C_mean {N : Nat} (hN : 50000 < N) : Call_mean N Inv := fun p0 p1 σ hI => mono2 (FR_app (R_mean (by omega) p0 p1 σ hI.1 hI.2.2.2.2.2.1 hI.2.2.2.2.2.2.1) (fr_F11_mean N p0 p1 σ) (fun t => fr_F12_mean N p0 p1 t)) fun r r' t' h => ⟨h.1.1, far_of h.2 (by decide +kernel) (fun j a _ => h.1.2.2.2 j a) hI h.1.2.1 (I_tray_keep h.2 (by decide +kernel) hI.2.1) h.1.2.2.1⟩
theorem mk_of {W : List (Nat × Option Nat)} {σ τ : Ms} (F : Fr W σ τ) (hd : disj W (D_tray ++ (D_tape ++ (D_fault ++ (D_lived ++ D_frac)))) = true) (hI : Inv σ) (h : τ.1 11 17 = τ.1 0 0 ∧ I_hg 0 22 τ ∧ I_se 0 62 τ ∧ I_marks τ) : Inv τ := by
  have d1 := disj_r hd
  have d2 := disj_r d1
  have d3 := disj_r d2
  exact ⟨misc_of F (disj_r d3) h.1 hI.1, I_tray_keep F (disj_l hd) hI.2.1, I_tape_keep F (disj_l d1) hI.2.2.1, byte_keep F (disj_l d1) hI.2.2.2.1, I_fault_keep F (disj_l d2) hI.2.2.2.2.1, h.2.1, h.2.2.1, h.2.2.2, lived_keep F (disj_l d3) hI.2.2.2.2.2.2.2.2⟩
theorem C_mark {N : Nat} (hN : 50000 < N) : Call_mark N Inv := fun σ hI => mono2 (FR_app (R_mark (by omega) σ hI.2.2.2.2.2.1 hI.2.2.2.2.2.2.1 hI.2.2.2.2.2.2.2.1) (fr_F11_mark N σ) (fun t => fr_F12_mark N t)) fun r r' t' h => ⟨h.1.1, mk_of h.2 (by decide +kernel) hI h.1.2⟩
theorem C_back {N : Nat} (hN : 50000 < N) : Call_back N Inv := fun σ hI => mono2 (FR_app (R_back (by omega) σ hI.2.2.2.2.2.1 hI.2.2.2.2.2.2.1 hI.2.2.2.2.2.2.2.1) (fr_F11_back N σ) (fun t => fr_F12_back N t)) fun r r' t' h => ⟨h.1.1, mk_of h.2 (by decide +kernel) hI h.1.2⟩
theorem all_calls {N : Nat} (hN : 50000 < N) : Calls N Inv := ⟨C_status hN, C_top hN, C_bottom hN, C_tray hN, C_write hN, C_read hN, C_pour hN, C_feed hN, C_hedge hN, C_seasons hN, C_fault hN, C_many hN, C_sprig hN, C_heap hN, C_bet hN, C_copyColours hN, C_cut hN, C_take hN, C_less hN, C_spend hN, C_grow hN, C_paint hN, C_pile hN, C_offer hN, C_worth hN, C_worthOf hN, C_nimber hN, C_nimOf hN, C_compare hN, C_outcome hN, C_winner hN, C_moves hN, C_wins hN, C_bestOf hN, C_stop hN, C_hottest hN, C_heat hN, C_simplest hN, C_birthday hN, C_stalkAt hN, C_stalkWorth hN, C_colourings hN, C_firstRed hN, C_oddsBlue hN, C_ask hN, C_balance hN, C_balanceSet hN, C_luck hN, C_live hN, C_lived hN, C_mean hN, C_mark hN, C_back hN⟩
theorem law_pure (L : Nat) (xs : Nat → Int32) (hL : L ≤ 3072) : ∃ (N : Nat) (τ : Ms), FL_law N L xs σ0 = some (1, τ) := by
  obtain ⟨r, τ, e, rfl⟩ := law_of (N := 100000) (xs := xs) hL (by omega) (all_calls (by omega)) Inv_0
  exact ⟨100000, τ, e⟩
