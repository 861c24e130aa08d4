def D_tape : List (Nat × Option Nat) := [(20, some 1), (0, some 8), (21, none), (4, none)]
def D_fault : List (Nat × Option Nat) := [(11, some 15), (11, some 16), (0, some 10), (0, some 11)]
theorem I_tape_keep {W : List (Nat × Option Nat)} {σ τ : Ms} (h : Fr W σ τ) (hd : disj W D_tape = true) (hI : I_tape σ) : I_tape τ := by
  unfold I_tape at *
  rw [(h.keep hd (In_o 0 rfl : InW D_tape 20 1)).1, (h.keep hd (In_o 1 rfl : InW D_tape 0 8)).1]
  exact ⟨hI.1, fun j hj => by rw [(h.keep hd (In_a 2 rfl : InW D_tape 21 j)).1, (h.keep hd (In_a 3 rfl : InW D_tape 4 j)).1]; exact hI.2 j hj⟩
theorem I_fault_keep {W : List (Nat × Option Nat)} {σ τ : Ms} (h : Fr W σ τ) (hd : disj W D_fault = true) (hI : I_fault σ) : I_fault τ := by
  unfold I_fault at *
  rw [(h.keep hd (In_o 0 rfl : InW D_fault 11 15)).1, (h.keep hd (In_o 1 rfl : InW D_fault 11 16)).1, (h.keep hd (In_o 2 rfl : InW D_fault 0 10)).1, (h.keep hd (In_o 3 rfl : InW D_fault 0 11)).1]
  exact hI
/-- what each of these calls leaves alone -/
theorem W_feed_tray : disj (W11_feed ++ W12_feed) D_tray = true := by decide +kernel
theorem W_tray_tape : disj (W11_tray ++ W12_tray) D_tape = true := by decide +kernel
theorem W_tray_fault : disj (W11_tray ++ W12_tray) D_fault = true := by decide +kernel
theorem W_feed_misc : disj (W11_feed ++ W12_feed) D_misc = true := by decide +kernel
/-- the first four parts of the invariant at the first state -/
theorem I0_misc : I_misc σ0 := ⟨by decide +kernel, by decide +kernel, by decide +kernel⟩
theorem I0_fault : I_fault σ0 := ⟨by decide +kernel, by decide +kernel⟩
theorem I0_tray : I_tray σ0 := fun t ht => match t, ht with
  | 0, _ => ⟨by decide +kernel, Or.inl (by decide +kernel), by decide +kernel, ⟨0, by omega, by decide +kernel⟩, fun _ _ => rfl⟩
  | 1, _ => ⟨by decide +kernel, Or.inl (by decide +kernel), by decide +kernel, ⟨0, by omega, by decide +kernel⟩, fun _ _ => rfl⟩
  | 2, _ => ⟨by decide +kernel, Or.inl (by decide +kernel), by decide +kernel, ⟨0, by omega, by decide +kernel⟩, fun _ _ => rfl⟩
  | 3, _ => ⟨by decide +kernel, Or.inl (by decide +kernel), by decide +kernel, ⟨0, by omega, by decide +kernel⟩, fun _ _ => rfl⟩
theorem I0_tape : I_tape σ0 := ⟨⟨0, by omega, by decide +kernel, by decide +kernel⟩, fun _ _ => rfl⟩
