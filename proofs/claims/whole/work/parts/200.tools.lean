/-- a program that ends, in an answer and a state of which P holds -/
def wp {A : Type} (o : Option (A × Ms)) (P : A → Ms → Prop) : Prop := ∃ r τ, o = some (r, τ) ∧ P r τ
theorem wp_some {A : Type} {r : A} {τ : Ms} {P : A → Ms → Prop} : wp (some (r, τ)) P ↔ P r τ := ⟨fun ⟨_, _, e, h⟩ => by cases e; exact h, fun h => ⟨_, _, rfl, h⟩⟩
theorem wp_mono {A : Type} {o : Option (A × Ms)} {P Q : A → Ms → Prop} (h : wp o P) (g : ∀ r τ, P r τ → Q r τ) : wp o Q := by
  obtain ⟨r, τ, e, p⟩ := h
  exact ⟨r, τ, e, g r τ p⟩
theorem wp_bn {A B : Type} {o : Option (B × Ms)} {k : B → Ms → Option (A × Ms)} {P : A → Ms → Prop} : wp (bn o k) P ↔ wp o fun r τ => wp (k r τ) P := by
  constructor
  · rintro ⟨r, τ, e, p⟩
    cases ho : o with
    | none => rw [ho] at e; cases e
    | some x => rw [ho] at e; exact ⟨x.1, x.2, rfl, r, τ, e, p⟩
  · rintro ⟨x, t, rfl, h⟩
    exact h
theorem ck_t {α : Type} {o : Option α} : ck true o = o := rfl
theorem wp_ck {A : Type} {b : Bool} {o : Option (A × Ms)} {P : A → Ms → Prop} : wp (ck b o) P ↔ b = true ∧ wp o P := by
  cases b with
  | true => exact ⟨fun h => ⟨rfl, h⟩, fun h => h.2⟩
  | false => exact ⟨fun h => (by obtain ⟨_, _, e, _⟩ := h; cases e), fun h => (by cases h.1)⟩
theorem wp_lt {A B : Type} {a : B} {f : B → Option (A × Ms)} {P : A → Ms → Prop} : wp (lt a f) P ↔ wp (f a) P := Iff.rfl
theorem wp_ite {A : Type} {c : Prop} [Decidable c] {a b : Option (A × Ms)} {P : A → Ms → Prop} : wp (if c then a else b) P ↔ (c → wp a P) ∧ (¬ c → wp b P) := by
  by_cases h : c
  · rw [if_pos h]; exact ⟨fun q => ⟨fun _ => q, fun z => absurd h z⟩, fun q => q.1 h⟩
  · rw [if_neg h]; exact ⟨fun q => ⟨fun z => absurd z h, fun _ => q⟩, fun q => q.2 h⟩
/-- a loop: I holds at its head, with a measure that falls -/
theorem wp_fx {S A : Type} {B : (S → Option (A × Ms)) → S → Option (A × Ms)} {P : A → Ms → Prop} (I : Nat → S → Prop) (h : ∀ n k x, I n x → (∀ m y, m < n → I m y → wp (k y) P) → wp (B k x) P) {N n : Nat} {x : S} (hn : n < N) (hi : I n x) : wp (fx N B x) P := by
  induction N generalizing n x with
  | zero => exact absurd hn (Nat.not_lt_zero _)
  | succ N ih => exact h n _ x hi fun m y hm hy => ih (Nat.lt_of_lt_of_le hm (Nat.lt_succ_iff.mp hn)) hy
theorem wp_fr {R : Type} {W : List (Nat × Option Nat)} {σ : Ms} {o : Option (R × Ms)} {P : R → Ms → Prop} (h : wp o P) (hf : FR W σ o) : wp o fun r τ => P r τ ∧ Fr W σ τ := by
  obtain ⟨r, τ, e, p⟩ := h
  exact ⟨r, τ, e, p, hf r τ e⟩
theorem ixb_nI {i n : Nat} (hi : i < n) (hn : n < 2 ^ 31) : ixb (nI i) n = true := by
  have := nI_toInt (n := i) (by omega)
  simp only [ixb, Bool.and_eq_true, decide_eq_true_eq, this]
  omega
