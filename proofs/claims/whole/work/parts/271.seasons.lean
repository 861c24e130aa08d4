def stepOk (K A B : Nat → Int32) (D : Nat → Nat → Int32) (e s : Nat) : Prop := (∃ k a b, ((k = 0 ∧ a < 2 ∧ b < 20) ∨ (k = 1 ∧ a < 2 ∧ b < 5) ∨ (k = 2 ∧ a < 4 ∧ b ≤ 15)) ∧ K e = nI k ∧ D s 0 = nI k ∧ A e = nI a ∧ D s 1 = nI a ∧ B e = nI b ∧ D s 2 = nI b) ∨ (K e = nI 3 ∧ D s 0 = nI 3 ∧ ∃ a o, a ≤ 2 ∧ o ≤ 20 ∧ A e = nI a ∧ D s 1 = nI a ∧ B e = cI o ∧ D s 2 = cI o) ∨ (K e = nI 4 ∧ D s 0 = nI 4) ∨ (K e = nI 7 ∧ D s 0 = nI 7)
def whenOk (K A B C : Nat → Int32) (D : Nat → Nat → Int32) (e s : Nat) : Prop := K e = nI 5 ∧ D s 0 = nI 5 ∧ ((A e = nI 0 ∧ D s 5 = nI 0 ∧ ∃ k, k < 20 ∧ B e = nI k ∧ D s 1 = nI k) ∨ (A e = nI 3 ∧ D s 5 = nI 3 ∧ ∃ k, k < 2 ∧ B e = nI k ∧ D s 1 = nI k) ∨ (∃ t v c, (t = 1 ∨ t = 2) ∧ v ≤ 31 ∧ c < 3 ∧ A e = nI t ∧ D s 5 = nI t ∧ B e = nI v ∧ D s 6 = nI v ∧ C e = nI c ∧ D s 7 = nI (if c = 0 then 60 else if c = 1 then 62 else 61)))
def loopOk (K A : Nat → Int32) (D : Nat → Nat → Int32) (e s : Nat) : Prop := K e = nI 6 ∧ D s 0 = nI 6 ∧ ∃ r, 1 ≤ r ∧ r ≤ 99 ∧ A e = nI r ∧ D s 1 = nI r
/-- the entries e up to e' of the class are the steps s up to s' of the model -/
def Seg (K A B C M : Nat → Int32) (D : Nat → Nat → Int32) : Nat → Nat → Nat → Nat → Nat → Nat → Prop
  | 0, _, e, s, e', s' => e = e' ∧ s = s'
  | f + 1, g, e, s, e', s' => (e = e' ∧ s = s') ∨ (e < 60 ∧ s < 30 ∧ stepOk K A B D e s ∧ D s 8 = nI (s + 1) ∧ Seg K A B C M D f g (e + 1) (s + 1) e' s') ∨ (e < 60 ∧ s < 30 ∧ (whenOk K A B C D e s ∨ loopOk K A D e s) ∧ ∃ m t i, g = i + 1 ∧ m < 60 ∧ M e = nI m ∧ K m = nI 8 ∧ M m = nI e ∧ Seg K A B C M D f i (e + 1) (s + 1) m t ∧ D s 8 = nI t ∧ Seg K A B C M D f g (m + 1) t e' s')
theorem Seg_mv {K A B C M K' A' B' C' M' : Nat → Int32} {D D' : Nat → Nat → Int32} (h1 : ∀ e, e < 60 → K' e = K e ∧ A' e = A e ∧ B' e = B e ∧ C' e = C e ∧ M' e = M e) (h2 : ∀ s o, s < 30 → o < 9 → D' s o = D s o) : ∀ {f g e s e' s' : Nat}, Seg K A B C M D f g e s e' s' → Seg K' A' B' C' M' D' f g e s e' s'
  | 0, _, _, _, _, _, h => h
  | f + 1, g, e, s, e', s', h => by
    rcases h with h | ⟨he, hs, ho, hd, h⟩ | ⟨he, hs, ho, m, t, i, hg, hm, hM, hK, hM', ha, hd, hb⟩
    · exact Or.inl h
    · refine Or.inr (Or.inl ⟨he, hs, ?_, by rw [h2 s 8 hs (by omega)]; exact hd, Seg_mv h1 h2 h⟩)
      unfold stepOk at *
      rw [(h1 e he).1, (h1 e he).2.1, (h1 e he).2.2.1, h2 s 0 hs (by omega), h2 s 1 hs (by omega), h2 s 2 hs (by omega)]
      exact ho
    · refine Or.inr (Or.inr ⟨he, hs, ?_, m, t, i, hg, hm, by rw [(h1 e he).2.2.2.2]; exact hM, by rw [(h1 m hm).1]; exact hK, by rw [(h1 m hm).2.2.2.2]; exact hM', Seg_mv h1 h2 ha, by rw [h2 s 8 hs (by omega)]; exact hd, Seg_mv h1 h2 hb⟩)
      unfold whenOk loopOk at *
      rw [(h1 e he).1, (h1 e he).2.1, (h1 e he).2.2.1, (h1 e he).2.2.2.1, h2 s 0 hs (by omega), h2 s 1 hs (by omega), h2 s 5 hs (by omega), h2 s 6 hs (by omega), h2 s 7 hs (by omega)]
      exact ho
/-- seasons of the class in h, of the model in the block b -/
def I_se (b h : Nat) (σ : Ms) : Prop := (σ.1 h 0 = nI 0 ∧ σ.1 5 (356 * b + 84) = nI 0) ∨ (σ.1 h 0 = nI 1 ∧ σ.1 5 (356 * b + 84) = nI 1 ∧ ∃ E n f, E ≤ 60 ∧ n ≤ 30 ∧ σ.1 h 2 = nI E ∧ σ.1 h 1 = nI n ∧ σ.1 5 (356 * b + 85) = nI n ∧ Seg (σ.1 (h + 1)) (σ.1 (h + 2)) (σ.1 (h + 3)) (σ.1 (h + 4)) (σ.1 (h + 5)) (fun s o => σ.1 5 (356 * b + (86 + 9 * s + o))) f 3 0 0 E n)
theorem I_se_mv {b h b' h' : Nat} {σ τ : Ms} (hI : I_se b h σ) (e1 : ∀ r j, Pse r j → τ.1 (h' + r) j = σ.1 (h + r) j) (e2 : ∀ j, 84 ≤ j → j < 356 → τ.1 5 (356 * b' + j) = σ.1 5 (356 * b + j)) : I_se b' h' τ := by
  have c : ∀ j, j < 3 → τ.1 h' j = σ.1 h j := fun j hj => e1 0 j (Or.inl ⟨rfl, hj⟩)
  unfold I_se at *
  rw [c 0 (by omega), c 1 (by omega), c 2 (by omega), e2 84 (by omega) (by omega), e2 85 (by omega) (by omega)]
  rcases hI with h | ⟨h1, h2, E, n, f, h3, h4, h5, h6, h7, h8⟩
  · exact Or.inl h
  refine Or.inr ⟨h1, h2, E, n, f, h3, h4, h5, h6, h7, Seg_mv (fun e he => ⟨e1 1 e ?_, e1 2 e ?_, e1 3 e ?_, e1 4 e ?_, e1 5 e ?_⟩) (fun s o hs ho => e2 _ (by omega) (by omega)) h8⟩
  all_goals exact Or.inr ⟨by omega, by omega, he⟩
theorem I_hg_mv {B h B' h' : Nat} {σ τ : Ms} (hI : I_hg B h σ) (e1 : ∀ r j, Phg r j → τ.1 (h' + r) j = σ.1 (h + r) j) (e2 : ∀ j, j < 84 → τ.1 5 (B' + j) = σ.1 5 (B + j)) : I_hg B' h' τ := by
  obtain ⟨H, w, c, m, hc⟩ := hI
  have c0 : ∀ j, 5 ≤ j → j ≤ 11 → τ.1 h' j = σ.1 h j := fun j h1 h2 => e1 0 j (Or.inl ⟨rfl, h1, h2⟩)
  refine ⟨H, w, ?_, ?_, ?_⟩
  · unfold CG RS RH RB at *
    obtain ⟨⟨a1, a2, a3⟩, ⟨b1, b2⟩, d1, d2, d3, d4⟩ := c
    obtain ⟨⟨w1, -⟩, ⟨w2, -⟩, w3, -⟩ := w
    rw [c0 5 (by omega) (by omega), c0 6 (by omega) (by omega), c0 7 (by omega) (by omega), c0 8 (by omega) (by omega), c0 9 (by omega) (by omega), c0 10 (by omega) (by omega)]
    refine ⟨⟨a1, a2, fun i hi => ?_⟩, ⟨b1, fun i hi => ?_⟩, d1, d2, d3, fun i hi => ?_⟩
    · rw [e1 1 i (Or.inr (Or.inl ⟨by omega, by omega⟩)), e1 2 i (Or.inr (Or.inl ⟨by omega, by omega⟩))]
      exact a3 i hi
    · rw [e1 3 i (Or.inr (Or.inr (Or.inl ⟨by omega, by omega⟩)))]
      exact b2 i hi
    · rw [e1 4 i (Or.inr (Or.inr (Or.inr ⟨by omega, by omega⟩))), e1 5 i (Or.inr (Or.inr (Or.inr ⟨by omega, by omega⟩)))]
      exact d4 i hi
  · unfold MG MS MH MB at *
    obtain ⟨⟨a1, a2⟩, ⟨b1, b2⟩, d1, d2, d3⟩ := m
    obtain ⟨⟨w1, -⟩, ⟨w2, -⟩, w3, -⟩ := w
    have z : τ.1 5 B' = σ.1 5 B := e2 0 (by omega)
    rw [z, e2 1 (by omega), e2 2 (by omega), e2 3 (by omega)]
    refine ⟨⟨a1, fun i hi => ?_⟩, ⟨b1, fun i hi => ?_⟩, d1, d2, fun i hi => ?_⟩
    · rw [e2 (5 + i) (by omega), e2 (25 + i) (by omega), e2 (45 + i) (by omega)]
      exact a2 i hi
    · rw [e2 (65 + i) (by omega)]
      exact b2 i hi
    · rw [e2 (69 + i) (by omega), e2 (74 + i) (by omega), e2 (79 + i) (by omega)]
      exact d3 i hi
  · rw [c0 11 (by omega) (by omega), e2 4 (by omega)]
    exact hc
