theorem dLL_0 : decode cL_law 0 = .ok (.new 7, 3) := by decide +kernel
theorem dLL_3 : decode cL_law 3 = .ok (.dup, 1) := by decide +kernel
theorem dLL_4 : decode cL_law 4 = .ok (.invokespecial 9, 3) := by decide +kernel
theorem dLL_7 : decode cL_law 7 = .ok (.astore_n 1, 1) := by decide +kernel
theorem dLL_8 : decode cL_law 8 = .ok (.new 10, 3) := by decide +kernel
theorem dLL_11 : decode cL_law 11 = .ok (.dup, 1) := by decide +kernel
theorem dLL_12 : decode cL_law 12 = .ok (.invokespecial 12, 3) := by decide +kernel
theorem dLL_15 : decode cL_law 15 = .ok (.astore_n 2, 1) := by decide +kernel
theorem LLm1 : Cond.classLink RL 7 RX11 ∈ LW := mw1 22 (by decide +kernel) rfl
theorem LLm2 : Cond.classLink RL 10 RX12 ∈ LW := mw6 93 (by decide +kernel) rfl
theorem LLn1 : Cond.instantiable RX11 20 ∈ LW := mw1 23 (by decide +kernel) rfl
theorem LLn2 : Cond.instantiable RX12 46 ∈ LW := mw6 94 (by decide +kernel) rfl
theorem LLi1 : Cond.initialized RX11 ∈ LW := mw1 1 (by decide +kernel) rfl
theorem LLi2 : Cond.initialized RX12 ∈ LW := mw1 10 (by decide +kernel) rfl
theorem LLl1 : Cond.methodLink RL 9 yX11_init ∈ LW := mw1 24 (by decide +kernel) rfl
theorem LLl2 : Cond.methodLink RL 12 yX12_init ∈ LW := mw6 95 (by decide +kernel) rfl
theorem LLu1 : Cond.instanceMethod yX11_init ∈ LW := mw1 25 (by decide +kernel) rfl
theorem LLu2 : Cond.instanceMethod yX12_init ∈ LW := mw6 96 (by decide +kernel) rfl
theorem LLd1 : Cond.code yX11_init cX11_init 2 none ∈ LW := mw1 26 (by decide +kernel) rfl
theorem LLd2 : Cond.code yX12_init cX12_init 2 none ∈ LW := mw6 97 (by decide +kernel) rfl
set_option maxRecDepth 100000 in
set_option maxHeartbeats 4000000 in
/-- the whole walk, the pure program's end being given -/
theorem whole_start_open (hpure : ∀ (L : Nat) (xs : Nat → Int32), L ≤ 3072 → ∃ (N : Nat) (τ : Ms), FL_law N L xs σ0 = some (1, τ)) {p : Program} {e : Env} {s : State} {m : MethodId} {below : List Frame} {meth : Method} {c : Code} (l : Launch) (hflags : l.flags = flags0) {b L : Nat} {xs : Nat → Int32} (hL : L ≤ 3072) (C0 : lw_At p s m meth c b L xs) : W p l e room_1 s m #[Value.ref b] below meth c s.heap [] 0 0 (lw_Z below #[Value.ref b] s) (entryFrame m ([Value.ref b] : List Value).toArray 4) := by
  obtain ⟨hx, hb, hr, hml, hown, hts, hX, hbl, hlocks, hgv⟩ := id C0
  have hLW : ∀ w ∈ LW, w.before #[Value.ref b] s = true := fun w hw => hts w (LW_tbl hw)
  obtain ⟨g, hKS⟩ := st_KS hts
  obtain ⟨adK, adV, sio, hR, hvS, hZ, hZq⟩ := st_SS hts hgv
  have hown' : s.vm.findClass RL = some m.cls := hown
  have hA : ∀ q : Nat, s.heap.size ≤ q → (fun q : Nat => s.heap.size ≤ q) q := fun q h => h
  have CC : CI (4, 20, 113, 6748) cL_law RL g (fun q : Nat => s.heap.size ≤ q) p room_1 s m #[Value.ref b] meth c := ⟨hx, hb, hml, hown', hLW, ⟨Nat.le_of_ble_eq_true rfl, Nat.le_of_ble_eq_true rfl, Nat.le_of_ble_eq_true rfl, Nat.le_of_ble_eq_true rfl⟩, hKS, hA, fun h => absurd rfl h⟩
  have hl := lv_entry ([.ref b]) (n := 4) (Nat.le_of_ble_eq_true rfl)
  rw [lg_entry_eq]
  generalize (lg_sl ([.ref b]) ++ List.replicate (4 - (lg_sl ([.ref b])).length) Slot.unset).toArray = ls at hl ⊢
  have hl : lv_has ls 4 [(0, .ref b)] := hl
  have hP : va_P g.1 vwCl (([] : va_W) ++ []) s.heap := fun k q h => by simp at h
  have hD : va_D (fun q : Nat => s.heap.size ≤ q) (([] : va_W) ++ []) := ⟨fun i j p q h => by simp at h, fun k q h => by simp at h⟩
  refine W_mk (g := g) (fs := [.null, .null, .null, .null, .null, .null, .null, .null, .null, .null, .null, .null, .null, .int 0, .int 0, .int 0, .int 0, .int 0, .long 0, .long 0]) dLL_0 dLL_3 dLL_4 cf8 LLm1 LLn1 LLi1 (by decide +kernel) mi11 (Or.inl LLl1) LLu1 LLd1 rfl rfl (by refine ⟨by decide, by decide, by decide +kernel⟩) (by decide) (by decide) (Nat.le_of_ble_eq_true rfl) (by decide) (by decide) CC hP hD va_S.rf hl (fun q1 c11 H1 locs1 hp11 hP hD hS => ?_)
  refine lv_astore_n (lv' := [(1, .ref q1), (0, .ref b)]) hx hb dLL_7 rfl hl (by decide) rfl (fun ls hl => ?_)
  refine W_mk (g := g) (fs := [.int 0, .int 0, .long 0, .long 0, .null, .null, .null, .null, .int 0, .int 0, .int 0, .int 0, .int 0, .int 0, .int 0, .int 0, .int 0, .int 0, .long 0, .null, .null, .int 0, .int 0, .null, .null, .long 0, .int 0, .long 0, .int 0, .int 0, .int 0, .int 0, .int 0, .int 0, .int 0, .null, .null, .int 0, .int 0, .int 0, .int 0, .int 0, .int 0, .int 0, .int 0, .int 0]) dLL_8 dLL_11 dLL_12 cf9 LLm2 LLn2 LLi2 (by decide +kernel) mi12 (Or.inl LLl2) LLu2 LLd2 rfl rfl (by refine ⟨by decide, by decide, by decide +kernel⟩) (by decide) (by decide) (Nat.le_of_ble_eq_true rfl) (by decide) (by decide) CC hP hD hS hl (fun q2 c12 H2 locs2 hp12 hP hD hS => ?_)
  refine lv_astore_n (lv' := [(2, .ref q2), (1, .ref q1), (0, .ref b)]) hx hb dLL_15 rfl hl (by decide) rfl (fun ls hl => ?_)
  obtain ⟨al, hW, hinj, hge, e0, e11⟩ := st_world b sio adK adV hp11 hp12 hP hD
  have hGA : ∀ q, GA (g.1, g.2, adF al b sio adK adV) q → s.heap.size ≤ q := by
    rintro q ⟨k, hk, rfl⟩
    exact hge k hk
  have hnA : ∀ q, q < s.heap.size → ¬ GA (g.1, g.2, adF al b sio adK adV) q := fun q h1 h2 => Nat.not_le.mpr h1 (hGA q h2)
  have eK : ∀ i, i < 22 → adF al b sio adK adV (114 + i) = adK i := by
    intro i hi
    unfold adF
    rw [if_neg (by omega), if_neg (by omega), if_pos (by omega), Nat.add_sub_cancel_left]
  have eV : ∀ i, i < 22 → adF al b sio adK adV (136 + i) = adV i := by
    intro i hi
    unfold adF
    rw [if_neg (by omega), if_neg (by omega), if_neg (by omega), if_pos (by omega), Nat.add_sub_cancel_left]
  have hGS : GS (g.1, g.2, adF al b sio adK adV) s := by
    refine ⟨hKS.1, hinj, fun q hq => va_Nw.of rfl (hts _ (List.mem_append_right _ (tb_nest q hq))), fun q hq => ?_, ?_, hZ.narrow hGA, hZq.imp (fun h => h.narrow hGA) (fun h => h.narrow hGA)⟩
    · show vk_R q.1 q.2.1 q.2.2.1 (adF al b sio adK adV (114 + q.2.2.2)) s
      rw [eK _ (strL_T q hq).1]
      exact hR q hq
    · have h1 := hvS.narrow hGA
      refine ⟨fun i hi => ?_, fun i j hi hj e => ?_⟩
      · have h2 := h1.1 i hi
        rw [← eK i hi, ← eV i hi] at h2
        exact h2
      · have e' : adF al b sio adK adV (114 + i) = adF al b sio adK adV (114 + j) := e
        rw [eK i hi, eK j hj] at e'
        exact h1.2 i j hi hj e'
  have hb113 : adF al b sio adK adV 113 = b := rfl
  obtain ⟨N, τ, hF⟩ := hpure L xs hL
  have hS' : va_S (GA (g.1, g.2, adF al b sio adK adV)) s.heap H2 [] := ⟨hS.1, fun q h1 _ => hS.2.1 q h1 (Nat.not_le.mpr h1), fun _ h => by cases h⟩
  refine va_forget (fun q hq => hS.2.2 q hq) ?_
  refine vL_law N L xs σ0 (g.1, g.2, adF al b sio adK adV) p l e room_1 s m #[Value.ref b] below meth c _ _ _ 1 τ ⟨hx, hb, hml, hown', hLW, ⟨Nat.le_of_ble_eq_true rfl, Nat.le_of_ble_eq_true rfl, Nat.le_of_ble_eq_true rfl, Nat.le_of_ble_eq_true rfl⟩, hGS, ⟨hX, hbl, hnA b hbl, by omega⟩⟩ hF ⟨?_, ?_, ?_⟩ H2 [] ls hW hS' (lv_sub hl [2, 1, 0] (by rw [lv_pick]; show _ = [(0, Value.ref b), (1, Value.ref (adF al b sio adK adV 11)), (2, Value.ref (adF al b sio adK adV 0))]; rw [e0, e11]; rfl))
  · intro H locs pc ls _ _ h
    cases h
  · intro H locs pc ls x ty _ hS9 h _ _ hd
    cases h
    refine va_forget (fun q hq => hGA _ (hS9.2.2 q hq)) ?_
    refine W.widen (k := 600000) (n := 7302250) (Nat.le_of_ble_eq_true rfl) (Nat.le_of_ble_eq_true rfl) ?_
    exact lw_ret hx hb hr hlocks hd
  · intro H locs pc ls x _ _ h
    cases h
