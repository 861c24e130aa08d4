/-- a field of a class of the world, as an instruction of class own links it: class number ci, place j, kind kd -/
def CF (ci : Nat) (C : String) (T : u_T) (N : Nat) (ty : Nat → FieldType) : Prop := vwCl[ci]? = some (C, T, N) ∧ (KT ci).length = N ∧ (∀ w ∈ u_ws C T N, w ∈ LW) ∧ (∀ k, k < N → parseFieldDescriptor (T k).2.2.1 = some (ty k)) ∧ (∀ a, a < N → ∀ b, b < N → a ≠ b → (T a).2.1 ≠ (T b).2.1)
def FA (own : String) (idx ci j kd : Nat) : Prop := ∃ (C : String) (T : u_T) (N : Nat) (ty : Nat → FieldType), CF ci C T N ty ∧ j < N ∧ (KT ci)[j]? = some kd ∧ Cond.fieldLink own idx (T j).1 (T j).2.1 (T j).2.2.1 ∈ LW
/-- .. that may be written: its type -/
def FP (ci j : Nat) (t : FieldType) : Prop := ∀ (C : String) (T : u_T) (N : Nat) (ty : Nat → FieldType), CF ci C T N ty → ty j = t ∧ (T j).2.2.2 = false
theorem cell0 (g : GT) (σ : Ms) (k ci z : Nat) : cellE g σ k (0, ci, z) = .inr (ci, fvs g σ k 0 (KT ci)) := rfl
section VMEM
variable {α : Type} {K : CK α} {cc : ByteArray} {own : String} {o : Option (α × Ms)} {σ : Ms} {pc : Nat} {lv : List (Nat × Value)} {st : List Value}
theorem v_getV {idx ci j kd k : Nat} {v : Value} (hd : decode cc pc = .ok (.getfield idx, 3)) (hf : FA own idx ci j kd) (hk : IsC k (0, ci, 0)) (hv : ∀ g : GT, fv g σ k j kd = cv g v) (kk : VF K cc own o σ (pc + 3) lv (v :: st)) : VF K cc own o σ pc lv (.ref k :: st) := by
  intro g p l e R s m args below meth c cells slots Q r σ' C ho hr H locs ls hW hS hl
  obtain ⟨Cn, T, N, ty, ⟨c1, c2, c3, c4, c5⟩, hj, hkd, hlk⟩ := hf
  have hP := hW.one hk
  rw [cell0] at hP
  refine va_get (D := g.1) (ci := ci) (tys := tysG g) (v := cv g v) C.1 C.2.1 (Ts := LW) C.2.2.2.2.1 c3 C.2.2.2.1 C.2.2.2.2.2.2.1.1 hP 0 rfl c1 j hj (C.2.2.2.2.1 _ hlk) (fun _ h9 => h9) ?_ hd (kk g p l e R s m args below meth c cells slots Q r σ' C ho hr H locs ls hW hS hl)
  rw [fvs_get g σ k _ 0 j kd hkd, Nat.zero_add, hv]
theorem v_getI {idx ci j : Nat} {k : Nat} (hd : decode cc pc = .ok (.getfield idx, 3)) (hf : FA own idx ci j 0) (hk : IsC k (0, ci, 0)) (kk : VF K cc own o σ (pc + 3) lv (.int (σ.1 k j) :: st)) : VF K cc own o σ pc lv (.ref k :: st) := v_getV hd hf hk (fun _ => rfl) kk
theorem v_getL {idx ci j : Nat} {k : Nat} (hd : decode cc pc = .ok (.getfield idx, 3)) (hf : FA own idx ci j 1) (hk : IsC k (0, ci, 0)) (kk : VF K cc own o σ (pc + 3) lv (.long (σ.2 k j) :: st)) : VF K cc own o σ pc lv (.ref k :: st) := v_getV hd hf hk (fun _ => rfl) kk
theorem v_getR {idx ci j n : Nat} {k k' : Nat} (hd : decode cc pc = .ok (.getfield idx, 3)) (hf : FA own idx ci j (n + 2)) (hk : IsC k (0, ci, 0)) (hk' : k + n = k') (kk : VF K cc own o σ (pc + 3) lv (.ref k' :: st)) : VF K cc own o σ pc lv (.ref k :: st) := v_getV hd hf hk (fun g => by subst hk'; simp [fv, cv]) kk
theorem GS.inj {g : GT} {U : State} (h : GS g U) : ∀ i j, i < NC → j < NC → g.2.2 i = g.2.2 j → i = j := h.2.1
def WL (g : GT) (σ : Ms) : va_W := (List.range NC).map (fun k => (g.2.2 k, cellE g σ k (CT k)))
theorem WL_get {g : GT} {σ : Ms} {k : Nat} {q : Nat × va_E} (h : (WL g σ)[k]? = some q) : k < NC ∧ q = (g.2.2 k, cellE g σ k (CT k)) := by
  unfold WL at h
  rw [List.getElem?_map] at h
  by_cases hk : k < NC
  · rw [List.getElem?_range hk] at h
    cases h
    exact ⟨hk, rfl⟩
  · rw [List.getElem?_eq_none (by simpa using hk)] at h
    cases h
theorem WL_at {g : GT} {σ : Ms} {k : Nat} {t : Nat × Nat × Nat} (hk : IsC k t) : (WL g σ)[k]? = some (g.2.2 k, cellE g σ k t) := by
  unfold WL
  rw [List.getElem?_map, List.getElem?_range hk.1, ← hk.2]
  rfl
theorem Wd.P {g : GT} {σ : Ms} {H : Heap} (h : Wd g σ H) : va_P g.1 vwCl (WL g σ) H := by
  intro k q hq
  obtain ⟨h1, rfl⟩ := WL_get hq
  exact h k h1
theorem WL_D {g : GT} {σ : Ms} (hinj : ∀ i j, i < NC → j < NC → g.2.2 i = g.2.2 j → i = j) : va_D (GA g) (WL g σ) := by
  refine ⟨fun i j p q hi hj hpq => ?_, fun k q hq => ?_⟩
  · obtain ⟨h1, rfl⟩ := WL_get hi
    obtain ⟨h2, rfl⟩ := WL_get hj
    exact hinj i j h1 h2 hpq
  · obtain ⟨h1, rfl⟩ := WL_get hq
    exact ⟨k, h1, rfl⟩
theorem WL_back {g : GT} {σ τ : Ms} {H1 : Heap} {k : Nat} {t : Nat × Nat × Nat} {x : va_E} (hk : IsC k t) (hx : x = cellE g τ k t) (ho : ∀ a, a ≠ k → cellE g τ a (CT a) = cellE g σ a (CT a)) (h : va_P g.1 vwCl ((WL g σ).set k (g.2.2 k, x)) H1) : Wd g τ H1 := by
  intro a ha
  have hl : (WL g σ).length = NC := by simp [WL]
  by_cases e : a = k
  · subst e
    refine h a _ ?_
    rw [List.getElem?_set_self (by rw [hl]; exact ha), hk.2, hx]
  · refine h a _ ?_
    rw [List.getElem?_set_ne (Ne.symm e), WL_at (t := CT a) ⟨ha, rfl⟩, ho a e]
theorem v_putV {idx ci j kd k : Nat} {v : Value} {t : FieldType} {τ : Ms} (hd : decode cc pc = .ok (.putfield idx, 3)) (hf : FA own idx ci j kd) (hp : FP ci j t) (hk : IsC k (0, ci, 0)) (hn : narrow t v = v) (hfit : fits t v = true) (hset : ∀ g : GT, (fvs g σ k 0 (KT ci)).set j v = fvs g τ k 0 (KT ci)) (ho' : ∀ (g : GT) a, a ≠ k → cellE g τ a (CT a) = cellE g σ a (CT a)) (hcv : ∀ g : GT, cv g v = v) (kk : VF K cc own o τ (pc + 3) lv st) : VF K cc own o σ pc lv (v :: .ref k :: st) := by
  intro g p l e R s m args below meth c cells slots Q r σ' C ho hr H locs ls hW hS hl
  obtain ⟨Cn, T, N, ty, hcf, hj, hkd, hlk⟩ := hf
  obtain ⟨e1, e2⟩ := hp Cn T N ty hcf
  obtain ⟨c1, c2, c3, c4, c5⟩ := hcf
  show W p l e R s m args below meth c H locs cells slots Q (F0 m pc ls (cv g v :: .ref (g.2.2 k) :: st.map (cv g)))
  rw [hcv g]
  refine va_put (D := g.1) (ci := ci) (tys := tysG g) (A := GA g) (fs := fvs g σ k 0 (KT ci)) C.1 C.2.1 (Ts := LW) C.2.2.2.2.1 c3 ty c4 c5 C.2.2.2.1 C.2.2.2.2.2.2.1.1 hW.P (WL_D C.2.2.2.2.2.2.1.2.1) hS k (WL_at hk) c1 j hj (C.2.2.2.2.1 _ hlk) (fun _ h9 => h9) e2 (by rw [c4 j hj, e1]) hn hfit (by rw [fvs_len, c2]; exact hj) hd (fun H1 locs1 hP1 _ hS1 => ?_)
  rw [hset g] at hP1
  exact kk g p l e R s m args below meth c cells slots Q r σ' C ho hr H1 locs1 ls (WL_back hk rfl (ho' g) hP1) hS1 hl
theorem v_putI {idx ci j k : Nat} {v : Int32} (hd : decode cc pc = .ok (.putfield idx, 3)) (hf : FA own idx ci j 0) (hp : FP ci j .int) (hk : IsC k (0, ci, 0)) (kk : VF K cc own o (sI σ k j v) (pc + 3) lv st) : VF K cc own o σ pc lv (.int v :: .ref k :: st) := by
  have hkd := hf
  obtain ⟨-, -, -, -, -, -, hkd, -⟩ := hkd
  exact v_putV hd hf hp hk rfl rfl (fun g => by rw [fvs_setI g σ k v _ 0 j hkd, Nat.zero_add]) (fun g a ha => cellE_I g σ k j v ha _) (fun _ => rfl) kk
theorem v_putB {idx ci j k : Nat} {v : Int32} (hd : decode cc pc = .ok (.putfield idx, 3)) (hf : FA own idx ci j 0) (hp : FP ci j .boolean) (hk : IsC k (0, ci, 0)) (kk : VF K cc own o (sI σ k j v) (pc + 3) lv st) : VF K cc own (ck (nkB v) o) σ pc lv (.int v :: .ref k :: st) := by
  have hkd := hf
  obtain ⟨-, -, -, -, -, -, hkd, -⟩ := hkd
  intro g p l e R s m args below meth c cells slots Q r σ' C ho
  obtain ⟨hb, ho⟩ := ck_some ho
  obtain ⟨n1, n2⟩ := nkB_ok hb
  exact v_putV (t := .boolean) hd hf hp hk n1 n2 (fun g => by rw [fvs_setI g σ k v _ 0 j hkd, Nat.zero_add]) (fun g a ha => cellE_I g σ k j v ha _) (fun _ => rfl) kk g p l e R s m args below meth c cells slots Q r σ' C ho
theorem v_putL {idx ci j k : Nat} {v : Int64} (hd : decode cc pc = .ok (.putfield idx, 3)) (hf : FA own idx ci j 1) (hp : FP ci j .long) (hk : IsC k (0, ci, 0)) (kk : VF K cc own o (sL σ k j v) (pc + 3) lv st) : VF K cc own o σ pc lv (.long v :: .ref k :: st) := by
  have hkd := hf
  obtain ⟨-, -, -, -, -, -, hkd, -⟩ := hkd
  exact v_putV hd hf hp hk rfl rfl (fun g => by rw [fvs_setL g σ k v _ 0 j hkd, Nat.zero_add]) (fun g a ha => cellE_L g σ k j v ha _) (fun _ => rfl) kk
/-- arrays -/
theorem v_iald {i : Int32} {n z k : Nat} (hd : decode cc pc = .ok (.iaload, 1)) (hk : IsC k (1, n, z)) (kk : VF K cc own o σ (pc + 1) lv (.int (σ.1 k i.toNatClampNeg) :: st)) : VF K cc own (ck (ixb i n) o) σ pc lv (.int i :: .ref k :: st) := by
  intro g p l e R s m args below meth c cells slots Q r σ' C ho hr H locs ls hW hS hl
  obtain ⟨hb, ho⟩ := ck_some ho
  exact va_iald (D := g.1) (tys := tysG g) (f := σ.1 k) C.1 C.2.1 C.2.2.2.2.2.2.1.1 hW.P k 0 (WL_at hk) rfl (ixb_in hb) hd (kk g p l e R s m args below meth c cells slots Q r σ' C ho hr H locs ls hW hS hl)
theorem v_bald {i : Int32} {n z k : Nat} (hd : decode cc pc = .ok (.baload, 1)) (hk : IsC k (3, n, z)) (kk : VF K cc own o σ (pc + 1) lv (.int (σ.1 k i.toNatClampNeg) :: st)) : VF K cc own (ck (ixb i n) o) σ pc lv (.int i :: .ref k :: st) := by
  intro g p l e R s m args below meth c cells slots Q r σ' C ho hr H locs ls hW hS hl
  obtain ⟨hb, ho⟩ := ck_some ho
  exact va_bald (D := g.1) (tys := tysG g) (f := σ.1 k) C.1 C.2.1 C.2.2.2.2.2.2.1.1 hW.P k 2 (WL_at hk) rfl (ixb_in hb) hd (kk g p l e R s m args below meth c cells slots Q r σ' C ho hr H locs ls hW hS hl)
theorem v_lald {i : Int32} {n z k : Nat} (hd : decode cc pc = .ok (.laload, 1)) (hk : IsC k (2, n, z)) (kk : VF K cc own o σ (pc + 1) lv (.long (σ.2 k i.toNatClampNeg) :: st)) : VF K cc own (ck (ixb i n) o) σ pc lv (.int i :: .ref k :: st) := by
  intro g p l e R s m args below meth c cells slots Q r σ' C ho hr H locs ls hW hS hl
  obtain ⟨hb, ho⟩ := ck_some ho
  exact va_lald (D := g.1) (tys := tysG g) (f := σ.2 k) C.1 C.2.1 C.2.2.2.2.2.2.1.1 hW.P k 1 (WL_at hk) rfl (ixb_in hb) hd (kk g p l e R s m args below meth c cells slots Q r σ' C ho hr H locs ls hW hS hl)
theorem sI_row (σ : Ms) (k j : Nat) (v : Int32) : (sI σ k j v).1 k = upd (σ.1 k) j v := by
  funext b
  simp [sI, upd]
theorem sL_row (σ : Ms) (k j : Nat) (v : Int64) : (sL σ k j v).2 k = vp_updL (σ.2 k) j v := by
  funext b
  simp [sL, vp_updL]
theorem v_iast {i x : Int32} {n z k : Nat} (hd : decode cc pc = .ok (.iastore, 1)) (hk : IsC k (1, n, z)) (kk : VF K cc own o (sI σ k i.toNatClampNeg x) (pc + 1) lv st) : VF K cc own (ck (ixb i n) o) σ pc lv (.int x :: .int i :: .ref k :: st) := by
  intro g p l e R s m args below meth c cells slots Q r σ' C ho hr H locs ls hW hS hl
  obtain ⟨hb, ho⟩ := ck_some ho
  exact va_iast (D := g.1) (tys := tysG g) (A := GA g) (f := σ.1 k) C.1 C.2.1 C.2.2.2.2.2.2.1.1 hW.P (WL_D C.2.2.2.2.2.2.1.2.1) hS k 0 (WL_at hk) rfl (ixb_in hb) hd (fun H1 locs1 hP1 _ hS1 => kk g p l e R s m args below meth c cells slots Q r σ' C ho hr H1 locs1 ls (WL_back hk (by rw [← sI_row]; rfl) (fun a ha => cellE_I g σ k _ _ ha _) hP1) hS1 hl)
theorem v_bast {i x : Int32} {n z k : Nat} (hd : decode cc pc = .ok (.bastore, 1)) (hk : IsC k (3, n, z)) (kk : VF K cc own o (sI σ k i.toNatClampNeg x.toInt8.toInt32) (pc + 1) lv st) : VF K cc own (ck (ixb i n) o) σ pc lv (.int x :: .int i :: .ref k :: st) := by
  intro g p l e R s m args below meth c cells slots Q r σ' C ho hr H locs ls hW hS hl
  obtain ⟨hb, ho⟩ := ck_some ho
  exact va_bast (D := g.1) (tys := tysG g) (A := GA g) (f := σ.1 k) C.1 C.2.1 C.2.2.2.2.2.2.1.1 hW.P (WL_D C.2.2.2.2.2.2.1.2.1) hS k 2 (WL_at hk) rfl (ixb_in hb) hd (fun H1 locs1 hP1 _ hS1 => kk g p l e R s m args below meth c cells slots Q r σ' C ho hr H1 locs1 ls (WL_back hk (by rw [vp_nar_byte, ← sI_row]; rfl) (fun a ha => cellE_I g σ k _ _ ha _) hP1) hS1 hl)
theorem v_last {i : Int32} {x : Int64} {n z k : Nat} (hd : decode cc pc = .ok (.lastore, 1)) (hk : IsC k (2, n, z)) (kk : VF K cc own o (sL σ k i.toNatClampNeg x) (pc + 1) lv st) : VF K cc own (ck (ixb i n) o) σ pc lv (.long x :: .int i :: .ref k :: st) := by
  intro g p l e R s m args below meth c cells slots Q r σ' C ho hr H locs ls hW hS hl
  obtain ⟨hb, ho⟩ := ck_some ho
  exact va_last (D := g.1) (tys := tysG g) (A := GA g) (f := σ.2 k) C.1 C.2.1 C.2.2.2.2.2.2.1.1 hW.P (WL_D C.2.2.2.2.2.2.1.2.1) hS k 1 (WL_at hk) rfl (ixb_in hb) hd (fun H1 locs1 hP1 _ hS1 => kk g p l e R s m args below meth c cells slots Q r σ' C ho hr H1 locs1 ls (WL_back hk (by rw [← sL_row]; rfl) (fun a ha => cellE_L g σ k _ _ ha _) hP1) hS1 hl)
theorem v_aald4 {i : Int32} {n f k : Nat} (hd : decode cc pc = .ok (.aaload, 1)) (hk : IsC k (4, n, f)) (kk : ixb i n = true → VF K cc own o σ (pc + 1) lv (.ref (f + i.toNatClampNeg) :: st)) : VF K cc own (ck (ixb i n) o) σ pc lv (.int i :: .ref k :: st) := by
  intro g p l e R s m args below meth c cells slots Q r σ' C ho hr H locs ls hW hS hl
  obtain ⟨hb, ho⟩ := ck_some ho
  obtain ⟨cell, hc⟩ : ∃ cell, H[g.2.2 k]? = some cell := ⟨_, (hW.P k _ (WL_at hk))⟩
  have hlt : i.toNatClampNeg < n := ixb_lt hb
  exact W.aald (v := .ref (g.2.2 (f + i.toNatClampNeg))) (ty := .array .long) C.1 C.2.1 (hW.P k _ (WL_at hk)) ((C.2.2.2.2.2.2.1.1.2 3 _ rfl).1 n (fun j => va_rf (some (g.2.2 (f + j))))) rfl (fun q => by cases q) (by show ¬ (i < 0 ∨ (arrV _ _ _).slots.size ≤ _); rw [arrV_size]; exact ixb_in hb) (by show (arrV _ _ _).slots[_]? = _; rw [arrV_read _ _ hlt]; rfl) rfl rfl hd (kk hb g p l e R s m args below meth c cells slots Q r σ' C ho hr H locs ls hW hS hl)
theorem v_aald5 {i : Int32} {n f k : Nat} (hd : decode cc pc = .ok (.aaload, 1)) (hk : IsC k (5, n, f)) (kk : ixb i n = true → VF K cc own o σ (pc + 1) lv (.ref (f + 8 * i.toNatClampNeg) :: st)) : VF K cc own (ck (ixb i n) o) σ pc lv (.int i :: .ref k :: st) := by
  intro g p l e R s m args below meth c cells slots Q r σ' C ho hr H locs ls hW hS hl
  obtain ⟨hb, ho⟩ := ck_some ho
  have hlt : i.toNatClampNeg < n := ixb_lt hb
  exact W.aald (v := .ref (g.2.2 (f + 8 * i.toNatClampNeg))) (ty := .object RX0) C.1 C.2.1 (hW.P k _ (WL_at hk)) ((C.2.2.2.2.2.2.1.1.2 4 _ rfl).1 n (fun j => va_rf (some (g.2.2 (f + 8 * j))))) rfl (fun q => by cases q) (by show ¬ (i < 0 ∨ (arrV _ _ _).slots.size ≤ _); rw [arrV_size]; exact ixb_in hb) (by show (arrV _ _ _).slots[_]? = _; rw [arrV_read _ _ hlt]; rfl) rfl rfl hd (kk hb g p l e R s m args below meth c cells slots Q r σ' C ho hr H locs ls hW hS hl)
theorem v_aald6 {i : Int32} {n f k : Nat} (hd : decode cc pc = .ok (.aaload, 1)) (hk : IsC k (6, n, f)) (kk : ixb i n = true → VF K cc own o σ (pc + 1) lv (.ref (f + 7 * i.toNatClampNeg) :: st)) : VF K cc own (ck (ixb i n) o) σ pc lv (.int i :: .ref k :: st) := by
  intro g p l e R s m args below meth c cells slots Q r σ' C ho hr H locs ls hW hS hl
  obtain ⟨hb, ho⟩ := ck_some ho
  have hlt : i.toNatClampNeg < n := ixb_lt hb
  exact W.aald (v := .ref (g.2.2 (f + 7 * i.toNatClampNeg))) (ty := .object RX5) C.1 C.2.1 (hW.P k _ (WL_at hk)) ((C.2.2.2.2.2.2.1.1.2 5 _ rfl).1 n (fun j => va_rf (some (g.2.2 (f + 7 * j))))) rfl (fun q => by cases q) (by show ¬ (i < 0 ∨ (arrV _ _ _).slots.size ≤ _); rw [arrV_size]; exact ixb_in hb) (by show (arrV _ _ _).slots[_]? = _; rw [arrV_read _ _ hlt]; rfl) rfl rfl hd (kk hb g p l e R s m args below meth c cells slots Q r σ' C ho hr H locs ls hW hS hl)
/-- the script -/
theorem v_sld {i : Int32} {L : Nat} {xs : Nat → Int32} (hd : decode cc pc = .ok (.iaload, 1)) (hk : K.2.2.2.2 = some (L, xs)) (kk : VF K cc own o σ (pc + 1) lv (.int (xs i.toNatClampNeg) :: st)) : VF K cc own (ck (ixb i L) o) σ pc lv (.int i :: .ref 113 :: st) := by
  intro g p l e R s m args below meth c cells slots Q r σ' C ho hr H locs ls hW hS hl
  obtain ⟨hb, ho⟩ := ck_some ho
  have hsc := C.2.2.2.2.2.2.2
  rw [hk] at hsc
  exact va_sld C.1 C.2.1 hsc.1 hsc.2.1 hsc.2.2.1 hS (ixb_in hb) hd (kk g p l e R s m args below meth c cells slots Q r σ' C ho hr H locs ls hW hS hl)
theorem v_slen {L : Nat} {xs : Nat → Int32} (hd : decode cc pc = .ok (.arraylength, 1)) (hk : K.2.2.2.2 = some (L, xs)) (kk : VF K cc own o σ (pc + 1) lv (.int (nI L) :: st)) : VF K cc own o σ pc lv (.ref 113 :: st) := by
  intro g p l e R s m args below meth c cells slots Q r σ' C ho hr H locs ls hW hS hl
  have hsc := C.2.2.2.2.2.2.2
  rw [hk] at hsc
  exact va_slen C.1 C.2.1 hsc.1 hsc.2.1 hsc.2.2.1 hS hd (kk g p l e R s m args below meth c cells slots Q r σ' C ho hr H locs ls hW hS hl)
/-- Strings -/
theorem v_strV {idx i : Nat} (hd : decode cc pc = .ok (.getfield idx, 3)) (hi : i < NS) (hw : Cond.fieldLink own idx "java/lang/String" "value" "[B" ∈ LW) (kk : VF K cc own o σ (pc + 3) lv (.ref (136 + i) :: st)) : VF K cc own o σ pc lv (.ref (114 + i) :: st) := by
  intro g p l e R s m args below meth c cells slots Q r σ' C ho hr H locs ls hW hS hl
  have hE := C.2.2.2.2.2.2.1.2.2.2.2.1.1 i hi
  exact vk_getf (o := "java/lang/String") C.1 C.2.1 hE.2.2.1 hS C.2.2.2.1 (C.2.2.2.2.1 _ hw) (fun _ h9 => h9) hd (kk g p l e R s m args below meth c cells slots Q r σ' C ho hr H locs ls hW hS hl)
theorem v_strC {idx i : Nat} (hd : decode cc pc = .ok (.getfield idx, 3)) (hi : i < NS) (hw : Cond.fieldLink own idx "java/lang/String" "coder" "B" ∈ LW) (kk : VF K cc own o σ (pc + 3) lv (.int 0 :: st)) : VF K cc own o σ pc lv (.ref (114 + i) :: st) := by
  intro g p l e R s m args below meth c cells slots Q r σ' C ho hr H locs ls hW hS hl
  have hE := C.2.2.2.2.2.2.1.2.2.2.2.1.1 i hi
  exact vk_getf (o := "java/lang/String") C.1 C.2.1 hE.2.1 hS C.2.2.2.1 (C.2.2.2.2.1 _ hw) (fun _ h9 => h9) hd (kk g p l e R s m args below meth c cells slots Q r σ' C ho hr H locs ls hW hS hl)
theorem v_sbald {x : Int32} {i : Nat} (hd : decode cc pc = .ok (.baload, 1)) (hi : i < NS) (kk : VF K cc own o σ (pc + 1) lv (.int ((strB.getD i []).getD x.toNatClampNeg 0) :: st)) : VF K cc own (ck (ixb x (strN.getD i 0)) o) σ pc lv (.int x :: .ref (136 + i) :: st) := by
  intro g p l e R s m args below meth c cells slots Q r σ' C ho hr H locs ls hW hS hl
  obtain ⟨hb, ho⟩ := ck_some ho
  have hE := C.2.2.2.2.2.2.1.2.2.2.2.1.1 i hi
  exact va_tb C.1 C.2.1 hE.2.2.2 hS (ixb_in hb) rfl hd (kk g p l e R s m args below meth c cells slots Q r σ' C ho hr H locs ls hW hS hl)
theorem v_salen {i : Nat} (hd : decode cc pc = .ok (.arraylength, 1)) (hi : i < NS) (kk : VF K cc own o σ (pc + 1) lv (.int (nI (strN.getD i 0)) :: st)) : VF K cc own o σ pc lv (.ref (136 + i) :: st) := by
  intro g p l e R s m args below meth c cells slots Q r σ' C ho hr H locs ls hW hS hl
  have hE := C.2.2.2.2.2.2.1.2.2.2.2.1.1 i hi
  exact va_tlen C.1 C.2.1 hE.2.2.2 hS rfl hd (kk g p l e R s m args below meth c cells slots Q r σ' C ho hr H locs ls hW hS hl)
theorem v_compact {idx : Nat} (hd : decode cc pc = .ok (.getstatic idx, 3)) (hw : Cond.fieldLink own idx "java/lang/String" "COMPACT_STRINGS" "Z" ∈ LW) (kk : VF K cc own o σ (pc + 3) lv (.int 1 :: st)) : VF K cc own o σ pc lv st := by
  intro g p l e R s m args below meth c cells slots Q r σ' C ho hr H locs ls hW hS hl
  exact va_gets C.1 C.2.1 C.2.2.2.2.2.2.1.2.2.2.2.2.1 hS C.2.2.2.1 (C.2.2.2.2.1 _ hw) (fun _ h9 => h9) hd (kk g p l e R s m args below meth c cells slots Q r σ' C ho hr H locs ls hW hS hl)
end VMEM
