theorem tab_out {x : Int32} {hi : Int} (n : Nat) (hn : n < 1000) (hh : hi = (n : Int)) (h : ∀ j : Nat, j ≤ n → ¬ x = nI j) : x.toInt < 0 ∨ hi < x.toInt := by
  by_cases h0 : x.toInt < 0
  · exact Or.inl h0
  · refine Or.inr (Int.not_le.mp fun h1 => ?_)
    have h2 : ¬ x < 0 := fun z => h0 (by simpa using Int32.lt_iff_toInt_lt.mp z)
    obtain ⟨j, hj, rfl⟩ := nI_of h2
    rw [nI_toInt hj] at h1
    exact h j (by omega) rfl
theorem MC_none {α : Type} {en : α → Option Value} {y : MethodName} {cc : ByteArray} {nL : Nat} {ret : Option FieldType} {d : Nat} {σ : Ms} {as : List Value} : MC en y cc nL ret d none σ as := fun g l r σ' h => by cases h
theorem v_sio {α : Type} {K : CK α} {cc : ByteArray} {own : String} {o : Option (α × Ms)} {σ : Ms} {pc : Nat} {lv : List (Nat × Value)} {st : List Value} {idx : Nat} (hd : decode cc pc = .ok (.getstatic idx, 3)) (hw : Cond.fieldLink own idx "jdk/internal/util/Preconditions" "SIOOBE_FORMATTER" "Ljava/util/function/BiFunction;" ∈ LW) (k1 : VF K cc own o σ (pc + 3) lv (.null :: st)) (k2 : VF K cc own o σ (pc + 3) lv (.ref 158 :: st)) : VF K cc own o σ pc lv st := by
  intro g p l e R s m args below meth c cells slots Q r σ' C ho hr H locs ls hW hS hl
  rcases C.2.2.2.2.2.2.1.2.2.2.2.2.2 with h | h
  · exact va_gets C.1 C.2.1 h hS C.2.2.2.1 (C.2.2.2.2.1 _ hw) (fun _ h9 => h9) hd (k1 g p l e R s m args below meth c cells slots Q r σ' C ho hr H locs ls hW hS hl)
  · exact va_gets C.1 C.2.1 h hS C.2.2.2.1 (C.2.2.2.2.1 _ hw) (fun _ h9 => h9) hd (k2 g p l e R s m args below meth c cells slots Q r σ' C ho hr H locs ls hW hS hl)
/-- System.arraycopy of longs -/
def ixc (i j n : Int32) (N : Nat) : Bool := decide (0 ≤ i.toInt) && decide (0 ≤ j.toInt) && decide (0 ≤ n.toInt) && decide (i.toInt + n.toInt ≤ (N : Int)) && decide (j.toInt + n.toInt ≤ (N : Int))
def sCpy (σ : Ms) (ka kb i j n : Nat) : Ms := (σ.1, fun a b => if a = kb then va_cpy (σ.2 ka) (σ.2 kb) i j n b else σ.2 a b)
theorem cellE_C (g : GT) (σ : Ms) (ka kb i j n : Nat) {a : Nat} (ha : a ≠ kb) (t : Nat × Nat × Nat) : cellE g (sCpy σ ka kb i j n) a t = cellE g σ a t := by
  have e1 : (sCpy σ ka kb i j n).2 a = σ.2 a := funext fun b => by simp [sCpy, ha]
  have e2 : (sCpy σ ka kb i j n).1 = σ.1 := rfl
  have e3 : fvs g (sCpy σ ka kb i j n) a 0 (KT t.2.1) = fvs g σ a 0 (KT t.2.1) := fvs_eq g rfl _ _ (fun i _ => ⟨by rw [e2], by rw [e1]⟩)
  unfold cellE
  rw [e1, e2, e3]
theorem mlcopy : Cond.methodLink RX9 37 arraycopyName ∈ LW ∧ Cond.native arraycopyName ∈ LW ∧ Cond.static arraycopyName ∈ LW ∧ Cond.initialized "java/lang/System" ∈ LW := ⟨mw2 223 (by decide +kernel) rfl, mw2 225 (by decide +kernel) rfl, mw2 224 (by decide +kernel) rfl, mw1 11 (by decide +kernel) rfl⟩
theorem v_acopy {α : Type} {K : CK α} {cc : ByteArray} {own : String} {o : Option (α × Ms)} {σ : Ms} {pc : Nat} {lv : List (Nat × Value)} {st : List Value} {idx ka kb N z z' : Nat} {i j n : Int32} (hd : decode cc pc = .ok (.invokestatic idx, 3)) (ha : IsC ka (2, N, z)) (hb : IsC kb (2, N, z')) (hw : Cond.methodLink own idx arraycopyName ∈ LW ∧ Cond.native arraycopyName ∈ LW ∧ Cond.static arraycopyName ∈ LW ∧ Cond.initialized "java/lang/System" ∈ LW) (hdd : 1 ≤ K.2.2.2.1) (hcat : (st.map fun v => v.category).sum ≤ 8) (kk : VF K cc own o (sCpy σ ka kb i.toNatClampNeg j.toNatClampNeg n.toNatClampNeg) (pc + 3) lv st) : VF K cc own (ck (ixc i j n N) o) σ pc lv (.int n :: .int j :: .ref kb :: .int i :: .ref ka :: st) := by
  intro g p l e R s m args below meth c cells slots Q r σ' C ho hr H locs ls hW hS hl
  obtain ⟨hx, ho⟩ := ck_some ho
  simp only [ixc, Bool.and_eq_true, decide_eq_true_eq] at hx
  obtain ⟨⟨⟨⟨h1, h2⟩, h3⟩, h4⟩, h5⟩ := hx
  have neg : ∀ q : Int32, 0 ≤ q.toInt → ¬ q < 0 := fun q hq z => by have := Int32.lt_iff_toInt_lt.mp z; simp at this; omega
  have nat : ∀ q : Int32, 0 ≤ q.toInt → (q.toNatClampNeg : Int) = q.toInt := fun q hq => by show ((q.toInt.toNat : Nat) : Int) = _; omega
  obtain ⟨R1, R2, R3, R4⟩ := C.2.2.2.2.2.1
  have hLM : LM * 1 ≤ LM * K.2.2.2.1 := Nat.mul_le_mul_left _ hdd
  have h64 : LM = 64 := rfl
  have hnf : nativeFrameWords "java/lang/System" "arraycopy" 5 + 11 ≤ 50 := by decide +kernel
  refine va_copyl (D := g.1) (tys := tysG g) (A := GA g) C.1 C.2.1 (by rw [C.2.2.1]; exact hl.1.symm) C.2.2.2.1 (C.2.2.2.2.1 _ hw.1) (C.2.2.2.2.1 _ hw.2.1) (C.2.2.2.2.1 _ hw.2.2.1) (C.2.2.2.2.1 _ hw.2.2.2) C.2.2.2.2.2.2.1.1 hW.P (WL_D C.2.2.2.2.2.2.1.2.1) hS ka kb 1 1 (WL_at ha) (WL_at hb) rfl rfl rfl (neg i h1) (neg j h2) (neg n h3) ?_ ?_ (fun _ _ => rfl) (Nat.le_trans hdd R1) ?_ hd (fun H1 locs1 hP1 _ hS1 => kk g p l e R s m args below meth c cells slots Q r σ' C ho hr H1 locs1 ls (WL_back hb ?_ (fun a ha => cellE_C g σ _ _ _ _ _ ha _) hP1) hS1 hl)
  · show _ ≤ N
    have := nat i h1; have := nat n h3; omega
  · show _ ≤ N
    have := nat j h2; have := nat n h3; omega
  · rw [cat_cv]; omega
  · show (Sum.inl _ : va_E) = Sum.inl _
    exact congrArg (fun w => (Sum.inl (g.2.1 1, N, Sum.inr (Sum.inl w)) : va_E)) (funext fun b => by simp [sCpy])
theorem MC.ofF {α : Type} {en : α → Option Value} {y : MethodName} {cc : ByteArray} {nL : Nat} {ret : Option FieldType} {d : Nat} {o : Option (α × Ms)} {σ : Ms} {as : List Value} (hy : plainFor y = true) (hvs : (lg_sl as).length ≤ nL)
    (hen : ∀ r v, en r = some v → (∃ x ty, v = .int x ∧ ret = some ty) ∨ (∃ x, v = .long x ∧ ret = some .long)) (hen0 : ∀ r, en r = none → ret = none)
    (k : VF (en, ret, nL, d, none) cc y.cls o σ 0 (lv_args 0 as) []) : MC en y cc nL ret d o σ as := by
  intro g l r σ' ho
  refine va_MetF (cc := cc) (maxL := nL) (ret := ret) hy rfl ?_
  intro p e s m args below meth c s₁ B hml hv
  obtain ⟨rfl, hG, hW⟩ := hv
  have hts := atoms_spec (ws := Cond.code y cc nL ret :: LW) B.pre
  have hown : s.vm.findClass y.cls = some m.cls := findClass_of_methodNamed B.named
  have hlocks := B.notSynchronized
  have hvs' : (lg_sl (as.map (cv g))).length ≤ nL := by rw [lg_sl_cv]; exact hvs
  have hl := lv_entry (as.map (cv g)) (n := nL) hvs'
  rw [lg_entry_eq]
  rw [lv_args_cv] at hl
  generalize (lg_sl (as.map (cv g)) ++ List.replicate (nL - (lg_sl (as.map (cv g))).length) Slot.unset).toArray = ls at hl ⊢
  refine k g p l e _ s m _ below meth c 0 0 _ r σ' ⟨B.exec, B.bytes, hml, hown, fun w hw => hts w (List.mem_cons_of_mem _ hw), ⟨Nat.le_refl _, Nat.le_refl _, Nat.le_refl _, Nat.le_refl _⟩, hG, trivial⟩ ho ⟨?_, ?_, ?_⟩ s.heap [] ls hW va_S.rf hl
  · intro H locs pc ls hW hS he hd
    exact W.vret B.exec B.bytes (by rw [B.returns]; exact hen0 r he) (fun t ht _ => ⟨⟨congrArg Outcome.returned he.symm, by rw [ht]; exact hW⟩, hS.F ht⟩) hS.2.2 hd hlocks
  · intro H locs pc ls x ty hW hS he hty hn hd
    exact W.zret B.exec B.bytes (by rw [B.returns]; exact hty) hn (fun t ht _ => ⟨⟨congrArg Outcome.returned he.symm, by rw [ht]; exact hW⟩, hS.F ht⟩) hS.2.2 hd hlocks
  · intro H locs pc ls x hW hS he hty hd
    exact W.lret B.exec B.bytes (by rw [B.returns]; exact hty) (fun t ht _ => ⟨⟨congrArg Outcome.returned he.symm, by rw [ht]; exact hW⟩, hS.F ht⟩) hS.2.2 hd hlocks
theorem MC.iF {y : MethodName} {cc : ByteArray} {nL : Nat} {ty : FieldType} {d : Nat} {o : Option (Int32 × Ms)} {σ : Ms} {as : List Value} (hy : plainFor y = true) (hvs : (lg_sl as).length ≤ nL) (k : VF (enI, some ty, nL, d, none) cc y.cls o σ 0 (lv_args 0 as) []) : MC enI y cc nL (some ty) d o σ as := MC.ofF hy hvs enI_ok.1 enI_ok.2 k
theorem MC.lF {y : MethodName} {cc : ByteArray} {nL : Nat} {d : Nat} {o : Option (Int64 × Ms)} {σ : Ms} {as : List Value} (hy : plainFor y = true) (hvs : (lg_sl as).length ≤ nL) (k : VF (enL, some .long, nL, d, none) cc y.cls o σ 0 (lv_args 0 as) []) : MC enL y cc nL (some .long) d o σ as := MC.ofF hy hvs enL_ok.1 enL_ok.2 k

