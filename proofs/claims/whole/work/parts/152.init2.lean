section VIROWS2
variable {K : IK} {cc : ByteArray} {own : String} {g : IG} {Post : va_W → Prop} {X T : va_W} {kc ks : Nat} {pc : Nat} {lv : List (Nat × Value)} {st : List Value}
theorem i_mna {idx : Nat} {n k : Int32} {N' K' : Nat} (hd : decode cc pc = .ok (.multianewarray idx 2, 4)) (hw : Cond.classLink own idx ("[" ++ (FieldType.array .long).toString) ∈ LW) (hw2 : Cond.arrayClass .long ∈ LW) (hn : ¬ n < 0) (hk : ¬ k < 0) (hN : n.toNatClampNeg = N') (hM : k.toNatClampNeg = K') (hb1 : N' * 4 ≤ 536870912) (hb2 : K' * 8 ≤ 536870912) (h1 : kc + (1 + N') ≤ K.2.2.1) (h2 : ks + (N' + N' * K') ≤ K.2.2.2)
    (kk : ∀ (q : Nat) (r : Nat → Nat), VI K cc own g Post (X ++ ((q, .inl (g.2 3, N', .inr (.inr (.inr (.inr (fun i => if i < N' then some (r i) else none)))))) :: (List.range N').map (fun i => (r i, .inl (g.2 1, K', .inr (.inl (fun _ => 0))))))) T (kc + 1 + N') (ks + N' + N' * K') (pc + 4) lv (.ref q :: st)) : VI K cc own g Post X T kc ks pc lv (.int k :: .int n :: st) := by
  intro A p l e R s m args below meth c Q C hr H locs ls hP hD hS hl
  obtain ⟨R1, R2, R3, R4⟩ := C.2.2.2.2.2.1
  have hKK := C.2.2.2.2.2.2.1
  refine va_mna (D := g.1) (cl := vwCl) (X := X ++ T) (L := []) (f := fun _ => .inl (g.2 1, K', .inr (.inl (fun _ => 0)))) (z := (K', .inr (.inl (fun _ => 0)))) (tys := tysI g) C.1 C.2.1 C.2.2.2.1 (C.2.2.2.2.1 _ hw) hKK.2.2.2.2 (C.2.2.2.2.1 _ hw2) (cy := g.2 1) (hKK.1.2 1 _ rfl).2 hKK.1 (by simpa [va_pl] using hP) (by simpa [va_pl] using hD) hS C.2.2.2.2.2.2.2.1 hn hk hN hM hb1 hb2 (by omega) rfl rfl (Nat.le_trans h1 R3) (Nat.le_trans h2 R4) (fun c => ?_) hd (fun q r cA H1 hinj hnL hK1 hP1 hD1 hS1 => ?_)
  · rw [vp_cell_l, ← arrV_new]
    rfl
  have e1 : cA = g.2 3 := Option.some.inj ((hK1.2 6 _ rfl).2.symm.trans (hKK.1.2 3 _ rfl).2)
  subst e1
  have e2 : va_pl ([] ++ (List.range N').map r) (vr_up (fun _ => .inl (g.2 1, K', .inr (.inl (fun _ => 0)))) ((List.range N').map r) (.inl (g.2 1, K', .inr (.inl (fun _ => 0))))) = (List.range N').map (fun i => (r i, (.inl (g.2 1, K', .inr (.inl (fun _ => 0))) : va_E))) := by
    unfold va_pl vr_up
    rw [List.nil_append, List.map_map]
    congr 1
    funext i
    simp
  rw [e2] at hP1 hD1
  have hperm : (((X ++ T) ++ [(q, (.inl (g.2 3, N', .inr (.inr (.inr (.inr (fun i => if i < N' then some (r i) else none))))) : va_E))]) ++ (List.range N').map (fun i => (r i, (.inl (g.2 1, K', .inr (.inl (fun _ => 0))) : va_E)))).Perm ((X ++ ((q, .inl (g.2 3, N', .inr (.inr (.inr (.inr (fun i => if i < N' then some (r i) else none)))))) :: (List.range N').map (fun i => (r i, .inl (g.2 1, K', .inr (.inl (fun _ => 0))))))) ++ T) := by
    rw [List.append_assoc, List.append_assoc, List.append_assoc]
    exact List.Perm.append_left X List.perm_append_comm
  exact kk q r A p l e R s m args below meth c Q C hr H1 locs ls (hP1.perm hperm) (hD1.perm hperm) hS1 hl
theorem i_aast {C0 : String} {T0 : u_T} {N0 ci a v i i0 n : Nat} {f : Nat → Option Nat} {vs : List Value} {j : Int32} {X' : va_W} (hd : decode cc pc = .ok (.aastore, 1)) (hc : vwCl[ci]? = some (C0, T0, N0)) (hi : (tysI g)[i0]? = some (g.2 i0, .object C0)) (hx : X[i]? = some (a, .inl (g.2 i0, n, .inr (.inr (.inr (.inr f)))))) (hv : (v, .inr (ci, vs)) ∈ T) (hin : vp_in j n) (hX : X.set i (a, .inl (g.2 i0, n, .inr (.inr (.inr (.inr (va_up f j.toNatClampNeg (some v))))))) = X') (kk : VI K cc own g Post X' T kc ks (pc + 1) lv st) : VI K cc own g Post X T kc ks pc lv (.ref v :: .int j :: .ref a :: st) := by
  intro A p l e R s m args below meth c Q C hr H locs ls hP hD hS hl
  subst hX
  obtain ⟨qk, hqk⟩ := List.getElem?_of_mem (List.mem_append_right X hv)
  refine va_astq (D := g.1) (tys := tysI g) (r := (C0, T0, N0)) C.1 C.2.1 C.2.2.2.2.2.2.1.1 hP hD hS i i0 qk ci (inX hx) hi hqk hc hin hd (fun H1 locs1 hP1 hD1 hS1 => ?_)
  rw [setX hx] at hP1 hD1
  exact kk A p l e R s m args below meth c Q C hr H1 locs1 ls hP1 hD1 hS1 hl
/-- new C(): made, and its constructor called -/
theorem i_mk {i1 i2 ci N0 nL' d' mc' ms' : Nat} {C0 : String} {T0 : u_T} {ty : Nat → FieldType} {fs : List Value} {y : MethodName} {cc' : ByteArray} {Post' : IG → Nat → va_W → Prop} (hd1 : decode cc pc = .ok (.new i1, 3)) (hd2 : decode cc (pc + 3) = .ok (.dup, 1)) (hd3 : decode cc (pc + 4) = .ok (.invokespecial i2, 3)) (hc : CF ci C0 T0 N0 ty) (w1 : Cond.classLink own i1 C0 ∈ LW) (w2 : Cond.instantiable C0 N0 ∈ LW) (w3 : Cond.initialized C0 ∈ LW) (hfs : ∀ j, j < N0 → defaultValue (ty j) = vp_V fs j)
    (hM : MI y cc' nL' d' mc' ms' ci fs Post') (w4 : Cond.methodLink own i2 y ∈ LW ∨ ((own, i2, y) ∈ nestI)) (w5 : Cond.instanceMethod y ∈ LW) (w6 : Cond.code y cc' nL' none ∈ LW) (hy : y.cls = C0) (hyn : y.name = "<init>") (hd0 : y.cls ≠ "java/lang/invoke/MethodHandle" ∧ y.cls ≠ "java/lang/invoke/VarHandle" ∧ (parseMethodDescriptor y.desc).map (fun d => d.parameters.length) = some 0) (hnL : nL' ≤ 45) (hdd : d' + 1 ≤ K.2.1) (hcat : ((st.map fun v => v.category).sum + 1) ≤ 8) (h1 : kc + 1 + mc' ≤ K.2.2.1) (h2 : ks + N0 + ms' ≤ K.2.2.2)
    (kk : ∀ q ch, Post' g q ch → VI K cc own g Post X (ch ++ T) (kc + 1 + mc') (ks + N0 + ms') (pc + 7) lv (.ref q :: st)) : VI K cc own g Post X T kc ks pc lv st := by
  intro A p l e R s m args below meth c Q C hr H locs ls hP hD hS hl
  obtain ⟨R1, R2, R3, R4⟩ := C.2.2.2.2.2.1
  obtain ⟨c1, c2, c3, c4, c5⟩ := hc
  have hA := C.2.2.2.2.2.2.2.1
  have hKK := C.2.2.2.2.2.2.1
  refine va_new (D := g.1) (tys := tysI g) (ci := ci) (fs := fs) (C := C0) (T := T0) (N := N0) C.1 C.2.1 (Ts := LW) C.2.2.2.2.1 c3 ty c4 C.2.2.2.1 (C.2.2.2.2.1 _ w1) (C.2.2.2.2.1 _ w2) (C.2.2.2.2.1 _ w3) hKK.1 hP hD hS hA c1 hfs (by omega) (by omega) hd1 (fun q H1 hP1 hD1 hS1 => ?_)
  refine lv_dup C.1 C.2.1 hd2 rfl ?_
  have hq : ((X ++ T) ++ [(q, (.inr (ci, fs) : va_E))])[(X ++ T).length]? = some (q, .inr (ci, fs)) := by simp
  have hPc : va_P g.1 vwCl [(q, .inr (ci, fs))] H1 := hP1.mem (fun x hx => List.mem_append_right _ hx)
  have hqA : A q := hD1.2 _ _ hq
  have hql : q < H1.size := (hP1 _ _ hq).lt
  have hfree : ∀ z, va_A [(q, .inr (ci, fs))] H1.size z → A z := by
    rintro z (⟨k, e9, hk⟩ | hz)
    · match k, hk with
      | 0, hk => cases hk; exact hqA
      | k + 1, hk => simp at hk
    · exact hA z (Nat.le_trans hS1.1 hz)
  have hrun : va_Run p l e R s m args below meth c H1 locs (kc + 1) (ks + N0) mc' ms' (F0 m (pc + 3 + 1) ls (.ref q :: .ref q :: st)) (.ref q :: st) (va_Qv (fun _ : va_W => True) (fun ws t => Post' g q ws ∧ va_P g.1 vwCl ws t.heap ∧ va_D (va_A [(q, .inr (ci, fs))] H1.size) ws) (va_A [(q, .inr (ci, fs))] H1.size) (Value.ref q :: ([] : List Value)).toArray) (va_A [(q, .inr (ci, fs))] H1.size) := by
    have hroom : (rmI d' mc' ms').frames + 1 ≤ R.frames ∧ 8 + (nL' + 11) + (rmI d' mc' ms').locals ≤ R.locals := by
      refine ⟨Nat.le_trans hdd R1, ?_⟩
      have e0 : (rmI d' mc' ms').locals = LM * d' := rfl
      have h3 : LM * (d' + 1) ≤ LM * K.2.1 := Nat.mul_le_mul_left _ hdd
      have h4 : LM * (d' + 1) = LM * d' + LM := Nat.mul_succ _ _
      have h5 : LM = 64 := rfl
      omega
    have hG : GoodIn LW (.code y cc' nL' none :: LW) := GoodIn.ofLW (fun w hw => in_code w6 hw)
    have hpre : PreS s H1 (va_Pc [.ref q] (fun U => U.heap.size = H1.size ∧ KS g U ∧ va_P g.1 vwCl [(q, .inr (ci, fs))] U.heap)) (.ref q :: []) := ⟨KS.blind (P := fun h => va_P g.1 vwCl [(q, .inr (ci, fs))] h), fun U hU hW => ⟨rfl, by rw [hU], hKK.next hW, by rw [hU]; exact hPc⟩⟩
    have hroom2 : 2 * (F0 m (pc + 3 + 1) ls (.ref q :: .ref q :: st)).monitorRoom + ((Value.ref q :: st).map fun v => v.category).sum ≤ 8 := lv_room (by rw [List.map_cons, List.sum_cons]; show 1 + _ ≤ 8; omega)
    rcases w4 with w4 | w4
    · exact va_runI (As := []) (rest := .ref q :: st) ⟨C.1, C.2.1, C.2.2.1, C.2.2.2.1, C.2.2.2.2.1⟩ (hM g l q H1.size) (cwI 0 C.2.2.2.2.1 hG rfl rfl rfl (by rw [hy]; exact C.2.2.2.2.1 _ w3) (C.2.2.2.2.1 _ w4) (C.2.2.2.2.1 _ w5) hyn hd0 hroom) hpre rfl rfl hl.1 rfl hroom2 hd3 ⟨Nat.le_trans h1 R3, Nat.le_trans h2 R4⟩
    · exact va_runIN (As := []) (rest := .ref q :: st) ⟨C.1, C.2.1, C.2.2.1, C.2.2.2.1, C.2.2.2.2.1⟩ (hM g l q H1.size) ⟨va_cnB 0 C.2.2.2.2.1 hG rfl rfl rfl (hKK.2.1 _ w4) (by rw [hy]; exact C.2.2.2.2.1 _ w3) hd0 hroom, hyn, C.2.2.2.2.1 _ w5⟩ hpre rfl rfl hl.1 rfl hroom2 hd3 ⟨Nat.le_trans h1 R3, Nat.le_trans h2 R4⟩
  refine va_callv hrun hS1 (fun z _ h => hfree z h) hfree (fun ch t H2 locs2 ht hvm _ hB hz2 hk2 hS2 => ?_)
  obtain ⟨hpost, hP2, hD2⟩ := hB
  rw [ht] at hP2
  have hne : ∀ x ∈ X ++ T, x.1 < H1.size ∧ ¬ va_A [(q, .inr (ci, fs))] H1.size x.1 := by
    intro x hx
    obtain ⟨i, hi⟩ := List.getElem?_of_mem hx
    have hi' : ((X ++ T) ++ [(q, (.inr (ci, fs) : va_E))])[i]? = some x := inX hi
    have hlt := (hP1 _ _ hi').lt
    refine ⟨hlt, ?_⟩
    rintro (⟨k, e9, hk⟩ | hz)
    · match k, hk with
      | 0, hk =>
        cases hk
        have := hD1.1 i _ _ _ hi' hq rfl
        have := (List.getElem?_eq_some_iff.mp hi).1
        omega
      | k + 1, hk => simp at hk
    · omega
  have hPX : va_P g.1 vwCl (X ++ T) H2 := (hP1.mem (fun x hx => List.mem_append_left _ hx) : va_P g.1 vwCl (X ++ T) H1).kept (fun i x hx => hk2 _ (hne x (List.mem_of_getElem? hx)).1 (hne x (List.mem_of_getElem? hx)).2)
  have hDX : va_D A (X ++ T) := hD
  have hP3 : va_P g.1 vwCl ((X ++ T) ++ ch) H2 := hPX.app hP2
  have hD3 : va_D A ((X ++ T) ++ ch) := va_D.app hDX (hD2.weaken (fun _ x _ h => hfree x.1 h)) (fun i j x z hx hz e => (hne x (List.mem_of_getElem? hx)).2 (by rw [e]; exact hD2.2 _ _ hz))
  have hperm : ((X ++ T) ++ ch).Perm (X ++ (ch ++ T)) := by
    rw [List.append_assoc]
    exact List.Perm.append_left X List.perm_append_comm
  exact kk q ch hpost A p l e R s m args below meth c Q C hr H2 locs2 ls (hP3.perm hperm) (hD3.perm hperm) hS2 hl
end VIROWS2
