theorem va_AOA.of {t : FieldType} {A : Array Value} {U : State} (h : (Cond.arrayOver (.array t)).before A U = true) : va_AOA t U := h
theorem va_AOA.moved {t : FieldType} {u U : State} (hvm : u.vm.Alike U.vm) (h : va_AOA t u) : va_AOA t U := by
  obtain ⟨comp, c, k, h1, h2, h3, h4, h5⟩ := arrayOverA_spec h
  obtain ⟨k', hk', he⟩ := hvm.2.2 _ _ h3
  have hb : u.vm.bare = U.vm.bare := by first | exact hvm.bare_eq | exact hvm.bare_eq.symm
  have e1 := va_idx_bare U.vm comp
  have e2 := va_idx_bare u.vm comp
  rw [hb] at e2
  have hi := e1.symm.trans (e2.trans h2)
  have hkind : k'.kind = .array comp (.array t) := by rw [he]; exact h4
  have f1 : U.vm.findClass (FieldType.array t).toString = some comp := by rw [hvm.findClass]; exact h1
  have f2 : U.vm.findClass ("[" ++ (FieldType.array t).toString) = some c := by rw [hvm.findClass]; exact h5
  unfold va_AOA Cond.before Cond.holds
  simp only [Cond.value]
  rw [f1, Option.bind_some]
  refine (congrArg (fun o : Option Nat => (o.bind (fun c => (U.vm.classes[c]?).map fun (k : Class) => match k.kind with | .array _ ty => decide (ty = FieldType.array t) && decide (U.vm.findClass ("[" ++ (FieldType.array t).toString) = some c) | _ => false) == some true)) hi).trans ?_
  simp [hk', hkind, f2]
abbrev IG : Type := va_G × (Nat → ClassId)
def tysI (g : IG) : List (ClassId × FieldType) := [(g.2 0, .int), (g.2 1, .long), (g.2 2, .byte), (g.2 3, .array .long), (g.2 4, .object RX0), (g.2 5, .object RX5)]
def nestI : List (String × Nat × MethodName) := [(RX11, 18, yX8_init), (RX11, 25, yX0_init), (RX11, 35, yX5_init), (RX11, 53, yX4_init), (RX11, 60, yX10_init), (RX11, 67, yX7_init), (RX11, 74, yX2_init)]
def KS (g : IG) (U : State) : Prop := va_K g.1 vwCl (tysI g) U ∧ (∀ q ∈ nestI, va_Nw (.methodLinkNest q.1 q.2.1 q.2.2 RX11) U) ∧ va_AO RX0 U ∧ va_AO RX5 U ∧ va_AOA .long U
theorem KS.calling {g : IG} {U : State} {f : JFrame} {mk : MethodId} {a : Array Value} (h : KS g U) : KS g (U.calling f mk a) := ⟨va_K.moved (u := U) (U := U.calling f mk a) (Vm.Alike.refl U.vm) h.1, fun q hq => va_Nw.same (u := U) rfl rfl (h.2.1 q hq), va_AO.moved (u := U) (U := U.calling f mk a) (Vm.Alike.refl U.vm) h.2.2.1, va_AO.moved (u := U) (U := U.calling f mk a) (Vm.Alike.refl U.vm) h.2.2.2.1, va_AOA.moved (u := U) (U := U.calling f mk a) (Vm.Alike.refl U.vm) h.2.2.2.2⟩
theorem KS.next {g : IG} {s U : State} (h : KS g s) (hW : s.WarmedH U.vm) : KS g U := ⟨va_K.moved hW.alike h.1, fun q hq => va_Nw.warmM hW (h.2.1 q hq), va_AO.moved hW.alike h.2.2.1, va_AO.moved hW.alike h.2.2.2.1, va_AOA.moved hW.alike h.2.2.2.2⟩
/-- worlds as sets -/
theorem va_P.mem {D : va_G} {cl : List vw_C} {ws ws' : va_W} {H : Heap} (h : va_P D cl ws H) (hm : ∀ q, q ∈ ws' → q ∈ ws) : va_P D cl ws' H := by
  intro k q hk
  obtain ⟨i, hi⟩ := List.getElem?_of_mem (hm q (List.mem_of_getElem? hk))
  exact h i q hi
theorem va_D.iff {A : Nat → Prop} {ws : va_W} : va_D A ws ↔ (ws.map Prod.fst).Nodup ∧ ∀ q ∈ ws, A q.1 := by
  constructor
  · intro h
    refine ⟨?_, fun q hq => ?_⟩
    · rw [List.Nodup, List.pairwise_iff_getElem]
      intro i j hi hj hij e
      simp only [List.length_map] at hi hj
      simp only [List.getElem_map] at e
      have := h.1 i j ws[i] ws[j] (List.getElem?_eq_getElem hi) (List.getElem?_eq_getElem hj) e
      omega
    · obtain ⟨i, hi⟩ := List.getElem?_of_mem hq
      exact h.2 i q hi
  · rintro ⟨h1, h2⟩
    refine ⟨fun i j p q hi hj e => ?_, fun k q hk => h2 q (List.mem_of_getElem? hk)⟩
    have hlt : i < (ws.map Prod.fst).length := by
      rw [List.length_map]
      exact (List.getElem?_eq_some_iff.mp hi).1
    have heq : (ws.map Prod.fst)[i]? = (ws.map Prod.fst)[j]? := by
      rw [List.getElem?_map, List.getElem?_map, hi, hj]
      simp [e]
    first | exact (List.getElem?_inj hlt h1).mp heq | exact List.getElem?_inj hlt h1 heq
theorem va_D.perm {A : Nat → Prop} {ws ws' : va_W} (h : va_D A ws) (hp : ws.Perm ws') : va_D A ws' := by
  obtain ⟨h1, h2⟩ := va_D.iff.mp h
  exact va_D.iff.mpr ⟨(hp.map Prod.fst).nodup_iff.mp h1, fun q hq => h2 q (hp.mem_iff.mpr hq)⟩
theorem va_P.perm {D : va_G} {cl : List vw_C} {ws ws' : va_W} {H : Heap} (h : va_P D cl ws H) (hp : ws.Perm ws') : va_P D cl ws' H := h.mem (fun q hq => hp.mem_iff.mpr hq)
/-- a constructor's walk: X the cells in sight, T the others -/
abbrev IK : Type := Nat × Nat × Nat × Nat
def CI (K : IK) (cc : ByteArray) (own : String) (g : IG) (A : Nat → Prop) (p : Program) (R : Room) (s : State) (m : MethodId) (args : Array Value) (meth : Method) (c : Code) : Prop :=
  p.tables.exec = Jvm.exec ∧ c.code = cc ∧ c.maxLocals = K.1 ∧ s.vm.findClass own = some m.cls ∧ (∀ w ∈ LW, w.before args s = true) ∧ (K.2.1 ≤ R.frames ∧ LM * K.2.1 ≤ R.locals ∧ K.2.2.1 ≤ R.cells ∧ K.2.2.2 ≤ R.slots) ∧ KS g s ∧ (∀ q : Nat, s.heap.size ≤ q → A q) ∧ (own ≠ RL → meth.name = "<init>")
def VI (K : IK) (cc : ByteArray) (own : String) (g : IG) (Post : va_W → Prop) (X T : va_W) (kc ks : Nat) (pc : Nat) (lv : List (Nat × Value)) (st : List Value) : Prop :=
  ∀ (A : Nat → Prop) (p : Program) (l : Launch) (e : Env) (R : Room) (s : State) (m : MethodId) (args : Array Value) (below : List Frame) (meth : Method) (c : Code) (Q : State → Prop), CI K cc own g A p R s m args meth c →
    (∀ (H : Heap) (locs : List Loc) (pc : Nat) (ls : Array Slot) (lv : List (Nat × Value)) (ws : va_W) (kc ks : Nat), Post ws → va_P g.1 vwCl ws H → va_D A ws → va_S A s.heap H locs → kc ≤ K.2.2.1 → ks ≤ K.2.2.2 → decode cc pc = .ok (.return_, 1) → W p l e R s m args below meth c H locs kc ks Q (F0 m pc ls [])) →
    ∀ (H : Heap) (locs : List Loc) (ls : Array Slot), va_P g.1 vwCl (X ++ T) H → va_D A (X ++ T) → va_S A s.heap H locs → lv_has ls K.1 lv → W p l e R s m args below meth c H locs kc ks Q (F0 m pc ls st)
def rmI (d mc ms : Nat) : Room := { frames := d, cells := mc, slots := ms, locals := LM * d }
def MI (y : MethodName) (cc : ByteArray) (nL d mc ms ci : Nat) (fs : List Value) (Post : IG → Nat → va_W → Prop) : Prop :=
  ∀ (g : IG) (l : Launch) (h0 sz : Nat), Met l y (.code y cc nL none :: LW) (rmI d mc ms) (va_Pc [.ref h0] (fun U => U.heap.size = sz ∧ KS g U ∧ va_P g.1 vwCl [(h0, .inr (ci, fs))] U.heap)) (va_Qv (fun _ : va_W => True) (fun ws t => Post g h0 ws ∧ va_P g.1 vwCl ws t.heap ∧ va_D (va_A [(h0, .inr (ci, fs))] sz) ws) (va_A [(h0, .inr (ci, fs))] sz)) mc ms (va_A [(h0, .inr (ci, fs))] sz)
theorem va_D.single {A : Nat → Prop} {q : Nat × va_E} (h : A q.1) : va_D A [q] := va_D.iff.mpr ⟨by simp, fun x hx => by simp at hx; rw [hx]; exact h⟩
theorem MI.of {y : MethodName} {cc : ByteArray} {nL d mc ms ci : Nat} {fs : List Value} {Post : IG → Nat → va_W → Prop} (hy : plainName y.cls = true) (hn : y.name = "<init>") (hRL : y.cls ≠ RL) (hL : 1 ≤ nL)
    (k : ∀ (g : IG) (h0 : Nat), VI (nL, d, mc, ms) cc y.cls g (Post g h0) [(h0, .inr (ci, fs))] [] 0 0 0 [(0, .ref h0)] []) : MI y cc nL d mc ms ci fs Post := by
  intro g l h0 sz
  refine Met.ofW (cc := cc) (maxL := nL) (ret := none) hy rfl ?_
  intro p e s m args below meth c s₁ B hml hv
  obtain ⟨rfl, hsz, hK, hP⟩ := hv
  have hts := atoms_spec (ws := Cond.code y cc nL none :: LW) B.pre
  have hown : s.vm.findClass y.cls = some m.cls := findClass_of_methodNamed B.named
  have hlocks := B.notSynchronized
  have hin : meth.name = "<init>" := (name_of_methodNamed B.named B.method).1.trans hn
  subst hsz
  have hl := lv_entry ([.ref h0]) (n := nL) hL
  rw [lg_entry_eq]
  generalize (lg_sl ([.ref h0]) ++ List.replicate (nL - (lg_sl ([.ref h0])).length) Slot.unset).toArray = ls at hl ⊢
  refine k g h0 (va_A [(h0, .inr (ci, fs))] s.heap.size) p l e _ s m _ below meth c _ ⟨B.exec, B.bytes, hml, hown, fun w hw => hts w (List.mem_cons_of_mem _ hw), ⟨Nat.le_refl _, Nat.le_refl _, Nat.le_refl _, Nat.le_refl _⟩, hK, fun q h => Or.inr h, fun _ => hin⟩ ?_ s.heap [] ls hP (va_D.single (Or.inl ⟨0, _, rfl⟩)) va_S.rf hl
  intro H locs pc ls lv ws kc ks hPost hP hD hS h1 h2 hd
  refine W.widen (k := mc) (n := ms) h1 h2 ?_
  exact W.vret B.exec B.bytes B.returns (fun t ht _ => ⟨⟨ws, rfl, trivial, hPost, by rw [ht]; exact hP, hD⟩, hS.F ht⟩) hS.2.2 hd hlocks
theorem KS.blind {g : IG} {as : List Value} {sz : Nat} {P : Heap → Prop} : FrameBlind (va_Pc as (fun U => U.heap.size = sz ∧ KS g U ∧ P U.heap)) := fun _ _ _ _ h => ⟨h.1, h.2.1, h.2.2.1.calling, h.2.2.2⟩
section VIROWS
variable {K : IK} {cc : ByteArray} {own : String} {g : IG} {Post : va_W → Prop} {X T : va_W} {kc ks : Nat} {pc : Nat} {lv : List (Nat × Value)} {st : List Value}
theorem i_aload_n {k : Fin 4} {i x : Nat} (hd : decode cc pc = .ok (.aload_n k, 1)) (q : Nat) (hi : (k : Nat) = i) (hq : lv[q]? = some (i, .ref x)) (kk : VI K cc own g Post X T kc ks (pc + 1) lv (.ref x :: st)) : VI K cc own g Post X T kc ks pc lv st := fun A p l e R s m args below meth c Q C hr H locs ls hP hD hS hl => lv_aload_n C.1 C.2.1 hd hi (lv_at hl q hq) (kk A p l e R s m args below meth c Q C hr H locs ls hP hD hS hl)
theorem i_iload_n {k : Fin 4} {i : Nat} {x : Int32} (hd : decode cc pc = .ok (.iload_n k, 1)) (q : Nat) (hi : (k : Nat) = i) (hq : lv[q]? = some (i, .int x)) (kk : VI K cc own g Post X T kc ks (pc + 1) lv (.int x :: st)) : VI K cc own g Post X T kc ks pc lv st := fun A p l e R s m args below meth c Q C hr H locs ls hP hD hS hl => lv_iload_n C.1 C.2.1 hd hi (lv_at hl q hq) (kk A p l e R s m args below meth c Q C hr H locs ls hP hD hS hl)
theorem i_iconst {n : Int} {v : Int32} (hd : decode cc pc = .ok (.iconst n, 1)) (hv : Int32.ofInt n = v) (kk : VI K cc own g Post X T kc ks (pc + 1) lv (.int v :: st)) : VI K cc own g Post X T kc ks pc lv st := fun A p l e R s m args below meth c Q C hr H locs ls hP hD hS hl => lv_iconst C.1 C.2.1 hd hv (kk A p l e R s m args below meth c Q C hr H locs ls hP hD hS hl)
theorem i_lconst {n : Fin 2} {v : Int64} (hd : decode cc pc = .ok (.lconst n, 1)) (hv : Int64.ofNat (n : Nat) = v) (kk : VI K cc own g Post X T kc ks (pc + 1) lv (.long v :: st)) : VI K cc own g Post X T kc ks pc lv st := fun A p l e R s m args below meth c Q C hr H locs ls hP hD hS hl => lv_lconst C.1 C.2.1 hd hv (kk A p l e R s m args below meth c Q C hr H locs ls hP hD hS hl)
theorem i_bipush {n : Int} {v : Int32} (hd : decode cc pc = .ok (.bipush n, 2)) (hv : (Int8.ofInt n).toInt32 = v) (kk : VI K cc own g Post X T kc ks (pc + 2) lv (.int v :: st)) : VI K cc own g Post X T kc ks pc lv st := fun A p l e R s m args below meth c Q C hr H locs ls hP hD hS hl => lv_bipush C.1 C.2.1 hd hv (kk A p l e R s m args below meth c Q C hr H locs ls hP hD hS hl)
theorem i_sipush {n : Int} {v : Int32} (hd : decode cc pc = .ok (.sipush n, 3)) (hv : (Int16.ofInt n).toInt32 = v) (kk : VI K cc own g Post X T kc ks (pc + 3) lv (.int v :: st)) : VI K cc own g Post X T kc ks pc lv st := fun A p l e R s m args below meth c Q C hr H locs ls hP hD hS hl => lv_sipush C.1 C.2.1 hd hv (kk A p l e R s m args below meth c Q C hr H locs ls hP hD hS hl)
theorem i_istore_n {k0 : Fin 4} {i : Nat} {x : Int32} {lv' : List (Nat × Value)} (hd : decode cc pc = .ok (.istore_n k0, 1)) (hi : (k0 : Nat) = i) (hn : i < K.1) (hq : (i, Value.int x) :: lv.filter (fun q => !(q.1 == i) && !(q.1 + 1 == i && q.2.category == 2)) = lv') (kk : VI K cc own g Post X T kc ks (pc + 1) lv' st) : VI K cc own g Post X T kc ks pc lv (.int x :: st) := fun A p l e R s m args below meth c Q C hr H locs ls hP hD hS hl => lv_istore_n C.1 C.2.1 hd hi hl hn hq (fun ls hl => kk A p l e R s m args below meth c Q C hr H locs ls hP hD hS hl)
theorem i_astore_n {k0 : Fin 4} {i : Nat} {x : Nat} {lv' : List (Nat × Value)} (hd : decode cc pc = .ok (.astore_n k0, 1)) (hi : (k0 : Nat) = i) (hn : i < K.1) (hq : (i, Value.ref x) :: lv.filter (fun q => !(q.1 == i) && !(q.1 + 1 == i && q.2.category == 2)) = lv') (kk : VI K cc own g Post X T kc ks (pc + 1) lv' st) : VI K cc own g Post X T kc ks pc lv (.ref x :: st) := fun A p l e R s m args below meth c Q C hr H locs ls hP hD hS hl => lv_astore_n C.1 C.2.1 hd hi hl hn hq (fun ls hl => kk A p l e R s m args below meth c Q C hr H locs ls hP hD hS hl)
theorem i_iinc {i : Nat} {n : Int} {x v : Int32} {lv' : List (Nat × Value)} (hd : decode cc pc = .ok (.iinc i n, 3)) (q : Nat) (hx : lv[q]? = some (i, .int x)) (hv : x + Int32.ofInt n = v) (hn : i < K.1) (hq : (i, Value.int v) :: lv.filter (fun q => !(q.1 == i) && !(q.1 + 1 == i && q.2.category == 2)) = lv') (kk : VI K cc own g Post X T kc ks (pc + 3) lv' st) : VI K cc own g Post X T kc ks pc lv st := fun A p l e R s m args below meth c Q C hr H locs ls hP hD hS hl => lv_iinc (k := q) C.1 C.2.1 hd hl hx hv hn hq (fun ls hl => kk A p l e R s m args below meth c Q C hr H locs ls hP hD hS hl)
theorem i_icmp_geT {x y : Int32} {off : Int} {tgt : Nat} (hd : decode cc pc = .ok (.if_icmp .ge off, 3)) (ht : (pc : Int) + off = (tgt : Int)) (hc : y ≤ x) (kk : VI K cc own g Post X T kc ks tgt lv st) : VI K cc own g Post X T kc ks pc lv (.int y :: .int x :: st) := fun A p l e R s m args below meth c Q C hr H locs ls hP hD hS hl => lv_icmp_ge C.1 C.2.1 hd ht (fun _ => kk A p l e R s m args below meth c Q C hr H locs ls hP hD hS hl) (fun h => absurd hc (by simpa using h))
theorem i_icmp_geF {x y : Int32} {off : Int} {tgt : Nat} (hd : decode cc pc = .ok (.if_icmp .ge off, 3)) (ht : (pc : Int) + off = (tgt : Int)) (hc : ¬ y ≤ x) (kk : VI K cc own g Post X T kc ks (pc + 3) lv st) : VI K cc own g Post X T kc ks pc lv (.int y :: .int x :: st) := fun A p l e R s m args below meth c Q C hr H locs ls hP hD hS hl => lv_icmp_ge C.1 C.2.1 hd ht (fun h => absurd (by simpa using h) hc) (fun _ => kk A p l e R s m args below meth c Q C hr H locs ls hP hD hS hl)
theorem i_goto {off : Int} {tgt : Nat} (hd : decode cc pc = .ok (.goto off, 3)) (ht : (pc : Int) + off = (tgt : Int)) (kk : VI K cc own g Post X T kc ks tgt lv st) : VI K cc own g Post X T kc ks pc lv st := fun A p l e R s m args below meth c Q C hr H locs ls hP hD hS hl => lv_goto C.1 C.2.1 hd ht (kk A p l e R s m args below meth c Q C hr H locs ls hP hD hS hl)
theorem i_dup {a : Value} (hd : decode cc pc = .ok (.dup, 1)) (h1 : a.category = 1) (kk : VI K cc own g Post X T kc ks (pc + 1) lv (a :: a :: st)) : VI K cc own g Post X T kc ks pc lv (a :: st) := fun A p l e R s m args below meth c Q C hr H locs ls hP hD hS hl => lv_dup C.1 C.2.1 hd h1 (kk A p l e R s m args below meth c Q C hr H locs ls hP hD hS hl)
theorem i_ret (hd : decode cc pc = .ok (.return_, 1)) (h1 : kc ≤ K.2.2.1) (h2 : ks ≤ K.2.2.2) (hp : Post (X ++ T)) : VI K cc own g Post X T kc ks pc lv [] := fun A p l e R s m args below meth c Q C hr H locs ls hP hD hS hl => hr H locs pc ls lv (X ++ T) kc ks hp hP hD hS h1 h2 hd
theorem i_obj {idx x : Nat} (hd : decode cc pc = .ok (.invokespecial idx, 3)) (h1 : Cond.methodLink own idx objectInit ∈ LW) (h2 : Cond.instanceMethod objectInit ∈ LW) (h3 : Cond.code objectInit ⟨#[0xb1]⟩ 1 none ∈ LW) (hdd : 1 ≤ K.2.1) (hcat : (st.map fun v => v.category).sum ≤ 8) (kk : VI K cc own g Post X T kc ks (pc + 3) lv st) : VI K cc own g Post X T kc ks pc lv (.ref x :: st) := by
  intro A p l e R s m args below meth c Q C hr H locs ls hP hD hS hl
  obtain ⟨R1, R2, R3, R4⟩ := C.2.2.2.2.2.1
  have h4 : LM * 1 ≤ LM * K.2.1 := Nat.mul_le_mul_left _ hdd
  have h5 : LM = 64 := rfl
  refine W.objInit C.1 C.2.1 C.2.2.2.1 (C.2.2.2.2.1 _ h1) (C.2.2.2.2.1 _ h2) (C.2.2.2.2.1 _ h3) rfl (by rw [C.2.2.1]; exact hl.1) rfl hd (Nat.le_trans hdd R1) ?_ ?_
  · show 2 * 0 + _ + 12 ≤ _
    omega
  · exact W.eq (g2 := F0 m (pc + 3) ls st) rfl (kk A p l e R s m args below meth c Q C hr H locs ls hP hD hS hl)
theorem inX {X T : va_W} {i : Nat} {q : Nat × va_E} (h : X[i]? = some q) : (X ++ T)[i]? = some q := by
  rw [List.getElem?_append_left (List.getElem?_eq_some_iff.mp h).1]
  exact h
theorem setX {X T : va_W} {i : Nat} {q q' : Nat × va_E} (h : X[i]? = some q) : (X ++ T).set i q' = X.set i q' ++ T := by
  rw [List.set_append_left _ _ (List.getElem?_eq_some_iff.mp h).1]
theorem i_get {idx ci j a i : Nat} {C0 : String} {T0 : u_T} {N0 : Nat} {ty : Nat → FieldType} {fs : List Value} {v : Value} (hd : decode cc pc = .ok (.getfield idx, 3)) (hc : CF ci C0 T0 N0 ty) (hj : j < N0) (hlk : Cond.fieldLink own idx (T0 j).1 (T0 j).2.1 (T0 j).2.2.1 ∈ LW) (hx : X[i]? = some (a, .inr (ci, fs))) (hv : fs[j]? = some v) (kk : VI K cc own g Post X T kc ks (pc + 3) lv (v :: st)) : VI K cc own g Post X T kc ks pc lv (.ref a :: st) := by
  intro A p l e R s m args below meth c Q C hr H locs ls hP hD hS hl
  obtain ⟨c1, c2, c3, c4, c5⟩ := hc
  exact va_get (D := g.1) (ci := ci) (tys := tysI g) (v := v) C.1 C.2.1 (Ts := LW) C.2.2.2.2.1 c3 C.2.2.2.1 C.2.2.2.2.2.2.1.1 hP i (inX hx) c1 j hj (C.2.2.2.2.1 _ hlk) (fun _ h9 => h9) hv hd (kk A p l e R s m args below meth c Q C hr H locs ls hP hD hS hl)
theorem i_put {idx ci j a i : Nat} {C0 : String} {T0 : u_T} {N0 : Nat} {ty : Nat → FieldType} {fs : List Value} {v : Value} {X' : va_W} (hd : decode cc pc = .ok (.putfield idx, 3)) (hc : CF ci C0 T0 N0 ty) (hj : j < N0) (hlk : Cond.fieldLink own idx (T0 j).1 (T0 j).2.1 (T0 j).2.2.1 ∈ LW) (hx : X[i]? = some (a, .inr (ci, fs))) (hown : (T0 j).1 = own) (hRL : own ≠ RL) (hn : narrow (ty j) v = v) (hfit : fits (ty j) v = true) (hl9 : j < fs.length) (hX : X.set i (a, .inr (ci, fs.set j v)) = X') (kk : VI K cc own g Post X' T kc ks (pc + 3) lv st) : VI K cc own g Post X T kc ks pc lv (v :: .ref a :: st) := by
  intro A p l e R s m args below meth c Q C hr H locs ls hP hD hS hl
  obtain ⟨c1, c2, c3, c4, c5⟩ := hc
  subst hX
  by_cases hf : (T0 j).2.2.2 = true
  · refine va_putF (D := g.1) (ci := ci) (tys := tysI g) (v := v) C.1 C.2.1 (Ts := LW) C.2.2.2.2.1 c3 ty c4 c5 C.2.2.2.1 C.2.2.2.2.2.2.1.1 hP hD hS i (inX hx) c1 j hj (C.2.2.2.2.1 _ hlk) (fun _ h9 => h9) hf (C.2.2.2.2.2.2.2.2 hRL) hown (c4 j hj) hn hfit hl9 hd (fun H1 locs1 hP1 hD1 hS1 => ?_)
    rw [setX hx] at hP1 hD1
    exact kk A p l e R s m args below meth c Q C hr H1 locs1 ls hP1 hD1 hS1 hl
  · refine va_put (D := g.1) (ci := ci) (tys := tysI g) (v := v) C.1 C.2.1 (Ts := LW) C.2.2.2.2.1 c3 ty c4 c5 C.2.2.2.1 C.2.2.2.2.2.2.1.1 hP hD hS i (inX hx) c1 j hj (C.2.2.2.2.1 _ hlk) (fun _ h9 => h9) (by simpa using hf) (c4 j hj) hn hfit hl9 hd (fun H1 locs1 hP1 hD1 hS1 => ?_)
    rw [setX hx] at hP1 hD1
    exact kk A p l e R s m args below meth c Q C hr H1 locs1 ls hP1 hD1 hS1 hl
theorem perm_new {X T : va_W} {q : Nat × va_E} : ((X ++ T) ++ [q]).Perm ((X ++ [q]) ++ T) := by
  rw [List.append_assoc, List.append_assoc]
  exact List.Perm.append_left X (List.perm_append_comm)
theorem i_newa {atype : ArrayType} {ty : FieldType} {i0 : Nat} {n : Int32} {N' : Nat} {a0 : vp_A} (hd : decode cc pc = .ok (.newarray atype, 2)) (hw : Cond.arrayClass ty ∈ LW) (hty : newarray.typeOf atype = ty) (hi : (tysI g)[i0]? = some (g.2 i0, ty)) (hRA : ∀ (U : State) (c1 c2 : ClassId), va_RA U c1 ty → va_RA U c2 ty → c1 = c2) (ha : ∀ cA : ClassId, vp_cell cA a0 = arrV cA N' (fun _ => defaultValue ty)) (hn : ¬ n < 0) (hN : n.toNatClampNeg = N') (hbytes : N' * componentBytes ty ≤ 536870912) (h1 : kc + 1 ≤ K.2.2.1) (h2 : ks + N' ≤ K.2.2.2)
    (kk : ∀ q, VI K cc own g Post (X ++ [(q, .inl (g.2 i0, a0))]) T (kc + 1) (ks + N') (pc + 2) lv (.ref q :: st)) : VI K cc own g Post X T kc ks pc lv (.int n :: st) := by
  intro A p l e R s m args below meth c Q C hr H locs ls hP hD hS hl
  obtain ⟨R1, R2, R3, R4⟩ := C.2.2.2.2.2.1
  refine va_newa (D := g.1) (tys := tysI g) C.1 C.2.1 (by rw [hty]; exact C.2.2.2.2.1 _ hw) hty C.2.2.2.2.2.2.1.1 hP hD hS C.2.2.2.2.2.2.2.1 ha hn hN hbytes (Nat.le_trans h1 R3) (Nat.le_trans h2 R4) hd (fun q cA H1 hK1 hP1 hD1 hS1 => ?_)
  have e1 : cA = g.2 i0 := hRA s _ _ (hK1.2 6 _ rfl).2 (C.2.2.2.2.2.2.1.1.2 i0 _ hi).2
  subst e1
  exact kk q A p l e R s m args below meth c Q C hr H1 locs ls (hP1.perm perm_new) (hD1.perm perm_new) hS1 hl
theorem i_newq {C0 : String} {i0 idx : Nat} {n : Int32} {N' : Nat} (hd : decode cc pc = .ok (.anewarray idx, 3)) (hw : Cond.classLink own idx C0 ∈ LW) (hAO : ∀ U, KS g U → va_AO C0 U) (hi : (tysI g)[i0]? = some (g.2 i0, .object C0)) (hn : ¬ n < 0) (hN : n.toNatClampNeg = N') (hbytes : N' * 4 ≤ 536870912) (h1 : kc + 1 ≤ K.2.2.1) (h2 : ks + N' ≤ K.2.2.2)
    (kk : ∀ q, VI K cc own g Post (X ++ [(q, .inl (g.2 i0, N', .inr (.inr (.inr (.inr (fun _ => none))))))]) T (kc + 1) (ks + N') (pc + 3) lv (.ref q :: st)) : VI K cc own g Post X T kc ks pc lv (.int n :: st) := by
  intro A p l e R s m args below meth c Q C hr H locs ls hP hD hS hl
  obtain ⟨R1, R2, R3, R4⟩ := C.2.2.2.2.2.1
  refine va_newq (D := g.1) (tys := tysI g) C.1 C.2.1 C.2.2.2.1 (C.2.2.2.2.1 _ hw) (hAO s C.2.2.2.2.2.2.1) C.2.2.2.2.2.2.1.1 hP hD hS C.2.2.2.2.2.2.2.1 hn hN hbytes (Nat.le_trans h1 R3) (Nat.le_trans h2 R4) hd (fun q cA H1 hK1 hP1 hD1 hS1 => ?_)
  have e1 : cA = g.2 i0 := by
    obtain ⟨_, _, -, -, -, f1⟩ := (hK1.2 6 _ rfl).2
    obtain ⟨_, _, -, -, -, f2⟩ := (C.2.2.2.2.2.2.1.1.2 i0 _ hi).2
    exact Option.some.inj (f1.symm.trans f2)
  subst e1
  exact kk q A p l e R s m args below meth c Q C hr H1 locs ls (hP1.perm perm_new) (hD1.perm perm_new) hS1 hl
theorem i_iast {a i t : Nat} {n : Nat} {f : Nat → Int32} {j x : Int32} {X' : va_W} (hd : decode cc pc = .ok (.iastore, 1)) (hx : X[i]? = some (a, .inl (g.2 0, n, .inl f))) (hin : vp_in j n) (hX : X.set i (a, .inl (g.2 0, n, .inl (upd f j.toNatClampNeg x))) = X') (kk : VI K cc own g Post X' T kc ks (pc + 1) lv st) : VI K cc own g Post X T kc ks pc lv (.int x :: .int j :: .ref a :: st) := by
  intro A p l e R s m args below meth c Q C hr H locs ls hP hD hS hl
  subst hX
  refine va_iast (D := g.1) (tys := tysI g) C.1 C.2.1 C.2.2.2.2.2.2.1.1 hP hD hS i 0 (inX hx) rfl hin hd (fun H1 locs1 hP1 hD1 hS1 => ?_)
  rw [setX hx] at hP1 hD1
  exact kk A p l e R s m args below meth c Q C hr H1 locs1 ls hP1 hD1 hS1 hl
end VIROWS
