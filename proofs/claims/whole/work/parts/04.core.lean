/-- links of nest mates' private methods: (own class, place, method) -/
def nestL : List (String × Nat × MethodName) := [(RX0, 60, yX11_isIn), (RX10, 29, yX11_isIn), (RX7, 56, yX11_isIn), (RX4, 64, yX11_other), (RX7, 100, yX11_other)]
/-- the String constants: (own class, place, text, number) -/
def strL : List (String × Nat × String × Nat) := [(RX1, 20, "sprig", 0), (RX1, 32, "heap", 1), (RX1, 37, "bet", 2), (RX1, 57, "on", 3), (RX8, 92, "blue", 4), (RX8, 98, "red", 5), (RX8, 100, "green", 6), (RX8, 102, "left", 7), (RX8, 104, "right", 8), (RX6, 20, "end", 9), (RX6, 87, "cut", 10), (RX6, 89, "take", 11), (RX6, 91, "less", 12), (RX6, 93, "grow", 13), (RX6, 95, "any", 14), (RX6, 97, "when", 15), (RX6, 99, "loop", 16), (RX6, 101, "stop", 17), (RX6, 110, "on", 3), (RX6, 118, "stands", 18), (RX6, 120, "worth", 19), (RX6, 122, "nimber", 20), (RX6, 124, "wins", 21)]
def strB : List (List Int32) := [[115, 112, 114, 105, 103], [104, 101, 97, 112], [98, 101, 116], [111, 110], [98, 108, 117, 101], [114, 101, 100], [103, 114, 101, 101, 110], [108, 101, 102, 116], [114, 105, 103, 104, 116], [101, 110, 100], [99, 117, 116], [116, 97, 107, 101], [108, 101, 115, 115], [103, 114, 111, 119], [97, 110, 121], [119, 104, 101, 110], [108, 111, 111, 112], [115, 116, 111, 112], [115, 116, 97, 110, 100, 115], [119, 111, 114, 116, 104], [110, 105, 109, 98, 101, 114], [119, 105, 110, 115]]
def strN : List Nat := strB.map List.length
abbrev NS : Nat := 22
def SS (g : GT) (U : State) : Prop := (∀ q ∈ strL, vk_R q.1 q.2.1 q.2.2.1 (g.2.2 (114 + q.2.2.2)) U) ∧ vk_S NS strN strB (fun i => g.2.2 (114 + i)) (fun i => g.2.2 (136 + i)) (GA g) U U.heap ∧ va_Z "java/lang/String" "COMPACT_STRINGS" "Z" (.int 1) (GA g) U U.heap ∧ (va_Z "jdk/internal/util/Preconditions" "SIOOBE_FORMATTER" "Ljava/util/function/BiFunction;" .null (GA g) U U.heap ∨ va_Z "jdk/internal/util/Preconditions" "SIOOBE_FORMATTER" "Ljava/util/function/BiFunction;" (.ref (g.2.2 158)) (GA g) U U.heap)
/-- what holds of a state besides what the cells hold -/
def GS (g : GT) (U : State) : Prop := va_K g.1 vwCl (tysG g) U ∧ (∀ i j, i < NC → j < NC → g.2.2 i = g.2.2 j → i = j) ∧ (∀ q ∈ nestL, va_Nw (.methodLinkNest q.1 q.2.1 q.2.2 RX11) U) ∧ SS g U
theorem va_Z.frame {C n d : String} {v : Value} {A : Nat → Prop} {s U : State} {H : Heap} (h : va_Z C n d v A s s.heap) (hvm : s.vm.Alike U.vm) (hq : ∀ a : Nat, a < s.heap.size → ¬ A a → H[a]? = s.heap[a]?) : va_Z C n d v A U H := (h.moved hvm).kept hq
theorem GS.calling {g : GT} {U : State} {f : JFrame} {mk : MethodId} {a : Array Value} (h : GS g U) : GS g (U.calling f mk a) := by
  obtain ⟨h1, h2, h3, h4, h5, h6, h7⟩ := h
  refine ⟨va_K.moved (u := U) (U := U.calling f mk a) (Vm.Alike.refl U.vm) h1, h2, fun q hq => va_Nw.same (u := U) rfl rfl (h3 q hq), fun q hq => vk_R.same (u := U) rfl (h4 q hq), vk_S.moved (u := U) (U := U.calling f mk a) (Vm.Alike.refl U.vm) h5, va_Z.moved (u := U) (U := U.calling f mk a) (Vm.Alike.refl U.vm) h6, h7.elim (fun h => Or.inl (va_Z.moved (u := U) (U := U.calling f mk a) (Vm.Alike.refl U.vm) h)) (fun h => Or.inr (va_Z.moved (u := U) (U := U.calling f mk a) (Vm.Alike.refl U.vm) h))⟩
theorem GS.next {g : GT} {s U : State} {H : Heap} {locs : List Loc} (h : GS g s) (hS : va_S (GA g) s.heap H locs) (hU : U.heap = H) (hW : s.WarmedH U.vm) : GS g U := by
  obtain ⟨h1, h2, h3, h4, h5, h6, h7⟩ := h
  subst hU
  refine ⟨va_K.moved hW.alike h1, h2, fun q hq => va_Nw.warmM hW (h3 q hq), fun q hq => vk_R.warm hW (h4 q hq), (h5.kept hS.2.1).moved hW.alike, (h6.kept hS.2.1).moved hW.alike, h7.elim (fun h => Or.inl ((h.kept hS.2.1).moved hW.alike)) (fun h => Or.inr ((h.kept hS.2.1).moved hW.alike))⟩
/-- the law's script: L ints xs, at the cell 113 -/
def SC (g : GT) (s : State) (scr : Option (Nat × (Nat → Int32))) : Prop := match scr with
  | none => True
  | some q => va_X (g.2.2 113) q.1 q.2 s s.heap ∧ g.2.2 113 < s.heap.size ∧ ¬ GA g (g.2.2 113) ∧ q.1 < 2 ^ 31
/-- what is fixed of a method: how its answer is a value, its answer's type, its locals, its depth, its script -/
abbrev CK (α : Type) : Type := (α → Option Value) × Option FieldType × Nat × Nat × Option (Nat × (Nat → Int32))
def LM : Nat := 64
def CX {α : Type} (K : CK α) (cc : ByteArray) (own : String) (g : GT) (p : Program) (R : Room) (s : State) (m : MethodId) (args : Array Value) (c : Code) (cells slots : Nat) : Prop :=
  p.tables.exec = Jvm.exec ∧ c.code = cc ∧ c.maxLocals = K.2.2.1 ∧ s.vm.findClass own = some m.cls ∧ (∀ w ∈ LW, w.before args s = true) ∧ (K.2.2.2.1 ≤ R.frames ∧ LM * K.2.2.2.1 ≤ R.locals ∧ cells ≤ R.cells ∧ slots ≤ R.slots) ∧ GS g s ∧ SC g s K.2.2.2.2
def HR {α : Type} (K : CK α) (cc : ByteArray) (g : GT) (p : Program) (l : Launch) (e : Env) (R : Room) (s : State) (m : MethodId) (args : Array Value) (below : List Frame) (meth : Method) (c : Code) (cells slots : Nat) (Q : State → Prop) (r : α) (σ' : Ms) : Prop :=
  (∀ (H : Heap) (locs : List Loc) (pc : Nat) (ls : Array Slot), Wd g σ' H → va_S (GA g) s.heap H locs → K.1 r = none → decode cc pc = .ok (.return_, 1) → W p l e R s m args below meth c H locs cells slots Q (F0 m pc ls [])) ∧
  (∀ (H : Heap) (locs : List Loc) (pc : Nat) (ls : Array Slot) (x : Int32) (ty : FieldType), Wd g σ' H → va_S (GA g) s.heap H locs → K.1 r = some (.int x) → K.2.1 = some ty → narrow ty (.int x) = .int x → decode cc pc = .ok (.ireturn, 1) → W p l e R s m args below meth c H locs cells slots Q (F0 m pc ls [.int x])) ∧
  (∀ (H : Heap) (locs : List Loc) (pc : Nat) (ls : Array Slot) (x : Int64), Wd g σ' H → va_S (GA g) s.heap H locs → K.1 r = some (.long x) → K.2.1 = some .long → decode cc pc = .ok (.lreturn, 1) → W p l e R s m args below meth c H locs cells slots Q (F0 m pc ls [.long x]))
/-- if the pure program o gives (r, σ'), the machine that stands at pc with these locals and this stack, its cells holding σ, comes to its end with r, its cells holding σ' -/
def VF {α : Type} (K : CK α) (cc : ByteArray) (own : String) (o : Option (α × Ms)) (σ : Ms) (pc : Nat) (lv : List (Nat × Value)) (st : List Value) : Prop :=
  ∀ (g : GT) (p : Program) (l : Launch) (e : Env) (R : Room) (s : State) (m : MethodId) (args : Array Value) (below : List Frame) (meth : Method) (c : Code) (cells slots : Nat) (Q : State → Prop) (r : α) (σ' : Ms), CX K cc own g p R s m args c cells slots → o = some (r, σ') → HR K cc g p l e R s m args below meth c cells slots Q r σ' →
    ∀ (H : Heap) (locs : List Loc) (ls : Array Slot), Wd g σ H → va_S (GA g) s.heap H locs → lv_has ls K.2.2.1 (lv.map (cvp g)) → W p l e R s m args below meth c H locs cells slots Q (F0 m pc ls (st.map (cv g)))
def enI (x : Int32) : Option Value := some (.int x)
def enL (x : Int64) : Option Value := some (.long x)
def enV (_ : Unit) : Option Value := none
/-- how the pure programs are put together -/
def bn {α β : Type} (x : Option (α × Ms)) (k : α → Ms → Option (β × Ms)) : Option (β × Ms) := match x with
  | none => none
  | some r => k r.1 r.2
def lt {α β : Type} (a : α) (f : α → β) : β := f a
def ck {α : Type} (b : Bool) (o : Option α) : Option α := if b = true then o else none
def fx {S R : Type} : Nat → ((S → Option R) → S → Option R) → S → Option R
  | 0, _, _ => none
  | n + 1, B, s => B (fx n B) s
def ixb (i : Int32) (n : Nat) : Bool := decide (0 ≤ i.toInt) && decide (i.toInt < (n : Int))
theorem ixb_in {i : Int32} {n : Nat} (h : ixb i n = true) : vp_in i n := by
  simp only [ixb, Bool.and_eq_true, decide_eq_true_eq] at h
  exact vp_in_iff.mpr h
theorem ixb_lt {i : Int32} {n : Nat} (h : ixb i n = true) : i.toNatClampNeg < n := Nat.not_le.mp fun q => ixb_in h (Or.inr q)
def nkB (x : Int32) : Bool := x == 0 || x == 1
theorem nkB_ok {x : Int32} (h : nkB x = true) : narrow .boolean (.int x) = .int x ∧ fits .boolean (.int x) = true := by
  simp only [nkB, Bool.or_eq_true, beq_iff_eq] at h
  rcases h with rfl | rfl <;> exact ⟨rfl, rfl⟩
def nkC (x : Int32) : Bool := x.toUInt32.toUInt16.toUInt32.toInt32 == x
theorem nkC_ok {x : Int32} (h : nkC x = true) : narrow .char (.int x) = .int x := by
  simp only [nkC, beq_iff_eq] at h
  show Value.int _ = _
  rw [h]
def nkY (x : Int32) : Bool := x.toInt8.toInt32 == x
theorem nkY_ok {x : Int32} (h : nkY x = true) : narrow .byte (.int x) = .int x := by
  simp only [nkY, beq_iff_eq] at h
  show Value.int _ = _
  rw [h]
/-- a method's contract: by a pure program o -/
def rmD (d : Nat) : Room := { frames := d, cells := 0, slots := 0, locals := LM * d }
def QR {α : Type} (en : α → Option Value) (g : GT) (r : α) (σ' : Ms) : Array Value → State → Outcome → State → Prop := fun _ st oc t => (oc = .returned (en r) ∧ Wd g σ' t.heap) ∧ va_F (GA g) st t
def MC {α : Type} (en : α → Option Value) (y : MethodName) (cc : ByteArray) (nL : Nat) (ret : Option FieldType) (d : Nat) (o : Option (α × Ms)) (σ : Ms) (as : List Value) : Prop :=
  ∀ (g : GT) (l : Launch) (r : α) (σ' : Ms), o = some (r, σ') → Met l y (.code y cc nL ret :: LW) (rmD d) (va_Pc (as.map (cv g)) (fun U => GS g U ∧ Wd g σ U.heap)) (QR en g r σ') 0 0 (GA g)
theorem lg_sl_cv (g : GT) (as : List Value) : (lg_sl (as.map (cv g))).length = (lg_sl as).length := by
  induction as with
  | nil => rfl
  | cons a l ih =>
    unfold lg_sl at ih ⊢
    rw [List.map_cons, List.flatMap_cons, List.flatMap_cons, List.length_append, List.length_append, ih, cv_cat]
    split <;> rfl
theorem lv_args_cv (g : GT) (as : List Value) : ∀ i : Nat, lv_args i (as.map (cv g)) = (lv_args i as).map (cvp g) := by
  induction as with
  | nil => intro i; rfl
  | cons a l ih =>
    intro i
    rw [List.map_cons, lv_args, lv_args, List.map_cons, cv_cat]
    split <;> rw [ih] <;> rfl
theorem GS.blind {g : GT} {σ : Ms} {as : List Value} : FrameBlind (va_Pc as (fun U => GS g U ∧ Wd g σ U.heap)) := fun _ _ _ _ h => ⟨h.1, h.2.1.calling, h.2.2⟩
theorem MC.of {α : Type} {en : α → Option Value} {y : MethodName} {cc : ByteArray} {nL : Nat} {ret : Option FieldType} {d : Nat} {o : Option (α × Ms)} {σ : Ms} {as : List Value} (hy : plainName y.cls = true) (hvs : (lg_sl as).length ≤ nL)
    (hen : ∀ r v, en r = some v → (∃ x ty, v = .int x ∧ ret = some ty) ∨ (∃ x, v = .long x ∧ ret = some .long)) (hen0 : ∀ r, en r = none → ret = none)
    (k : VF (en, ret, nL, d, none) cc y.cls o σ 0 (lv_args 0 as) []) : MC en y cc nL ret d o σ as := by
  intro g l r σ' ho
  refine Met.ofW (cc := cc) (maxL := nL) (ret := ret) hy rfl ?_
  intro p e s m args below meth c s₁ B hml hv
  obtain ⟨rfl, hG, hW⟩ := hv
  have hts := atoms_spec (ws := Cond.code y cc nL ret :: LW) B.pre
  have hown : s.vm.findClass y.cls = some m.cls := findClass_of_methodNamed B.named
  have hlocks := B.notSynchronized
  have hvs' : (lg_sl (as.map (cv g))).length ≤ nL := by rw [lg_sl_cv]; exact hvs
  have hl := lv_entry (as.map (cv g)) (n := nL) hvs'
  rw [lg_entry_eq]
  rw [lv_args_cv] at hl
  generalize (lg_sl (as.map (cv g)) ++ List.replicate (nL - (lg_sl (as.map (cv g))).length) Slot.unset).toArray = ls at hl ⊢
  refine k g p l e _ s m _ below meth c 0 0 _ r σ' ⟨B.exec, B.bytes, hml, hown, fun w hw => hts w (List.mem_cons_of_mem _ hw), ⟨Nat.le_refl _, Nat.le_refl _, Nat.le_refl _, Nat.le_refl _⟩, hG, trivial⟩ ho ⟨?_, ?_, ?_⟩ s.heap [] ls hW va_S.rf hl
  · intro H locs pc ls hW hS he hd
    exact W.vret B.exec B.bytes (by rw [B.returns]; exact hen0 r he) (fun t ht _ => ⟨⟨congrArg Outcome.returned he.symm, by rw [ht]; exact hW⟩, hS.F ht⟩) hS.2.2 hd hlocks
  · intro H locs pc ls x ty hW hS he hty hn hd
    exact W.zret B.exec B.bytes (by rw [B.returns]; exact hty) hn (fun t ht _ => ⟨⟨congrArg Outcome.returned he.symm, by rw [ht]; exact hW⟩, hS.F ht⟩) hS.2.2 hd hlocks
  · intro H locs pc ls x hW hS he hty hd
    exact W.lret B.exec B.bytes (by rw [B.returns]; exact hty) (fun t ht _ => ⟨⟨congrArg Outcome.returned he.symm, by rw [ht]; exact hW⟩, hS.F ht⟩) hS.2.2 hd hlocks
theorem enI_ok {ty : FieldType} : (∀ (r : Int32) v, enI r = some v → (∃ x t, v = .int x ∧ some ty = some t) ∨ (∃ x, v = .long x ∧ some ty = some FieldType.long)) ∧ ∀ r : Int32, enI r = none → some ty = none := ⟨fun r v h => by cases h; exact Or.inl ⟨_, _, rfl, rfl⟩, fun r h => by cases h⟩
theorem enL_ok : (∀ (r : Int64) v, enL r = some v → (∃ x t, v = .int x ∧ some FieldType.long = some t) ∨ (∃ x, v = .long x ∧ some FieldType.long = some FieldType.long)) ∧ ∀ r : Int64, enL r = none → some FieldType.long = none := ⟨fun r v h => by cases h; exact Or.inr ⟨_, rfl, rfl⟩, fun r h => by cases h⟩
theorem enV_ok : (∀ (r : Unit) v, enV r = some v → (∃ x t, v = .int x ∧ (none : Option FieldType) = some t) ∨ (∃ x, v = .long x ∧ (none : Option FieldType) = some FieldType.long)) ∧ ∀ r : Unit, enV r = none → (none : Option FieldType) = none := ⟨fun r v h => (by cases h), fun r h => rfl⟩
theorem MC.i {y : MethodName} {cc : ByteArray} {nL : Nat} {ty : FieldType} {d : Nat} {o : Option (Int32 × Ms)} {σ : Ms} {as : List Value} (hy : plainName y.cls = true) (hvs : (lg_sl as).length ≤ nL) (k : VF (enI, some ty, nL, d, none) cc y.cls o σ 0 (lv_args 0 as) []) : MC enI y cc nL (some ty) d o σ as := MC.of hy hvs enI_ok.1 enI_ok.2 k
theorem MC.l {y : MethodName} {cc : ByteArray} {nL : Nat} {d : Nat} {o : Option (Int64 × Ms)} {σ : Ms} {as : List Value} (hy : plainName y.cls = true) (hvs : (lg_sl as).length ≤ nL) (k : VF (enL, some .long, nL, d, none) cc y.cls o σ 0 (lv_args 0 as) []) : MC enL y cc nL (some .long) d o σ as := MC.of hy hvs enL_ok.1 enL_ok.2 k
theorem MC.v {y : MethodName} {cc : ByteArray} {nL : Nat} {d : Nat} {o : Option (Unit × Ms)} {σ : Ms} {as : List Value} (hy : plainName y.cls = true) (hvs : (lg_sl as).length ≤ nL) (k : VF (enV, none, nL, d, none) cc y.cls o σ 0 (lv_args 0 as) []) : MC enV y cc nL none d o σ as := MC.of hy hvs enV_ok.1 enV_ok.2 k
