def R_law : String := "ShearHedgeLaw"
def lw_P (b : Addr) (xs : List Int32) (args : Array Value) (s : State) : Prop := args = #[.ref b] ∧ s.IntsAt b xs ∧ xs.length ≤ 3072 ∧ (Jvm.Cond.and given_1 narrow_1).before args s = true
def lw_Q (_ : Array Value) (s : State) (o : Outcome) (t : State) : Prop := o = .returned (some (.int 1)) ∧ Framed s o t [] 600000 7302250
def lw_Z (below : List Frame) (a : Array Value) (s : State) : State → Prop := fun t => ∃ o, t.status = .running ∧ Ended t below o ∧ lw_Q a s o t
/-- the law's own end, with 1 on the stack, nothing written that was there before, its room as the claim has it -/
theorem lw_ret {p : Program} {l : Launch} {e : Env} {s : State} {m : MethodId} {below : List Frame} {meth : Method} {c : Code} {b : Nat} (hx : p.tables.exec = Jvm.exec) (hb : c.code = code) (hr : meth.sig.returnType = ret) (hlocks : meth.locks = false) {pc : Nat} {H : Heap} {ls : Array Slot} (hdg : decode code pc = .ok (.ireturn, 1)) : W p l e room_1 s m #[Value.ref b] below meth c H [] 600000 7302250 (lw_Z below #[Value.ref b] s) (F0 m pc ls [.int 1]) := by
  intro T hT X
  obtain ⟨fs, hret, hrun, hended, hW, hframe⟩ := X.leave (v := some (.int 1)) (hlocks := hlocks) (fun h => by rw [hr] at h; cases h)
  have hmeth' : T.vm.method? m = some meth := X.method'
  refine ⟨T.setFrames fs, ?_, .returned (some (.int 1)), hrun, hended, rfl, ⟨_, rfl⟩, hW, hframe⟩
  jvm_step X.here [X.here.top, hx, hb, hdg, hmeth', hr, ret, narrow_b1]
  (try refine ⟨rfl, ?_⟩); (try refine ⟨rfl, ?_⟩)
  first | (intro acts; rw [hret _ acts rfl rfl rfl]) | rw [hret _ _ rfl rfl rfl]
  exact Steps.refl _
/-- what holds at the law's entry: the machine, the code, the tables' words (any of lw_tbl by 'hts w (by decide +kernel)'), the script of L ints xs at the cell b, what the Statement gives of the start (any of its parts by flat_of_before) -/
def lw_At (p : Program) (s : State) (m : MethodId) (meth : Method) (c : Code) (b L : Nat) (xs : Nat → Int32) : Prop :=
  p.tables.exec = Jvm.exec ∧ c.code = code ∧ meth.sig.returnType = ret ∧ c.maxLocals = 4 ∧ s.vm.findClass R_law = some m.cls ∧ (∀ w ∈ lw_tbl, w.before #[Value.ref b] s = true) ∧ va_X b L xs s s.heap ∧ b < s.heap.size ∧ meth.locks = false ∧ (Jvm.Cond.and given_1 narrow_1).before #[Value.ref b] s = true

theorem LW_tbl {w : Cond} (h : w ∈ LW) : w ∈ lw_tbl := (List.mem_filter.mp h).1
theorem tb_nest : ∀ q ∈ nestL, Cond.methodLinkNest q.1 q.2.1 q.2.2 RX11 ∈ tables_1 := by decide +kernel
theorem tb_nestI : ∀ q ∈ nestI, Cond.methodLinkNest q.1 q.2.1 q.2.2 RX11 ∈ tables_1 := by decide +kernel
theorem tb_str : ∀ q ∈ strL, Cond.stringRef q.1 q.2.1 q.2.2.1 ∈ tables_1 := by decide +kernel
theorem tb_ao : Cond.arrayOver (.array .long) ∈ tables_1 ∧ Cond.arrayOver (.object RX0) ∈ tables_1 ∧ Cond.arrayOver (.object RX5) ∈ tables_1 ∧ Cond.arrayClass .int ∈ tables_1 ∧ Cond.arrayClass .long ∈ tables_1 ∧ Cond.arrayClass .byte ∈ tables_1 ∧ Cond.laysStatic "java/lang/String" "COMPACT_STRINGS" "Z" ∈ tables_1 ∧ Cond.laysStatic "jdk/internal/util/Preconditions" "SIOOBE_FORMATTER" "Ljava/util/function/BiFunction;" ∈ tables_1 ∧ Cond.initialized "java/lang/String" ∈ tables_1 ∧ Cond.initialized "jdk/internal/util/Preconditions" ∈ tables_1 := by decide +kernel
/-- the place of a String's constant -/
def strT (i : Nat) : Term := ([Term.string RX1 20, Term.string RX1 32, Term.string RX1 37, Term.string RX1 57, Term.string RX8 92, Term.string RX8 98, Term.string RX8 100, Term.string RX8 102, Term.string RX8 104, Term.string RX6 20, Term.string RX6 87, Term.string RX6 89, Term.string RX6 91, Term.string RX6 93, Term.string RX6 95, Term.string RX6 97, Term.string RX6 99, Term.string RX6 101, Term.string RX6 118, Term.string RX6 120, Term.string RX6 122, Term.string RX6 124, Term.string RX6 110]).getD i (Term.string RX1 20)
def nrwL : List Cond := flatC (Jvm.Cond.and given_1 narrow_1)
set_option maxRecDepth 100000 in
theorem nr_ex : ∀ i, i < 22 → Cond.exactly (strT i) "java/lang/String" ∈ nrwL := by decide +kernel
set_option maxRecDepth 100000 in
theorem nr_co : ∀ i, i < 22 → Cond.eq (.field (strT i) "java/lang/String" "coder" "B") (.int 0) ∈ nrwL := by decide +kernel
set_option maxRecDepth 100000 in
theorem nr_ar : ∀ i, i < 22 → Cond.arrayOf (.field (strT i) "java/lang/String" "value" "[B") .byte ∈ nrwL := by decide +kernel
set_option maxRecDepth 100000 in
theorem nr_le : ∀ i, i < 22 → Cond.eq (.length (.field (strT i) "java/lang/String" "value" "[B")) (.int (Int32.ofNat (strN.getD i 0))) ∈ nrwL := by decide +kernel
set_option maxRecDepth 100000 in
theorem nr_el : ∀ i, i < 22 → ∀ j, j < strN.getD i 0 → Cond.eq (.elem (.field (strT i) "java/lang/String" "value" "[B") (.int (Int32.ofNat j))) (.int ((strB.getD i []).getD j 0)) ∈ nrwL := by decide +kernel
def isNE : Cond → Bool
  | .not (.eq (.string _ _) (.string _ _)) => true
  | _ => false
def neP : List (Nat × Nat) := [(0, 4), (0, 5), (4, 5), (0, 6), (4, 6), (5, 6), (0, 3), (4, 3), (5, 3), (6, 3), (0, 1), (4, 1), (5, 1), (6, 1), (3, 1), (0, 2), (4, 2), (5, 2), (6, 2), (3, 2), (1, 2), (0, 9), (4, 9), (5, 9), (6, 9), (3, 9), (1, 9), (2, 9), (0, 10), (4, 10), (5, 10), (6, 10), (3, 10), (1, 10), (2, 10), (9, 10), (0, 11), (4, 11), (5, 11), (6, 11), (3, 11), (1, 11), (2, 11), (9, 11), (10, 11), (0, 12), (4, 12), (5, 12), (6, 12), (3, 12), (1, 12), (2, 12), (9, 12), (10, 12), (11, 12), (0, 13), (4, 13), (5, 13), (6, 13), (3, 13), (1, 13), (2, 13), (9, 13), (10, 13), (11, 13), (12, 13), (0, 14), (4, 14), (5, 14), (6, 14), (3, 14), (1, 14), (2, 14), (9, 14), (10, 14), (11, 14), (12, 14), (13, 14), (0, 15), (4, 15), (5, 15), (6, 15), (3, 15), (1, 15), (2, 15), (9, 15), (10, 15), (11, 15), (12, 15), (13, 15), (14, 15), (0, 16), (4, 16), (5, 16), (6, 16), (3, 16), (1, 16), (2, 16), (9, 16), (10, 16), (11, 16), (12, 16), (13, 16), (14, 16), (15, 16), (0, 17), (4, 17), (5, 17), (6, 17), (3, 17), (1, 17), (2, 17), (9, 17), (10, 17), (11, 17), (12, 17), (13, 17), (14, 17), (15, 17), (16, 17), (0, 7), (4, 7), (5, 7), (6, 7), (3, 7), (1, 7), (2, 7), (9, 7), (10, 7), (11, 7), (12, 7), (13, 7), (14, 7), (15, 7), (16, 7), (17, 7), (0, 8), (4, 8), (5, 8), (6, 8), (3, 8), (1, 8), (2, 8), (9, 8), (10, 8), (11, 8), (12, 8), (13, 8), (14, 8), (15, 8), (16, 8), (17, 8), (7, 8), (0, 22), (4, 22), (5, 22), (6, 22), (1, 22), (2, 22), (9, 22), (10, 22), (11, 22), (12, 22), (13, 22), (14, 22), (15, 22), (16, 22), (17, 22), (7, 22), (8, 22), (0, 18), (4, 18), (5, 18), (6, 18), (3, 18), (1, 18), (2, 18), (9, 18), (10, 18), (11, 18), (12, 18), (13, 18), (14, 18), (15, 18), (16, 18), (17, 18), (7, 18), (8, 18), (22, 18), (0, 19), (4, 19), (5, 19), (6, 19), (3, 19), (1, 19), (2, 19), (9, 19), (10, 19), (11, 19), (12, 19), (13, 19), (14, 19), (15, 19), (16, 19), (17, 19), (7, 19), (8, 19), (22, 19), (18, 19), (0, 20), (4, 20), (5, 20), (6, 20), (3, 20), (1, 20), (2, 20), (9, 20), (10, 20), (11, 20), (12, 20), (13, 20), (14, 20), (15, 20), (16, 20), (17, 20), (7, 20), (8, 20), (22, 20), (18, 20), (19, 20), (0, 21), (4, 21), (5, 21), (6, 21), (3, 21), (1, 21), (2, 21), (9, 21), (10, 21), (11, 21), (12, 21), (13, 21), (14, 21), (15, 21), (16, 21), (17, 21), (7, 21), (8, 21), (22, 21), (18, 21), (19, 21), (20, 21)]
set_option maxRecDepth 100000 in
theorem ne_all : nrwL.filter isNE = neP.map (fun p => Cond.not (Cond.eq (strT p.1) (strT p.2))) := by decide +kernel
theorem ne_prs : ∀ i, i < 22 → ∀ j, j < 22 → i = j ∨ (i, j) ∈ neP ∨ (j, i) ∈ neP := by decide +kernel
theorem nr_ne : ∀ i, i < 22 → ∀ j, j < 22 → i ≠ j → Cond.not (Cond.eq (strT i) (strT j)) ∈ nrwL ∨ Cond.not (Cond.eq (strT j) (strT i)) ∈ nrwL := by
  have key : ∀ a b, (a, b) ∈ neP → Cond.not (Cond.eq (strT a) (strT b)) ∈ nrwL := fun a b h => by
    have h1 : Cond.not (Cond.eq (strT a) (strT b)) ∈ nrwL.filter isNE := by rw [ne_all]; exact List.mem_map.mpr ⟨(a, b), h, rfl⟩
    exact (List.mem_filter.mp h1).1
  exact fun i hi j hj hij => ((ne_prs i hi j hj).resolve_left hij).imp (key i j) (key j i)
set_option maxRecDepth 100000 in
theorem nr_mi : Cond.eq (Term.string RX1 57) (Term.string RX6 110) ∈ nrwL ∧ Cond.eq (.static "java/lang/String" "COMPACT_STRINGS" "Z") (.int 1) ∈ nrwL ∧ Cond.isRef (.static "jdk/internal/util/Preconditions" "SIOOBE_FORMATTER" "Ljava/util/function/BiFunction;") ∈ nrwL := by decide +kernel
theorem strN_le : ∀ i, i < 22 → strN.getD i 0 < 2 ^ 31 := by decide +kernel
theorem strL_T : ∀ q ∈ strL, q.2.2.2 < 22 ∧ (Term.string q.1 q.2.1 = strT q.2.2.2 ∨ (Term.string q.1 q.2.1 = Term.string RX6 110 ∧ q.2.2.2 = 3)) := by decide +kernel
theorem st_SS {args : Array Value} {s : State} (hts : ∀ w ∈ lw_tbl, w.before args s = true) (hgv : (Jvm.Cond.and given_1 narrow_1).before args s = true) : ∃ (adK adV : Nat → Nat) (sio : Nat),
    (∀ q ∈ strL, vk_R q.1 q.2.1 q.2.2.1 (adK q.2.2.2) s) ∧ vk_S NS strN strB adK adV (fun q => s.heap.size ≤ q) s s.heap ∧ va_Z "java/lang/String" "COMPACT_STRINGS" "Z" (.int 1) (fun q => s.heap.size ≤ q) s s.heap ∧ (va_Z "jdk/internal/util/Preconditions" "SIOOBE_FORMATTER" "Ljava/util/function/BiFunction;" .null (fun q => s.heap.size ≤ q) s s.heap ∨ va_Z "jdk/internal/util/Preconditions" "SIOOBE_FORMATTER" "Ljava/util/function/BiFunction;" (.ref sio) (fun q => s.heap.size ≤ q) s s.heap) := by
  have hs : ∀ c ∈ nrwL, c.before args s = true := flat_of_before _ hgv
  have htb : ∀ w ∈ tables_1, w.before args s = true := fun w hw => hts w (List.mem_append_right _ hw)
  have hA : ∀ a : Nat, a < s.heap.size → ¬ (fun q => s.heap.size ≤ q) a := fun a h => Nat.not_le.mpr h
  obtain ⟨adK, adV, hvS, hev⟩ := vk_Sof (N := NS) (tm := strT) (len := strN) (byt := strB) (A := fun q => s.heap.size ≤ q) (args := args) (s := s) strN_le (fun i hi => hs _ (nr_ex i hi)) (fun i hi => hs _ (nr_co i hi)) (fun i hi => hs _ (nr_ar i hi)) (fun i hi => hs _ (nr_le i hi)) (fun i hi j hj => hs _ (nr_el i hi j hj)) (fun i j hi hj hij => (nr_ne i hi j hj hij).imp (hs _) (hs _)) hA
  have hZ := va_Zof (args := args) (v := .int 1) (htb _ tb_ao.2.2.2.2.2.2.1) (htb _ tb_ao.2.2.2.2.2.2.2.2.1) (va_eqi (hs _ nr_mi.2.1)) hA
  have hZq := va_Zqof (args := args) (htb _ tb_ao.2.2.2.2.2.2.2.1) (htb _ tb_ao.2.2.2.2.2.2.2.2.2) (hs _ nr_mi.2.2) hA
  have hR : ∀ q ∈ strL, vk_R q.1 q.2.1 q.2.2.1 (adK q.2.2.2) s := by
    intro q hq
    obtain ⟨h1, h2⟩ := strL_T q hq
    refine vk_R.of (htb _ (tb_str q hq)) ?_
    rcases h2 with h2 | ⟨h2, h3⟩
    · rw [h2]; exact hev _ h1
    · rw [h2, h3]
      exact va_eqR (hs _ nr_mi.1) (hev 3 (by decide))
  rcases hZq with h | ⟨t, h⟩
  · exact ⟨adK, adV, 0, hR, hvS, hZ, Or.inl h⟩
  · exact ⟨adK, adV, t, hR, hvS, hZ, Or.inr h⟩
/-- the classes and the array classes -/
theorem st_KS {args : Array Value} {s : State} (hts : ∀ w ∈ lw_tbl, w.before args s = true) : ∃ g : IG, KS g s := by
  have htb : ∀ w ∈ tables_1, w.before args s = true := fun w hw => hts w (List.mem_append_right _ hw)
  have hLW : ∀ w ∈ LW, w.before args s = true := fun w hw => hts w (LW_tbl hw)
  obtain ⟨c0, iS0, hKn0⟩ := u_known (C := RX0) (T := TX0) (N := 14) (n := 14) hLW cf0.2.2.1 (hLW _ (mw1 91 (by decide +kernel) rfl : Cond.instantiable RX0 14 ∈ LW))
  obtain ⟨c1, iS1, hKn1⟩ := u_known (C := RX2) (T := TX2) (N := 8) (n := 8) hLW cf1.2.2.1 (hLW _ (mw2 42 (by decide +kernel) rfl : Cond.instantiable RX2 8 ∈ LW))
  obtain ⟨c2, iS2, hKn2⟩ := u_known (C := RX4) (T := TX4) (N := 5) (n := 5) hLW cf2.2.2.1 (hLW _ (mw1 216 (by decide +kernel) rfl : Cond.instantiable RX4 5 ∈ LW))
  obtain ⟨c3, iS3, hKn3⟩ := u_known (C := RX5) (T := TX5) (N := 10) (n := 10) hLW cf3.2.2.1 (hLW _ (mw1 167 (by decide +kernel) rfl : Cond.instantiable RX5 10 ∈ LW))
  obtain ⟨c4, iS4, hKn4⟩ := u_known (C := RX7) (T := TX7) (N := 4) (n := 4) hLW cf4.2.2.1 (hLW _ (mw2 22 (by decide +kernel) rfl : Cond.instantiable RX7 4 ∈ LW))
  obtain ⟨c5, iS5, hKn5⟩ := u_known (C := RX8) (T := TX8) (N := 9) (n := 9) hLW cf5.2.2.1 (hLW _ (mw1 51 (by decide +kernel) rfl : Cond.instantiable RX8 9 ∈ LW))
  obtain ⟨c6, iS6, hKn6⟩ := u_known (C := RX9) (T := TX9) (N := 3) (n := 3) hLW cf6.2.2.1 (hLW _ (mw1 31 (by decide +kernel) rfl : Cond.instantiable RX9 3 ∈ LW))
  obtain ⟨c7, iS7, hKn7⟩ := u_known (C := RX10) (T := TX10) (N := 3) (n := 3) hLW cf7.2.2.1 (hLW _ (mw2 3 (by decide +kernel) rfl : Cond.instantiable RX10 3 ∈ LW))
  obtain ⟨c8, iS8, hKn8⟩ := u_known (C := RX11) (T := TX11) (N := 20) (n := 20) hLW cf8.2.2.1 (hLW _ (mw1 23 (by decide +kernel) rfl : Cond.instantiable RX11 20 ∈ LW))
  obtain ⟨c9, iS9, hKn9⟩ := u_known (C := RX12) (T := TX12) (N := 46) (n := 46) hLW cf9.2.2.1 (hLW _ (mw6 94 (by decide +kernel) rfl : Cond.instantiable RX12 46 ∈ LW))
  obtain ⟨a0, kA0, m0, f0, e0, b0⟩ := Cond.arrayClass_spec (htb _ tb_ao.2.2.2.1)
  obtain ⟨a1, kA1, m1, f1, e1, b1⟩ := Cond.arrayClass_spec (htb _ tb_ao.2.2.2.2.1)
  obtain ⟨a2, kA2, m2, f2, e2, b2⟩ := Cond.arrayClass_spec (htb _ tb_ao.2.2.2.2.2.1)
  obtain ⟨m3, a3, kA3, g3, h3, e3, b3, f3⟩ := arrayOverA_spec (htb _ tb_ao.1)
  obtain ⟨m4, a4, kA4, g4, h4, e4, b4, f4⟩ := Cond.arrayOver_spec (htb _ tb_ao.2.1)
  obtain ⟨m5, a5, kA5, g5, h5, e5, b5, f5⟩ := Cond.arrayOver_spec (htb _ tb_ao.2.2.1)
  refine ⟨((fun k => [c0, c1, c2, c3, c4, c5, c6, c7, c8, c9].getD k c0, fun k => [iS0, iS1, iS2, iS3, iS4, iS5, iS6, iS7, iS8, iS9].getD k iS0), fun k => [a0, a1, a2, a3, a4, a5].getD k a0), ⟨fun k q hq => ?_, fun k q hq => ?_⟩, fun q hq => va_Nw.of rfl (htb _ (tb_nestI q hq)), htb _ tb_ao.2.1, htb _ tb_ao.2.2.1, htb _ tb_ao.1⟩
  · match k, hq with
    | 0, hq => cases hq; exact hKn0
    | 1, hq => cases hq; exact hKn1
    | 2, hq => cases hq; exact hKn2
    | 3, hq => cases hq; exact hKn3
    | 4, hq => cases hq; exact hKn4
    | 5, hq => cases hq; exact hKn5
    | 6, hq => cases hq; exact hKn6
    | 7, hq => cases hq; exact hKn7
    | 8, hq => cases hq; exact hKn8
    | 9, hq => cases hq; exact hKn9
    | k + 10, hq => simp [vwCl] at hq
  · match k, hq with
    | 0, hq => cases hq; exact ⟨fun n z => ⟨(fun _ h => by cases h), kA0, e0, m0, b0⟩, f0⟩
    | 1, hq => cases hq; exact ⟨fun n z => ⟨(fun _ h => by cases h), kA1, e1, m1, b1⟩, f1⟩
    | 2, hq => cases hq; exact ⟨fun n z => ⟨(fun _ h => by cases h), kA2, e2, m2, b2⟩, f2⟩
    | 3, hq => cases hq; exact ⟨fun n z => ⟨(fun _ h => by cases h), kA3, e3, m3, b3⟩, f3⟩
    | 4, hq => cases hq; exact ⟨fun n z => ⟨(fun _ h => by cases h), kA4, e4, m4, b4⟩, kA4, m4, e4, b4, g4, f4⟩
    | 5, hq => cases hq; exact ⟨fun n z => ⟨(fun _ h => by cases h), kA5, e5, m5, b5⟩, kA5, m5, e5, b5, g5, f5⟩
    | k + 6, hq => simp [tysI] at hq
