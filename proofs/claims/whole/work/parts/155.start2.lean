section VWMK
variable {K : IK} {cc : ByteArray} {own : String} {g : IG} {X T : va_W} {kc ks : Nat} {pc : Nat} {lv : List (Nat × Value)} {st : List Value}
theorem W_mk {A : Nat → Prop} {p : Program} {l : Launch} {e : Env} {R : Room} {s : State} {m : MethodId} {args : Array Value} {below : List Frame} {meth : Method} {c : Code} {Q : State → Prop} {H : Heap} {locs : List Loc} {ls : Array Slot} {i1 i2 ci N0 nL' d' mc' ms' : Nat} {C0 : String} {T0 : u_T} {ty : Nat → FieldType} {fs : List Value} {y : MethodName} {cc' : ByteArray} {Post' : IG → Nat → va_W → Prop} (hd1 : decode cc pc = .ok (.new i1, 3)) (hd2 : decode cc (pc + 3) = .ok (.dup, 1)) (hd3 : decode cc (pc + 4) = .ok (.invokespecial i2, 3)) (hc : CF ci C0 T0 N0 ty) (w1 : Cond.classLink own i1 C0 ∈ LW) (w2 : Cond.instantiable C0 N0 ∈ LW) (w3 : Cond.initialized C0 ∈ LW) (hfs : ∀ j, j < N0 → defaultValue (ty j) = vp_V fs j)
    (hM : MI y cc' nL' d' mc' ms' ci fs Post') (w4 : Cond.methodLink own i2 y ∈ LW ∨ ((own, i2, y) ∈ nestI)) (w5 : Cond.instanceMethod y ∈ LW) (w6 : Cond.code y cc' nL' none ∈ LW) (hy : y.cls = C0) (hyn : y.name = "<init>") (hd0 : y.cls ≠ "java/lang/invoke/MethodHandle" ∧ y.cls ≠ "java/lang/invoke/VarHandle" ∧ (parseMethodDescriptor y.desc).map (fun d => d.parameters.length) = some 0) (hnL : nL' ≤ 45) (hdd : d' + 1 ≤ K.2.1) (hcat : ((st.map fun v => v.category).sum + 1) ≤ 8) (h1 : kc + 1 + mc' ≤ K.2.2.1) (h2 : ks + N0 + ms' ≤ K.2.2.2)
    (C : CI K cc own g A p R s m args meth c) (hP : va_P g.1 vwCl (X ++ T) H) (hD : va_D A (X ++ T)) (hS : va_S A s.heap H locs) (hl : lv_has ls K.1 lv)
    (kk : ∀ q ch H2 locs2, Post' g q ch → va_P g.1 vwCl (X ++ (ch ++ T)) H2 → va_D A (X ++ (ch ++ T)) → va_S A s.heap H2 locs2 → W p l e R s m args below meth c H2 locs2 (kc + 1 + mc') (ks + N0 + ms') Q (F0 m (pc + 7) ls (.ref q :: st))) : W p l e R s m args below meth c H locs kc ks Q (F0 m pc ls st) := by
  obtain ⟨R1, R2, R3, R4⟩ := C.2.2.2.2.2.1
  obtain ⟨c1, c2, c3, c4, c5⟩ := hc
  have hA := C.2.2.2.2.2.2.2.1
  have hKK := C.2.2.2.2.2.2.1
  refine va_new (D := g.1) (tys := tysI g) (ci := ci) (fs := fs) (C := C0) (T := T0) (N := N0) C.1 C.2.1 (Ts := LW) C.2.2.2.2.1 c3 ty c4 C.2.2.2.1 (C.2.2.2.2.1 _ w1) (C.2.2.2.2.1 _ w2) (C.2.2.2.2.1 _ w3) hKK.1 hP hD hS hA c1 hfs (by omega) (by omega) hd1 (fun q H1 hP1 hD1 hS1 => ?_)
  refine lv_dup C.1 C.2.1 hd2 rfl ?_
  have hq : ((X ++ T) ++ [(q, (.inr (ci, fs) : va_E))])[(X ++ T).length]? = some (q, .inr (ci, fs)) := by simp
  have hPc : va_P g.1 vwCl [(q, .inr (ci, fs))] H1 := hP1.mem (fun x hx => List.mem_append_right _ hx)
  have hqA : A q := hD1.2 _ _ hq
  have hql : q < H1.size := (hP1 _ _ hq).lt
  have hfree : ∀ z, va_A [(q, .inr (ci, fs))] H1.size z → A z := by
    rintro z (⟨k, e9, hk⟩ | hz)
    · match k, hk with
      | 0, hk => cases hk; exact hqA
      | k + 1, hk => simp at hk
    · exact hA z (Nat.le_trans hS1.1 hz)
  have hrun : va_Run p l e R s m args below meth c H1 locs (kc + 1) (ks + N0) mc' ms' (F0 m (pc + 3 + 1) ls (.ref q :: .ref q :: st)) (.ref q :: st) (va_Qv (fun _ : va_W => True) (fun ws t => Post' g q ws ∧ va_P g.1 vwCl ws t.heap ∧ va_D (va_A [(q, .inr (ci, fs))] H1.size) ws) (va_A [(q, .inr (ci, fs))] H1.size) (Value.ref q :: ([] : List Value)).toArray) (va_A [(q, .inr (ci, fs))] H1.size) := by
    have hroom : (rmI d' mc' ms').frames + 1 ≤ R.frames ∧ 8 + (nL' + 11) + (rmI d' mc' ms').locals ≤ R.locals := by
      refine ⟨Nat.le_trans hdd R1, ?_⟩
      have e0 : (rmI d' mc' ms').locals = LM * d' := rfl
      have h3 : LM * (d' + 1) ≤ LM * K.2.1 := Nat.mul_le_mul_left _ hdd
      have h4 : LM * (d' + 1) = LM * d' + LM := Nat.mul_succ _ _
      have h5 : LM = 64 := rfl
      omega
    have hG : GoodIn LW (.code y cc' nL' none :: LW) := GoodIn.ofLW (fun w hw => in_code w6 hw)
    have hpre : PreS s H1 (va_Pc [.ref q] (fun U => U.heap.size = H1.size ∧ KS g U ∧ va_P g.1 vwCl [(q, .inr (ci, fs))] U.heap)) (.ref q :: []) := ⟨KS.blind (P := fun h => va_P g.1 vwCl [(q, .inr (ci, fs))] h), fun U hU hW => ⟨rfl, by rw [hU], hKK.next hW, by rw [hU]; exact hPc⟩⟩
    have hroom2 : 2 * (F0 m (pc + 3 + 1) ls (.ref q :: .ref q :: st)).monitorRoom + ((Value.ref q :: st).map fun v => v.category).sum ≤ 8 := lv_room (by rw [List.map_cons, List.sum_cons]; show 1 + _ ≤ 8; omega)
    rcases w4 with w4 | w4
    · exact va_runI (As := []) (rest := .ref q :: st) ⟨C.1, C.2.1, C.2.2.1, C.2.2.2.1, C.2.2.2.2.1⟩ (hM g l q H1.size) (cwI 0 C.2.2.2.2.1 hG rfl rfl rfl (by rw [hy]; exact C.2.2.2.2.1 _ w3) (C.2.2.2.2.1 _ w4) (C.2.2.2.2.1 _ w5) hyn hd0 hroom) hpre rfl rfl hl.1 rfl hroom2 hd3 ⟨Nat.le_trans h1 R3, Nat.le_trans h2 R4⟩
    · exact va_runIN (As := []) (rest := .ref q :: st) ⟨C.1, C.2.1, C.2.2.1, C.2.2.2.1, C.2.2.2.2.1⟩ (hM g l q H1.size) ⟨va_cnB 0 C.2.2.2.2.1 hG rfl rfl rfl (hKK.2.1 _ w4) (by rw [hy]; exact C.2.2.2.2.1 _ w3) hd0 hroom, hyn, C.2.2.2.2.1 _ w5⟩ hpre rfl rfl hl.1 rfl hroom2 hd3 ⟨Nat.le_trans h1 R3, Nat.le_trans h2 R4⟩
  refine va_callv hrun hS1 (fun z _ h => hfree z h) hfree (fun ch t H2 locs2 ht hvm _ hB hz2 hk2 hS2 => ?_)
  obtain ⟨hpost, hP2, hD2⟩ := hB
  rw [ht] at hP2
  have hne : ∀ x ∈ X ++ T, x.1 < H1.size ∧ ¬ va_A [(q, .inr (ci, fs))] H1.size x.1 := by
    intro x hx
    obtain ⟨i, hi⟩ := List.getElem?_of_mem hx
    have hi' : ((X ++ T) ++ [(q, (.inr (ci, fs) : va_E))])[i]? = some x := inX hi
    have hlt := (hP1 _ _ hi').lt
    refine ⟨hlt, ?_⟩
    rintro (⟨k, e9, hk⟩ | hz)
    · match k, hk with
      | 0, hk =>
        cases hk
        have := hD1.1 i _ _ _ hi' hq rfl
        have := (List.getElem?_eq_some_iff.mp hi).1
        omega
      | k + 1, hk => simp at hk
    · omega
  have hPX : va_P g.1 vwCl (X ++ T) H2 := (hP1.mem (fun x hx => List.mem_append_left _ hx) : va_P g.1 vwCl (X ++ T) H1).kept (fun i x hx => hk2 _ (hne x (List.mem_of_getElem? hx)).1 (hne x (List.mem_of_getElem? hx)).2)
  have hDX : va_D A (X ++ T) := hD
  have hP3 : va_P g.1 vwCl ((X ++ T) ++ ch) H2 := hPX.app hP2
  have hD3 : va_D A ((X ++ T) ++ ch) := va_D.app hDX (hD2.weaken (fun _ x _ h => hfree x.1 h)) (fun i j x z hx hz e => (hne x (List.mem_of_getElem? hx)).2 (by rw [e]; exact hD2.2 _ _ hz))
  have hperm : ((X ++ T) ++ ch).Perm (X ++ (ch ++ T)) := by
    rw [List.append_assoc]
    exact List.Perm.append_left X List.perm_append_comm
  exact kk q ch H2 locs2 hpost (hP3.perm hperm) (hD3.perm hperm) hS2

end VWMK
theorem at_ref {D : va_G} {cl : List vw_C} {q : Nat} {cA : ClassId} {n : Nat} {f f' : Nat → Option Nat} {H : Heap} (h : va_at D cl (q, .inl (cA, n, .inr (.inr (.inr (.inr f))))) H) (e : ∀ j, j < n → f j = f' j) : va_at D cl (q, .inl (cA, n, .inr (.inr (.inr (.inr f'))))) H := by
  have e1 : vp_cell cA (n, .inr (.inr (.inr (.inr f)))) = vp_cell cA (n, .inr (.inr (.inr (.inr f')))) := by
    rw [vp_cell_q, vp_cell_q]
    unfold arrV
    congr 2
    funext j
    show va_rf (f j.val) = va_rf (f' j.val)
    rw [e j.val j.isLt]
  show H[q]? = some _
  rw [← e1]
  exact h
/-- what the cells hold at the start -/
def rw1 : List (Nat → Int32) := [(fun b => ([0, 0, 0, 0, 0, 0, 0, 0, 0, 0, (-1 : Int32), (-1 : Int32), 0, 0, 0, 0, 0, 0, 0, 0, 0, 0, 0, 0, 0, 0, 0, 0, 0, 0, 0, 0, 0, 0, 0, 0, 0, 0, 0, 0, 0, 0, 0, 0, 0, 0] : List Int32).getD b 0), (fun _ => 0), (upd (upd (upd (upd (fun _ => 0) (0 : Int32).toNatClampNeg (-1 : Int32)) (1 : Int32).toNatClampNeg (-1 : Int32)) (2 : Int32).toNatClampNeg (-1 : Int32)) (3 : Int32).toNatClampNeg (-1 : Int32)), (fun _ => 0), (fun _ => 0), (fun _ => 0), (fun _ => 0), (fun _ => 0), (fun _ => 0), (fun _ => 0), (fun _ => 0), (fun b => ([0, 0, 0, 0, 0, 0, 0, 0, 0, 0, 0, 0, 0, (0 : Int32), (0 : Int32), (-1 : Int32), (-1 : Int32), (0 : Int32), 0, 0] : List Int32).getD b 0), (fun _ => 0), (fun _ => 0), (fun _ => 0), (upd (upd (upd (upd (fun _ => 0) (0 : Int32).toNatClampNeg (-1 : Int32)) (1 : Int32).toNatClampNeg (-1 : Int32)) (2 : Int32).toNatClampNeg (-1 : Int32)) (3 : Int32).toNatClampNeg (-1 : Int32)), (fun _ => 0), (fun _ => 0), (fun _ => 0), (fun _ => 0), (fun b => ([0, (0 : Int32), (0 : Int32), (-1 : Int32), (0 : Int32), (0 : Int32), (0 : Int32), (0 : Int32), (0 : Int32)] : List Int32).getD b 0), (fun _ => 0), (fun _ => 0), (fun _ => 0), (fun _ => 0), (fun _ => 0), (fun _ => 0), (fun _ => 0), (fun _ => 0), (fun _ => 0), (fun _ => 0), (fun _ => 0), (fun _ => 0), (fun _ => 0), (fun _ => 0), (fun _ => 0), (fun _ => 0), (fun _ => 0), (fun _ => 0), (fun _ => 0), (fun _ => 0), (fun _ => 0), (fun _ => 0), (fun _ => 0), (fun _ => 0), (fun _ => 0), (fun _ => 0), (fun _ => 0), (fun _ => 0), (fun _ => 0), (fun _ => 0), (fun _ => 0), (fun _ => 0), (fun _ => 0), (fun _ => 0), (fun _ => 0), (fun _ => 0), (fun _ => 0), (fun _ => 0), (fun _ => 0), (fun _ => 0), (fun _ => 0), (fun _ => 0), (fun _ => 0), (fun _ => 0), (fun _ => 0), (fun _ => 0), (fun _ => 0), (fun _ => 0), (fun _ => 0), (fun _ => 0), (fun _ => 0), (fun _ => 0), (fun _ => 0), (fun _ => 0), (fun _ => 0), (fun _ => 0), (fun _ => 0), (fun _ => 0), (fun _ => 0), (fun _ => 0), (fun _ => 0), (fun _ => 0), (fun _ => 0), (fun _ => 0), (fun _ => 0), (fun _ => 0), (fun _ => 0), (fun _ => 0), (fun _ => 0), (fun _ => 0), (fun _ => 0), (fun _ => 0), (fun _ => 0), (fun _ => 0), (fun _ => 0), (fun _ => 0), (fun _ => 0), (fun _ => 0), (fun b => ([(0 : Int32), (0 : Int32), (-1 : Int32), (-1 : Int32), (-1 : Int32)] : List Int32).getD b 0), (fun _ => 0), (fun _ => 0), (fun _ => 0), (fun _ => 0), (fun _ => 0), (fun _ => 0), (fun _ => 0), (fun _ => 0), (fun _ => 0), (fun _ => 0), (fun _ => 0), (fun _ => 0), (fun _ => 0)]
def rw2 : List (Nat → Int64) := [(fun b => ([0, 0, 0, (1 : Int64), 0, 0, 0, 0, 0, 0, 0, 0, 0, 0, 0, 0, 0, 0, 0, 0, 0, 0, 0, 0, 0, 0, 0, 0, 0, 0, 0, 0, 0, 0, 0, 0, 0, 0, 0, 0, 0, 0, 0, 0, 0, 0] : List Int64).getD b 0), (fun _ => 0), (fun _ => 0), (fun _ => 0), (fun _ => 0), (fun _ => 0), (fun _ => 0), (fun _ => 0), (fun _ => 0), (fun _ => 0), (fun _ => 0), (fun b => ([0, 0, 0, 0, 0, 0, 0, 0, 0, 0, 0, 0, 0, 0, 0, 0, 0, 0, (0 : Int64), (1 : Int64)] : List Int64).getD b 0), (fun _ => 0), (fun _ => 0), (fun _ => 0), (fun _ => 0), (fun _ => 0), (fun _ => 0), (fun _ => 0), (fun _ => 0), (fun _ => 0), (fun _ => 0), (fun _ => 0), (fun _ => 0), (fun _ => 0), (fun _ => 0), (fun _ => 0), (fun _ => 0), (fun _ => 0), (fun _ => 0), (fun _ => 0), (fun _ => 0), (fun _ => 0), (fun _ => 0), (fun _ => 0), (fun _ => 0), (fun _ => 0), (fun _ => 0), (fun _ => 0), (fun _ => 0), (fun _ => 0), (fun _ => 0), (fun _ => 0), (fun _ => 0), (fun _ => 0), (fun _ => 0), (fun _ => 0), (fun _ => 0), (fun _ => 0), (fun _ => 0), (fun _ => 0), (fun _ => 0), (fun _ => 0), (fun _ => 0), (fun _ => 0), (fun _ => 0), (fun _ => 0), (fun _ => 0), (fun _ => 0), (fun _ => 0), (fun _ => 0), (fun _ => 0), (fun _ => 0), (fun _ => 0), (fun _ => 0), (fun _ => 0), (fun _ => 0), (fun _ => 0), (fun _ => 0), (fun _ => 0), (fun _ => 0), (fun _ => 0), (fun _ => 0), (fun _ => 0), (fun _ => 0), (fun _ => 0), (fun _ => 0), (fun _ => 0), (fun _ => 0), (fun _ => 0), (fun _ => 0), (fun _ => 0), (fun _ => 0), (fun _ => 0), (fun _ => 0), (fun _ => 0), (fun _ => 0), (fun _ => 0), (fun _ => 0), (fun _ => 0), (fun _ => 0), (fun _ => 0), (fun _ => 0), (fun _ => 0), (fun _ => 0), (fun _ => 0), (fun _ => 0), (fun _ => 0), (fun _ => 0), (fun _ => 0), (fun _ => 0), (fun _ => 0), (fun _ => 0), (fun _ => 0), (fun _ => 0), (fun _ => 0), (fun _ => 0), (fun _ => 0), (fun _ => 0), (fun _ => 0), (fun _ => 0), (fun _ => 0), (fun _ => 0)]
def σ0 : Ms := (fun a => rw1.getD a (fun _ => 0), fun a => rw2.getD a (fun _ => 0))
def posL : List Nat := [0, 1, 2, 3, 4, 5, 6, 7, 8, 9, 10, 11, 105, 106, 111, 112, 107, 108, 109, 110, 103, 104, 95, 96, 97, 98, 99, 100, 101, 102, 87, 88, 89, 90, 91, 92, 93, 94, 51, 52, 53, 54, 55, 56, 57, 58, 36, 37, 38, 39, 40, 41, 42, 43, 21, 22, 23, 24, 25, 26, 27, 28, 80, 81, 82, 83, 84, 85, 86, 73, 74, 75, 76, 77, 78, 79, 44, 45, 46, 47, 48, 49, 50, 29, 30, 31, 32, 33, 34, 35, 14, 15, 16, 17, 18, 19, 20, 12, 13, 72, 70, 71, 63, 64, 65, 66, 67, 68, 69, 61, 62, 59, 60]
def adF (l : List Nat) (b sio : Nat) (adK adV : Nat → Nat) (k : Nat) : Nat := if k < 113 then l.getD (posL.getD k 0) 0 else if k = 113 then b else if k < 136 then adK (k - 114) else if k < 158 then adV (k - 136) else sio
theorem posL_ok : ∀ k, k < 113 → posL.getD k 0 < 113 := by decide +kernel
theorem posL_inj : ∀ i, i < 113 → ∀ j, j < 113 → posL.getD i 0 = posL.getD j 0 → i = j := by
  have h : posL.Nodup := by decide +kernel
  intro i hi j hj e
  have hl : posL.length = 113 := rfl
  rw [List.getD_eq_getElem?_getD, List.getD_eq_getElem?_getD, List.getElem?_eq_getElem (by omega), List.getElem?_eq_getElem (by omega)] at e
  have e2 : posL[i]? = posL[j]? := by rw [List.getElem?_eq_getElem (by omega), List.getElem?_eq_getElem (by omega)]; exact congrArg some e
  first | exact (List.getElem?_inj (by omega) h).mp e2 | exact List.getElem?_inj (by omega) h e2
theorem st_inj {ws : va_W} {B : Nat → Prop} (hD : va_D B ws) (f : Nat → Nat) (h : ∀ k, k < 113 → ∃ e, ws[posL.getD k 0]? = some (f k, e)) : (∀ i j, i < NC → j < NC → f i = f j → i = j) ∧ ∀ k, k < NC → B (f k) := by
  refine ⟨fun i j hi hj e => ?_, fun k hk => ?_⟩
  · obtain ⟨e1, k1⟩ := h i hi
    obtain ⟨e2, k2⟩ := h j hj
    exact posL_inj i hi j hj (hD.1 _ _ _ _ k1 k2 e)
  · obtain ⟨e1, k1⟩ := h k hk
    exact hD.2 _ _ k1
set_option maxRecDepth 100000 in
set_option maxHeartbeats 4000000 in
theorem st_world {g : IG} {H : Heap} {x m : Nat} {c11 c12 : va_W} {B : Nat → Prop} (b sio : Nat) (adK adV : Nat → Nat) (h11 : Post11 g x c11) (h12 : Post12 g m c12) (hP : va_P g.1 vwCl ([] ++ (c12 ++ (c11 ++ []))) H) (hD : va_D B ([] ++ (c12 ++ (c11 ++ [])))) :
    ∃ l : List Nat, Wd (g.1, g.2, adF l b sio adK adV) σ0 H ∧ (∀ i j, i < NC → j < NC → adF l b sio adK adV i = adF l b sio adK adV j → i = j) ∧ (∀ k, k < NC → B (adF l b sio adK adV k)) ∧ adF l b sio adK adV 0 = m ∧ adF l b sio adK adV 11 = x := by
  unfold Post11 at h11
  obtain ⟨x_q7, x_q8, x_q1, x_c1, x_q2, x_c2, x_q3, x_c3, x_q4, x_c4, x_q5, x_c5, x_q6, x_c6, x_q9, x_c9, x_q10, x_c10, x_q11, x_c11, x_q12, x_c12, x_q13, x_c13, x_q14, x_c14, x_q15, x_c15, x_q16, x_c16, x_q17, x_c17, x_q18, x_c18, x_q19, x_c19, x_hc1, x_hc2, x_hc3, x_hc4, x_hc5, x_hc6, x_hc9, x_hc10, x_hc11, x_hc12, x_hc13, x_hc14, x_hc15, x_hc16, x_hc17, x_hc18, x_hc19, rfl⟩ := h11
  obtain ⟨x_q1_q1, x_q1_r1, x_q1_q2, x_q1_q3, rfl⟩ := x_hc1
  obtain ⟨x_q2_q1, rfl⟩ := x_hc2
  obtain ⟨x_q3_q1, x_q3_q2, x_q3_q3, x_q3_q4, x_q3_q5, x_q3_q6, x_q3_q7, rfl⟩ := x_hc3
  obtain ⟨x_q4_q1, x_q4_q2, x_q4_q3, x_q4_q4, x_q4_q5, x_q4_q6, x_q4_q7, rfl⟩ := x_hc4
  obtain ⟨x_q5_q1, x_q5_q2, x_q5_q3, x_q5_q4, x_q5_q5, x_q5_q6, rfl⟩ := x_hc5
  obtain ⟨x_q6_q1, x_q6_q2, x_q6_q3, x_q6_q4, x_q6_q5, x_q6_q6, rfl⟩ := x_hc6
  obtain rfl := x_hc9
  obtain ⟨x_q10_q1, rfl⟩ := x_hc10
  obtain ⟨x_q11_q1, x_q11_q2, x_q11_q3, x_q11_q4, x_q11_r4, rfl⟩ := x_hc11
  obtain ⟨x_q12_q1, rfl⟩ := x_hc12
  obtain ⟨x_q13_q1, rfl⟩ := x_hc13
  obtain ⟨x_q14_q1, x_q14_q2, x_q14_q3, x_q14_q4, x_q14_q5, x_q14_q6, x_q14_q7, rfl⟩ := x_hc14
  obtain ⟨x_q15_q1, x_q15_q2, x_q15_q3, x_q15_q4, x_q15_q5, x_q15_q6, rfl⟩ := x_hc15
  obtain ⟨x_q16_q1, x_q16_q2, x_q16_q3, x_q16_q4, x_q16_q5, x_q16_q6, x_q16_q7, rfl⟩ := x_hc16
  obtain ⟨x_q17_q1, x_q17_q2, x_q17_q3, x_q17_q4, x_q17_q5, x_q17_q6, rfl⟩ := x_hc17
  obtain ⟨x_q18_q1, x_q18_q2, x_q18_q3, x_q18_q4, x_q18_q5, x_q18_q6, x_q18_q7, rfl⟩ := x_hc18
  obtain ⟨x_q19_q1, x_q19_q2, x_q19_q3, x_q19_q4, x_q19_q5, x_q19_q6, rfl⟩ := x_hc19
  obtain ⟨m_q1, m_q2, m_q3, m_q4, m_q5, m_q6, m_q7, m_q8, m_q9, m_q10, rfl⟩ := h12
  have hk := st_inj hD (adF [m, m_q1, m_q2, m_q3, m_q4, m_q5, m_q6, m_q7, m_q8, m_q9, m_q10, x, x_q7, x_q8, x_q19, x_q19_q1, x_q19_q2, x_q19_q3, x_q19_q4, x_q19_q5, x_q19_q6, x_q18, x_q18_q1, x_q18_q2, x_q18_q3, x_q18_q4, x_q18_q5, x_q18_q6, x_q18_q7, x_q17, x_q17_q1, x_q17_q2, x_q17_q3, x_q17_q4, x_q17_q5, x_q17_q6, x_q16, x_q16_q1, x_q16_q2, x_q16_q3, x_q16_q4, x_q16_q5, x_q16_q6, x_q16_q7, x_q15, x_q15_q1, x_q15_q2, x_q15_q3, x_q15_q4, x_q15_q5, x_q15_q6, x_q14, x_q14_q1, x_q14_q2, x_q14_q3, x_q14_q4, x_q14_q5, x_q14_q6, x_q14_q7, x_q13, x_q13_q1, x_q12, x_q12_q1, x_q11, x_q11_q1, x_q11_q2, x_q11_q3, x_q11_q4, x_q11_r4 0, x_q11_r4 1, x_q10, x_q10_q1, x_q9, x_q6, x_q6_q1, x_q6_q2, x_q6_q3, x_q6_q4, x_q6_q5, x_q6_q6, x_q5, x_q5_q1, x_q5_q2, x_q5_q3, x_q5_q4, x_q5_q5, x_q5_q6, x_q4, x_q4_q1, x_q4_q2, x_q4_q3, x_q4_q4, x_q4_q5, x_q4_q6, x_q4_q7, x_q3, x_q3_q1, x_q3_q2, x_q3_q3, x_q3_q4, x_q3_q5, x_q3_q6, x_q3_q7, x_q2, x_q2_q1, x_q1, x_q1_q1, x_q1_r1 0, x_q1_r1 1, x_q1_r1 2, x_q1_r1 3, x_q1_q2, x_q1_q3] b sio adK adV) (fun k hk => by
    match k, hk with
    | 0, _ => exact ⟨_, rfl⟩
    | 1, _ => exact ⟨_, rfl⟩
    | 2, _ => exact ⟨_, rfl⟩
    | 3, _ => exact ⟨_, rfl⟩
    | 4, _ => exact ⟨_, rfl⟩
    | 5, _ => exact ⟨_, rfl⟩
    | 6, _ => exact ⟨_, rfl⟩
    | 7, _ => exact ⟨_, rfl⟩
    | 8, _ => exact ⟨_, rfl⟩
    | 9, _ => exact ⟨_, rfl⟩
    | 10, _ => exact ⟨_, rfl⟩
    | 11, _ => exact ⟨_, rfl⟩
    | 12, _ => exact ⟨_, rfl⟩
    | 13, _ => exact ⟨_, rfl⟩
    | 14, _ => exact ⟨_, rfl⟩
    | 15, _ => exact ⟨_, rfl⟩
    | 16, _ => exact ⟨_, rfl⟩
    | 17, _ => exact ⟨_, rfl⟩
    | 18, _ => exact ⟨_, rfl⟩
    | 19, _ => exact ⟨_, rfl⟩
    | 20, _ => exact ⟨_, rfl⟩
    | 21, _ => exact ⟨_, rfl⟩
    | 22, _ => exact ⟨_, rfl⟩
    | 23, _ => exact ⟨_, rfl⟩
    | 24, _ => exact ⟨_, rfl⟩
    | 25, _ => exact ⟨_, rfl⟩
    | 26, _ => exact ⟨_, rfl⟩
    | 27, _ => exact ⟨_, rfl⟩
    | 28, _ => exact ⟨_, rfl⟩
    | 29, _ => exact ⟨_, rfl⟩
    | 30, _ => exact ⟨_, rfl⟩
    | 31, _ => exact ⟨_, rfl⟩
    | 32, _ => exact ⟨_, rfl⟩
    | 33, _ => exact ⟨_, rfl⟩
    | 34, _ => exact ⟨_, rfl⟩
    | 35, _ => exact ⟨_, rfl⟩
    | 36, _ => exact ⟨_, rfl⟩
    | 37, _ => exact ⟨_, rfl⟩
    | 38, _ => exact ⟨_, rfl⟩
    | 39, _ => exact ⟨_, rfl⟩
    | 40, _ => exact ⟨_, rfl⟩
    | 41, _ => exact ⟨_, rfl⟩
    | 42, _ => exact ⟨_, rfl⟩
    | 43, _ => exact ⟨_, rfl⟩
    | 44, _ => exact ⟨_, rfl⟩
    | 45, _ => exact ⟨_, rfl⟩
    | 46, _ => exact ⟨_, rfl⟩
    | 47, _ => exact ⟨_, rfl⟩
    | 48, _ => exact ⟨_, rfl⟩
    | 49, _ => exact ⟨_, rfl⟩
    | 50, _ => exact ⟨_, rfl⟩
    | 51, _ => exact ⟨_, rfl⟩
    | 52, _ => exact ⟨_, rfl⟩
    | 53, _ => exact ⟨_, rfl⟩
    | 54, _ => exact ⟨_, rfl⟩
    | 55, _ => exact ⟨_, rfl⟩
    | 56, _ => exact ⟨_, rfl⟩
    | 57, _ => exact ⟨_, rfl⟩
    | 58, _ => exact ⟨_, rfl⟩
    | 59, _ => exact ⟨_, rfl⟩
    | 60, _ => exact ⟨_, rfl⟩
    | 61, _ => exact ⟨_, rfl⟩
    | 62, _ => exact ⟨_, rfl⟩
    | 63, _ => exact ⟨_, rfl⟩
    | 64, _ => exact ⟨_, rfl⟩
    | 65, _ => exact ⟨_, rfl⟩
    | 66, _ => exact ⟨_, rfl⟩
    | 67, _ => exact ⟨_, rfl⟩
    | 68, _ => exact ⟨_, rfl⟩
    | 69, _ => exact ⟨_, rfl⟩
    | 70, _ => exact ⟨_, rfl⟩
    | 71, _ => exact ⟨_, rfl⟩
    | 72, _ => exact ⟨_, rfl⟩
    | 73, _ => exact ⟨_, rfl⟩
    | 74, _ => exact ⟨_, rfl⟩
    | 75, _ => exact ⟨_, rfl⟩
    | 76, _ => exact ⟨_, rfl⟩
    | 77, _ => exact ⟨_, rfl⟩
    | 78, _ => exact ⟨_, rfl⟩
    | 79, _ => exact ⟨_, rfl⟩
    | 80, _ => exact ⟨_, rfl⟩
    | 81, _ => exact ⟨_, rfl⟩
    | 82, _ => exact ⟨_, rfl⟩
    | 83, _ => exact ⟨_, rfl⟩
    | 84, _ => exact ⟨_, rfl⟩
    | 85, _ => exact ⟨_, rfl⟩
    | 86, _ => exact ⟨_, rfl⟩
    | 87, _ => exact ⟨_, rfl⟩
    | 88, _ => exact ⟨_, rfl⟩
    | 89, _ => exact ⟨_, rfl⟩
    | 90, _ => exact ⟨_, rfl⟩
    | 91, _ => exact ⟨_, rfl⟩
    | 92, _ => exact ⟨_, rfl⟩
    | 93, _ => exact ⟨_, rfl⟩
    | 94, _ => exact ⟨_, rfl⟩
    | 95, _ => exact ⟨_, rfl⟩
    | 96, _ => exact ⟨_, rfl⟩
    | 97, _ => exact ⟨_, rfl⟩
    | 98, _ => exact ⟨_, rfl⟩
    | 99, _ => exact ⟨_, rfl⟩
    | 100, _ => exact ⟨_, rfl⟩
    | 101, _ => exact ⟨_, rfl⟩
    | 102, _ => exact ⟨_, rfl⟩
    | 103, _ => exact ⟨_, rfl⟩
    | 104, _ => exact ⟨_, rfl⟩
    | 105, _ => exact ⟨_, rfl⟩
    | 106, _ => exact ⟨_, rfl⟩
    | 107, _ => exact ⟨_, rfl⟩
    | 108, _ => exact ⟨_, rfl⟩
    | 109, _ => exact ⟨_, rfl⟩
    | 110, _ => exact ⟨_, rfl⟩
    | 111, _ => exact ⟨_, rfl⟩
    | 112, _ => exact ⟨_, rfl⟩
    | n + 113, h => exact absurd h (by omega))
  refine ⟨[m, m_q1, m_q2, m_q3, m_q4, m_q5, m_q6, m_q7, m_q8, m_q9, m_q10, x, x_q7, x_q8, x_q19, x_q19_q1, x_q19_q2, x_q19_q3, x_q19_q4, x_q19_q5, x_q19_q6, x_q18, x_q18_q1, x_q18_q2, x_q18_q3, x_q18_q4, x_q18_q5, x_q18_q6, x_q18_q7, x_q17, x_q17_q1, x_q17_q2, x_q17_q3, x_q17_q4, x_q17_q5, x_q17_q6, x_q16, x_q16_q1, x_q16_q2, x_q16_q3, x_q16_q4, x_q16_q5, x_q16_q6, x_q16_q7, x_q15, x_q15_q1, x_q15_q2, x_q15_q3, x_q15_q4, x_q15_q5, x_q15_q6, x_q14, x_q14_q1, x_q14_q2, x_q14_q3, x_q14_q4, x_q14_q5, x_q14_q6, x_q14_q7, x_q13, x_q13_q1, x_q12, x_q12_q1, x_q11, x_q11_q1, x_q11_q2, x_q11_q3, x_q11_q4, x_q11_r4 0, x_q11_r4 1, x_q10, x_q10_q1, x_q9, x_q6, x_q6_q1, x_q6_q2, x_q6_q3, x_q6_q4, x_q6_q5, x_q6_q6, x_q5, x_q5_q1, x_q5_q2, x_q5_q3, x_q5_q4, x_q5_q5, x_q5_q6, x_q4, x_q4_q1, x_q4_q2, x_q4_q3, x_q4_q4, x_q4_q5, x_q4_q6, x_q4_q7, x_q3, x_q3_q1, x_q3_q2, x_q3_q3, x_q3_q4, x_q3_q5, x_q3_q6, x_q3_q7, x_q2, x_q2_q1, x_q1, x_q1_q1, x_q1_r1 0, x_q1_r1 1, x_q1_r1 2, x_q1_r1 3, x_q1_q2, x_q1_q3], fun k hk => ?_, hk.1, hk.2, rfl, rfl⟩
  match k, hk with
    | 0, _ => exact hP 0 _ rfl
    | 1, _ => exact hP 1 _ rfl
    | 2, _ => exact hP 2 _ rfl
    | 3, _ => exact hP 3 _ rfl
    | 4, _ => exact hP 4 _ rfl
    | 5, _ => exact hP 5 _ rfl
    | 6, _ => exact hP 6 _ rfl
    | 7, _ => exact hP 7 _ rfl
    | 8, _ => exact hP 8 _ rfl
    | 9, _ => exact hP 9 _ rfl
    | 10, _ => exact hP 10 _ rfl
    | 11, _ => exact hP 11 _ rfl
    | 12, _ => exact hP 105 _ rfl
    | 13, _ => exact at_ref (hP 106 _ rfl) (fun j hj => by match j, hj with | 0, _ => rfl | 1, _ => rfl | 2, _ => rfl | 3, _ => rfl | n + 4, h => exact absurd (show n + 4 < 4 from h) (by omega))
    | 14, _ => exact hP 111 _ rfl
    | 15, _ => exact hP 112 _ rfl
    | 16, _ => exact hP 107 _ rfl
    | 17, _ => exact hP 108 _ rfl
    | 18, _ => exact hP 109 _ rfl
    | 19, _ => exact hP 110 _ rfl
    | 20, _ => exact hP 103 _ rfl
    | 21, _ => exact hP 104 _ rfl
    | 22, _ => exact hP 95 _ rfl
    | 23, _ => exact hP 96 _ rfl
    | 24, _ => exact hP 97 _ rfl
    | 25, _ => exact hP 98 _ rfl
    | 26, _ => exact hP 99 _ rfl
    | 27, _ => exact hP 100 _ rfl
    | 28, _ => exact hP 101 _ rfl
    | 29, _ => exact hP 102 _ rfl
    | 30, _ => exact hP 87 _ rfl
    | 31, _ => exact hP 88 _ rfl
    | 32, _ => exact hP 89 _ rfl
    | 33, _ => exact hP 90 _ rfl
    | 34, _ => exact hP 91 _ rfl
    | 35, _ => exact hP 92 _ rfl
    | 36, _ => exact hP 93 _ rfl
    | 37, _ => exact hP 94 _ rfl
    | 38, _ => exact hP 51 _ rfl
    | 39, _ => exact hP 52 _ rfl
    | 40, _ => exact hP 53 _ rfl
    | 41, _ => exact hP 54 _ rfl
    | 42, _ => exact hP 55 _ rfl
    | 43, _ => exact hP 56 _ rfl
    | 44, _ => exact hP 57 _ rfl
    | 45, _ => exact hP 58 _ rfl
    | 46, _ => exact hP 36 _ rfl
    | 47, _ => exact hP 37 _ rfl
    | 48, _ => exact hP 38 _ rfl
    | 49, _ => exact hP 39 _ rfl
    | 50, _ => exact hP 40 _ rfl
    | 51, _ => exact hP 41 _ rfl
    | 52, _ => exact hP 42 _ rfl
    | 53, _ => exact hP 43 _ rfl
    | 54, _ => exact hP 21 _ rfl
    | 55, _ => exact hP 22 _ rfl
    | 56, _ => exact hP 23 _ rfl
    | 57, _ => exact hP 24 _ rfl
    | 58, _ => exact hP 25 _ rfl
    | 59, _ => exact hP 26 _ rfl
    | 60, _ => exact hP 27 _ rfl
    | 61, _ => exact hP 28 _ rfl
    | 62, _ => exact hP 80 _ rfl
    | 63, _ => exact hP 81 _ rfl
    | 64, _ => exact hP 82 _ rfl
    | 65, _ => exact hP 83 _ rfl
    | 66, _ => exact hP 84 _ rfl
    | 67, _ => exact hP 85 _ rfl
    | 68, _ => exact hP 86 _ rfl
    | 69, _ => exact hP 73 _ rfl
    | 70, _ => exact hP 74 _ rfl
    | 71, _ => exact hP 75 _ rfl
    | 72, _ => exact hP 76 _ rfl
    | 73, _ => exact hP 77 _ rfl
    | 74, _ => exact hP 78 _ rfl
    | 75, _ => exact hP 79 _ rfl
    | 76, _ => exact hP 44 _ rfl
    | 77, _ => exact hP 45 _ rfl
    | 78, _ => exact hP 46 _ rfl
    | 79, _ => exact hP 47 _ rfl
    | 80, _ => exact hP 48 _ rfl
    | 81, _ => exact hP 49 _ rfl
    | 82, _ => exact hP 50 _ rfl
    | 83, _ => exact hP 29 _ rfl
    | 84, _ => exact hP 30 _ rfl
    | 85, _ => exact hP 31 _ rfl
    | 86, _ => exact hP 32 _ rfl
    | 87, _ => exact hP 33 _ rfl
    | 88, _ => exact hP 34 _ rfl
    | 89, _ => exact hP 35 _ rfl
    | 90, _ => exact hP 14 _ rfl
    | 91, _ => exact hP 15 _ rfl
    | 92, _ => exact hP 16 _ rfl
    | 93, _ => exact hP 17 _ rfl
    | 94, _ => exact hP 18 _ rfl
    | 95, _ => exact hP 19 _ rfl
    | 96, _ => exact hP 20 _ rfl
    | 97, _ => exact at_ref (hP 12 _ rfl) (fun j hj => by match j, hj with | 0, _ => rfl | 1, _ => rfl | 2, _ => rfl | n + 3, h => exact absurd (show n + 3 < 3 from h) (by omega))
    | 98, _ => exact at_ref (hP 13 _ rfl) (fun j hj => by match j, hj with | 0, _ => rfl | 1, _ => rfl | 2, _ => rfl | n + 3, h => exact absurd (show n + 3 < 3 from h) (by omega))
    | 99, _ => exact hP 72 _ rfl
    | 100, _ => exact hP 70 _ rfl
    | 101, _ => exact hP 71 _ rfl
    | 102, _ => exact hP 63 _ rfl
    | 103, _ => exact hP 64 _ rfl
    | 104, _ => exact hP 65 _ rfl
    | 105, _ => exact hP 66 _ rfl
    | 106, _ => exact at_ref (hP 67 _ rfl) (fun j hj => by match j, hj with | 0, _ => rfl | 1, _ => rfl | n + 2, h => exact absurd (show n + 2 < 2 from h) (by omega))
    | 107, _ => exact hP 68 _ rfl
    | 108, _ => exact hP 69 _ rfl
    | 109, _ => exact hP 61 _ rfl
    | 110, _ => exact hP 62 _ rfl
    | 111, _ => exact hP 59 _ rfl
    | 112, _ => exact hP 60 _ rfl
    | n + 113, h => exact absurd h (by show ¬ _ < 113; omega)
