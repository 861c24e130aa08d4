theorem cv_filter1 (g : GT) (i : Nat) (lv : List (Nat × Value)) : (lv.filter (fun q => !(q.1 == i) && !(q.1 + 1 == i && q.2.category == 2))).map (cvp g) = (lv.map (cvp g)).filter (fun q => !(q.1 == i) && !(q.1 + 1 == i && q.2.category == 2)) := by
  rw [List.filter_map]
  congr 2
  funext q
  simp only [Function.comp, cvp, cv_cat]
theorem cv_filter2 (g : GT) (i : Nat) (lv : List (Nat × Value)) : (lv.filter (fun q => !(q.1 == i) && (!(q.1 == i + 1) && !(q.1 + 1 == i && q.2.category == 2)))).map (cvp g) = (lv.map (cvp g)).filter (fun q => !(q.1 == i) && (!(q.1 == i + 1) && !(q.1 + 1 == i && q.2.category == 2))) := by
  rw [List.filter_map]
  congr 2
  funext q
  simp only [Function.comp, cvp, cv_cat]
theorem ck_some {α : Type} {b : Bool} {o : Option α} {r : α} (h : ck b o = some r) : b = true ∧ o = some r := by
  unfold ck at h
  by_cases hb : b = true
  · rw [if_pos hb] at h
    exact ⟨hb, h⟩
  · rw [if_neg hb] at h
    cases h
section VROWS
variable {α : Type} {K : CK α} {cc : ByteArray} {own : String} {o : Option (α × Ms)} {σ : Ms} {pc : Nat} {lv : List (Nat × Value)} {st : List Value}
theorem v_iconst {n : Int} {v : Int32} (hd : decode cc pc = .ok (.iconst n, 1)) (hv : Int32.ofInt n = v) (k : VF K cc own o σ (pc + 1) lv (.int v :: st)) : VF K cc own o σ pc lv (st) := by
  intro g p l e R s m args below meth c cells slots Q r σ' C ho hr H locs ls hW hS hl
  exact lv_iconst C.1 C.2.1 hd hv (k g p l e R s m args below meth c cells slots Q r σ' C ho hr H locs ls hW hS hl)
theorem v_bipush {n : Int} {v : Int32} (hd : decode cc pc = .ok (.bipush n, 2)) (hv : (Int8.ofInt n).toInt32 = v) (k : VF K cc own o σ (pc + 2) lv (.int v :: st)) : VF K cc own o σ pc lv (st) := by
  intro g p l e R s m args below meth c cells slots Q r σ' C ho hr H locs ls hW hS hl
  exact lv_bipush C.1 C.2.1 hd hv (k g p l e R s m args below meth c cells slots Q r σ' C ho hr H locs ls hW hS hl)
theorem v_sipush {n : Int} {v : Int32} (hd : decode cc pc = .ok (.sipush n, 3)) (hv : (Int16.ofInt n).toInt32 = v) (k : VF K cc own o σ (pc + 3) lv (.int v :: st)) : VF K cc own o σ pc lv (st) := by
  intro g p l e R s m args below meth c cells slots Q r σ' C ho hr H locs ls hW hS hl
  exact lv_sipush C.1 C.2.1 hd hv (k g p l e R s m args below meth c cells slots Q r σ' C ho hr H locs ls hW hS hl)
theorem v_lconst {n : Fin 2} {v : Int64} (hd : decode cc pc = .ok (.lconst n, 1)) (hv : Int64.ofNat (n : Nat) = v) (k : VF K cc own o σ (pc + 1) lv (.long v :: st)) : VF K cc own o σ pc lv (st) := by
  intro g p l e R s m args below meth c cells slots Q r σ' C ho hr H locs ls hW hS hl
  exact lv_lconst C.1 C.2.1 hd hv (k g p l e R s m args below meth c cells slots Q r σ' C ho hr H locs ls hW hS hl)
theorem v_iload_n {k : Fin 4} {i : Nat} {x : Int32} (hd : decode cc pc = .ok (.iload_n k, 1)) (q : Nat) (hi : (k : Nat) = i) (hq : lv[q]? = some (i, .int x)) (k : VF K cc own o σ (pc + 1) lv (.int x :: st)) : VF K cc own o σ pc lv (st) := by
  intro g p l e R s m args below meth c cells slots Q r σ' C ho hr H locs ls hW hS hl
  exact lv_iload_n C.1 C.2.1 hd hi (lv_at hl q (by rw [List.getElem?_map, hq]; rfl)) (k g p l e R s m args below meth c cells slots Q r σ' C ho hr H locs ls hW hS hl)
theorem v_iload {i : Nat} {x : Int32} (hd : decode cc pc = .ok (.iload i, 2)) (q : Nat) (hq : lv[q]? = some (i, .int x)) (k : VF K cc own o σ (pc + 2) lv (.int x :: st)) : VF K cc own o σ pc lv (st) := by
  intro g p l e R s m args below meth c cells slots Q r σ' C ho hr H locs ls hW hS hl
  exact lv_iload C.1 C.2.1 hd (lv_at hl q (by rw [List.getElem?_map, hq]; rfl)) (k g p l e R s m args below meth c cells slots Q r σ' C ho hr H locs ls hW hS hl)
theorem v_lload_n {k : Fin 4} {i : Nat} {x : Int64} (hd : decode cc pc = .ok (.lload_n k, 1)) (q : Nat) (hi : (k : Nat) = i) (hq : lv[q]? = some (i, .long x)) (k : VF K cc own o σ (pc + 1) lv (.long x :: st)) : VF K cc own o σ pc lv (st) := by
  intro g p l e R s m args below meth c cells slots Q r σ' C ho hr H locs ls hW hS hl
  exact lv_lload_n C.1 C.2.1 hd hi (lv_at hl q (by rw [List.getElem?_map, hq]; rfl)) (k g p l e R s m args below meth c cells slots Q r σ' C ho hr H locs ls hW hS hl)
theorem v_lload {i : Nat} {x : Int64} (hd : decode cc pc = .ok (.lload i, 2)) (q : Nat) (hq : lv[q]? = some (i, .long x)) (k : VF K cc own o σ (pc + 2) lv (.long x :: st)) : VF K cc own o σ pc lv (st) := by
  intro g p l e R s m args below meth c cells slots Q r σ' C ho hr H locs ls hW hS hl
  exact lv_lload C.1 C.2.1 hd (lv_at hl q (by rw [List.getElem?_map, hq]; rfl)) (k g p l e R s m args below meth c cells slots Q r σ' C ho hr H locs ls hW hS hl)
theorem v_aload_n {k : Fin 4} {i : Nat} {x : Nat} (hd : decode cc pc = .ok (.aload_n k, 1)) (q : Nat) (hi : (k : Nat) = i) (hq : lv[q]? = some (i, .ref x)) (k : VF K cc own o σ (pc + 1) lv (.ref x :: st)) : VF K cc own o σ pc lv (st) := by
  intro g p l e R s m args below meth c cells slots Q r σ' C ho hr H locs ls hW hS hl
  exact lv_aload_n C.1 C.2.1 hd hi (lv_at hl q (by rw [List.getElem?_map, hq]; rfl)) (k g p l e R s m args below meth c cells slots Q r σ' C ho hr H locs ls hW hS hl)
theorem v_aload {i : Nat} {x : Nat} (hd : decode cc pc = .ok (.aload i, 2)) (q : Nat) (hq : lv[q]? = some (i, .ref x)) (k : VF K cc own o σ (pc + 2) lv (.ref x :: st)) : VF K cc own o σ pc lv (st) := by
  intro g p l e R s m args below meth c cells slots Q r σ' C ho hr H locs ls hW hS hl
  exact lv_aload C.1 C.2.1 hd (lv_at hl q (by rw [List.getElem?_map, hq]; rfl)) (k g p l e R s m args below meth c cells slots Q r σ' C ho hr H locs ls hW hS hl)
theorem v_iadd {x y : Int32} (hd : decode cc pc = .ok (.iadd, 1)) (k : VF K cc own o σ (pc + 1) lv (.int (x + y) :: st)) : VF K cc own o σ pc lv (.int y :: .int x :: st) := by
  intro g p l e R s m args below meth c cells slots Q r σ' C ho hr H locs ls hW hS hl
  exact lv_iadd C.1 C.2.1 hd (k g p l e R s m args below meth c cells slots Q r σ' C ho hr H locs ls hW hS hl)
theorem v_isub {x y : Int32} (hd : decode cc pc = .ok (.isub, 1)) (k : VF K cc own o σ (pc + 1) lv (.int (x - y) :: st)) : VF K cc own o σ pc lv (.int y :: .int x :: st) := by
  intro g p l e R s m args below meth c cells slots Q r σ' C ho hr H locs ls hW hS hl
  exact lv_isub C.1 C.2.1 hd (k g p l e R s m args below meth c cells slots Q r σ' C ho hr H locs ls hW hS hl)
theorem v_imul {x y : Int32} (hd : decode cc pc = .ok (.imul, 1)) (k : VF K cc own o σ (pc + 1) lv (.int (x * y) :: st)) : VF K cc own o σ pc lv (.int y :: .int x :: st) := by
  intro g p l e R s m args below meth c cells slots Q r σ' C ho hr H locs ls hW hS hl
  exact lv_imul C.1 C.2.1 hd (k g p l e R s m args below meth c cells slots Q r σ' C ho hr H locs ls hW hS hl)
theorem v_iand {x y : Int32} (hd : decode cc pc = .ok (.iand, 1)) (k : VF K cc own o σ (pc + 1) lv (.int (x &&& y) :: st)) : VF K cc own o σ pc lv (.int y :: .int x :: st) := by
  intro g p l e R s m args below meth c cells slots Q r σ' C ho hr H locs ls hW hS hl
  exact lv_iand C.1 C.2.1 hd (k g p l e R s m args below meth c cells slots Q r σ' C ho hr H locs ls hW hS hl)
theorem v_ior {x y : Int32} (hd : decode cc pc = .ok (.ior, 1)) (k : VF K cc own o σ (pc + 1) lv (.int (x ||| y) :: st)) : VF K cc own o σ pc lv (.int y :: .int x :: st) := by
  intro g p l e R s m args below meth c cells slots Q r σ' C ho hr H locs ls hW hS hl
  exact lv_ior C.1 C.2.1 hd (k g p l e R s m args below meth c cells slots Q r σ' C ho hr H locs ls hW hS hl)
theorem v_ixor {x y : Int32} (hd : decode cc pc = .ok (.ixor, 1)) (k : VF K cc own o σ (pc + 1) lv (.int (x ^^^ y) :: st)) : VF K cc own o σ pc lv (.int y :: .int x :: st) := by
  intro g p l e R s m args below meth c cells slots Q r σ' C ho hr H locs ls hW hS hl
  exact lv_ixor C.1 C.2.1 hd (k g p l e R s m args below meth c cells slots Q r σ' C ho hr H locs ls hW hS hl)
theorem v_ishl {x y : Int32} (hd : decode cc pc = .ok (.ishl, 1)) (k : VF K cc own o σ (pc + 1) lv (.int (x <<< (y &&& 31)) :: st)) : VF K cc own o σ pc lv (.int y :: .int x :: st) := by
  intro g p l e R s m args below meth c cells slots Q r σ' C ho hr H locs ls hW hS hl
  exact lv_ishl C.1 C.2.1 hd (k g p l e R s m args below meth c cells slots Q r σ' C ho hr H locs ls hW hS hl)
theorem v_ishr {x y : Int32} (hd : decode cc pc = .ok (.ishr, 1)) (k : VF K cc own o σ (pc + 1) lv (.int (x >>> (y &&& 31)) :: st)) : VF K cc own o σ pc lv (.int y :: .int x :: st) := by
  intro g p l e R s m args below meth c cells slots Q r σ' C ho hr H locs ls hW hS hl
  exact lv_ishr C.1 C.2.1 hd (k g p l e R s m args below meth c cells slots Q r σ' C ho hr H locs ls hW hS hl)
theorem v_iushr {x y : Int32} (hd : decode cc pc = .ok (.iushr, 1)) (k : VF K cc own o σ (pc + 1) lv (.int ((x.toUInt32 >>> (y.toUInt32 &&& Int32.toUInt32 31)).toInt32) :: st)) : VF K cc own o σ pc lv (.int y :: .int x :: st) := by
  intro g p l e R s m args below meth c cells slots Q r σ' C ho hr H locs ls hW hS hl
  exact lv_iushr C.1 C.2.1 hd rfl (k g p l e R s m args below meth c cells slots Q r σ' C ho hr H locs ls hW hS hl)
theorem v_ladd {x y : Int64} (hd : decode cc pc = .ok (.ladd, 1)) (k : VF K cc own o σ (pc + 1) lv (.long (x + y) :: st)) : VF K cc own o σ pc lv (.long y :: .long x :: st) := by
  intro g p l e R s m args below meth c cells slots Q r σ' C ho hr H locs ls hW hS hl
  exact lv_ladd C.1 C.2.1 hd (k g p l e R s m args below meth c cells slots Q r σ' C ho hr H locs ls hW hS hl)
theorem v_lsub {x y : Int64} (hd : decode cc pc = .ok (.lsub, 1)) (k : VF K cc own o σ (pc + 1) lv (.long (x - y) :: st)) : VF K cc own o σ pc lv (.long y :: .long x :: st) := by
  intro g p l e R s m args below meth c cells slots Q r σ' C ho hr H locs ls hW hS hl
  exact lv_lsub C.1 C.2.1 hd (k g p l e R s m args below meth c cells slots Q r σ' C ho hr H locs ls hW hS hl)
theorem v_lmul {x y : Int64} (hd : decode cc pc = .ok (.lmul, 1)) (k : VF K cc own o σ (pc + 1) lv (.long (x * y) :: st)) : VF K cc own o σ pc lv (.long y :: .long x :: st) := by
  intro g p l e R s m args below meth c cells slots Q r σ' C ho hr H locs ls hW hS hl
  exact lv_lmul C.1 C.2.1 hd (k g p l e R s m args below meth c cells slots Q r σ' C ho hr H locs ls hW hS hl)
theorem v_land {x y : Int64} (hd : decode cc pc = .ok (.land, 1)) (k : VF K cc own o σ (pc + 1) lv (.long (x &&& y) :: st)) : VF K cc own o σ pc lv (.long y :: .long x :: st) := by
  intro g p l e R s m args below meth c cells slots Q r σ' C ho hr H locs ls hW hS hl
  exact lv_land C.1 C.2.1 hd (k g p l e R s m args below meth c cells slots Q r σ' C ho hr H locs ls hW hS hl)
theorem v_lor {x y : Int64} (hd : decode cc pc = .ok (.lor, 1)) (k : VF K cc own o σ (pc + 1) lv (.long (x ||| y) :: st)) : VF K cc own o σ pc lv (.long y :: .long x :: st) := by
  intro g p l e R s m args below meth c cells slots Q r σ' C ho hr H locs ls hW hS hl
  exact lv_lor C.1 C.2.1 hd (k g p l e R s m args below meth c cells slots Q r σ' C ho hr H locs ls hW hS hl)
theorem v_lxor {x y : Int64} (hd : decode cc pc = .ok (.lxor, 1)) (k : VF K cc own o σ (pc + 1) lv (.long (x ^^^ y) :: st)) : VF K cc own o σ pc lv (.long y :: .long x :: st) := by
  intro g p l e R s m args below meth c cells slots Q r σ' C ho hr H locs ls hW hS hl
  exact lv_lxor C.1 C.2.1 hd (k g p l e R s m args below meth c cells slots Q r σ' C ho hr H locs ls hW hS hl)
theorem v_lshl {x : Int64} {y : Int32} (hd : decode cc pc = .ok (.lshl, 1)) (k : VF K cc own o σ (pc + 1) lv (.long (x <<< (y.toInt64 &&& 63)) :: st)) : VF K cc own o σ pc lv (.int y :: .long x :: st) := by
  intro g p l e R s m args below meth c cells slots Q r σ' C ho hr H locs ls hW hS hl
  exact lv_lshl C.1 C.2.1 hd rfl (k g p l e R s m args below meth c cells slots Q r σ' C ho hr H locs ls hW hS hl)
theorem v_lshr {x : Int64} {y : Int32} (hd : decode cc pc = .ok (.lshr, 1)) (k : VF K cc own o σ (pc + 1) lv (.long (x >>> (y.toInt64 &&& 63)) :: st)) : VF K cc own o σ pc lv (.int y :: .long x :: st) := by
  intro g p l e R s m args below meth c cells slots Q r σ' C ho hr H locs ls hW hS hl
  exact lv_lshr C.1 C.2.1 hd rfl (k g p l e R s m args below meth c cells slots Q r σ' C ho hr H locs ls hW hS hl)
theorem v_lushr {x : Int64} {y : Int32} (hd : decode cc pc = .ok (.lushr, 1)) (k : VF K cc own o σ (pc + 1) lv (.long ((x.toUInt64 >>> (y.toInt64.toUInt64 &&& Int64.toUInt64 63)).toInt64) :: st)) : VF K cc own o σ pc lv (.int y :: .long x :: st) := by
  intro g p l e R s m args below meth c cells slots Q r σ' C ho hr H locs ls hW hS hl
  exact lv_lushr C.1 C.2.1 hd rfl (k g p l e R s m args below meth c cells slots Q r σ' C ho hr H locs ls hW hS hl)
theorem v_ineg {x : Int32} (hd : decode cc pc = .ok (.ineg, 1)) (k : VF K cc own o σ (pc + 1) lv (.int (-x) :: st)) : VF K cc own o σ pc lv (.int x :: st) := by
  intro g p l e R s m args below meth c cells slots Q r σ' C ho hr H locs ls hW hS hl
  exact lv_ineg C.1 C.2.1 hd (k g p l e R s m args below meth c cells slots Q r σ' C ho hr H locs ls hW hS hl)
theorem v_lneg {x : Int64} (hd : decode cc pc = .ok (.lneg, 1)) (k : VF K cc own o σ (pc + 1) lv (.long (-x) :: st)) : VF K cc own o σ pc lv (.long x :: st) := by
  intro g p l e R s m args below meth c cells slots Q r σ' C ho hr H locs ls hW hS hl
  exact lv_lneg C.1 C.2.1 hd (k g p l e R s m args below meth c cells slots Q r σ' C ho hr H locs ls hW hS hl)
theorem v_i2l {x : Int32} (hd : decode cc pc = .ok (.i2l, 1)) (k : VF K cc own o σ (pc + 1) lv (.long x.toInt64 :: st)) : VF K cc own o σ pc lv (.int x :: st) := by
  intro g p l e R s m args below meth c cells slots Q r σ' C ho hr H locs ls hW hS hl
  exact lv_i2l C.1 C.2.1 hd rfl (k g p l e R s m args below meth c cells slots Q r σ' C ho hr H locs ls hW hS hl)
theorem v_l2i {x : Int64} (hd : decode cc pc = .ok (.l2i, 1)) (k : VF K cc own o σ (pc + 1) lv (.int x.toInt32 :: st)) : VF K cc own o σ pc lv (.long x :: st) := by
  intro g p l e R s m args below meth c cells slots Q r σ' C ho hr H locs ls hW hS hl
  exact lv_l2i C.1 C.2.1 hd rfl (k g p l e R s m args below meth c cells slots Q r σ' C ho hr H locs ls hW hS hl)
theorem v_i2b {x : Int32} (hd : decode cc pc = .ok (.i2b, 1)) (k : VF K cc own o σ (pc + 1) lv (.int x.toInt8.toInt32 :: st)) : VF K cc own o σ pc lv (.int x :: st) := by
  intro g p l e R s m args below meth c cells slots Q r σ' C ho hr H locs ls hW hS hl
  exact lv_i2b C.1 C.2.1 hd rfl (k g p l e R s m args below meth c cells slots Q r σ' C ho hr H locs ls hW hS hl)
theorem v_i2s {x : Int32} (hd : decode cc pc = .ok (.i2s, 1)) (k : VF K cc own o σ (pc + 1) lv (.int x.toInt16.toInt32 :: st)) : VF K cc own o σ pc lv (.int x :: st) := by
  intro g p l e R s m args below meth c cells slots Q r σ' C ho hr H locs ls hW hS hl
  exact lv_i2s C.1 C.2.1 hd rfl (k g p l e R s m args below meth c cells slots Q r σ' C ho hr H locs ls hW hS hl)
theorem v_i2c {x : Int32} (hd : decode cc pc = .ok (.i2c, 1)) (k : VF K cc own o σ (pc + 1) lv (.int (x.toUInt32 % 65536).toInt32 :: st)) : VF K cc own o σ pc lv (.int x :: st) := by
  intro g p l e R s m args below meth c cells slots Q r σ' C ho hr H locs ls hW hS hl
  exact lv_i2c C.1 C.2.1 hd rfl (k g p l e R s m args below meth c cells slots Q r σ' C ho hr H locs ls hW hS hl)
theorem v_lcmp {x y : Int64} (hd : decode cc pc = .ok (.lcmp, 1)) (k : VF K cc own o σ (pc + 1) lv (.int (lg_cmp x y) :: st)) : VF K cc own o σ pc lv (.long y :: .long x :: st) := by
  intro g p l e R s m args below meth c cells slots Q r σ' C ho hr H locs ls hW hS hl
  exact W.lcmp C.1 C.2.1 hd (k g p l e R s m args below meth c cells slots Q r σ' C ho hr H locs ls hW hS hl)
theorem v_dup {a : Value} (hd : decode cc pc = .ok (.dup, 1)) (h1 : a.category = 1) (k : VF K cc own o σ (pc + 1) lv (a :: a :: st)) : VF K cc own o σ pc lv (a :: st) := by
  intro g p l e R s m args below meth c cells slots Q r σ' C ho hr H locs ls hW hS hl
  exact lv_dup C.1 C.2.1 hd ((cv_cat g _).trans h1) (k g p l e R s m args below meth c cells slots Q r σ' C ho hr H locs ls hW hS hl)
theorem v_pop {a : Value} (hd : decode cc pc = .ok (.pop, 1)) (h1 : a.category = 1) (k : VF K cc own o σ (pc + 1) lv (st)) : VF K cc own o σ pc lv (a :: st) := by
  intro g p l e R s m args below meth c cells slots Q r σ' C ho hr H locs ls hW hS hl
  exact lv_pop C.1 C.2.1 hd ((cv_cat g _).trans h1) (k g p l e R s m args below meth c cells slots Q r σ' C ho hr H locs ls hW hS hl)
theorem v_dup_x1 {a b : Value} (hd : decode cc pc = .ok (.dup_x1, 1)) (h1 : a.category = 1) (h2 : b.category = 1) (k : VF K cc own o σ (pc + 1) lv (a :: b :: a :: st)) : VF K cc own o σ pc lv (a :: b :: st) := by
  intro g p l e R s m args below meth c cells slots Q r σ' C ho hr H locs ls hW hS hl
  exact lv_dup_x1 C.1 C.2.1 hd ((cv_cat g _).trans h1) ((cv_cat g _).trans h2) (k g p l e R s m args below meth c cells slots Q r σ' C ho hr H locs ls hW hS hl)
theorem v_dup_x2 {a b f : Value} (hd : decode cc pc = .ok (.dup_x2, 1)) (h1 : a.category = 1) (h2 : b.category = 1) (h3 : f.category = 1) (k : VF K cc own o σ (pc + 1) lv (a :: b :: f :: a :: st)) : VF K cc own o σ pc lv (a :: b :: f :: st) := by
  intro g p l e R s m args below meth c cells slots Q r σ' C ho hr H locs ls hW hS hl
  exact lv_dup_x2 C.1 C.2.1 hd ((cv_cat g _).trans h1) ((cv_cat g _).trans h2) ((cv_cat g _).trans h3) (k g p l e R s m args below meth c cells slots Q r σ' C ho hr H locs ls hW hS hl)
theorem v_dup2_11 {a b : Value} (hd : decode cc pc = .ok (.dup2, 1)) (h1 : a.category = 1) (h2 : b.category = 1) (k : VF K cc own o σ (pc + 1) lv (a :: b :: a :: b :: st)) : VF K cc own o σ pc lv (a :: b :: st) := by
  intro g p l e R s m args below meth c cells slots Q r σ' C ho hr H locs ls hW hS hl
  exact lv_dup2_11 C.1 C.2.1 hd ((cv_cat g _).trans h1) ((cv_cat g _).trans h2) (k g p l e R s m args below meth c cells slots Q r σ' C ho hr H locs ls hW hS hl)
theorem v_dup2_2 {a : Value} (hd : decode cc pc = .ok (.dup2, 1)) (h1 : a.category = 2) (k : VF K cc own o σ (pc + 1) lv (a :: a :: st)) : VF K cc own o σ pc lv (a :: st) := by
  intro g p l e R s m args below meth c cells slots Q r σ' C ho hr H locs ls hW hS hl
  exact lv_dup2_2 C.1 C.2.1 hd ((cv_cat g _).trans h1) (k g p l e R s m args below meth c cells slots Q r σ' C ho hr H locs ls hW hS hl)
theorem v_pop2_2 {a : Value} (hd : decode cc pc = .ok (.pop2, 1)) (h1 : a.category = 2) (k : VF K cc own o σ (pc + 1) lv (st)) : VF K cc own o σ pc lv (a :: st) := by
  intro g p l e R s m args below meth c cells slots Q r σ' C ho hr H locs ls hW hS hl
  exact lv_pop2_2 C.1 C.2.1 hd ((cv_cat g _).trans h1) (k g p l e R s m args below meth c cells slots Q r σ' C ho hr H locs ls hW hS hl)
theorem v_idiv {x y : Int32} (hd : decode cc pc = .ok (.idiv, 1)) (k : VF K cc own o σ (pc + 1) lv (.int (x / y) :: st)) : VF K cc own (ck (!(y == 0)) o) σ pc lv (.int y :: .int x :: st) := by
  intro g p l e R s m args below meth c cells slots Q r σ' C ho hr H locs ls hW hS hl
  obtain ⟨hb, ho⟩ := ck_some ho
  exact lv_idiv C.1 C.2.1 hd (by intro z; rw [z] at hb; exact absurd hb (by decide)) (k g p l e R s m args below meth c cells slots Q r σ' C ho hr H locs ls hW hS hl)
theorem v_irem {x y : Int32} (hd : decode cc pc = .ok (.irem, 1)) (k : VF K cc own o σ (pc + 1) lv (.int (x - x / y * y) :: st)) : VF K cc own (ck (!(y == 0)) o) σ pc lv (.int y :: .int x :: st) := by
  intro g p l e R s m args below meth c cells slots Q r σ' C ho hr H locs ls hW hS hl
  obtain ⟨hb, ho⟩ := ck_some ho
  exact lv_irem C.1 C.2.1 hd (by intro z; rw [z] at hb; exact absurd hb (by decide)) (k g p l e R s m args below meth c cells slots Q r σ' C ho hr H locs ls hW hS hl)
theorem v_ldiv {x y : Int64} (hd : decode cc pc = .ok (.ldiv, 1)) (k : VF K cc own o σ (pc + 1) lv (.long (x / y) :: st)) : VF K cc own (ck (!(y == 0)) o) σ pc lv (.long y :: .long x :: st) := by
  intro g p l e R s m args below meth c cells slots Q r σ' C ho hr H locs ls hW hS hl
  obtain ⟨hb, ho⟩ := ck_some ho
  exact lv_ldiv C.1 C.2.1 hd (by intro z; rw [z] at hb; exact absurd hb (by decide)) (k g p l e R s m args below meth c cells slots Q r σ' C ho hr H locs ls hW hS hl)
theorem v_lrem {x y : Int64} (hd : decode cc pc = .ok (.lrem, 1)) (k : VF K cc own o σ (pc + 1) lv (.long (x - x / y * y) :: st)) : VF K cc own (ck (!(y == 0)) o) σ pc lv (.long y :: .long x :: st) := by
  intro g p l e R s m args below meth c cells slots Q r σ' C ho hr H locs ls hW hS hl
  obtain ⟨hb, ho⟩ := ck_some ho
  exact lv_lrem C.1 C.2.1 hd (by intro z; rw [z] at hb; exact absurd hb (by decide)) (k g p l e R s m args below meth c cells slots Q r σ' C ho hr H locs ls hW hS hl)
theorem v_istore_n {k0 : Fin 4} {i : Nat} {x : Int32} {lv' : List (Nat × Value)} (hd : decode cc pc = .ok (.istore_n k0, 1)) (hi : (k0 : Nat) = i) (hn : i < K.2.2.1) (hq : (i, Value.int x) :: lv.filter (fun q => !(q.1 == i) && !(q.1 + 1 == i && q.2.category == 2)) = lv') (k : VF K cc own o σ (pc + 1) lv' st) : VF K cc own o σ pc lv (.int x :: st) := by
  intro g p l e R s m args below meth c cells slots Q r σ' C ho hr H locs ls hW hS hl
  exact lv_istore_n C.1 C.2.1 hd hi hl hn (by rw [← hq, List.map_cons, cv_filter1]; rfl) (fun ls hl => k g p l e R s m args below meth c cells slots Q r σ' C ho hr H locs ls hW hS hl)
theorem v_istore {i : Nat} {x : Int32} {lv' : List (Nat × Value)} (hd : decode cc pc = .ok (.istore i, 2)) (hn : i < K.2.2.1) (hq : (i, Value.int x) :: lv.filter (fun q => !(q.1 == i) && !(q.1 + 1 == i && q.2.category == 2)) = lv') (k : VF K cc own o σ (pc + 2) lv' st) : VF K cc own o σ pc lv (.int x :: st) := by
  intro g p l e R s m args below meth c cells slots Q r σ' C ho hr H locs ls hW hS hl
  exact lv_istore C.1 C.2.1 hd hl hn (by rw [← hq, List.map_cons, cv_filter1]; rfl) (fun ls hl => k g p l e R s m args below meth c cells slots Q r σ' C ho hr H locs ls hW hS hl)
theorem v_lstore_n {k0 : Fin 4} {i : Nat} {x : Int64} {lv' : List (Nat × Value)} (hd : decode cc pc = .ok (.lstore_n k0, 1)) (hi : (k0 : Nat) = i) (hn : i + 1 < K.2.2.1) (hq : (i, Value.long x) :: lv.filter (fun q => !(q.1 == i) && (!(q.1 == i + 1) && !(q.1 + 1 == i && q.2.category == 2))) = lv') (k : VF K cc own o σ (pc + 1) lv' st) : VF K cc own o σ pc lv (.long x :: st) := by
  intro g p l e R s m args below meth c cells slots Q r σ' C ho hr H locs ls hW hS hl
  exact lv_lstore_n C.1 C.2.1 hd hi hl hn (by rw [← hq, List.map_cons, cv_filter2]; rfl) (fun ls hl => k g p l e R s m args below meth c cells slots Q r σ' C ho hr H locs ls hW hS hl)
theorem v_lstore {i : Nat} {x : Int64} {lv' : List (Nat × Value)} (hd : decode cc pc = .ok (.lstore i, 2)) (hn : i + 1 < K.2.2.1) (hq : (i, Value.long x) :: lv.filter (fun q => !(q.1 == i) && (!(q.1 == i + 1) && !(q.1 + 1 == i && q.2.category == 2))) = lv') (k : VF K cc own o σ (pc + 2) lv' st) : VF K cc own o σ pc lv (.long x :: st) := by
  intro g p l e R s m args below meth c cells slots Q r σ' C ho hr H locs ls hW hS hl
  exact lv_lstore C.1 C.2.1 hd hl hn (by rw [← hq, List.map_cons, cv_filter2]; rfl) (fun ls hl => k g p l e R s m args below meth c cells slots Q r σ' C ho hr H locs ls hW hS hl)
theorem v_astore_n {k0 : Fin 4} {i : Nat} {x : Nat} {lv' : List (Nat × Value)} (hd : decode cc pc = .ok (.astore_n k0, 1)) (hi : (k0 : Nat) = i) (hn : i < K.2.2.1) (hq : (i, Value.ref x) :: lv.filter (fun q => !(q.1 == i) && !(q.1 + 1 == i && q.2.category == 2)) = lv') (k : VF K cc own o σ (pc + 1) lv' st) : VF K cc own o σ pc lv (.ref x :: st) := by
  intro g p l e R s m args below meth c cells slots Q r σ' C ho hr H locs ls hW hS hl
  exact lv_astore_n C.1 C.2.1 hd hi hl hn (by rw [← hq, List.map_cons, cv_filter1]; rfl) (fun ls hl => k g p l e R s m args below meth c cells slots Q r σ' C ho hr H locs ls hW hS hl)
theorem v_astore {i : Nat} {x : Nat} {lv' : List (Nat × Value)} (hd : decode cc pc = .ok (.astore i, 2)) (hn : i < K.2.2.1) (hq : (i, Value.ref x) :: lv.filter (fun q => !(q.1 == i) && !(q.1 + 1 == i && q.2.category == 2)) = lv') (k : VF K cc own o σ (pc + 2) lv' st) : VF K cc own o σ pc lv (.ref x :: st) := by
  intro g p l e R s m args below meth c cells slots Q r σ' C ho hr H locs ls hW hS hl
  exact lv_astore C.1 C.2.1 hd hl hn (by rw [← hq, List.map_cons, cv_filter1]; rfl) (fun ls hl => k g p l e R s m args below meth c cells slots Q r σ' C ho hr H locs ls hW hS hl)
theorem v_iinc {i : Nat} {n : Int} {x v : Int32} {lv' : List (Nat × Value)} (hd : decode cc pc = .ok (.iinc i n, 3)) (q : Nat) (hx : lv[q]? = some (i, .int x)) (hv : x + Int32.ofInt n = v) (hn : i < K.2.2.1) (hq : (i, Value.int v) :: lv.filter (fun q => !(q.1 == i) && !(q.1 + 1 == i && q.2.category == 2)) = lv') (k : VF K cc own o σ (pc + 3) lv' st) : VF K cc own o σ pc lv st := by
  intro g p l e R s m args below meth c cells slots Q r σ' C ho hr H locs ls hW hS hl
  exact lv_iinc (k := q) C.1 C.2.1 hd hl (by rw [List.getElem?_map, hx]; rfl) hv hn (by rw [← hq, List.map_cons, cv_filter1]; rfl) (fun ls hl => k g p l e R s m args below meth c cells slots Q r σ' C ho hr H locs ls hW hS hl)
theorem v_if_eq {x : Int32} {off : Int} {tgt : Nat} {A B : Option (α × Ms)} (hd : decode cc pc = .ok (.ifCond .eq off, 3)) (ht : (pc : Int) + off = (tgt : Int)) (kt : VF K cc own A σ tgt lv st) (kf : VF K cc own B σ (pc + 3) lv st) : VF K cc own (if x = 0 then A else B) σ pc lv (.int x :: st) := by
  intro g p l e R s m args below meth c cells slots Q r σ' C ho hr H locs ls hW hS hl
  exact lv_if_eq C.1 C.2.1 hd ht (fun h => kt g p l e R s m args below meth c cells slots Q r σ' C ((if_pos (by simpa using h)).symm.trans ho) hr H locs ls hW hS hl) (fun h => kf g p l e R s m args below meth c cells slots Q r σ' C ((if_neg (by simpa using h)).symm.trans ho) hr H locs ls hW hS hl)
theorem v_icmp_eq {x y : Int32} {off : Int} {tgt : Nat} {A B : Option (α × Ms)} (hd : decode cc pc = .ok (.if_icmp .eq off, 3)) (ht : (pc : Int) + off = (tgt : Int)) (kt : VF K cc own A σ tgt lv st) (kf : VF K cc own B σ (pc + 3) lv st) : VF K cc own (if x = y then A else B) σ pc lv (.int y :: .int x :: st) := by
  intro g p l e R s m args below meth c cells slots Q r σ' C ho hr H locs ls hW hS hl
  exact lv_icmp_eq C.1 C.2.1 hd ht (fun h => kt g p l e R s m args below meth c cells slots Q r σ' C ((if_pos (by simpa using h)).symm.trans ho) hr H locs ls hW hS hl) (fun h => kf g p l e R s m args below meth c cells slots Q r σ' C ((if_neg (by simpa using h)).symm.trans ho) hr H locs ls hW hS hl)
theorem v_if_ne {x : Int32} {off : Int} {tgt : Nat} {A B : Option (α × Ms)} (hd : decode cc pc = .ok (.ifCond .ne off, 3)) (ht : (pc : Int) + off = (tgt : Int)) (kt : VF K cc own A σ tgt lv st) (kf : VF K cc own B σ (pc + 3) lv st) : VF K cc own (if x ≠ 0 then A else B) σ pc lv (.int x :: st) := by
  intro g p l e R s m args below meth c cells slots Q r σ' C ho hr H locs ls hW hS hl
  exact lv_if_ne C.1 C.2.1 hd ht (fun h => kt g p l e R s m args below meth c cells slots Q r σ' C ((if_pos (by simpa using h)).symm.trans ho) hr H locs ls hW hS hl) (fun h => kf g p l e R s m args below meth c cells slots Q r σ' C ((if_neg (by simpa using h)).symm.trans ho) hr H locs ls hW hS hl)
theorem v_icmp_ne {x y : Int32} {off : Int} {tgt : Nat} {A B : Option (α × Ms)} (hd : decode cc pc = .ok (.if_icmp .ne off, 3)) (ht : (pc : Int) + off = (tgt : Int)) (kt : VF K cc own A σ tgt lv st) (kf : VF K cc own B σ (pc + 3) lv st) : VF K cc own (if x ≠ y then A else B) σ pc lv (.int y :: .int x :: st) := by
  intro g p l e R s m args below meth c cells slots Q r σ' C ho hr H locs ls hW hS hl
  exact lv_icmp_ne C.1 C.2.1 hd ht (fun h => kt g p l e R s m args below meth c cells slots Q r σ' C ((if_pos (by simpa using h)).symm.trans ho) hr H locs ls hW hS hl) (fun h => kf g p l e R s m args below meth c cells slots Q r σ' C ((if_neg (by simpa using h)).symm.trans ho) hr H locs ls hW hS hl)
theorem v_if_lt {x : Int32} {off : Int} {tgt : Nat} {A B : Option (α × Ms)} (hd : decode cc pc = .ok (.ifCond .lt off, 3)) (ht : (pc : Int) + off = (tgt : Int)) (kt : VF K cc own A σ tgt lv st) (kf : VF K cc own B σ (pc + 3) lv st) : VF K cc own (if x < 0 then A else B) σ pc lv (.int x :: st) := by
  intro g p l e R s m args below meth c cells slots Q r σ' C ho hr H locs ls hW hS hl
  exact lv_if_lt C.1 C.2.1 hd ht (fun h => kt g p l e R s m args below meth c cells slots Q r σ' C ((if_pos (by simpa using h)).symm.trans ho) hr H locs ls hW hS hl) (fun h => kf g p l e R s m args below meth c cells slots Q r σ' C ((if_neg (by simpa using h)).symm.trans ho) hr H locs ls hW hS hl)
theorem v_icmp_lt {x y : Int32} {off : Int} {tgt : Nat} {A B : Option (α × Ms)} (hd : decode cc pc = .ok (.if_icmp .lt off, 3)) (ht : (pc : Int) + off = (tgt : Int)) (kt : VF K cc own A σ tgt lv st) (kf : VF K cc own B σ (pc + 3) lv st) : VF K cc own (if x < y then A else B) σ pc lv (.int y :: .int x :: st) := by
  intro g p l e R s m args below meth c cells slots Q r σ' C ho hr H locs ls hW hS hl
  exact lv_icmp_lt C.1 C.2.1 hd ht (fun h => kt g p l e R s m args below meth c cells slots Q r σ' C ((if_pos (by simpa using h)).symm.trans ho) hr H locs ls hW hS hl) (fun h => kf g p l e R s m args below meth c cells slots Q r σ' C ((if_neg (by simpa using h)).symm.trans ho) hr H locs ls hW hS hl)
theorem v_if_ge {x : Int32} {off : Int} {tgt : Nat} {A B : Option (α × Ms)} (hd : decode cc pc = .ok (.ifCond .ge off, 3)) (ht : (pc : Int) + off = (tgt : Int)) (kt : VF K cc own A σ tgt lv st) (kf : VF K cc own B σ (pc + 3) lv st) : VF K cc own (if 0 ≤ x then A else B) σ pc lv (.int x :: st) := by
  intro g p l e R s m args below meth c cells slots Q r σ' C ho hr H locs ls hW hS hl
  exact lv_if_ge C.1 C.2.1 hd ht (fun h => kt g p l e R s m args below meth c cells slots Q r σ' C ((if_pos (by simpa using h)).symm.trans ho) hr H locs ls hW hS hl) (fun h => kf g p l e R s m args below meth c cells slots Q r σ' C ((if_neg (by simpa using h)).symm.trans ho) hr H locs ls hW hS hl)
theorem v_icmp_ge {x y : Int32} {off : Int} {tgt : Nat} {A B : Option (α × Ms)} (hd : decode cc pc = .ok (.if_icmp .ge off, 3)) (ht : (pc : Int) + off = (tgt : Int)) (kt : VF K cc own A σ tgt lv st) (kf : VF K cc own B σ (pc + 3) lv st) : VF K cc own (if y ≤ x then A else B) σ pc lv (.int y :: .int x :: st) := by
  intro g p l e R s m args below meth c cells slots Q r σ' C ho hr H locs ls hW hS hl
  exact lv_icmp_ge C.1 C.2.1 hd ht (fun h => kt g p l e R s m args below meth c cells slots Q r σ' C ((if_pos (by simpa using h)).symm.trans ho) hr H locs ls hW hS hl) (fun h => kf g p l e R s m args below meth c cells slots Q r σ' C ((if_neg (by simpa using h)).symm.trans ho) hr H locs ls hW hS hl)
theorem v_if_gt {x : Int32} {off : Int} {tgt : Nat} {A B : Option (α × Ms)} (hd : decode cc pc = .ok (.ifCond .gt off, 3)) (ht : (pc : Int) + off = (tgt : Int)) (kt : VF K cc own A σ tgt lv st) (kf : VF K cc own B σ (pc + 3) lv st) : VF K cc own (if 0 < x then A else B) σ pc lv (.int x :: st) := by
  intro g p l e R s m args below meth c cells slots Q r σ' C ho hr H locs ls hW hS hl
  exact lv_if_gt C.1 C.2.1 hd ht (fun h => kt g p l e R s m args below meth c cells slots Q r σ' C ((if_pos (by simpa using h)).symm.trans ho) hr H locs ls hW hS hl) (fun h => kf g p l e R s m args below meth c cells slots Q r σ' C ((if_neg (by simpa using h)).symm.trans ho) hr H locs ls hW hS hl)
theorem v_icmp_gt {x y : Int32} {off : Int} {tgt : Nat} {A B : Option (α × Ms)} (hd : decode cc pc = .ok (.if_icmp .gt off, 3)) (ht : (pc : Int) + off = (tgt : Int)) (kt : VF K cc own A σ tgt lv st) (kf : VF K cc own B σ (pc + 3) lv st) : VF K cc own (if y < x then A else B) σ pc lv (.int y :: .int x :: st) := by
  intro g p l e R s m args below meth c cells slots Q r σ' C ho hr H locs ls hW hS hl
  exact lv_icmp_gt C.1 C.2.1 hd ht (fun h => kt g p l e R s m args below meth c cells slots Q r σ' C ((if_pos (by simpa using h)).symm.trans ho) hr H locs ls hW hS hl) (fun h => kf g p l e R s m args below meth c cells slots Q r σ' C ((if_neg (by simpa using h)).symm.trans ho) hr H locs ls hW hS hl)
theorem v_if_le {x : Int32} {off : Int} {tgt : Nat} {A B : Option (α × Ms)} (hd : decode cc pc = .ok (.ifCond .le off, 3)) (ht : (pc : Int) + off = (tgt : Int)) (kt : VF K cc own A σ tgt lv st) (kf : VF K cc own B σ (pc + 3) lv st) : VF K cc own (if x ≤ 0 then A else B) σ pc lv (.int x :: st) := by
  intro g p l e R s m args below meth c cells slots Q r σ' C ho hr H locs ls hW hS hl
  exact lv_if_le C.1 C.2.1 hd ht (fun h => kt g p l e R s m args below meth c cells slots Q r σ' C ((if_pos (by simpa using h)).symm.trans ho) hr H locs ls hW hS hl) (fun h => kf g p l e R s m args below meth c cells slots Q r σ' C ((if_neg (by simpa using h)).symm.trans ho) hr H locs ls hW hS hl)
theorem v_icmp_le {x y : Int32} {off : Int} {tgt : Nat} {A B : Option (α × Ms)} (hd : decode cc pc = .ok (.if_icmp .le off, 3)) (ht : (pc : Int) + off = (tgt : Int)) (kt : VF K cc own A σ tgt lv st) (kf : VF K cc own B σ (pc + 3) lv st) : VF K cc own (if x ≤ y then A else B) σ pc lv (.int y :: .int x :: st) := by
  intro g p l e R s m args below meth c cells slots Q r σ' C ho hr H locs ls hW hS hl
  exact lv_icmp_le C.1 C.2.1 hd ht (fun h => kt g p l e R s m args below meth c cells slots Q r σ' C ((if_pos (by simpa using h)).symm.trans ho) hr H locs ls hW hS hl) (fun h => kf g p l e R s m args below meth c cells slots Q r σ' C ((if_neg (by simpa using h)).symm.trans ho) hr H locs ls hW hS hl)
theorem v_goto {off : Int} {tgt : Nat} (hd : decode cc pc = .ok (.goto off, 3)) (ht : (pc : Int) + off = (tgt : Int)) (k : VF K cc own o σ tgt lv st) : VF K cc own o σ pc lv st := by
  intro g p l e R s m args below meth c cells slots Q r σ' C ho hr H locs ls hW hS hl
  exact lv_goto C.1 C.2.1 hd ht (k g p l e R s m args below meth c cells slots Q r σ' C ho hr H locs ls hW hS hl)
theorem v_ifnonnull {x : Nat} {off : Int} {tgt : Nat} (hd : decode cc pc = .ok (.ifnonnull off, 3)) (ht : (pc : Int) + off = (tgt : Int)) (k : VF K cc own o σ tgt lv st) : VF K cc own o σ pc lv (.ref x :: st) := by
  intro g p l e R s m args below meth c cells slots Q r σ' C ho hr H locs ls hW hS hl
  exact lv_ifnonnull C.1 C.2.1 hd ht (k g p l e R s m args below meth c cells slots Q r σ' C ho hr H locs ls hW hS hl)
theorem v_ifnull {x : Nat} {off : Int} (hd : decode cc pc = .ok (.ifnull off, 3)) (k : VF K cc own o σ (pc + 3) lv st) : VF K cc own o σ pc lv (.ref x :: st) := by
  intro g p l e R s m args below meth c cells slots Q r σ' C ho hr H locs ls hW hS hl
  exact lv_ifnull C.1 C.2.1 hd (k g p l e R s m args below meth c cells slots Q r σ' C ho hr H locs ls hW hS hl)
theorem v_tabOut {dflt lo hi : Int} {offs : Array Int} {len : Nat} {x : Int32} {tgt : Nat} (hd : decode cc pc = .ok (.tableswitch dflt lo hi offs, len)) (ht : (pc : Int) + dflt = (tgt : Int)) (hx : x.toInt < lo ∨ hi < x.toInt) (k : VF K cc own o σ tgt lv st) : VF K cc own o σ pc lv (.int x :: st) := by
  intro g p l e R s m args below meth c cells slots Q r σ' C ho hr H locs ls hW hS hl
  exact lv_tableOut C.1 C.2.1 hd hx ht (k g p l e R s m args below meth c cells slots Q r σ' C ho hr H locs ls hW hS hl)
theorem v_tabIn {dflt lo hi off : Int} {offs : Array Int} {len : Nat} {x : Int32} {tgt : Nat} (hd : decode cc pc = .ok (.tableswitch dflt lo hi offs, len)) (v : Int32) (hx : x = v) (h1 : ¬ v.toInt < lo) (h2 : ¬ hi < v.toInt) (hz : offs[(v.toInt - lo).toNat]? = some off) (ht : (pc : Int) + off = (tgt : Int)) (k : VF K cc own o σ tgt lv st) : VF K cc own o σ pc lv (.int x :: st) := by
  intro g p l e R s m args below meth c cells slots Q r σ' C ho hr H locs ls hW hS hl
  subst hx
  exact lv_tableIn C.1 C.2.1 hd h1 h2 hz ht (k g p l e R s m args below meth c cells slots Q r σ' C ho hr H locs ls hW hS hl)
theorem v_ite {c : Prop} (hc : Decidable c) {A B : Option (α × Ms)} (kt : c → VF K cc own A σ pc lv st) (kf : ¬ c → VF K cc own B σ pc lv st) : VF K cc own (@ite _ c hc A B) σ pc lv st := by
  by_cases h : c
  · rw [if_pos h]; exact kt h
  · rw [if_neg h]; exact kf h
/-- constants of the pool -/
theorem v_ldc {index : Nat} {v : Int32} (hd : decode cc pc = .ok (.ldc index, 2)) (hw : Cond.constant own index v ∈ LW) (k : VF K cc own o σ (pc + 2) lv (.int v :: st)) : VF K cc own o σ pc lv st := by
  intro g p l e R s m args below meth c cells slots Q r σ' C ho hr H locs ls hW hS hl
  exact lv_ldc C.1 C.2.1 C.2.2.2.1 (C.2.2.2.2.1 _ hw) hd (k g p l e R s m args below meth c cells slots Q r σ' C ho hr H locs ls hW hS hl)
theorem v_ldc_w {index : Nat} {v : Int32} (hd : decode cc pc = .ok (.ldc_w index, 3)) (hw : Cond.constant own index v ∈ LW) (k : VF K cc own o σ (pc + 3) lv (.int v :: st)) : VF K cc own o σ pc lv st := by
  intro g p l e R s m args below meth c cells slots Q r σ' C ho hr H locs ls hW hS hl
  exact lv_ldcw C.1 C.2.1 C.2.2.2.1 (C.2.2.2.2.1 _ hw) hd (k g p l e R s m args below meth c cells slots Q r σ' C ho hr H locs ls hW hS hl)
theorem v_ldc2 {index : Nat} {v : Int64} (hd : decode cc pc = .ok (.ldc2_w index, 3)) (hw : Cond.constantLong own index v ∈ LW) (k : VF K cc own o σ (pc + 3) lv (.long v :: st)) : VF K cc own o σ pc lv st := by
  intro g p l e R s m args below meth c cells slots Q r σ' C ho hr H locs ls hW hS hl
  exact lv_ldc2 C.1 C.2.1 C.2.2.2.1 (C.2.2.2.2.1 _ hw) hd (k g p l e R s m args below meth c cells slots Q r σ' C ho hr H locs ls hW hS hl)
theorem v_ldcS {index i : Nat} {tx : String} (hd : decode cc pc = .ok (.ldc index, 2)) (hw : (own, index, tx, i) ∈ strL) (k : VF K cc own o σ (pc + 2) lv (.ref (114 + i) :: st)) : VF K cc own o σ pc lv st := by
  intro g p l e R s m args below meth c cells slots Q r σ' C ho hr H locs ls hW hS hl
  exact va_ldcS C.1 C.2.1 C.2.2.2.1 (C.2.2.2.2.2.2.1.2.2.2.1 _ hw) hd (k g p l e R s m args below meth c cells slots Q r σ' C ho hr H locs ls hW hS hl)
/-- returns -/
theorem v_iret {K : CK Int32} {x : Int32} {ty : FieldType} (hd : decode cc pc = .ok (.ireturn, 1)) (h1 : K.1 = enI) (h2 : K.2.1 = some ty) (hn : narrow ty (.int x) = .int x) : VF K cc own (some (x, σ)) σ pc lv [.int x] := by
  intro g p l e R s m args below meth c cells slots Q r σ' C ho hr H locs ls hW hS hl
  cases ho
  exact hr.2.1 H locs pc ls x ty hW hS (by rw [h1]; rfl) h2 hn hd
theorem v_iretB {K : CK Int32} {x : Int32} (hd : decode cc pc = .ok (.ireturn, 1)) (h1 : K.1 = enI) (h2 : K.2.1 = some .boolean) : VF K cc own (ck (nkB x) (some (x, σ))) σ pc lv [.int x] := by
  intro g p l e R s m args below meth c cells slots Q r σ' C ho hr H locs ls hW hS hl
  obtain ⟨hb, ho⟩ := ck_some ho
  cases ho
  exact hr.2.1 H locs pc ls x _ hW hS (by rw [h1]; rfl) h2 (nkB_ok hb).1 hd
theorem v_iretC {K : CK Int32} {x : Int32} (hd : decode cc pc = .ok (.ireturn, 1)) (h1 : K.1 = enI) (h2 : K.2.1 = some .char) : VF K cc own (ck (nkC x) (some (x, σ))) σ pc lv [.int x] := by
  intro g p l e R s m args below meth c cells slots Q r σ' C ho hr H locs ls hW hS hl
  obtain ⟨hb, ho⟩ := ck_some ho
  cases ho
  exact hr.2.1 H locs pc ls x _ hW hS (by rw [h1]; rfl) h2 (nkC_ok hb) hd
theorem v_iretY {K : CK Int32} {x : Int32} (hd : decode cc pc = .ok (.ireturn, 1)) (h1 : K.1 = enI) (h2 : K.2.1 = some .byte) : VF K cc own (ck (nkY x) (some (x, σ))) σ pc lv [.int x] := by
  intro g p l e R s m args below meth c cells slots Q r σ' C ho hr H locs ls hW hS hl
  obtain ⟨hb, ho⟩ := ck_some ho
  cases ho
  exact hr.2.1 H locs pc ls x _ hW hS (by rw [h1]; rfl) h2 (nkY_ok hb) hd
theorem v_lret {K : CK Int64} {x : Int64} (hd : decode cc pc = .ok (.lreturn, 1)) (h1 : K.1 = enL) (h2 : K.2.1 = some .long) : VF K cc own (some (x, σ)) σ pc lv [.long x] := by
  intro g p l e R s m args below meth c cells slots Q r σ' C ho hr H locs ls hW hS hl
  cases ho
  exact hr.2.2 H locs pc ls x hW hS (by rw [h1]; rfl) h2 hd
theorem v_vret {K : CK Unit} (hd : decode cc pc = .ok (.return_, 1)) (h1 : K.1 = enV) : VF K cc own (some ((), σ)) σ pc lv [] := by
  intro g p l e R s m args below meth c cells slots Q r σ' C ho hr H locs ls hW hS hl
  cases ho
  exact hr.1 H locs pc ls hW hS (by rw [h1]; rfl) hd
/-- names for what was reckoned, fewer locals, no road -/
theorem v_lti {e0 : Int32} {f : Int32 → Option (α × Ms)} (k : ∀ x, VF K cc own (f x) σ pc lv (.int x :: st)) : VF K cc own (lt e0 f) σ pc lv (.int e0 :: st) := k e0
theorem v_ltl {e0 : Int64} {f : Int64 → Option (α × Ms)} (k : ∀ x, VF K cc own (f x) σ pc lv (.long x :: st)) : VF K cc own (lt e0 f) σ pc lv (.long e0 :: st) := k e0
theorem v_lts {f : Ms → Option (α × Ms)} (k : ∀ τ, VF K cc own (f τ) τ pc lv st) : VF K cc own (lt σ f) σ pc lv st := k σ
theorem v_none : VF K cc own none σ pc lv st := fun g p l e R s m args below meth c cells slots Q r σ' C ho => by cases ho
theorem v_sub {lv' : List (Nat × Value)} (ks : List Nat) (hq : lv_pick lv ks = lv') (k : VF K cc own o σ pc lv' st) : VF K cc own o σ pc lv st := by
  intro g p l e R s m args below meth c cells slots Q r σ' C ho hr H locs ls hW hS hl
  refine k g p l e R s m args below meth c cells slots Q r σ' C ho hr H locs ls hW hS (lv_sub hl ks ?_)
  rw [← hq]
  unfold lv_pick
  rw [List.map_filterMap]
  congr 1
  funext i
  rw [List.getElem?_map]
/-- a loop -/
theorem v_fx {S : Type} {B : (S → Option (α × Ms)) → S → Option (α × Ms)} {σo : S → Ms} {lo : S → List (Nat × Value)} (hB : ∀ k : S → Option (α × Ms), (∀ x, VF K cc own (k x) (σo x) pc (lo x) st) → ∀ x, VF K cc own (B k x) (σo x) pc (lo x) st) : ∀ (n : Nat) (x : S), VF K cc own (fx n B x) (σo x) pc (lo x) st
  | 0, _ => v_none
  | n + 1, x => hB (fx n B) (fun y => v_fx hB n y) x

end VROWS
