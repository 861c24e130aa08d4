theorem d5_forget_0 : decode cX5_forget 0 = .ok (.aload_n 0, 1) := by decide +kernel
theorem d5_forget_1 : decode cX5_forget 1 = .ok (.iconst 0, 1) := by decide +kernel
theorem d5_forget_2 : decode cX5_forget 2 = .ok (.putfield 11, 3) := by decide +kernel
theorem d5_forget_5 : decode cX5_forget 5 = .ok (.return_, 1) := by decide +kernel
abbrev K5_forget : CK Unit := (enV, none, 1, 1, none)
noncomputable def F5_forget (h : Nat) (σ : Ms) : Option (Unit × Ms) :=
  ck (nkB (0 : Int32)) (lt (sI σ h 0 (0 : Int32)) (fun t1 => some ((), t1)))
set_option maxRecDepth 100000 in
theorem mc5_forget (h : Nat) (hh : IsC h (0, 3, 0)) (σ : Ms) : MC enV yX5_forget cX5_forget 1 none 1 (F5_forget h σ) σ [.ref h] := by
  refine MC.v (by decide +kernel) (Nat.le_of_ble_eq_true rfl) ?_
  show VF (K5_forget) cX5_forget RX5 (F5_forget h σ) σ 0 [(0, .ref h)] []
  unfold F5_forget
  refine v_aload_n d5_forget_0 0 rfl rfl ?_
  refine v_iconst d5_forget_1 ki_0 ?_
  refine v_putB d5_forget_2 faX5_11 fp3_0 hh ?_
  refine v_lts fun t1 => ?_
  exact v_vret d5_forget_5 rfl
theorem d5_begin_0 : decode cX5_begin 0 = .ok (.aload_n 0, 1) := by decide +kernel
theorem d5_begin_1 : decode cX5_begin 1 = .ok (.iconst 1, 1) := by decide +kernel
theorem d5_begin_2 : decode cX5_begin 2 = .ok (.putfield 11, 3) := by decide +kernel
theorem d5_begin_5 : decode cX5_begin 5 = .ok (.aload_n 0, 1) := by decide +kernel
theorem d5_begin_6 : decode cX5_begin 6 = .ok (.iconst 0, 1) := by decide +kernel
theorem d5_begin_7 : decode cX5_begin 7 = .ok (.putfield 15, 3) := by decide +kernel
theorem d5_begin_10 : decode cX5_begin 10 = .ok (.aload_n 0, 1) := by decide +kernel
theorem d5_begin_11 : decode cX5_begin 11 = .ok (.iconst 0, 1) := by decide +kernel
theorem d5_begin_12 : decode cX5_begin 12 = .ok (.putfield 19, 3) := by decide +kernel
theorem d5_begin_15 : decode cX5_begin 15 = .ok (.aload_n 0, 1) := by decide +kernel
theorem d5_begin_16 : decode cX5_begin 16 = .ok (.iconst 0, 1) := by decide +kernel
theorem d5_begin_17 : decode cX5_begin 17 = .ok (.putfield 38, 3) := by decide +kernel
theorem d5_begin_20 : decode cX5_begin 20 = .ok (.return_, 1) := by decide +kernel
abbrev K5_begin : CK Unit := (enV, none, 1, 1, none)
noncomputable def F5_begin (h : Nat) (σ : Ms) : Option (Unit × Ms) :=
  ck (nkB (1 : Int32)) (lt (sI σ h 0 (1 : Int32)) (fun t1 => lt (sI t1 h 1 (0 : Int32)) (fun t2 => lt (sI t2 h 2 (0 : Int32)) (fun t3 => lt (sI t3 h 8 (0 : Int32)) (fun t4 => some ((), t4))))))
set_option maxRecDepth 100000 in
theorem mc5_begin (h : Nat) (hh : IsC h (0, 3, 0)) (σ : Ms) : MC enV yX5_begin cX5_begin 1 none 1 (F5_begin h σ) σ [.ref h] := by
  refine MC.v (by decide +kernel) (Nat.le_of_ble_eq_true rfl) ?_
  show VF (K5_begin) cX5_begin RX5 (F5_begin h σ) σ 0 [(0, .ref h)] []
  unfold F5_begin
  refine v_aload_n d5_begin_0 0 rfl rfl ?_
  refine v_iconst d5_begin_1 ki_1 ?_
  refine v_putB d5_begin_2 faX5_11 fp3_0 hh ?_
  refine v_lts fun t1 => ?_
  refine v_aload_n d5_begin_5 0 rfl rfl ?_
  refine v_iconst d5_begin_6 ki_0 ?_
  refine v_putI d5_begin_7 faX5_15 fp3_1 hh ?_
  refine v_lts fun t2 => ?_
  refine v_aload_n d5_begin_10 0 rfl rfl ?_
  refine v_iconst d5_begin_11 ki_0 ?_
  refine v_putI d5_begin_12 faX5_19 fp3_2 hh ?_
  refine v_lts fun t3 => ?_
  refine v_aload_n d5_begin_15 0 rfl rfl ?_
  refine v_iconst d5_begin_16 ki_0 ?_
  refine v_putI d5_begin_17 faX5_38 fp3_8 hh ?_
  refine v_lts fun t4 => ?_
  exact v_vret d5_begin_20 rfl
theorem d5_isBlock_0 : decode cX5_isBlock 0 = .ok (.iload_n 0, 1) := by decide +kernel
theorem d5_isBlock_1 : decode cX5_isBlock 1 = .ok (.iconst 5, 1) := by decide +kernel
theorem d5_isBlock_2 : decode cX5_isBlock 2 = .ok (.if_icmp .eq 9, 3) := by decide +kernel
theorem d5_isBlock_5 : decode cX5_isBlock 5 = .ok (.iload_n 0, 1) := by decide +kernel
theorem d5_isBlock_6 : decode cX5_isBlock 6 = .ok (.bipush 6, 2) := by decide +kernel
theorem d5_isBlock_8 : decode cX5_isBlock 8 = .ok (.if_icmp .ne 7, 3) := by decide +kernel
theorem d5_isBlock_11 : decode cX5_isBlock 11 = .ok (.iconst 1, 1) := by decide +kernel
theorem d5_isBlock_12 : decode cX5_isBlock 12 = .ok (.goto 4, 3) := by decide +kernel
theorem d5_isBlock_15 : decode cX5_isBlock 15 = .ok (.iconst 0, 1) := by decide +kernel
theorem d5_isBlock_16 : decode cX5_isBlock 16 = .ok (.ireturn, 1) := by decide +kernel
abbrev K5_isBlock : CK Int32 := (enI, (some .boolean), 1, 1, none)
noncomputable def F5_isBlock_b11 (σ : Ms) : Option (Int32 × Ms) :=
  some ((1 : Int32), σ)
noncomputable def F5_isBlock (p0 : Int32) (σ : Ms) : Option (Int32 × Ms) :=
  if p0 = (5 : Int32) then (F5_isBlock_b11 σ)
  else (if p0 ≠ (6 : Int32) then (some ((0 : Int32), σ))
  else (F5_isBlock_b11 σ))
set_option maxRecDepth 100000 in
theorem v5_isBlock_b11 (σ : Ms) : VF (K5_isBlock) cX5_isBlock RX5 (F5_isBlock_b11 σ) σ 11 [] [] := by
  unfold F5_isBlock_b11
  refine v_iconst d5_isBlock_11 ki_1 ?_
  refine v_goto (tgt := 16) d5_isBlock_12 (by decide) ?_
  exact v_iret (ty := .boolean) d5_isBlock_16 rfl rfl rfl
set_option maxRecDepth 100000 in
theorem mc5_isBlock (p0 : Int32) (σ : Ms) : MC enI yX5_isBlock cX5_isBlock 1 (some .boolean) 1 (F5_isBlock p0 σ) σ [.int p0] := by
  refine MC.i (by decide +kernel) (Nat.le_of_ble_eq_true rfl) ?_
  show VF (K5_isBlock) cX5_isBlock RX5 (F5_isBlock p0 σ) σ 0 [(0, .int p0)] []
  unfold F5_isBlock
  refine v_iload_n d5_isBlock_0 0 rfl rfl ?_
  refine v_iconst d5_isBlock_1 ki_5 ?_
  refine v_icmp_eq (tgt := 11) d5_isBlock_2 (by decide) ?_ ?_
  · refine v_sub [] rfl ?_
    exact v5_isBlock_b11 σ
  · refine v_iload_n d5_isBlock_5 0 rfl rfl ?_
    refine v_bipush d5_isBlock_6 kb_6 ?_
    refine v_icmp_ne (tgt := 15) d5_isBlock_8 (by decide) ?_ ?_
    · refine v_iconst d5_isBlock_15 ki_0 ?_
      exact v_iret (ty := .boolean) d5_isBlock_16 rfl rfl rfl
    · refine v_sub [] rfl ?_
      exact v5_isBlock_b11 σ
theorem d5_add_0 : decode cX5_add 0 = .ok (.aload_n 0, 1) := by decide +kernel
theorem d5_add_1 : decode cX5_add 1 = .ok (.getfield 15, 3) := by decide +kernel
theorem d5_add_4 : decode cX5_add 4 = .ok (.bipush 30, 2) := by decide +kernel
theorem d5_add_6 : decode cX5_add 6 = .ok (.if_icmp .ge 12, 3) := by decide +kernel
theorem d5_add_9 : decode cX5_add 9 = .ok (.aload_n 0, 1) := by decide +kernel
theorem d5_add_10 : decode cX5_add 10 = .ok (.getfield 19, 3) := by decide +kernel
theorem d5_add_13 : decode cX5_add 13 = .ok (.bipush 60, 2) := by decide +kernel
theorem d5_add_15 : decode cX5_add 15 = .ok (.if_icmp .lt 4, 3) := by decide +kernel
theorem d5_add_18 : decode cX5_add 18 = .ok (.return_, 1) := by decide +kernel
theorem d5_add_19 : decode cX5_add 19 = .ok (.aload_n 0, 1) := by decide +kernel
theorem d5_add_20 : decode cX5_add 20 = .ok (.getfield 22, 3) := by decide +kernel
theorem d5_add_23 : decode cX5_add 23 = .ok (.aload_n 0, 1) := by decide +kernel
theorem d5_add_24 : decode cX5_add 24 = .ok (.getfield 19, 3) := by decide +kernel
theorem d5_add_27 : decode cX5_add 27 = .ok (.iload_n 1, 1) := by decide +kernel
theorem d5_add_28 : decode cX5_add 28 = .ok (.iastore, 1) := by decide +kernel
theorem d5_add_29 : decode cX5_add 29 = .ok (.aload_n 0, 1) := by decide +kernel
theorem d5_add_30 : decode cX5_add 30 = .ok (.getfield 26, 3) := by decide +kernel
theorem d5_add_33 : decode cX5_add 33 = .ok (.aload_n 0, 1) := by decide +kernel
theorem d5_add_34 : decode cX5_add 34 = .ok (.getfield 19, 3) := by decide +kernel
theorem d5_add_37 : decode cX5_add 37 = .ok (.iload_n 2, 1) := by decide +kernel
theorem d5_add_38 : decode cX5_add 38 = .ok (.iastore, 1) := by decide +kernel
theorem d5_add_39 : decode cX5_add 39 = .ok (.aload_n 0, 1) := by decide +kernel
theorem d5_add_40 : decode cX5_add 40 = .ok (.getfield 29, 3) := by decide +kernel
theorem d5_add_43 : decode cX5_add 43 = .ok (.aload_n 0, 1) := by decide +kernel
theorem d5_add_44 : decode cX5_add 44 = .ok (.getfield 19, 3) := by decide +kernel
theorem d5_add_47 : decode cX5_add 47 = .ok (.iload_n 3, 1) := by decide +kernel
theorem d5_add_48 : decode cX5_add 48 = .ok (.iastore, 1) := by decide +kernel
theorem d5_add_49 : decode cX5_add 49 = .ok (.aload_n 0, 1) := by decide +kernel
theorem d5_add_50 : decode cX5_add 50 = .ok (.getfield 32, 3) := by decide +kernel
theorem d5_add_53 : decode cX5_add 53 = .ok (.aload_n 0, 1) := by decide +kernel
theorem d5_add_54 : decode cX5_add 54 = .ok (.getfield 19, 3) := by decide +kernel
theorem d5_add_57 : decode cX5_add 57 = .ok (.iload 4, 2) := by decide +kernel
theorem d5_add_59 : decode cX5_add 59 = .ok (.iastore, 1) := by decide +kernel
theorem d5_add_60 : decode cX5_add 60 = .ok (.aload_n 0, 1) := by decide +kernel
theorem d5_add_61 : decode cX5_add 61 = .ok (.getfield 35, 3) := by decide +kernel
theorem d5_add_64 : decode cX5_add 64 = .ok (.aload_n 0, 1) := by decide +kernel
theorem d5_add_65 : decode cX5_add 65 = .ok (.getfield 19, 3) := by decide +kernel
theorem d5_add_68 : decode cX5_add 68 = .ok (.iconst (-1), 1) := by decide +kernel
theorem d5_add_69 : decode cX5_add 69 = .ok (.iastore, 1) := by decide +kernel
theorem d5_add_70 : decode cX5_add 70 = .ok (.iload_n 1, 1) := by decide +kernel
theorem d5_add_71 : decode cX5_add 71 = .ok (.invokestatic 44, 3) := by decide +kernel
theorem d5_add_74 : decode cX5_add 74 = .ok (.ifCond .eq 34, 3) := by decide +kernel
theorem d5_add_77 : decode cX5_add 77 = .ok (.aload_n 0, 1) := by decide +kernel
theorem d5_add_78 : decode cX5_add 78 = .ok (.getfield 38, 3) := by decide +kernel
theorem d5_add_81 : decode cX5_add 81 = .ok (.iconst 3, 1) := by decide +kernel
theorem d5_add_82 : decode cX5_add 82 = .ok (.if_icmp .ge 26, 3) := by decide +kernel
theorem d5_add_85 : decode cX5_add 85 = .ok (.aload_n 0, 1) := by decide +kernel
theorem d5_add_86 : decode cX5_add 86 = .ok (.getfield 41, 3) := by decide +kernel
theorem d5_add_89 : decode cX5_add 89 = .ok (.aload_n 0, 1) := by decide +kernel
theorem d5_add_90 : decode cX5_add 90 = .ok (.getfield 38, 3) := by decide +kernel
theorem d5_add_93 : decode cX5_add 93 = .ok (.aload_n 0, 1) := by decide +kernel
theorem d5_add_94 : decode cX5_add 94 = .ok (.getfield 19, 3) := by decide +kernel
theorem d5_add_97 : decode cX5_add 97 = .ok (.iastore, 1) := by decide +kernel
theorem d5_add_98 : decode cX5_add 98 = .ok (.aload_n 0, 1) := by decide +kernel
theorem d5_add_99 : decode cX5_add 99 = .ok (.dup, 1) := by decide +kernel
theorem d5_add_100 : decode cX5_add 100 = .ok (.getfield 38, 3) := by decide +kernel
theorem d5_add_103 : decode cX5_add 103 = .ok (.iconst 1, 1) := by decide +kernel
theorem d5_add_104 : decode cX5_add 104 = .ok (.iadd, 1) := by decide +kernel
theorem d5_add_105 : decode cX5_add 105 = .ok (.putfield 38, 3) := by decide +kernel
theorem d5_add_108 : decode cX5_add 108 = .ok (.aload_n 0, 1) := by decide +kernel
theorem d5_add_109 : decode cX5_add 109 = .ok (.dup, 1) := by decide +kernel
theorem d5_add_110 : decode cX5_add 110 = .ok (.getfield 19, 3) := by decide +kernel
theorem d5_add_113 : decode cX5_add 113 = .ok (.iconst 1, 1) := by decide +kernel
theorem d5_add_114 : decode cX5_add 114 = .ok (.iadd, 1) := by decide +kernel
theorem d5_add_115 : decode cX5_add 115 = .ok (.putfield 19, 3) := by decide +kernel
theorem d5_add_118 : decode cX5_add 118 = .ok (.aload_n 0, 1) := by decide +kernel
theorem d5_add_119 : decode cX5_add 119 = .ok (.dup, 1) := by decide +kernel
theorem d5_add_120 : decode cX5_add 120 = .ok (.getfield 15, 3) := by decide +kernel
theorem d5_add_123 : decode cX5_add 123 = .ok (.iconst 1, 1) := by decide +kernel
theorem d5_add_124 : decode cX5_add 124 = .ok (.iadd, 1) := by decide +kernel
theorem d5_add_125 : decode cX5_add 125 = .ok (.putfield 15, 3) := by decide +kernel
theorem d5_add_128 : decode cX5_add 128 = .ok (.return_, 1) := by decide +kernel
abbrev K5_add : CK Unit := (enV, none, 5, 2, none)
noncomputable def F5_add_b108 (h : Nat) (σ : Ms) : Option (Unit × Ms) :=
  lt (sI σ h 2 ((σ.1 h 2) + (1 : Int32))) (fun t1 => lt (sI t1 h 1 ((t1.1 h 1) + (1 : Int32))) (fun t2 => some ((), t2)))
noncomputable def F5_add (h : Nat) (p0 : Int32) (p1 : Int32) (p2 : Int32) (p3 : Int32) (σ : Ms) : Option (Unit × Ms) :=
  if (30 : Int32) ≤ (σ.1 h 1) then (some ((), σ))
  else (if (σ.1 h 2) < (60 : Int32) then (ck (ixb (σ.1 h 2) 60) (lt (sI σ (h + 1) (σ.1 h 2).toNatClampNeg p0) (fun t3 => ck (ixb (t3.1 h 2) 60) (lt (sI t3 (h + 2) (t3.1 h 2).toNatClampNeg p1) (fun t4 => ck (ixb (t4.1 h 2) 60) (lt (sI t4 (h + 3) (t4.1 h 2).toNatClampNeg p2) (fun t5 => ck (ixb (t5.1 h 2) 60) (lt (sI t5 (h + 4) (t5.1 h 2).toNatClampNeg p3) (fun t6 => ck (ixb (t6.1 h 2) 60) (lt (sI t6 (h + 5) (t6.1 h 2).toNatClampNeg (-1 : Int32)) (fun t7 => bn (F5_isBlock p0 t7) (fun r8 t9 => if r8 = 0 then (F5_add_b108 h t9)
  else (if (3 : Int32) ≤ (t9.1 h 8) then (F5_add_b108 h t9)
  else (ck (ixb (t9.1 h 8) 3) (lt (sI t9 (h + 6) (t9.1 h 8).toNatClampNeg (t9.1 h 2)) (fun t10 => lt (sI t10 h 8 ((t10.1 h 8) + (1 : Int32))) (fun t11 => F5_add_b108 h t11)))))))))))))))))
  else (some ((), σ)))
set_option maxRecDepth 100000 in
theorem v5_add_b108 (h : Nat) (hh : IsC h (0, 3, 0)) (σ : Ms) : VF (K5_add) cX5_add RX5 (F5_add_b108 h σ) σ 108 [(0, .ref h)] [] := by
  unfold F5_add_b108
  refine v_aload_n d5_add_108 0 rfl rfl ?_
  refine v_dup d5_add_109 rfl ?_
  refine v_getI d5_add_110 faX5_19 hh ?_
  refine v_iconst d5_add_113 ki_1 ?_
  refine v_iadd d5_add_114 ?_
  refine v_putI d5_add_115 faX5_19 fp3_2 hh ?_
  refine v_lts fun t1 => ?_
  refine v_aload_n d5_add_118 0 rfl rfl ?_
  refine v_dup d5_add_119 rfl ?_
  refine v_getI d5_add_120 faX5_15 hh ?_
  refine v_iconst d5_add_123 ki_1 ?_
  refine v_iadd d5_add_124 ?_
  refine v_putI d5_add_125 faX5_15 fp3_1 hh ?_
  refine v_lts fun t2 => ?_
  exact v_vret d5_add_128 rfl
set_option maxRecDepth 100000 in
theorem mc5_add (h : Nat) (hh : IsC h (0, 3, 0)) (p0 : Int32) (p1 : Int32) (p2 : Int32) (p3 : Int32) (σ : Ms) : MC enV yX5_add cX5_add 5 none 2 (F5_add h p0 p1 p2 p3 σ) σ [.ref h, .int p0, .int p1, .int p2, .int p3] := by
  refine MC.v (by decide +kernel) (Nat.le_of_ble_eq_true rfl) ?_
  show VF (K5_add) cX5_add RX5 (F5_add h p0 p1 p2 p3 σ) σ 0 [(0, .ref h), (1, .int p0), (2, .int p1), (3, .int p2), (4, .int p3)] []
  unfold F5_add
  refine v_aload_n d5_add_0 0 rfl rfl ?_
  refine v_getI d5_add_1 faX5_15 hh ?_
  refine v_bipush d5_add_4 kb_30 ?_
  refine v_icmp_ge (tgt := 18) d5_add_6 (by decide) ?_ ?_
  · exact v_vret d5_add_18 rfl
  · refine v_aload_n d5_add_9 0 rfl rfl ?_
    refine v_getI d5_add_10 faX5_19 hh ?_
    refine v_bipush d5_add_13 kb_60 ?_
    refine v_icmp_lt (tgt := 19) d5_add_15 (by decide) ?_ ?_
    · refine v_aload_n d5_add_19 0 rfl rfl ?_
      refine v_getR d5_add_20 faX5_22 hh rfl ?_
      refine v_aload_n d5_add_23 0 rfl rfl ?_
      refine v_getI d5_add_24 faX5_19 hh ?_
      refine v_iload_n d5_add_27 1 rfl rfl ?_
      refine v_iast d5_add_28 (ih3_1 hh) ?_
      refine v_lts fun t3 => ?_
      refine v_aload_n d5_add_29 0 rfl rfl ?_
      refine v_getR d5_add_30 faX5_26 hh rfl ?_
      refine v_aload_n d5_add_33 0 rfl rfl ?_
      refine v_getI d5_add_34 faX5_19 hh ?_
      refine v_iload_n d5_add_37 2 rfl rfl ?_
      refine v_iast d5_add_38 (ih3_2 hh) ?_
      refine v_lts fun t4 => ?_
      refine v_aload_n d5_add_39 0 rfl rfl ?_
      refine v_getR d5_add_40 faX5_29 hh rfl ?_
      refine v_aload_n d5_add_43 0 rfl rfl ?_
      refine v_getI d5_add_44 faX5_19 hh ?_
      refine v_iload_n d5_add_47 3 rfl rfl ?_
      refine v_iast d5_add_48 (ih3_3 hh) ?_
      refine v_lts fun t5 => ?_
      refine v_aload_n d5_add_49 0 rfl rfl ?_
      refine v_getR d5_add_50 faX5_32 hh rfl ?_
      refine v_aload_n d5_add_53 0 rfl rfl ?_
      refine v_getI d5_add_54 faX5_19 hh ?_
      refine v_iload d5_add_57 4 rfl ?_
      refine v_iast d5_add_59 (ih3_4 hh) ?_
      refine v_lts fun t6 => ?_
      refine v_aload_n d5_add_60 0 rfl rfl ?_
      refine v_getR d5_add_61 faX5_35 hh rfl ?_
      refine v_aload_n d5_add_64 0 rfl rfl ?_
      refine v_getI d5_add_65 faX5_19 hh ?_
      refine v_iconst d5_add_68 ki_m1 ?_
      refine v_iast d5_add_69 (ih3_5 hh) ?_
      refine v_lts fun t7 => ?_
      refine v_iload_n d5_add_70 1 rfl rfl ?_
      refine v_callS1i d5_add_71 (mc5_isBlock p0 t7) ys5_isBlock mlX5_44 (by decide) (Nat.le_of_ble_eq_true rfl) fun r8 t9 => ?_
      refine v_if_eq (tgt := 108) d5_add_74 (by decide) ?_ ?_
      · refine v_sub [0] rfl ?_
        exact v5_add_b108 h hh t9
      · refine v_aload_n d5_add_77 0 rfl rfl ?_
        refine v_getI d5_add_78 faX5_38 hh ?_
        refine v_iconst d5_add_81 ki_3 ?_
        refine v_icmp_ge (tgt := 108) d5_add_82 (by decide) ?_ ?_
        · refine v_sub [0] rfl ?_
          exact v5_add_b108 h hh t9
        · refine v_aload_n d5_add_85 0 rfl rfl ?_
          refine v_getR d5_add_86 faX5_41 hh rfl ?_
          refine v_aload_n d5_add_89 0 rfl rfl ?_
          refine v_getI d5_add_90 faX5_38 hh ?_
          refine v_aload_n d5_add_93 0 rfl rfl ?_
          refine v_getI d5_add_94 faX5_19 hh ?_
          refine v_iast d5_add_97 (ih3_6 hh) ?_
          refine v_lts fun t10 => ?_
          refine v_aload_n d5_add_98 0 rfl rfl ?_
          refine v_dup d5_add_99 rfl ?_
          refine v_getI d5_add_100 faX5_38 hh ?_
          refine v_iconst d5_add_103 ki_1 ?_
          refine v_iadd d5_add_104 ?_
          refine v_putI d5_add_105 faX5_38 fp3_8 hh ?_
          refine v_lts fun t11 => ?_
          refine v_sub [0] rfl ?_
          exact v5_add_b108 h hh t11
    · exact v_vret d5_add_18 rfl
theorem d5_close_0 : decode cX5_close 0 = .ok (.aload_n 0, 1) := by decide +kernel
theorem d5_close_1 : decode cX5_close 1 = .ok (.getfield 38, 3) := by decide +kernel
theorem d5_close_4 : decode cX5_close 4 = .ok (.ifCond .le 20, 3) := by decide +kernel
theorem d5_close_7 : decode cX5_close 7 = .ok (.aload_n 0, 1) := by decide +kernel
theorem d5_close_8 : decode cX5_close 8 = .ok (.getfield 38, 3) := by decide +kernel
theorem d5_close_11 : decode cX5_close 11 = .ok (.iconst 3, 1) := by decide +kernel
theorem d5_close_12 : decode cX5_close 12 = .ok (.if_icmp .gt 12, 3) := by decide +kernel
theorem d5_close_15 : decode cX5_close 15 = .ok (.aload_n 0, 1) := by decide +kernel
theorem d5_close_16 : decode cX5_close 16 = .ok (.getfield 19, 3) := by decide +kernel
theorem d5_close_19 : decode cX5_close 19 = .ok (.bipush 60, 2) := by decide +kernel
theorem d5_close_21 : decode cX5_close 21 = .ok (.if_icmp .lt 4, 3) := by decide +kernel
theorem d5_close_24 : decode cX5_close 24 = .ok (.return_, 1) := by decide +kernel
theorem d5_close_25 : decode cX5_close 25 = .ok (.aload_n 0, 1) := by decide +kernel
theorem d5_close_26 : decode cX5_close 26 = .ok (.dup, 1) := by decide +kernel
theorem d5_close_27 : decode cX5_close 27 = .ok (.getfield 38, 3) := by decide +kernel
theorem d5_close_30 : decode cX5_close 30 = .ok (.iconst 1, 1) := by decide +kernel
theorem d5_close_31 : decode cX5_close 31 = .ok (.isub, 1) := by decide +kernel
theorem d5_close_32 : decode cX5_close 32 = .ok (.putfield 38, 3) := by decide +kernel
theorem d5_close_35 : decode cX5_close 35 = .ok (.aload_n 0, 1) := by decide +kernel
theorem d5_close_36 : decode cX5_close 36 = .ok (.getfield 41, 3) := by decide +kernel
theorem d5_close_39 : decode cX5_close 39 = .ok (.aload_n 0, 1) := by decide +kernel
theorem d5_close_40 : decode cX5_close 40 = .ok (.getfield 38, 3) := by decide +kernel
theorem d5_close_43 : decode cX5_close 43 = .ok (.iaload, 1) := by decide +kernel
theorem d5_close_44 : decode cX5_close 44 = .ok (.istore_n 1, 1) := by decide +kernel
theorem d5_close_45 : decode cX5_close 45 = .ok (.aload_n 0, 1) := by decide +kernel
theorem d5_close_46 : decode cX5_close 46 = .ok (.getfield 22, 3) := by decide +kernel
theorem d5_close_49 : decode cX5_close 49 = .ok (.aload_n 0, 1) := by decide +kernel
theorem d5_close_50 : decode cX5_close 50 = .ok (.getfield 19, 3) := by decide +kernel
theorem d5_close_53 : decode cX5_close 53 = .ok (.bipush 8, 2) := by decide +kernel
theorem d5_close_55 : decode cX5_close 55 = .ok (.iastore, 1) := by decide +kernel
theorem d5_close_56 : decode cX5_close 56 = .ok (.aload_n 0, 1) := by decide +kernel
theorem d5_close_57 : decode cX5_close 57 = .ok (.getfield 35, 3) := by decide +kernel
theorem d5_close_60 : decode cX5_close 60 = .ok (.aload_n 0, 1) := by decide +kernel
theorem d5_close_61 : decode cX5_close 61 = .ok (.getfield 19, 3) := by decide +kernel
theorem d5_close_64 : decode cX5_close 64 = .ok (.iload_n 1, 1) := by decide +kernel
theorem d5_close_65 : decode cX5_close 65 = .ok (.iastore, 1) := by decide +kernel
theorem d5_close_66 : decode cX5_close 66 = .ok (.aload_n 0, 1) := by decide +kernel
theorem d5_close_67 : decode cX5_close 67 = .ok (.iload_n 1, 1) := by decide +kernel
theorem d5_close_68 : decode cX5_close 68 = .ok (.invokevirtual 48, 3) := by decide +kernel
theorem d5_close_71 : decode cX5_close 71 = .ok (.ifCond .eq 13, 3) := by decide +kernel
theorem d5_close_74 : decode cX5_close 74 = .ok (.aload_n 0, 1) := by decide +kernel
theorem d5_close_75 : decode cX5_close 75 = .ok (.getfield 35, 3) := by decide +kernel
theorem d5_close_78 : decode cX5_close 78 = .ok (.iload_n 1, 1) := by decide +kernel
theorem d5_close_79 : decode cX5_close 79 = .ok (.aload_n 0, 1) := by decide +kernel
theorem d5_close_80 : decode cX5_close 80 = .ok (.getfield 19, 3) := by decide +kernel
theorem d5_close_83 : decode cX5_close 83 = .ok (.iastore, 1) := by decide +kernel
theorem d5_close_84 : decode cX5_close 84 = .ok (.aload_n 0, 1) := by decide +kernel
theorem d5_close_85 : decode cX5_close 85 = .ok (.dup, 1) := by decide +kernel
theorem d5_close_86 : decode cX5_close 86 = .ok (.getfield 19, 3) := by decide +kernel
theorem d5_close_89 : decode cX5_close 89 = .ok (.iconst 1, 1) := by decide +kernel
theorem d5_close_90 : decode cX5_close 90 = .ok (.iadd, 1) := by decide +kernel
theorem d5_close_91 : decode cX5_close 91 = .ok (.putfield 19, 3) := by decide +kernel
theorem d5_close_94 : decode cX5_close 94 = .ok (.return_, 1) := by decide +kernel
abbrev K5_close : CK Unit := (enV, none, 2, 2, none)
noncomputable def F5_close_b84 (h : Nat) (σ : Ms) : Option (Unit × Ms) :=
  lt (sI σ h 2 ((σ.1 h 2) + (1 : Int32))) (fun t1 => some ((), t1))
noncomputable def F5_close (h : Nat) (σ : Ms) : Option (Unit × Ms) :=
  if (σ.1 h 8) ≤ 0 then (some ((), σ))
  else (if (3 : Int32) < (σ.1 h 8) then (some ((), σ))
  else (if (σ.1 h 2) < (60 : Int32) then (lt (sI σ h 8 ((σ.1 h 8) - (1 : Int32))) (fun t2 => ck (ixb (t2.1 h 8) 3) (lt (t2.1 (h + 6) (t2.1 h 8).toNatClampNeg) (fun x3 => ck (ixb (t2.1 h 2) 60) (lt (sI t2 (h + 1) (t2.1 h 2).toNatClampNeg (8 : Int32)) (fun t4 => ck (ixb (t4.1 h 2) 60) (lt (sI t4 (h + 5) (t4.1 h 2).toNatClampNeg x3) (fun t5 => bn (F5_hasEntry h x3 t5) (fun r6 t7 => if r6 = 0 then (F5_close_b84 h t7)
  else (ck (ixb x3 60) (lt (sI t7 (h + 5) x3.toNatClampNeg (t7.1 h 2)) (fun t8 => F5_close_b84 h t8))))))))))))
  else (some ((), σ))))
set_option maxRecDepth 100000 in
theorem v5_close_b84 (h : Nat) (hh : IsC h (0, 3, 0)) (σ : Ms) : VF (K5_close) cX5_close RX5 (F5_close_b84 h σ) σ 84 [(0, .ref h)] [] := by
  unfold F5_close_b84
  refine v_aload_n d5_close_84 0 rfl rfl ?_
  refine v_dup d5_close_85 rfl ?_
  refine v_getI d5_close_86 faX5_19 hh ?_
  refine v_iconst d5_close_89 ki_1 ?_
  refine v_iadd d5_close_90 ?_
  refine v_putI d5_close_91 faX5_19 fp3_2 hh ?_
  refine v_lts fun t1 => ?_
  exact v_vret d5_close_94 rfl
set_option maxRecDepth 100000 in
theorem mc5_close (h : Nat) (hh : IsC h (0, 3, 0)) (σ : Ms) : MC enV yX5_close cX5_close 2 none 2 (F5_close h σ) σ [.ref h] := by
  refine MC.v (by decide +kernel) (Nat.le_of_ble_eq_true rfl) ?_
  show VF (K5_close) cX5_close RX5 (F5_close h σ) σ 0 [(0, .ref h)] []
  unfold F5_close
  refine v_aload_n d5_close_0 0 rfl rfl ?_
  refine v_getI d5_close_1 faX5_38 hh ?_
  refine v_if_le (tgt := 24) d5_close_4 (by decide) ?_ ?_
  · exact v_vret d5_close_24 rfl
  · refine v_aload_n d5_close_7 0 rfl rfl ?_
    refine v_getI d5_close_8 faX5_38 hh ?_
    refine v_iconst d5_close_11 ki_3 ?_
    refine v_icmp_gt (tgt := 24) d5_close_12 (by decide) ?_ ?_
    · exact v_vret d5_close_24 rfl
    · refine v_aload_n d5_close_15 0 rfl rfl ?_
      refine v_getI d5_close_16 faX5_19 hh ?_
      refine v_bipush d5_close_19 kb_60 ?_
      refine v_icmp_lt (tgt := 25) d5_close_21 (by decide) ?_ ?_
      · refine v_aload_n d5_close_25 0 rfl rfl ?_
        refine v_dup d5_close_26 rfl ?_
        refine v_getI d5_close_27 faX5_38 hh ?_
        refine v_iconst d5_close_30 ki_1 ?_
        refine v_isub d5_close_31 ?_
        refine v_putI d5_close_32 faX5_38 fp3_8 hh ?_
        refine v_lts fun t2 => ?_
        refine v_aload_n d5_close_35 0 rfl rfl ?_
        refine v_getR d5_close_36 faX5_41 hh rfl ?_
        refine v_aload_n d5_close_39 0 rfl rfl ?_
        refine v_getI d5_close_40 faX5_38 hh ?_
        refine v_iald d5_close_43 (ih3_6 hh) ?_
        refine v_lti fun x3 => ?_
        refine v_istore_n (lv' := [(1, .int x3), (0, .ref h)]) d5_close_44 rfl (by decide) rfl ?_
        refine v_aload_n d5_close_45 1 rfl rfl ?_
        refine v_getR d5_close_46 faX5_22 hh rfl ?_
        refine v_aload_n d5_close_49 1 rfl rfl ?_
        refine v_getI d5_close_50 faX5_19 hh ?_
        refine v_bipush d5_close_53 kb_8 ?_
        refine v_iast d5_close_55 (ih3_1 hh) ?_
        refine v_lts fun t4 => ?_
        refine v_aload_n d5_close_56 1 rfl rfl ?_
        refine v_getR d5_close_57 faX5_35 hh rfl ?_
        refine v_aload_n d5_close_60 1 rfl rfl ?_
        refine v_getI d5_close_61 faX5_19 hh ?_
        refine v_iload_n d5_close_64 0 rfl rfl ?_
        refine v_iast d5_close_65 (ih3_5 hh) ?_
        refine v_lts fun t5 => ?_
        refine v_aload_n d5_close_66 1 rfl rfl ?_
        refine v_iload_n d5_close_67 0 rfl rfl ?_
        refine v_callV1i d5_close_68 (mc5_hasEntry h hh x3 t5) yv5_hasEntry mlX5_48 (Recv.obj hh rfl) (by decide) (Nat.le_of_ble_eq_true rfl) fun r6 t7 => ?_
        refine v_if_eq (tgt := 84) d5_close_71 (by decide) ?_ ?_
        · refine v_sub [1] rfl ?_
          exact v5_close_b84 h hh t7
        · refine v_aload_n d5_close_74 1 rfl rfl ?_
          refine v_getR d5_close_75 faX5_35 hh rfl ?_
          refine v_iload_n d5_close_78 0 rfl rfl ?_
          refine v_aload_n d5_close_79 1 rfl rfl ?_
          refine v_getI d5_close_80 faX5_19 hh ?_
          refine v_iast d5_close_83 (ih3_5 hh) ?_
          refine v_lts fun t8 => ?_
          refine v_sub [1] rfl ?_
          exact v5_close_b84 h hh t8
      · exact v_vret d5_close_24 rfl
theorem d6_parseEnd_0 : decode cX6_parseEnd 0 = .ok (.aload_n 1, 1) := by decide +kernel
theorem d6_parseEnd_1 : decode cX6_parseEnd 1 = .ok (.getfield 35, 3) := by decide +kernel
theorem d6_parseEnd_4 : decode cX6_parseEnd 4 = .ok (.ifCond .ne 8, 3) := by decide +kernel
theorem d6_parseEnd_7 : decode cX6_parseEnd 7 = .ok (.aload_n 0, 1) := by decide +kernel
theorem d6_parseEnd_8 : decode cX6_parseEnd 8 = .ok (.iconst 2, 1) := by decide +kernel
theorem d6_parseEnd_9 : decode cX6_parseEnd 9 = .ok (.invokevirtual 39, 3) := by decide +kernel
theorem d6_parseEnd_12 : decode cX6_parseEnd 12 = .ok (.aload_n 0, 1) := by decide +kernel
theorem d6_parseEnd_13 : decode cX6_parseEnd 13 = .ok (.invokevirtual 43, 3) := by decide +kernel
theorem d6_parseEnd_16 : decode cX6_parseEnd 16 = .ok (.aload_n 0, 1) := by decide +kernel
theorem d6_parseEnd_17 : decode cX6_parseEnd 17 = .ok (.invokevirtual 46, 3) := by decide +kernel
theorem d6_parseEnd_20 : decode cX6_parseEnd 20 = .ok (.aload_n 0, 1) := by decide +kernel
theorem d6_parseEnd_21 : decode cX6_parseEnd 21 = .ok (.getfield 49, 3) := by decide +kernel
theorem d6_parseEnd_24 : decode cX6_parseEnd 24 = .ok (.ifCond .ne 7, 3) := by decide +kernel
theorem d6_parseEnd_27 : decode cX6_parseEnd 27 = .ok (.aload_n 1, 1) := by decide +kernel
theorem d6_parseEnd_28 : decode cX6_parseEnd 28 = .ok (.invokevirtual 52, 3) := by decide +kernel
theorem d6_parseEnd_31 : decode cX6_parseEnd 31 = .ok (.return_, 1) := by decide +kernel
abbrev K6_parseEnd : CK Unit := (enV, none, 2, 5, none)
noncomputable def F6_parseEnd_b12 (N : Nat) (q1 : Nat) (σ : Ms) : Option (Unit × Ms) :=
  bn (F8_step N σ) (fun r1 t2 => bn (F8_takeClose N t2) (fun r3 t4 => if (t4.1 20 2) ≠ 0 then (some ((), t4))
  else (bn (F5_close q1 t4) (fun r5 t6 => some ((), t6)))))
noncomputable def F6_parseEnd (N : Nat) (q1 : Nat) (σ : Ms) : Option (Unit × Ms) :=
  if (σ.1 q1 8) ≠ 0 then (F6_parseEnd_b12 N q1 σ)
  else (bn (F8_refuse (2 : Int32) σ) (fun r7 t8 => F6_parseEnd_b12 N q1 t8))
set_option maxRecDepth 100000 in
theorem v6_parseEnd_b12 (N : Nat) (q1 : Nat) (hq1 : IsC q1 (0, 3, 0)) (σ : Ms) : VF (K6_parseEnd) cX6_parseEnd RX6 (F6_parseEnd_b12 N q1 σ) σ 12 [(0, .ref 20), (1, .ref q1)] [] := by
  unfold F6_parseEnd_b12
  refine v_aload_n d6_parseEnd_12 0 rfl rfl ?_
  refine v_callV0v d6_parseEnd_13 (mc8_step N σ) yv8_step mlX6_43 (Recv.obj ic_20 rfl) (by decide) (Nat.le_of_ble_eq_true rfl) fun r1 t2 => ?_
  refine v_aload_n d6_parseEnd_16 0 rfl rfl ?_
  refine v_callV0v d6_parseEnd_17 (mc8_takeClose N t2) yv8_takeClose mlX6_46 (Recv.obj ic_20 rfl) (by decide) (Nat.le_of_ble_eq_true rfl) fun r3 t4 => ?_
  refine v_aload_n d6_parseEnd_20 0 rfl rfl ?_
  refine v_getI d6_parseEnd_21 faX6_49 ic_20 ?_
  refine v_if_ne (tgt := 31) d6_parseEnd_24 (by decide) ?_ ?_
  · exact v_vret d6_parseEnd_31 rfl
  · refine v_aload_n d6_parseEnd_27 1 rfl rfl ?_
    refine v_callV0v d6_parseEnd_28 (mc5_close q1 hq1 t4) yv5_close mlX6_52 (Recv.obj hq1 rfl) (by decide) (Nat.le_of_ble_eq_true rfl) fun r5 t6 => ?_
    exact v_vret d6_parseEnd_31 rfl
set_option maxRecDepth 100000 in
theorem mc6_parseEnd (N : Nat) (q1 : Nat) (hq1 : IsC q1 (0, 3, 0)) (σ : Ms) : MC enV yX6_parseEnd cX6_parseEnd 2 none 5 (F6_parseEnd N q1 σ) σ [.ref 20, .ref q1] := by
  refine MC.v (by decide +kernel) (Nat.le_of_ble_eq_true rfl) ?_
  show VF (K6_parseEnd) cX6_parseEnd RX6 (F6_parseEnd N q1 σ) σ 0 [(0, .ref 20), (1, .ref q1)] []
  unfold F6_parseEnd
  refine v_aload_n d6_parseEnd_0 1 rfl rfl ?_
  refine v_getI d6_parseEnd_1 faX6_35 hq1 ?_
  refine v_if_ne (tgt := 12) d6_parseEnd_4 (by decide) ?_ ?_
  · exact v6_parseEnd_b12 N q1 hq1 σ
  · refine v_aload_n d6_parseEnd_7 0 rfl rfl ?_
    refine v_iconst d6_parseEnd_8 ki_2 ?_
    refine v_callV1v d6_parseEnd_9 (mc8_refuse (2 : Int32) σ) yv8_refuse mlX6_39 (Recv.obj ic_20 rfl) (by decide) (Nat.le_of_ble_eq_true rfl) fun r7 t8 => ?_
    exact v6_parseEnd_b12 N q1 hq1 t8
theorem d6_kindHere_0 : decode cX6_kindHere 0 = .ok (.aload_n 0, 1) := by decide +kernel
theorem d6_kindHere_1 : decode cX6_kindHere 1 = .ok (.ldc 87, 2) := by decide +kernel
theorem d6_kindHere_3 : decode cX6_kindHere 3 = .ok (.invokevirtual 22, 3) := by decide +kernel
theorem d6_kindHere_6 : decode cX6_kindHere 6 = .ok (.ifCond .eq 5, 3) := by decide +kernel
theorem d6_kindHere_9 : decode cX6_kindHere 9 = .ok (.iconst 0, 1) := by decide +kernel
theorem d6_kindHere_10 : decode cX6_kindHere 10 = .ok (.ireturn, 1) := by decide +kernel
theorem d6_kindHere_11 : decode cX6_kindHere 11 = .ok (.aload_n 0, 1) := by decide +kernel
theorem d6_kindHere_12 : decode cX6_kindHere 12 = .ok (.ldc 89, 2) := by decide +kernel
theorem d6_kindHere_14 : decode cX6_kindHere 14 = .ok (.invokevirtual 22, 3) := by decide +kernel
theorem d6_kindHere_17 : decode cX6_kindHere 17 = .ok (.ifCond .eq 5, 3) := by decide +kernel
theorem d6_kindHere_20 : decode cX6_kindHere 20 = .ok (.iconst 1, 1) := by decide +kernel
theorem d6_kindHere_21 : decode cX6_kindHere 21 = .ok (.ireturn, 1) := by decide +kernel
theorem d6_kindHere_22 : decode cX6_kindHere 22 = .ok (.aload_n 0, 1) := by decide +kernel
theorem d6_kindHere_23 : decode cX6_kindHere 23 = .ok (.ldc 91, 2) := by decide +kernel
theorem d6_kindHere_25 : decode cX6_kindHere 25 = .ok (.invokevirtual 22, 3) := by decide +kernel
theorem d6_kindHere_28 : decode cX6_kindHere 28 = .ok (.ifCond .eq 5, 3) := by decide +kernel
theorem d6_kindHere_31 : decode cX6_kindHere 31 = .ok (.iconst 2, 1) := by decide +kernel
theorem d6_kindHere_32 : decode cX6_kindHere 32 = .ok (.ireturn, 1) := by decide +kernel
theorem d6_kindHere_33 : decode cX6_kindHere 33 = .ok (.aload_n 0, 1) := by decide +kernel
theorem d6_kindHere_34 : decode cX6_kindHere 34 = .ok (.ldc 93, 2) := by decide +kernel
theorem d6_kindHere_36 : decode cX6_kindHere 36 = .ok (.invokevirtual 22, 3) := by decide +kernel
theorem d6_kindHere_39 : decode cX6_kindHere 39 = .ok (.ifCond .eq 5, 3) := by decide +kernel
theorem d6_kindHere_42 : decode cX6_kindHere 42 = .ok (.iconst 3, 1) := by decide +kernel
theorem d6_kindHere_43 : decode cX6_kindHere 43 = .ok (.ireturn, 1) := by decide +kernel
theorem d6_kindHere_44 : decode cX6_kindHere 44 = .ok (.aload_n 0, 1) := by decide +kernel
theorem d6_kindHere_45 : decode cX6_kindHere 45 = .ok (.ldc 95, 2) := by decide +kernel
theorem d6_kindHere_47 : decode cX6_kindHere 47 = .ok (.invokevirtual 22, 3) := by decide +kernel
theorem d6_kindHere_50 : decode cX6_kindHere 50 = .ok (.ifCond .eq 5, 3) := by decide +kernel
theorem d6_kindHere_53 : decode cX6_kindHere 53 = .ok (.iconst 4, 1) := by decide +kernel
theorem d6_kindHere_54 : decode cX6_kindHere 54 = .ok (.ireturn, 1) := by decide +kernel
theorem d6_kindHere_55 : decode cX6_kindHere 55 = .ok (.aload_n 0, 1) := by decide +kernel
theorem d6_kindHere_56 : decode cX6_kindHere 56 = .ok (.ldc 97, 2) := by decide +kernel
theorem d6_kindHere_58 : decode cX6_kindHere 58 = .ok (.invokevirtual 22, 3) := by decide +kernel
theorem d6_kindHere_61 : decode cX6_kindHere 61 = .ok (.ifCond .eq 5, 3) := by decide +kernel
theorem d6_kindHere_64 : decode cX6_kindHere 64 = .ok (.iconst 5, 1) := by decide +kernel
theorem d6_kindHere_65 : decode cX6_kindHere 65 = .ok (.ireturn, 1) := by decide +kernel
theorem d6_kindHere_66 : decode cX6_kindHere 66 = .ok (.aload_n 0, 1) := by decide +kernel
theorem d6_kindHere_67 : decode cX6_kindHere 67 = .ok (.ldc 99, 2) := by decide +kernel
theorem d6_kindHere_69 : decode cX6_kindHere 69 = .ok (.invokevirtual 22, 3) := by decide +kernel
theorem d6_kindHere_72 : decode cX6_kindHere 72 = .ok (.ifCond .eq 6, 3) := by decide +kernel
theorem d6_kindHere_75 : decode cX6_kindHere 75 = .ok (.bipush 6, 2) := by decide +kernel
theorem d6_kindHere_77 : decode cX6_kindHere 77 = .ok (.ireturn, 1) := by decide +kernel
theorem d6_kindHere_78 : decode cX6_kindHere 78 = .ok (.aload_n 0, 1) := by decide +kernel
theorem d6_kindHere_79 : decode cX6_kindHere 79 = .ok (.ldc 101, 2) := by decide +kernel
theorem d6_kindHere_81 : decode cX6_kindHere 81 = .ok (.invokevirtual 22, 3) := by decide +kernel
theorem d6_kindHere_84 : decode cX6_kindHere 84 = .ok (.ifCond .eq 8, 3) := by decide +kernel
theorem d6_kindHere_87 : decode cX6_kindHere 87 = .ok (.bipush 7, 2) := by decide +kernel
theorem d6_kindHere_89 : decode cX6_kindHere 89 = .ok (.goto 4, 3) := by decide +kernel
theorem d6_kindHere_92 : decode cX6_kindHere 92 = .ok (.iconst (-1), 1) := by decide +kernel
theorem d6_kindHere_93 : decode cX6_kindHere 93 = .ok (.ireturn, 1) := by decide +kernel
abbrev K6_kindHere : CK Int32 := (enI, (some .int), 1, 6, none)
noncomputable def F6_kindHere (N : Nat) (σ : Ms) : Option (Int32 × Ms) :=
  bn (F8_isWord N 10 σ) (fun r1 t2 => if r1 = 0 then (bn (F8_isWord N 11 t2) (fun r3 t4 => if r3 = 0 then (bn (F8_isWord N 12 t4) (fun r5 t6 => if r5 = 0 then (bn (F8_isWord N 13 t6) (fun r7 t8 => if r7 = 0 then (bn (F8_isWord N 14 t8) (fun r9 t10 => if r9 = 0 then (bn (F8_isWord N 15 t10) (fun r11 t12 => if r11 = 0 then (bn (F8_isWord N 16 t12) (fun r13 t14 => if r13 = 0 then (bn (F8_isWord N 17 t14) (fun r15 t16 => if r15 = 0 then (some ((-1 : Int32), t16))
  else (some ((7 : Int32), t16))))
  else (some ((6 : Int32), t14))))
  else (some ((5 : Int32), t12))))
  else (some ((4 : Int32), t10))))
  else (some ((3 : Int32), t8))))
  else (some ((2 : Int32), t6))))
  else (some ((1 : Int32), t4))))
  else (some ((0 : Int32), t2)))
set_option maxRecDepth 100000 in
theorem mc6_kindHere (N : Nat) (σ : Ms) : MC enI yX6_kindHere cX6_kindHere 1 (some .int) 6 (F6_kindHere N σ) σ [.ref 20] := by
  refine MC.i (by decide +kernel) (Nat.le_of_ble_eq_true rfl) ?_
  show VF (K6_kindHere) cX6_kindHere RX6 (F6_kindHere N σ) σ 0 [(0, .ref 20)] []
  unfold F6_kindHere
  refine v_aload_n d6_kindHere_0 0 rfl rfl ?_
  refine v_ldcS (i := 10) d6_kindHere_1 stX6_87 ?_
  refine v_callV1i d6_kindHere_3 (mc8_isWord N 10 (by decide) σ) yv8_isWord mlX6_22 (Recv.obj ic_20 rfl) (by decide) (Nat.le_of_ble_eq_true rfl) fun r1 t2 => ?_
  refine v_if_eq (tgt := 11) d6_kindHere_6 (by decide) ?_ ?_
  · refine v_aload_n d6_kindHere_11 0 rfl rfl ?_
    refine v_ldcS (i := 11) d6_kindHere_12 stX6_89 ?_
    refine v_callV1i d6_kindHere_14 (mc8_isWord N 11 (by decide) t2) yv8_isWord mlX6_22 (Recv.obj ic_20 rfl) (by decide) (Nat.le_of_ble_eq_true rfl) fun r3 t4 => ?_
    refine v_if_eq (tgt := 22) d6_kindHere_17 (by decide) ?_ ?_
    · refine v_aload_n d6_kindHere_22 0 rfl rfl ?_
      refine v_ldcS (i := 12) d6_kindHere_23 stX6_91 ?_
      refine v_callV1i d6_kindHere_25 (mc8_isWord N 12 (by decide) t4) yv8_isWord mlX6_22 (Recv.obj ic_20 rfl) (by decide) (Nat.le_of_ble_eq_true rfl) fun r5 t6 => ?_
      refine v_if_eq (tgt := 33) d6_kindHere_28 (by decide) ?_ ?_
      · refine v_aload_n d6_kindHere_33 0 rfl rfl ?_
        refine v_ldcS (i := 13) d6_kindHere_34 stX6_93 ?_
        refine v_callV1i d6_kindHere_36 (mc8_isWord N 13 (by decide) t6) yv8_isWord mlX6_22 (Recv.obj ic_20 rfl) (by decide) (Nat.le_of_ble_eq_true rfl) fun r7 t8 => ?_
        refine v_if_eq (tgt := 44) d6_kindHere_39 (by decide) ?_ ?_
        · refine v_aload_n d6_kindHere_44 0 rfl rfl ?_
          refine v_ldcS (i := 14) d6_kindHere_45 stX6_95 ?_
          refine v_callV1i d6_kindHere_47 (mc8_isWord N 14 (by decide) t8) yv8_isWord mlX6_22 (Recv.obj ic_20 rfl) (by decide) (Nat.le_of_ble_eq_true rfl) fun r9 t10 => ?_
          refine v_if_eq (tgt := 55) d6_kindHere_50 (by decide) ?_ ?_
          · refine v_aload_n d6_kindHere_55 0 rfl rfl ?_
            refine v_ldcS (i := 15) d6_kindHere_56 stX6_97 ?_
            refine v_callV1i d6_kindHere_58 (mc8_isWord N 15 (by decide) t10) yv8_isWord mlX6_22 (Recv.obj ic_20 rfl) (by decide) (Nat.le_of_ble_eq_true rfl) fun r11 t12 => ?_
            refine v_if_eq (tgt := 66) d6_kindHere_61 (by decide) ?_ ?_
            · refine v_aload_n d6_kindHere_66 0 rfl rfl ?_
              refine v_ldcS (i := 16) d6_kindHere_67 stX6_99 ?_
              refine v_callV1i d6_kindHere_69 (mc8_isWord N 16 (by decide) t12) yv8_isWord mlX6_22 (Recv.obj ic_20 rfl) (by decide) (Nat.le_of_ble_eq_true rfl) fun r13 t14 => ?_
              refine v_if_eq (tgt := 78) d6_kindHere_72 (by decide) ?_ ?_
              · refine v_aload_n d6_kindHere_78 0 rfl rfl ?_
                refine v_ldcS (i := 17) d6_kindHere_79 stX6_101 ?_
                refine v_callV1i d6_kindHere_81 (mc8_isWord N 17 (by decide) t14) yv8_isWord mlX6_22 (Recv.obj ic_20 rfl) (by decide) (Nat.le_of_ble_eq_true rfl) fun r15 t16 => ?_
                refine v_if_eq (tgt := 92) d6_kindHere_84 (by decide) ?_ ?_
                · refine v_iconst d6_kindHere_92 ki_m1 ?_
                  exact v_iret d6_kindHere_93 rfl rfl rfl
                · refine v_bipush d6_kindHere_87 kb_7 ?_
                  refine v_goto (tgt := 93) d6_kindHere_89 (by decide) ?_
                  exact v_iret d6_kindHere_93 rfl rfl rfl
              · refine v_bipush d6_kindHere_75 kb_6 ?_
                exact v_iret d6_kindHere_77 rfl rfl rfl
            · refine v_iconst d6_kindHere_64 ki_5 ?_
              exact v_iret d6_kindHere_65 rfl rfl rfl
          · refine v_iconst d6_kindHere_53 ki_4 ?_
            exact v_iret d6_kindHere_54 rfl rfl rfl
        · refine v_iconst d6_kindHere_42 ki_3 ?_
          exact v_iret d6_kindHere_43 rfl rfl rfl
      · refine v_iconst d6_kindHere_31 ki_2 ?_
        exact v_iret d6_kindHere_32 rfl rfl rfl
    · refine v_iconst d6_kindHere_20 ki_1 ?_
      exact v_iret d6_kindHere_21 rfl rfl rfl
  · refine v_iconst d6_kindHere_9 ki_0 ?_
    exact v_iret d6_kindHere_10 rfl rfl rfl
theorem d8_takeSide_0 : decode cX8_takeSide 0 = .ok (.aload_n 0, 1) := by decide +kernel
theorem d8_takeSide_1 : decode cX8_takeSide 1 = .ok (.ldc 102, 2) := by decide +kernel
theorem d8_takeSide_3 : decode cX8_takeSide 3 = .ok (.invokevirtual 94, 3) := by decide +kernel
theorem d8_takeSide_6 : decode cX8_takeSide 6 = .ok (.ifCond .eq 7, 3) := by decide +kernel
theorem d8_takeSide_9 : decode cX8_takeSide 9 = .ok (.iconst 0, 1) := by decide +kernel
theorem d8_takeSide_10 : decode cX8_takeSide 10 = .ok (.goto 17, 3) := by decide +kernel
theorem d8_takeSide_13 : decode cX8_takeSide 13 = .ok (.aload_n 0, 1) := by decide +kernel
theorem d8_takeSide_14 : decode cX8_takeSide 14 = .ok (.ldc 104, 2) := by decide +kernel
theorem d8_takeSide_16 : decode cX8_takeSide 16 = .ok (.invokevirtual 94, 3) := by decide +kernel
theorem d8_takeSide_19 : decode cX8_takeSide 19 = .ok (.ifCond .eq 7, 3) := by decide +kernel
theorem d8_takeSide_22 : decode cX8_takeSide 22 = .ok (.iconst 1, 1) := by decide +kernel
theorem d8_takeSide_23 : decode cX8_takeSide 23 = .ok (.goto 4, 3) := by decide +kernel
theorem d8_takeSide_26 : decode cX8_takeSide 26 = .ok (.iconst (-1), 1) := by decide +kernel
theorem d8_takeSide_27 : decode cX8_takeSide 27 = .ok (.istore_n 1, 1) := by decide +kernel
theorem d8_takeSide_28 : decode cX8_takeSide 28 = .ok (.iload_n 1, 1) := by decide +kernel
theorem d8_takeSide_29 : decode cX8_takeSide 29 = .ok (.iconst (-1), 1) := by decide +kernel
theorem d8_takeSide_30 : decode cX8_takeSide 30 = .ok (.if_icmp .ne 8, 3) := by decide +kernel
theorem d8_takeSide_33 : decode cX8_takeSide 33 = .ok (.aload_n 0, 1) := by decide +kernel
theorem d8_takeSide_34 : decode cX8_takeSide 34 = .ok (.iconst 2, 1) := by decide +kernel
theorem d8_takeSide_35 : decode cX8_takeSide 35 = .ok (.invokevirtual 88, 3) := by decide +kernel
theorem d8_takeSide_38 : decode cX8_takeSide 38 = .ok (.aload_n 0, 1) := by decide +kernel
theorem d8_takeSide_39 : decode cX8_takeSide 39 = .ok (.invokevirtual 53, 3) := by decide +kernel
theorem d8_takeSide_42 : decode cX8_takeSide 42 = .ok (.iload_n 1, 1) := by decide +kernel
theorem d8_takeSide_43 : decode cX8_takeSide 43 = .ok (.ireturn, 1) := by decide +kernel
abbrev K8_takeSide : CK Int32 := (enI, (some .int), 2, 6, none)
noncomputable def F8_takeSide_b38 (N : Nat) (l1 : Int32) (σ : Ms) : Option (Int32 × Ms) :=
  bn (F8_step N σ) (fun r1 t2 => some (l1, t2))
noncomputable def F8_takeSide_b27 (N : Nat) (s0 : Int32) (σ : Ms) : Option (Int32 × Ms) :=
  if s0 ≠ (-1 : Int32) then (F8_takeSide_b38 N s0 σ)
  else (bn (F8_refuse (2 : Int32) σ) (fun r3 t4 => F8_takeSide_b38 N s0 t4))
noncomputable def F8_takeSide (N : Nat) (σ : Ms) : Option (Int32 × Ms) :=
  bn (F8_isWord N 7 σ) (fun r5 t6 => if r5 = 0 then (bn (F8_isWord N 8 t6) (fun r7 t8 => if r7 = 0 then (F8_takeSide_b27 N (-1 : Int32) t8)
  else (F8_takeSide_b27 N (1 : Int32) t8)))
  else (F8_takeSide_b27 N (0 : Int32) t6))
set_option maxRecDepth 100000 in
theorem v8_takeSide_b38 (N : Nat) (l1 : Int32) (σ : Ms) : VF (K8_takeSide) cX8_takeSide RX8 (F8_takeSide_b38 N l1 σ) σ 38 [(0, .ref 20), (1, .int l1)] [] := by
  unfold F8_takeSide_b38
  refine v_aload_n d8_takeSide_38 0 rfl rfl ?_
  refine v_callV0v d8_takeSide_39 (mc8_step N σ) yv8_step mlX8_53 (Recv.obj ic_20 rfl) (by decide) (Nat.le_of_ble_eq_true rfl) fun r1 t2 => ?_
  refine v_iload_n d8_takeSide_42 1 rfl rfl ?_
  exact v_iret d8_takeSide_43 rfl rfl rfl
set_option maxRecDepth 100000 in
theorem v8_takeSide_b27 (N : Nat) (s0 : Int32) (σ : Ms) : VF (K8_takeSide) cX8_takeSide RX8 (F8_takeSide_b27 N s0 σ) σ 27 [(0, .ref 20)] [.int s0] := by
  unfold F8_takeSide_b27
  refine v_istore_n (lv' := [(1, .int s0), (0, .ref 20)]) d8_takeSide_27 rfl (by decide) rfl ?_
  refine v_iload_n d8_takeSide_28 0 rfl rfl ?_
  refine v_iconst d8_takeSide_29 ki_m1 ?_
  refine v_icmp_ne (tgt := 38) d8_takeSide_30 (by decide) ?_ ?_
  · refine v_sub [1, 0] rfl ?_
    exact v8_takeSide_b38 N s0 σ
  · refine v_aload_n d8_takeSide_33 1 rfl rfl ?_
    refine v_iconst d8_takeSide_34 ki_2 ?_
    refine v_callV1v d8_takeSide_35 (mc8_refuse (2 : Int32) σ) yv8_refuse mlX8_88 (Recv.obj ic_20 rfl) (by decide) (Nat.le_of_ble_eq_true rfl) fun r3 t4 => ?_
    refine v_sub [1, 0] rfl ?_
    exact v8_takeSide_b38 N s0 t4
set_option maxRecDepth 100000 in
theorem mc8_takeSide (N : Nat) (σ : Ms) : MC enI yX8_takeSide cX8_takeSide 2 (some .int) 6 (F8_takeSide N σ) σ [.ref 20] := by
  refine MC.i (by decide +kernel) (Nat.le_of_ble_eq_true rfl) ?_
  show VF (K8_takeSide) cX8_takeSide RX8 (F8_takeSide N σ) σ 0 [(0, .ref 20)] []
  unfold F8_takeSide
  refine v_aload_n d8_takeSide_0 0 rfl rfl ?_
  refine v_ldcS (i := 7) d8_takeSide_1 stX8_102 ?_
  refine v_callV1i d8_takeSide_3 (mc8_isWord N 7 (by decide) σ) yv8_isWord mlX8_94 (Recv.obj ic_20 rfl) (by decide) (Nat.le_of_ble_eq_true rfl) fun r5 t6 => ?_
  refine v_if_eq (tgt := 13) d8_takeSide_6 (by decide) ?_ ?_
  · refine v_aload_n d8_takeSide_13 0 rfl rfl ?_
    refine v_ldcS (i := 8) d8_takeSide_14 stX8_104 ?_
    refine v_callV1i d8_takeSide_16 (mc8_isWord N 8 (by decide) t6) yv8_isWord mlX8_94 (Recv.obj ic_20 rfl) (by decide) (Nat.le_of_ble_eq_true rfl) fun r7 t8 => ?_
    refine v_if_eq (tgt := 26) d8_takeSide_19 (by decide) ?_ ?_
    · refine v_iconst d8_takeSide_26 ki_m1 ?_
      exact v8_takeSide_b27 N (-1 : Int32) t8
    · refine v_iconst d8_takeSide_22 ki_1 ?_
      refine v_goto (tgt := 27) d8_takeSide_23 (by decide) ?_
      exact v8_takeSide_b27 N (1 : Int32) t8
  · refine v_iconst d8_takeSide_9 ki_0 ?_
    refine v_goto (tgt := 27) d8_takeSide_10 (by decide) ?_
    exact v8_takeSide_b27 N (0 : Int32) t6
theorem d6_parseDeed_0 : decode cX6_parseDeed 0 = .ok (.aload_n 0, 1) := by decide +kernel
theorem d6_parseDeed_1 : decode cX6_parseDeed 1 = .ok (.invokevirtual 103, 3) := by decide +kernel
theorem d6_parseDeed_4 : decode cX6_parseDeed 4 = .ok (.istore 4, 2) := by decide +kernel
theorem d6_parseDeed_6 : decode cX6_parseDeed 6 = .ok (.aload_n 1, 1) := by decide +kernel
theorem d6_parseDeed_7 : decode cX6_parseDeed 7 = .ok (.iload_n 2, 1) := by decide +kernel
theorem d6_parseDeed_8 : decode cX6_parseDeed 8 = .ok (.iload 4, 2) := by decide +kernel
theorem d6_parseDeed_10 : decode cX6_parseDeed 10 = .ok (.aload_n 0, 1) := by decide +kernel
theorem d6_parseDeed_11 : decode cX6_parseDeed 11 = .ok (.iconst 0, 1) := by decide +kernel
theorem d6_parseDeed_12 : decode cX6_parseDeed 12 = .ok (.iload_n 3, 1) := by decide +kernel
theorem d6_parseDeed_13 : decode cX6_parseDeed 13 = .ok (.iconst 1, 1) := by decide +kernel
theorem d6_parseDeed_14 : decode cX6_parseDeed 14 = .ok (.isub, 1) := by decide +kernel
theorem d6_parseDeed_15 : decode cX6_parseDeed 15 = .ok (.invokevirtual 79, 3) := by decide +kernel
theorem d6_parseDeed_18 : decode cX6_parseDeed 18 = .ok (.iconst 0, 1) := by decide +kernel
theorem d6_parseDeed_19 : decode cX6_parseDeed 19 = .ok (.invokevirtual 83, 3) := by decide +kernel
theorem d6_parseDeed_22 : decode cX6_parseDeed 22 = .ok (.return_, 1) := by decide +kernel
abbrev K6_parseDeed : CK Unit := (enV, none, 5, 7, none)
noncomputable def F6_parseDeed (N : Nat) (q1 : Nat) (p2 : Int32) (p3 : Int32) (σ : Ms) : Option (Unit × Ms) :=
  bn (F8_takeSide N σ) (fun r1 t2 => bn (F8_takeNumber N (0 : Int32) (p3 - (1 : Int32)) t2) (fun r3 t4 => bn (F5_add q1 p2 r1 r3 (0 : Int32) t4) (fun r5 t6 => some ((), t6))))
set_option maxRecDepth 100000 in
theorem mc6_parseDeed (N : Nat) (q1 : Nat) (hq1 : IsC q1 (0, 3, 0)) (p2 : Int32) (p3 : Int32) (σ : Ms) : MC enV yX6_parseDeed cX6_parseDeed 5 none 7 (F6_parseDeed N q1 p2 p3 σ) σ [.ref 20, .ref q1, .int p2, .int p3] := by
  refine MC.v (by decide +kernel) (Nat.le_of_ble_eq_true rfl) ?_
  show VF (K6_parseDeed) cX6_parseDeed RX6 (F6_parseDeed N q1 p2 p3 σ) σ 0 [(0, .ref 20), (1, .ref q1), (2, .int p2), (3, .int p3)] []
  unfold F6_parseDeed
  refine v_aload_n d6_parseDeed_0 0 rfl rfl ?_
  refine v_callV0i d6_parseDeed_1 (mc8_takeSide N σ) yv8_takeSide mlX6_103 (Recv.obj ic_20 rfl) (by decide) (Nat.le_of_ble_eq_true rfl) fun r1 t2 => ?_
  refine v_istore (lv' := [(4, .int r1), (0, .ref 20), (1, .ref q1), (2, .int p2), (3, .int p3)]) d6_parseDeed_4 (by decide) rfl ?_
  refine v_aload_n d6_parseDeed_6 2 rfl rfl ?_
  refine v_iload_n d6_parseDeed_7 3 rfl rfl ?_
  refine v_iload d6_parseDeed_8 0 rfl ?_
  refine v_aload_n d6_parseDeed_10 1 rfl rfl ?_
  refine v_iconst d6_parseDeed_11 ki_0 ?_
  refine v_iload_n d6_parseDeed_12 4 rfl rfl ?_
  refine v_iconst d6_parseDeed_13 ki_1 ?_
  refine v_isub d6_parseDeed_14 ?_
  refine v_callV2i d6_parseDeed_15 (mc8_takeNumber N (0 : Int32) (p3 - (1 : Int32)) t2) yv8_takeNumber mlX6_79 (Recv.obj ic_20 rfl) (by decide) (Nat.le_of_ble_eq_true rfl) fun r3 t4 => ?_
  refine v_iconst d6_parseDeed_18 ki_0 ?_
  refine v_callV4v d6_parseDeed_19 (mc5_add q1 hq1 p2 r1 r3 (0 : Int32) t4) yv5_add mlX6_83 (Recv.obj hq1 rfl) (by decide) (Nat.le_of_ble_eq_true rfl) fun r5 t6 => ?_
  exact v_vret d6_parseDeed_22 rfl
theorem d6_parseLess_0 : decode cX6_parseLess 0 = .ok (.aload_n 0, 1) := by decide +kernel
theorem d6_parseLess_1 : decode cX6_parseLess 1 = .ok (.iconst 0, 1) := by decide +kernel
theorem d6_parseLess_2 : decode cX6_parseLess 2 = .ok (.iconst 3, 1) := by decide +kernel
theorem d6_parseLess_3 : decode cX6_parseLess 3 = .ok (.invokevirtual 79, 3) := by decide +kernel
theorem d6_parseLess_6 : decode cX6_parseLess 6 = .ok (.istore_n 2, 1) := by decide +kernel
theorem d6_parseLess_7 : decode cX6_parseLess 7 = .ok (.aload_n 1, 1) := by decide +kernel
theorem d6_parseLess_8 : decode cX6_parseLess 8 = .ok (.iconst 2, 1) := by decide +kernel
theorem d6_parseLess_9 : decode cX6_parseLess 9 = .ok (.iload_n 2, 1) := by decide +kernel
theorem d6_parseLess_10 : decode cX6_parseLess 10 = .ok (.aload_n 0, 1) := by decide +kernel
theorem d6_parseLess_11 : decode cX6_parseLess 11 = .ok (.iconst 0, 1) := by decide +kernel
theorem d6_parseLess_12 : decode cX6_parseLess 12 = .ok (.bipush 15, 2) := by decide +kernel
theorem d6_parseLess_14 : decode cX6_parseLess 14 = .ok (.invokevirtual 79, 3) := by decide +kernel
theorem d6_parseLess_17 : decode cX6_parseLess 17 = .ok (.iconst 0, 1) := by decide +kernel
theorem d6_parseLess_18 : decode cX6_parseLess 18 = .ok (.invokevirtual 83, 3) := by decide +kernel
theorem d6_parseLess_21 : decode cX6_parseLess 21 = .ok (.return_, 1) := by decide +kernel
abbrev K6_parseLess : CK Unit := (enV, none, 3, 5, none)
noncomputable def F6_parseLess (N : Nat) (q1 : Nat) (σ : Ms) : Option (Unit × Ms) :=
  bn (F8_takeNumber N (0 : Int32) (3 : Int32) σ) (fun r1 t2 => bn (F8_takeNumber N (0 : Int32) (15 : Int32) t2) (fun r3 t4 => bn (F5_add q1 (2 : Int32) r1 r3 (0 : Int32) t4) (fun r5 t6 => some ((), t6))))
set_option maxRecDepth 100000 in
theorem mc6_parseLess (N : Nat) (q1 : Nat) (hq1 : IsC q1 (0, 3, 0)) (σ : Ms) : MC enV yX6_parseLess cX6_parseLess 3 none 5 (F6_parseLess N q1 σ) σ [.ref 20, .ref q1] := by
  refine MC.v (by decide +kernel) (Nat.le_of_ble_eq_true rfl) ?_
  show VF (K6_parseLess) cX6_parseLess RX6 (F6_parseLess N q1 σ) σ 0 [(0, .ref 20), (1, .ref q1)] []
  unfold F6_parseLess
  refine v_aload_n d6_parseLess_0 0 rfl rfl ?_
  refine v_iconst d6_parseLess_1 ki_0 ?_
  refine v_iconst d6_parseLess_2 ki_3 ?_
  refine v_callV2i d6_parseLess_3 (mc8_takeNumber N (0 : Int32) (3 : Int32) σ) yv8_takeNumber mlX6_79 (Recv.obj ic_20 rfl) (by decide) (Nat.le_of_ble_eq_true rfl) fun r1 t2 => ?_
  refine v_istore_n (lv' := [(2, .int r1), (0, .ref 20), (1, .ref q1)]) d6_parseLess_6 rfl (by decide) rfl ?_
  refine v_aload_n d6_parseLess_7 2 rfl rfl ?_
  refine v_iconst d6_parseLess_8 ki_2 ?_
  refine v_iload_n d6_parseLess_9 0 rfl rfl ?_
  refine v_aload_n d6_parseLess_10 1 rfl rfl ?_
  refine v_iconst d6_parseLess_11 ki_0 ?_
  refine v_bipush d6_parseLess_12 kb_15 ?_
  refine v_callV2i d6_parseLess_14 (mc8_takeNumber N (0 : Int32) (15 : Int32) t2) yv8_takeNumber mlX6_79 (Recv.obj ic_20 rfl) (by decide) (Nat.le_of_ble_eq_true rfl) fun r3 t4 => ?_
  refine v_iconst d6_parseLess_17 ki_0 ?_
  refine v_callV4v d6_parseLess_18 (mc5_add q1 hq1 (2 : Int32) r1 r3 (0 : Int32) t4) yv5_add mlX6_83 (Recv.obj hq1 rfl) (by decide) (Nat.le_of_ble_eq_true rfl) fun r5 t6 => ?_
  exact v_vret d6_parseLess_21 rfl
theorem d6_parseGrow_0 : decode cX6_parseGrow 0 = .ok (.aload_n 0, 1) := by decide +kernel
theorem d6_parseGrow_1 : decode cX6_parseGrow 1 = .ok (.invokevirtual 107, 3) := by decide +kernel
theorem d6_parseGrow_4 : decode cX6_parseGrow 4 = .ok (.istore_n 2, 1) := by decide +kernel
theorem d6_parseGrow_5 : decode cX6_parseGrow 5 = .ok (.iconst (-1), 1) := by decide +kernel
theorem d6_parseGrow_6 : decode cX6_parseGrow 6 = .ok (.istore_n 3, 1) := by decide +kernel
theorem d6_parseGrow_7 : decode cX6_parseGrow 7 = .ok (.aload_n 0, 1) := by decide +kernel
theorem d6_parseGrow_8 : decode cX6_parseGrow 8 = .ok (.ldc 110, 2) := by decide +kernel
theorem d6_parseGrow_10 : decode cX6_parseGrow 10 = .ok (.invokevirtual 22, 3) := by decide +kernel
theorem d6_parseGrow_13 : decode cX6_parseGrow 13 = .ok (.ifCond .eq 15, 3) := by decide +kernel
theorem d6_parseGrow_16 : decode cX6_parseGrow 16 = .ok (.aload_n 0, 1) := by decide +kernel
theorem d6_parseGrow_17 : decode cX6_parseGrow 17 = .ok (.invokevirtual 43, 3) := by decide +kernel
theorem d6_parseGrow_20 : decode cX6_parseGrow 20 = .ok (.aload_n 0, 1) := by decide +kernel
theorem d6_parseGrow_21 : decode cX6_parseGrow 21 = .ok (.iconst 0, 1) := by decide +kernel
theorem d6_parseGrow_22 : decode cX6_parseGrow 22 = .ok (.bipush 19, 2) := by decide +kernel
theorem d6_parseGrow_24 : decode cX6_parseGrow 24 = .ok (.invokevirtual 79, 3) := by decide +kernel
theorem d6_parseGrow_27 : decode cX6_parseGrow 27 = .ok (.istore_n 3, 1) := by decide +kernel
theorem d6_parseGrow_28 : decode cX6_parseGrow 28 = .ok (.aload_n 1, 1) := by decide +kernel
theorem d6_parseGrow_29 : decode cX6_parseGrow 29 = .ok (.iconst 3, 1) := by decide +kernel
theorem d6_parseGrow_30 : decode cX6_parseGrow 30 = .ok (.iload_n 2, 1) := by decide +kernel
theorem d6_parseGrow_31 : decode cX6_parseGrow 31 = .ok (.iload_n 3, 1) := by decide +kernel
theorem d6_parseGrow_32 : decode cX6_parseGrow 32 = .ok (.iconst 0, 1) := by decide +kernel
theorem d6_parseGrow_33 : decode cX6_parseGrow 33 = .ok (.invokevirtual 83, 3) := by decide +kernel
theorem d6_parseGrow_36 : decode cX6_parseGrow 36 = .ok (.return_, 1) := by decide +kernel
abbrev K6_parseGrow : CK Unit := (enV, none, 4, 7, none)
noncomputable def F6_parseGrow_b28 (N : Nat) (q1 : Nat) (l2 : Int32) (l3 : Int32) (σ : Ms) : Option (Unit × Ms) :=
  bn (F5_add q1 (3 : Int32) l2 l3 (0 : Int32) σ) (fun r1 t2 => some ((), t2))
noncomputable def F6_parseGrow (N : Nat) (q1 : Nat) (σ : Ms) : Option (Unit × Ms) :=
  bn (F8_takeColour N σ) (fun r3 t4 => bn (F8_isWord N 3 t4) (fun r5 t6 => if r5 = 0 then (F6_parseGrow_b28 N q1 r3 (-1 : Int32) t6)
  else (bn (F8_step N t6) (fun r7 t8 => bn (F8_takeNumber N (0 : Int32) (19 : Int32) t8) (fun r9 t10 => F6_parseGrow_b28 N q1 r3 r9 t10)))))
set_option maxRecDepth 100000 in
theorem v6_parseGrow_b28 (N : Nat) (q1 : Nat) (hq1 : IsC q1 (0, 3, 0)) (l2 : Int32) (l3 : Int32) (σ : Ms) : VF (K6_parseGrow) cX6_parseGrow RX6 (F6_parseGrow_b28 N q1 l2 l3 σ) σ 28 [(1, .ref q1), (2, .int l2), (3, .int l3)] [] := by
  unfold F6_parseGrow_b28
  refine v_aload_n d6_parseGrow_28 0 rfl rfl ?_
  refine v_iconst d6_parseGrow_29 ki_3 ?_
  refine v_iload_n d6_parseGrow_30 1 rfl rfl ?_
  refine v_iload_n d6_parseGrow_31 2 rfl rfl ?_
  refine v_iconst d6_parseGrow_32 ki_0 ?_
  refine v_callV4v d6_parseGrow_33 (mc5_add q1 hq1 (3 : Int32) l2 l3 (0 : Int32) σ) yv5_add mlX6_83 (Recv.obj hq1 rfl) (by decide) (Nat.le_of_ble_eq_true rfl) fun r1 t2 => ?_
  exact v_vret d6_parseGrow_36 rfl
set_option maxRecDepth 100000 in
theorem mc6_parseGrow (N : Nat) (q1 : Nat) (hq1 : IsC q1 (0, 3, 0)) (σ : Ms) : MC enV yX6_parseGrow cX6_parseGrow 4 none 7 (F6_parseGrow N q1 σ) σ [.ref 20, .ref q1] := by
  refine MC.v (by decide +kernel) (Nat.le_of_ble_eq_true rfl) ?_
  show VF (K6_parseGrow) cX6_parseGrow RX6 (F6_parseGrow N q1 σ) σ 0 [(0, .ref 20), (1, .ref q1)] []
  unfold F6_parseGrow
  refine v_aload_n d6_parseGrow_0 0 rfl rfl ?_
  refine v_callV0i d6_parseGrow_1 (mc8_takeColour N σ) yv8_takeColour mlX6_107 (Recv.obj ic_20 rfl) (by decide) (Nat.le_of_ble_eq_true rfl) fun r3 t4 => ?_
  refine v_istore_n (lv' := [(2, .int r3), (0, .ref 20), (1, .ref q1)]) d6_parseGrow_4 rfl (by decide) rfl ?_
  refine v_iconst d6_parseGrow_5 ki_m1 ?_
  refine v_istore_n (lv' := [(3, .int (-1 : Int32)), (2, .int r3), (0, .ref 20), (1, .ref q1)]) d6_parseGrow_6 rfl (by decide) rfl ?_
  refine v_aload_n d6_parseGrow_7 2 rfl rfl ?_
  refine v_ldcS (i := 3) d6_parseGrow_8 stX6_110 ?_
  refine v_callV1i d6_parseGrow_10 (mc8_isWord N 3 (by decide) t4) yv8_isWord mlX6_22 (Recv.obj ic_20 rfl) (by decide) (Nat.le_of_ble_eq_true rfl) fun r5 t6 => ?_
  refine v_if_eq (tgt := 28) d6_parseGrow_13 (by decide) ?_ ?_
  · refine v_sub [3, 1, 0] rfl ?_
    exact v6_parseGrow_b28 N q1 hq1 r3 (-1 : Int32) t6
  · refine v_aload_n d6_parseGrow_16 2 rfl rfl ?_
    refine v_callV0v d6_parseGrow_17 (mc8_step N t6) yv8_step mlX6_43 (Recv.obj ic_20 rfl) (by decide) (Nat.le_of_ble_eq_true rfl) fun r7 t8 => ?_
    refine v_aload_n d6_parseGrow_20 2 rfl rfl ?_
    refine v_iconst d6_parseGrow_21 ki_0 ?_
    refine v_bipush d6_parseGrow_22 kb_19 ?_
    refine v_callV2i d6_parseGrow_24 (mc8_takeNumber N (0 : Int32) (19 : Int32) t8) yv8_takeNumber mlX6_79 (Recv.obj ic_20 rfl) (by decide) (Nat.le_of_ble_eq_true rfl) fun r9 t10 => ?_
    refine v_istore_n (lv' := [(3, .int r9), (2, .int r3), (0, .ref 20), (1, .ref q1)]) d6_parseGrow_27 rfl (by decide) rfl ?_
    refine v_sub [3, 1, 0] rfl ?_
    exact v6_parseGrow_b28 N q1 hq1 r3 r9 t10
theorem d6_testHere_0 : decode cX6_testHere 0 = .ok (.aload_n 0, 1) := by decide +kernel
theorem d6_testHere_1 : decode cX6_testHere 1 = .ok (.ldc 118, 2) := by decide +kernel
theorem d6_testHere_3 : decode cX6_testHere 3 = .ok (.invokevirtual 22, 3) := by decide +kernel
theorem d6_testHere_6 : decode cX6_testHere 6 = .ok (.ifCond .eq 5, 3) := by decide +kernel
theorem d6_testHere_9 : decode cX6_testHere 9 = .ok (.iconst 0, 1) := by decide +kernel
theorem d6_testHere_10 : decode cX6_testHere 10 = .ok (.ireturn, 1) := by decide +kernel
theorem d6_testHere_11 : decode cX6_testHere 11 = .ok (.aload_n 0, 1) := by decide +kernel
theorem d6_testHere_12 : decode cX6_testHere 12 = .ok (.ldc 120, 2) := by decide +kernel
theorem d6_testHere_14 : decode cX6_testHere 14 = .ok (.invokevirtual 22, 3) := by decide +kernel
theorem d6_testHere_17 : decode cX6_testHere 17 = .ok (.ifCond .eq 5, 3) := by decide +kernel
theorem d6_testHere_20 : decode cX6_testHere 20 = .ok (.iconst 1, 1) := by decide +kernel
theorem d6_testHere_21 : decode cX6_testHere 21 = .ok (.ireturn, 1) := by decide +kernel
theorem d6_testHere_22 : decode cX6_testHere 22 = .ok (.aload_n 0, 1) := by decide +kernel
theorem d6_testHere_23 : decode cX6_testHere 23 = .ok (.ldc 122, 2) := by decide +kernel
theorem d6_testHere_25 : decode cX6_testHere 25 = .ok (.invokevirtual 22, 3) := by decide +kernel
theorem d6_testHere_28 : decode cX6_testHere 28 = .ok (.ifCond .eq 5, 3) := by decide +kernel
theorem d6_testHere_31 : decode cX6_testHere 31 = .ok (.iconst 2, 1) := by decide +kernel
theorem d6_testHere_32 : decode cX6_testHere 32 = .ok (.ireturn, 1) := by decide +kernel
theorem d6_testHere_33 : decode cX6_testHere 33 = .ok (.aload_n 0, 1) := by decide +kernel
theorem d6_testHere_34 : decode cX6_testHere 34 = .ok (.ldc 124, 2) := by decide +kernel
theorem d6_testHere_36 : decode cX6_testHere 36 = .ok (.invokevirtual 22, 3) := by decide +kernel
theorem d6_testHere_39 : decode cX6_testHere 39 = .ok (.ifCond .eq 7, 3) := by decide +kernel
theorem d6_testHere_42 : decode cX6_testHere 42 = .ok (.iconst 3, 1) := by decide +kernel
theorem d6_testHere_43 : decode cX6_testHere 43 = .ok (.goto 4, 3) := by decide +kernel
theorem d6_testHere_46 : decode cX6_testHere 46 = .ok (.iconst (-1), 1) := by decide +kernel
theorem d6_testHere_47 : decode cX6_testHere 47 = .ok (.ireturn, 1) := by decide +kernel
abbrev K6_testHere : CK Int32 := (enI, (some .int), 1, 6, none)
noncomputable def F6_testHere (N : Nat) (σ : Ms) : Option (Int32 × Ms) :=
  bn (F8_isWord N 18 σ) (fun r1 t2 => if r1 = 0 then (bn (F8_isWord N 19 t2) (fun r3 t4 => if r3 = 0 then (bn (F8_isWord N 20 t4) (fun r5 t6 => if r5 = 0 then (bn (F8_isWord N 21 t6) (fun r7 t8 => if r7 = 0 then (some ((-1 : Int32), t8))
  else (some ((3 : Int32), t8))))
  else (some ((2 : Int32), t6))))
  else (some ((1 : Int32), t4))))
  else (some ((0 : Int32), t2)))
set_option maxRecDepth 100000 in
theorem mc6_testHere (N : Nat) (σ : Ms) : MC enI yX6_testHere cX6_testHere 1 (some .int) 6 (F6_testHere N σ) σ [.ref 20] := by
  refine MC.i (by decide +kernel) (Nat.le_of_ble_eq_true rfl) ?_
  show VF (K6_testHere) cX6_testHere RX6 (F6_testHere N σ) σ 0 [(0, .ref 20)] []
  unfold F6_testHere
  refine v_aload_n d6_testHere_0 0 rfl rfl ?_
  refine v_ldcS (i := 18) d6_testHere_1 stX6_118 ?_
  refine v_callV1i d6_testHere_3 (mc8_isWord N 18 (by decide) σ) yv8_isWord mlX6_22 (Recv.obj ic_20 rfl) (by decide) (Nat.le_of_ble_eq_true rfl) fun r1 t2 => ?_
  refine v_if_eq (tgt := 11) d6_testHere_6 (by decide) ?_ ?_
  · refine v_aload_n d6_testHere_11 0 rfl rfl ?_
    refine v_ldcS (i := 19) d6_testHere_12 stX6_120 ?_
    refine v_callV1i d6_testHere_14 (mc8_isWord N 19 (by decide) t2) yv8_isWord mlX6_22 (Recv.obj ic_20 rfl) (by decide) (Nat.le_of_ble_eq_true rfl) fun r3 t4 => ?_
    refine v_if_eq (tgt := 22) d6_testHere_17 (by decide) ?_ ?_
    · refine v_aload_n d6_testHere_22 0 rfl rfl ?_
      refine v_ldcS (i := 20) d6_testHere_23 stX6_122 ?_
      refine v_callV1i d6_testHere_25 (mc8_isWord N 20 (by decide) t4) yv8_isWord mlX6_22 (Recv.obj ic_20 rfl) (by decide) (Nat.le_of_ble_eq_true rfl) fun r5 t6 => ?_
      refine v_if_eq (tgt := 33) d6_testHere_28 (by decide) ?_ ?_
      · refine v_aload_n d6_testHere_33 0 rfl rfl ?_
        refine v_ldcS (i := 21) d6_testHere_34 stX6_124 ?_
        refine v_callV1i d6_testHere_36 (mc8_isWord N 21 (by decide) t6) yv8_isWord mlX6_22 (Recv.obj ic_20 rfl) (by decide) (Nat.le_of_ble_eq_true rfl) fun r7 t8 => ?_
        refine v_if_eq (tgt := 46) d6_testHere_39 (by decide) ?_ ?_
        · refine v_iconst d6_testHere_46 ki_m1 ?_
          exact v_iret d6_testHere_47 rfl rfl rfl
        · refine v_iconst d6_testHere_42 ki_3 ?_
          refine v_goto (tgt := 47) d6_testHere_43 (by decide) ?_
          exact v_iret d6_testHere_47 rfl rfl rfl
      · refine v_iconst d6_testHere_31 ki_2 ?_
        exact v_iret d6_testHere_32 rfl rfl rfl
    · refine v_iconst d6_testHere_20 ki_1 ?_
      exact v_iret d6_testHere_21 rfl rfl rfl
  · refine v_iconst d6_testHere_9 ki_0 ?_
    exact v_iret d6_testHere_10 rfl rfl rfl
