theorem d12_take_0 : decode cX12_take 0 = .ok (.aload_n 0, 1) := by decide +kernel
theorem d12_take_1 : decode cX12_take 1 = .ok (.iconst 0, 1) := by decide +kernel
theorem d12_take_2 : decode cX12_take 2 = .ok (.putfield 53, 3) := by decide +kernel
theorem d12_take_5 : decode cX12_take 5 = .ok (.aload_n 0, 1) := by decide +kernel
theorem d12_take_6 : decode cX12_take 6 = .ok (.iconst 0, 1) := by decide +kernel
theorem d12_take_7 : decode cX12_take 7 = .ok (.putfield 56, 3) := by decide +kernel
theorem d12_take_10 : decode cX12_take 10 = .ok (.iload_n 1, 1) := by decide +kernel
theorem d12_take_11 : decode cX12_take 11 = .ok (.invokestatic 297, 3) := by decide +kernel
theorem d12_take_14 : decode cX12_take 14 = .ok (.ifCond .eq 11, 3) := by decide +kernel
theorem d12_take_17 : decode cX12_take 17 = .ok (.aload_n 0, 1) := by decide +kernel
theorem d12_take_18 : decode cX12_take 18 = .ok (.iload_n 2, 1) := by decide +kernel
theorem d12_take_19 : decode cX12_take 19 = .ok (.invokevirtual 294, 3) := by decide +kernel
theorem d12_take_22 : decode cX12_take 22 = .ok (.ifCond .ne 9, 3) := by decide +kernel
theorem d12_take_25 : decode cX12_take 25 = .ok (.aload_n 0, 1) := by decide +kernel
theorem d12_take_26 : decode cX12_take 26 = .ok (.iconst 2, 1) := by decide +kernel
theorem d12_take_27 : decode cX12_take 27 = .ok (.invokevirtual 265, 3) := by decide +kernel
theorem d12_take_30 : decode cX12_take 30 = .ok (.ireturn, 1) := by decide +kernel
theorem d12_take_31 : decode cX12_take 31 = .ok (.aload_n 0, 1) := by decide +kernel
theorem d12_take_32 : decode cX12_take 32 = .ok (.iload_n 1, 1) := by decide +kernel
theorem d12_take_33 : decode cX12_take 33 = .ok (.iload_n 2, 1) := by decide +kernel
theorem d12_take_34 : decode cX12_take 34 = .ok (.invokevirtual 344, 3) := by decide +kernel
theorem d12_take_37 : decode cX12_take 37 = .ok (.ifCond .eq 12, 3) := by decide +kernel
theorem d12_take_40 : decode cX12_take 40 = .ok (.aload_n 0, 1) := by decide +kernel
theorem d12_take_41 : decode cX12_take 41 = .ok (.getfield 35, 3) := by decide +kernel
theorem d12_take_44 : decode cX12_take 44 = .ok (.iconst 3, 1) := by decide +kernel
theorem d12_take_45 : decode cX12_take 45 = .ok (.iaload, 1) := by decide +kernel
theorem d12_take_46 : decode cX12_take 46 = .ok (.goto 9, 3) := by decide +kernel
theorem d12_take_49 : decode cX12_take 49 = .ok (.aload_n 0, 1) := by decide +kernel
theorem d12_take_50 : decode cX12_take 50 = .ok (.bipush 9, 2) := by decide +kernel
theorem d12_take_52 : decode cX12_take 52 = .ok (.invokevirtual 265, 3) := by decide +kernel
theorem d12_take_55 : decode cX12_take 55 = .ok (.ireturn, 1) := by decide +kernel
abbrev K12_take : CK Int32 := (enI, (some .int), 3, 4, none)
noncomputable def F12_take_b25 (σ : Ms) : Option (Int32 × Ms) :=
  bn (F12_refuse (2 : Int32) σ) (fun r1 t2 => some (r1, t2))
noncomputable def F12_take (p0 : Int32) (p1 : Int32) (σ : Ms) : Option (Int32 × Ms) :=
  lt (sI σ 0 1 (0 : Int32)) (fun t3 => lt (sI t3 0 0 (0 : Int32)) (fun t4 => bn (F12_isSideAt p0 t4) (fun r5 t6 => if r5 = 0 then (F12_take_b25 t6)
  else (bn (F12_isBetAt p1 t6) (fun r7 t8 => if r7 ≠ 0 then (bn (F12_takes p0 p1 t8) (fun r9 t10 => if r9 = 0 then (bn (F12_refuse (9 : Int32) t10) (fun r11 t12 => some (r11, t12)))
  else (ck (ixb (3 : Int32) 1780) (some ((t10.1 5 (3 : Int32).toNatClampNeg), t10)))))
  else (F12_take_b25 t8))))))
set_option maxRecDepth 100000 in
theorem v12_take_b25 (σ : Ms) : VF (K12_take) cX12_take RX12 (F12_take_b25 σ) σ 25 [(0, .ref 0)] [] := by
  unfold F12_take_b25
  refine v_aload_n d12_take_25 0 rfl rfl ?_
  refine v_iconst d12_take_26 ki_2 ?_
  refine v_callV1i d12_take_27 (mc12_refuse (2 : Int32) σ) yv12_refuse mlX12_265 (Recv.obj ic_0 rfl) (by decide) (Nat.le_of_ble_eq_true rfl) fun r1 t2 => ?_
  exact v_iret d12_take_30 rfl rfl rfl
set_option maxRecDepth 100000 in
theorem mc12_take (p0 : Int32) (p1 : Int32) (σ : Ms) : MC enI yX12_take cX12_take 3 (some .int) 4 (F12_take p0 p1 σ) σ [.ref 0, .int p0, .int p1] := by
  refine MC.i (by decide +kernel) (Nat.le_of_ble_eq_true rfl) ?_
  show VF (K12_take) cX12_take RX12 (F12_take p0 p1 σ) σ 0 [(0, .ref 0), (1, .int p0), (2, .int p1)] []
  unfold F12_take
  refine v_aload_n d12_take_0 0 rfl rfl ?_
  refine v_iconst d12_take_1 ki_0 ?_
  refine v_putI d12_take_2 faX12_53 fp9_1 ic_0 ?_
  refine v_lts fun t3 => ?_
  refine v_aload_n d12_take_5 0 rfl rfl ?_
  refine v_iconst d12_take_6 ki_0 ?_
  refine v_putI d12_take_7 faX12_56 fp9_0 ic_0 ?_
  refine v_lts fun t4 => ?_
  refine v_iload_n d12_take_10 1 rfl rfl ?_
  refine v_callS1i d12_take_11 (mc12_isSideAt p0 t4) ys12_isSideAt mlX12_297 (by decide) (Nat.le_of_ble_eq_true rfl) fun r5 t6 => ?_
  refine v_if_eq (tgt := 25) d12_take_14 (by decide) ?_ ?_
  · refine v_sub [0] rfl ?_
    exact v12_take_b25 t6
  · refine v_aload_n d12_take_17 0 rfl rfl ?_
    refine v_iload_n d12_take_18 2 rfl rfl ?_
    refine v_callV1i d12_take_19 (mc12_isBetAt p1 t6) yv12_isBetAt mlX12_294 (Recv.obj ic_0 rfl) (by decide) (Nat.le_of_ble_eq_true rfl) fun r7 t8 => ?_
    refine v_if_ne (tgt := 31) d12_take_22 (by decide) ?_ ?_
    · refine v_aload_n d12_take_31 0 rfl rfl ?_
      refine v_iload_n d12_take_32 1 rfl rfl ?_
      refine v_iload_n d12_take_33 2 rfl rfl ?_
      refine v_callV2i d12_take_34 (mc12_takes p0 p1 t8) yv12_takes mlX12_344 (Recv.obj ic_0 rfl) (by decide) (Nat.le_of_ble_eq_true rfl) fun r9 t10 => ?_
      refine v_if_eq (tgt := 49) d12_take_37 (by decide) ?_ ?_
      · refine v_aload_n d12_take_49 0 rfl rfl ?_
        refine v_bipush d12_take_50 kb_9 ?_
        refine v_callV1i d12_take_52 (mc12_refuse (9 : Int32) t10) yv12_refuse mlX12_265 (Recv.obj ic_0 rfl) (by decide) (Nat.le_of_ble_eq_true rfl) fun r11 t12 => ?_
        exact v_iret d12_take_55 rfl rfl rfl
      · refine v_aload_n d12_take_40 0 rfl rfl ?_
        refine v_getR d12_take_41 faX12_35 ic_0 rfl ?_
        refine v_iconst d12_take_44 ki_3 ?_
        refine v_iald d12_take_45 ic_5 ?_
        refine v_goto (tgt := 55) d12_take_46 (by decide) ?_
        exact v_iret d12_take_55 rfl rfl rfl
    · refine v_sub [0] rfl ?_
      exact v12_take_b25 t8
theorem d12_lessens_0 : decode cX12_lessens 0 = .ok (.aload_n 0, 1) := by decide +kernel
theorem d12_lessens_1 : decode cX12_lessens 1 = .ok (.iload_n 1, 1) := by decide +kernel
theorem d12_lessens_2 : decode cX12_lessens 2 = .ok (.invokevirtual 291, 3) := by decide +kernel
theorem d12_lessens_5 : decode cX12_lessens 5 = .ok (.ifCond .eq 16, 3) := by decide +kernel
theorem d12_lessens_8 : decode cX12_lessens 8 = .ok (.aload_n 0, 1) := by decide +kernel
theorem d12_lessens_9 : decode cX12_lessens 9 = .ok (.getfield 35, 3) := by decide +kernel
theorem d12_lessens_12 : decode cX12_lessens 12 = .ok (.bipush 65, 2) := by decide +kernel
theorem d12_lessens_14 : decode cX12_lessens 14 = .ok (.iload_n 1, 1) := by decide +kernel
theorem d12_lessens_15 : decode cX12_lessens 15 = .ok (.iadd, 1) := by decide +kernel
theorem d12_lessens_16 : decode cX12_lessens 16 = .ok (.iaload, 1) := by decide +kernel
theorem d12_lessens_17 : decode cX12_lessens 17 = .ok (.iload_n 2, 1) := by decide +kernel
theorem d12_lessens_18 : decode cX12_lessens 18 = .ok (.if_icmp .gt 5, 3) := by decide +kernel
theorem d12_lessens_21 : decode cX12_lessens 21 = .ok (.iconst 0, 1) := by decide +kernel
theorem d12_lessens_22 : decode cX12_lessens 22 = .ok (.ireturn, 1) := by decide +kernel
theorem d12_lessens_23 : decode cX12_lessens 23 = .ok (.aload_n 0, 1) := by decide +kernel
theorem d12_lessens_24 : decode cX12_lessens 24 = .ok (.getfield 35, 3) := by decide +kernel
theorem d12_lessens_27 : decode cX12_lessens 27 = .ok (.bipush 65, 2) := by decide +kernel
theorem d12_lessens_29 : decode cX12_lessens 29 = .ok (.iload_n 1, 1) := by decide +kernel
theorem d12_lessens_30 : decode cX12_lessens 30 = .ok (.iadd, 1) := by decide +kernel
theorem d12_lessens_31 : decode cX12_lessens 31 = .ok (.iload_n 2, 1) := by decide +kernel
theorem d12_lessens_32 : decode cX12_lessens 32 = .ok (.iastore, 1) := by decide +kernel
theorem d12_lessens_33 : decode cX12_lessens 33 = .ok (.iconst 1, 1) := by decide +kernel
theorem d12_lessens_34 : decode cX12_lessens 34 = .ok (.ireturn, 1) := by decide +kernel
abbrev K12_lessens : CK Int32 := (enI, (some .boolean), 3, 3, none)
noncomputable def F12_lessens (p0 : Int32) (p1 : Int32) (σ : Ms) : Option (Int32 × Ms) :=
  bn (F12_isHeapAt p0 σ) (fun r1 t2 => if r1 = 0 then (some ((0 : Int32), t2))
  else (ck (ixb ((65 : Int32) + p0) 1780) (if p1 < (t2.1 5 ((65 : Int32) + p0).toNatClampNeg) then (ck (ixb ((65 : Int32) + p0) 1780) (lt (sI t2 5 ((65 : Int32) + p0).toNatClampNeg p1) (fun t3 => some ((1 : Int32), t3))))
  else (some ((0 : Int32), t2)))))
set_option maxRecDepth 100000 in
theorem mc12_lessens (p0 : Int32) (p1 : Int32) (σ : Ms) : MC enI yX12_lessens cX12_lessens 3 (some .boolean) 3 (F12_lessens p0 p1 σ) σ [.ref 0, .int p0, .int p1] := by
  refine MC.i (by decide +kernel) (Nat.le_of_ble_eq_true rfl) ?_
  show VF (K12_lessens) cX12_lessens RX12 (F12_lessens p0 p1 σ) σ 0 [(0, .ref 0), (1, .int p0), (2, .int p1)] []
  unfold F12_lessens
  refine v_aload_n d12_lessens_0 0 rfl rfl ?_
  refine v_iload_n d12_lessens_1 1 rfl rfl ?_
  refine v_callV1i d12_lessens_2 (mc12_isHeapAt p0 σ) yv12_isHeapAt mlX12_291 (Recv.obj ic_0 rfl) (by decide) (Nat.le_of_ble_eq_true rfl) fun r1 t2 => ?_
  refine v_if_eq (tgt := 21) d12_lessens_5 (by decide) ?_ ?_
  · refine v_iconst d12_lessens_21 ki_0 ?_
    exact v_iret (ty := .boolean) d12_lessens_22 rfl rfl rfl
  · refine v_aload_n d12_lessens_8 0 rfl rfl ?_
    refine v_getR d12_lessens_9 faX12_35 ic_0 rfl ?_
    refine v_bipush d12_lessens_12 kb_65 ?_
    refine v_iload_n d12_lessens_14 1 rfl rfl ?_
    refine v_iadd d12_lessens_15 ?_
    refine v_iald d12_lessens_16 ic_5 ?_
    refine v_iload_n d12_lessens_17 2 rfl rfl ?_
    refine v_icmp_gt (tgt := 23) d12_lessens_18 (by decide) ?_ ?_
    · refine v_aload_n d12_lessens_23 0 rfl rfl ?_
      refine v_getR d12_lessens_24 faX12_35 ic_0 rfl ?_
      refine v_bipush d12_lessens_27 kb_65 ?_
      refine v_iload_n d12_lessens_29 1 rfl rfl ?_
      refine v_iadd d12_lessens_30 ?_
      refine v_iload_n d12_lessens_31 2 rfl rfl ?_
      refine v_iast d12_lessens_32 ic_5 ?_
      refine v_lts fun t3 => ?_
      refine v_iconst d12_lessens_33 ki_1 ?_
      exact v_iret (ty := .boolean) d12_lessens_34 rfl rfl rfl
    · refine v_iconst d12_lessens_21 ki_0 ?_
      exact v_iret (ty := .boolean) d12_lessens_22 rfl rfl rfl
theorem d12_less_0 : decode cX12_less 0 = .ok (.aload_n 0, 1) := by decide +kernel
theorem d12_less_1 : decode cX12_less 1 = .ok (.iconst 0, 1) := by decide +kernel
theorem d12_less_2 : decode cX12_less 2 = .ok (.putfield 53, 3) := by decide +kernel
theorem d12_less_5 : decode cX12_less 5 = .ok (.aload_n 0, 1) := by decide +kernel
theorem d12_less_6 : decode cX12_less 6 = .ok (.iconst 0, 1) := by decide +kernel
theorem d12_less_7 : decode cX12_less 7 = .ok (.putfield 56, 3) := by decide +kernel
theorem d12_less_10 : decode cX12_less 10 = .ok (.aload_n 0, 1) := by decide +kernel
theorem d12_less_11 : decode cX12_less 11 = .ok (.iload_n 1, 1) := by decide +kernel
theorem d12_less_12 : decode cX12_less 12 = .ok (.invokevirtual 291, 3) := by decide +kernel
theorem d12_less_15 : decode cX12_less 15 = .ok (.ifCond .ne 9, 3) := by decide +kernel
theorem d12_less_18 : decode cX12_less 18 = .ok (.aload_n 0, 1) := by decide +kernel
theorem d12_less_19 : decode cX12_less 19 = .ok (.iconst 2, 1) := by decide +kernel
theorem d12_less_20 : decode cX12_less 20 = .ok (.invokevirtual 265, 3) := by decide +kernel
theorem d12_less_23 : decode cX12_less 23 = .ok (.ireturn, 1) := by decide +kernel
theorem d12_less_24 : decode cX12_less 24 = .ok (.iload_n 2, 1) := by decide +kernel
theorem d12_less_25 : decode cX12_less 25 = .ok (.i2l, 1) := by decide +kernel
theorem d12_less_26 : decode cX12_less 26 = .ok (.lconst 0, 1) := by decide +kernel
theorem d12_less_27 : decode cX12_less 27 = .ok (.ldc2_w 347, 3) := by decide +kernel
theorem d12_less_30 : decode cX12_less 30 = .ok (.invokestatic 88, 3) := by decide +kernel
theorem d12_less_33 : decode cX12_less 33 = .ok (.ifCond .ne 9, 3) := by decide +kernel
theorem d12_less_36 : decode cX12_less 36 = .ok (.aload_n 0, 1) := by decide +kernel
theorem d12_less_37 : decode cX12_less 37 = .ok (.iconst 5, 1) := by decide +kernel
theorem d12_less_38 : decode cX12_less 38 = .ok (.invokevirtual 265, 3) := by decide +kernel
theorem d12_less_41 : decode cX12_less 41 = .ok (.ireturn, 1) := by decide +kernel
theorem d12_less_42 : decode cX12_less 42 = .ok (.aload_n 0, 1) := by decide +kernel
theorem d12_less_43 : decode cX12_less 43 = .ok (.iload_n 1, 1) := by decide +kernel
theorem d12_less_44 : decode cX12_less 44 = .ok (.iload_n 2, 1) := by decide +kernel
theorem d12_less_45 : decode cX12_less 45 = .ok (.invokevirtual 349, 3) := by decide +kernel
theorem d12_less_48 : decode cX12_less 48 = .ok (.ifCond .ne 10, 3) := by decide +kernel
theorem d12_less_51 : decode cX12_less 51 = .ok (.aload_n 0, 1) := by decide +kernel
theorem d12_less_52 : decode cX12_less 52 = .ok (.bipush 9, 2) := by decide +kernel
theorem d12_less_54 : decode cX12_less 54 = .ok (.invokevirtual 265, 3) := by decide +kernel
theorem d12_less_57 : decode cX12_less 57 = .ok (.ireturn, 1) := by decide +kernel
theorem d12_less_58 : decode cX12_less 58 = .ok (.aload_n 0, 1) := by decide +kernel
theorem d12_less_59 : decode cX12_less 59 = .ok (.invokevirtual 324, 3) := by decide +kernel
theorem d12_less_62 : decode cX12_less 62 = .ok (.aload_n 0, 1) := by decide +kernel
theorem d12_less_63 : decode cX12_less 63 = .ok (.getfield 315, 3) := by decide +kernel
theorem d12_less_66 : decode cX12_less 66 = .ok (.ireturn, 1) := by decide +kernel
abbrev K12_less : CK Int32 := (enI, (some .int), 3, 5, none)
noncomputable def F12_less (N : Nat) (p0 : Int32) (p1 : Int32) (σ : Ms) : Option (Int32 × Ms) :=
  lt (sI σ 0 1 (0 : Int32)) (fun t1 => lt (sI t1 0 0 (0 : Int32)) (fun t2 => bn (F12_isHeapAt p0 t2) (fun r3 t4 => if r3 ≠ 0 then (bn (F12_isIn (p1.toInt64) (0 : Int64) (15 : Int64) t4) (fun r5 t6 => if r5 ≠ 0 then (bn (F12_lessens p0 p1 t6) (fun r7 t8 => if r7 ≠ 0 then (bn (F12_laysNow N t8) (fun r9 t10 => some ((t10.1 0 26), t10)))
  else (bn (F12_refuse (9 : Int32) t8) (fun r11 t12 => some (r11, t12)))))
  else (bn (F12_refuse (5 : Int32) t6) (fun r13 t14 => some (r13, t14)))))
  else (bn (F12_refuse (2 : Int32) t4) (fun r15 t16 => some (r15, t16))))))
set_option maxRecDepth 100000 in
theorem mc12_less (N : Nat) (p0 : Int32) (p1 : Int32) (σ : Ms) : MC enI yX12_less cX12_less 3 (some .int) 5 (F12_less N p0 p1 σ) σ [.ref 0, .int p0, .int p1] := by
  refine MC.i (by decide +kernel) (Nat.le_of_ble_eq_true rfl) ?_
  show VF (K12_less) cX12_less RX12 (F12_less N p0 p1 σ) σ 0 [(0, .ref 0), (1, .int p0), (2, .int p1)] []
  unfold F12_less
  refine v_aload_n d12_less_0 0 rfl rfl ?_
  refine v_iconst d12_less_1 ki_0 ?_
  refine v_putI d12_less_2 faX12_53 fp9_1 ic_0 ?_
  refine v_lts fun t1 => ?_
  refine v_aload_n d12_less_5 0 rfl rfl ?_
  refine v_iconst d12_less_6 ki_0 ?_
  refine v_putI d12_less_7 faX12_56 fp9_0 ic_0 ?_
  refine v_lts fun t2 => ?_
  refine v_aload_n d12_less_10 0 rfl rfl ?_
  refine v_iload_n d12_less_11 1 rfl rfl ?_
  refine v_callV1i d12_less_12 (mc12_isHeapAt p0 t2) yv12_isHeapAt mlX12_291 (Recv.obj ic_0 rfl) (by decide) (Nat.le_of_ble_eq_true rfl) fun r3 t4 => ?_
  refine v_if_ne (tgt := 24) d12_less_15 (by decide) ?_ ?_
  · refine v_iload_n d12_less_24 2 rfl rfl ?_
    refine v_i2l d12_less_25 ?_
    refine v_lconst d12_less_26 kl_0 ?_
    refine v_ldc2 d12_less_27 klX12_347 ?_
    refine v_callS3i d12_less_30 (mc12_isIn (p1.toInt64) (0 : Int64) (15 : Int64) t4) ys12_isIn mlX12_88 (by decide) (Nat.le_of_ble_eq_true rfl) fun r5 t6 => ?_
    refine v_if_ne (tgt := 42) d12_less_33 (by decide) ?_ ?_
    · refine v_aload_n d12_less_42 0 rfl rfl ?_
      refine v_iload_n d12_less_43 1 rfl rfl ?_
      refine v_iload_n d12_less_44 2 rfl rfl ?_
      refine v_callV2i d12_less_45 (mc12_lessens p0 p1 t6) yv12_lessens mlX12_349 (Recv.obj ic_0 rfl) (by decide) (Nat.le_of_ble_eq_true rfl) fun r7 t8 => ?_
      refine v_if_ne (tgt := 58) d12_less_48 (by decide) ?_ ?_
      · refine v_aload_n d12_less_58 0 rfl rfl ?_
        refine v_callV0v d12_less_59 (mc12_laysNow N t8) yv12_laysNow mlX12_324 (Recv.obj ic_0 rfl) (by decide) (Nat.le_of_ble_eq_true rfl) fun r9 t10 => ?_
        refine v_aload_n d12_less_62 0 rfl rfl ?_
        refine v_getI d12_less_63 faX12_315 ic_0 ?_
        exact v_iret d12_less_66 rfl rfl rfl
      · refine v_aload_n d12_less_51 0 rfl rfl ?_
        refine v_bipush d12_less_52 kb_9 ?_
        refine v_callV1i d12_less_54 (mc12_refuse (9 : Int32) t8) yv12_refuse mlX12_265 (Recv.obj ic_0 rfl) (by decide) (Nat.le_of_ble_eq_true rfl) fun r11 t12 => ?_
        exact v_iret d12_less_57 rfl rfl rfl
    · refine v_aload_n d12_less_36 0 rfl rfl ?_
      refine v_iconst d12_less_37 ki_5 ?_
      refine v_callV1i d12_less_38 (mc12_refuse (5 : Int32) t6) yv12_refuse mlX12_265 (Recv.obj ic_0 rfl) (by decide) (Nat.le_of_ble_eq_true rfl) fun r13 t14 => ?_
      exact v_iret d12_less_41 rfl rfl rfl
  · refine v_aload_n d12_less_18 0 rfl rfl ?_
    refine v_iconst d12_less_19 ki_2 ?_
    refine v_callV1i d12_less_20 (mc12_refuse (2 : Int32) t4) yv12_refuse mlX12_265 (Recv.obj ic_0 rfl) (by decide) (Nat.le_of_ble_eq_true rfl) fun r15 t16 => ?_
    exact v_iret d12_less_23 rfl rfl rfl
theorem d12_spending_0 : decode cX12_spending 0 = .ok (.iload_n 1, 1) := by decide +kernel
theorem d12_spending_1 : decode cX12_spending 1 = .ok (.ifCond .ne 16, 3) := by decide +kernel
theorem d12_spending_4 : decode cX12_spending 4 = .ok (.aload_n 0, 1) := by decide +kernel
theorem d12_spending_5 : decode cX12_spending 5 = .ok (.getfield 35, 3) := by decide +kernel
theorem d12_spending_8 : decode cX12_spending 8 = .ok (.iconst 3, 1) := by decide +kernel
theorem d12_spending_9 : decode cX12_spending 9 = .ok (.iaload, 1) := by decide +kernel
theorem d12_spending_10 : decode cX12_spending 10 = .ok (.ifCond .le 7, 3) := by decide +kernel
theorem d12_spending_13 : decode cX12_spending 13 = .ok (.iconst (-1), 1) := by decide +kernel
theorem d12_spending_14 : decode cX12_spending 14 = .ok (.goto 22, 3) := by decide +kernel
theorem d12_spending_17 : decode cX12_spending 17 = .ok (.iload_n 1, 1) := by decide +kernel
theorem d12_spending_18 : decode cX12_spending 18 = .ok (.iconst 1, 1) := by decide +kernel
theorem d12_spending_19 : decode cX12_spending 19 = .ok (.if_icmp .ne 16, 3) := by decide +kernel
theorem d12_spending_22 : decode cX12_spending 22 = .ok (.aload_n 0, 1) := by decide +kernel
theorem d12_spending_23 : decode cX12_spending 23 = .ok (.getfield 35, 3) := by decide +kernel
theorem d12_spending_26 : decode cX12_spending 26 = .ok (.iconst 3, 1) := by decide +kernel
theorem d12_spending_27 : decode cX12_spending 27 = .ok (.iaload, 1) := by decide +kernel
theorem d12_spending_28 : decode cX12_spending 28 = .ok (.ifCond .ge 7, 3) := by decide +kernel
theorem d12_spending_31 : decode cX12_spending 31 = .ok (.iconst 1, 1) := by decide +kernel
theorem d12_spending_32 : decode cX12_spending 32 = .ok (.goto 4, 3) := by decide +kernel
theorem d12_spending_35 : decode cX12_spending 35 = .ok (.iconst 0, 1) := by decide +kernel
theorem d12_spending_36 : decode cX12_spending 36 = .ok (.ireturn, 1) := by decide +kernel
abbrev K12_spending : CK Int32 := (enI, (some .int), 2, 1, none)
noncomputable def F12_spending_b17 (l1 : Int32) (σ : Ms) : Option (Int32 × Ms) :=
  if l1 ≠ (1 : Int32) then (some ((0 : Int32), σ))
  else (ck (ixb (3 : Int32) 1780) (if 0 ≤ (σ.1 5 (3 : Int32).toNatClampNeg) then (some ((0 : Int32), σ))
  else (some ((1 : Int32), σ))))
noncomputable def F12_spending (p0 : Int32) (σ : Ms) : Option (Int32 × Ms) :=
  if p0 ≠ 0 then (F12_spending_b17 p0 σ)
  else (ck (ixb (3 : Int32) 1780) (if (σ.1 5 (3 : Int32).toNatClampNeg) ≤ 0 then (F12_spending_b17 p0 σ)
  else (some ((-1 : Int32), σ))))
set_option maxRecDepth 100000 in
theorem v12_spending_b17 (l1 : Int32) (σ : Ms) : VF (K12_spending) cX12_spending RX12 (F12_spending_b17 l1 σ) σ 17 [(0, .ref 0), (1, .int l1)] [] := by
  unfold F12_spending_b17
  refine v_iload_n d12_spending_17 1 rfl rfl ?_
  refine v_iconst d12_spending_18 ki_1 ?_
  refine v_icmp_ne (tgt := 35) d12_spending_19 (by decide) ?_ ?_
  · refine v_iconst d12_spending_35 ki_0 ?_
    exact v_iret d12_spending_36 rfl rfl rfl
  · refine v_aload_n d12_spending_22 0 rfl rfl ?_
    refine v_getR d12_spending_23 faX12_35 ic_0 rfl ?_
    refine v_iconst d12_spending_26 ki_3 ?_
    refine v_iald d12_spending_27 ic_5 ?_
    refine v_if_ge (tgt := 35) d12_spending_28 (by decide) ?_ ?_
    · refine v_iconst d12_spending_35 ki_0 ?_
      exact v_iret d12_spending_36 rfl rfl rfl
    · refine v_iconst d12_spending_31 ki_1 ?_
      refine v_goto (tgt := 36) d12_spending_32 (by decide) ?_
      exact v_iret d12_spending_36 rfl rfl rfl
set_option maxRecDepth 100000 in
theorem mc12_spending (p0 : Int32) (σ : Ms) : MC enI yX12_spending cX12_spending 2 (some .int) 1 (F12_spending p0 σ) σ [.ref 0, .int p0] := by
  refine MC.i (by decide +kernel) (Nat.le_of_ble_eq_true rfl) ?_
  show VF (K12_spending) cX12_spending RX12 (F12_spending p0 σ) σ 0 [(0, .ref 0), (1, .int p0)] []
  unfold F12_spending
  refine v_iload_n d12_spending_0 1 rfl rfl ?_
  refine v_if_ne (tgt := 17) d12_spending_1 (by decide) ?_ ?_
  · exact v12_spending_b17 p0 σ
  · refine v_aload_n d12_spending_4 0 rfl rfl ?_
    refine v_getR d12_spending_5 faX12_35 ic_0 rfl ?_
    refine v_iconst d12_spending_8 ki_3 ?_
    refine v_iald d12_spending_9 ic_5 ?_
    refine v_if_le (tgt := 17) d12_spending_10 (by decide) ?_ ?_
    · exact v12_spending_b17 p0 σ
    · refine v_iconst d12_spending_13 ki_m1 ?_
      refine v_goto (tgt := 36) d12_spending_14 (by decide) ?_
      exact v_iret d12_spending_36 rfl rfl rfl
theorem d12_spend_0 : decode cX12_spend 0 = .ok (.aload_n 0, 1) := by decide +kernel
theorem d12_spend_1 : decode cX12_spend 1 = .ok (.iconst 0, 1) := by decide +kernel
theorem d12_spend_2 : decode cX12_spend 2 = .ok (.putfield 53, 3) := by decide +kernel
theorem d12_spend_5 : decode cX12_spend 5 = .ok (.aload_n 0, 1) := by decide +kernel
theorem d12_spend_6 : decode cX12_spend 6 = .ok (.iconst 0, 1) := by decide +kernel
theorem d12_spend_7 : decode cX12_spend 7 = .ok (.putfield 56, 3) := by decide +kernel
theorem d12_spend_10 : decode cX12_spend 10 = .ok (.iload_n 1, 1) := by decide +kernel
theorem d12_spend_11 : decode cX12_spend 11 = .ok (.invokestatic 297, 3) := by decide +kernel
theorem d12_spend_14 : decode cX12_spend 14 = .ok (.ifCond .ne 9, 3) := by decide +kernel
theorem d12_spend_17 : decode cX12_spend 17 = .ok (.aload_n 0, 1) := by decide +kernel
theorem d12_spend_18 : decode cX12_spend 18 = .ok (.iconst 2, 1) := by decide +kernel
theorem d12_spend_19 : decode cX12_spend 19 = .ok (.invokevirtual 265, 3) := by decide +kernel
theorem d12_spend_22 : decode cX12_spend 22 = .ok (.ireturn, 1) := by decide +kernel
theorem d12_spend_23 : decode cX12_spend 23 = .ok (.aload_n 0, 1) := by decide +kernel
theorem d12_spend_24 : decode cX12_spend 24 = .ok (.iload_n 1, 1) := by decide +kernel
theorem d12_spend_25 : decode cX12_spend 25 = .ok (.invokevirtual 352, 3) := by decide +kernel
theorem d12_spend_28 : decode cX12_spend 28 = .ok (.ifCond .ne 10, 3) := by decide +kernel
theorem d12_spend_31 : decode cX12_spend 31 = .ok (.aload_n 0, 1) := by decide +kernel
theorem d12_spend_32 : decode cX12_spend 32 = .ok (.bipush 9, 2) := by decide +kernel
theorem d12_spend_34 : decode cX12_spend 34 = .ok (.invokevirtual 265, 3) := by decide +kernel
theorem d12_spend_37 : decode cX12_spend 37 = .ok (.ireturn, 1) := by decide +kernel
theorem d12_spend_38 : decode cX12_spend 38 = .ok (.aload_n 0, 1) := by decide +kernel
theorem d12_spend_39 : decode cX12_spend 39 = .ok (.getfield 35, 3) := by decide +kernel
theorem d12_spend_42 : decode cX12_spend 42 = .ok (.iconst 3, 1) := by decide +kernel
theorem d12_spend_43 : decode cX12_spend 43 = .ok (.dup2, 1) := by decide +kernel
theorem d12_spend_44 : decode cX12_spend 44 = .ok (.iaload, 1) := by decide +kernel
theorem d12_spend_45 : decode cX12_spend 45 = .ok (.aload_n 0, 1) := by decide +kernel
theorem d12_spend_46 : decode cX12_spend 46 = .ok (.iload_n 1, 1) := by decide +kernel
theorem d12_spend_47 : decode cX12_spend 47 = .ok (.invokevirtual 352, 3) := by decide +kernel
theorem d12_spend_50 : decode cX12_spend 50 = .ok (.iadd, 1) := by decide +kernel
theorem d12_spend_51 : decode cX12_spend 51 = .ok (.iastore, 1) := by decide +kernel
theorem d12_spend_52 : decode cX12_spend 52 = .ok (.aload_n 0, 1) := by decide +kernel
theorem d12_spend_53 : decode cX12_spend 53 = .ok (.getfield 35, 3) := by decide +kernel
theorem d12_spend_56 : decode cX12_spend 56 = .ok (.iconst 3, 1) := by decide +kernel
theorem d12_spend_57 : decode cX12_spend 57 = .ok (.iaload, 1) := by decide +kernel
theorem d12_spend_58 : decode cX12_spend 58 = .ok (.ireturn, 1) := by decide +kernel
abbrev K12_spend : CK Int32 := (enI, (some .int), 2, 2, none)
noncomputable def F12_spend (p0 : Int32) (σ : Ms) : Option (Int32 × Ms) :=
  lt (sI σ 0 1 (0 : Int32)) (fun t1 => lt (sI t1 0 0 (0 : Int32)) (fun t2 => bn (F12_isSideAt p0 t2) (fun r3 t4 => if r3 ≠ 0 then (bn (F12_spending p0 t4) (fun r5 t6 => if r5 ≠ 0 then (ck (ixb (3 : Int32) 1780) (bn (F12_spending p0 t6) (fun r7 t8 => ck (ixb (3 : Int32) 1780) (lt (sI t8 5 (3 : Int32).toNatClampNeg ((t6.1 5 (3 : Int32).toNatClampNeg) + r7)) (fun t9 => ck (ixb (3 : Int32) 1780) (some ((t9.1 5 (3 : Int32).toNatClampNeg), t9)))))))
  else (bn (F12_refuse (9 : Int32) t6) (fun r10 t11 => some (r10, t11)))))
  else (bn (F12_refuse (2 : Int32) t4) (fun r12 t13 => some (r12, t13))))))
set_option maxRecDepth 100000 in
theorem mc12_spend (p0 : Int32) (σ : Ms) : MC enI yX12_spend cX12_spend 2 (some .int) 2 (F12_spend p0 σ) σ [.ref 0, .int p0] := by
  refine MC.i (by decide +kernel) (Nat.le_of_ble_eq_true rfl) ?_
  show VF (K12_spend) cX12_spend RX12 (F12_spend p0 σ) σ 0 [(0, .ref 0), (1, .int p0)] []
  unfold F12_spend
  refine v_aload_n d12_spend_0 0 rfl rfl ?_
  refine v_iconst d12_spend_1 ki_0 ?_
  refine v_putI d12_spend_2 faX12_53 fp9_1 ic_0 ?_
  refine v_lts fun t1 => ?_
  refine v_aload_n d12_spend_5 0 rfl rfl ?_
  refine v_iconst d12_spend_6 ki_0 ?_
  refine v_putI d12_spend_7 faX12_56 fp9_0 ic_0 ?_
  refine v_lts fun t2 => ?_
  refine v_iload_n d12_spend_10 1 rfl rfl ?_
  refine v_callS1i d12_spend_11 (mc12_isSideAt p0 t2) ys12_isSideAt mlX12_297 (by decide) (Nat.le_of_ble_eq_true rfl) fun r3 t4 => ?_
  refine v_if_ne (tgt := 23) d12_spend_14 (by decide) ?_ ?_
  · refine v_aload_n d12_spend_23 0 rfl rfl ?_
    refine v_iload_n d12_spend_24 1 rfl rfl ?_
    refine v_callV1i d12_spend_25 (mc12_spending p0 t4) yv12_spending mlX12_352 (Recv.obj ic_0 rfl) (by decide) (Nat.le_of_ble_eq_true rfl) fun r5 t6 => ?_
    refine v_if_ne (tgt := 38) d12_spend_28 (by decide) ?_ ?_
    · refine v_aload_n d12_spend_38 0 rfl rfl ?_
      refine v_getR d12_spend_39 faX12_35 ic_0 rfl ?_
      refine v_iconst d12_spend_42 ki_3 ?_
      refine v_dup2_11 d12_spend_43 rfl rfl ?_
      refine v_iald d12_spend_44 ic_5 ?_
      refine v_aload_n d12_spend_45 0 rfl rfl ?_
      refine v_iload_n d12_spend_46 1 rfl rfl ?_
      refine v_callV1i d12_spend_47 (mc12_spending p0 t6) yv12_spending mlX12_352 (Recv.obj ic_0 rfl) (by decide) (Nat.le_of_ble_eq_true rfl) fun r7 t8 => ?_
      refine v_iadd d12_spend_50 ?_
      refine v_iast d12_spend_51 ic_5 ?_
      refine v_lts fun t9 => ?_
      refine v_aload_n d12_spend_52 0 rfl rfl ?_
      refine v_getR d12_spend_53 faX12_35 ic_0 rfl ?_
      refine v_iconst d12_spend_56 ki_3 ?_
      refine v_iald d12_spend_57 ic_5 ?_
      exact v_iret d12_spend_58 rfl rfl rfl
    · refine v_aload_n d12_spend_31 0 rfl rfl ?_
      refine v_bipush d12_spend_32 kb_9 ?_
      refine v_callV1i d12_spend_34 (mc12_refuse (9 : Int32) t6) yv12_refuse mlX12_265 (Recv.obj ic_0 rfl) (by decide) (Nat.le_of_ble_eq_true rfl) fun r10 t11 => ?_
      exact v_iret d12_spend_37 rfl rfl rfl
  · refine v_aload_n d12_spend_17 0 rfl rfl ?_
    refine v_iconst d12_spend_18 ki_2 ?_
    refine v_callV1i d12_spend_19 (mc12_refuse (2 : Int32) t4) yv12_refuse mlX12_265 (Recv.obj ic_0 rfl) (by decide) (Nat.le_of_ble_eq_true rfl) fun r12 t13 => ?_
    exact v_iret d12_spend_22 rfl rfl rfl
theorem d12_canGrow_0 : decode cX12_canGrow 0 = .ok (.iload_n 2, 1) := by decide +kernel
theorem d12_canGrow_1 : decode cX12_canGrow 1 = .ok (.ifCond .lt 26, 3) := by decide +kernel
theorem d12_canGrow_4 : decode cX12_canGrow 4 = .ok (.aload_n 0, 1) := by decide +kernel
theorem d12_canGrow_5 : decode cX12_canGrow 5 = .ok (.getfield 35, 3) := by decide +kernel
theorem d12_canGrow_8 : decode cX12_canGrow 8 = .ok (.bipush 45, 2) := by decide +kernel
theorem d12_canGrow_10 : decode cX12_canGrow 10 = .ok (.iload_n 2, 1) := by decide +kernel
theorem d12_canGrow_11 : decode cX12_canGrow 11 = .ok (.iadd, 1) := by decide +kernel
theorem d12_canGrow_12 : decode cX12_canGrow 12 = .ok (.iaload, 1) := by decide +kernel
theorem d12_canGrow_13 : decode cX12_canGrow 13 = .ok (.iconst 1, 1) := by decide +kernel
theorem d12_canGrow_14 : decode cX12_canGrow 14 = .ok (.if_icmp .ne 17, 3) := by decide +kernel
theorem d12_canGrow_17 : decode cX12_canGrow 17 = .ok (.aload_n 0, 1) := by decide +kernel
theorem d12_canGrow_18 : decode cX12_canGrow 18 = .ok (.iconst 0, 1) := by decide +kernel
theorem d12_canGrow_19 : decode cX12_canGrow 19 = .ok (.iload_n 1, 1) := by decide +kernel
theorem d12_canGrow_20 : decode cX12_canGrow 20 = .ok (.iload_n 2, 1) := by decide +kernel
theorem d12_canGrow_21 : decode cX12_canGrow 21 = .ok (.invokevirtual 192, 3) := by decide +kernel
theorem d12_canGrow_24 : decode cX12_canGrow 24 = .ok (.ifCond .eq 7, 3) := by decide +kernel
theorem d12_canGrow_27 : decode cX12_canGrow 27 = .ok (.iconst 1, 1) := by decide +kernel
theorem d12_canGrow_28 : decode cX12_canGrow 28 = .ok (.goto 4, 3) := by decide +kernel
theorem d12_canGrow_31 : decode cX12_canGrow 31 = .ok (.iconst 0, 1) := by decide +kernel
theorem d12_canGrow_32 : decode cX12_canGrow 32 = .ok (.ireturn, 1) := by decide +kernel
abbrev K12_canGrow : CK Int32 := (enI, (some .boolean), 3, 2, none)
noncomputable def F12_canGrow_b27 (σ : Ms) : Option (Int32 × Ms) :=
  some ((1 : Int32), σ)
noncomputable def F12_canGrow (p0 : Int32) (p1 : Int32) (σ : Ms) : Option (Int32 × Ms) :=
  if p1 < 0 then (F12_canGrow_b27 σ)
  else (ck (ixb ((45 : Int32) + p1) 1780) (if (σ.1 5 ((45 : Int32) + p1).toNatClampNeg) ≠ (1 : Int32) then (some ((0 : Int32), σ))
  else (bn (F12_mayGrow (0 : Int32) p0 p1 σ) (fun r1 t2 => if r1 = 0 then (some ((0 : Int32), t2))
  else (F12_canGrow_b27 t2)))))
set_option maxRecDepth 100000 in
theorem v12_canGrow_b27 (σ : Ms) : VF (K12_canGrow) cX12_canGrow RX12 (F12_canGrow_b27 σ) σ 27 [] [] := by
  unfold F12_canGrow_b27
  refine v_iconst d12_canGrow_27 ki_1 ?_
  refine v_goto (tgt := 32) d12_canGrow_28 (by decide) ?_
  exact v_iret (ty := .boolean) d12_canGrow_32 rfl rfl rfl
set_option maxRecDepth 100000 in
theorem mc12_canGrow (p0 : Int32) (p1 : Int32) (σ : Ms) : MC enI yX12_canGrow cX12_canGrow 3 (some .boolean) 2 (F12_canGrow p0 p1 σ) σ [.ref 0, .int p0, .int p1] := by
  refine MC.i (by decide +kernel) (Nat.le_of_ble_eq_true rfl) ?_
  show VF (K12_canGrow) cX12_canGrow RX12 (F12_canGrow p0 p1 σ) σ 0 [(0, .ref 0), (1, .int p0), (2, .int p1)] []
  unfold F12_canGrow
  refine v_iload_n d12_canGrow_0 2 rfl rfl ?_
  refine v_if_lt (tgt := 27) d12_canGrow_1 (by decide) ?_ ?_
  · refine v_sub [] rfl ?_
    exact v12_canGrow_b27 σ
  · refine v_aload_n d12_canGrow_4 0 rfl rfl ?_
    refine v_getR d12_canGrow_5 faX12_35 ic_0 rfl ?_
    refine v_bipush d12_canGrow_8 kb_45 ?_
    refine v_iload_n d12_canGrow_10 2 rfl rfl ?_
    refine v_iadd d12_canGrow_11 ?_
    refine v_iald d12_canGrow_12 ic_5 ?_
    refine v_iconst d12_canGrow_13 ki_1 ?_
    refine v_icmp_ne (tgt := 31) d12_canGrow_14 (by decide) ?_ ?_
    · refine v_iconst d12_canGrow_31 ki_0 ?_
      exact v_iret (ty := .boolean) d12_canGrow_32 rfl rfl rfl
    · refine v_aload_n d12_canGrow_17 0 rfl rfl ?_
      refine v_iconst d12_canGrow_18 ki_0 ?_
      refine v_iload_n d12_canGrow_19 1 rfl rfl ?_
      refine v_iload_n d12_canGrow_20 2 rfl rfl ?_
      refine v_callV3i d12_canGrow_21 (mc12_mayGrow (0 : Int32) p0 p1 σ) yv12_mayGrow mlX12_192 (Recv.obj ic_0 rfl) (by decide) (Nat.le_of_ble_eq_true rfl) fun r1 t2 => ?_
      refine v_if_eq (tgt := 31) d12_canGrow_24 (by decide) ?_ ?_
      · refine v_iconst d12_canGrow_31 ki_0 ?_
        exact v_iret (ty := .boolean) d12_canGrow_32 rfl rfl rfl
      · refine v_sub [] rfl ?_
        exact v12_canGrow_b27 t2
theorem d12_grow_0 : decode cX12_grow 0 = .ok (.aload_n 0, 1) := by decide +kernel
theorem d12_grow_1 : decode cX12_grow 1 = .ok (.iconst 0, 1) := by decide +kernel
theorem d12_grow_2 : decode cX12_grow 2 = .ok (.putfield 53, 3) := by decide +kernel
theorem d12_grow_5 : decode cX12_grow 5 = .ok (.aload_n 0, 1) := by decide +kernel
theorem d12_grow_6 : decode cX12_grow 6 = .ok (.iconst 0, 1) := by decide +kernel
theorem d12_grow_7 : decode cX12_grow 7 = .ok (.putfield 56, 3) := by decide +kernel
theorem d12_grow_10 : decode cX12_grow 10 = .ok (.iload_n 2, 1) := by decide +kernel
theorem d12_grow_11 : decode cX12_grow 11 = .ok (.i2l, 1) := by decide +kernel
theorem d12_grow_12 : decode cX12_grow 12 = .ok (.ldc2_w 84, 3) := by decide +kernel
theorem d12_grow_15 : decode cX12_grow 15 = .ok (.aload_n 0, 1) := by decide +kernel
theorem d12_grow_16 : decode cX12_grow 16 = .ok (.getfield 35, 3) := by decide +kernel
theorem d12_grow_19 : decode cX12_grow 19 = .ok (.iconst 0, 1) := by decide +kernel
theorem d12_grow_20 : decode cX12_grow 20 = .ok (.iaload, 1) := by decide +kernel
theorem d12_grow_21 : decode cX12_grow 21 = .ok (.iconst 1, 1) := by decide +kernel
theorem d12_grow_22 : decode cX12_grow 22 = .ok (.isub, 1) := by decide +kernel
theorem d12_grow_23 : decode cX12_grow 23 = .ok (.i2l, 1) := by decide +kernel
theorem d12_grow_24 : decode cX12_grow 24 = .ok (.invokestatic 88, 3) := by decide +kernel
theorem d12_grow_27 : decode cX12_grow 27 = .ok (.ifCond .ne 9, 3) := by decide +kernel
theorem d12_grow_30 : decode cX12_grow 30 = .ok (.aload_n 0, 1) := by decide +kernel
theorem d12_grow_31 : decode cX12_grow 31 = .ok (.iconst 2, 1) := by decide +kernel
theorem d12_grow_32 : decode cX12_grow 32 = .ok (.invokevirtual 265, 3) := by decide +kernel
theorem d12_grow_35 : decode cX12_grow 35 = .ok (.ireturn, 1) := by decide +kernel
theorem d12_grow_36 : decode cX12_grow 36 = .ok (.iload_n 1, 1) := by decide +kernel
theorem d12_grow_37 : decode cX12_grow 37 = .ok (.i2l, 1) := by decide +kernel
theorem d12_grow_38 : decode cX12_grow 38 = .ok (.lconst 0, 1) := by decide +kernel
theorem d12_grow_39 : decode cX12_grow 39 = .ok (.ldc2_w 355, 3) := by decide +kernel
theorem d12_grow_42 : decode cX12_grow 42 = .ok (.invokestatic 88, 3) := by decide +kernel
theorem d12_grow_45 : decode cX12_grow 45 = .ok (.ifCond .ne 9, 3) := by decide +kernel
theorem d12_grow_48 : decode cX12_grow 48 = .ok (.aload_n 0, 1) := by decide +kernel
theorem d12_grow_49 : decode cX12_grow 49 = .ok (.iconst 5, 1) := by decide +kernel
theorem d12_grow_50 : decode cX12_grow 50 = .ok (.invokevirtual 265, 3) := by decide +kernel
theorem d12_grow_53 : decode cX12_grow 53 = .ok (.ireturn, 1) := by decide +kernel
theorem d12_grow_54 : decode cX12_grow 54 = .ok (.aload_n 0, 1) := by decide +kernel
theorem d12_grow_55 : decode cX12_grow 55 = .ok (.getfield 35, 3) := by decide +kernel
theorem d12_grow_58 : decode cX12_grow 58 = .ok (.iconst 0, 1) := by decide +kernel
theorem d12_grow_59 : decode cX12_grow 59 = .ok (.iaload, 1) := by decide +kernel
theorem d12_grow_60 : decode cX12_grow 60 = .ok (.bipush 20, 2) := by decide +kernel
theorem d12_grow_62 : decode cX12_grow 62 = .ok (.if_icmp .ne 10, 3) := by decide +kernel
theorem d12_grow_65 : decode cX12_grow 65 = .ok (.aload_n 0, 1) := by decide +kernel
theorem d12_grow_66 : decode cX12_grow 66 = .ok (.bipush 7, 2) := by decide +kernel
theorem d12_grow_68 : decode cX12_grow 68 = .ok (.invokevirtual 265, 3) := by decide +kernel
theorem d12_grow_71 : decode cX12_grow 71 = .ok (.ireturn, 1) := by decide +kernel
theorem d12_grow_72 : decode cX12_grow 72 = .ok (.aload_n 0, 1) := by decide +kernel
theorem d12_grow_73 : decode cX12_grow 73 = .ok (.iload_n 1, 1) := by decide +kernel
theorem d12_grow_74 : decode cX12_grow 74 = .ok (.iload_n 2, 1) := by decide +kernel
theorem d12_grow_75 : decode cX12_grow 75 = .ok (.invokevirtual 357, 3) := by decide +kernel
theorem d12_grow_78 : decode cX12_grow 78 = .ok (.ifCond .ne 10, 3) := by decide +kernel
theorem d12_grow_81 : decode cX12_grow 81 = .ok (.aload_n 0, 1) := by decide +kernel
theorem d12_grow_82 : decode cX12_grow 82 = .ok (.bipush 9, 2) := by decide +kernel
theorem d12_grow_84 : decode cX12_grow 84 = .ok (.invokevirtual 265, 3) := by decide +kernel
theorem d12_grow_87 : decode cX12_grow 87 = .ok (.ireturn, 1) := by decide +kernel
theorem d12_grow_88 : decode cX12_grow 88 = .ok (.aload_n 0, 1) := by decide +kernel
theorem d12_grow_89 : decode cX12_grow 89 = .ok (.iconst 0, 1) := by decide +kernel
theorem d12_grow_90 : decode cX12_grow 90 = .ok (.iload_n 1, 1) := by decide +kernel
theorem d12_grow_91 : decode cX12_grow 91 = .ok (.iload_n 2, 1) := by decide +kernel
theorem d12_grow_92 : decode cX12_grow 92 = .ok (.invokevirtual 199, 3) := by decide +kernel
theorem d12_grow_95 : decode cX12_grow 95 = .ok (.aload_n 0, 1) := by decide +kernel
theorem d12_grow_96 : decode cX12_grow 96 = .ok (.getfield 35, 3) := by decide +kernel
theorem d12_grow_99 : decode cX12_grow 99 = .ok (.iconst 0, 1) := by decide +kernel
theorem d12_grow_100 : decode cX12_grow 100 = .ok (.iaload, 1) := by decide +kernel
theorem d12_grow_101 : decode cX12_grow 101 = .ok (.iconst 1, 1) := by decide +kernel
theorem d12_grow_102 : decode cX12_grow 102 = .ok (.isub, 1) := by decide +kernel
theorem d12_grow_103 : decode cX12_grow 103 = .ok (.ireturn, 1) := by decide +kernel
abbrev K12_grow : CK Int32 := (enI, (some .int), 3, 3, none)
noncomputable def F12_grow (p0 : Int32) (p1 : Int32) (σ : Ms) : Option (Int32 × Ms) :=
  lt (sI σ 0 1 (0 : Int32)) (fun t1 => lt (sI t1 0 0 (0 : Int32)) (fun t2 => ck (ixb (0 : Int32) 1780) (bn (F12_isIn (p1.toInt64) (-1 : Int64) (((t2.1 5 (0 : Int32).toNatClampNeg) - (1 : Int32)).toInt64) t2) (fun r3 t4 => if r3 ≠ 0 then (bn (F12_isIn (p0.toInt64) (0 : Int64) (2 : Int64) t4) (fun r5 t6 => if r5 ≠ 0 then (ck (ixb (0 : Int32) 1780) (if (t6.1 5 (0 : Int32).toNatClampNeg) ≠ (20 : Int32) then (bn (F12_canGrow p0 p1 t6) (fun r7 t8 => if r7 ≠ 0 then (bn (F12_grows (0 : Int32) p0 p1 t8) (fun r9 t10 => ck (ixb (0 : Int32) 1780) (some (((t10.1 5 (0 : Int32).toNatClampNeg) - (1 : Int32)), t10))))
  else (bn (F12_refuse (9 : Int32) t8) (fun r11 t12 => some (r11, t12)))))
  else (bn (F12_refuse (7 : Int32) t6) (fun r13 t14 => some (r13, t14)))))
  else (bn (F12_refuse (5 : Int32) t6) (fun r15 t16 => some (r15, t16)))))
  else (bn (F12_refuse (2 : Int32) t4) (fun r17 t18 => some (r17, t18)))))))
set_option maxRecDepth 100000 in
theorem mc12_grow (p0 : Int32) (p1 : Int32) (σ : Ms) : MC enI yX12_grow cX12_grow 3 (some .int) 3 (F12_grow p0 p1 σ) σ [.ref 0, .int p0, .int p1] := by
  refine MC.i (by decide +kernel) (Nat.le_of_ble_eq_true rfl) ?_
  show VF (K12_grow) cX12_grow RX12 (F12_grow p0 p1 σ) σ 0 [(0, .ref 0), (1, .int p0), (2, .int p1)] []
  unfold F12_grow
  refine v_aload_n d12_grow_0 0 rfl rfl ?_
  refine v_iconst d12_grow_1 ki_0 ?_
  refine v_putI d12_grow_2 faX12_53 fp9_1 ic_0 ?_
  refine v_lts fun t1 => ?_
  refine v_aload_n d12_grow_5 0 rfl rfl ?_
  refine v_iconst d12_grow_6 ki_0 ?_
  refine v_putI d12_grow_7 faX12_56 fp9_0 ic_0 ?_
  refine v_lts fun t2 => ?_
  refine v_iload_n d12_grow_10 2 rfl rfl ?_
  refine v_i2l d12_grow_11 ?_
  refine v_ldc2 d12_grow_12 klX12_84 ?_
  refine v_aload_n d12_grow_15 0 rfl rfl ?_
  refine v_getR d12_grow_16 faX12_35 ic_0 rfl ?_
  refine v_iconst d12_grow_19 ki_0 ?_
  refine v_iald d12_grow_20 ic_5 ?_
  refine v_iconst d12_grow_21 ki_1 ?_
  refine v_isub d12_grow_22 ?_
  refine v_i2l d12_grow_23 ?_
  refine v_callS3i d12_grow_24 (mc12_isIn (p1.toInt64) (-1 : Int64) (((t2.1 5 (0 : Int32).toNatClampNeg) - (1 : Int32)).toInt64) t2) ys12_isIn mlX12_88 (by decide) (Nat.le_of_ble_eq_true rfl) fun r3 t4 => ?_
  refine v_if_ne (tgt := 36) d12_grow_27 (by decide) ?_ ?_
  · refine v_iload_n d12_grow_36 1 rfl rfl ?_
    refine v_i2l d12_grow_37 ?_
    refine v_lconst d12_grow_38 kl_0 ?_
    refine v_ldc2 d12_grow_39 klX12_355 ?_
    refine v_callS3i d12_grow_42 (mc12_isIn (p0.toInt64) (0 : Int64) (2 : Int64) t4) ys12_isIn mlX12_88 (by decide) (Nat.le_of_ble_eq_true rfl) fun r5 t6 => ?_
    refine v_if_ne (tgt := 54) d12_grow_45 (by decide) ?_ ?_
    · refine v_aload_n d12_grow_54 0 rfl rfl ?_
      refine v_getR d12_grow_55 faX12_35 ic_0 rfl ?_
      refine v_iconst d12_grow_58 ki_0 ?_
      refine v_iald d12_grow_59 ic_5 ?_
      refine v_bipush d12_grow_60 kb_20 ?_
      refine v_icmp_ne (tgt := 72) d12_grow_62 (by decide) ?_ ?_
      · refine v_aload_n d12_grow_72 0 rfl rfl ?_
        refine v_iload_n d12_grow_73 1 rfl rfl ?_
        refine v_iload_n d12_grow_74 2 rfl rfl ?_
        refine v_callV2i d12_grow_75 (mc12_canGrow p0 p1 t6) yv12_canGrow mlX12_357 (Recv.obj ic_0 rfl) (by decide) (Nat.le_of_ble_eq_true rfl) fun r7 t8 => ?_
        refine v_if_ne (tgt := 88) d12_grow_78 (by decide) ?_ ?_
        · refine v_aload_n d12_grow_88 0 rfl rfl ?_
          refine v_iconst d12_grow_89 ki_0 ?_
          refine v_iload_n d12_grow_90 1 rfl rfl ?_
          refine v_iload_n d12_grow_91 2 rfl rfl ?_
          refine v_callV3v d12_grow_92 (mc12_grows (0 : Int32) p0 p1 t8) yv12_grows mlX12_199 (Recv.obj ic_0 rfl) (by decide) (Nat.le_of_ble_eq_true rfl) fun r9 t10 => ?_
          refine v_aload_n d12_grow_95 0 rfl rfl ?_
          refine v_getR d12_grow_96 faX12_35 ic_0 rfl ?_
          refine v_iconst d12_grow_99 ki_0 ?_
          refine v_iald d12_grow_100 ic_5 ?_
          refine v_iconst d12_grow_101 ki_1 ?_
          refine v_isub d12_grow_102 ?_
          exact v_iret d12_grow_103 rfl rfl rfl
        · refine v_aload_n d12_grow_81 0 rfl rfl ?_
          refine v_bipush d12_grow_82 kb_9 ?_
          refine v_callV1i d12_grow_84 (mc12_refuse (9 : Int32) t8) yv12_refuse mlX12_265 (Recv.obj ic_0 rfl) (by decide) (Nat.le_of_ble_eq_true rfl) fun r11 t12 => ?_
          exact v_iret d12_grow_87 rfl rfl rfl
      · refine v_aload_n d12_grow_65 0 rfl rfl ?_
        refine v_bipush d12_grow_66 kb_7 ?_
        refine v_callV1i d12_grow_68 (mc12_refuse (7 : Int32) t6) yv12_refuse mlX12_265 (Recv.obj ic_0 rfl) (by decide) (Nat.le_of_ble_eq_true rfl) fun r13 t14 => ?_
        exact v_iret d12_grow_71 rfl rfl rfl
    · refine v_aload_n d12_grow_48 0 rfl rfl ?_
      refine v_iconst d12_grow_49 ki_5 ?_
      refine v_callV1i d12_grow_50 (mc12_refuse (5 : Int32) t6) yv12_refuse mlX12_265 (Recv.obj ic_0 rfl) (by decide) (Nat.le_of_ble_eq_true rfl) fun r15 t16 => ?_
      exact v_iret d12_grow_53 rfl rfl rfl
  · refine v_aload_n d12_grow_30 0 rfl rfl ?_
    refine v_iconst d12_grow_31 ki_2 ?_
    refine v_callV1i d12_grow_32 (mc12_refuse (2 : Int32) t4) yv12_refuse mlX12_265 (Recv.obj ic_0 rfl) (by decide) (Nat.le_of_ble_eq_true rfl) fun r17 t18 => ?_
    exact v_iret d12_grow_35 rfl rfl rfl
theorem d12_paint_0 : decode cX12_paint 0 = .ok (.aload_n 0, 1) := by decide +kernel
theorem d12_paint_1 : decode cX12_paint 1 = .ok (.iconst 0, 1) := by decide +kernel
theorem d12_paint_2 : decode cX12_paint 2 = .ok (.putfield 53, 3) := by decide +kernel
theorem d12_paint_5 : decode cX12_paint 5 = .ok (.aload_n 0, 1) := by decide +kernel
theorem d12_paint_6 : decode cX12_paint 6 = .ok (.aload_n 0, 1) := by decide +kernel
theorem d12_paint_7 : decode cX12_paint 7 = .ok (.iload_n 1, 1) := by decide +kernel
theorem d12_paint_8 : decode cX12_paint 8 = .ok (.iconst 0, 1) := by decide +kernel
theorem d12_paint_9 : decode cX12_paint 9 = .ok (.invokevirtual 331, 3) := by decide +kernel
theorem d12_paint_12 : decode cX12_paint 12 = .ok (.putfield 56, 3) := by decide +kernel
theorem d12_paint_15 : decode cX12_paint 15 = .ok (.aload_n 0, 1) := by decide +kernel
theorem d12_paint_16 : decode cX12_paint 16 = .ok (.getfield 56, 3) := by decide +kernel
theorem d12_paint_19 : decode cX12_paint 19 = .ok (.ifCond .le 5, 3) := by decide +kernel
theorem d12_paint_22 : decode cX12_paint 22 = .ok (.iconst (-1), 1) := by decide +kernel
theorem d12_paint_23 : decode cX12_paint 23 = .ok (.ireturn, 1) := by decide +kernel
theorem d12_paint_24 : decode cX12_paint 24 = .ok (.aload_n 0, 1) := by decide +kernel
theorem d12_paint_25 : decode cX12_paint 25 = .ok (.getfield 35, 3) := by decide +kernel
theorem d12_paint_28 : decode cX12_paint 28 = .ok (.iconst 5, 1) := by decide +kernel
theorem d12_paint_29 : decode cX12_paint 29 = .ok (.iload_n 1, 1) := by decide +kernel
theorem d12_paint_30 : decode cX12_paint 30 = .ok (.iadd, 1) := by decide +kernel
theorem d12_paint_31 : decode cX12_paint 31 = .ok (.iconst 1, 1) := by decide +kernel
theorem d12_paint_32 : decode cX12_paint 32 = .ok (.aload_n 0, 1) := by decide +kernel
theorem d12_paint_33 : decode cX12_paint 33 = .ok (.getfield 35, 3) := by decide +kernel
theorem d12_paint_36 : decode cX12_paint 36 = .ok (.iconst 5, 1) := by decide +kernel
theorem d12_paint_37 : decode cX12_paint 37 = .ok (.iload_n 1, 1) := by decide +kernel
theorem d12_paint_38 : decode cX12_paint 38 = .ok (.iadd, 1) := by decide +kernel
theorem d12_paint_39 : decode cX12_paint 39 = .ok (.iaload, 1) := by decide +kernel
theorem d12_paint_40 : decode cX12_paint 40 = .ok (.isub, 1) := by decide +kernel
theorem d12_paint_41 : decode cX12_paint 41 = .ok (.iastore, 1) := by decide +kernel
theorem d12_paint_42 : decode cX12_paint 42 = .ok (.aload_n 0, 1) := by decide +kernel
theorem d12_paint_43 : decode cX12_paint 43 = .ok (.getfield 35, 3) := by decide +kernel
theorem d12_paint_46 : decode cX12_paint 46 = .ok (.iconst 5, 1) := by decide +kernel
theorem d12_paint_47 : decode cX12_paint 47 = .ok (.iload_n 1, 1) := by decide +kernel
theorem d12_paint_48 : decode cX12_paint 48 = .ok (.iadd, 1) := by decide +kernel
theorem d12_paint_49 : decode cX12_paint 49 = .ok (.iaload, 1) := by decide +kernel
theorem d12_paint_50 : decode cX12_paint 50 = .ok (.ireturn, 1) := by decide +kernel
abbrev K12_paint : CK Int32 := (enI, (some .int), 2, 4, none)
noncomputable def F12_paint (p0 : Int32) (σ : Ms) : Option (Int32 × Ms) :=
  lt (sI σ 0 1 (0 : Int32)) (fun t1 => bn (F12_whyNoBranch p0 (0 : Int32) t1) (fun r2 t3 => lt (sI t3 0 0 r2) (fun t4 => if (t4.1 0 0) ≤ 0 then (ck (ixb ((5 : Int32) + p0) 1780) (ck (ixb ((5 : Int32) + p0) 1780) (lt (sI t4 5 ((5 : Int32) + p0).toNatClampNeg ((1 : Int32) - (t4.1 5 ((5 : Int32) + p0).toNatClampNeg))) (fun t5 => ck (ixb ((5 : Int32) + p0) 1780) (some ((t5.1 5 ((5 : Int32) + p0).toNatClampNeg), t5))))))
  else (some ((-1 : Int32), t4)))))
set_option maxRecDepth 100000 in
theorem mc12_paint (p0 : Int32) (σ : Ms) : MC enI yX12_paint cX12_paint 2 (some .int) 4 (F12_paint p0 σ) σ [.ref 0, .int p0] := by
  refine MC.i (by decide +kernel) (Nat.le_of_ble_eq_true rfl) ?_
  show VF (K12_paint) cX12_paint RX12 (F12_paint p0 σ) σ 0 [(0, .ref 0), (1, .int p0)] []
  unfold F12_paint
  refine v_aload_n d12_paint_0 0 rfl rfl ?_
  refine v_iconst d12_paint_1 ki_0 ?_
  refine v_putI d12_paint_2 faX12_53 fp9_1 ic_0 ?_
  refine v_lts fun t1 => ?_
  refine v_aload_n d12_paint_5 0 rfl rfl ?_
  refine v_aload_n d12_paint_6 0 rfl rfl ?_
  refine v_iload_n d12_paint_7 1 rfl rfl ?_
  refine v_iconst d12_paint_8 ki_0 ?_
  refine v_callV2i d12_paint_9 (mc12_whyNoBranch p0 (0 : Int32) t1) yv12_whyNoBranch mlX12_331 (Recv.obj ic_0 rfl) (by decide) (Nat.le_of_ble_eq_true rfl) fun r2 t3 => ?_
  refine v_putI d12_paint_12 faX12_56 fp9_0 ic_0 ?_
  refine v_lts fun t4 => ?_
  refine v_aload_n d12_paint_15 0 rfl rfl ?_
  refine v_getI d12_paint_16 faX12_56 ic_0 ?_
  refine v_if_le (tgt := 24) d12_paint_19 (by decide) ?_ ?_
  · refine v_aload_n d12_paint_24 0 rfl rfl ?_
    refine v_getR d12_paint_25 faX12_35 ic_0 rfl ?_
    refine v_iconst d12_paint_28 ki_5 ?_
    refine v_iload_n d12_paint_29 1 rfl rfl ?_
    refine v_iadd d12_paint_30 ?_
    refine v_iconst d12_paint_31 ki_1 ?_
    refine v_aload_n d12_paint_32 0 rfl rfl ?_
    refine v_getR d12_paint_33 faX12_35 ic_0 rfl ?_
    refine v_iconst d12_paint_36 ki_5 ?_
    refine v_iload_n d12_paint_37 1 rfl rfl ?_
    refine v_iadd d12_paint_38 ?_
    refine v_iald d12_paint_39 ic_5 ?_
    refine v_isub d12_paint_40 ?_
    refine v_iast d12_paint_41 ic_5 ?_
    refine v_lts fun t5 => ?_
    refine v_aload_n d12_paint_42 0 rfl rfl ?_
    refine v_getR d12_paint_43 faX12_35 ic_0 rfl ?_
    refine v_iconst d12_paint_46 ki_5 ?_
    refine v_iload_n d12_paint_47 1 rfl rfl ?_
    refine v_iadd d12_paint_48 ?_
    refine v_iald d12_paint_49 ic_5 ?_
    exact v_iret d12_paint_50 rfl rfl rfl
  · refine v_iconst d12_paint_22 ki_m1 ?_
    exact v_iret d12_paint_23 rfl rfl rfl
theorem d12_pile_0 : decode cX12_pile 0 = .ok (.aload_n 0, 1) := by decide +kernel
theorem d12_pile_1 : decode cX12_pile 1 = .ok (.iconst 0, 1) := by decide +kernel
theorem d12_pile_2 : decode cX12_pile 2 = .ok (.putfield 53, 3) := by decide +kernel
theorem d12_pile_5 : decode cX12_pile 5 = .ok (.aload_n 0, 1) := by decide +kernel
theorem d12_pile_6 : decode cX12_pile 6 = .ok (.iconst 0, 1) := by decide +kernel
theorem d12_pile_7 : decode cX12_pile 7 = .ok (.putfield 56, 3) := by decide +kernel
theorem d12_pile_10 : decode cX12_pile 10 = .ok (.iload_n 1, 1) := by decide +kernel
theorem d12_pile_11 : decode cX12_pile 11 = .ok (.i2l, 1) := by decide +kernel
theorem d12_pile_12 : decode cX12_pile 12 = .ok (.lconst 0, 1) := by decide +kernel
theorem d12_pile_13 : decode cX12_pile 13 = .ok (.ldc2_w 347, 3) := by decide +kernel
theorem d12_pile_16 : decode cX12_pile 16 = .ok (.invokestatic 88, 3) := by decide +kernel
theorem d12_pile_19 : decode cX12_pile 19 = .ok (.ifCond .ne 9, 3) := by decide +kernel
theorem d12_pile_22 : decode cX12_pile 22 = .ok (.aload_n 0, 1) := by decide +kernel
theorem d12_pile_23 : decode cX12_pile 23 = .ok (.iconst 5, 1) := by decide +kernel
theorem d12_pile_24 : decode cX12_pile 24 = .ok (.invokevirtual 265, 3) := by decide +kernel
theorem d12_pile_27 : decode cX12_pile 27 = .ok (.ireturn, 1) := by decide +kernel
theorem d12_pile_28 : decode cX12_pile 28 = .ok (.aload_n 0, 1) := by decide +kernel
theorem d12_pile_29 : decode cX12_pile 29 = .ok (.getfield 35, 3) := by decide +kernel
theorem d12_pile_32 : decode cX12_pile 32 = .ok (.iconst 1, 1) := by decide +kernel
theorem d12_pile_33 : decode cX12_pile 33 = .ok (.iaload, 1) := by decide +kernel
theorem d12_pile_34 : decode cX12_pile 34 = .ok (.istore_n 2, 1) := by decide +kernel
theorem d12_pile_35 : decode cX12_pile 35 = .ok (.iload_n 2, 1) := by decide +kernel
theorem d12_pile_36 : decode cX12_pile 36 = .ok (.iconst 4, 1) := by decide +kernel
theorem d12_pile_37 : decode cX12_pile 37 = .ok (.if_icmp .ne 10, 3) := by decide +kernel
theorem d12_pile_40 : decode cX12_pile 40 = .ok (.aload_n 0, 1) := by decide +kernel
theorem d12_pile_41 : decode cX12_pile 41 = .ok (.bipush 7, 2) := by decide +kernel
theorem d12_pile_43 : decode cX12_pile 43 = .ok (.invokevirtual 265, 3) := by decide +kernel
theorem d12_pile_46 : decode cX12_pile 46 = .ok (.ireturn, 1) := by decide +kernel
theorem d12_pile_47 : decode cX12_pile 47 = .ok (.aload_n 0, 1) := by decide +kernel
theorem d12_pile_48 : decode cX12_pile 48 = .ok (.getfield 35, 3) := by decide +kernel
theorem d12_pile_51 : decode cX12_pile 51 = .ok (.bipush 65, 2) := by decide +kernel
theorem d12_pile_53 : decode cX12_pile 53 = .ok (.iload_n 2, 1) := by decide +kernel
theorem d12_pile_54 : decode cX12_pile 54 = .ok (.iadd, 1) := by decide +kernel
theorem d12_pile_55 : decode cX12_pile 55 = .ok (.iload_n 1, 1) := by decide +kernel
theorem d12_pile_56 : decode cX12_pile 56 = .ok (.iastore, 1) := by decide +kernel
theorem d12_pile_57 : decode cX12_pile 57 = .ok (.aload_n 0, 1) := by decide +kernel
theorem d12_pile_58 : decode cX12_pile 58 = .ok (.getfield 35, 3) := by decide +kernel
theorem d12_pile_61 : decode cX12_pile 61 = .ok (.iconst 1, 1) := by decide +kernel
theorem d12_pile_62 : decode cX12_pile 62 = .ok (.dup2, 1) := by decide +kernel
theorem d12_pile_63 : decode cX12_pile 63 = .ok (.iaload, 1) := by decide +kernel
theorem d12_pile_64 : decode cX12_pile 64 = .ok (.iconst 1, 1) := by decide +kernel
theorem d12_pile_65 : decode cX12_pile 65 = .ok (.iadd, 1) := by decide +kernel
theorem d12_pile_66 : decode cX12_pile 66 = .ok (.iastore, 1) := by decide +kernel
theorem d12_pile_67 : decode cX12_pile 67 = .ok (.iload_n 2, 1) := by decide +kernel
theorem d12_pile_68 : decode cX12_pile 68 = .ok (.ireturn, 1) := by decide +kernel
abbrev K12_pile : CK Int32 := (enI, (some .int), 3, 2, none)
noncomputable def F12_pile (p0 : Int32) (σ : Ms) : Option (Int32 × Ms) :=
  lt (sI σ 0 1 (0 : Int32)) (fun t1 => lt (sI t1 0 0 (0 : Int32)) (fun t2 => bn (F12_isIn (p0.toInt64) (0 : Int64) (15 : Int64) t2) (fun r3 t4 => if r3 ≠ 0 then (ck (ixb (1 : Int32) 1780) (lt (t4.1 5 (1 : Int32).toNatClampNeg) (fun x5 => if x5 ≠ (4 : Int32) then (ck (ixb ((65 : Int32) + x5) 1780) (lt (sI t4 5 ((65 : Int32) + x5).toNatClampNeg p0) (fun t6 => ck (ixb (1 : Int32) 1780) (ck (ixb (1 : Int32) 1780) (lt (sI t6 5 (1 : Int32).toNatClampNeg ((t6.1 5 (1 : Int32).toNatClampNeg) + (1 : Int32))) (fun t7 => some (x5, t7)))))))
  else (bn (F12_refuse (7 : Int32) t4) (fun r8 t9 => some (r8, t9))))))
  else (bn (F12_refuse (5 : Int32) t4) (fun r10 t11 => some (r10, t11))))))
set_option maxRecDepth 100000 in
theorem mc12_pile (p0 : Int32) (σ : Ms) : MC enI yX12_pile cX12_pile 3 (some .int) 2 (F12_pile p0 σ) σ [.ref 0, .int p0] := by
  refine MC.i (by decide +kernel) (Nat.le_of_ble_eq_true rfl) ?_
  show VF (K12_pile) cX12_pile RX12 (F12_pile p0 σ) σ 0 [(0, .ref 0), (1, .int p0)] []
  unfold F12_pile
  refine v_aload_n d12_pile_0 0 rfl rfl ?_
  refine v_iconst d12_pile_1 ki_0 ?_
  refine v_putI d12_pile_2 faX12_53 fp9_1 ic_0 ?_
  refine v_lts fun t1 => ?_
  refine v_aload_n d12_pile_5 0 rfl rfl ?_
  refine v_iconst d12_pile_6 ki_0 ?_
  refine v_putI d12_pile_7 faX12_56 fp9_0 ic_0 ?_
  refine v_lts fun t2 => ?_
  refine v_iload_n d12_pile_10 1 rfl rfl ?_
  refine v_i2l d12_pile_11 ?_
  refine v_lconst d12_pile_12 kl_0 ?_
  refine v_ldc2 d12_pile_13 klX12_347 ?_
  refine v_callS3i d12_pile_16 (mc12_isIn (p0.toInt64) (0 : Int64) (15 : Int64) t2) ys12_isIn mlX12_88 (by decide) (Nat.le_of_ble_eq_true rfl) fun r3 t4 => ?_
  refine v_if_ne (tgt := 28) d12_pile_19 (by decide) ?_ ?_
  · refine v_aload_n d12_pile_28 0 rfl rfl ?_
    refine v_getR d12_pile_29 faX12_35 ic_0 rfl ?_
    refine v_iconst d12_pile_32 ki_1 ?_
    refine v_iald d12_pile_33 ic_5 ?_
    refine v_lti fun x5 => ?_
    refine v_istore_n (lv' := [(2, .int x5), (0, .ref 0), (1, .int p0)]) d12_pile_34 rfl (by decide) rfl ?_
    refine v_iload_n d12_pile_35 0 rfl rfl ?_
    refine v_iconst d12_pile_36 ki_4 ?_
    refine v_icmp_ne (tgt := 47) d12_pile_37 (by decide) ?_ ?_
    · refine v_aload_n d12_pile_47 1 rfl rfl ?_
      refine v_getR d12_pile_48 faX12_35 ic_0 rfl ?_
      refine v_bipush d12_pile_51 kb_65 ?_
      refine v_iload_n d12_pile_53 0 rfl rfl ?_
      refine v_iadd d12_pile_54 ?_
      refine v_iload_n d12_pile_55 2 rfl rfl ?_
      refine v_iast d12_pile_56 ic_5 ?_
      refine v_lts fun t6 => ?_
      refine v_aload_n d12_pile_57 1 rfl rfl ?_
      refine v_getR d12_pile_58 faX12_35 ic_0 rfl ?_
      refine v_iconst d12_pile_61 ki_1 ?_
      refine v_dup2_11 d12_pile_62 rfl rfl ?_
      refine v_iald d12_pile_63 ic_5 ?_
      refine v_iconst d12_pile_64 ki_1 ?_
      refine v_iadd d12_pile_65 ?_
      refine v_iast d12_pile_66 ic_5 ?_
      refine v_lts fun t7 => ?_
      refine v_iload_n d12_pile_67 0 rfl rfl ?_
      exact v_iret d12_pile_68 rfl rfl rfl
    · refine v_aload_n d12_pile_40 1 rfl rfl ?_
      refine v_bipush d12_pile_41 kb_7 ?_
      refine v_callV1i d12_pile_43 (mc12_refuse (7 : Int32) t4) yv12_refuse mlX12_265 (Recv.obj ic_0 rfl) (by decide) (Nat.le_of_ble_eq_true rfl) fun r8 t9 => ?_
      exact v_iret d12_pile_46 rfl rfl rfl
  · refine v_aload_n d12_pile_22 0 rfl rfl ?_
    refine v_iconst d12_pile_23 ki_5 ?_
    refine v_callV1i d12_pile_24 (mc12_refuse (5 : Int32) t4) yv12_refuse mlX12_265 (Recv.obj ic_0 rfl) (by decide) (Nat.le_of_ble_eq_true rfl) fun r10 t11 => ?_
    exact v_iret d12_pile_27 rfl rfl rfl
