theorem d11_status_0 : decode cX11_status 0 = .ok (.aload_n 0, 1) := by decide +kernel
theorem d11_status_1 : decode cX11_status 1 = .ok (.getfield 96, 3) := by decide +kernel
theorem d11_status_4 : decode cX11_status 4 = .ok (.ireturn, 1) := by decide +kernel
abbrev K11_status : CK Int32 := (enI, (some .int), 1, 1, none)
noncomputable def F11_status (σ : Ms) : Option (Int32 × Ms) :=
  some ((σ.1 11 17), σ)
set_option maxRecDepth 100000 in
theorem mc11_status (σ : Ms) : MC enI yX11_status cX11_status 1 (some .int) 1 (F11_status σ) σ [.ref 11] := by
  refine MC.i (by decide +kernel) (Nat.le_of_ble_eq_true rfl) ?_
  show VF (K11_status) cX11_status RX11 (F11_status σ) σ 0 [(0, .ref 11)] []
  unfold F11_status
  refine v_aload_n d11_status_0 0 rfl rfl ?_
  refine v_getI d11_status_1 faX11_96 ic_11 ?_
  exact v_iret d11_status_4 rfl rfl rfl
theorem d11_top_0 : decode cX11_top 0 = .ok (.aload_n 0, 1) := by decide +kernel
theorem d11_top_1 : decode cX11_top 1 = .ok (.getfield 99, 3) := by decide +kernel
theorem d11_top_4 : decode cX11_top 4 = .ok (.lreturn, 1) := by decide +kernel
abbrev K11_top : CK Int64 := (enL, (some .long), 1, 1, none)
noncomputable def F11_top (σ : Ms) : Option (Int64 × Ms) :=
  some ((σ.2 11 18), σ)
set_option maxRecDepth 100000 in
theorem mc11_top (σ : Ms) : MC enL yX11_top cX11_top 1 (some .long) 1 (F11_top σ) σ [.ref 11] := by
  refine MC.l (by decide +kernel) (Nat.le_of_ble_eq_true rfl) ?_
  show VF (K11_top) cX11_top RX11 (F11_top σ) σ 0 [(0, .ref 11)] []
  unfold F11_top
  refine v_aload_n d11_top_0 0 rfl rfl ?_
  refine v_getL d11_top_1 faX11_99 ic_11 ?_
  exact v_lret d11_top_4 rfl rfl
theorem d11_bottom_0 : decode cX11_bottom 0 = .ok (.aload_n 0, 1) := by decide +kernel
theorem d11_bottom_1 : decode cX11_bottom 1 = .ok (.getfield 103, 3) := by decide +kernel
theorem d11_bottom_4 : decode cX11_bottom 4 = .ok (.lreturn, 1) := by decide +kernel
abbrev K11_bottom : CK Int64 := (enL, (some .long), 1, 1, none)
noncomputable def F11_bottom (σ : Ms) : Option (Int64 × Ms) :=
  some ((σ.2 11 19), σ)
set_option maxRecDepth 100000 in
theorem mc11_bottom (σ : Ms) : MC enL yX11_bottom cX11_bottom 1 (some .long) 1 (F11_bottom σ) σ [.ref 11] := by
  refine MC.l (by decide +kernel) (Nat.le_of_ble_eq_true rfl) ?_
  show VF (K11_bottom) cX11_bottom RX11 (F11_bottom σ) σ 0 [(0, .ref 11)] []
  unfold F11_bottom
  refine v_aload_n d11_bottom_0 0 rfl rfl ?_
  refine v_getL d11_bottom_1 faX11_103 ic_11 ?_
  exact v_lret d11_bottom_4 rfl rfl
theorem d11_no_0 : decode cX11_no 0 = .ok (.aload_n 0, 1) := by decide +kernel
theorem d11_no_1 : decode cX11_no 1 = .ok (.iload_n 1, 1) := by decide +kernel
theorem d11_no_2 : decode cX11_no 2 = .ok (.putfield 96, 3) := by decide +kernel
theorem d11_no_5 : decode cX11_no 5 = .ok (.iconst 0, 1) := by decide +kernel
theorem d11_no_6 : decode cX11_no 6 = .ok (.ireturn, 1) := by decide +kernel
abbrev K11_no : CK Int32 := (enI, (some .boolean), 2, 1, none)
noncomputable def F11_no (p0 : Int32) (σ : Ms) : Option (Int32 × Ms) :=
  lt (sI σ 11 17 p0) (fun t1 => some ((0 : Int32), t1))
set_option maxRecDepth 100000 in
theorem mc11_no (p0 : Int32) (σ : Ms) : MC enI yX11_no cX11_no 2 (some .boolean) 1 (F11_no p0 σ) σ [.ref 11, .int p0] := by
  refine MC.i (by decide +kernel) (Nat.le_of_ble_eq_true rfl) ?_
  show VF (K11_no) cX11_no RX11 (F11_no p0 σ) σ 0 [(0, .ref 11), (1, .int p0)] []
  unfold F11_no
  refine v_aload_n d11_no_0 0 rfl rfl ?_
  refine v_iload_n d11_no_1 1 rfl rfl ?_
  refine v_putI d11_no_2 faX11_96 fp8_17 ic_11 ?_
  refine v_lts fun t1 => ?_
  refine v_iconst d11_no_5 ki_0 ?_
  exact v_iret (ty := .boolean) d11_no_6 rfl rfl rfl
theorem d11_yes_0 : decode cX11_yes 0 = .ok (.aload_n 0, 1) := by decide +kernel
theorem d11_yes_1 : decode cX11_yes 1 = .ok (.iconst 0, 1) := by decide +kernel
theorem d11_yes_2 : decode cX11_yes 2 = .ok (.putfield 96, 3) := by decide +kernel
theorem d11_yes_5 : decode cX11_yes 5 = .ok (.iconst 1, 1) := by decide +kernel
theorem d11_yes_6 : decode cX11_yes 6 = .ok (.ireturn, 1) := by decide +kernel
abbrev K11_yes : CK Int32 := (enI, (some .boolean), 1, 1, none)
noncomputable def F11_yes (σ : Ms) : Option (Int32 × Ms) :=
  lt (sI σ 11 17 (0 : Int32)) (fun t1 => some ((1 : Int32), t1))
set_option maxRecDepth 100000 in
theorem mc11_yes (σ : Ms) : MC enI yX11_yes cX11_yes 1 (some .boolean) 1 (F11_yes σ) σ [.ref 11] := by
  refine MC.i (by decide +kernel) (Nat.le_of_ble_eq_true rfl) ?_
  show VF (K11_yes) cX11_yes RX11 (F11_yes σ) σ 0 [(0, .ref 11)] []
  unfold F11_yes
  refine v_aload_n d11_yes_0 0 rfl rfl ?_
  refine v_iconst d11_yes_1 ki_0 ?_
  refine v_putI d11_yes_2 faX11_96 fp8_17 ic_11 ?_
  refine v_lts fun t1 => ?_
  refine v_iconst d11_yes_5 ki_1 ?_
  exact v_iret (ty := .boolean) d11_yes_6 rfl rfl rfl
theorem d11_tray_0 : decode cX11_tray 0 = .ok (.iload_n 1, 1) := by decide +kernel
theorem d11_tray_1 : decode cX11_tray 1 = .ok (.invokestatic 106, 3) := by decide +kernel
theorem d11_tray_4 : decode cX11_tray 4 = .ok (.ifCond .eq 10, 3) := by decide +kernel
theorem d11_tray_7 : decode cX11_tray 7 = .ok (.iload_n 2, 1) := by decide +kernel
theorem d11_tray_8 : decode cX11_tray 8 = .ok (.invokestatic 110, 3) := by decide +kernel
theorem d11_tray_11 : decode cX11_tray 11 = .ok (.ifCond .ne 9, 3) := by decide +kernel
theorem d11_tray_14 : decode cX11_tray 14 = .ok (.aload_n 0, 1) := by decide +kernel
theorem d11_tray_15 : decode cX11_tray 15 = .ok (.iconst 1, 1) := by decide +kernel
theorem d11_tray_16 : decode cX11_tray 16 = .ok (.invokevirtual 113, 3) := by decide +kernel
theorem d11_tray_19 : decode cX11_tray 19 = .ok (.ireturn, 1) := by decide +kernel
theorem d11_tray_20 : decode cX11_tray 20 = .ok (.iload_n 3, 1) := by decide +kernel
theorem d11_tray_21 : decode cX11_tray 21 = .ok (.bipush 60, 2) := by decide +kernel
theorem d11_tray_23 : decode cX11_tray 23 = .ok (.if_icmp .le 9, 3) := by decide +kernel
theorem d11_tray_26 : decode cX11_tray 26 = .ok (.aload_n 0, 1) := by decide +kernel
theorem d11_tray_27 : decode cX11_tray 27 = .ok (.iconst 5, 1) := by decide +kernel
theorem d11_tray_28 : decode cX11_tray 28 = .ok (.invokevirtual 113, 3) := by decide +kernel
theorem d11_tray_31 : decode cX11_tray 31 = .ok (.ireturn, 1) := by decide +kernel
theorem d11_tray_32 : decode cX11_tray 32 = .ok (.iload_n 3, 1) := by decide +kernel
theorem d11_tray_33 : decode cX11_tray 33 = .ok (.ifCond .ge 10, 3) := by decide +kernel
theorem d11_tray_36 : decode cX11_tray 36 = .ok (.aload_n 0, 1) := by decide +kernel
theorem d11_tray_37 : decode cX11_tray 37 = .ok (.bipush 6, 2) := by decide +kernel
theorem d11_tray_39 : decode cX11_tray 39 = .ok (.invokevirtual 113, 3) := by decide +kernel
theorem d11_tray_42 : decode cX11_tray 42 = .ok (.ireturn, 1) := by decide +kernel
theorem d11_tray_43 : decode cX11_tray 43 = .ok (.aload_n 0, 1) := by decide +kernel
theorem d11_tray_44 : decode cX11_tray 44 = .ok (.getfield 12, 3) := by decide +kernel
theorem d11_tray_47 : decode cX11_tray 47 = .ok (.iload_n 1, 1) := by decide +kernel
theorem d11_tray_48 : decode cX11_tray 48 = .ok (.iload_n 2, 1) := by decide +kernel
theorem d11_tray_49 : decode cX11_tray 49 = .ok (.iload_n 3, 1) := by decide +kernel
theorem d11_tray_50 : decode cX11_tray 50 = .ok (.invokevirtual 116, 3) := by decide +kernel
theorem d11_tray_53 : decode cX11_tray 53 = .ok (.aload_n 0, 1) := by decide +kernel
theorem d11_tray_54 : decode cX11_tray 54 = .ok (.invokevirtual 120, 3) := by decide +kernel
theorem d11_tray_57 : decode cX11_tray 57 = .ok (.ireturn, 1) := by decide +kernel
abbrev K11_tray : CK Int32 := (enI, (some .boolean), 4, 3, none)
noncomputable def F11_tray_b14 (N : Nat) (σ : Ms) : Option (Int32 × Ms) :=
  bn (F11_no (1 : Int32) σ) (fun r1 t2 => ck (nkB r1) (some (r1, t2)))
noncomputable def F11_tray (N : Nat) (p0 : Int32) (p1 : Int32) (p2 : Int32) (σ : Ms) : Option (Int32 × Ms) :=
  bn (F9_isTray p0 σ) (fun r3 t4 => if r3 = 0 then (F11_tray_b14 N t4)
  else (bn (F9_isSort p1 t4) (fun r5 t6 => if r5 ≠ 0 then (if p2 ≤ (60 : Int32) then (if 0 ≤ p2 then (bn (F9_lay N p0 p1 p2 t6) (fun r7 t8 => bn (F11_yes t8) (fun r9 t10 => ck (nkB r9) (some (r9, t10)))))
  else (bn (F11_no (6 : Int32) t6) (fun r11 t12 => ck (nkB r11) (some (r11, t12)))))
  else (bn (F11_no (5 : Int32) t6) (fun r13 t14 => ck (nkB r13) (some (r13, t14)))))
  else (F11_tray_b14 N t6))))
set_option maxRecDepth 100000 in
theorem v11_tray_b14 (N : Nat) (σ : Ms) : VF (K11_tray) cX11_tray RX11 (F11_tray_b14 N σ) σ 14 [(0, .ref 11)] [] := by
  unfold F11_tray_b14
  refine v_aload_n d11_tray_14 0 rfl rfl ?_
  refine v_iconst d11_tray_15 ki_1 ?_
  refine v_callV1i d11_tray_16 (mc11_no (1 : Int32) σ) yv11_no mlX11_113 (Recv.obj ic_11 rfl) (by decide) (Nat.le_of_ble_eq_true rfl) fun r1 t2 => ?_
  exact v_iretB d11_tray_19 rfl rfl
set_option maxRecDepth 100000 in
theorem mc11_tray (N : Nat) (p0 : Int32) (p1 : Int32) (p2 : Int32) (σ : Ms) : MC enI yX11_tray cX11_tray 4 (some .boolean) 3 (F11_tray N p0 p1 p2 σ) σ [.ref 11, .int p0, .int p1, .int p2] := by
  refine MC.i (by decide +kernel) (Nat.le_of_ble_eq_true rfl) ?_
  show VF (K11_tray) cX11_tray RX11 (F11_tray N p0 p1 p2 σ) σ 0 [(0, .ref 11), (1, .int p0), (2, .int p1), (3, .int p2)] []
  unfold F11_tray
  refine v_iload_n d11_tray_0 1 rfl rfl ?_
  refine v_callS1i d11_tray_1 (mc9_isTray p0 σ) ys9_isTray mlX11_106 (by decide) (Nat.le_of_ble_eq_true rfl) fun r3 t4 => ?_
  refine v_if_eq (tgt := 14) d11_tray_4 (by decide) ?_ ?_
  · refine v_sub [0] rfl ?_
    exact v11_tray_b14 N t4
  · refine v_iload_n d11_tray_7 2 rfl rfl ?_
    refine v_callS1i d11_tray_8 (mc9_isSort p1 t4) ys9_isSort mlX11_110 (by decide) (Nat.le_of_ble_eq_true rfl) fun r5 t6 => ?_
    refine v_if_ne (tgt := 20) d11_tray_11 (by decide) ?_ ?_
    · refine v_iload_n d11_tray_20 3 rfl rfl ?_
      refine v_bipush d11_tray_21 kb_60 ?_
      refine v_icmp_le (tgt := 32) d11_tray_23 (by decide) ?_ ?_
      · refine v_iload_n d11_tray_32 3 rfl rfl ?_
        refine v_if_ge (tgt := 43) d11_tray_33 (by decide) ?_ ?_
        · refine v_aload_n d11_tray_43 0 rfl rfl ?_
          refine v_getR d11_tray_44 faX11_12 ic_11 rfl ?_
          refine v_iload_n d11_tray_47 1 rfl rfl ?_
          refine v_iload_n d11_tray_48 2 rfl rfl ?_
          refine v_iload_n d11_tray_49 3 rfl rfl ?_
          refine v_callV3v d11_tray_50 (mc9_lay N p0 p1 p2 t6) yv9_lay mlX11_116 (Recv.obj ic_12 rfl) (by decide) (Nat.le_of_ble_eq_true rfl) fun r7 t8 => ?_
          refine v_aload_n d11_tray_53 0 rfl rfl ?_
          refine v_callV0i d11_tray_54 (mc11_yes t8) yv11_yes mlX11_120 (Recv.obj ic_11 rfl) (by decide) (Nat.le_of_ble_eq_true rfl) fun r9 t10 => ?_
          exact v_iretB d11_tray_57 rfl rfl
        · refine v_aload_n d11_tray_36 0 rfl rfl ?_
          refine v_bipush d11_tray_37 kb_6 ?_
          refine v_callV1i d11_tray_39 (mc11_no (6 : Int32) t6) yv11_no mlX11_113 (Recv.obj ic_11 rfl) (by decide) (Nat.le_of_ble_eq_true rfl) fun r11 t12 => ?_
          exact v_iretB d11_tray_42 rfl rfl
      · refine v_aload_n d11_tray_26 0 rfl rfl ?_
        refine v_iconst d11_tray_27 ki_5 ?_
        refine v_callV1i d11_tray_28 (mc11_no (5 : Int32) t6) yv11_no mlX11_113 (Recv.obj ic_11 rfl) (by decide) (Nat.le_of_ble_eq_true rfl) fun r13 t14 => ?_
        exact v_iretB d11_tray_31 rfl rfl
    · refine v_sub [0] rfl ?_
      exact v11_tray_b14 N t6
theorem d11_placeStatus_0 : decode cX11_placeStatus 0 = .ok (.iload_n 1, 1) := by decide +kernel
theorem d11_placeStatus_1 : decode cX11_placeStatus 1 = .ok (.invokestatic 106, 3) := by decide +kernel
theorem d11_placeStatus_4 : decode cX11_placeStatus 4 = .ok (.ifCond .ne 5, 3) := by decide +kernel
theorem d11_placeStatus_7 : decode cX11_placeStatus 7 = .ok (.iconst 1, 1) := by decide +kernel
theorem d11_placeStatus_8 : decode cX11_placeStatus 8 = .ok (.ireturn, 1) := by decide +kernel
theorem d11_placeStatus_9 : decode cX11_placeStatus 9 = .ok (.aload_n 0, 1) := by decide +kernel
theorem d11_placeStatus_10 : decode cX11_placeStatus 10 = .ok (.getfield 12, 3) := by decide +kernel
theorem d11_placeStatus_13 : decode cX11_placeStatus 13 = .ok (.iload_n 1, 1) := by decide +kernel
theorem d11_placeStatus_14 : decode cX11_placeStatus 14 = .ok (.invokevirtual 140, 3) := by decide +kernel
theorem d11_placeStatus_17 : decode cX11_placeStatus 17 = .ok (.ifCond .eq 5, 3) := by decide +kernel
theorem d11_placeStatus_20 : decode cX11_placeStatus 20 = .ok (.iconst 3, 1) := by decide +kernel
theorem d11_placeStatus_21 : decode cX11_placeStatus 21 = .ok (.ireturn, 1) := by decide +kernel
theorem d11_placeStatus_22 : decode cX11_placeStatus 22 = .ok (.aload_n 0, 1) := by decide +kernel
theorem d11_placeStatus_23 : decode cX11_placeStatus 23 = .ok (.getfield 12, 3) := by decide +kernel
theorem d11_placeStatus_26 : decode cX11_placeStatus 26 = .ok (.iload_n 1, 1) := by decide +kernel
theorem d11_placeStatus_27 : decode cX11_placeStatus 27 = .ok (.iload_n 2, 1) := by decide +kernel
theorem d11_placeStatus_28 : decode cX11_placeStatus 28 = .ok (.iconst 1, 1) := by decide +kernel
theorem d11_placeStatus_29 : decode cX11_placeStatus 29 = .ok (.invokevirtual 146, 3) := by decide +kernel
theorem d11_placeStatus_32 : decode cX11_placeStatus 32 = .ok (.ifCond .eq 7, 3) := by decide +kernel
theorem d11_placeStatus_35 : decode cX11_placeStatus 35 = .ok (.iconst 0, 1) := by decide +kernel
theorem d11_placeStatus_36 : decode cX11_placeStatus 36 = .ok (.goto 4, 3) := by decide +kernel
theorem d11_placeStatus_39 : decode cX11_placeStatus 39 = .ok (.iconst 4, 1) := by decide +kernel
theorem d11_placeStatus_40 : decode cX11_placeStatus 40 = .ok (.ireturn, 1) := by decide +kernel
abbrev K11_placeStatus : CK Int32 := (enI, (some .int), 3, 3, none)
noncomputable def F11_placeStatus (p0 : Int32) (p1 : Int32) (σ : Ms) : Option (Int32 × Ms) :=
  bn (F9_isTray p0 σ) (fun r1 t2 => if r1 ≠ 0 then (bn (F9_isMissing p0 t2) (fun r3 t4 => if r3 = 0 then (bn (F9_holds p0 p1 (1 : Int32) t4) (fun r5 t6 => if r5 = 0 then (some ((4 : Int32), t6))
  else (some ((0 : Int32), t6))))
  else (some ((3 : Int32), t4))))
  else (some ((1 : Int32), t2)))
set_option maxRecDepth 100000 in
theorem mc11_placeStatus (p0 : Int32) (p1 : Int32) (σ : Ms) : MC enI yX11_placeStatus cX11_placeStatus 3 (some .int) 3 (F11_placeStatus p0 p1 σ) σ [.ref 11, .int p0, .int p1] := by
  refine MC.i (by decide +kernel) (Nat.le_of_ble_eq_true rfl) ?_
  show VF (K11_placeStatus) cX11_placeStatus RX11 (F11_placeStatus p0 p1 σ) σ 0 [(0, .ref 11), (1, .int p0), (2, .int p1)] []
  unfold F11_placeStatus
  refine v_iload_n d11_placeStatus_0 1 rfl rfl ?_
  refine v_callS1i d11_placeStatus_1 (mc9_isTray p0 σ) ys9_isTray mlX11_106 (by decide) (Nat.le_of_ble_eq_true rfl) fun r1 t2 => ?_
  refine v_if_ne (tgt := 9) d11_placeStatus_4 (by decide) ?_ ?_
  · refine v_aload_n d11_placeStatus_9 0 rfl rfl ?_
    refine v_getR d11_placeStatus_10 faX11_12 ic_11 rfl ?_
    refine v_iload_n d11_placeStatus_13 1 rfl rfl ?_
    refine v_callV1i d11_placeStatus_14 (mc9_isMissing p0 t2) yv9_isMissing mlX11_140 (Recv.obj ic_12 rfl) (by decide) (Nat.le_of_ble_eq_true rfl) fun r3 t4 => ?_
    refine v_if_eq (tgt := 22) d11_placeStatus_17 (by decide) ?_ ?_
    · refine v_aload_n d11_placeStatus_22 0 rfl rfl ?_
      refine v_getR d11_placeStatus_23 faX11_12 ic_11 rfl ?_
      refine v_iload_n d11_placeStatus_26 1 rfl rfl ?_
      refine v_iload_n d11_placeStatus_27 2 rfl rfl ?_
      refine v_iconst d11_placeStatus_28 ki_1 ?_
      refine v_callV3i d11_placeStatus_29 (mc9_holds p0 p1 (1 : Int32) t4) yv9_holds mlX11_146 (Recv.obj ic_12 rfl) (by decide) (Nat.le_of_ble_eq_true rfl) fun r5 t6 => ?_
      refine v_if_eq (tgt := 39) d11_placeStatus_32 (by decide) ?_ ?_
      · refine v_iconst d11_placeStatus_39 ki_4 ?_
        exact v_iret d11_placeStatus_40 rfl rfl rfl
      · refine v_iconst d11_placeStatus_35 ki_0 ?_
        refine v_goto (tgt := 40) d11_placeStatus_36 (by decide) ?_
        exact v_iret d11_placeStatus_40 rfl rfl rfl
    · refine v_iconst d11_placeStatus_20 ki_3 ?_
      exact v_iret d11_placeStatus_21 rfl rfl rfl
  · refine v_iconst d11_placeStatus_7 ki_1 ?_
    exact v_iret d11_placeStatus_8 rfl rfl rfl
theorem d11_write_0 : decode cX11_write 0 = .ok (.aload_n 0, 1) := by decide +kernel
theorem d11_write_1 : decode cX11_write 1 = .ok (.iload_n 1, 1) := by decide +kernel
theorem d11_write_2 : decode cX11_write 2 = .ok (.iload_n 2, 1) := by decide +kernel
theorem d11_write_3 : decode cX11_write 3 = .ok (.invokevirtual 124, 3) := by decide +kernel
theorem d11_write_6 : decode cX11_write 6 = .ok (.istore 5, 2) := by decide +kernel
theorem d11_write_8 : decode cX11_write 8 = .ok (.iload 5, 2) := by decide +kernel
theorem d11_write_10 : decode cX11_write 10 = .ok (.ifCond .eq 10, 3) := by decide +kernel
theorem d11_write_13 : decode cX11_write 13 = .ok (.aload_n 0, 1) := by decide +kernel
theorem d11_write_14 : decode cX11_write 14 = .ok (.iload 5, 2) := by decide +kernel
theorem d11_write_16 : decode cX11_write 16 = .ok (.invokevirtual 113, 3) := by decide +kernel
theorem d11_write_19 : decode cX11_write 19 = .ok (.ireturn, 1) := by decide +kernel
theorem d11_write_20 : decode cX11_write 20 = .ok (.aload_n 0, 1) := by decide +kernel
theorem d11_write_21 : decode cX11_write 21 = .ok (.getfield 12, 3) := by decide +kernel
theorem d11_write_24 : decode cX11_write 24 = .ok (.iload_n 1, 1) := by decide +kernel
theorem d11_write_25 : decode cX11_write 25 = .ok (.iload_n 2, 1) := by decide +kernel
theorem d11_write_26 : decode cX11_write 26 = .ok (.lload_n 3, 1) := by decide +kernel
theorem d11_write_27 : decode cX11_write 27 = .ok (.invokevirtual 128, 3) := by decide +kernel
theorem d11_write_30 : decode cX11_write 30 = .ok (.aload_n 0, 1) := by decide +kernel
theorem d11_write_31 : decode cX11_write 31 = .ok (.invokevirtual 120, 3) := by decide +kernel
theorem d11_write_34 : decode cX11_write 34 = .ok (.ireturn, 1) := by decide +kernel
abbrev K11_write : CK Int32 := (enI, (some .boolean), 6, 4, none)
noncomputable def F11_write (p0 : Int32) (p1 : Int32) (p2 : Int64) (σ : Ms) : Option (Int32 × Ms) :=
  bn (F11_placeStatus p0 p1 σ) (fun r1 t2 => if r1 = 0 then (bn (F9_put p0 p1 p2 t2) (fun r3 t4 => bn (F11_yes t4) (fun r5 t6 => ck (nkB r5) (some (r5, t6)))))
  else (bn (F11_no r1 t2) (fun r7 t8 => ck (nkB r7) (some (r7, t8)))))
set_option maxRecDepth 100000 in
theorem mc11_write (p0 : Int32) (p1 : Int32) (p2 : Int64) (σ : Ms) : MC enI yX11_write cX11_write 6 (some .boolean) 4 (F11_write p0 p1 p2 σ) σ [.ref 11, .int p0, .int p1, .long p2] := by
  refine MC.i (by decide +kernel) (Nat.le_of_ble_eq_true rfl) ?_
  show VF (K11_write) cX11_write RX11 (F11_write p0 p1 p2 σ) σ 0 [(0, .ref 11), (1, .int p0), (2, .int p1), (3, .long p2)] []
  unfold F11_write
  refine v_aload_n d11_write_0 0 rfl rfl ?_
  refine v_iload_n d11_write_1 1 rfl rfl ?_
  refine v_iload_n d11_write_2 2 rfl rfl ?_
  refine v_callV2i d11_write_3 (mc11_placeStatus p0 p1 σ) yv11_placeStatus mlX11_124 (Recv.obj ic_11 rfl) (by decide) (Nat.le_of_ble_eq_true rfl) fun r1 t2 => ?_
  refine v_istore (lv' := [(5, .int r1), (0, .ref 11), (1, .int p0), (2, .int p1), (3, .long p2)]) d11_write_6 (by decide) rfl ?_
  refine v_iload d11_write_8 0 rfl ?_
  refine v_if_eq (tgt := 20) d11_write_10 (by decide) ?_ ?_
  · refine v_aload_n d11_write_20 1 rfl rfl ?_
    refine v_getR d11_write_21 faX11_12 ic_11 rfl ?_
    refine v_iload_n d11_write_24 2 rfl rfl ?_
    refine v_iload_n d11_write_25 3 rfl rfl ?_
    refine v_lload_n d11_write_26 4 rfl rfl ?_
    refine v_callV3v d11_write_27 (mc9_put p0 p1 p2 t2) yv9_put mlX11_128 (Recv.obj ic_12 rfl) (by decide) (Nat.le_of_ble_eq_true rfl) fun r3 t4 => ?_
    refine v_aload_n d11_write_30 1 rfl rfl ?_
    refine v_callV0i d11_write_31 (mc11_yes t4) yv11_yes mlX11_120 (Recv.obj ic_11 rfl) (by decide) (Nat.le_of_ble_eq_true rfl) fun r5 t6 => ?_
    exact v_iretB d11_write_34 rfl rfl
  · refine v_aload_n d11_write_13 1 rfl rfl ?_
    refine v_iload d11_write_14 0 rfl ?_
    refine v_callV1i d11_write_16 (mc11_no r1 t2) yv11_no mlX11_113 (Recv.obj ic_11 rfl) (by decide) (Nat.le_of_ble_eq_true rfl) fun r7 t8 => ?_
    exact v_iretB d11_write_19 rfl rfl
theorem d11_none_0 : decode cX11_none 0 = .ok (.aload_n 0, 1) := by decide +kernel
theorem d11_none_1 : decode cX11_none 1 = .ok (.iload_n 1, 1) := by decide +kernel
theorem d11_none_2 : decode cX11_none 2 = .ok (.putfield 96, 3) := by decide +kernel
theorem d11_none_5 : decode cX11_none 5 = .ok (.iconst (-1), 1) := by decide +kernel
theorem d11_none_6 : decode cX11_none 6 = .ok (.ireturn, 1) := by decide +kernel
abbrev K11_none : CK Int32 := (enI, (some .int), 2, 1, none)
noncomputable def F11_none (p0 : Int32) (σ : Ms) : Option (Int32 × Ms) :=
  lt (sI σ 11 17 p0) (fun t1 => some ((-1 : Int32), t1))
set_option maxRecDepth 100000 in
theorem mc11_none (p0 : Int32) (σ : Ms) : MC enI yX11_none cX11_none 2 (some .int) 1 (F11_none p0 σ) σ [.ref 11, .int p0] := by
  refine MC.i (by decide +kernel) (Nat.le_of_ble_eq_true rfl) ?_
  show VF (K11_none) cX11_none RX11 (F11_none p0 σ) σ 0 [(0, .ref 11), (1, .int p0)] []
  unfold F11_none
  refine v_aload_n d11_none_0 0 rfl rfl ?_
  refine v_iload_n d11_none_1 1 rfl rfl ?_
  refine v_putI d11_none_2 faX11_96 fp8_17 ic_11 ?_
  refine v_lts fun t1 => ?_
  refine v_iconst d11_none_5 ki_m1 ?_
  exact v_iret d11_none_6 rfl rfl rfl
theorem d11_read_0 : decode cX11_read 0 = .ok (.aload_n 0, 1) := by decide +kernel
theorem d11_read_1 : decode cX11_read 1 = .ok (.iload_n 1, 1) := by decide +kernel
theorem d11_read_2 : decode cX11_read 2 = .ok (.iload_n 2, 1) := by decide +kernel
theorem d11_read_3 : decode cX11_read 3 = .ok (.invokevirtual 124, 3) := by decide +kernel
theorem d11_read_6 : decode cX11_read 6 = .ok (.istore_n 3, 1) := by decide +kernel
theorem d11_read_7 : decode cX11_read 7 = .ok (.iload_n 3, 1) := by decide +kernel
theorem d11_read_8 : decode cX11_read 8 = .ok (.ifCond .eq 10, 3) := by decide +kernel
theorem d11_read_11 : decode cX11_read 11 = .ok (.aload_n 0, 1) := by decide +kernel
theorem d11_read_12 : decode cX11_read 12 = .ok (.iload_n 3, 1) := by decide +kernel
theorem d11_read_13 : decode cX11_read 13 = .ok (.invokevirtual 132, 3) := by decide +kernel
theorem d11_read_16 : decode cX11_read 16 = .ok (.i2l, 1) := by decide +kernel
theorem d11_read_17 : decode cX11_read 17 = .ok (.lreturn, 1) := by decide +kernel
theorem d11_read_18 : decode cX11_read 18 = .ok (.aload_n 0, 1) := by decide +kernel
theorem d11_read_19 : decode cX11_read 19 = .ok (.iconst 0, 1) := by decide +kernel
theorem d11_read_20 : decode cX11_read 20 = .ok (.putfield 96, 3) := by decide +kernel
theorem d11_read_23 : decode cX11_read 23 = .ok (.aload_n 0, 1) := by decide +kernel
theorem d11_read_24 : decode cX11_read 24 = .ok (.getfield 12, 3) := by decide +kernel
theorem d11_read_27 : decode cX11_read 27 = .ok (.iload_n 1, 1) := by decide +kernel
theorem d11_read_28 : decode cX11_read 28 = .ok (.iload_n 2, 1) := by decide +kernel
theorem d11_read_29 : decode cX11_read 29 = .ok (.invokevirtual 136, 3) := by decide +kernel
theorem d11_read_32 : decode cX11_read 32 = .ok (.lreturn, 1) := by decide +kernel
abbrev K11_read : CK Int64 := (enL, (some .long), 4, 4, none)
noncomputable def F11_read (p0 : Int32) (p1 : Int32) (σ : Ms) : Option (Int64 × Ms) :=
  bn (F11_placeStatus p0 p1 σ) (fun r1 t2 => if r1 = 0 then (lt (sI t2 11 17 (0 : Int32)) (fun t3 => bn (F9_at p0 p1 t3) (fun r4 t5 => some (r4, t5))))
  else (bn (F11_none r1 t2) (fun r6 t7 => some ((r6.toInt64), t7))))
set_option maxRecDepth 100000 in
theorem mc11_read (p0 : Int32) (p1 : Int32) (σ : Ms) : MC enL yX11_read cX11_read 4 (some .long) 4 (F11_read p0 p1 σ) σ [.ref 11, .int p0, .int p1] := by
  refine MC.l (by decide +kernel) (Nat.le_of_ble_eq_true rfl) ?_
  show VF (K11_read) cX11_read RX11 (F11_read p0 p1 σ) σ 0 [(0, .ref 11), (1, .int p0), (2, .int p1)] []
  unfold F11_read
  refine v_aload_n d11_read_0 0 rfl rfl ?_
  refine v_iload_n d11_read_1 1 rfl rfl ?_
  refine v_iload_n d11_read_2 2 rfl rfl ?_
  refine v_callV2i d11_read_3 (mc11_placeStatus p0 p1 σ) yv11_placeStatus mlX11_124 (Recv.obj ic_11 rfl) (by decide) (Nat.le_of_ble_eq_true rfl) fun r1 t2 => ?_
  refine v_istore_n (lv' := [(3, .int r1), (0, .ref 11), (1, .int p0), (2, .int p1)]) d11_read_6 rfl (by decide) rfl ?_
  refine v_iload_n d11_read_7 0 rfl rfl ?_
  refine v_if_eq (tgt := 18) d11_read_8 (by decide) ?_ ?_
  · refine v_aload_n d11_read_18 1 rfl rfl ?_
    refine v_iconst d11_read_19 ki_0 ?_
    refine v_putI d11_read_20 faX11_96 fp8_17 ic_11 ?_
    refine v_lts fun t3 => ?_
    refine v_aload_n d11_read_23 1 rfl rfl ?_
    refine v_getR d11_read_24 faX11_12 ic_11 rfl ?_
    refine v_iload_n d11_read_27 2 rfl rfl ?_
    refine v_iload_n d11_read_28 3 rfl rfl ?_
    refine v_callV2l d11_read_29 (mc9_at p0 p1 t3) yv9_at mlX11_136 (Recv.obj ic_12 rfl) (by decide) (Nat.le_of_ble_eq_true rfl) fun r4 t5 => ?_
    exact v_lret d11_read_32 rfl rfl
  · refine v_aload_n d11_read_11 1 rfl rfl ?_
    refine v_iload_n d11_read_12 0 rfl rfl ?_
    refine v_callV1i d11_read_13 (mc11_none r1 t2) yv11_none mlX11_132 (Recv.obj ic_11 rfl) (by decide) (Nat.le_of_ble_eq_true rfl) fun r6 t7 => ?_
    refine v_i2l d11_read_16 ?_
    exact v_lret d11_read_17 rfl rfl
theorem d11_pour_0 : decode cX11_pour 0 = .ok (.iload_n 1, 1) := by decide +kernel
theorem d11_pour_1 : decode cX11_pour 1 = .ok (.invokestatic 106, 3) := by decide +kernel
theorem d11_pour_4 : decode cX11_pour 4 = .ok (.ifCond .eq 10, 3) := by decide +kernel
theorem d11_pour_7 : decode cX11_pour 7 = .ok (.iload_n 3, 1) := by decide +kernel
theorem d11_pour_8 : decode cX11_pour 8 = .ok (.invokestatic 106, 3) := by decide +kernel
theorem d11_pour_11 : decode cX11_pour 11 = .ok (.ifCond .ne 9, 3) := by decide +kernel
theorem d11_pour_14 : decode cX11_pour 14 = .ok (.aload_n 0, 1) := by decide +kernel
theorem d11_pour_15 : decode cX11_pour 15 = .ok (.iconst 1, 1) := by decide +kernel
theorem d11_pour_16 : decode cX11_pour 16 = .ok (.invokevirtual 113, 3) := by decide +kernel
theorem d11_pour_19 : decode cX11_pour 19 = .ok (.ireturn, 1) := by decide +kernel
theorem d11_pour_20 : decode cX11_pour 20 = .ok (.aload_n 0, 1) := by decide +kernel
theorem d11_pour_21 : decode cX11_pour 21 = .ok (.getfield 12, 3) := by decide +kernel
theorem d11_pour_24 : decode cX11_pour 24 = .ok (.iload_n 1, 1) := by decide +kernel
theorem d11_pour_25 : decode cX11_pour 25 = .ok (.invokevirtual 140, 3) := by decide +kernel
theorem d11_pour_28 : decode cX11_pour 28 = .ok (.ifCond .ne 14, 3) := by decide +kernel
theorem d11_pour_31 : decode cX11_pour 31 = .ok (.aload_n 0, 1) := by decide +kernel
theorem d11_pour_32 : decode cX11_pour 32 = .ok (.getfield 12, 3) := by decide +kernel
theorem d11_pour_35 : decode cX11_pour 35 = .ok (.iload_n 3, 1) := by decide +kernel
theorem d11_pour_36 : decode cX11_pour 36 = .ok (.invokevirtual 140, 3) := by decide +kernel
theorem d11_pour_39 : decode cX11_pour 39 = .ok (.ifCond .eq 9, 3) := by decide +kernel
theorem d11_pour_42 : decode cX11_pour 42 = .ok (.aload_n 0, 1) := by decide +kernel
theorem d11_pour_43 : decode cX11_pour 43 = .ok (.iconst 3, 1) := by decide +kernel
theorem d11_pour_44 : decode cX11_pour 44 = .ok (.invokevirtual 113, 3) := by decide +kernel
theorem d11_pour_47 : decode cX11_pour 47 = .ok (.ireturn, 1) := by decide +kernel
theorem d11_pour_48 : decode cX11_pour 48 = .ok (.aload_n 0, 1) := by decide +kernel
theorem d11_pour_49 : decode cX11_pour 49 = .ok (.getfield 12, 3) := by decide +kernel
theorem d11_pour_52 : decode cX11_pour 52 = .ok (.iload_n 1, 1) := by decide +kernel
theorem d11_pour_53 : decode cX11_pour 53 = .ok (.invokevirtual 143, 3) := by decide +kernel
theorem d11_pour_56 : decode cX11_pour 56 = .ok (.aload_n 0, 1) := by decide +kernel
theorem d11_pour_57 : decode cX11_pour 57 = .ok (.getfield 12, 3) := by decide +kernel
theorem d11_pour_60 : decode cX11_pour 60 = .ok (.iload_n 3, 1) := by decide +kernel
theorem d11_pour_61 : decode cX11_pour 61 = .ok (.invokevirtual 143, 3) := by decide +kernel
theorem d11_pour_64 : decode cX11_pour 64 = .ok (.if_icmp .eq 10, 3) := by decide +kernel
theorem d11_pour_67 : decode cX11_pour 67 = .ok (.aload_n 0, 1) := by decide +kernel
theorem d11_pour_68 : decode cX11_pour 68 = .ok (.bipush 11, 2) := by decide +kernel
theorem d11_pour_70 : decode cX11_pour 70 = .ok (.invokevirtual 113, 3) := by decide +kernel
theorem d11_pour_73 : decode cX11_pour 73 = .ok (.ireturn, 1) := by decide +kernel
theorem d11_pour_74 : decode cX11_pour 74 = .ok (.iload 5, 2) := by decide +kernel
theorem d11_pour_76 : decode cX11_pour 76 = .ok (.ifCond .ge 10, 3) := by decide +kernel
theorem d11_pour_79 : decode cX11_pour 79 = .ok (.aload_n 0, 1) := by decide +kernel
theorem d11_pour_80 : decode cX11_pour 80 = .ok (.bipush 6, 2) := by decide +kernel
theorem d11_pour_82 : decode cX11_pour 82 = .ok (.invokevirtual 113, 3) := by decide +kernel
theorem d11_pour_85 : decode cX11_pour 85 = .ok (.ireturn, 1) := by decide +kernel
theorem d11_pour_86 : decode cX11_pour 86 = .ok (.aload_n 0, 1) := by decide +kernel
theorem d11_pour_87 : decode cX11_pour 87 = .ok (.getfield 12, 3) := by decide +kernel
theorem d11_pour_90 : decode cX11_pour 90 = .ok (.iload_n 1, 1) := by decide +kernel
theorem d11_pour_91 : decode cX11_pour 91 = .ok (.iload_n 2, 1) := by decide +kernel
theorem d11_pour_92 : decode cX11_pour 92 = .ok (.iload 5, 2) := by decide +kernel
theorem d11_pour_94 : decode cX11_pour 94 = .ok (.invokevirtual 146, 3) := by decide +kernel
theorem d11_pour_97 : decode cX11_pour 97 = .ok (.ifCond .eq 18, 3) := by decide +kernel
theorem d11_pour_100 : decode cX11_pour 100 = .ok (.aload_n 0, 1) := by decide +kernel
theorem d11_pour_101 : decode cX11_pour 101 = .ok (.getfield 12, 3) := by decide +kernel
theorem d11_pour_104 : decode cX11_pour 104 = .ok (.iload_n 3, 1) := by decide +kernel
theorem d11_pour_105 : decode cX11_pour 105 = .ok (.iload 4, 2) := by decide +kernel
theorem d11_pour_107 : decode cX11_pour 107 = .ok (.iload 5, 2) := by decide +kernel
theorem d11_pour_109 : decode cX11_pour 109 = .ok (.invokevirtual 146, 3) := by decide +kernel
theorem d11_pour_112 : decode cX11_pour 112 = .ok (.ifCond .ne 9, 3) := by decide +kernel
theorem d11_pour_115 : decode cX11_pour 115 = .ok (.aload_n 0, 1) := by decide +kernel
theorem d11_pour_116 : decode cX11_pour 116 = .ok (.iconst 4, 1) := by decide +kernel
theorem d11_pour_117 : decode cX11_pour 117 = .ok (.invokevirtual 113, 3) := by decide +kernel
theorem d11_pour_120 : decode cX11_pour 120 = .ok (.ireturn, 1) := by decide +kernel
theorem d11_pour_121 : decode cX11_pour 121 = .ok (.aload_n 0, 1) := by decide +kernel
theorem d11_pour_122 : decode cX11_pour 122 = .ok (.getfield 12, 3) := by decide +kernel
theorem d11_pour_125 : decode cX11_pour 125 = .ok (.iload_n 1, 1) := by decide +kernel
theorem d11_pour_126 : decode cX11_pour 126 = .ok (.iload_n 2, 1) := by decide +kernel
theorem d11_pour_127 : decode cX11_pour 127 = .ok (.iload_n 3, 1) := by decide +kernel
theorem d11_pour_128 : decode cX11_pour 128 = .ok (.iload 4, 2) := by decide +kernel
theorem d11_pour_130 : decode cX11_pour 130 = .ok (.iload 5, 2) := by decide +kernel
theorem d11_pour_132 : decode cX11_pour 132 = .ok (.invokevirtual 150, 3) := by decide +kernel
theorem d11_pour_135 : decode cX11_pour 135 = .ok (.aload_n 0, 1) := by decide +kernel
theorem d11_pour_136 : decode cX11_pour 136 = .ok (.invokevirtual 120, 3) := by decide +kernel
theorem d11_pour_139 : decode cX11_pour 139 = .ok (.ireturn, 1) := by decide +kernel
abbrev K11_pour : CK Int32 := (enI, (some .boolean), 6, 4, none)
noncomputable def F11_pour_b14 (σ : Ms) : Option (Int32 × Ms) :=
  bn (F11_no (1 : Int32) σ) (fun r1 t2 => ck (nkB r1) (some (r1, t2)))
noncomputable def F11_pour_b42 (σ : Ms) : Option (Int32 × Ms) :=
  bn (F11_no (3 : Int32) σ) (fun r3 t4 => ck (nkB r3) (some (r3, t4)))
noncomputable def F11_pour_b115 (σ : Ms) : Option (Int32 × Ms) :=
  bn (F11_no (4 : Int32) σ) (fun r5 t6 => ck (nkB r5) (some (r5, t6)))
noncomputable def F11_pour (p0 : Int32) (p1 : Int32) (p2 : Int32) (p3 : Int32) (p4 : Int32) (σ : Ms) : Option (Int32 × Ms) :=
  bn (F9_isTray p0 σ) (fun r7 t8 => if r7 = 0 then (F11_pour_b14 t8)
  else (bn (F9_isTray p2 t8) (fun r9 t10 => if r9 ≠ 0 then (bn (F9_isMissing p0 t10) (fun r11 t12 => if r11 ≠ 0 then (F11_pour_b42 t12)
  else (bn (F9_isMissing p2 t12) (fun r13 t14 => if r13 = 0 then (bn (F9_sortOf p0 t14) (fun r15 t16 => bn (F9_sortOf p2 t16) (fun r17 t18 => if r15 = r17 then (if 0 ≤ p4 then (bn (F9_holds p0 p1 p4 t18) (fun r19 t20 => if r19 = 0 then (F11_pour_b115 t20)
  else (bn (F9_holds p2 p3 p4 t20) (fun r21 t22 => if r21 ≠ 0 then (bn (F9_move p0 p1 p2 p3 p4 t22) (fun r23 t24 => bn (F11_yes t24) (fun r25 t26 => ck (nkB r25) (some (r25, t26)))))
  else (F11_pour_b115 t22)))))
  else (bn (F11_no (6 : Int32) t18) (fun r27 t28 => ck (nkB r27) (some (r27, t28)))))
  else (bn (F11_no (11 : Int32) t18) (fun r29 t30 => ck (nkB r29) (some (r29, t30)))))))
  else (F11_pour_b42 t14)))))
  else (F11_pour_b14 t10))))
set_option maxRecDepth 100000 in
theorem v11_pour_b14 (σ : Ms) : VF (K11_pour) cX11_pour RX11 (F11_pour_b14 σ) σ 14 [(0, .ref 11)] [] := by
  unfold F11_pour_b14
  refine v_aload_n d11_pour_14 0 rfl rfl ?_
  refine v_iconst d11_pour_15 ki_1 ?_
  refine v_callV1i d11_pour_16 (mc11_no (1 : Int32) σ) yv11_no mlX11_113 (Recv.obj ic_11 rfl) (by decide) (Nat.le_of_ble_eq_true rfl) fun r1 t2 => ?_
  exact v_iretB d11_pour_19 rfl rfl
set_option maxRecDepth 100000 in
theorem v11_pour_b42 (σ : Ms) : VF (K11_pour) cX11_pour RX11 (F11_pour_b42 σ) σ 42 [(0, .ref 11)] [] := by
  unfold F11_pour_b42
  refine v_aload_n d11_pour_42 0 rfl rfl ?_
  refine v_iconst d11_pour_43 ki_3 ?_
  refine v_callV1i d11_pour_44 (mc11_no (3 : Int32) σ) yv11_no mlX11_113 (Recv.obj ic_11 rfl) (by decide) (Nat.le_of_ble_eq_true rfl) fun r3 t4 => ?_
  exact v_iretB d11_pour_47 rfl rfl
set_option maxRecDepth 100000 in
theorem v11_pour_b115 (σ : Ms) : VF (K11_pour) cX11_pour RX11 (F11_pour_b115 σ) σ 115 [(0, .ref 11)] [] := by
  unfold F11_pour_b115
  refine v_aload_n d11_pour_115 0 rfl rfl ?_
  refine v_iconst d11_pour_116 ki_4 ?_
  refine v_callV1i d11_pour_117 (mc11_no (4 : Int32) σ) yv11_no mlX11_113 (Recv.obj ic_11 rfl) (by decide) (Nat.le_of_ble_eq_true rfl) fun r5 t6 => ?_
  exact v_iretB d11_pour_120 rfl rfl
set_option maxRecDepth 100000 in
theorem mc11_pour (p0 : Int32) (p1 : Int32) (p2 : Int32) (p3 : Int32) (p4 : Int32) (σ : Ms) : MC enI yX11_pour cX11_pour 6 (some .boolean) 4 (F11_pour p0 p1 p2 p3 p4 σ) σ [.ref 11, .int p0, .int p1, .int p2, .int p3, .int p4] := by
  refine MC.i (by decide +kernel) (Nat.le_of_ble_eq_true rfl) ?_
  show VF (K11_pour) cX11_pour RX11 (F11_pour p0 p1 p2 p3 p4 σ) σ 0 [(0, .ref 11), (1, .int p0), (2, .int p1), (3, .int p2), (4, .int p3), (5, .int p4)] []
  unfold F11_pour
  refine v_iload_n d11_pour_0 1 rfl rfl ?_
  refine v_callS1i d11_pour_1 (mc9_isTray p0 σ) ys9_isTray mlX11_106 (by decide) (Nat.le_of_ble_eq_true rfl) fun r7 t8 => ?_
  refine v_if_eq (tgt := 14) d11_pour_4 (by decide) ?_ ?_
  · refine v_sub [0] rfl ?_
    exact v11_pour_b14 t8
  · refine v_iload_n d11_pour_7 3 rfl rfl ?_
    refine v_callS1i d11_pour_8 (mc9_isTray p2 t8) ys9_isTray mlX11_106 (by decide) (Nat.le_of_ble_eq_true rfl) fun r9 t10 => ?_
    refine v_if_ne (tgt := 20) d11_pour_11 (by decide) ?_ ?_
    · refine v_aload_n d11_pour_20 0 rfl rfl ?_
      refine v_getR d11_pour_21 faX11_12 ic_11 rfl ?_
      refine v_iload_n d11_pour_24 1 rfl rfl ?_
      refine v_callV1i d11_pour_25 (mc9_isMissing p0 t10) yv9_isMissing mlX11_140 (Recv.obj ic_12 rfl) (by decide) (Nat.le_of_ble_eq_true rfl) fun r11 t12 => ?_
      refine v_if_ne (tgt := 42) d11_pour_28 (by decide) ?_ ?_
      · refine v_sub [0] rfl ?_
        exact v11_pour_b42 t12
      · refine v_aload_n d11_pour_31 0 rfl rfl ?_
        refine v_getR d11_pour_32 faX11_12 ic_11 rfl ?_
        refine v_iload_n d11_pour_35 3 rfl rfl ?_
        refine v_callV1i d11_pour_36 (mc9_isMissing p2 t12) yv9_isMissing mlX11_140 (Recv.obj ic_12 rfl) (by decide) (Nat.le_of_ble_eq_true rfl) fun r13 t14 => ?_
        refine v_if_eq (tgt := 48) d11_pour_39 (by decide) ?_ ?_
        · refine v_aload_n d11_pour_48 0 rfl rfl ?_
          refine v_getR d11_pour_49 faX11_12 ic_11 rfl ?_
          refine v_iload_n d11_pour_52 1 rfl rfl ?_
          refine v_callV1i d11_pour_53 (mc9_sortOf p0 t14) yv9_sortOf mlX11_143 (Recv.obj ic_12 rfl) (by decide) (Nat.le_of_ble_eq_true rfl) fun r15 t16 => ?_
          refine v_aload_n d11_pour_56 0 rfl rfl ?_
          refine v_getR d11_pour_57 faX11_12 ic_11 rfl ?_
          refine v_iload_n d11_pour_60 3 rfl rfl ?_
          refine v_callV1i d11_pour_61 (mc9_sortOf p2 t16) yv9_sortOf mlX11_143 (Recv.obj ic_12 rfl) (by decide) (Nat.le_of_ble_eq_true rfl) fun r17 t18 => ?_
          refine v_icmp_eq (tgt := 74) d11_pour_64 (by decide) ?_ ?_
          · refine v_iload d11_pour_74 5 rfl ?_
            refine v_if_ge (tgt := 86) d11_pour_76 (by decide) ?_ ?_
            · refine v_aload_n d11_pour_86 0 rfl rfl ?_
              refine v_getR d11_pour_87 faX11_12 ic_11 rfl ?_
              refine v_iload_n d11_pour_90 1 rfl rfl ?_
              refine v_iload_n d11_pour_91 2 rfl rfl ?_
              refine v_iload d11_pour_92 5 rfl ?_
              refine v_callV3i d11_pour_94 (mc9_holds p0 p1 p4 t18) yv9_holds mlX11_146 (Recv.obj ic_12 rfl) (by decide) (Nat.le_of_ble_eq_true rfl) fun r19 t20 => ?_
              refine v_if_eq (tgt := 115) d11_pour_97 (by decide) ?_ ?_
              · refine v_sub [0] rfl ?_
                exact v11_pour_b115 t20
              · refine v_aload_n d11_pour_100 0 rfl rfl ?_
                refine v_getR d11_pour_101 faX11_12 ic_11 rfl ?_
                refine v_iload_n d11_pour_104 3 rfl rfl ?_
                refine v_iload d11_pour_105 4 rfl ?_
                refine v_iload d11_pour_107 5 rfl ?_
                refine v_callV3i d11_pour_109 (mc9_holds p2 p3 p4 t20) yv9_holds mlX11_146 (Recv.obj ic_12 rfl) (by decide) (Nat.le_of_ble_eq_true rfl) fun r21 t22 => ?_
                refine v_if_ne (tgt := 121) d11_pour_112 (by decide) ?_ ?_
                · refine v_aload_n d11_pour_121 0 rfl rfl ?_
                  refine v_getR d11_pour_122 faX11_12 ic_11 rfl ?_
                  refine v_iload_n d11_pour_125 1 rfl rfl ?_
                  refine v_iload_n d11_pour_126 2 rfl rfl ?_
                  refine v_iload_n d11_pour_127 3 rfl rfl ?_
                  refine v_iload d11_pour_128 4 rfl ?_
                  refine v_iload d11_pour_130 5 rfl ?_
                  refine v_callV5v d11_pour_132 (mc9_move p0 p1 p2 p3 p4 t22) yv9_move mlX11_150 (Recv.obj ic_12 rfl) (by decide) (Nat.le_of_ble_eq_true rfl) fun r23 t24 => ?_
                  refine v_aload_n d11_pour_135 0 rfl rfl ?_
                  refine v_callV0i d11_pour_136 (mc11_yes t24) yv11_yes mlX11_120 (Recv.obj ic_11 rfl) (by decide) (Nat.le_of_ble_eq_true rfl) fun r25 t26 => ?_
                  exact v_iretB d11_pour_139 rfl rfl
                · refine v_sub [0] rfl ?_
                  exact v11_pour_b115 t22
            · refine v_aload_n d11_pour_79 0 rfl rfl ?_
              refine v_bipush d11_pour_80 kb_6 ?_
              refine v_callV1i d11_pour_82 (mc11_no (6 : Int32) t18) yv11_no mlX11_113 (Recv.obj ic_11 rfl) (by decide) (Nat.le_of_ble_eq_true rfl) fun r27 t28 => ?_
              exact v_iretB d11_pour_85 rfl rfl
          · refine v_aload_n d11_pour_67 0 rfl rfl ?_
            refine v_bipush d11_pour_68 kb_11 ?_
            refine v_callV1i d11_pour_70 (mc11_no (11 : Int32) t18) yv11_no mlX11_113 (Recv.obj ic_11 rfl) (by decide) (Nat.le_of_ble_eq_true rfl) fun r29 t30 => ?_
            exact v_iretB d11_pour_73 rfl rfl
        · refine v_sub [0] rfl ?_
          exact v11_pour_b42 t14
    · refine v_sub [0] rfl ?_
      exact v11_pour_b14 t10
theorem d11_feed_0 : decode cX11_feed 0 = .ok (.aload_n 0, 1) := by decide +kernel
theorem d11_feed_1 : decode cX11_feed 1 = .ok (.getfield 19, 3) := by decide +kernel
theorem d11_feed_4 : decode cX11_feed 4 = .ok (.bipush 20, 2) := by decide +kernel
theorem d11_feed_6 : decode cX11_feed 6 = .ok (.invokevirtual 154, 3) := by decide +kernel
theorem d11_feed_9 : decode cX11_feed 9 = .ok (.ifCond .ne 5, 3) := by decide +kernel
theorem d11_feed_12 : decode cX11_feed 12 = .ok (.iconst (-1), 1) := by decide +kernel
theorem d11_feed_13 : decode cX11_feed 13 = .ok (.ireturn, 1) := by decide +kernel
theorem d11_feed_14 : decode cX11_feed 14 = .ok (.aload_n 0, 1) := by decide +kernel
theorem d11_feed_15 : decode cX11_feed 15 = .ok (.getfield 19, 3) := by decide +kernel
theorem d11_feed_18 : decode cX11_feed 18 = .ok (.iload_n 1, 1) := by decide +kernel
theorem d11_feed_19 : decode cX11_feed 19 = .ok (.invokevirtual 157, 3) := by decide +kernel
theorem d11_feed_22 : decode cX11_feed 22 = .ok (.aload_n 0, 1) := by decide +kernel
theorem d11_feed_23 : decode cX11_feed 23 = .ok (.getfield 19, 3) := by decide +kernel
theorem d11_feed_26 : decode cX11_feed 26 = .ok (.iload_n 2, 1) := by decide +kernel
theorem d11_feed_27 : decode cX11_feed 27 = .ok (.invokevirtual 157, 3) := by decide +kernel
theorem d11_feed_30 : decode cX11_feed 30 = .ok (.aload_n 0, 1) := by decide +kernel
theorem d11_feed_31 : decode cX11_feed 31 = .ok (.getfield 19, 3) := by decide +kernel
theorem d11_feed_34 : decode cX11_feed 34 = .ok (.iload_n 3, 1) := by decide +kernel
theorem d11_feed_35 : decode cX11_feed 35 = .ok (.invokevirtual 157, 3) := by decide +kernel
theorem d11_feed_38 : decode cX11_feed 38 = .ok (.aload_n 0, 1) := by decide +kernel
theorem d11_feed_39 : decode cX11_feed 39 = .ok (.getfield 19, 3) := by decide +kernel
theorem d11_feed_42 : decode cX11_feed 42 = .ok (.iload 4, 2) := by decide +kernel
theorem d11_feed_44 : decode cX11_feed 44 = .ok (.invokevirtual 157, 3) := by decide +kernel
theorem d11_feed_47 : decode cX11_feed 47 = .ok (.aload_n 0, 1) := by decide +kernel
theorem d11_feed_48 : decode cX11_feed 48 = .ok (.getfield 19, 3) := by decide +kernel
theorem d11_feed_51 : decode cX11_feed 51 = .ok (.iload 5, 2) := by decide +kernel
theorem d11_feed_53 : decode cX11_feed 53 = .ok (.invokevirtual 157, 3) := by decide +kernel
theorem d11_feed_56 : decode cX11_feed 56 = .ok (.aload_n 0, 1) := by decide +kernel
theorem d11_feed_57 : decode cX11_feed 57 = .ok (.getfield 19, 3) := by decide +kernel
theorem d11_feed_60 : decode cX11_feed 60 = .ok (.getfield 161, 3) := by decide +kernel
theorem d11_feed_63 : decode cX11_feed 63 = .ok (.ireturn, 1) := by decide +kernel
abbrev K11_feed : CK Int32 := (enI, (some .int), 6, 3, none)
noncomputable def F11_feed (N : Nat) (p0 : Int32) (p1 : Int32) (p2 : Int32) (p3 : Int32) (p4 : Int32) (σ : Ms) : Option (Int32 × Ms) :=
  bn (F8_hasRoom (20 : Int32) σ) (fun r1 t2 => if r1 ≠ 0 then (bn (F8_append N p0 t2) (fun r3 t4 => bn (F8_append N p1 t4) (fun r5 t6 => bn (F8_append N p2 t6) (fun r7 t8 => bn (F8_append N p3 t8) (fun r9 t10 => bn (F8_append N p4 t10) (fun r11 t12 => some ((t12.1 20 1), t12)))))))
  else (some ((-1 : Int32), t2)))
set_option maxRecDepth 100000 in
theorem mc11_feed (N : Nat) (p0 : Int32) (p1 : Int32) (p2 : Int32) (p3 : Int32) (p4 : Int32) (σ : Ms) : MC enI yX11_feed cX11_feed 6 (some .int) 3 (F11_feed N p0 p1 p2 p3 p4 σ) σ [.ref 11, .int p0, .int p1, .int p2, .int p3, .int p4] := by
  refine MC.i (by decide +kernel) (Nat.le_of_ble_eq_true rfl) ?_
  show VF (K11_feed) cX11_feed RX11 (F11_feed N p0 p1 p2 p3 p4 σ) σ 0 [(0, .ref 11), (1, .int p0), (2, .int p1), (3, .int p2), (4, .int p3), (5, .int p4)] []
  unfold F11_feed
  refine v_aload_n d11_feed_0 0 rfl rfl ?_
  refine v_getR d11_feed_1 faX11_19 ic_11 rfl ?_
  refine v_bipush d11_feed_4 kb_20 ?_
  refine v_callV1i d11_feed_6 (mc8_hasRoom (20 : Int32) σ) yv8_hasRoom mlX11_154 (Recv.obj ic_20 rfl) (by decide) (Nat.le_of_ble_eq_true rfl) fun r1 t2 => ?_
  refine v_if_ne (tgt := 14) d11_feed_9 (by decide) ?_ ?_
  · refine v_aload_n d11_feed_14 0 rfl rfl ?_
    refine v_getR d11_feed_15 faX11_19 ic_11 rfl ?_
    refine v_iload_n d11_feed_18 1 rfl rfl ?_
    refine v_callV1v d11_feed_19 (mc8_append N p0 t2) yv8_append mlX11_157 (Recv.obj ic_20 rfl) (by decide) (Nat.le_of_ble_eq_true rfl) fun r3 t4 => ?_
    refine v_aload_n d11_feed_22 0 rfl rfl ?_
    refine v_getR d11_feed_23 faX11_19 ic_11 rfl ?_
    refine v_iload_n d11_feed_26 2 rfl rfl ?_
    refine v_callV1v d11_feed_27 (mc8_append N p1 t4) yv8_append mlX11_157 (Recv.obj ic_20 rfl) (by decide) (Nat.le_of_ble_eq_true rfl) fun r5 t6 => ?_
    refine v_aload_n d11_feed_30 0 rfl rfl ?_
    refine v_getR d11_feed_31 faX11_19 ic_11 rfl ?_
    refine v_iload_n d11_feed_34 3 rfl rfl ?_
    refine v_callV1v d11_feed_35 (mc8_append N p2 t6) yv8_append mlX11_157 (Recv.obj ic_20 rfl) (by decide) (Nat.le_of_ble_eq_true rfl) fun r7 t8 => ?_
    refine v_aload_n d11_feed_38 0 rfl rfl ?_
    refine v_getR d11_feed_39 faX11_19 ic_11 rfl ?_
    refine v_iload d11_feed_42 4 rfl ?_
    refine v_callV1v d11_feed_44 (mc8_append N p3 t8) yv8_append mlX11_157 (Recv.obj ic_20 rfl) (by decide) (Nat.le_of_ble_eq_true rfl) fun r9 t10 => ?_
    refine v_aload_n d11_feed_47 0 rfl rfl ?_
    refine v_getR d11_feed_48 faX11_19 ic_11 rfl ?_
    refine v_iload d11_feed_51 5 rfl ?_
    refine v_callV1v d11_feed_53 (mc8_append N p4 t10) yv8_append mlX11_157 (Recv.obj ic_20 rfl) (by decide) (Nat.le_of_ble_eq_true rfl) fun r11 t12 => ?_
    refine v_aload_n d11_feed_56 0 rfl rfl ?_
    refine v_getR d11_feed_57 faX11_19 ic_11 rfl ?_
    refine v_getI d11_feed_60 faX11_161 ic_20 ?_
    exact v_iret d11_feed_63 rfl rfl rfl
  · refine v_iconst d11_feed_12 ki_m1 ?_
    exact v_iret d11_feed_13 rfl rfl rfl
theorem d11_closeText_0 : decode cX11_closeText 0 = .ok (.aload_n 0, 1) := by decide +kernel
theorem d11_closeText_1 : decode cX11_closeText 1 = .ok (.aload_n 0, 1) := by decide +kernel
theorem d11_closeText_2 : decode cX11_closeText 2 = .ok (.getfield 19, 3) := by decide +kernel
theorem d11_closeText_5 : decode cX11_closeText 5 = .ok (.getfield 451, 3) := by decide +kernel
theorem d11_closeText_8 : decode cX11_closeText 8 = .ok (.putfield 90, 3) := by decide +kernel
theorem d11_closeText_11 : decode cX11_closeText 11 = .ok (.aload_n 0, 1) := by decide +kernel
theorem d11_closeText_12 : decode cX11_closeText 12 = .ok (.aload_n 0, 1) := by decide +kernel
theorem d11_closeText_13 : decode cX11_closeText 13 = .ok (.getfield 19, 3) := by decide +kernel
theorem d11_closeText_16 : decode cX11_closeText 16 = .ok (.getfield 454, 3) := by decide +kernel
theorem d11_closeText_19 : decode cX11_closeText 19 = .ok (.putfield 93, 3) := by decide +kernel
theorem d11_closeText_22 : decode cX11_closeText 22 = .ok (.aload_n 0, 1) := by decide +kernel
theorem d11_closeText_23 : decode cX11_closeText 23 = .ok (.getfield 19, 3) := by decide +kernel
theorem d11_closeText_26 : decode cX11_closeText 26 = .ok (.invokevirtual 457, 3) := by decide +kernel
theorem d11_closeText_29 : decode cX11_closeText 29 = .ok (.aload_n 0, 1) := by decide +kernel
theorem d11_closeText_30 : decode cX11_closeText 30 = .ok (.getfield 90, 3) := by decide +kernel
theorem d11_closeText_33 : decode cX11_closeText 33 = .ok (.ifCond .ne 7, 3) := by decide +kernel
theorem d11_closeText_36 : decode cX11_closeText 36 = .ok (.iconst 1, 1) := by decide +kernel
theorem d11_closeText_37 : decode cX11_closeText 37 = .ok (.goto 4, 3) := by decide +kernel
theorem d11_closeText_40 : decode cX11_closeText 40 = .ok (.iconst 0, 1) := by decide +kernel
theorem d11_closeText_41 : decode cX11_closeText 41 = .ok (.ireturn, 1) := by decide +kernel
abbrev K11_closeText : CK Int32 := (enI, (some .boolean), 1, 2, none)
noncomputable def F11_closeText (σ : Ms) : Option (Int32 × Ms) :=
  lt (sI σ 11 15 (σ.1 20 2)) (fun t1 => lt (sI t1 11 16 (t1.1 20 3)) (fun t2 => bn (F8_empty t2) (fun r3 t4 => if (t4.1 11 15) ≠ 0 then (some ((0 : Int32), t4))
  else (some ((1 : Int32), t4)))))
set_option maxRecDepth 100000 in
theorem mc11_closeText (σ : Ms) : MC enI yX11_closeText cX11_closeText 1 (some .boolean) 2 (F11_closeText σ) σ [.ref 11] := by
  refine MC.i (by decide +kernel) (Nat.le_of_ble_eq_true rfl) ?_
  show VF (K11_closeText) cX11_closeText RX11 (F11_closeText σ) σ 0 [(0, .ref 11)] []
  unfold F11_closeText
  refine v_aload_n d11_closeText_0 0 rfl rfl ?_
  refine v_aload_n d11_closeText_1 0 rfl rfl ?_
  refine v_getR d11_closeText_2 faX11_19 ic_11 rfl ?_
  refine v_getI d11_closeText_5 faX11_451 ic_20 ?_
  refine v_putI d11_closeText_8 faX11_90 fp8_15 ic_11 ?_
  refine v_lts fun t1 => ?_
  refine v_aload_n d11_closeText_11 0 rfl rfl ?_
  refine v_aload_n d11_closeText_12 0 rfl rfl ?_
  refine v_getR d11_closeText_13 faX11_19 ic_11 rfl ?_
  refine v_getI d11_closeText_16 faX11_454 ic_20 ?_
  refine v_putI d11_closeText_19 faX11_93 fp8_16 ic_11 ?_
  refine v_lts fun t2 => ?_
  refine v_aload_n d11_closeText_22 0 rfl rfl ?_
  refine v_getR d11_closeText_23 faX11_19 ic_11 rfl ?_
  refine v_callV0v d11_closeText_26 (mc8_empty t2) yv8_empty mlX11_457 (Recv.obj ic_20 rfl) (by decide) (Nat.le_of_ble_eq_true rfl) fun r3 t4 => ?_
  refine v_aload_n d11_closeText_29 0 rfl rfl ?_
  refine v_getI d11_closeText_30 faX11_90 ic_11 ?_
  refine v_if_ne (tgt := 40) d11_closeText_33 (by decide) ?_ ?_
  · refine v_iconst d11_closeText_40 ki_0 ?_
    exact v_iret (ty := .boolean) d11_closeText_41 rfl rfl rfl
  · refine v_iconst d11_closeText_36 ki_1 ?_
    refine v_goto (tgt := 41) d11_closeText_37 (by decide) ?_
    exact v_iret (ty := .boolean) d11_closeText_41 rfl rfl rfl
theorem d11_told_0 : decode cX11_told 0 = .ok (.aload_n 0, 1) := by decide +kernel
theorem d11_told_1 : decode cX11_told 1 = .ok (.iconst 0, 1) := by decide +kernel
theorem d11_told_2 : decode cX11_told 2 = .ok (.putfield 96, 3) := by decide +kernel
theorem d11_told_5 : decode cX11_told 5 = .ok (.iload_n 1, 1) := by decide +kernel
theorem d11_told_6 : decode cX11_told 6 = .ok (.ireturn, 1) := by decide +kernel
abbrev K11_told : CK Int32 := (enI, (some .int), 2, 1, none)
noncomputable def F11_told (p0 : Int32) (σ : Ms) : Option (Int32 × Ms) :=
  lt (sI σ 11 17 (0 : Int32)) (fun t1 => some (p0, t1))
set_option maxRecDepth 100000 in
theorem mc11_told (p0 : Int32) (σ : Ms) : MC enI yX11_told cX11_told 2 (some .int) 1 (F11_told p0 σ) σ [.ref 11, .int p0] := by
  refine MC.i (by decide +kernel) (Nat.le_of_ble_eq_true rfl) ?_
  show VF (K11_told) cX11_told RX11 (F11_told p0 σ) σ 0 [(0, .ref 11), (1, .int p0)] []
  unfold F11_told
  refine v_aload_n d11_told_0 0 rfl rfl ?_
  refine v_iconst d11_told_1 ki_0 ?_
  refine v_putI d11_told_2 faX11_96 fp8_17 ic_11 ?_
  refine v_lts fun t1 => ?_
  refine v_iload_n d11_told_5 1 rfl rfl ?_
  exact v_iret d11_told_6 rfl rfl rfl
theorem d11_hedge_0 : decode cX11_hedge 0 = .ok (.iload_n 1, 1) := by decide +kernel
theorem d11_hedge_1 : decode cX11_hedge 1 = .ok (.ifCond .lt 14, 3) := by decide +kernel
theorem d11_hedge_4 : decode cX11_hedge 4 = .ok (.iload_n 1, 1) := by decide +kernel
theorem d11_hedge_5 : decode cX11_hedge 5 = .ok (.aload_n 0, 1) := by decide +kernel
theorem d11_hedge_6 : decode cX11_hedge 6 = .ok (.getfield 19, 3) := by decide +kernel
theorem d11_hedge_9 : decode cX11_hedge 9 = .ok (.getfield 161, 3) := by decide +kernel
theorem d11_hedge_12 : decode cX11_hedge 12 = .ok (.if_icmp .le 9, 3) := by decide +kernel
theorem d11_hedge_15 : decode cX11_hedge 15 = .ok (.aload_n 0, 1) := by decide +kernel
theorem d11_hedge_16 : decode cX11_hedge 16 = .ok (.iconst 5, 1) := by decide +kernel
theorem d11_hedge_17 : decode cX11_hedge 17 = .ok (.invokevirtual 132, 3) := by decide +kernel
theorem d11_hedge_20 : decode cX11_hedge 20 = .ok (.ireturn, 1) := by decide +kernel
theorem d11_hedge_21 : decode cX11_hedge 21 = .ok (.aload_n 0, 1) := by decide +kernel
theorem d11_hedge_22 : decode cX11_hedge 22 = .ok (.getfield 19, 3) := by decide +kernel
theorem d11_hedge_25 : decode cX11_hedge 25 = .ok (.iload_n 1, 1) := by decide +kernel
theorem d11_hedge_26 : decode cX11_hedge 26 = .ok (.invokevirtual 164, 3) := by decide +kernel
theorem d11_hedge_29 : decode cX11_hedge 29 = .ok (.aload_n 0, 1) := by decide +kernel
theorem d11_hedge_30 : decode cX11_hedge 30 = .ok (.getfield 19, 3) := by decide +kernel
theorem d11_hedge_33 : decode cX11_hedge 33 = .ok (.aload_n 0, 1) := by decide +kernel
theorem d11_hedge_34 : decode cX11_hedge 34 = .ok (.getfield 30, 3) := by decide +kernel
theorem d11_hedge_37 : decode cX11_hedge 37 = .ok (.invokestatic 167, 3) := by decide +kernel
theorem d11_hedge_40 : decode cX11_hedge 40 = .ok (.aload_n 0, 1) := by decide +kernel
theorem d11_hedge_41 : decode cX11_hedge 41 = .ok (.invokevirtual 173, 3) := by decide +kernel
theorem d11_hedge_44 : decode cX11_hedge 44 = .ok (.ifCond .ne 10, 3) := by decide +kernel
theorem d11_hedge_47 : decode cX11_hedge 47 = .ok (.aload_n 0, 1) := by decide +kernel
theorem d11_hedge_48 : decode cX11_hedge 48 = .ok (.bipush 10, 2) := by decide +kernel
theorem d11_hedge_50 : decode cX11_hedge 50 = .ok (.invokevirtual 132, 3) := by decide +kernel
theorem d11_hedge_53 : decode cX11_hedge 53 = .ok (.ireturn, 1) := by decide +kernel
theorem d11_hedge_54 : decode cX11_hedge 54 = .ok (.aload_n 0, 1) := by decide +kernel
theorem d11_hedge_55 : decode cX11_hedge 55 = .ok (.getfield 30, 3) := by decide +kernel
theorem d11_hedge_58 : decode cX11_hedge 58 = .ok (.aload_n 0, 1) := by decide +kernel
theorem d11_hedge_59 : decode cX11_hedge 59 = .ok (.getfield 26, 3) := by decide +kernel
theorem d11_hedge_62 : decode cX11_hedge 62 = .ok (.invokestatic 176, 3) := by decide +kernel
theorem d11_hedge_65 : decode cX11_hedge 65 = .ok (.aload_n 0, 1) := by decide +kernel
theorem d11_hedge_66 : decode cX11_hedge 66 = .ok (.getfield 36, 3) := by decide +kernel
theorem d11_hedge_69 : decode cX11_hedge 69 = .ok (.invokevirtual 180, 3) := by decide +kernel
theorem d11_hedge_72 : decode cX11_hedge 72 = .ok (.aload_n 0, 1) := by decide +kernel
theorem d11_hedge_73 : decode cX11_hedge 73 = .ok (.aload_n 0, 1) := by decide +kernel
theorem d11_hedge_74 : decode cX11_hedge 74 = .ok (.getfield 26, 3) := by decide +kernel
theorem d11_hedge_77 : decode cX11_hedge 77 = .ok (.getfield 183, 3) := by decide +kernel
theorem d11_hedge_80 : decode cX11_hedge 80 = .ok (.invokevirtual 186, 3) := by decide +kernel
theorem d11_hedge_83 : decode cX11_hedge 83 = .ok (.ireturn, 1) := by decide +kernel
abbrev K11_hedge : CK Int32 := (enI, (some .int), 2, 9, none)
noncomputable def F11_hedge_b15 (N : Nat) (σ : Ms) : Option (Int32 × Ms) :=
  bn (F11_none (5 : Int32) σ) (fun r1 t2 => some (r1, t2))
noncomputable def F11_hedge (N : Nat) (p0 : Int32) (σ : Ms) : Option (Int32 × Ms) :=
  if p0 < 0 then (F11_hedge_b15 N σ)
  else (if p0 ≤ (σ.1 20 1) then (bn (F8_open N p0 σ) (fun r3 t4 => bn (F1_parse N 30 t4) (fun r5 t6 => bn (F11_closeText t6) (fun r7 t8 => if r7 ≠ 0 then (bn (F0_copy N 30 22 t8) (fun r9 t10 => bn (F5_forget 62 t10) (fun r11 t12 => bn (F11_told (t12.1 22 5) t12) (fun r13 t14 => some (r13, t14)))))
  else (bn (F11_none (10 : Int32) t8) (fun r15 t16 => some (r15, t16)))))))
  else (F11_hedge_b15 N σ))
set_option maxRecDepth 100000 in
theorem v11_hedge_b15 (N : Nat) (σ : Ms) : VF (K11_hedge) cX11_hedge RX11 (F11_hedge_b15 N σ) σ 15 [(0, .ref 11)] [] := by
  unfold F11_hedge_b15
  refine v_aload_n d11_hedge_15 0 rfl rfl ?_
  refine v_iconst d11_hedge_16 ki_5 ?_
  refine v_callV1i d11_hedge_17 (mc11_none (5 : Int32) σ) yv11_none mlX11_132 (Recv.obj ic_11 rfl) (by decide) (Nat.le_of_ble_eq_true rfl) fun r1 t2 => ?_
  exact v_iret d11_hedge_20 rfl rfl rfl
set_option maxRecDepth 100000 in
theorem mc11_hedge (N : Nat) (p0 : Int32) (σ : Ms) : MC enI yX11_hedge cX11_hedge 2 (some .int) 9 (F11_hedge N p0 σ) σ [.ref 11, .int p0] := by
  refine MC.i (by decide +kernel) (Nat.le_of_ble_eq_true rfl) ?_
  show VF (K11_hedge) cX11_hedge RX11 (F11_hedge N p0 σ) σ 0 [(0, .ref 11), (1, .int p0)] []
  unfold F11_hedge
  refine v_iload_n d11_hedge_0 1 rfl rfl ?_
  refine v_if_lt (tgt := 15) d11_hedge_1 (by decide) ?_ ?_
  · refine v_sub [0] rfl ?_
    exact v11_hedge_b15 N σ
  · refine v_iload_n d11_hedge_4 1 rfl rfl ?_
    refine v_aload_n d11_hedge_5 0 rfl rfl ?_
    refine v_getR d11_hedge_6 faX11_19 ic_11 rfl ?_
    refine v_getI d11_hedge_9 faX11_161 ic_20 ?_
    refine v_icmp_le (tgt := 21) d11_hedge_12 (by decide) ?_ ?_
    · refine v_aload_n d11_hedge_21 0 rfl rfl ?_
      refine v_getR d11_hedge_22 faX11_19 ic_11 rfl ?_
      refine v_iload_n d11_hedge_25 1 rfl rfl ?_
      refine v_callV1v d11_hedge_26 (mc8_open N p0 σ) yv8_open mlX11_164 (Recv.obj ic_20 rfl) (by decide) (Nat.le_of_ble_eq_true rfl) fun r3 t4 => ?_
      refine v_aload_n d11_hedge_29 0 rfl rfl ?_
      refine v_getR d11_hedge_30 faX11_19 ic_11 rfl ?_
      refine v_aload_n d11_hedge_33 0 rfl rfl ?_
      refine v_getR d11_hedge_34 faX11_30 ic_11 rfl ?_
      refine v_callS2v d11_hedge_37 (mc1_parse N 30 ic_30 t4) ys1_parse mlX11_167 (by decide) (Nat.le_of_ble_eq_true rfl) fun r5 t6 => ?_
      refine v_aload_n d11_hedge_40 0 rfl rfl ?_
      refine v_callV0i d11_hedge_41 (mc11_closeText t6) yv11_closeText mlX11_173 (Recv.obj ic_11 rfl) (by decide) (Nat.le_of_ble_eq_true rfl) fun r7 t8 => ?_
      refine v_if_ne (tgt := 54) d11_hedge_44 (by decide) ?_ ?_
      · refine v_aload_n d11_hedge_54 0 rfl rfl ?_
        refine v_getR d11_hedge_55 faX11_30 ic_11 rfl ?_
        refine v_aload_n d11_hedge_58 0 rfl rfl ?_
        refine v_getR d11_hedge_59 faX11_26 ic_11 rfl ?_
        refine v_callS2v d11_hedge_62 (mc0_copy N 30 ic_30 22 ic_22 t8) ys0_copy mlX11_176 (by decide) (Nat.le_of_ble_eq_true rfl) fun r9 t10 => ?_
        refine v_aload_n d11_hedge_65 0 rfl rfl ?_
        refine v_getR d11_hedge_66 faX11_36 ic_11 rfl ?_
        refine v_callV0v d11_hedge_69 (mc5_forget 62 ic_62 t10) yv5_forget mlX11_180 (Recv.obj ic_62 rfl) (by decide) (Nat.le_of_ble_eq_true rfl) fun r11 t12 => ?_
        refine v_aload_n d11_hedge_72 0 rfl rfl ?_
        refine v_aload_n d11_hedge_73 0 rfl rfl ?_
        refine v_getR d11_hedge_74 faX11_26 ic_11 rfl ?_
        refine v_getI d11_hedge_77 faX11_183 ic_22 ?_
        refine v_callV1i d11_hedge_80 (mc11_told (t12.1 22 5) t12) yv11_told mlX11_186 (Recv.obj ic_11 rfl) (by decide) (Nat.le_of_ble_eq_true rfl) fun r13 t14 => ?_
        exact v_iret d11_hedge_83 rfl rfl rfl
      · refine v_aload_n d11_hedge_47 0 rfl rfl ?_
        refine v_bipush d11_hedge_48 kb_10 ?_
        refine v_callV1i d11_hedge_50 (mc11_none (10 : Int32) t8) yv11_none mlX11_132 (Recv.obj ic_11 rfl) (by decide) (Nat.le_of_ble_eq_true rfl) fun r15 t16 => ?_
        exact v_iret d11_hedge_53 rfl rfl rfl
    · refine v_sub [0] rfl ?_
      exact v11_hedge_b15 N σ
theorem d11_seasons_0 : decode cX11_seasons 0 = .ok (.iload_n 1, 1) := by decide +kernel
theorem d11_seasons_1 : decode cX11_seasons 1 = .ok (.ifCond .lt 21, 3) := by decide +kernel
theorem d11_seasons_4 : decode cX11_seasons 4 = .ok (.iload_n 1, 1) := by decide +kernel
theorem d11_seasons_5 : decode cX11_seasons 5 = .ok (.aload_n 0, 1) := by decide +kernel
theorem d11_seasons_6 : decode cX11_seasons 6 = .ok (.getfield 19, 3) := by decide +kernel
theorem d11_seasons_9 : decode cX11_seasons 9 = .ok (.getfield 161, 3) := by decide +kernel
theorem d11_seasons_12 : decode cX11_seasons 12 = .ok (.if_icmp .gt 10, 3) := by decide +kernel
theorem d11_seasons_15 : decode cX11_seasons 15 = .ok (.iload_n 1, 1) := by decide +kernel
theorem d11_seasons_16 : decode cX11_seasons 16 = .ok (.sipush 300, 3) := by decide +kernel
theorem d11_seasons_19 : decode cX11_seasons 19 = .ok (.if_icmp .le 9, 3) := by decide +kernel
theorem d11_seasons_22 : decode cX11_seasons 22 = .ok (.aload_n 0, 1) := by decide +kernel
theorem d11_seasons_23 : decode cX11_seasons 23 = .ok (.iconst 5, 1) := by decide +kernel
theorem d11_seasons_24 : decode cX11_seasons 24 = .ok (.invokevirtual 132, 3) := by decide +kernel
theorem d11_seasons_27 : decode cX11_seasons 27 = .ok (.ireturn, 1) := by decide +kernel
theorem d11_seasons_28 : decode cX11_seasons 28 = .ok (.aload_n 0, 1) := by decide +kernel
theorem d11_seasons_29 : decode cX11_seasons 29 = .ok (.getfield 19, 3) := by decide +kernel
theorem d11_seasons_32 : decode cX11_seasons 32 = .ok (.iload_n 1, 1) := by decide +kernel
theorem d11_seasons_33 : decode cX11_seasons 33 = .ok (.invokevirtual 164, 3) := by decide +kernel
theorem d11_seasons_36 : decode cX11_seasons 36 = .ok (.aload_n 0, 1) := by decide +kernel
theorem d11_seasons_37 : decode cX11_seasons 37 = .ok (.getfield 19, 3) := by decide +kernel
theorem d11_seasons_40 : decode cX11_seasons 40 = .ok (.aload_n 0, 1) := by decide +kernel
theorem d11_seasons_41 : decode cX11_seasons 41 = .ok (.getfield 40, 3) := by decide +kernel
theorem d11_seasons_44 : decode cX11_seasons 44 = .ok (.invokestatic 189, 3) := by decide +kernel
theorem d11_seasons_47 : decode cX11_seasons 47 = .ok (.aload_n 0, 1) := by decide +kernel
theorem d11_seasons_48 : decode cX11_seasons 48 = .ok (.invokevirtual 173, 3) := by decide +kernel
theorem d11_seasons_51 : decode cX11_seasons 51 = .ok (.ifCond .ne 10, 3) := by decide +kernel
theorem d11_seasons_54 : decode cX11_seasons 54 = .ok (.aload_n 0, 1) := by decide +kernel
theorem d11_seasons_55 : decode cX11_seasons 55 = .ok (.bipush 10, 2) := by decide +kernel
theorem d11_seasons_57 : decode cX11_seasons 57 = .ok (.invokevirtual 132, 3) := by decide +kernel
theorem d11_seasons_60 : decode cX11_seasons 60 = .ok (.ireturn, 1) := by decide +kernel
theorem d11_seasons_61 : decode cX11_seasons 61 = .ok (.aload_n 0, 1) := by decide +kernel
theorem d11_seasons_62 : decode cX11_seasons 62 = .ok (.getfield 40, 3) := by decide +kernel
theorem d11_seasons_65 : decode cX11_seasons 65 = .ok (.aload_n 0, 1) := by decide +kernel
theorem d11_seasons_66 : decode cX11_seasons 66 = .ok (.getfield 36, 3) := by decide +kernel
theorem d11_seasons_69 : decode cX11_seasons 69 = .ok (.invokestatic 194, 3) := by decide +kernel
theorem d11_seasons_72 : decode cX11_seasons 72 = .ok (.aload_n 0, 1) := by decide +kernel
theorem d11_seasons_73 : decode cX11_seasons 73 = .ok (.aload_n 0, 1) := by decide +kernel
theorem d11_seasons_74 : decode cX11_seasons 74 = .ok (.getfield 36, 3) := by decide +kernel
theorem d11_seasons_77 : decode cX11_seasons 77 = .ok (.getfield 197, 3) := by decide +kernel
theorem d11_seasons_80 : decode cX11_seasons 80 = .ok (.invokevirtual 186, 3) := by decide +kernel
theorem d11_seasons_83 : decode cX11_seasons 83 = .ok (.ireturn, 1) := by decide +kernel
abbrev K11_seasons : CK Int32 := (enI, (some .int), 2, 10, none)
noncomputable def F11_seasons_b22 (N : Nat) (σ : Ms) : Option (Int32 × Ms) :=
  bn (F11_none (5 : Int32) σ) (fun r1 t2 => some (r1, t2))
noncomputable def F11_seasons (N : Nat) (p0 : Int32) (σ : Ms) : Option (Int32 × Ms) :=
  if p0 < 0 then (F11_seasons_b22 N σ)
  else (if (σ.1 20 1) < p0 then (F11_seasons_b22 N σ)
  else (if p0 ≤ (300 : Int32) then (bn (F8_open N p0 σ) (fun r3 t4 => bn (F6_parse N 69 t4) (fun r5 t6 => bn (F11_closeText t6) (fun r7 t8 => if r7 ≠ 0 then (bn (F5_copy N 69 62 t8) (fun r9 t10 => bn (F11_told (t10.1 62 1) t10) (fun r11 t12 => some (r11, t12))))
  else (bn (F11_none (10 : Int32) t8) (fun r13 t14 => some (r13, t14)))))))
  else (F11_seasons_b22 N σ)))
set_option maxRecDepth 100000 in
theorem v11_seasons_b22 (N : Nat) (σ : Ms) : VF (K11_seasons) cX11_seasons RX11 (F11_seasons_b22 N σ) σ 22 [(0, .ref 11)] [] := by
  unfold F11_seasons_b22
  refine v_aload_n d11_seasons_22 0 rfl rfl ?_
  refine v_iconst d11_seasons_23 ki_5 ?_
  refine v_callV1i d11_seasons_24 (mc11_none (5 : Int32) σ) yv11_none mlX11_132 (Recv.obj ic_11 rfl) (by decide) (Nat.le_of_ble_eq_true rfl) fun r1 t2 => ?_
  exact v_iret d11_seasons_27 rfl rfl rfl
set_option maxRecDepth 100000 in
theorem mc11_seasons (N : Nat) (p0 : Int32) (σ : Ms) : MC enI yX11_seasons cX11_seasons 2 (some .int) 10 (F11_seasons N p0 σ) σ [.ref 11, .int p0] := by
  refine MC.i (by decide +kernel) (Nat.le_of_ble_eq_true rfl) ?_
  show VF (K11_seasons) cX11_seasons RX11 (F11_seasons N p0 σ) σ 0 [(0, .ref 11), (1, .int p0)] []
  unfold F11_seasons
  refine v_iload_n d11_seasons_0 1 rfl rfl ?_
  refine v_if_lt (tgt := 22) d11_seasons_1 (by decide) ?_ ?_
  · refine v_sub [0] rfl ?_
    exact v11_seasons_b22 N σ
  · refine v_iload_n d11_seasons_4 1 rfl rfl ?_
    refine v_aload_n d11_seasons_5 0 rfl rfl ?_
    refine v_getR d11_seasons_6 faX11_19 ic_11 rfl ?_
    refine v_getI d11_seasons_9 faX11_161 ic_20 ?_
    refine v_icmp_gt (tgt := 22) d11_seasons_12 (by decide) ?_ ?_
    · refine v_sub [0] rfl ?_
      exact v11_seasons_b22 N σ
    · refine v_iload_n d11_seasons_15 1 rfl rfl ?_
      refine v_sipush d11_seasons_16 ks_300 ?_
      refine v_icmp_le (tgt := 28) d11_seasons_19 (by decide) ?_ ?_
      · refine v_aload_n d11_seasons_28 0 rfl rfl ?_
        refine v_getR d11_seasons_29 faX11_19 ic_11 rfl ?_
        refine v_iload_n d11_seasons_32 1 rfl rfl ?_
        refine v_callV1v d11_seasons_33 (mc8_open N p0 σ) yv8_open mlX11_164 (Recv.obj ic_20 rfl) (by decide) (Nat.le_of_ble_eq_true rfl) fun r3 t4 => ?_
        refine v_aload_n d11_seasons_36 0 rfl rfl ?_
        refine v_getR d11_seasons_37 faX11_19 ic_11 rfl ?_
        refine v_aload_n d11_seasons_40 0 rfl rfl ?_
        refine v_getR d11_seasons_41 faX11_40 ic_11 rfl ?_
        refine v_callS2v d11_seasons_44 (mc6_parse N 69 ic_69 t4) ys6_parse mlX11_189 (by decide) (Nat.le_of_ble_eq_true rfl) fun r5 t6 => ?_
        refine v_aload_n d11_seasons_47 0 rfl rfl ?_
        refine v_callV0i d11_seasons_48 (mc11_closeText t6) yv11_closeText mlX11_173 (Recv.obj ic_11 rfl) (by decide) (Nat.le_of_ble_eq_true rfl) fun r7 t8 => ?_
        refine v_if_ne (tgt := 61) d11_seasons_51 (by decide) ?_ ?_
        · refine v_aload_n d11_seasons_61 0 rfl rfl ?_
          refine v_getR d11_seasons_62 faX11_40 ic_11 rfl ?_
          refine v_aload_n d11_seasons_65 0 rfl rfl ?_
          refine v_getR d11_seasons_66 faX11_36 ic_11 rfl ?_
          refine v_callS2v d11_seasons_69 (mc5_copy N 69 ic_69 62 ic_62 t8) ys5_copy mlX11_194 (by decide) (Nat.le_of_ble_eq_true rfl) fun r9 t10 => ?_
          refine v_aload_n d11_seasons_72 0 rfl rfl ?_
          refine v_aload_n d11_seasons_73 0 rfl rfl ?_
          refine v_getR d11_seasons_74 faX11_36 ic_11 rfl ?_
          refine v_getI d11_seasons_77 faX11_197 ic_62 ?_
          refine v_callV1i d11_seasons_80 (mc11_told (t10.1 62 1) t10) yv11_told mlX11_186 (Recv.obj ic_11 rfl) (by decide) (Nat.le_of_ble_eq_true rfl) fun r11 t12 => ?_
          exact v_iret d11_seasons_83 rfl rfl rfl
        · refine v_aload_n d11_seasons_54 0 rfl rfl ?_
          refine v_bipush d11_seasons_55 kb_10 ?_
          refine v_callV1i d11_seasons_57 (mc11_none (10 : Int32) t8) yv11_none mlX11_132 (Recv.obj ic_11 rfl) (by decide) (Nat.le_of_ble_eq_true rfl) fun r13 t14 => ?_
          exact v_iret d11_seasons_60 rfl rfl rfl
      · refine v_sub [0] rfl ?_
        exact v11_seasons_b22 N σ
