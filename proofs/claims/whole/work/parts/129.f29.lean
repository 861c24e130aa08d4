theorem d12_moves_0 : decode cX12_moves 0 = .ok (.aload_n 0, 1) := by decide +kernel
theorem d12_moves_1 : decode cX12_moves 1 = .ok (.iconst 0, 1) := by decide +kernel
theorem d12_moves_2 : decode cX12_moves 2 = .ok (.putfield 53, 3) := by decide +kernel
theorem d12_moves_5 : decode cX12_moves 5 = .ok (.aload_n 0, 1) := by decide +kernel
theorem d12_moves_6 : decode cX12_moves 6 = .ok (.iconst 0, 1) := by decide +kernel
theorem d12_moves_7 : decode cX12_moves 7 = .ok (.putfield 56, 3) := by decide +kernel
theorem d12_moves_10 : decode cX12_moves 10 = .ok (.iload_n 1, 1) := by decide +kernel
theorem d12_moves_11 : decode cX12_moves 11 = .ok (.invokestatic 297, 3) := by decide +kernel
theorem d12_moves_14 : decode cX12_moves 14 = .ok (.ifCond .ne 9, 3) := by decide +kernel
theorem d12_moves_17 : decode cX12_moves 17 = .ok (.aload_n 0, 1) := by decide +kernel
theorem d12_moves_18 : decode cX12_moves 18 = .ok (.iconst 2, 1) := by decide +kernel
theorem d12_moves_19 : decode cX12_moves 19 = .ok (.invokevirtual 265, 3) := by decide +kernel
theorem d12_moves_22 : decode cX12_moves 22 = .ok (.ireturn, 1) := by decide +kernel
theorem d12_moves_23 : decode cX12_moves 23 = .ok (.aload_n 0, 1) := by decide +kernel
theorem d12_moves_24 : decode cX12_moves 24 = .ok (.iload_n 1, 1) := by decide +kernel
theorem d12_moves_25 : decode cX12_moves 25 = .ok (.invokevirtual 401, 3) := by decide +kernel
theorem d12_moves_28 : decode cX12_moves 28 = .ok (.aload_n 0, 1) := by decide +kernel
theorem d12_moves_29 : decode cX12_moves 29 = .ok (.getfield 382, 3) := by decide +kernel
theorem d12_moves_32 : decode cX12_moves 32 = .ok (.ireturn, 1) := by decide +kernel
abbrev K12_moves : CK Int32 := (enI, (some .int), 2, 7, none)
noncomputable def F12_moves (N : Nat) (p0 : Int32) (σ : Ms) : Option (Int32 × Ms) :=
  lt (sI σ 0 1 (0 : Int32)) (fun t1 => lt (sI t1 0 0 (0 : Int32)) (fun t2 => bn (F12_isSideAt p0 t2) (fun r3 t4 => if r3 ≠ 0 then (bn (F12_laysMoves N p0 t4) (fun r5 t6 => some ((t6.1 0 28), t6)))
  else (bn (F12_refuse (2 : Int32) t4) (fun r7 t8 => some (r7, t8))))))
set_option maxRecDepth 100000 in
theorem mc12_moves (N : Nat) (p0 : Int32) (σ : Ms) : MC enI yX12_moves cX12_moves 2 (some .int) 7 (F12_moves N p0 σ) σ [.ref 0, .int p0] := by
  refine MC.i (by decide +kernel) (Nat.le_of_ble_eq_true rfl) ?_
  show VF (K12_moves) cX12_moves RX12 (F12_moves N p0 σ) σ 0 [(0, .ref 0), (1, .int p0)] []
  unfold F12_moves
  refine v_aload_n d12_moves_0 0 rfl rfl ?_
  refine v_iconst d12_moves_1 ki_0 ?_
  refine v_putI d12_moves_2 faX12_53 fp9_1 ic_0 ?_
  refine v_lts fun t1 => ?_
  refine v_aload_n d12_moves_5 0 rfl rfl ?_
  refine v_iconst d12_moves_6 ki_0 ?_
  refine v_putI d12_moves_7 faX12_56 fp9_0 ic_0 ?_
  refine v_lts fun t2 => ?_
  refine v_iload_n d12_moves_10 1 rfl rfl ?_
  refine v_callS1i d12_moves_11 (mc12_isSideAt p0 t2) ys12_isSideAt mlX12_297 (by decide) (Nat.le_of_ble_eq_true rfl) fun r3 t4 => ?_
  refine v_if_ne (tgt := 23) d12_moves_14 (by decide) ?_ ?_
  · refine v_aload_n d12_moves_23 0 rfl rfl ?_
    refine v_iload_n d12_moves_24 1 rfl rfl ?_
    refine v_callV1v d12_moves_25 (mc12_laysMoves N p0 t4) yv12_laysMoves mlX12_401 (Recv.obj ic_0 rfl) (by decide) (Nat.le_of_ble_eq_true rfl) fun r5 t6 => ?_
    refine v_aload_n d12_moves_28 0 rfl rfl ?_
    refine v_getI d12_moves_29 faX12_382 ic_0 ?_
    exact v_iret d12_moves_32 rfl rfl rfl
  · refine v_aload_n d12_moves_17 0 rfl rfl ?_
    refine v_iconst d12_moves_18 ki_2 ?_
    refine v_callV1i d12_moves_19 (mc12_refuse (2 : Int32) t4) yv12_refuse mlX12_265 (Recv.obj ic_0 rfl) (by decide) (Nat.le_of_ble_eq_true rfl) fun r7 t8 => ?_
    exact v_iret d12_moves_22 rfl rfl rfl
theorem d12_wins_0 : decode cX12_wins 0 = .ok (.aload_n 0, 1) := by decide +kernel
theorem d12_wins_1 : decode cX12_wins 1 = .ok (.iconst 0, 1) := by decide +kernel
theorem d12_wins_2 : decode cX12_wins 2 = .ok (.putfield 53, 3) := by decide +kernel
theorem d12_wins_5 : decode cX12_wins 5 = .ok (.aload_n 0, 1) := by decide +kernel
theorem d12_wins_6 : decode cX12_wins 6 = .ok (.iconst 0, 1) := by decide +kernel
theorem d12_wins_7 : decode cX12_wins 7 = .ok (.putfield 56, 3) := by decide +kernel
theorem d12_wins_10 : decode cX12_wins 10 = .ok (.iload_n 1, 1) := by decide +kernel
theorem d12_wins_11 : decode cX12_wins 11 = .ok (.invokestatic 297, 3) := by decide +kernel
theorem d12_wins_14 : decode cX12_wins 14 = .ok (.ifCond .ne 9, 3) := by decide +kernel
theorem d12_wins_17 : decode cX12_wins 17 = .ok (.aload_n 0, 1) := by decide +kernel
theorem d12_wins_18 : decode cX12_wins 18 = .ok (.iconst 2, 1) := by decide +kernel
theorem d12_wins_19 : decode cX12_wins 19 = .ok (.invokevirtual 265, 3) := by decide +kernel
theorem d12_wins_22 : decode cX12_wins 22 = .ok (.ireturn, 1) := by decide +kernel
theorem d12_wins_23 : decode cX12_wins 23 = .ok (.aload_n 0, 1) := by decide +kernel
theorem d12_wins_24 : decode cX12_wins 24 = .ok (.iload_n 1, 1) := by decide +kernel
theorem d12_wins_25 : decode cX12_wins 25 = .ok (.invokevirtual 401, 3) := by decide +kernel
theorem d12_wins_28 : decode cX12_wins 28 = .ok (.aload_n 0, 1) := by decide +kernel
theorem d12_wins_29 : decode cX12_wins 29 = .ok (.getfield 385, 3) := by decide +kernel
theorem d12_wins_32 : decode cX12_wins 32 = .ok (.ireturn, 1) := by decide +kernel
abbrev K12_wins : CK Int32 := (enI, (some .int), 2, 7, none)
noncomputable def F12_wins (N : Nat) (p0 : Int32) (σ : Ms) : Option (Int32 × Ms) :=
  lt (sI σ 0 1 (0 : Int32)) (fun t1 => lt (sI t1 0 0 (0 : Int32)) (fun t2 => bn (F12_isSideAt p0 t2) (fun r3 t4 => if r3 ≠ 0 then (bn (F12_laysMoves N p0 t4) (fun r5 t6 => some ((t6.1 0 29), t6)))
  else (bn (F12_refuse (2 : Int32) t4) (fun r7 t8 => some (r7, t8))))))
set_option maxRecDepth 100000 in
theorem mc12_wins (N : Nat) (p0 : Int32) (σ : Ms) : MC enI yX12_wins cX12_wins 2 (some .int) 7 (F12_wins N p0 σ) σ [.ref 0, .int p0] := by
  refine MC.i (by decide +kernel) (Nat.le_of_ble_eq_true rfl) ?_
  show VF (K12_wins) cX12_wins RX12 (F12_wins N p0 σ) σ 0 [(0, .ref 0), (1, .int p0)] []
  unfold F12_wins
  refine v_aload_n d12_wins_0 0 rfl rfl ?_
  refine v_iconst d12_wins_1 ki_0 ?_
  refine v_putI d12_wins_2 faX12_53 fp9_1 ic_0 ?_
  refine v_lts fun t1 => ?_
  refine v_aload_n d12_wins_5 0 rfl rfl ?_
  refine v_iconst d12_wins_6 ki_0 ?_
  refine v_putI d12_wins_7 faX12_56 fp9_0 ic_0 ?_
  refine v_lts fun t2 => ?_
  refine v_iload_n d12_wins_10 1 rfl rfl ?_
  refine v_callS1i d12_wins_11 (mc12_isSideAt p0 t2) ys12_isSideAt mlX12_297 (by decide) (Nat.le_of_ble_eq_true rfl) fun r3 t4 => ?_
  refine v_if_ne (tgt := 23) d12_wins_14 (by decide) ?_ ?_
  · refine v_aload_n d12_wins_23 0 rfl rfl ?_
    refine v_iload_n d12_wins_24 1 rfl rfl ?_
    refine v_callV1v d12_wins_25 (mc12_laysMoves N p0 t4) yv12_laysMoves mlX12_401 (Recv.obj ic_0 rfl) (by decide) (Nat.le_of_ble_eq_true rfl) fun r5 t6 => ?_
    refine v_aload_n d12_wins_28 0 rfl rfl ?_
    refine v_getI d12_wins_29 faX12_385 ic_0 ?_
    exact v_iret d12_wins_32 rfl rfl rfl
  · refine v_aload_n d12_wins_17 0 rfl rfl ?_
    refine v_iconst d12_wins_18 ki_2 ?_
    refine v_callV1i d12_wins_19 (mc12_refuse (2 : Int32) t4) yv12_refuse mlX12_265 (Recv.obj ic_0 rfl) (by decide) (Nat.le_of_ble_eq_true rfl) fun r7 t8 => ?_
    exact v_iret d12_wins_22 rfl rfl rfl
theorem d12_bestOf_0 : decode cX12_bestOf 0 = .ok (.aload_n 0, 1) := by decide +kernel
theorem d12_bestOf_1 : decode cX12_bestOf 1 = .ok (.iconst 0, 1) := by decide +kernel
theorem d12_bestOf_2 : decode cX12_bestOf 2 = .ok (.putfield 53, 3) := by decide +kernel
theorem d12_bestOf_5 : decode cX12_bestOf 5 = .ok (.aload_n 0, 1) := by decide +kernel
theorem d12_bestOf_6 : decode cX12_bestOf 6 = .ok (.iconst 0, 1) := by decide +kernel
theorem d12_bestOf_7 : decode cX12_bestOf 7 = .ok (.putfield 56, 3) := by decide +kernel
theorem d12_bestOf_10 : decode cX12_bestOf 10 = .ok (.iload_n 1, 1) := by decide +kernel
theorem d12_bestOf_11 : decode cX12_bestOf 11 = .ok (.invokestatic 297, 3) := by decide +kernel
theorem d12_bestOf_14 : decode cX12_bestOf 14 = .ok (.ifCond .ne 9, 3) := by decide +kernel
theorem d12_bestOf_17 : decode cX12_bestOf 17 = .ok (.aload_n 0, 1) := by decide +kernel
theorem d12_bestOf_18 : decode cX12_bestOf 18 = .ok (.iconst 2, 1) := by decide +kernel
theorem d12_bestOf_19 : decode cX12_bestOf 19 = .ok (.invokevirtual 265, 3) := by decide +kernel
theorem d12_bestOf_22 : decode cX12_bestOf 22 = .ok (.ireturn, 1) := by decide +kernel
theorem d12_bestOf_23 : decode cX12_bestOf 23 = .ok (.iload_n 2, 1) := by decide +kernel
theorem d12_bestOf_24 : decode cX12_bestOf 24 = .ok (.i2l, 1) := by decide +kernel
theorem d12_bestOf_25 : decode cX12_bestOf 25 = .ok (.lconst 0, 1) := by decide +kernel
theorem d12_bestOf_26 : decode cX12_bestOf 26 = .ok (.ldc2_w 355, 3) := by decide +kernel
theorem d12_bestOf_29 : decode cX12_bestOf 29 = .ok (.invokestatic 88, 3) := by decide +kernel
theorem d12_bestOf_32 : decode cX12_bestOf 32 = .ok (.ifCond .ne 9, 3) := by decide +kernel
theorem d12_bestOf_35 : decode cX12_bestOf 35 = .ok (.aload_n 0, 1) := by decide +kernel
theorem d12_bestOf_36 : decode cX12_bestOf 36 = .ok (.iconst 5, 1) := by decide +kernel
theorem d12_bestOf_37 : decode cX12_bestOf 37 = .ok (.invokevirtual 265, 3) := by decide +kernel
theorem d12_bestOf_40 : decode cX12_bestOf 40 = .ok (.ireturn, 1) := by decide +kernel
theorem d12_bestOf_41 : decode cX12_bestOf 41 = .ok (.aload_n 0, 1) := by decide +kernel
theorem d12_bestOf_42 : decode cX12_bestOf 42 = .ok (.iload_n 1, 1) := by decide +kernel
theorem d12_bestOf_43 : decode cX12_bestOf 43 = .ok (.invokevirtual 401, 3) := by decide +kernel
theorem d12_bestOf_46 : decode cX12_bestOf 46 = .ok (.aload_n 0, 1) := by decide +kernel
theorem d12_bestOf_47 : decode cX12_bestOf 47 = .ok (.getfield 385, 3) := by decide +kernel
theorem d12_bestOf_50 : decode cX12_bestOf 50 = .ok (.ifCond .ne 10, 3) := by decide +kernel
theorem d12_bestOf_53 : decode cX12_bestOf 53 = .ok (.aload_n 0, 1) := by decide +kernel
theorem d12_bestOf_54 : decode cX12_bestOf 54 = .ok (.bipush 8, 2) := by decide +kernel
theorem d12_bestOf_56 : decode cX12_bestOf 56 = .ok (.invokevirtual 265, 3) := by decide +kernel
theorem d12_bestOf_59 : decode cX12_bestOf 59 = .ok (.ireturn, 1) := by decide +kernel
theorem d12_bestOf_60 : decode cX12_bestOf 60 = .ok (.iload_n 2, 1) := by decide +kernel
theorem d12_bestOf_61 : decode cX12_bestOf 61 = .ok (.ifCond .ne 10, 3) := by decide +kernel
theorem d12_bestOf_64 : decode cX12_bestOf 64 = .ok (.aload_n 0, 1) := by decide +kernel
theorem d12_bestOf_65 : decode cX12_bestOf 65 = .ok (.getfield 388, 3) := by decide +kernel
theorem d12_bestOf_68 : decode cX12_bestOf 68 = .ok (.goto 19, 3) := by decide +kernel
theorem d12_bestOf_71 : decode cX12_bestOf 71 = .ok (.iload_n 2, 1) := by decide +kernel
theorem d12_bestOf_72 : decode cX12_bestOf 72 = .ok (.iconst 1, 1) := by decide +kernel
theorem d12_bestOf_73 : decode cX12_bestOf 73 = .ok (.if_icmp .ne 10, 3) := by decide +kernel
theorem d12_bestOf_76 : decode cX12_bestOf 76 = .ok (.aload_n 0, 1) := by decide +kernel
theorem d12_bestOf_77 : decode cX12_bestOf 77 = .ok (.getfield 391, 3) := by decide +kernel
theorem d12_bestOf_80 : decode cX12_bestOf 80 = .ok (.goto 7, 3) := by decide +kernel
theorem d12_bestOf_83 : decode cX12_bestOf 83 = .ok (.aload_n 0, 1) := by decide +kernel
theorem d12_bestOf_84 : decode cX12_bestOf 84 = .ok (.getfield 394, 3) := by decide +kernel
theorem d12_bestOf_87 : decode cX12_bestOf 87 = .ok (.ireturn, 1) := by decide +kernel
abbrev K12_bestOf : CK Int32 := (enI, (some .int), 3, 7, none)
noncomputable def F12_bestOf (N : Nat) (p0 : Int32) (p1 : Int32) (σ : Ms) : Option (Int32 × Ms) :=
  lt (sI σ 0 1 (0 : Int32)) (fun t1 => lt (sI t1 0 0 (0 : Int32)) (fun t2 => bn (F12_isSideAt p0 t2) (fun r3 t4 => if r3 ≠ 0 then (bn (F12_isIn (p1.toInt64) (0 : Int64) (2 : Int64) t4) (fun r5 t6 => if r5 ≠ 0 then (bn (F12_laysMoves N p0 t6) (fun r7 t8 => if (t8.1 0 29) ≠ 0 then (if p1 ≠ 0 then (if p1 ≠ (1 : Int32) then (some ((t8.1 0 32), t8))
  else (some ((t8.1 0 31), t8)))
  else (some ((t8.1 0 30), t8)))
  else (bn (F12_refuse (8 : Int32) t8) (fun r9 t10 => some (r9, t10)))))
  else (bn (F12_refuse (5 : Int32) t6) (fun r11 t12 => some (r11, t12)))))
  else (bn (F12_refuse (2 : Int32) t4) (fun r13 t14 => some (r13, t14))))))
set_option maxRecDepth 100000 in
theorem mc12_bestOf (N : Nat) (p0 : Int32) (p1 : Int32) (σ : Ms) : MC enI yX12_bestOf cX12_bestOf 3 (some .int) 7 (F12_bestOf N p0 p1 σ) σ [.ref 0, .int p0, .int p1] := by
  refine MC.i (by decide +kernel) (Nat.le_of_ble_eq_true rfl) ?_
  show VF (K12_bestOf) cX12_bestOf RX12 (F12_bestOf N p0 p1 σ) σ 0 [(0, .ref 0), (1, .int p0), (2, .int p1)] []
  unfold F12_bestOf
  refine v_aload_n d12_bestOf_0 0 rfl rfl ?_
  refine v_iconst d12_bestOf_1 ki_0 ?_
  refine v_putI d12_bestOf_2 faX12_53 fp9_1 ic_0 ?_
  refine v_lts fun t1 => ?_
  refine v_aload_n d12_bestOf_5 0 rfl rfl ?_
  refine v_iconst d12_bestOf_6 ki_0 ?_
  refine v_putI d12_bestOf_7 faX12_56 fp9_0 ic_0 ?_
  refine v_lts fun t2 => ?_
  refine v_iload_n d12_bestOf_10 1 rfl rfl ?_
  refine v_callS1i d12_bestOf_11 (mc12_isSideAt p0 t2) ys12_isSideAt mlX12_297 (by decide) (Nat.le_of_ble_eq_true rfl) fun r3 t4 => ?_
  refine v_if_ne (tgt := 23) d12_bestOf_14 (by decide) ?_ ?_
  · refine v_iload_n d12_bestOf_23 2 rfl rfl ?_
    refine v_i2l d12_bestOf_24 ?_
    refine v_lconst d12_bestOf_25 kl_0 ?_
    refine v_ldc2 d12_bestOf_26 klX12_355 ?_
    refine v_callS3i d12_bestOf_29 (mc12_isIn (p1.toInt64) (0 : Int64) (2 : Int64) t4) ys12_isIn mlX12_88 (by decide) (Nat.le_of_ble_eq_true rfl) fun r5 t6 => ?_
    refine v_if_ne (tgt := 41) d12_bestOf_32 (by decide) ?_ ?_
    · refine v_aload_n d12_bestOf_41 0 rfl rfl ?_
      refine v_iload_n d12_bestOf_42 1 rfl rfl ?_
      refine v_callV1v d12_bestOf_43 (mc12_laysMoves N p0 t6) yv12_laysMoves mlX12_401 (Recv.obj ic_0 rfl) (by decide) (Nat.le_of_ble_eq_true rfl) fun r7 t8 => ?_
      refine v_aload_n d12_bestOf_46 0 rfl rfl ?_
      refine v_getI d12_bestOf_47 faX12_385 ic_0 ?_
      refine v_if_ne (tgt := 60) d12_bestOf_50 (by decide) ?_ ?_
      · refine v_iload_n d12_bestOf_60 2 rfl rfl ?_
        refine v_if_ne (tgt := 71) d12_bestOf_61 (by decide) ?_ ?_
        · refine v_iload_n d12_bestOf_71 2 rfl rfl ?_
          refine v_iconst d12_bestOf_72 ki_1 ?_
          refine v_icmp_ne (tgt := 83) d12_bestOf_73 (by decide) ?_ ?_
          · refine v_aload_n d12_bestOf_83 0 rfl rfl ?_
            refine v_getI d12_bestOf_84 faX12_394 ic_0 ?_
            exact v_iret d12_bestOf_87 rfl rfl rfl
          · refine v_aload_n d12_bestOf_76 0 rfl rfl ?_
            refine v_getI d12_bestOf_77 faX12_391 ic_0 ?_
            refine v_goto (tgt := 87) d12_bestOf_80 (by decide) ?_
            exact v_iret d12_bestOf_87 rfl rfl rfl
        · refine v_aload_n d12_bestOf_64 0 rfl rfl ?_
          refine v_getI d12_bestOf_65 faX12_388 ic_0 ?_
          refine v_goto (tgt := 87) d12_bestOf_68 (by decide) ?_
          exact v_iret d12_bestOf_87 rfl rfl rfl
      · refine v_aload_n d12_bestOf_53 0 rfl rfl ?_
        refine v_bipush d12_bestOf_54 kb_8 ?_
        refine v_callV1i d12_bestOf_56 (mc12_refuse (8 : Int32) t8) yv12_refuse mlX12_265 (Recv.obj ic_0 rfl) (by decide) (Nat.le_of_ble_eq_true rfl) fun r9 t10 => ?_
        exact v_iret d12_bestOf_59 rfl rfl rfl
    · refine v_aload_n d12_bestOf_35 0 rfl rfl ?_
      refine v_iconst d12_bestOf_36 ki_5 ?_
      refine v_callV1i d12_bestOf_37 (mc12_refuse (5 : Int32) t6) yv12_refuse mlX12_265 (Recv.obj ic_0 rfl) (by decide) (Nat.le_of_ble_eq_true rfl) fun r11 t12 => ?_
      exact v_iret d12_bestOf_40 rfl rfl rfl
  · refine v_aload_n d12_bestOf_17 0 rfl rfl ?_
    refine v_iconst d12_bestOf_18 ki_2 ?_
    refine v_callV1i d12_bestOf_19 (mc12_refuse (2 : Int32) t4) yv12_refuse mlX12_265 (Recv.obj ic_0 rfl) (by decide) (Nat.le_of_ble_eq_true rfl) fun r13 t14 => ?_
    exact v_iret d12_bestOf_22 rfl rfl rfl
theorem d12_stop_0 : decode cX12_stop 0 = .ok (.aload_n 0, 1) := by decide +kernel
theorem d12_stop_1 : decode cX12_stop 1 = .ok (.iconst 0, 1) := by decide +kernel
theorem d12_stop_2 : decode cX12_stop 2 = .ok (.putfield 53, 3) := by decide +kernel
theorem d12_stop_5 : decode cX12_stop 5 = .ok (.aload_n 0, 1) := by decide +kernel
theorem d12_stop_6 : decode cX12_stop 6 = .ok (.iconst 0, 1) := by decide +kernel
theorem d12_stop_7 : decode cX12_stop 7 = .ok (.putfield 56, 3) := by decide +kernel
theorem d12_stop_10 : decode cX12_stop 10 = .ok (.iload_n 1, 1) := by decide +kernel
theorem d12_stop_11 : decode cX12_stop 11 = .ok (.invokestatic 297, 3) := by decide +kernel
theorem d12_stop_14 : decode cX12_stop 14 = .ok (.ifCond .ne 9, 3) := by decide +kernel
theorem d12_stop_17 : decode cX12_stop 17 = .ok (.aload_n 0, 1) := by decide +kernel
theorem d12_stop_18 : decode cX12_stop 18 = .ok (.iconst 2, 1) := by decide +kernel
theorem d12_stop_19 : decode cX12_stop 19 = .ok (.invokevirtual 68, 3) := by decide +kernel
theorem d12_stop_22 : decode cX12_stop 22 = .ok (.ireturn, 1) := by decide +kernel
theorem d12_stop_23 : decode cX12_stop 23 = .ok (.aload_n 0, 1) := by decide +kernel
theorem d12_stop_24 : decode cX12_stop 24 = .ok (.invokevirtual 324, 3) := by decide +kernel
theorem d12_stop_27 : decode cX12_stop 27 = .ok (.aload_n 0, 1) := by decide +kernel
theorem d12_stop_28 : decode cX12_stop 28 = .ok (.aload_n 0, 1) := by decide +kernel
theorem d12_stop_29 : decode cX12_stop 29 = .ok (.getfield 312, 3) := by decide +kernel
theorem d12_stop_32 : decode cX12_stop 32 = .ok (.aload_n 0, 1) := by decide +kernel
theorem d12_stop_33 : decode cX12_stop 33 = .ok (.invokevirtual 271, 3) := by decide +kernel
theorem d12_stop_36 : decode cX12_stop 36 = .ok (.iload_n 1, 1) := by decide +kernel
theorem d12_stop_37 : decode cX12_stop 37 = .ok (.invokevirtual 371, 3) := by decide +kernel
theorem d12_stop_40 : decode cX12_stop 40 = .ok (.pop, 1) := by decide +kernel
theorem d12_stop_41 : decode cX12_stop 41 = .ok (.aload_n 0, 1) := by decide +kernel
theorem d12_stop_42 : decode cX12_stop 42 = .ok (.aload_n 0, 1) := by decide +kernel
theorem d12_stop_43 : decode cX12_stop 43 = .ok (.getfield 365, 3) := by decide +kernel
theorem d12_stop_46 : decode cX12_stop 46 = .ok (.ldc2_w 307, 3) := by decide +kernel
theorem d12_stop_49 : decode cX12_stop 49 = .ok (.invokevirtual 327, 3) := by decide +kernel
theorem d12_stop_52 : decode cX12_stop 52 = .ok (.ireturn, 1) := by decide +kernel
abbrev K12_stop : CK Int32 := (enI, (some .boolean), 2, 5, none)
noncomputable def F12_stop (N : Nat) (p0 : Int32) (σ : Ms) : Option (Int32 × Ms) :=
  lt (sI σ 0 1 (0 : Int32)) (fun t1 => lt (sI t1 0 0 (0 : Int32)) (fun t2 => bn (F12_isSideAt p0 t2) (fun r3 t4 => if r3 ≠ 0 then (bn (F12_laysNow N t4) (fun r5 t6 => bn (F12_taken N t6) (fun r7 t8 => bn (F12_endsWith N (t6.2 0 25) r7 p0 t8) (fun r9 t10 => bn (F12_fraction N (t10.2 0 27) (1048576 : Int64) t10) (fun r11 t12 => ck (nkB r11) (some (r11, t12)))))))
  else (bn (F12_no (2 : Int32) t4) (fun r13 t14 => ck (nkB r13) (some (r13, t14)))))))
set_option maxRecDepth 100000 in
theorem mc12_stop (N : Nat) (p0 : Int32) (σ : Ms) : MC enI yX12_stop cX12_stop 2 (some .boolean) 5 (F12_stop N p0 σ) σ [.ref 0, .int p0] := by
  refine MC.i (by decide +kernel) (Nat.le_of_ble_eq_true rfl) ?_
  show VF (K12_stop) cX12_stop RX12 (F12_stop N p0 σ) σ 0 [(0, .ref 0), (1, .int p0)] []
  unfold F12_stop
  refine v_aload_n d12_stop_0 0 rfl rfl ?_
  refine v_iconst d12_stop_1 ki_0 ?_
  refine v_putI d12_stop_2 faX12_53 fp9_1 ic_0 ?_
  refine v_lts fun t1 => ?_
  refine v_aload_n d12_stop_5 0 rfl rfl ?_
  refine v_iconst d12_stop_6 ki_0 ?_
  refine v_putI d12_stop_7 faX12_56 fp9_0 ic_0 ?_
  refine v_lts fun t2 => ?_
  refine v_iload_n d12_stop_10 1 rfl rfl ?_
  refine v_callS1i d12_stop_11 (mc12_isSideAt p0 t2) ys12_isSideAt mlX12_297 (by decide) (Nat.le_of_ble_eq_true rfl) fun r3 t4 => ?_
  refine v_if_ne (tgt := 23) d12_stop_14 (by decide) ?_ ?_
  · refine v_aload_n d12_stop_23 0 rfl rfl ?_
    refine v_callV0v d12_stop_24 (mc12_laysNow N t4) yv12_laysNow mlX12_324 (Recv.obj ic_0 rfl) (by decide) (Nat.le_of_ble_eq_true rfl) fun r5 t6 => ?_
    refine v_aload_n d12_stop_27 0 rfl rfl ?_
    refine v_aload_n d12_stop_28 0 rfl rfl ?_
    refine v_getL d12_stop_29 faX12_312 ic_0 ?_
    refine v_aload_n d12_stop_32 0 rfl rfl ?_
    refine v_callV0i d12_stop_33 (mc12_taken N t6) yv12_taken mlX12_271 (Recv.obj ic_0 rfl) (by decide) (Nat.le_of_ble_eq_true rfl) fun r7 t8 => ?_
    refine v_iload_n d12_stop_36 1 rfl rfl ?_
    refine v_callV3i d12_stop_37 (mc12_endsWith N (t6.2 0 25) r7 p0 t8) yv12_endsWith mlX12_371 (Recv.obj ic_0 rfl) (by decide) (Nat.le_of_ble_eq_true rfl) fun r9 t10 => ?_
    refine v_pop d12_stop_40 rfl ?_
    refine v_aload_n d12_stop_41 0 rfl rfl ?_
    refine v_aload_n d12_stop_42 0 rfl rfl ?_
    refine v_getL d12_stop_43 faX12_365 ic_0 ?_
    refine v_ldc2 d12_stop_46 klX12_307 ?_
    refine v_callV2i d12_stop_49 (mc12_fraction N (t10.2 0 27) (1048576 : Int64) t10) yv12_fraction mlX12_327 (Recv.obj ic_0 rfl) (by decide) (Nat.le_of_ble_eq_true rfl) fun r11 t12 => ?_
    exact v_iretB d12_stop_52 rfl rfl
  · refine v_aload_n d12_stop_17 0 rfl rfl ?_
    refine v_iconst d12_stop_18 ki_2 ?_
    refine v_callV1i d12_stop_19 (mc12_no (2 : Int32) t4) yv12_no mlX12_68 (Recv.obj ic_0 rfl) (by decide) (Nat.le_of_ble_eq_true rfl) fun r13 t14 => ?_
    exact v_iretB d12_stop_22 rfl rfl
theorem d12_hottest_0 : decode cX12_hottest 0 = .ok (.aload_n 0, 1) := by decide +kernel
theorem d12_hottest_1 : decode cX12_hottest 1 = .ok (.iconst 0, 1) := by decide +kernel
theorem d12_hottest_2 : decode cX12_hottest 2 = .ok (.putfield 53, 3) := by decide +kernel
theorem d12_hottest_5 : decode cX12_hottest 5 = .ok (.aload_n 0, 1) := by decide +kernel
theorem d12_hottest_6 : decode cX12_hottest 6 = .ok (.iconst 0, 1) := by decide +kernel
theorem d12_hottest_7 : decode cX12_hottest 7 = .ok (.putfield 56, 3) := by decide +kernel
theorem d12_hottest_10 : decode cX12_hottest 10 = .ok (.aload_n 0, 1) := by decide +kernel
theorem d12_hottest_11 : decode cX12_hottest 11 = .ok (.aload_n 0, 1) := by decide +kernel
theorem d12_hottest_12 : decode cX12_hottest 12 = .ok (.invokevirtual 271, 3) := by decide +kernel
theorem d12_hottest_15 : decode cX12_hottest 15 = .ok (.invokevirtual 368, 3) := by decide +kernel
theorem d12_hottest_18 : decode cX12_hottest 18 = .ok (.istore_n 1, 1) := by decide +kernel
theorem d12_hottest_19 : decode cX12_hottest 19 = .ok (.iload_n 1, 1) := by decide +kernel
theorem d12_hottest_20 : decode cX12_hottest 20 = .ok (.ifCond .ge 12, 3) := by decide +kernel
theorem d12_hottest_23 : decode cX12_hottest 23 = .ok (.aload_n 0, 1) := by decide +kernel
theorem d12_hottest_24 : decode cX12_hottest 24 = .ok (.bipush 8, 2) := by decide +kernel
theorem d12_hottest_26 : decode cX12_hottest 26 = .ok (.invokevirtual 265, 3) := by decide +kernel
theorem d12_hottest_29 : decode cX12_hottest 29 = .ok (.goto 4, 3) := by decide +kernel
theorem d12_hottest_32 : decode cX12_hottest 32 = .ok (.iload_n 1, 1) := by decide +kernel
theorem d12_hottest_33 : decode cX12_hottest 33 = .ok (.ireturn, 1) := by decide +kernel
abbrev K12_hottest : CK Int32 := (enI, (some .int), 2, 3, none)
noncomputable def F12_hottest (N : Nat) (σ : Ms) : Option (Int32 × Ms) :=
  lt (sI σ 0 1 (0 : Int32)) (fun t1 => lt (sI t1 0 0 (0 : Int32)) (fun t2 => bn (F12_taken N t2) (fun r3 t4 => bn (F12_hottestBut N r3 t4) (fun r5 t6 => if 0 ≤ r5 then (some (r5, t6))
  else (bn (F12_refuse (8 : Int32) t6) (fun r7 t8 => some (r7, t8)))))))
set_option maxRecDepth 100000 in
theorem mc12_hottest (N : Nat) (σ : Ms) : MC enI yX12_hottest cX12_hottest 2 (some .int) 3 (F12_hottest N σ) σ [.ref 0] := by
  refine MC.i (by decide +kernel) (Nat.le_of_ble_eq_true rfl) ?_
  show VF (K12_hottest) cX12_hottest RX12 (F12_hottest N σ) σ 0 [(0, .ref 0)] []
  unfold F12_hottest
  refine v_aload_n d12_hottest_0 0 rfl rfl ?_
  refine v_iconst d12_hottest_1 ki_0 ?_
  refine v_putI d12_hottest_2 faX12_53 fp9_1 ic_0 ?_
  refine v_lts fun t1 => ?_
  refine v_aload_n d12_hottest_5 0 rfl rfl ?_
  refine v_iconst d12_hottest_6 ki_0 ?_
  refine v_putI d12_hottest_7 faX12_56 fp9_0 ic_0 ?_
  refine v_lts fun t2 => ?_
  refine v_aload_n d12_hottest_10 0 rfl rfl ?_
  refine v_aload_n d12_hottest_11 0 rfl rfl ?_
  refine v_callV0i d12_hottest_12 (mc12_taken N t2) yv12_taken mlX12_271 (Recv.obj ic_0 rfl) (by decide) (Nat.le_of_ble_eq_true rfl) fun r3 t4 => ?_
  refine v_callV1i d12_hottest_15 (mc12_hottestBut N r3 t4) yv12_hottestBut mlX12_368 (Recv.obj ic_0 rfl) (by decide) (Nat.le_of_ble_eq_true rfl) fun r5 t6 => ?_
  refine v_istore_n (lv' := [(1, .int r5), (0, .ref 0)]) d12_hottest_18 rfl (by decide) rfl ?_
  refine v_iload_n d12_hottest_19 0 rfl rfl ?_
  refine v_if_ge (tgt := 32) d12_hottest_20 (by decide) ?_ ?_
  · refine v_iload_n d12_hottest_32 0 rfl rfl ?_
    exact v_iret d12_hottest_33 rfl rfl rfl
  · refine v_aload_n d12_hottest_23 1 rfl rfl ?_
    refine v_bipush d12_hottest_24 kb_8 ?_
    refine v_callV1i d12_hottest_26 (mc12_refuse (8 : Int32) t6) yv12_refuse mlX12_265 (Recv.obj ic_0 rfl) (by decide) (Nat.le_of_ble_eq_true rfl) fun r7 t8 => ?_
    refine v_goto (tgt := 33) d12_hottest_29 (by decide) ?_
    exact v_iret d12_hottest_33 rfl rfl rfl
theorem d12_heat_0 : decode cX12_heat 0 = .ok (.aload_n 0, 1) := by decide +kernel
theorem d12_heat_1 : decode cX12_heat 1 = .ok (.iconst 0, 1) := by decide +kernel
theorem d12_heat_2 : decode cX12_heat 2 = .ok (.putfield 53, 3) := by decide +kernel
theorem d12_heat_5 : decode cX12_heat 5 = .ok (.aload_n 0, 1) := by decide +kernel
theorem d12_heat_6 : decode cX12_heat 6 = .ok (.iconst 0, 1) := by decide +kernel
theorem d12_heat_7 : decode cX12_heat 7 = .ok (.putfield 56, 3) := by decide +kernel
theorem d12_heat_10 : decode cX12_heat 10 = .ok (.aload_n 0, 1) := by decide +kernel
theorem d12_heat_11 : decode cX12_heat 11 = .ok (.iload_n 1, 1) := by decide +kernel
theorem d12_heat_12 : decode cX12_heat 12 = .ok (.invokevirtual 294, 3) := by decide +kernel
theorem d12_heat_15 : decode cX12_heat 15 = .ok (.ifCond .ne 9, 3) := by decide +kernel
theorem d12_heat_18 : decode cX12_heat 18 = .ok (.aload_n 0, 1) := by decide +kernel
theorem d12_heat_19 : decode cX12_heat 19 = .ok (.iconst 2, 1) := by decide +kernel
theorem d12_heat_20 : decode cX12_heat 20 = .ok (.invokevirtual 68, 3) := by decide +kernel
theorem d12_heat_23 : decode cX12_heat 23 = .ok (.ireturn, 1) := by decide +kernel
theorem d12_heat_24 : decode cX12_heat 24 = .ok (.iload_n 2, 1) := by decide +kernel
theorem d12_heat_25 : decode cX12_heat 25 = .ok (.i2l, 1) := by decide +kernel
theorem d12_heat_26 : decode cX12_heat 26 = .ok (.lconst 0, 1) := by decide +kernel
theorem d12_heat_27 : decode cX12_heat 27 = .ok (.lconst 1, 1) := by decide +kernel
theorem d12_heat_28 : decode cX12_heat 28 = .ok (.invokestatic 88, 3) := by decide +kernel
theorem d12_heat_31 : decode cX12_heat 31 = .ok (.ifCond .ne 9, 3) := by decide +kernel
theorem d12_heat_34 : decode cX12_heat 34 = .ok (.aload_n 0, 1) := by decide +kernel
theorem d12_heat_35 : decode cX12_heat 35 = .ok (.iconst 5, 1) := by decide +kernel
theorem d12_heat_36 : decode cX12_heat 36 = .ok (.invokevirtual 68, 3) := by decide +kernel
theorem d12_heat_39 : decode cX12_heat 39 = .ok (.ireturn, 1) := by decide +kernel
theorem d12_heat_40 : decode cX12_heat 40 = .ok (.aload_n 0, 1) := by decide +kernel
theorem d12_heat_41 : decode cX12_heat 41 = .ok (.iload_n 2, 1) := by decide +kernel
theorem d12_heat_42 : decode cX12_heat 42 = .ok (.ifCond .ne 12, 3) := by decide +kernel
theorem d12_heat_45 : decode cX12_heat 45 = .ok (.aload_n 0, 1) := by decide +kernel
theorem d12_heat_46 : decode cX12_heat 46 = .ok (.iload_n 1, 1) := by decide +kernel
theorem d12_heat_47 : decode cX12_heat 47 = .ok (.invokevirtual 362, 3) := by decide +kernel
theorem d12_heat_50 : decode cX12_heat 50 = .ok (.i2l, 1) := by decide +kernel
theorem d12_heat_51 : decode cX12_heat 51 = .ok (.goto 23, 3) := by decide +kernel
theorem d12_heat_54 : decode cX12_heat 54 = .ok (.aload_n 0, 1) := by decide +kernel
theorem d12_heat_55 : decode cX12_heat 55 = .ok (.getfield 35, 3) := by decide +kernel
theorem d12_heat_58 : decode cX12_heat 58 = .ok (.bipush 69, 2) := by decide +kernel
theorem d12_heat_60 : decode cX12_heat 60 = .ok (.iload_n 1, 1) := by decide +kernel
theorem d12_heat_61 : decode cX12_heat 61 = .ok (.iadd, 1) := by decide +kernel
theorem d12_heat_62 : decode cX12_heat 62 = .ok (.iaload, 1) := by decide +kernel
theorem d12_heat_63 : decode cX12_heat 63 = .ok (.aload_n 0, 1) := by decide +kernel
theorem d12_heat_64 : decode cX12_heat 64 = .ok (.getfield 35, 3) := by decide +kernel
theorem d12_heat_67 : decode cX12_heat 67 = .ok (.bipush 74, 2) := by decide +kernel
theorem d12_heat_69 : decode cX12_heat 69 = .ok (.iload_n 1, 1) := by decide +kernel
theorem d12_heat_70 : decode cX12_heat 70 = .ok (.iadd, 1) := by decide +kernel
theorem d12_heat_71 : decode cX12_heat 71 = .ok (.iaload, 1) := by decide +kernel
theorem d12_heat_72 : decode cX12_heat 72 = .ok (.isub, 1) := by decide +kernel
theorem d12_heat_73 : decode cX12_heat 73 = .ok (.i2l, 1) := by decide +kernel
theorem d12_heat_74 : decode cX12_heat 74 = .ok (.ldc2_w 355, 3) := by decide +kernel
theorem d12_heat_77 : decode cX12_heat 77 = .ok (.invokevirtual 327, 3) := by decide +kernel
theorem d12_heat_80 : decode cX12_heat 80 = .ok (.ireturn, 1) := by decide +kernel
abbrev K12_heat : CK Int32 := (enI, (some .boolean), 3, 3, none)
noncomputable def F12_heat_b74 (N : Nat) (s1 : Int64) (σ : Ms) : Option (Int32 × Ms) :=
  bn (F12_fraction N s1 (2 : Int64) σ) (fun r1 t2 => ck (nkB r1) (some (r1, t2)))
noncomputable def F12_heat (N : Nat) (p0 : Int32) (p1 : Int32) (σ : Ms) : Option (Int32 × Ms) :=
  lt (sI σ 0 1 (0 : Int32)) (fun t3 => lt (sI t3 0 0 (0 : Int32)) (fun t4 => bn (F12_isBetAt p0 t4) (fun r5 t6 => if r5 ≠ 0 then (bn (F12_isIn (p1.toInt64) (0 : Int64) (1 : Int64) t6) (fun r7 t8 => if r7 ≠ 0 then (if p1 ≠ 0 then (ck (ixb ((69 : Int32) + p0) 1780) (ck (ixb ((74 : Int32) + p0) 1780) (F12_heat_b74 N (((t8.1 5 ((69 : Int32) + p0).toNatClampNeg) - (t8.1 5 ((74 : Int32) + p0).toNatClampNeg)).toInt64) t8)))
  else (bn (F12_heatOf p0 t8) (fun r9 t10 => F12_heat_b74 N (r9.toInt64) t10)))
  else (bn (F12_no (5 : Int32) t8) (fun r11 t12 => ck (nkB r11) (some (r11, t12))))))
  else (bn (F12_no (2 : Int32) t6) (fun r13 t14 => ck (nkB r13) (some (r13, t14)))))))
set_option maxRecDepth 100000 in
theorem v12_heat_b74 (N : Nat) (s1 : Int64) (σ : Ms) : VF (K12_heat) cX12_heat RX12 (F12_heat_b74 N s1 σ) σ 74 [] [.long s1, .ref 0] := by
  unfold F12_heat_b74
  refine v_ldc2 d12_heat_74 klX12_355 ?_
  refine v_callV2i d12_heat_77 (mc12_fraction N s1 (2 : Int64) σ) yv12_fraction mlX12_327 (Recv.obj ic_0 rfl) (by decide) (Nat.le_of_ble_eq_true rfl) fun r1 t2 => ?_
  exact v_iretB d12_heat_80 rfl rfl
set_option maxRecDepth 100000 in
theorem mc12_heat (N : Nat) (p0 : Int32) (p1 : Int32) (σ : Ms) : MC enI yX12_heat cX12_heat 3 (some .boolean) 3 (F12_heat N p0 p1 σ) σ [.ref 0, .int p0, .int p1] := by
  refine MC.i (by decide +kernel) (Nat.le_of_ble_eq_true rfl) ?_
  show VF (K12_heat) cX12_heat RX12 (F12_heat N p0 p1 σ) σ 0 [(0, .ref 0), (1, .int p0), (2, .int p1)] []
  unfold F12_heat
  refine v_aload_n d12_heat_0 0 rfl rfl ?_
  refine v_iconst d12_heat_1 ki_0 ?_
  refine v_putI d12_heat_2 faX12_53 fp9_1 ic_0 ?_
  refine v_lts fun t3 => ?_
  refine v_aload_n d12_heat_5 0 rfl rfl ?_
  refine v_iconst d12_heat_6 ki_0 ?_
  refine v_putI d12_heat_7 faX12_56 fp9_0 ic_0 ?_
  refine v_lts fun t4 => ?_
  refine v_aload_n d12_heat_10 0 rfl rfl ?_
  refine v_iload_n d12_heat_11 1 rfl rfl ?_
  refine v_callV1i d12_heat_12 (mc12_isBetAt p0 t4) yv12_isBetAt mlX12_294 (Recv.obj ic_0 rfl) (by decide) (Nat.le_of_ble_eq_true rfl) fun r5 t6 => ?_
  refine v_if_ne (tgt := 24) d12_heat_15 (by decide) ?_ ?_
  · refine v_iload_n d12_heat_24 2 rfl rfl ?_
    refine v_i2l d12_heat_25 ?_
    refine v_lconst d12_heat_26 kl_0 ?_
    refine v_lconst d12_heat_27 kl_1 ?_
    refine v_callS3i d12_heat_28 (mc12_isIn (p1.toInt64) (0 : Int64) (1 : Int64) t6) ys12_isIn mlX12_88 (by decide) (Nat.le_of_ble_eq_true rfl) fun r7 t8 => ?_
    refine v_if_ne (tgt := 40) d12_heat_31 (by decide) ?_ ?_
    · refine v_aload_n d12_heat_40 0 rfl rfl ?_
      refine v_iload_n d12_heat_41 2 rfl rfl ?_
      refine v_if_ne (tgt := 54) d12_heat_42 (by decide) ?_ ?_
      · refine v_aload_n d12_heat_54 0 rfl rfl ?_
        refine v_getR d12_heat_55 faX12_35 ic_0 rfl ?_
        refine v_bipush d12_heat_58 kb_69 ?_
        refine v_iload_n d12_heat_60 1 rfl rfl ?_
        refine v_iadd d12_heat_61 ?_
        refine v_iald d12_heat_62 ic_5 ?_
        refine v_aload_n d12_heat_63 0 rfl rfl ?_
        refine v_getR d12_heat_64 faX12_35 ic_0 rfl ?_
        refine v_bipush d12_heat_67 kb_74 ?_
        refine v_iload_n d12_heat_69 1 rfl rfl ?_
        refine v_iadd d12_heat_70 ?_
        refine v_iald d12_heat_71 ic_5 ?_
        refine v_isub d12_heat_72 ?_
        refine v_i2l d12_heat_73 ?_
        refine v_sub [] rfl ?_
        exact v12_heat_b74 N (((t8.1 5 ((69 : Int32) + p0).toNatClampNeg) - (t8.1 5 ((74 : Int32) + p0).toNatClampNeg)).toInt64) t8
      · refine v_aload_n d12_heat_45 0 rfl rfl ?_
        refine v_iload_n d12_heat_46 1 rfl rfl ?_
        refine v_callV1i d12_heat_47 (mc12_heatOf p0 t8) yv12_heatOf mlX12_362 (Recv.obj ic_0 rfl) (by decide) (Nat.le_of_ble_eq_true rfl) fun r9 t10 => ?_
        refine v_i2l d12_heat_50 ?_
        refine v_goto (tgt := 74) d12_heat_51 (by decide) ?_
        refine v_sub [] rfl ?_
        exact v12_heat_b74 N (r9.toInt64) t10
    · refine v_aload_n d12_heat_34 0 rfl rfl ?_
      refine v_iconst d12_heat_35 ki_5 ?_
      refine v_callV1i d12_heat_36 (mc12_no (5 : Int32) t8) yv12_no mlX12_68 (Recv.obj ic_0 rfl) (by decide) (Nat.le_of_ble_eq_true rfl) fun r11 t12 => ?_
      exact v_iretB d12_heat_39 rfl rfl
  · refine v_aload_n d12_heat_18 0 rfl rfl ?_
    refine v_iconst d12_heat_19 ki_2 ?_
    refine v_callV1i d12_heat_20 (mc12_no (2 : Int32) t6) yv12_no mlX12_68 (Recv.obj ic_0 rfl) (by decide) (Nat.le_of_ble_eq_true rfl) fun r13 t14 => ?_
    exact v_iretB d12_heat_23 rfl rfl
theorem d12_isNumber_0 : decode cX12_isNumber 0 = .ok (.iload_n 1, 1) := by decide +kernel
theorem d12_isNumber_1 : decode cX12_isNumber 1 = .ok (.i2l, 1) := by decide +kernel
theorem d12_isNumber_2 : decode cX12_isNumber 2 = .ok (.lconst 0, 1) := by decide +kernel
theorem d12_isNumber_3 : decode cX12_isNumber 3 = .ok (.ldc2_w 360, 3) := by decide +kernel
theorem d12_isNumber_6 : decode cX12_isNumber 6 = .ok (.invokestatic 88, 3) := by decide +kernel
theorem d12_isNumber_9 : decode cX12_isNumber 9 = .ok (.ifCond .eq 26, 3) := by decide +kernel
theorem d12_isNumber_12 : decode cX12_isNumber 12 = .ok (.iload_n 0, 1) := by decide +kernel
theorem d12_isNumber_13 : decode cX12_isNumber 13 = .ok (.i2l, 1) := by decide +kernel
theorem d12_isNumber_14 : decode cX12_isNumber 14 = .ok (.ldc2_w 360, 3) := by decide +kernel
theorem d12_isNumber_17 : decode cX12_isNumber 17 = .ok (.iload_n 1, 1) := by decide +kernel
theorem d12_isNumber_18 : decode cX12_isNumber 18 = .ok (.lshl, 1) := by decide +kernel
theorem d12_isNumber_19 : decode cX12_isNumber 19 = .ok (.lneg, 1) := by decide +kernel
theorem d12_isNumber_20 : decode cX12_isNumber 20 = .ok (.ldc2_w 360, 3) := by decide +kernel
theorem d12_isNumber_23 : decode cX12_isNumber 23 = .ok (.iload_n 1, 1) := by decide +kernel
theorem d12_isNumber_24 : decode cX12_isNumber 24 = .ok (.lshl, 1) := by decide +kernel
theorem d12_isNumber_25 : decode cX12_isNumber 25 = .ok (.invokestatic 88, 3) := by decide +kernel
theorem d12_isNumber_28 : decode cX12_isNumber 28 = .ok (.ifCond .eq 7, 3) := by decide +kernel
theorem d12_isNumber_31 : decode cX12_isNumber 31 = .ok (.iconst 1, 1) := by decide +kernel
theorem d12_isNumber_32 : decode cX12_isNumber 32 = .ok (.goto 4, 3) := by decide +kernel
theorem d12_isNumber_35 : decode cX12_isNumber 35 = .ok (.iconst 0, 1) := by decide +kernel
theorem d12_isNumber_36 : decode cX12_isNumber 36 = .ok (.ireturn, 1) := by decide +kernel
abbrev K12_isNumber : CK Int32 := (enI, (some .boolean), 2, 2, none)
noncomputable def F12_isNumber (p0 : Int32) (p1 : Int32) (σ : Ms) : Option (Int32 × Ms) :=
  bn (F12_isIn (p1.toInt64) (0 : Int64) (20 : Int64) σ) (fun r1 t2 => if r1 = 0 then (some ((0 : Int32), t2))
  else (bn (F12_isIn (p0.toInt64) (-((20 : Int64) <<< (p1.toInt64 &&& 63))) ((20 : Int64) <<< (p1.toInt64 &&& 63)) t2) (fun r3 t4 => if r3 = 0 then (some ((0 : Int32), t4))
  else (some ((1 : Int32), t4)))))
set_option maxRecDepth 100000 in
theorem mc12_isNumber (p0 : Int32) (p1 : Int32) (σ : Ms) : MC enI yX12_isNumber cX12_isNumber 2 (some .boolean) 2 (F12_isNumber p0 p1 σ) σ [.int p0, .int p1] := by
  refine MC.i (by decide +kernel) (Nat.le_of_ble_eq_true rfl) ?_
  show VF (K12_isNumber) cX12_isNumber RX12 (F12_isNumber p0 p1 σ) σ 0 [(0, .int p0), (1, .int p1)] []
  unfold F12_isNumber
  refine v_iload_n d12_isNumber_0 1 rfl rfl ?_
  refine v_i2l d12_isNumber_1 ?_
  refine v_lconst d12_isNumber_2 kl_0 ?_
  refine v_ldc2 d12_isNumber_3 klX12_360 ?_
  refine v_callS3i d12_isNumber_6 (mc12_isIn (p1.toInt64) (0 : Int64) (20 : Int64) σ) ys12_isIn mlX12_88 (by decide) (Nat.le_of_ble_eq_true rfl) fun r1 t2 => ?_
  refine v_if_eq (tgt := 35) d12_isNumber_9 (by decide) ?_ ?_
  · refine v_iconst d12_isNumber_35 ki_0 ?_
    exact v_iret (ty := .boolean) d12_isNumber_36 rfl rfl rfl
  · refine v_iload_n d12_isNumber_12 0 rfl rfl ?_
    refine v_i2l d12_isNumber_13 ?_
    refine v_ldc2 d12_isNumber_14 klX12_360 ?_
    refine v_iload_n d12_isNumber_17 1 rfl rfl ?_
    refine v_lshl d12_isNumber_18 ?_
    refine v_lneg d12_isNumber_19 ?_
    refine v_ldc2 d12_isNumber_20 klX12_360 ?_
    refine v_iload_n d12_isNumber_23 1 rfl rfl ?_
    refine v_lshl d12_isNumber_24 ?_
    refine v_callS3i d12_isNumber_25 (mc12_isIn (p0.toInt64) (-((20 : Int64) <<< (p1.toInt64 &&& 63))) ((20 : Int64) <<< (p1.toInt64 &&& 63)) t2) ys12_isIn mlX12_88 (by decide) (Nat.le_of_ble_eq_true rfl) fun r3 t4 => ?_
    refine v_if_eq (tgt := 35) d12_isNumber_28 (by decide) ?_ ?_
    · refine v_iconst d12_isNumber_35 ki_0 ?_
      exact v_iret (ty := .boolean) d12_isNumber_36 rfl rfl rfl
    · refine v_iconst d12_isNumber_31 ki_1 ?_
      refine v_goto (tgt := 36) d12_isNumber_32 (by decide) ?_
      exact v_iret (ty := .boolean) d12_isNumber_36 rfl rfl rfl
theorem d12_partsOf_0 : decode cX12_partsOf 0 = .ok (.iload_n 0, 1) := by decide +kernel
theorem d12_partsOf_1 : decode cX12_partsOf 1 = .ok (.i2l, 1) := by decide +kernel
theorem d12_partsOf_2 : decode cX12_partsOf 2 = .ok (.bipush 20, 2) := by decide +kernel
theorem d12_partsOf_4 : decode cX12_partsOf 4 = .ok (.iload_n 1, 1) := by decide +kernel
theorem d12_partsOf_5 : decode cX12_partsOf 5 = .ok (.isub, 1) := by decide +kernel
theorem d12_partsOf_6 : decode cX12_partsOf 6 = .ok (.lshl, 1) := by decide +kernel
theorem d12_partsOf_7 : decode cX12_partsOf 7 = .ok (.lreturn, 1) := by decide +kernel
abbrev K12_partsOf : CK Int64 := (enL, (some .long), 2, 1, none)
noncomputable def F12_partsOf (p0 : Int32) (p1 : Int32) (σ : Ms) : Option (Int64 × Ms) :=
  some (((p0.toInt64) <<< (((20 : Int32) - p1).toInt64 &&& 63)), σ)
set_option maxRecDepth 100000 in
theorem mc12_partsOf (p0 : Int32) (p1 : Int32) (σ : Ms) : MC enL yX12_partsOf cX12_partsOf 2 (some .long) 1 (F12_partsOf p0 p1 σ) σ [.int p0, .int p1] := by
  refine MC.l (by decide +kernel) (Nat.le_of_ble_eq_true rfl) ?_
  show VF (K12_partsOf) cX12_partsOf RX12 (F12_partsOf p0 p1 σ) σ 0 [(0, .int p0), (1, .int p1)] []
  unfold F12_partsOf
  refine v_iload_n d12_partsOf_0 0 rfl rfl ?_
  refine v_i2l d12_partsOf_1 ?_
  refine v_bipush d12_partsOf_2 kb_20 ?_
  refine v_iload_n d12_partsOf_4 1 rfl rfl ?_
  refine v_isub d12_partsOf_5 ?_
  refine v_lshl d12_partsOf_6 ?_
  exact v_lret d12_partsOf_7 rfl rfl
theorem dJ9_floorDiv_f86c9_0 : decode cJ9_floorDiv_f86c9 0 = .ok (.lload_n 0, 1) := by decide +kernel
theorem dJ9_floorDiv_f86c9_1 : decode cJ9_floorDiv_f86c9 1 = .ok (.lload_n 2, 1) := by decide +kernel
theorem dJ9_floorDiv_f86c9_2 : decode cJ9_floorDiv_f86c9 2 = .ok (.ldiv, 1) := by decide +kernel
theorem dJ9_floorDiv_f86c9_3 : decode cJ9_floorDiv_f86c9 3 = .ok (.lstore 4, 2) := by decide +kernel
theorem dJ9_floorDiv_f86c9_5 : decode cJ9_floorDiv_f86c9 5 = .ok (.lload_n 0, 1) := by decide +kernel
theorem dJ9_floorDiv_f86c9_6 : decode cJ9_floorDiv_f86c9 6 = .ok (.lload_n 2, 1) := by decide +kernel
theorem dJ9_floorDiv_f86c9_7 : decode cJ9_floorDiv_f86c9 7 = .ok (.lxor, 1) := by decide +kernel
theorem dJ9_floorDiv_f86c9_8 : decode cJ9_floorDiv_f86c9 8 = .ok (.lconst 0, 1) := by decide +kernel
theorem dJ9_floorDiv_f86c9_9 : decode cJ9_floorDiv_f86c9 9 = .ok (.lcmp, 1) := by decide +kernel
theorem dJ9_floorDiv_f86c9_10 : decode cJ9_floorDiv_f86c9 10 = .ok (.ifCond .ge 17, 3) := by decide +kernel
theorem dJ9_floorDiv_f86c9_13 : decode cJ9_floorDiv_f86c9 13 = .ok (.lload 4, 2) := by decide +kernel
theorem dJ9_floorDiv_f86c9_15 : decode cJ9_floorDiv_f86c9 15 = .ok (.lload_n 2, 1) := by decide +kernel
theorem dJ9_floorDiv_f86c9_16 : decode cJ9_floorDiv_f86c9 16 = .ok (.lmul, 1) := by decide +kernel
theorem dJ9_floorDiv_f86c9_17 : decode cJ9_floorDiv_f86c9 17 = .ok (.lload_n 0, 1) := by decide +kernel
theorem dJ9_floorDiv_f86c9_18 : decode cJ9_floorDiv_f86c9 18 = .ok (.lcmp, 1) := by decide +kernel
theorem dJ9_floorDiv_f86c9_19 : decode cJ9_floorDiv_f86c9 19 = .ok (.ifCond .eq 8, 3) := by decide +kernel
theorem dJ9_floorDiv_f86c9_22 : decode cJ9_floorDiv_f86c9 22 = .ok (.lload 4, 2) := by decide +kernel
theorem dJ9_floorDiv_f86c9_24 : decode cJ9_floorDiv_f86c9 24 = .ok (.lconst 1, 1) := by decide +kernel
theorem dJ9_floorDiv_f86c9_25 : decode cJ9_floorDiv_f86c9 25 = .ok (.lsub, 1) := by decide +kernel
theorem dJ9_floorDiv_f86c9_26 : decode cJ9_floorDiv_f86c9 26 = .ok (.lreturn, 1) := by decide +kernel
theorem dJ9_floorDiv_f86c9_27 : decode cJ9_floorDiv_f86c9 27 = .ok (.lload 4, 2) := by decide +kernel
theorem dJ9_floorDiv_f86c9_29 : decode cJ9_floorDiv_f86c9 29 = .ok (.lreturn, 1) := by decide +kernel
abbrev KJ9_floorDiv_f86c9 : CK Int64 := (enL, (some .long), 6, 1, none)
noncomputable def FJ9_floorDiv_f86c9 (p0 : Int64) (p1 : Int64) (σ : Ms) : Option (Int64 × Ms) :=
  ck (!(p1 == 0)) (lt (p0 / p1) (fun x1 => if 0 ≤ (lg_cmp (p0 ^^^ p1) (0 : Int64)) then (some (x1, σ))
  else (if (lg_cmp (x1 * p1) p0) = 0 then (some (x1, σ))
  else (some ((x1 - (1 : Int64)), σ)))))
set_option maxRecDepth 100000 in
theorem mcJ9_floorDiv_f86c9 (p0 : Int64) (p1 : Int64) (σ : Ms) : MC enL yJ9_floorDiv_f86c9 cJ9_floorDiv_f86c9 6 (some .long) 1 (FJ9_floorDiv_f86c9 p0 p1 σ) σ [.long p0, .long p1] := by
  refine MC.lF (by decide +kernel) (Nat.le_of_ble_eq_true rfl) ?_
  show VF (KJ9_floorDiv_f86c9) cJ9_floorDiv_f86c9 RJ9 (FJ9_floorDiv_f86c9 p0 p1 σ) σ 0 [(0, .long p0), (2, .long p1)] []
  unfold FJ9_floorDiv_f86c9
  refine v_lload_n dJ9_floorDiv_f86c9_0 0 rfl rfl ?_
  refine v_lload_n dJ9_floorDiv_f86c9_1 1 rfl rfl ?_
  refine v_ldiv dJ9_floorDiv_f86c9_2 ?_
  refine v_ltl fun x1 => ?_
  refine v_lstore (lv' := [(4, .long x1), (0, .long p0), (2, .long p1)]) dJ9_floorDiv_f86c9_3 (by decide) rfl ?_
  refine v_lload_n dJ9_floorDiv_f86c9_5 1 rfl rfl ?_
  refine v_lload_n dJ9_floorDiv_f86c9_6 2 rfl rfl ?_
  refine v_lxor dJ9_floorDiv_f86c9_7 ?_
  refine v_lconst dJ9_floorDiv_f86c9_8 kl_0 ?_
  refine v_lcmp dJ9_floorDiv_f86c9_9 ?_
  refine v_if_ge (tgt := 27) dJ9_floorDiv_f86c9_10 (by decide) ?_ ?_
  · refine v_lload dJ9_floorDiv_f86c9_27 0 rfl ?_
    exact v_lret dJ9_floorDiv_f86c9_29 rfl rfl
  · refine v_lload dJ9_floorDiv_f86c9_13 0 rfl ?_
    refine v_lload_n dJ9_floorDiv_f86c9_15 2 rfl rfl ?_
    refine v_lmul dJ9_floorDiv_f86c9_16 ?_
    refine v_lload_n dJ9_floorDiv_f86c9_17 1 rfl rfl ?_
    refine v_lcmp dJ9_floorDiv_f86c9_18 ?_
    refine v_if_eq (tgt := 27) dJ9_floorDiv_f86c9_19 (by decide) ?_ ?_
    · refine v_lload dJ9_floorDiv_f86c9_27 0 rfl ?_
      exact v_lret dJ9_floorDiv_f86c9_29 rfl rfl
    · refine v_lload dJ9_floorDiv_f86c9_22 0 rfl ?_
      refine v_lconst dJ9_floorDiv_f86c9_24 kl_1 ?_
      refine v_lsub dJ9_floorDiv_f86c9_25 ?_
      exact v_lret dJ9_floorDiv_f86c9_26 rfl rfl
theorem d12_simplest_0 : decode cX12_simplest 0 = .ok (.aload_n 0, 1) := by decide +kernel
theorem d12_simplest_1 : decode cX12_simplest 1 = .ok (.iconst 0, 1) := by decide +kernel
theorem d12_simplest_2 : decode cX12_simplest 2 = .ok (.putfield 53, 3) := by decide +kernel
theorem d12_simplest_5 : decode cX12_simplest 5 = .ok (.aload_n 0, 1) := by decide +kernel
theorem d12_simplest_6 : decode cX12_simplest 6 = .ok (.iconst 0, 1) := by decide +kernel
theorem d12_simplest_7 : decode cX12_simplest 7 = .ok (.putfield 56, 3) := by decide +kernel
theorem d12_simplest_10 : decode cX12_simplest 10 = .ok (.iload_n 1, 1) := by decide +kernel
theorem d12_simplest_11 : decode cX12_simplest 11 = .ok (.iload_n 2, 1) := by decide +kernel
theorem d12_simplest_12 : decode cX12_simplest 12 = .ok (.invokestatic 404, 3) := by decide +kernel
theorem d12_simplest_15 : decode cX12_simplest 15 = .ok (.ifCond .eq 12, 3) := by decide +kernel
theorem d12_simplest_18 : decode cX12_simplest 18 = .ok (.iload_n 3, 1) := by decide +kernel
theorem d12_simplest_19 : decode cX12_simplest 19 = .ok (.iload 4, 2) := by decide +kernel
theorem d12_simplest_21 : decode cX12_simplest 21 = .ok (.invokestatic 404, 3) := by decide +kernel
theorem d12_simplest_24 : decode cX12_simplest 24 = .ok (.ifCond .ne 9, 3) := by decide +kernel
theorem d12_simplest_27 : decode cX12_simplest 27 = .ok (.aload_n 0, 1) := by decide +kernel
theorem d12_simplest_28 : decode cX12_simplest 28 = .ok (.iconst 5, 1) := by decide +kernel
theorem d12_simplest_29 : decode cX12_simplest 29 = .ok (.invokevirtual 68, 3) := by decide +kernel
theorem d12_simplest_32 : decode cX12_simplest 32 = .ok (.ireturn, 1) := by decide +kernel
theorem d12_simplest_33 : decode cX12_simplest 33 = .ok (.iload_n 1, 1) := by decide +kernel
theorem d12_simplest_34 : decode cX12_simplest 34 = .ok (.iload_n 2, 1) := by decide +kernel
theorem d12_simplest_35 : decode cX12_simplest 35 = .ok (.invokestatic 407, 3) := by decide +kernel
theorem d12_simplest_38 : decode cX12_simplest 38 = .ok (.lstore 5, 2) := by decide +kernel
theorem d12_simplest_40 : decode cX12_simplest 40 = .ok (.iload_n 3, 1) := by decide +kernel
theorem d12_simplest_41 : decode cX12_simplest 41 = .ok (.iload 4, 2) := by decide +kernel
theorem d12_simplest_43 : decode cX12_simplest 43 = .ok (.invokestatic 407, 3) := by decide +kernel
theorem d12_simplest_46 : decode cX12_simplest 46 = .ok (.lstore 7, 2) := by decide +kernel
theorem d12_simplest_48 : decode cX12_simplest 48 = .ok (.lload 5, 2) := by decide +kernel
theorem d12_simplest_50 : decode cX12_simplest 50 = .ok (.lload 7, 2) := by decide +kernel
theorem d12_simplest_52 : decode cX12_simplest 52 = .ok (.lcmp, 1) := by decide +kernel
theorem d12_simplest_53 : decode cX12_simplest 53 = .ok (.ifCond .lt 10, 3) := by decide +kernel
theorem d12_simplest_56 : decode cX12_simplest 56 = .ok (.aload_n 0, 1) := by decide +kernel
theorem d12_simplest_57 : decode cX12_simplest 57 = .ok (.bipush 9, 2) := by decide +kernel
theorem d12_simplest_59 : decode cX12_simplest 59 = .ok (.invokevirtual 68, 3) := by decide +kernel
theorem d12_simplest_62 : decode cX12_simplest 62 = .ok (.ireturn, 1) := by decide +kernel
theorem d12_simplest_63 : decode cX12_simplest 63 = .ok (.lload 5, 2) := by decide +kernel
theorem d12_simplest_65 : decode cX12_simplest 65 = .ok (.ldc2_w 307, 3) := by decide +kernel
theorem d12_simplest_68 : decode cX12_simplest 68 = .ok (.invokestatic 411, 3) := by decide +kernel
theorem d12_simplest_71 : decode cX12_simplest 71 = .ok (.lconst 1, 1) := by decide +kernel
theorem d12_simplest_72 : decode cX12_simplest 72 = .ok (.ladd, 1) := by decide +kernel
theorem d12_simplest_73 : decode cX12_simplest 73 = .ok (.lstore 9, 2) := by decide +kernel
theorem d12_simplest_75 : decode cX12_simplest 75 = .ok (.lload 7, 2) := by decide +kernel
theorem d12_simplest_77 : decode cX12_simplest 77 = .ok (.lneg, 1) := by decide +kernel
theorem d12_simplest_78 : decode cX12_simplest 78 = .ok (.ldc2_w 307, 3) := by decide +kernel
theorem d12_simplest_81 : decode cX12_simplest 81 = .ok (.invokestatic 411, 3) := by decide +kernel
theorem d12_simplest_84 : decode cX12_simplest 84 = .ok (.lneg, 1) := by decide +kernel
theorem d12_simplest_85 : decode cX12_simplest 85 = .ok (.lconst 1, 1) := by decide +kernel
theorem d12_simplest_86 : decode cX12_simplest 86 = .ok (.lsub, 1) := by decide +kernel
theorem d12_simplest_87 : decode cX12_simplest 87 = .ok (.lstore 11, 2) := by decide +kernel
theorem d12_simplest_89 : decode cX12_simplest 89 = .ok (.lload 9, 2) := by decide +kernel
theorem d12_simplest_91 : decode cX12_simplest 91 = .ok (.lload 11, 2) := by decide +kernel
theorem d12_simplest_93 : decode cX12_simplest 93 = .ok (.lcmp, 1) := by decide +kernel
theorem d12_simplest_94 : decode cX12_simplest 94 = .ok (.ifCond .gt 34, 3) := by decide +kernel
theorem d12_simplest_97 : decode cX12_simplest 97 = .ok (.aload_n 0, 1) := by decide +kernel
theorem d12_simplest_98 : decode cX12_simplest 98 = .ok (.lload 9, 2) := by decide +kernel
theorem d12_simplest_100 : decode cX12_simplest 100 = .ok (.lconst 0, 1) := by decide +kernel
theorem d12_simplest_101 : decode cX12_simplest 101 = .ok (.lcmp, 1) := by decide +kernel
theorem d12_simplest_102 : decode cX12_simplest 102 = .ok (.ifCond .le 8, 3) := by decide +kernel
theorem d12_simplest_105 : decode cX12_simplest 105 = .ok (.lload 9, 2) := by decide +kernel
theorem d12_simplest_107 : decode cX12_simplest 107 = .ok (.goto 16, 3) := by decide +kernel
theorem d12_simplest_110 : decode cX12_simplest 110 = .ok (.lload 11, 2) := by decide +kernel
theorem d12_simplest_112 : decode cX12_simplest 112 = .ok (.lconst 0, 1) := by decide +kernel
theorem d12_simplest_113 : decode cX12_simplest 113 = .ok (.lcmp, 1) := by decide +kernel
theorem d12_simplest_114 : decode cX12_simplest 114 = .ok (.ifCond .ge 8, 3) := by decide +kernel
theorem d12_simplest_117 : decode cX12_simplest 117 = .ok (.lload 11, 2) := by decide +kernel
theorem d12_simplest_119 : decode cX12_simplest 119 = .ok (.goto 4, 3) := by decide +kernel
theorem d12_simplest_122 : decode cX12_simplest 122 = .ok (.lconst 0, 1) := by decide +kernel
theorem d12_simplest_123 : decode cX12_simplest 123 = .ok (.lconst 1, 1) := by decide +kernel
theorem d12_simplest_124 : decode cX12_simplest 124 = .ok (.invokevirtual 327, 3) := by decide +kernel
theorem d12_simplest_127 : decode cX12_simplest 127 = .ok (.ireturn, 1) := by decide +kernel
theorem d12_simplest_128 : decode cX12_simplest 128 = .ok (.lconst 1, 1) := by decide +kernel
theorem d12_simplest_129 : decode cX12_simplest 129 = .ok (.lstore 13, 2) := by decide +kernel
theorem d12_simplest_131 : decode cX12_simplest 131 = .ok (.iconst 0, 1) := by decide +kernel
theorem d12_simplest_132 : decode cX12_simplest 132 = .ok (.istore 15, 2) := by decide +kernel
theorem d12_simplest_134 : decode cX12_simplest 134 = .ok (.iload 15, 2) := by decide +kernel
theorem d12_simplest_136 : decode cX12_simplest 136 = .ok (.bipush 21, 2) := by decide +kernel
theorem d12_simplest_138 : decode cX12_simplest 138 = .ok (.if_icmp .ge 56, 3) := by decide +kernel
theorem d12_simplest_141 : decode cX12_simplest 141 = .ok (.lload 13, 2) := by decide +kernel
theorem d12_simplest_143 : decode cX12_simplest 143 = .ok (.ldc2_w 355, 3) := by decide +kernel
theorem d12_simplest_146 : decode cX12_simplest 146 = .ok (.lmul, 1) := by decide +kernel
theorem d12_simplest_147 : decode cX12_simplest 147 = .ok (.lstore 13, 2) := by decide +kernel
theorem d12_simplest_149 : decode cX12_simplest 149 = .ok (.lload 5, 2) := by decide +kernel
theorem d12_simplest_151 : decode cX12_simplest 151 = .ok (.lload 13, 2) := by decide +kernel
theorem d12_simplest_153 : decode cX12_simplest 153 = .ok (.lmul, 1) := by decide +kernel
theorem d12_simplest_154 : decode cX12_simplest 154 = .ok (.ldc2_w 307, 3) := by decide +kernel
theorem d12_simplest_157 : decode cX12_simplest 157 = .ok (.invokestatic 411, 3) := by decide +kernel
theorem d12_simplest_160 : decode cX12_simplest 160 = .ok (.lconst 1, 1) := by decide +kernel
theorem d12_simplest_161 : decode cX12_simplest 161 = .ok (.ladd, 1) := by decide +kernel
theorem d12_simplest_162 : decode cX12_simplest 162 = .ok (.lstore 16, 2) := by decide +kernel
theorem d12_simplest_164 : decode cX12_simplest 164 = .ok (.lload 16, 2) := by decide +kernel
theorem d12_simplest_166 : decode cX12_simplest 166 = .ok (.ldc2_w 307, 3) := by decide +kernel
theorem d12_simplest_169 : decode cX12_simplest 169 = .ok (.lmul, 1) := by decide +kernel
theorem d12_simplest_170 : decode cX12_simplest 170 = .ok (.lload 7, 2) := by decide +kernel
theorem d12_simplest_172 : decode cX12_simplest 172 = .ok (.lload 13, 2) := by decide +kernel
theorem d12_simplest_174 : decode cX12_simplest 174 = .ok (.lmul, 1) := by decide +kernel
theorem d12_simplest_175 : decode cX12_simplest 175 = .ok (.lcmp, 1) := by decide +kernel
theorem d12_simplest_176 : decode cX12_simplest 176 = .ok (.ifCond .ge 12, 3) := by decide +kernel
theorem d12_simplest_179 : decode cX12_simplest 179 = .ok (.aload_n 0, 1) := by decide +kernel
theorem d12_simplest_180 : decode cX12_simplest 180 = .ok (.lload 16, 2) := by decide +kernel
theorem d12_simplest_182 : decode cX12_simplest 182 = .ok (.lload 13, 2) := by decide +kernel
theorem d12_simplest_184 : decode cX12_simplest 184 = .ok (.invokevirtual 327, 3) := by decide +kernel
theorem d12_simplest_187 : decode cX12_simplest 187 = .ok (.ireturn, 1) := by decide +kernel
theorem d12_simplest_188 : decode cX12_simplest 188 = .ok (.iinc 15 1, 3) := by decide +kernel
theorem d12_simplest_191 : decode cX12_simplest 191 = .ok (.goto (-57), 3) := by decide +kernel
theorem d12_simplest_194 : decode cX12_simplest 194 = .ok (.aload_n 0, 1) := by decide +kernel
theorem d12_simplest_195 : decode cX12_simplest 195 = .ok (.bipush 9, 2) := by decide +kernel
theorem d12_simplest_197 : decode cX12_simplest 197 = .ok (.invokevirtual 68, 3) := by decide +kernel
theorem d12_simplest_200 : decode cX12_simplest 200 = .ok (.ireturn, 1) := by decide +kernel
abbrev K12_simplest : CK Int32 := (enI, (some .boolean), 18, 3, none)
noncomputable def F12_simplest_b27 (N : Nat) (σ : Ms) : Option (Int32 × Ms) :=
  bn (F12_no (5 : Int32) σ) (fun r1 t2 => ck (nkB r1) (some (r1, t2)))
noncomputable def F12_simplest_b134B (N : Nat) (k134 : Int64 × Int64 × Int64 × Int32 × Ms → Option (Int32 × Ms)) (l5 : Int64) (l7 : Int64) (l13 : Int64) (l15 : Int32) (σ : Ms) : Option (Int32 × Ms) :=
  if (21 : Int32) ≤ l15 then (bn (F12_no (9 : Int32) σ) (fun r3 t4 => ck (nkB r3) (some (r3, t4))))
  else (lt (l13 * (2 : Int64)) (fun x5 => bn (FJ9_floorDiv_f86c9 (l5 * x5) (1048576 : Int64) σ) (fun r6 t7 => lt (r6 + (1 : Int64)) (fun x8 => if 0 ≤ (lg_cmp (x8 * (1048576 : Int64)) (l7 * x5)) then (k134 (l5, l7, x5, (l15 + (1 : Int32)), t7))
  else (bn (F12_fraction N x8 x5 t7) (fun r9 t10 => ck (nkB r9) (some (r9, t10))))))))
noncomputable def F12_simplest_b134 (N : Nat) (l5 : Int64) (l7 : Int64) (l13 : Int64) (l15 : Int32) (σ : Ms) : Option (Int32 × Ms) :=
  fx N (fun k x => F12_simplest_b134B N k x.1 x.2.1 x.2.2.1 x.2.2.2.1 x.2.2.2.2) (l5, l7, l13, l15, σ)
noncomputable def F12_simplest_b123 (N : Nat) (s1 : Int64) (σ : Ms) : Option (Int32 × Ms) :=
  bn (F12_fraction N s1 (1 : Int64) σ) (fun r11 t12 => ck (nkB r11) (some (r11, t12)))
noncomputable def F12_simplest (N : Nat) (p0 : Int32) (p1 : Int32) (p2 : Int32) (p3 : Int32) (σ : Ms) : Option (Int32 × Ms) :=
  lt (sI σ 0 1 (0 : Int32)) (fun t13 => lt (sI t13 0 0 (0 : Int32)) (fun t14 => bn (F12_isNumber p0 p1 t14) (fun r15 t16 => if r15 = 0 then (F12_simplest_b27 N t16)
  else (bn (F12_isNumber p2 p3 t16) (fun r17 t18 => if r17 ≠ 0 then (bn (F12_partsOf p0 p1 t18) (fun r19 t20 => bn (F12_partsOf p2 p3 t20) (fun r21 t22 => if (lg_cmp r19 r21) < 0 then (bn (FJ9_floorDiv_f86c9 r19 (1048576 : Int64) t22) (fun r23 t24 => lt (r23 + (1 : Int64)) (fun x25 => bn (FJ9_floorDiv_f86c9 (-r21) (1048576 : Int64) t24) (fun r26 t27 => lt ((-r26) - (1 : Int64)) (fun x28 => if 0 < (lg_cmp x25 x28) then (F12_simplest_b134 N r19 r21 (1 : Int64) (0 : Int32) t27)
  else (if (lg_cmp x25 (0 : Int64)) ≤ 0 then (if 0 ≤ (lg_cmp x28 (0 : Int64)) then (F12_simplest_b123 N (0 : Int64) t27)
  else (F12_simplest_b123 N x28 t27))
  else (F12_simplest_b123 N x25 t27)))))))
  else (bn (F12_no (9 : Int32) t22) (fun r29 t30 => ck (nkB r29) (some (r29, t30)))))))
  else (F12_simplest_b27 N t18))))))
set_option maxRecDepth 100000 in
theorem v12_simplest_b27 (N : Nat) (σ : Ms) : VF (K12_simplest) cX12_simplest RX12 (F12_simplest_b27 N σ) σ 27 [(0, .ref 0)] [] := by
  unfold F12_simplest_b27
  refine v_aload_n d12_simplest_27 0 rfl rfl ?_
  refine v_iconst d12_simplest_28 ki_5 ?_
  refine v_callV1i d12_simplest_29 (mc12_no (5 : Int32) σ) yv12_no mlX12_68 (Recv.obj ic_0 rfl) (by decide) (Nat.le_of_ble_eq_true rfl) fun r1 t2 => ?_
  exact v_iretB d12_simplest_32 rfl rfl
set_option maxRecDepth 100000 in
theorem v12_simplest_b134B (N : Nat) (k134 : Int64 × Int64 × Int64 × Int32 × Ms → Option (Int32 × Ms)) (hk134 : ∀ (l5 : Int64) (l7 : Int64) (l13 : Int64) (l15 : Int32) (τ : Ms), VF (K12_simplest) cX12_simplest RX12 (k134 (l5, l7, l13, l15, τ)) τ 134 [(0, .ref 0), (5, .long l5), (7, .long l7), (13, .long l13), (15, .int l15)] []) (l5 : Int64) (l7 : Int64) (l13 : Int64) (l15 : Int32) (σ : Ms) : VF (K12_simplest) cX12_simplest RX12 (F12_simplest_b134B N k134 l5 l7 l13 l15 σ) σ 134 [(0, .ref 0), (5, .long l5), (7, .long l7), (13, .long l13), (15, .int l15)] [] := by
  unfold F12_simplest_b134B
  refine v_iload d12_simplest_134 4 rfl ?_
  refine v_bipush d12_simplest_136 kb_21 ?_
  refine v_icmp_ge (tgt := 194) d12_simplest_138 (by decide) ?_ ?_
  · refine v_aload_n d12_simplest_194 0 rfl rfl ?_
    refine v_bipush d12_simplest_195 kb_9 ?_
    refine v_callV1i d12_simplest_197 (mc12_no (9 : Int32) σ) yv12_no mlX12_68 (Recv.obj ic_0 rfl) (by decide) (Nat.le_of_ble_eq_true rfl) fun r3 t4 => ?_
    exact v_iretB d12_simplest_200 rfl rfl
  · refine v_lload d12_simplest_141 3 rfl ?_
    refine v_ldc2 d12_simplest_143 klX12_355 ?_
    refine v_lmul d12_simplest_146 ?_
    refine v_ltl fun x5 => ?_
    refine v_lstore (lv' := [(13, .long x5), (0, .ref 0), (5, .long l5), (7, .long l7), (15, .int l15)]) d12_simplest_147 (by decide) rfl ?_
    refine v_lload d12_simplest_149 2 rfl ?_
    refine v_lload d12_simplest_151 0 rfl ?_
    refine v_lmul d12_simplest_153 ?_
    refine v_ldc2 d12_simplest_154 klX12_307 ?_
    refine v_callS2l d12_simplest_157 (mcJ9_floorDiv_f86c9 (l5 * x5) (1048576 : Int64) σ) ysJ9_floorDiv_f86c9 mlX12_411 (by decide) (Nat.le_of_ble_eq_true rfl) fun r6 t7 => ?_
    refine v_lconst d12_simplest_160 kl_1 ?_
    refine v_ladd d12_simplest_161 ?_
    refine v_ltl fun x8 => ?_
    refine v_lstore (lv' := [(16, .long x8), (13, .long x5), (0, .ref 0), (5, .long l5), (7, .long l7), (15, .int l15)]) d12_simplest_162 (by decide) rfl ?_
    refine v_lload d12_simplest_164 0 rfl ?_
    refine v_ldc2 d12_simplest_166 klX12_307 ?_
    refine v_lmul d12_simplest_169 ?_
    refine v_lload d12_simplest_170 4 rfl ?_
    refine v_lload d12_simplest_172 1 rfl ?_
    refine v_lmul d12_simplest_174 ?_
    refine v_lcmp d12_simplest_175 ?_
    refine v_if_ge (tgt := 188) d12_simplest_176 (by decide) ?_ ?_
    · refine v_iinc (lv' := [(15, .int (l15 + (1 : Int32))), (16, .long x8), (13, .long x5), (0, .ref 0), (5, .long l5), (7, .long l7)]) d12_simplest_188 5 rfl (by rw [ki_1]) (by decide) rfl ?_
      refine v_goto (tgt := 134) d12_simplest_191 (by decide) ?_
      refine v_sub [3, 4, 5, 2, 0] rfl ?_
      exact hk134 l5 l7 x5 (l15 + (1 : Int32)) t7
    · refine v_aload_n d12_simplest_179 2 rfl rfl ?_
      refine v_lload d12_simplest_180 0 rfl ?_
      refine v_lload d12_simplest_182 1 rfl ?_
      refine v_callV2i d12_simplest_184 (mc12_fraction N x8 x5 t7) yv12_fraction mlX12_327 (Recv.obj ic_0 rfl) (by decide) (Nat.le_of_ble_eq_true rfl) fun r9 t10 => ?_
      exact v_iretB d12_simplest_187 rfl rfl
theorem v12_simplest_b134 (N : Nat) (l5 : Int64) (l7 : Int64) (l13 : Int64) (l15 : Int32) (σ : Ms) : VF (K12_simplest) cX12_simplest RX12 (F12_simplest_b134 N l5 l7 l13 l15 σ) σ 134 [(0, .ref 0), (5, .long l5), (7, .long l7), (13, .long l13), (15, .int l15)] [] := v_fx (σo := fun x => x.2.2.2.2) (lo := fun x => [(0, .ref 0), (5, .long x.1), (7, .long x.2.1), (13, .long x.2.2.1), (15, .int x.2.2.2.1)]) (fun k hk x => v12_simplest_b134B N k (fun l5 l7 l13 l15 τ => hk (l5, l7, l13, l15, τ)) x.1 x.2.1 x.2.2.1 x.2.2.2.1 x.2.2.2.2) N (l5, l7, l13, l15, σ)
set_option maxRecDepth 100000 in
theorem v12_simplest_b123 (N : Nat) (s1 : Int64) (σ : Ms) : VF (K12_simplest) cX12_simplest RX12 (F12_simplest_b123 N s1 σ) σ 123 [] [.long s1, .ref 0] := by
  unfold F12_simplest_b123
  refine v_lconst d12_simplest_123 kl_1 ?_
  refine v_callV2i d12_simplest_124 (mc12_fraction N s1 (1 : Int64) σ) yv12_fraction mlX12_327 (Recv.obj ic_0 rfl) (by decide) (Nat.le_of_ble_eq_true rfl) fun r11 t12 => ?_
  exact v_iretB d12_simplest_127 rfl rfl
set_option maxRecDepth 100000 in
theorem mc12_simplest (N : Nat) (p0 : Int32) (p1 : Int32) (p2 : Int32) (p3 : Int32) (σ : Ms) : MC enI yX12_simplest cX12_simplest 18 (some .boolean) 3 (F12_simplest N p0 p1 p2 p3 σ) σ [.ref 0, .int p0, .int p1, .int p2, .int p3] := by
  refine MC.i (by decide +kernel) (Nat.le_of_ble_eq_true rfl) ?_
  show VF (K12_simplest) cX12_simplest RX12 (F12_simplest N p0 p1 p2 p3 σ) σ 0 [(0, .ref 0), (1, .int p0), (2, .int p1), (3, .int p2), (4, .int p3)] []
  unfold F12_simplest
  refine v_aload_n d12_simplest_0 0 rfl rfl ?_
  refine v_iconst d12_simplest_1 ki_0 ?_
  refine v_putI d12_simplest_2 faX12_53 fp9_1 ic_0 ?_
  refine v_lts fun t13 => ?_
  refine v_aload_n d12_simplest_5 0 rfl rfl ?_
  refine v_iconst d12_simplest_6 ki_0 ?_
  refine v_putI d12_simplest_7 faX12_56 fp9_0 ic_0 ?_
  refine v_lts fun t14 => ?_
  refine v_iload_n d12_simplest_10 1 rfl rfl ?_
  refine v_iload_n d12_simplest_11 2 rfl rfl ?_
  refine v_callS2i d12_simplest_12 (mc12_isNumber p0 p1 t14) ys12_isNumber mlX12_404 (by decide) (Nat.le_of_ble_eq_true rfl) fun r15 t16 => ?_
  refine v_if_eq (tgt := 27) d12_simplest_15 (by decide) ?_ ?_
  · refine v_sub [0] rfl ?_
    exact v12_simplest_b27 N t16
  · refine v_iload_n d12_simplest_18 3 rfl rfl ?_
    refine v_iload d12_simplest_19 4 rfl ?_
    refine v_callS2i d12_simplest_21 (mc12_isNumber p2 p3 t16) ys12_isNumber mlX12_404 (by decide) (Nat.le_of_ble_eq_true rfl) fun r17 t18 => ?_
    refine v_if_ne (tgt := 33) d12_simplest_24 (by decide) ?_ ?_
    · refine v_iload_n d12_simplest_33 1 rfl rfl ?_
      refine v_iload_n d12_simplest_34 2 rfl rfl ?_
      refine v_callS2l d12_simplest_35 (mc12_partsOf p0 p1 t18) ys12_partsOf mlX12_407 (by decide) (Nat.le_of_ble_eq_true rfl) fun r19 t20 => ?_
      refine v_lstore (lv' := [(5, .long r19), (0, .ref 0), (1, .int p0), (2, .int p1), (3, .int p2), (4, .int p3)]) d12_simplest_38 (by decide) rfl ?_
      refine v_iload_n d12_simplest_40 4 rfl rfl ?_
      refine v_iload d12_simplest_41 5 rfl ?_
      refine v_callS2l d12_simplest_43 (mc12_partsOf p2 p3 t20) ys12_partsOf mlX12_407 (by decide) (Nat.le_of_ble_eq_true rfl) fun r21 t22 => ?_
      refine v_lstore (lv' := [(7, .long r21), (5, .long r19), (0, .ref 0), (1, .int p0), (2, .int p1), (3, .int p2), (4, .int p3)]) d12_simplest_46 (by decide) rfl ?_
      refine v_lload d12_simplest_48 1 rfl ?_
      refine v_lload d12_simplest_50 0 rfl ?_
      refine v_lcmp d12_simplest_52 ?_
      refine v_if_lt (tgt := 63) d12_simplest_53 (by decide) ?_ ?_
      · refine v_lload d12_simplest_63 1 rfl ?_
        refine v_ldc2 d12_simplest_65 klX12_307 ?_
        refine v_callS2l d12_simplest_68 (mcJ9_floorDiv_f86c9 r19 (1048576 : Int64) t22) ysJ9_floorDiv_f86c9 mlX12_411 (by decide) (Nat.le_of_ble_eq_true rfl) fun r23 t24 => ?_
        refine v_lconst d12_simplest_71 kl_1 ?_
        refine v_ladd d12_simplest_72 ?_
        refine v_ltl fun x25 => ?_
        refine v_lstore (lv' := [(9, .long x25), (7, .long r21), (5, .long r19), (0, .ref 0), (1, .int p0), (2, .int p1), (3, .int p2), (4, .int p3)]) d12_simplest_73 (by decide) rfl ?_
        refine v_lload d12_simplest_75 1 rfl ?_
        refine v_lneg d12_simplest_77 ?_
        refine v_ldc2 d12_simplest_78 klX12_307 ?_
        refine v_callS2l d12_simplest_81 (mcJ9_floorDiv_f86c9 (-r21) (1048576 : Int64) t24) ysJ9_floorDiv_f86c9 mlX12_411 (by decide) (Nat.le_of_ble_eq_true rfl) fun r26 t27 => ?_
        refine v_lneg d12_simplest_84 ?_
        refine v_lconst d12_simplest_85 kl_1 ?_
        refine v_lsub d12_simplest_86 ?_
        refine v_ltl fun x28 => ?_
        refine v_lstore (lv' := [(11, .long x28), (9, .long x25), (7, .long r21), (5, .long r19), (0, .ref 0), (1, .int p0), (2, .int p1), (3, .int p2), (4, .int p3)]) d12_simplest_87 (by decide) rfl ?_
        refine v_lload d12_simplest_89 1 rfl ?_
        refine v_lload d12_simplest_91 0 rfl ?_
        refine v_lcmp d12_simplest_93 ?_
        refine v_if_gt (tgt := 128) d12_simplest_94 (by decide) ?_ ?_
        · refine v_lconst d12_simplest_128 kl_1 ?_
          refine v_lstore (lv' := [(13, .long (1 : Int64)), (11, .long x28), (9, .long x25), (7, .long r21), (5, .long r19), (0, .ref 0), (1, .int p0), (2, .int p1), (3, .int p2), (4, .int p3)]) d12_simplest_129 (by decide) rfl ?_
          refine v_iconst d12_simplest_131 ki_0 ?_
          refine v_istore (lv' := [(15, .int (0 : Int32)), (13, .long (1 : Int64)), (11, .long x28), (9, .long x25), (7, .long r21), (5, .long r19), (0, .ref 0), (1, .int p0), (2, .int p1), (3, .int p2), (4, .int p3)]) d12_simplest_132 (by decide) rfl ?_
          refine v_sub [6, 5, 4, 1, 0] rfl ?_
          exact v12_simplest_b134 N r19 r21 (1 : Int64) (0 : Int32) t27
        · refine v_aload_n d12_simplest_97 4 rfl rfl ?_
          refine v_lload d12_simplest_98 1 rfl ?_
          refine v_lconst d12_simplest_100 kl_0 ?_
          refine v_lcmp d12_simplest_101 ?_
          refine v_if_le (tgt := 110) d12_simplest_102 (by decide) ?_ ?_
          · refine v_lload d12_simplest_110 0 rfl ?_
            refine v_lconst d12_simplest_112 kl_0 ?_
            refine v_lcmp d12_simplest_113 ?_
            refine v_if_ge (tgt := 122) d12_simplest_114 (by decide) ?_ ?_
            · refine v_lconst d12_simplest_122 kl_0 ?_
              refine v_sub [] rfl ?_
              exact v12_simplest_b123 N (0 : Int64) t27
            · refine v_lload d12_simplest_117 0 rfl ?_
              refine v_goto (tgt := 123) d12_simplest_119 (by decide) ?_
              refine v_sub [] rfl ?_
              exact v12_simplest_b123 N x28 t27
          · refine v_lload d12_simplest_105 1 rfl ?_
            refine v_goto (tgt := 123) d12_simplest_107 (by decide) ?_
            refine v_sub [] rfl ?_
            exact v12_simplest_b123 N x25 t27
      · refine v_aload_n d12_simplest_56 2 rfl rfl ?_
        refine v_bipush d12_simplest_57 kb_9 ?_
        refine v_callV1i d12_simplest_59 (mc12_no (9 : Int32) t22) yv12_no mlX12_68 (Recv.obj ic_0 rfl) (by decide) (Nat.le_of_ble_eq_true rfl) fun r29 t30 => ?_
        exact v_iretB d12_simplest_62 rfl rfl
    · refine v_sub [0] rfl ?_
      exact v12_simplest_b27 N t18
