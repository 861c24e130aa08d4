theorem d11_less_0 : decode cX11_less 0 = .ok (.aload_n 0, 1) := by decide +kernel
theorem d11_less_1 : decode cX11_less 1 = .ok (.getfield 26, 3) := by decide +kernel
theorem d11_less_4 : decode cX11_less 4 = .ok (.iload_n 1, 1) := by decide +kernel
theorem d11_less_5 : decode cX11_less 5 = .ok (.invokevirtual 242, 3) := by decide +kernel
theorem d11_less_8 : decode cX11_less 8 = .ok (.ifCond .ne 9, 3) := by decide +kernel
theorem d11_less_11 : decode cX11_less 11 = .ok (.aload_n 0, 1) := by decide +kernel
theorem d11_less_12 : decode cX11_less 12 = .ok (.iconst 2, 1) := by decide +kernel
theorem d11_less_13 : decode cX11_less 13 = .ok (.invokevirtual 132, 3) := by decide +kernel
theorem d11_less_16 : decode cX11_less 16 = .ok (.ireturn, 1) := by decide +kernel
theorem d11_less_17 : decode cX11_less 17 = .ok (.iload_n 2, 1) := by decide +kernel
theorem d11_less_18 : decode cX11_less 18 = .ok (.ifCond .lt 9, 3) := by decide +kernel
theorem d11_less_21 : decode cX11_less 21 = .ok (.iload_n 2, 1) := by decide +kernel
theorem d11_less_22 : decode cX11_less 22 = .ok (.bipush 15, 2) := by decide +kernel
theorem d11_less_24 : decode cX11_less 24 = .ok (.if_icmp .le 9, 3) := by decide +kernel
theorem d11_less_27 : decode cX11_less 27 = .ok (.aload_n 0, 1) := by decide +kernel
theorem d11_less_28 : decode cX11_less 28 = .ok (.iconst 5, 1) := by decide +kernel
theorem d11_less_29 : decode cX11_less 29 = .ok (.invokevirtual 132, 3) := by decide +kernel
theorem d11_less_32 : decode cX11_less 32 = .ok (.ireturn, 1) := by decide +kernel
theorem d11_less_33 : decode cX11_less 33 = .ok (.aload_n 0, 1) := by decide +kernel
theorem d11_less_34 : decode cX11_less 34 = .ok (.getfield 26, 3) := by decide +kernel
theorem d11_less_37 : decode cX11_less 37 = .ok (.iload_n 1, 1) := by decide +kernel
theorem d11_less_38 : decode cX11_less 38 = .ok (.iload_n 2, 1) := by decide +kernel
theorem d11_less_39 : decode cX11_less 39 = .ok (.invokevirtual 273, 3) := by decide +kernel
theorem d11_less_42 : decode cX11_less 42 = .ok (.ifCond .ne 10, 3) := by decide +kernel
theorem d11_less_45 : decode cX11_less 45 = .ok (.aload_n 0, 1) := by decide +kernel
theorem d11_less_46 : decode cX11_less 46 = .ok (.bipush 9, 2) := by decide +kernel
theorem d11_less_48 : decode cX11_less 48 = .ok (.invokevirtual 132, 3) := by decide +kernel
theorem d11_less_51 : decode cX11_less 51 = .ok (.ireturn, 1) := by decide +kernel
theorem d11_less_52 : decode cX11_less 52 = .ok (.aload_n 0, 1) := by decide +kernel
theorem d11_less_53 : decode cX11_less 53 = .ok (.getfield 26, 3) := by decide +kernel
theorem d11_less_56 : decode cX11_less 56 = .ok (.iload_n 1, 1) := by decide +kernel
theorem d11_less_57 : decode cX11_less 57 = .ok (.iload_n 2, 1) := by decide +kernel
theorem d11_less_58 : decode cX11_less 58 = .ok (.invokevirtual 276, 3) := by decide +kernel
theorem d11_less_61 : decode cX11_less 61 = .ok (.aload_n 0, 1) := by decide +kernel
theorem d11_less_62 : decode cX11_less 62 = .ok (.aload_n 0, 1) := by decide +kernel
theorem d11_less_63 : decode cX11_less 63 = .ok (.getfield 26, 3) := by decide +kernel
theorem d11_less_66 : decode cX11_less 66 = .ok (.aload_n 0, 1) := by decide +kernel
theorem d11_less_67 : decode cX11_less 67 = .ok (.getfield 26, 3) := by decide +kernel
theorem d11_less_70 : decode cX11_less 70 = .ok (.getfield 206, 3) := by decide +kernel
theorem d11_less_73 : decode cX11_less 73 = .ok (.invokevirtual 279, 3) := by decide +kernel
theorem d11_less_76 : decode cX11_less 76 = .ok (.invokevirtual 186, 3) := by decide +kernel
theorem d11_less_79 : decode cX11_less 79 = .ok (.ireturn, 1) := by decide +kernel
abbrev K11_less : CK Int32 := (enI, (some .int), 3, 4, none)
noncomputable def F11_less_b27 (N : Nat) (σ : Ms) : Option (Int32 × Ms) :=
  bn (F11_none (5 : Int32) σ) (fun r1 t2 => some (r1, t2))
noncomputable def F11_less (N : Nat) (p0 : Int32) (p1 : Int32) (σ : Ms) : Option (Int32 × Ms) :=
  bn (F0_hasHeap 22 p0 σ) (fun r3 t4 => if r3 ≠ 0 then (if p1 < 0 then (F11_less_b27 N t4)
  else (if p1 ≤ (15 : Int32) then (bn (F0_mayLessen 22 p0 p1 t4) (fun r5 t6 => if r5 ≠ 0 then (bn (F0_lessen 22 p0 p1 t6) (fun r7 t8 => bn (F0_nimWith N 22 (t8.1 22 6) t8) (fun r9 t10 => bn (F11_told r9 t10) (fun r11 t12 => some (r11, t12)))))
  else (bn (F11_none (9 : Int32) t6) (fun r13 t14 => some (r13, t14)))))
  else (F11_less_b27 N t4)))
  else (bn (F11_none (2 : Int32) t4) (fun r15 t16 => some (r15, t16))))
set_option maxRecDepth 100000 in
theorem v11_less_b27 (N : Nat) (σ : Ms) : VF (K11_less) cX11_less RX11 (F11_less_b27 N σ) σ 27 [(0, .ref 11)] [] := by
  unfold F11_less_b27
  refine v_aload_n d11_less_27 0 rfl rfl ?_
  refine v_iconst d11_less_28 ki_5 ?_
  refine v_callV1i d11_less_29 (mc11_none (5 : Int32) σ) yv11_none mlX11_132 (Recv.obj ic_11 rfl) (by decide) (Nat.le_of_ble_eq_true rfl) fun r1 t2 => ?_
  exact v_iret d11_less_32 rfl rfl rfl
set_option maxRecDepth 100000 in
theorem mc11_less (N : Nat) (p0 : Int32) (p1 : Int32) (σ : Ms) : MC enI yX11_less cX11_less 3 (some .int) 4 (F11_less N p0 p1 σ) σ [.ref 11, .int p0, .int p1] := by
  refine MC.i (by decide +kernel) (Nat.le_of_ble_eq_true rfl) ?_
  show VF (K11_less) cX11_less RX11 (F11_less N p0 p1 σ) σ 0 [(0, .ref 11), (1, .int p0), (2, .int p1)] []
  unfold F11_less
  refine v_aload_n d11_less_0 0 rfl rfl ?_
  refine v_getR d11_less_1 faX11_26 ic_11 rfl ?_
  refine v_iload_n d11_less_4 1 rfl rfl ?_
  refine v_callV1i d11_less_5 (mc0_hasHeap 22 ic_22 p0 σ) yv0_hasHeap mlX11_242 (Recv.obj ic_22 rfl) (by decide) (Nat.le_of_ble_eq_true rfl) fun r3 t4 => ?_
  refine v_if_ne (tgt := 17) d11_less_8 (by decide) ?_ ?_
  · refine v_iload_n d11_less_17 2 rfl rfl ?_
    refine v_if_lt (tgt := 27) d11_less_18 (by decide) ?_ ?_
    · refine v_sub [0] rfl ?_
      exact v11_less_b27 N t4
    · refine v_iload_n d11_less_21 2 rfl rfl ?_
      refine v_bipush d11_less_22 kb_15 ?_
      refine v_icmp_le (tgt := 33) d11_less_24 (by decide) ?_ ?_
      · refine v_aload_n d11_less_33 0 rfl rfl ?_
        refine v_getR d11_less_34 faX11_26 ic_11 rfl ?_
        refine v_iload_n d11_less_37 1 rfl rfl ?_
        refine v_iload_n d11_less_38 2 rfl rfl ?_
        refine v_callV2i d11_less_39 (mc0_mayLessen 22 ic_22 p0 p1 t4) yv0_mayLessen mlX11_273 (Recv.obj ic_22 rfl) (by decide) (Nat.le_of_ble_eq_true rfl) fun r5 t6 => ?_
        refine v_if_ne (tgt := 52) d11_less_42 (by decide) ?_ ?_
        · refine v_aload_n d11_less_52 0 rfl rfl ?_
          refine v_getR d11_less_53 faX11_26 ic_11 rfl ?_
          refine v_iload_n d11_less_56 1 rfl rfl ?_
          refine v_iload_n d11_less_57 2 rfl rfl ?_
          refine v_callV2v d11_less_58 (mc0_lessen 22 ic_22 p0 p1 t6) yv0_lessen mlX11_276 (Recv.obj ic_22 rfl) (by decide) (Nat.le_of_ble_eq_true rfl) fun r7 t8 => ?_
          refine v_aload_n d11_less_61 0 rfl rfl ?_
          refine v_aload_n d11_less_62 0 rfl rfl ?_
          refine v_getR d11_less_63 faX11_26 ic_11 rfl ?_
          refine v_aload_n d11_less_66 0 rfl rfl ?_
          refine v_getR d11_less_67 faX11_26 ic_11 rfl ?_
          refine v_getI d11_less_70 faX11_206 ic_22 ?_
          refine v_callV1i d11_less_73 (mc0_nimWith N 22 ic_22 (t8.1 22 6) t8) yv0_nimWith mlX11_279 (Recv.obj ic_22 rfl) (by decide) (Nat.le_of_ble_eq_true rfl) fun r9 t10 => ?_
          refine v_callV1i d11_less_76 (mc11_told r9 t10) yv11_told mlX11_186 (Recv.obj ic_11 rfl) (by decide) (Nat.le_of_ble_eq_true rfl) fun r11 t12 => ?_
          exact v_iret d11_less_79 rfl rfl rfl
        · refine v_aload_n d11_less_45 0 rfl rfl ?_
          refine v_bipush d11_less_46 kb_9 ?_
          refine v_callV1i d11_less_48 (mc11_none (9 : Int32) t6) yv11_none mlX11_132 (Recv.obj ic_11 rfl) (by decide) (Nat.le_of_ble_eq_true rfl) fun r13 t14 => ?_
          exact v_iret d11_less_51 rfl rfl rfl
      · refine v_sub [0] rfl ?_
        exact v11_less_b27 N t4
  · refine v_aload_n d11_less_11 0 rfl rfl ?_
    refine v_iconst d11_less_12 ki_2 ?_
    refine v_callV1i d11_less_13 (mc11_none (2 : Int32) t4) yv11_none mlX11_132 (Recv.obj ic_11 rfl) (by decide) (Nat.le_of_ble_eq_true rfl) fun r15 t16 => ?_
    exact v_iret d11_less_16 rfl rfl rfl
theorem d11_spend_0 : decode cX11_spend 0 = .ok (.iload_n 1, 1) := by decide +kernel
theorem d11_spend_1 : decode cX11_spend 1 = .ok (.invokestatic 251, 3) := by decide +kernel
theorem d11_spend_4 : decode cX11_spend 4 = .ok (.ifCond .ne 9, 3) := by decide +kernel
theorem d11_spend_7 : decode cX11_spend 7 = .ok (.aload_n 0, 1) := by decide +kernel
theorem d11_spend_8 : decode cX11_spend 8 = .ok (.iconst 2, 1) := by decide +kernel
theorem d11_spend_9 : decode cX11_spend 9 = .ok (.invokevirtual 132, 3) := by decide +kernel
theorem d11_spend_12 : decode cX11_spend 12 = .ok (.ireturn, 1) := by decide +kernel
theorem d11_spend_13 : decode cX11_spend 13 = .ok (.aload_n 0, 1) := by decide +kernel
theorem d11_spend_14 : decode cX11_spend 14 = .ok (.getfield 26, 3) := by decide +kernel
theorem d11_spend_17 : decode cX11_spend 17 = .ok (.iload_n 1, 1) := by decide +kernel
theorem d11_spend_18 : decode cX11_spend 18 = .ok (.invokevirtual 282, 3) := by decide +kernel
theorem d11_spend_21 : decode cX11_spend 21 = .ok (.ifCond .ne 10, 3) := by decide +kernel
theorem d11_spend_24 : decode cX11_spend 24 = .ok (.aload_n 0, 1) := by decide +kernel
theorem d11_spend_25 : decode cX11_spend 25 = .ok (.bipush 9, 2) := by decide +kernel
theorem d11_spend_27 : decode cX11_spend 27 = .ok (.invokevirtual 132, 3) := by decide +kernel
theorem d11_spend_30 : decode cX11_spend 30 = .ok (.ireturn, 1) := by decide +kernel
theorem d11_spend_31 : decode cX11_spend 31 = .ok (.aload_n 0, 1) := by decide +kernel
theorem d11_spend_32 : decode cX11_spend 32 = .ok (.getfield 26, 3) := by decide +kernel
theorem d11_spend_35 : decode cX11_spend 35 = .ok (.iload_n 1, 1) := by decide +kernel
theorem d11_spend_36 : decode cX11_spend 36 = .ok (.invokevirtual 285, 3) := by decide +kernel
theorem d11_spend_39 : decode cX11_spend 39 = .ok (.aload_n 0, 1) := by decide +kernel
theorem d11_spend_40 : decode cX11_spend 40 = .ok (.aload_n 0, 1) := by decide +kernel
theorem d11_spend_41 : decode cX11_spend 41 = .ok (.getfield 26, 3) := by decide +kernel
theorem d11_spend_44 : decode cX11_spend 44 = .ok (.getfield 215, 3) := by decide +kernel
theorem d11_spend_47 : decode cX11_spend 47 = .ok (.invokevirtual 186, 3) := by decide +kernel
theorem d11_spend_50 : decode cX11_spend 50 = .ok (.ireturn, 1) := by decide +kernel
abbrev K11_spend : CK Int32 := (enI, (some .int), 2, 2, none)
noncomputable def F11_spend (p0 : Int32) (σ : Ms) : Option (Int32 × Ms) :=
  bn (F11_isSide p0 σ) (fun r1 t2 => if r1 ≠ 0 then (bn (F0_maySpend 22 p0 t2) (fun r3 t4 => if r3 ≠ 0 then (bn (F0_spendOne 22 p0 t4) (fun r5 t6 => bn (F11_told (t6.1 22 10) t6) (fun r7 t8 => some (r7, t8))))
  else (bn (F11_none (9 : Int32) t4) (fun r9 t10 => some (r9, t10)))))
  else (bn (F11_none (2 : Int32) t2) (fun r11 t12 => some (r11, t12))))
set_option maxRecDepth 100000 in
theorem mc11_spend (p0 : Int32) (σ : Ms) : MC enI yX11_spend cX11_spend 2 (some .int) 2 (F11_spend p0 σ) σ [.ref 11, .int p0] := by
  refine MC.i (by decide +kernel) (Nat.le_of_ble_eq_true rfl) ?_
  show VF (K11_spend) cX11_spend RX11 (F11_spend p0 σ) σ 0 [(0, .ref 11), (1, .int p0)] []
  unfold F11_spend
  refine v_iload_n d11_spend_0 1 rfl rfl ?_
  refine v_callS1i d11_spend_1 (mc11_isSide p0 σ) ys11_isSide mlX11_251 (by decide) (Nat.le_of_ble_eq_true rfl) fun r1 t2 => ?_
  refine v_if_ne (tgt := 13) d11_spend_4 (by decide) ?_ ?_
  · refine v_aload_n d11_spend_13 0 rfl rfl ?_
    refine v_getR d11_spend_14 faX11_26 ic_11 rfl ?_
    refine v_iload_n d11_spend_17 1 rfl rfl ?_
    refine v_callV1i d11_spend_18 (mc0_maySpend 22 ic_22 p0 t2) yv0_maySpend mlX11_282 (Recv.obj ic_22 rfl) (by decide) (Nat.le_of_ble_eq_true rfl) fun r3 t4 => ?_
    refine v_if_ne (tgt := 31) d11_spend_21 (by decide) ?_ ?_
    · refine v_aload_n d11_spend_31 0 rfl rfl ?_
      refine v_getR d11_spend_32 faX11_26 ic_11 rfl ?_
      refine v_iload_n d11_spend_35 1 rfl rfl ?_
      refine v_callV1v d11_spend_36 (mc0_spendOne 22 ic_22 p0 t4) yv0_spendOne mlX11_285 (Recv.obj ic_22 rfl) (by decide) (Nat.le_of_ble_eq_true rfl) fun r5 t6 => ?_
      refine v_aload_n d11_spend_39 0 rfl rfl ?_
      refine v_aload_n d11_spend_40 0 rfl rfl ?_
      refine v_getR d11_spend_41 faX11_26 ic_11 rfl ?_
      refine v_getI d11_spend_44 faX11_215 ic_22 ?_
      refine v_callV1i d11_spend_47 (mc11_told (t6.1 22 10) t6) yv11_told mlX11_186 (Recv.obj ic_11 rfl) (by decide) (Nat.le_of_ble_eq_true rfl) fun r7 t8 => ?_
      exact v_iret d11_spend_50 rfl rfl rfl
    · refine v_aload_n d11_spend_24 0 rfl rfl ?_
      refine v_bipush d11_spend_25 kb_9 ?_
      refine v_callV1i d11_spend_27 (mc11_none (9 : Int32) t4) yv11_none mlX11_132 (Recv.obj ic_11 rfl) (by decide) (Nat.le_of_ble_eq_true rfl) fun r9 t10 => ?_
      exact v_iret d11_spend_30 rfl rfl rfl
  · refine v_aload_n d11_spend_7 0 rfl rfl ?_
    refine v_iconst d11_spend_8 ki_2 ?_
    refine v_callV1i d11_spend_9 (mc11_none (2 : Int32) t2) yv11_none mlX11_132 (Recv.obj ic_11 rfl) (by decide) (Nat.le_of_ble_eq_true rfl) fun r11 t12 => ?_
    exact v_iret d11_spend_12 rfl rfl rfl
theorem d11_grow_0 : decode cX11_grow 0 = .ok (.iload_n 2, 1) := by decide +kernel
theorem d11_grow_1 : decode cX11_grow 1 = .ok (.iconst (-1), 1) := by decide +kernel
theorem d11_grow_2 : decode cX11_grow 2 = .ok (.if_icmp .eq 20, 3) := by decide +kernel
theorem d11_grow_5 : decode cX11_grow 5 = .ok (.aload_n 0, 1) := by decide +kernel
theorem d11_grow_6 : decode cX11_grow 6 = .ok (.getfield 26, 3) := by decide +kernel
theorem d11_grow_9 : decode cX11_grow 9 = .ok (.iload_n 2, 1) := by decide +kernel
theorem d11_grow_10 : decode cX11_grow 10 = .ok (.invokevirtual 218, 3) := by decide +kernel
theorem d11_grow_13 : decode cX11_grow 13 = .ok (.ifCond .ne 9, 3) := by decide +kernel
theorem d11_grow_16 : decode cX11_grow 16 = .ok (.aload_n 0, 1) := by decide +kernel
theorem d11_grow_17 : decode cX11_grow 17 = .ok (.iconst 2, 1) := by decide +kernel
theorem d11_grow_18 : decode cX11_grow 18 = .ok (.invokevirtual 132, 3) := by decide +kernel
theorem d11_grow_21 : decode cX11_grow 21 = .ok (.ireturn, 1) := by decide +kernel
theorem d11_grow_22 : decode cX11_grow 22 = .ok (.iload_n 1, 1) := by decide +kernel
theorem d11_grow_23 : decode cX11_grow 23 = .ok (.ifCond .lt 8, 3) := by decide +kernel
theorem d11_grow_26 : decode cX11_grow 26 = .ok (.iload_n 1, 1) := by decide +kernel
theorem d11_grow_27 : decode cX11_grow 27 = .ok (.iconst 2, 1) := by decide +kernel
theorem d11_grow_28 : decode cX11_grow 28 = .ok (.if_icmp .le 9, 3) := by decide +kernel
theorem d11_grow_31 : decode cX11_grow 31 = .ok (.aload_n 0, 1) := by decide +kernel
theorem d11_grow_32 : decode cX11_grow 32 = .ok (.iconst 5, 1) := by decide +kernel
theorem d11_grow_33 : decode cX11_grow 33 = .ok (.invokevirtual 132, 3) := by decide +kernel
theorem d11_grow_36 : decode cX11_grow 36 = .ok (.ireturn, 1) := by decide +kernel
theorem d11_grow_37 : decode cX11_grow 37 = .ok (.aload_n 0, 1) := by decide +kernel
theorem d11_grow_38 : decode cX11_grow 38 = .ok (.getfield 26, 3) := by decide +kernel
theorem d11_grow_41 : decode cX11_grow 41 = .ok (.getfield 183, 3) := by decide +kernel
theorem d11_grow_44 : decode cX11_grow 44 = .ok (.bipush 20, 2) := by decide +kernel
theorem d11_grow_46 : decode cX11_grow 46 = .ok (.if_icmp .lt 10, 3) := by decide +kernel
theorem d11_grow_49 : decode cX11_grow 49 = .ok (.aload_n 0, 1) := by decide +kernel
theorem d11_grow_50 : decode cX11_grow 50 = .ok (.bipush 7, 2) := by decide +kernel
theorem d11_grow_52 : decode cX11_grow 52 = .ok (.invokevirtual 132, 3) := by decide +kernel
theorem d11_grow_55 : decode cX11_grow 55 = .ok (.ireturn, 1) := by decide +kernel
theorem d11_grow_56 : decode cX11_grow 56 = .ok (.aload_n 0, 1) := by decide +kernel
theorem d11_grow_57 : decode cX11_grow 57 = .ok (.getfield 26, 3) := by decide +kernel
theorem d11_grow_60 : decode cX11_grow 60 = .ok (.iload_n 1, 1) := by decide +kernel
theorem d11_grow_61 : decode cX11_grow 61 = .ok (.iload_n 2, 1) := by decide +kernel
theorem d11_grow_62 : decode cX11_grow 62 = .ok (.invokevirtual 288, 3) := by decide +kernel
theorem d11_grow_65 : decode cX11_grow 65 = .ok (.ifCond .ne 10, 3) := by decide +kernel
theorem d11_grow_68 : decode cX11_grow 68 = .ok (.aload_n 0, 1) := by decide +kernel
theorem d11_grow_69 : decode cX11_grow 69 = .ok (.bipush 9, 2) := by decide +kernel
theorem d11_grow_71 : decode cX11_grow 71 = .ok (.invokevirtual 132, 3) := by decide +kernel
theorem d11_grow_74 : decode cX11_grow 74 = .ok (.ireturn, 1) := by decide +kernel
theorem d11_grow_75 : decode cX11_grow 75 = .ok (.aload_n 0, 1) := by decide +kernel
theorem d11_grow_76 : decode cX11_grow 76 = .ok (.getfield 26, 3) := by decide +kernel
theorem d11_grow_79 : decode cX11_grow 79 = .ok (.iload_n 1, 1) := by decide +kernel
theorem d11_grow_80 : decode cX11_grow 80 = .ok (.iload_n 2, 1) := by decide +kernel
theorem d11_grow_81 : decode cX11_grow 81 = .ok (.invokevirtual 291, 3) := by decide +kernel
theorem d11_grow_84 : decode cX11_grow 84 = .ok (.aload_n 0, 1) := by decide +kernel
theorem d11_grow_85 : decode cX11_grow 85 = .ok (.aload_n 0, 1) := by decide +kernel
theorem d11_grow_86 : decode cX11_grow 86 = .ok (.getfield 26, 3) := by decide +kernel
theorem d11_grow_89 : decode cX11_grow 89 = .ok (.getfield 183, 3) := by decide +kernel
theorem d11_grow_92 : decode cX11_grow 92 = .ok (.iconst 1, 1) := by decide +kernel
theorem d11_grow_93 : decode cX11_grow 93 = .ok (.isub, 1) := by decide +kernel
theorem d11_grow_94 : decode cX11_grow 94 = .ok (.invokevirtual 186, 3) := by decide +kernel
theorem d11_grow_97 : decode cX11_grow 97 = .ok (.ireturn, 1) := by decide +kernel
abbrev K11_grow : CK Int32 := (enI, (some .int), 3, 4, none)
noncomputable def F11_grow_b31 (σ : Ms) : Option (Int32 × Ms) :=
  bn (F11_none (5 : Int32) σ) (fun r1 t2 => some (r1, t2))
noncomputable def F11_grow_b22 (l1 : Int32) (l2 : Int32) (σ : Ms) : Option (Int32 × Ms) :=
  if l1 < 0 then (F11_grow_b31 σ)
  else (if l1 ≤ (2 : Int32) then (if (σ.1 22 5) < (20 : Int32) then (bn (F0_mayGrow 22 l1 l2 σ) (fun r3 t4 => if r3 ≠ 0 then (bn (F0_addSprig 22 l1 l2 t4) (fun r5 t6 => bn (F11_told ((t6.1 22 5) - (1 : Int32)) t6) (fun r7 t8 => some (r7, t8))))
  else (bn (F11_none (9 : Int32) t4) (fun r9 t10 => some (r9, t10)))))
  else (bn (F11_none (7 : Int32) σ) (fun r11 t12 => some (r11, t12))))
  else (F11_grow_b31 σ))
noncomputable def F11_grow (p0 : Int32) (p1 : Int32) (σ : Ms) : Option (Int32 × Ms) :=
  if p1 = (-1 : Int32) then (F11_grow_b22 p0 p1 σ)
  else (bn (F0_hasSprig 22 p1 σ) (fun r13 t14 => if r13 ≠ 0 then (F11_grow_b22 p0 p1 t14)
  else (bn (F11_none (2 : Int32) t14) (fun r15 t16 => some (r15, t16)))))
set_option maxRecDepth 100000 in
theorem v11_grow_b31 (σ : Ms) : VF (K11_grow) cX11_grow RX11 (F11_grow_b31 σ) σ 31 [(0, .ref 11)] [] := by
  unfold F11_grow_b31
  refine v_aload_n d11_grow_31 0 rfl rfl ?_
  refine v_iconst d11_grow_32 ki_5 ?_
  refine v_callV1i d11_grow_33 (mc11_none (5 : Int32) σ) yv11_none mlX11_132 (Recv.obj ic_11 rfl) (by decide) (Nat.le_of_ble_eq_true rfl) fun r1 t2 => ?_
  exact v_iret d11_grow_36 rfl rfl rfl
set_option maxRecDepth 100000 in
theorem v11_grow_b22 (l1 : Int32) (l2 : Int32) (σ : Ms) : VF (K11_grow) cX11_grow RX11 (F11_grow_b22 l1 l2 σ) σ 22 [(0, .ref 11), (1, .int l1), (2, .int l2)] [] := by
  unfold F11_grow_b22
  refine v_iload_n d11_grow_22 1 rfl rfl ?_
  refine v_if_lt (tgt := 31) d11_grow_23 (by decide) ?_ ?_
  · refine v_sub [0] rfl ?_
    exact v11_grow_b31 σ
  · refine v_iload_n d11_grow_26 1 rfl rfl ?_
    refine v_iconst d11_grow_27 ki_2 ?_
    refine v_icmp_le (tgt := 37) d11_grow_28 (by decide) ?_ ?_
    · refine v_aload_n d11_grow_37 0 rfl rfl ?_
      refine v_getR d11_grow_38 faX11_26 ic_11 rfl ?_
      refine v_getI d11_grow_41 faX11_183 ic_22 ?_
      refine v_bipush d11_grow_44 kb_20 ?_
      refine v_icmp_lt (tgt := 56) d11_grow_46 (by decide) ?_ ?_
      · refine v_aload_n d11_grow_56 0 rfl rfl ?_
        refine v_getR d11_grow_57 faX11_26 ic_11 rfl ?_
        refine v_iload_n d11_grow_60 1 rfl rfl ?_
        refine v_iload_n d11_grow_61 2 rfl rfl ?_
        refine v_callV2i d11_grow_62 (mc0_mayGrow 22 ic_22 l1 l2 σ) yv0_mayGrow mlX11_288 (Recv.obj ic_22 rfl) (by decide) (Nat.le_of_ble_eq_true rfl) fun r3 t4 => ?_
        refine v_if_ne (tgt := 75) d11_grow_65 (by decide) ?_ ?_
        · refine v_aload_n d11_grow_75 0 rfl rfl ?_
          refine v_getR d11_grow_76 faX11_26 ic_11 rfl ?_
          refine v_iload_n d11_grow_79 1 rfl rfl ?_
          refine v_iload_n d11_grow_80 2 rfl rfl ?_
          refine v_callV2v d11_grow_81 (mc0_addSprig 22 ic_22 l1 l2 t4) yv0_addSprig mlX11_291 (Recv.obj ic_22 rfl) (by decide) (Nat.le_of_ble_eq_true rfl) fun r5 t6 => ?_
          refine v_aload_n d11_grow_84 0 rfl rfl ?_
          refine v_aload_n d11_grow_85 0 rfl rfl ?_
          refine v_getR d11_grow_86 faX11_26 ic_11 rfl ?_
          refine v_getI d11_grow_89 faX11_183 ic_22 ?_
          refine v_iconst d11_grow_92 ki_1 ?_
          refine v_isub d11_grow_93 ?_
          refine v_callV1i d11_grow_94 (mc11_told ((t6.1 22 5) - (1 : Int32)) t6) yv11_told mlX11_186 (Recv.obj ic_11 rfl) (by decide) (Nat.le_of_ble_eq_true rfl) fun r7 t8 => ?_
          exact v_iret d11_grow_97 rfl rfl rfl
        · refine v_aload_n d11_grow_68 0 rfl rfl ?_
          refine v_bipush d11_grow_69 kb_9 ?_
          refine v_callV1i d11_grow_71 (mc11_none (9 : Int32) t4) yv11_none mlX11_132 (Recv.obj ic_11 rfl) (by decide) (Nat.le_of_ble_eq_true rfl) fun r9 t10 => ?_
          exact v_iret d11_grow_74 rfl rfl rfl
      · refine v_aload_n d11_grow_49 0 rfl rfl ?_
        refine v_bipush d11_grow_50 kb_7 ?_
        refine v_callV1i d11_grow_52 (mc11_none (7 : Int32) σ) yv11_none mlX11_132 (Recv.obj ic_11 rfl) (by decide) (Nat.le_of_ble_eq_true rfl) fun r11 t12 => ?_
        exact v_iret d11_grow_55 rfl rfl rfl
    · refine v_sub [0] rfl ?_
      exact v11_grow_b31 σ
set_option maxRecDepth 100000 in
theorem mc11_grow (p0 : Int32) (p1 : Int32) (σ : Ms) : MC enI yX11_grow cX11_grow 3 (some .int) 4 (F11_grow p0 p1 σ) σ [.ref 11, .int p0, .int p1] := by
  refine MC.i (by decide +kernel) (Nat.le_of_ble_eq_true rfl) ?_
  show VF (K11_grow) cX11_grow RX11 (F11_grow p0 p1 σ) σ 0 [(0, .ref 11), (1, .int p0), (2, .int p1)] []
  unfold F11_grow
  refine v_iload_n d11_grow_0 2 rfl rfl ?_
  refine v_iconst d11_grow_1 ki_m1 ?_
  refine v_icmp_eq (tgt := 22) d11_grow_2 (by decide) ?_ ?_
  · exact v11_grow_b22 p0 p1 σ
  · refine v_aload_n d11_grow_5 0 rfl rfl ?_
    refine v_getR d11_grow_6 faX11_26 ic_11 rfl ?_
    refine v_iload_n d11_grow_9 2 rfl rfl ?_
    refine v_callV1i d11_grow_10 (mc0_hasSprig 22 ic_22 p1 σ) yv0_hasSprig mlX11_218 (Recv.obj ic_22 rfl) (by decide) (Nat.le_of_ble_eq_true rfl) fun r13 t14 => ?_
    refine v_if_ne (tgt := 22) d11_grow_13 (by decide) ?_ ?_
    · exact v11_grow_b22 p0 p1 t14
    · refine v_aload_n d11_grow_16 0 rfl rfl ?_
      refine v_iconst d11_grow_17 ki_2 ?_
      refine v_callV1i d11_grow_18 (mc11_none (2 : Int32) t14) yv11_none mlX11_132 (Recv.obj ic_11 rfl) (by decide) (Nat.le_of_ble_eq_true rfl) fun r15 t16 => ?_
      exact v_iret d11_grow_21 rfl rfl rfl
theorem d11_paint_0 : decode cX11_paint 0 = .ok (.aload_n 0, 1) := by decide +kernel
theorem d11_paint_1 : decode cX11_paint 1 = .ok (.getfield 26, 3) := by decide +kernel
theorem d11_paint_4 : decode cX11_paint 4 = .ok (.iload_n 1, 1) := by decide +kernel
theorem d11_paint_5 : decode cX11_paint 5 = .ok (.invokevirtual 218, 3) := by decide +kernel
theorem d11_paint_8 : decode cX11_paint 8 = .ok (.ifCond .ne 9, 3) := by decide +kernel
theorem d11_paint_11 : decode cX11_paint 11 = .ok (.aload_n 0, 1) := by decide +kernel
theorem d11_paint_12 : decode cX11_paint 12 = .ok (.iconst 2, 1) := by decide +kernel
theorem d11_paint_13 : decode cX11_paint 13 = .ok (.invokevirtual 132, 3) := by decide +kernel
theorem d11_paint_16 : decode cX11_paint 16 = .ok (.ireturn, 1) := by decide +kernel
theorem d11_paint_17 : decode cX11_paint 17 = .ok (.aload_n 0, 1) := by decide +kernel
theorem d11_paint_18 : decode cX11_paint 18 = .ok (.getfield 26, 3) := by decide +kernel
theorem d11_paint_21 : decode cX11_paint 21 = .ok (.iload_n 1, 1) := by decide +kernel
theorem d11_paint_22 : decode cX11_paint 22 = .ok (.invokevirtual 294, 3) := by decide +kernel
theorem d11_paint_25 : decode cX11_paint 25 = .ok (.ifCond .ne 10, 3) := by decide +kernel
theorem d11_paint_28 : decode cX11_paint 28 = .ok (.aload_n 0, 1) := by decide +kernel
theorem d11_paint_29 : decode cX11_paint 29 = .ok (.bipush 9, 2) := by decide +kernel
theorem d11_paint_31 : decode cX11_paint 31 = .ok (.invokevirtual 132, 3) := by decide +kernel
theorem d11_paint_34 : decode cX11_paint 34 = .ok (.ireturn, 1) := by decide +kernel
theorem d11_paint_35 : decode cX11_paint 35 = .ok (.aload_n 0, 1) := by decide +kernel
theorem d11_paint_36 : decode cX11_paint 36 = .ok (.getfield 26, 3) := by decide +kernel
theorem d11_paint_39 : decode cX11_paint 39 = .ok (.getfield 224, 3) := by decide +kernel
theorem d11_paint_42 : decode cX11_paint 42 = .ok (.iload_n 1, 1) := by decide +kernel
theorem d11_paint_43 : decode cX11_paint 43 = .ok (.aload_n 0, 1) := by decide +kernel
theorem d11_paint_44 : decode cX11_paint 44 = .ok (.getfield 26, 3) := by decide +kernel
theorem d11_paint_47 : decode cX11_paint 47 = .ok (.getfield 224, 3) := by decide +kernel
theorem d11_paint_50 : decode cX11_paint 50 = .ok (.iload_n 1, 1) := by decide +kernel
theorem d11_paint_51 : decode cX11_paint 51 = .ok (.iaload, 1) := by decide +kernel
theorem d11_paint_52 : decode cX11_paint 52 = .ok (.ifCond .ne 7, 3) := by decide +kernel
theorem d11_paint_55 : decode cX11_paint 55 = .ok (.iconst 1, 1) := by decide +kernel
theorem d11_paint_56 : decode cX11_paint 56 = .ok (.goto 4, 3) := by decide +kernel
theorem d11_paint_59 : decode cX11_paint 59 = .ok (.iconst 0, 1) := by decide +kernel
theorem d11_paint_60 : decode cX11_paint 60 = .ok (.iastore, 1) := by decide +kernel
theorem d11_paint_61 : decode cX11_paint 61 = .ok (.aload_n 0, 1) := by decide +kernel
theorem d11_paint_62 : decode cX11_paint 62 = .ok (.aload_n 0, 1) := by decide +kernel
theorem d11_paint_63 : decode cX11_paint 63 = .ok (.getfield 26, 3) := by decide +kernel
theorem d11_paint_66 : decode cX11_paint 66 = .ok (.getfield 224, 3) := by decide +kernel
theorem d11_paint_69 : decode cX11_paint 69 = .ok (.iload_n 1, 1) := by decide +kernel
theorem d11_paint_70 : decode cX11_paint 70 = .ok (.iaload, 1) := by decide +kernel
theorem d11_paint_71 : decode cX11_paint 71 = .ok (.invokevirtual 186, 3) := by decide +kernel
theorem d11_paint_74 : decode cX11_paint 74 = .ok (.ireturn, 1) := by decide +kernel
abbrev K11_paint : CK Int32 := (enI, (some .int), 2, 4, none)
noncomputable def F11_paint_b60 (l1 : Int32) (s1 : Int32) (s2 : Int32) (σ : Ms) : Option (Int32 × Ms) :=
  ck (ixb s1 20) (lt (sI σ 23 s1.toNatClampNeg s2) (fun t1 => ck (ixb l1 20) (bn (F11_told (t1.1 23 l1.toNatClampNeg) t1) (fun r2 t3 => some (r2, t3)))))
noncomputable def F11_paint (p0 : Int32) (σ : Ms) : Option (Int32 × Ms) :=
  bn (F0_hasSprig 22 p0 σ) (fun r4 t5 => if r4 ≠ 0 then (bn (F0_hasWorth 22 p0 t5) (fun r6 t7 => if r6 ≠ 0 then (ck (ixb p0 20) (if (t7.1 23 p0.toNatClampNeg) ≠ 0 then (F11_paint_b60 p0 p0 (0 : Int32) t7)
  else (F11_paint_b60 p0 p0 (1 : Int32) t7)))
  else (bn (F11_none (9 : Int32) t7) (fun r8 t9 => some (r8, t9)))))
  else (bn (F11_none (2 : Int32) t5) (fun r10 t11 => some (r10, t11))))
set_option maxRecDepth 100000 in
theorem v11_paint_b60 (l1 : Int32) (s1 : Int32) (s2 : Int32) (σ : Ms) : VF (K11_paint) cX11_paint RX11 (F11_paint_b60 l1 s1 s2 σ) σ 60 [(0, .ref 11), (1, .int l1)] [.int s2, .int s1, .ref 23] := by
  unfold F11_paint_b60
  refine v_iast d11_paint_60 ic_23 ?_
  refine v_lts fun t1 => ?_
  refine v_aload_n d11_paint_61 0 rfl rfl ?_
  refine v_aload_n d11_paint_62 0 rfl rfl ?_
  refine v_getR d11_paint_63 faX11_26 ic_11 rfl ?_
  refine v_getR d11_paint_66 faX11_224 ic_22 rfl ?_
  refine v_iload_n d11_paint_69 1 rfl rfl ?_
  refine v_iald d11_paint_70 ic_23 ?_
  refine v_callV1i d11_paint_71 (mc11_told (t1.1 23 l1.toNatClampNeg) t1) yv11_told mlX11_186 (Recv.obj ic_11 rfl) (by decide) (Nat.le_of_ble_eq_true rfl) fun r2 t3 => ?_
  exact v_iret d11_paint_74 rfl rfl rfl
set_option maxRecDepth 100000 in
theorem mc11_paint (p0 : Int32) (σ : Ms) : MC enI yX11_paint cX11_paint 2 (some .int) 4 (F11_paint p0 σ) σ [.ref 11, .int p0] := by
  refine MC.i (by decide +kernel) (Nat.le_of_ble_eq_true rfl) ?_
  show VF (K11_paint) cX11_paint RX11 (F11_paint p0 σ) σ 0 [(0, .ref 11), (1, .int p0)] []
  unfold F11_paint
  refine v_aload_n d11_paint_0 0 rfl rfl ?_
  refine v_getR d11_paint_1 faX11_26 ic_11 rfl ?_
  refine v_iload_n d11_paint_4 1 rfl rfl ?_
  refine v_callV1i d11_paint_5 (mc0_hasSprig 22 ic_22 p0 σ) yv0_hasSprig mlX11_218 (Recv.obj ic_22 rfl) (by decide) (Nat.le_of_ble_eq_true rfl) fun r4 t5 => ?_
  refine v_if_ne (tgt := 17) d11_paint_8 (by decide) ?_ ?_
  · refine v_aload_n d11_paint_17 0 rfl rfl ?_
    refine v_getR d11_paint_18 faX11_26 ic_11 rfl ?_
    refine v_iload_n d11_paint_21 1 rfl rfl ?_
    refine v_callV1i d11_paint_22 (mc0_hasWorth 22 ic_22 p0 t5) yv0_hasWorth mlX11_294 (Recv.obj ic_22 rfl) (by decide) (Nat.le_of_ble_eq_true rfl) fun r6 t7 => ?_
    refine v_if_ne (tgt := 35) d11_paint_25 (by decide) ?_ ?_
    · refine v_aload_n d11_paint_35 0 rfl rfl ?_
      refine v_getR d11_paint_36 faX11_26 ic_11 rfl ?_
      refine v_getR d11_paint_39 faX11_224 ic_22 rfl ?_
      refine v_iload_n d11_paint_42 1 rfl rfl ?_
      refine v_aload_n d11_paint_43 0 rfl rfl ?_
      refine v_getR d11_paint_44 faX11_26 ic_11 rfl ?_
      refine v_getR d11_paint_47 faX11_224 ic_22 rfl ?_
      refine v_iload_n d11_paint_50 1 rfl rfl ?_
      refine v_iald d11_paint_51 ic_23 ?_
      refine v_if_ne (tgt := 59) d11_paint_52 (by decide) ?_ ?_
      · refine v_iconst d11_paint_59 ki_0 ?_
        exact v11_paint_b60 p0 p0 (0 : Int32) t7
      · refine v_iconst d11_paint_55 ki_1 ?_
        refine v_goto (tgt := 60) d11_paint_56 (by decide) ?_
        exact v11_paint_b60 p0 p0 (1 : Int32) t7
    · refine v_aload_n d11_paint_28 0 rfl rfl ?_
      refine v_bipush d11_paint_29 kb_9 ?_
      refine v_callV1i d11_paint_31 (mc11_none (9 : Int32) t7) yv11_none mlX11_132 (Recv.obj ic_11 rfl) (by decide) (Nat.le_of_ble_eq_true rfl) fun r8 t9 => ?_
      exact v_iret d11_paint_34 rfl rfl rfl
  · refine v_aload_n d11_paint_11 0 rfl rfl ?_
    refine v_iconst d11_paint_12 ki_2 ?_
    refine v_callV1i d11_paint_13 (mc11_none (2 : Int32) t5) yv11_none mlX11_132 (Recv.obj ic_11 rfl) (by decide) (Nat.le_of_ble_eq_true rfl) fun r10 t11 => ?_
    exact v_iret d11_paint_16 rfl rfl rfl
theorem d11_pile_0 : decode cX11_pile 0 = .ok (.iload_n 1, 1) := by decide +kernel
theorem d11_pile_1 : decode cX11_pile 1 = .ok (.ifCond .lt 9, 3) := by decide +kernel
theorem d11_pile_4 : decode cX11_pile 4 = .ok (.iload_n 1, 1) := by decide +kernel
theorem d11_pile_5 : decode cX11_pile 5 = .ok (.bipush 15, 2) := by decide +kernel
theorem d11_pile_7 : decode cX11_pile 7 = .ok (.if_icmp .le 9, 3) := by decide +kernel
theorem d11_pile_10 : decode cX11_pile 10 = .ok (.aload_n 0, 1) := by decide +kernel
theorem d11_pile_11 : decode cX11_pile 11 = .ok (.iconst 5, 1) := by decide +kernel
theorem d11_pile_12 : decode cX11_pile 12 = .ok (.invokevirtual 132, 3) := by decide +kernel
theorem d11_pile_15 : decode cX11_pile 15 = .ok (.ireturn, 1) := by decide +kernel
theorem d11_pile_16 : decode cX11_pile 16 = .ok (.aload_n 0, 1) := by decide +kernel
theorem d11_pile_17 : decode cX11_pile 17 = .ok (.getfield 26, 3) := by decide +kernel
theorem d11_pile_20 : decode cX11_pile 20 = .ok (.getfield 200, 3) := by decide +kernel
theorem d11_pile_23 : decode cX11_pile 23 = .ok (.iconst 4, 1) := by decide +kernel
theorem d11_pile_24 : decode cX11_pile 24 = .ok (.if_icmp .lt 10, 3) := by decide +kernel
theorem d11_pile_27 : decode cX11_pile 27 = .ok (.aload_n 0, 1) := by decide +kernel
theorem d11_pile_28 : decode cX11_pile 28 = .ok (.bipush 7, 2) := by decide +kernel
theorem d11_pile_30 : decode cX11_pile 30 = .ok (.invokevirtual 132, 3) := by decide +kernel
theorem d11_pile_33 : decode cX11_pile 33 = .ok (.ireturn, 1) := by decide +kernel
theorem d11_pile_34 : decode cX11_pile 34 = .ok (.aload_n 0, 1) := by decide +kernel
theorem d11_pile_35 : decode cX11_pile 35 = .ok (.getfield 26, 3) := by decide +kernel
theorem d11_pile_38 : decode cX11_pile 38 = .ok (.iload_n 1, 1) := by decide +kernel
theorem d11_pile_39 : decode cX11_pile 39 = .ok (.invokevirtual 297, 3) := by decide +kernel
theorem d11_pile_42 : decode cX11_pile 42 = .ok (.aload_n 0, 1) := by decide +kernel
theorem d11_pile_43 : decode cX11_pile 43 = .ok (.aload_n 0, 1) := by decide +kernel
theorem d11_pile_44 : decode cX11_pile 44 = .ok (.getfield 26, 3) := by decide +kernel
theorem d11_pile_47 : decode cX11_pile 47 = .ok (.getfield 200, 3) := by decide +kernel
theorem d11_pile_50 : decode cX11_pile 50 = .ok (.iconst 1, 1) := by decide +kernel
theorem d11_pile_51 : decode cX11_pile 51 = .ok (.isub, 1) := by decide +kernel
theorem d11_pile_52 : decode cX11_pile 52 = .ok (.invokevirtual 186, 3) := by decide +kernel
theorem d11_pile_55 : decode cX11_pile 55 = .ok (.ireturn, 1) := by decide +kernel
abbrev K11_pile : CK Int32 := (enI, (some .int), 2, 2, none)
noncomputable def F11_pile_b10 (σ : Ms) : Option (Int32 × Ms) :=
  bn (F11_none (5 : Int32) σ) (fun r1 t2 => some (r1, t2))
noncomputable def F11_pile (p0 : Int32) (σ : Ms) : Option (Int32 × Ms) :=
  if p0 < 0 then (F11_pile_b10 σ)
  else (if p0 ≤ (15 : Int32) then (if (σ.1 22 7) < (4 : Int32) then (bn (F0_addHeap 22 p0 σ) (fun r3 t4 => bn (F11_told ((t4.1 22 7) - (1 : Int32)) t4) (fun r5 t6 => some (r5, t6))))
  else (bn (F11_none (7 : Int32) σ) (fun r7 t8 => some (r7, t8))))
  else (F11_pile_b10 σ))
set_option maxRecDepth 100000 in
theorem v11_pile_b10 (σ : Ms) : VF (K11_pile) cX11_pile RX11 (F11_pile_b10 σ) σ 10 [(0, .ref 11)] [] := by
  unfold F11_pile_b10
  refine v_aload_n d11_pile_10 0 rfl rfl ?_
  refine v_iconst d11_pile_11 ki_5 ?_
  refine v_callV1i d11_pile_12 (mc11_none (5 : Int32) σ) yv11_none mlX11_132 (Recv.obj ic_11 rfl) (by decide) (Nat.le_of_ble_eq_true rfl) fun r1 t2 => ?_
  exact v_iret d11_pile_15 rfl rfl rfl
set_option maxRecDepth 100000 in
theorem mc11_pile (p0 : Int32) (σ : Ms) : MC enI yX11_pile cX11_pile 2 (some .int) 2 (F11_pile p0 σ) σ [.ref 11, .int p0] := by
  refine MC.i (by decide +kernel) (Nat.le_of_ble_eq_true rfl) ?_
  show VF (K11_pile) cX11_pile RX11 (F11_pile p0 σ) σ 0 [(0, .ref 11), (1, .int p0)] []
  unfold F11_pile
  refine v_iload_n d11_pile_0 1 rfl rfl ?_
  refine v_if_lt (tgt := 10) d11_pile_1 (by decide) ?_ ?_
  · refine v_sub [0] rfl ?_
    exact v11_pile_b10 σ
  · refine v_iload_n d11_pile_4 1 rfl rfl ?_
    refine v_bipush d11_pile_5 kb_15 ?_
    refine v_icmp_le (tgt := 16) d11_pile_7 (by decide) ?_ ?_
    · refine v_aload_n d11_pile_16 0 rfl rfl ?_
      refine v_getR d11_pile_17 faX11_26 ic_11 rfl ?_
      refine v_getI d11_pile_20 faX11_200 ic_22 ?_
      refine v_iconst d11_pile_23 ki_4 ?_
      refine v_icmp_lt (tgt := 34) d11_pile_24 (by decide) ?_ ?_
      · refine v_aload_n d11_pile_34 0 rfl rfl ?_
        refine v_getR d11_pile_35 faX11_26 ic_11 rfl ?_
        refine v_iload_n d11_pile_38 1 rfl rfl ?_
        refine v_callV1v d11_pile_39 (mc0_addHeap 22 ic_22 p0 σ) yv0_addHeap mlX11_297 (Recv.obj ic_22 rfl) (by decide) (Nat.le_of_ble_eq_true rfl) fun r3 t4 => ?_
        refine v_aload_n d11_pile_42 0 rfl rfl ?_
        refine v_aload_n d11_pile_43 0 rfl rfl ?_
        refine v_getR d11_pile_44 faX11_26 ic_11 rfl ?_
        refine v_getI d11_pile_47 faX11_200 ic_22 ?_
        refine v_iconst d11_pile_50 ki_1 ?_
        refine v_isub d11_pile_51 ?_
        refine v_callV1i d11_pile_52 (mc11_told ((t4.1 22 7) - (1 : Int32)) t4) yv11_told mlX11_186 (Recv.obj ic_11 rfl) (by decide) (Nat.le_of_ble_eq_true rfl) fun r5 t6 => ?_
        exact v_iret d11_pile_55 rfl rfl rfl
      · refine v_aload_n d11_pile_27 0 rfl rfl ?_
        refine v_bipush d11_pile_28 kb_7 ?_
        refine v_callV1i d11_pile_30 (mc11_none (7 : Int32) σ) yv11_none mlX11_132 (Recv.obj ic_11 rfl) (by decide) (Nat.le_of_ble_eq_true rfl) fun r7 t8 => ?_
        exact v_iret d11_pile_33 rfl rfl rfl
    · refine v_sub [0] rfl ?_
      exact v11_pile_b10 σ
theorem d11_offer_0 : decode cX11_offer 0 = .ok (.iload_n 1, 1) := by decide +kernel
theorem d11_offer_1 : decode cX11_offer 1 = .ok (.iload_n 2, 1) := by decide +kernel
theorem d11_offer_2 : decode cX11_offer 2 = .ok (.invokestatic 300, 3) := by decide +kernel
theorem d11_offer_5 : decode cX11_offer 5 = .ok (.ifCond .ne 9, 3) := by decide +kernel
theorem d11_offer_8 : decode cX11_offer 8 = .ok (.aload_n 0, 1) := by decide +kernel
theorem d11_offer_9 : decode cX11_offer 9 = .ok (.iconst 5, 1) := by decide +kernel
theorem d11_offer_10 : decode cX11_offer 10 = .ok (.invokevirtual 132, 3) := by decide +kernel
theorem d11_offer_13 : decode cX11_offer 13 = .ok (.ireturn, 1) := by decide +kernel
theorem d11_offer_14 : decode cX11_offer 14 = .ok (.aload_n 0, 1) := by decide +kernel
theorem d11_offer_15 : decode cX11_offer 15 = .ok (.getfield 26, 3) := by decide +kernel
theorem d11_offer_18 : decode cX11_offer 18 = .ok (.getfield 203, 3) := by decide +kernel
theorem d11_offer_21 : decode cX11_offer 21 = .ok (.iconst 5, 1) := by decide +kernel
theorem d11_offer_22 : decode cX11_offer 22 = .ok (.if_icmp .lt 10, 3) := by decide +kernel
theorem d11_offer_25 : decode cX11_offer 25 = .ok (.aload_n 0, 1) := by decide +kernel
theorem d11_offer_26 : decode cX11_offer 26 = .ok (.bipush 7, 2) := by decide +kernel
theorem d11_offer_28 : decode cX11_offer 28 = .ok (.invokevirtual 132, 3) := by decide +kernel
theorem d11_offer_31 : decode cX11_offer 31 = .ok (.ireturn, 1) := by decide +kernel
theorem d11_offer_32 : decode cX11_offer 32 = .ok (.aload_n 0, 1) := by decide +kernel
theorem d11_offer_33 : decode cX11_offer 33 = .ok (.getfield 26, 3) := by decide +kernel
theorem d11_offer_36 : decode cX11_offer 36 = .ok (.iload_n 1, 1) := by decide +kernel
theorem d11_offer_37 : decode cX11_offer 37 = .ok (.iload_n 2, 1) := by decide +kernel
theorem d11_offer_38 : decode cX11_offer 38 = .ok (.invokevirtual 303, 3) := by decide +kernel
theorem d11_offer_41 : decode cX11_offer 41 = .ok (.aload_n 0, 1) := by decide +kernel
theorem d11_offer_42 : decode cX11_offer 42 = .ok (.aload_n 0, 1) := by decide +kernel
theorem d11_offer_43 : decode cX11_offer 43 = .ok (.getfield 26, 3) := by decide +kernel
theorem d11_offer_46 : decode cX11_offer 46 = .ok (.getfield 203, 3) := by decide +kernel
theorem d11_offer_49 : decode cX11_offer 49 = .ok (.iconst 1, 1) := by decide +kernel
theorem d11_offer_50 : decode cX11_offer 50 = .ok (.isub, 1) := by decide +kernel
theorem d11_offer_51 : decode cX11_offer 51 = .ok (.invokevirtual 186, 3) := by decide +kernel
theorem d11_offer_54 : decode cX11_offer 54 = .ok (.ireturn, 1) := by decide +kernel
abbrev K11_offer : CK Int32 := (enI, (some .int), 3, 2, none)
noncomputable def F11_offer (p0 : Int32) (p1 : Int32) (σ : Ms) : Option (Int32 × Ms) :=
  bn (F0_canBeBet p0 p1 σ) (fun r1 t2 => if r1 ≠ 0 then (if (t2.1 22 8) < (5 : Int32) then (bn (F0_addBet 22 p0 p1 t2) (fun r3 t4 => bn (F11_told ((t4.1 22 8) - (1 : Int32)) t4) (fun r5 t6 => some (r5, t6))))
  else (bn (F11_none (7 : Int32) t2) (fun r7 t8 => some (r7, t8))))
  else (bn (F11_none (5 : Int32) t2) (fun r9 t10 => some (r9, t10))))
set_option maxRecDepth 100000 in
theorem mc11_offer (p0 : Int32) (p1 : Int32) (σ : Ms) : MC enI yX11_offer cX11_offer 3 (some .int) 2 (F11_offer p0 p1 σ) σ [.ref 11, .int p0, .int p1] := by
  refine MC.i (by decide +kernel) (Nat.le_of_ble_eq_true rfl) ?_
  show VF (K11_offer) cX11_offer RX11 (F11_offer p0 p1 σ) σ 0 [(0, .ref 11), (1, .int p0), (2, .int p1)] []
  unfold F11_offer
  refine v_iload_n d11_offer_0 1 rfl rfl ?_
  refine v_iload_n d11_offer_1 2 rfl rfl ?_
  refine v_callS2i d11_offer_2 (mc0_canBeBet p0 p1 σ) ys0_canBeBet mlX11_300 (by decide) (Nat.le_of_ble_eq_true rfl) fun r1 t2 => ?_
  refine v_if_ne (tgt := 14) d11_offer_5 (by decide) ?_ ?_
  · refine v_aload_n d11_offer_14 0 rfl rfl ?_
    refine v_getR d11_offer_15 faX11_26 ic_11 rfl ?_
    refine v_getI d11_offer_18 faX11_203 ic_22 ?_
    refine v_iconst d11_offer_21 ki_5 ?_
    refine v_icmp_lt (tgt := 32) d11_offer_22 (by decide) ?_ ?_
    · refine v_aload_n d11_offer_32 0 rfl rfl ?_
      refine v_getR d11_offer_33 faX11_26 ic_11 rfl ?_
      refine v_iload_n d11_offer_36 1 rfl rfl ?_
      refine v_iload_n d11_offer_37 2 rfl rfl ?_
      refine v_callV2v d11_offer_38 (mc0_addBet 22 ic_22 p0 p1 t2) yv0_addBet mlX11_303 (Recv.obj ic_22 rfl) (by decide) (Nat.le_of_ble_eq_true rfl) fun r3 t4 => ?_
      refine v_aload_n d11_offer_41 0 rfl rfl ?_
      refine v_aload_n d11_offer_42 0 rfl rfl ?_
      refine v_getR d11_offer_43 faX11_26 ic_11 rfl ?_
      refine v_getI d11_offer_46 faX11_203 ic_22 ?_
      refine v_iconst d11_offer_49 ki_1 ?_
      refine v_isub d11_offer_50 ?_
      refine v_callV1i d11_offer_51 (mc11_told ((t4.1 22 8) - (1 : Int32)) t4) yv11_told mlX11_186 (Recv.obj ic_11 rfl) (by decide) (Nat.le_of_ble_eq_true rfl) fun r5 t6 => ?_
      exact v_iret d11_offer_54 rfl rfl rfl
    · refine v_aload_n d11_offer_25 0 rfl rfl ?_
      refine v_bipush d11_offer_26 kb_7 ?_
      refine v_callV1i d11_offer_28 (mc11_none (7 : Int32) t2) yv11_none mlX11_132 (Recv.obj ic_11 rfl) (by decide) (Nat.le_of_ble_eq_true rfl) fun r7 t8 => ?_
      exact v_iret d11_offer_31 rfl rfl rfl
  · refine v_aload_n d11_offer_8 0 rfl rfl ?_
    refine v_iconst d11_offer_9 ki_5 ?_
    refine v_callV1i d11_offer_10 (mc11_none (5 : Int32) t2) yv11_none mlX11_132 (Recv.obj ic_11 rfl) (by decide) (Nat.le_of_ble_eq_true rfl) fun r9 t10 => ?_
    exact v_iret d11_offer_13 rfl rfl rfl
theorem d11_tellFraction_0 : decode cX11_tellFraction 0 = .ok (.lload_n 1, 1) := by decide +kernel
theorem d11_tellFraction_1 : decode cX11_tellFraction 1 = .ok (.invokestatic 442, 3) := by decide +kernel
theorem d11_tellFraction_4 : decode cX11_tellFraction 4 = .ok (.lload_n 3, 1) := by decide +kernel
theorem d11_tellFraction_5 : decode cX11_tellFraction 5 = .ok (.invokestatic 448, 3) := by decide +kernel
theorem d11_tellFraction_8 : decode cX11_tellFraction 8 = .ok (.lstore 5, 2) := by decide +kernel
theorem d11_tellFraction_10 : decode cX11_tellFraction 10 = .ok (.lload 5, 2) := by decide +kernel
theorem d11_tellFraction_12 : decode cX11_tellFraction 12 = .ok (.lconst 0, 1) := by decide +kernel
theorem d11_tellFraction_13 : decode cX11_tellFraction 13 = .ok (.lcmp, 1) := by decide +kernel
theorem d11_tellFraction_14 : decode cX11_tellFraction 14 = .ok (.ifCond .le 19, 3) := by decide +kernel
theorem d11_tellFraction_17 : decode cX11_tellFraction 17 = .ok (.aload_n 0, 1) := by decide +kernel
theorem d11_tellFraction_18 : decode cX11_tellFraction 18 = .ok (.lload_n 1, 1) := by decide +kernel
theorem d11_tellFraction_19 : decode cX11_tellFraction 19 = .ok (.lload 5, 2) := by decide +kernel
theorem d11_tellFraction_21 : decode cX11_tellFraction 21 = .ok (.ldiv, 1) := by decide +kernel
theorem d11_tellFraction_22 : decode cX11_tellFraction 22 = .ok (.putfield 99, 3) := by decide +kernel
theorem d11_tellFraction_25 : decode cX11_tellFraction 25 = .ok (.aload_n 0, 1) := by decide +kernel
theorem d11_tellFraction_26 : decode cX11_tellFraction 26 = .ok (.lload_n 3, 1) := by decide +kernel
theorem d11_tellFraction_27 : decode cX11_tellFraction 27 = .ok (.lload 5, 2) := by decide +kernel
theorem d11_tellFraction_29 : decode cX11_tellFraction 29 = .ok (.ldiv, 1) := by decide +kernel
theorem d11_tellFraction_30 : decode cX11_tellFraction 30 = .ok (.putfield 103, 3) := by decide +kernel
theorem d11_tellFraction_33 : decode cX11_tellFraction 33 = .ok (.aload_n 0, 1) := by decide +kernel
theorem d11_tellFraction_34 : decode cX11_tellFraction 34 = .ok (.invokevirtual 120, 3) := by decide +kernel
theorem d11_tellFraction_37 : decode cX11_tellFraction 37 = .ok (.ireturn, 1) := by decide +kernel
abbrev K11_tellFraction : CK Int32 := (enI, (some .boolean), 7, 2, none)
noncomputable def F11_tellFraction_b33 (N : Nat) (σ : Ms) : Option (Int32 × Ms) :=
  bn (F11_yes σ) (fun r1 t2 => ck (nkB r1) (some (r1, t2)))
noncomputable def F11_tellFraction (N : Nat) (p0 : Int64) (p1 : Int64) (σ : Ms) : Option (Int32 × Ms) :=
  bn (FJ9_abs_067f4 p0 σ) (fun r3 t4 => bn (F3_commonDivisor N r3 p1 t4) (fun r5 t6 => if (lg_cmp r5 (0 : Int64)) ≤ 0 then (F11_tellFraction_b33 N t6)
  else (ck (!(r5 == 0)) (lt (sL t6 11 18 (p0 / r5)) (fun t7 => ck (!(r5 == 0)) (lt (sL t7 11 19 (p1 / r5)) (fun t8 => F11_tellFraction_b33 N t8)))))))
set_option maxRecDepth 100000 in
theorem v11_tellFraction_b33 (N : Nat) (σ : Ms) : VF (K11_tellFraction) cX11_tellFraction RX11 (F11_tellFraction_b33 N σ) σ 33 [(0, .ref 11)] [] := by
  unfold F11_tellFraction_b33
  refine v_aload_n d11_tellFraction_33 0 rfl rfl ?_
  refine v_callV0i d11_tellFraction_34 (mc11_yes σ) yv11_yes mlX11_120 (Recv.obj ic_11 rfl) (by decide) (Nat.le_of_ble_eq_true rfl) fun r1 t2 => ?_
  exact v_iretB d11_tellFraction_37 rfl rfl
set_option maxRecDepth 100000 in
theorem mc11_tellFraction (N : Nat) (p0 : Int64) (p1 : Int64) (σ : Ms) : MC enI yX11_tellFraction cX11_tellFraction 7 (some .boolean) 2 (F11_tellFraction N p0 p1 σ) σ [.ref 11, .long p0, .long p1] := by
  refine MC.i (by decide +kernel) (Nat.le_of_ble_eq_true rfl) ?_
  show VF (K11_tellFraction) cX11_tellFraction RX11 (F11_tellFraction N p0 p1 σ) σ 0 [(0, .ref 11), (1, .long p0), (3, .long p1)] []
  unfold F11_tellFraction
  refine v_lload_n d11_tellFraction_0 1 rfl rfl ?_
  refine v_callS1l d11_tellFraction_1 (mcJ9_abs_067f4 p0 σ) ysJ9_abs_067f4 mlX11_442 (by decide) (Nat.le_of_ble_eq_true rfl) fun r3 t4 => ?_
  refine v_lload_n d11_tellFraction_4 2 rfl rfl ?_
  refine v_callS2l d11_tellFraction_5 (mc3_commonDivisor N r3 p1 t4) ys3_commonDivisor mlX11_448 (by decide) (Nat.le_of_ble_eq_true rfl) fun r5 t6 => ?_
  refine v_lstore (lv' := [(5, .long r5), (0, .ref 11), (1, .long p0), (3, .long p1)]) d11_tellFraction_8 (by decide) rfl ?_
  refine v_lload d11_tellFraction_10 0 rfl ?_
  refine v_lconst d11_tellFraction_12 kl_0 ?_
  refine v_lcmp d11_tellFraction_13 ?_
  refine v_if_le (tgt := 33) d11_tellFraction_14 (by decide) ?_ ?_
  · refine v_sub [1] rfl ?_
    exact v11_tellFraction_b33 N t6
  · refine v_aload_n d11_tellFraction_17 1 rfl rfl ?_
    refine v_lload_n d11_tellFraction_18 2 rfl rfl ?_
    refine v_lload d11_tellFraction_19 0 rfl ?_
    refine v_ldiv d11_tellFraction_21 ?_
    refine v_putL d11_tellFraction_22 faX11_99 fp8_18 ic_11 ?_
    refine v_lts fun t7 => ?_
    refine v_aload_n d11_tellFraction_25 1 rfl rfl ?_
    refine v_lload_n d11_tellFraction_26 3 rfl rfl ?_
    refine v_lload d11_tellFraction_27 0 rfl ?_
    refine v_ldiv d11_tellFraction_29 ?_
    refine v_putL d11_tellFraction_30 faX11_103 fp8_19 ic_11 ?_
    refine v_lts fun t8 => ?_
    refine v_sub [1] rfl ?_
    exact v11_tellFraction_b33 N t8
theorem d11_tellNumber_0 : decode cX11_tellNumber 0 = .ok (.aload_n 0, 1) := by decide +kernel
theorem d11_tellNumber_1 : decode cX11_tellNumber 1 = .ok (.lload_n 1, 1) := by decide +kernel
theorem d11_tellNumber_2 : decode cX11_tellNumber 2 = .ok (.ldc2_w 440, 3) := by decide +kernel
theorem d11_tellNumber_5 : decode cX11_tellNumber 5 = .ok (.invokevirtual 361, 3) := by decide +kernel
theorem d11_tellNumber_8 : decode cX11_tellNumber 8 = .ok (.ireturn, 1) := by decide +kernel
abbrev K11_tellNumber : CK Int32 := (enI, (some .boolean), 3, 3, none)
noncomputable def F11_tellNumber (N : Nat) (p0 : Int64) (σ : Ms) : Option (Int32 × Ms) :=
  bn (F11_tellFraction N p0 (1073741824 : Int64) σ) (fun r1 t2 => ck (nkB r1) (some (r1, t2)))
set_option maxRecDepth 100000 in
theorem mc11_tellNumber (N : Nat) (p0 : Int64) (σ : Ms) : MC enI yX11_tellNumber cX11_tellNumber 3 (some .boolean) 3 (F11_tellNumber N p0 σ) σ [.ref 11, .long p0] := by
  refine MC.i (by decide +kernel) (Nat.le_of_ble_eq_true rfl) ?_
  show VF (K11_tellNumber) cX11_tellNumber RX11 (F11_tellNumber N p0 σ) σ 0 [(0, .ref 11), (1, .long p0)] []
  unfold F11_tellNumber
  refine v_aload_n d11_tellNumber_0 0 rfl rfl ?_
  refine v_lload_n d11_tellNumber_1 1 rfl rfl ?_
  refine v_ldc2 d11_tellNumber_2 klX11_440 ?_
  refine v_callV2i d11_tellNumber_5 (mc11_tellFraction N p0 (1073741824 : Int64) σ) yv11_tellFraction mlX11_361 (Recv.obj ic_11 rfl) (by decide) (Nat.le_of_ble_eq_true rfl) fun r1 t2 => ?_
  exact v_iretB d11_tellNumber_8 rfl rfl
theorem d11_worth_0 : decode cX11_worth 0 = .ok (.aload_n 0, 1) := by decide +kernel
theorem d11_worth_1 : decode cX11_worth 1 = .ok (.aload_n 0, 1) := by decide +kernel
theorem d11_worth_2 : decode cX11_worth 2 = .ok (.getfield 26, 3) := by decide +kernel
theorem d11_worth_5 : decode cX11_worth 5 = .ok (.aload_n 0, 1) := by decide +kernel
theorem d11_worth_6 : decode cX11_worth 6 = .ok (.getfield 26, 3) := by decide +kernel
theorem d11_worth_9 : decode cX11_worth 9 = .ok (.getfield 206, 3) := by decide +kernel
theorem d11_worth_12 : decode cX11_worth 12 = .ok (.invokevirtual 306, 3) := by decide +kernel
theorem d11_worth_15 : decode cX11_worth 15 = .ok (.invokevirtual 310, 3) := by decide +kernel
theorem d11_worth_18 : decode cX11_worth 18 = .ok (.ireturn, 1) := by decide +kernel
abbrev K11_worth : CK Int32 := (enI, (some .boolean), 1, 4, none)
noncomputable def F11_worth (N : Nat) (σ : Ms) : Option (Int32 × Ms) :=
  bn (F0_worthWith N 22 (σ.1 22 6) σ) (fun r1 t2 => bn (F11_tellNumber N r1 t2) (fun r3 t4 => ck (nkB r3) (some (r3, t4))))
set_option maxRecDepth 100000 in
theorem mc11_worth (N : Nat) (σ : Ms) : MC enI yX11_worth cX11_worth 1 (some .boolean) 4 (F11_worth N σ) σ [.ref 11] := by
  refine MC.i (by decide +kernel) (Nat.le_of_ble_eq_true rfl) ?_
  show VF (K11_worth) cX11_worth RX11 (F11_worth N σ) σ 0 [(0, .ref 11)] []
  unfold F11_worth
  refine v_aload_n d11_worth_0 0 rfl rfl ?_
  refine v_aload_n d11_worth_1 0 rfl rfl ?_
  refine v_getR d11_worth_2 faX11_26 ic_11 rfl ?_
  refine v_aload_n d11_worth_5 0 rfl rfl ?_
  refine v_getR d11_worth_6 faX11_26 ic_11 rfl ?_
  refine v_getI d11_worth_9 faX11_206 ic_22 ?_
  refine v_callV1l d11_worth_12 (mc0_worthWith N 22 ic_22 (σ.1 22 6) σ) yv0_worthWith mlX11_306 (Recv.obj ic_22 rfl) (by decide) (Nat.le_of_ble_eq_true rfl) fun r1 t2 => ?_
  refine v_callV1i d11_worth_15 (mc11_tellNumber N r1 t2) yv11_tellNumber mlX11_310 (Recv.obj ic_11 rfl) (by decide) (Nat.le_of_ble_eq_true rfl) fun r3 t4 => ?_
  exact v_iretB d11_worth_18 rfl rfl
theorem d11_worthOf_0 : decode cX11_worthOf 0 = .ok (.aload_n 0, 1) := by decide +kernel
theorem d11_worthOf_1 : decode cX11_worthOf 1 = .ok (.getfield 26, 3) := by decide +kernel
theorem d11_worthOf_4 : decode cX11_worthOf 4 = .ok (.iload_n 1, 1) := by decide +kernel
theorem d11_worthOf_5 : decode cX11_worthOf 5 = .ok (.invokevirtual 218, 3) := by decide +kernel
theorem d11_worthOf_8 : decode cX11_worthOf 8 = .ok (.ifCond .ne 9, 3) := by decide +kernel
theorem d11_worthOf_11 : decode cX11_worthOf 11 = .ok (.aload_n 0, 1) := by decide +kernel
theorem d11_worthOf_12 : decode cX11_worthOf 12 = .ok (.iconst 2, 1) := by decide +kernel
theorem d11_worthOf_13 : decode cX11_worthOf 13 = .ok (.invokevirtual 113, 3) := by decide +kernel
theorem d11_worthOf_16 : decode cX11_worthOf 16 = .ok (.ireturn, 1) := by decide +kernel
theorem d11_worthOf_17 : decode cX11_worthOf 17 = .ok (.aload_n 0, 1) := by decide +kernel
theorem d11_worthOf_18 : decode cX11_worthOf 18 = .ok (.getfield 26, 3) := by decide +kernel
theorem d11_worthOf_21 : decode cX11_worthOf 21 = .ok (.iload_n 1, 1) := by decide +kernel
theorem d11_worthOf_22 : decode cX11_worthOf 22 = .ok (.invokevirtual 294, 3) := by decide +kernel
theorem d11_worthOf_25 : decode cX11_worthOf 25 = .ok (.ifCond .ne 10, 3) := by decide +kernel
theorem d11_worthOf_28 : decode cX11_worthOf 28 = .ok (.aload_n 0, 1) := by decide +kernel
theorem d11_worthOf_29 : decode cX11_worthOf 29 = .ok (.bipush 9, 2) := by decide +kernel
theorem d11_worthOf_31 : decode cX11_worthOf 31 = .ok (.invokevirtual 113, 3) := by decide +kernel
theorem d11_worthOf_34 : decode cX11_worthOf 34 = .ok (.ireturn, 1) := by decide +kernel
theorem d11_worthOf_35 : decode cX11_worthOf 35 = .ok (.aload_n 0, 1) := by decide +kernel
theorem d11_worthOf_36 : decode cX11_worthOf 36 = .ok (.aload_n 0, 1) := by decide +kernel
theorem d11_worthOf_37 : decode cX11_worthOf 37 = .ok (.getfield 26, 3) := by decide +kernel
theorem d11_worthOf_40 : decode cX11_worthOf 40 = .ok (.iload_n 1, 1) := by decide +kernel
theorem d11_worthOf_41 : decode cX11_worthOf 41 = .ok (.invokevirtual 314, 3) := by decide +kernel
theorem d11_worthOf_44 : decode cX11_worthOf 44 = .ok (.invokevirtual 310, 3) := by decide +kernel
theorem d11_worthOf_47 : decode cX11_worthOf 47 = .ok (.ireturn, 1) := by decide +kernel
abbrev K11_worthOf : CK Int32 := (enI, (some .boolean), 2, 5, none)
noncomputable def F11_worthOf (N : Nat) (p0 : Int32) (σ : Ms) : Option (Int32 × Ms) :=
  bn (F0_hasSprig 22 p0 σ) (fun r1 t2 => if r1 ≠ 0 then (bn (F0_hasWorth 22 p0 t2) (fun r3 t4 => if r3 ≠ 0 then (bn (F0_branchWorth N 22 p0 t4) (fun r5 t6 => bn (F11_tellNumber N r5 t6) (fun r7 t8 => ck (nkB r7) (some (r7, t8)))))
  else (bn (F11_no (9 : Int32) t4) (fun r9 t10 => ck (nkB r9) (some (r9, t10))))))
  else (bn (F11_no (2 : Int32) t2) (fun r11 t12 => ck (nkB r11) (some (r11, t12)))))
set_option maxRecDepth 100000 in
theorem mc11_worthOf (N : Nat) (p0 : Int32) (σ : Ms) : MC enI yX11_worthOf cX11_worthOf 2 (some .boolean) 5 (F11_worthOf N p0 σ) σ [.ref 11, .int p0] := by
  refine MC.i (by decide +kernel) (Nat.le_of_ble_eq_true rfl) ?_
  show VF (K11_worthOf) cX11_worthOf RX11 (F11_worthOf N p0 σ) σ 0 [(0, .ref 11), (1, .int p0)] []
  unfold F11_worthOf
  refine v_aload_n d11_worthOf_0 0 rfl rfl ?_
  refine v_getR d11_worthOf_1 faX11_26 ic_11 rfl ?_
  refine v_iload_n d11_worthOf_4 1 rfl rfl ?_
  refine v_callV1i d11_worthOf_5 (mc0_hasSprig 22 ic_22 p0 σ) yv0_hasSprig mlX11_218 (Recv.obj ic_22 rfl) (by decide) (Nat.le_of_ble_eq_true rfl) fun r1 t2 => ?_
  refine v_if_ne (tgt := 17) d11_worthOf_8 (by decide) ?_ ?_
  · refine v_aload_n d11_worthOf_17 0 rfl rfl ?_
    refine v_getR d11_worthOf_18 faX11_26 ic_11 rfl ?_
    refine v_iload_n d11_worthOf_21 1 rfl rfl ?_
    refine v_callV1i d11_worthOf_22 (mc0_hasWorth 22 ic_22 p0 t2) yv0_hasWorth mlX11_294 (Recv.obj ic_22 rfl) (by decide) (Nat.le_of_ble_eq_true rfl) fun r3 t4 => ?_
    refine v_if_ne (tgt := 35) d11_worthOf_25 (by decide) ?_ ?_
    · refine v_aload_n d11_worthOf_35 0 rfl rfl ?_
      refine v_aload_n d11_worthOf_36 0 rfl rfl ?_
      refine v_getR d11_worthOf_37 faX11_26 ic_11 rfl ?_
      refine v_iload_n d11_worthOf_40 1 rfl rfl ?_
      refine v_callV1l d11_worthOf_41 (mc0_branchWorth N 22 ic_22 p0 t4) yv0_branchWorth mlX11_314 (Recv.obj ic_22 rfl) (by decide) (Nat.le_of_ble_eq_true rfl) fun r5 t6 => ?_
      refine v_callV1i d11_worthOf_44 (mc11_tellNumber N r5 t6) yv11_tellNumber mlX11_310 (Recv.obj ic_11 rfl) (by decide) (Nat.le_of_ble_eq_true rfl) fun r7 t8 => ?_
      exact v_iretB d11_worthOf_47 rfl rfl
    · refine v_aload_n d11_worthOf_28 0 rfl rfl ?_
      refine v_bipush d11_worthOf_29 kb_9 ?_
      refine v_callV1i d11_worthOf_31 (mc11_no (9 : Int32) t4) yv11_no mlX11_113 (Recv.obj ic_11 rfl) (by decide) (Nat.le_of_ble_eq_true rfl) fun r9 t10 => ?_
      exact v_iretB d11_worthOf_34 rfl rfl
  · refine v_aload_n d11_worthOf_11 0 rfl rfl ?_
    refine v_iconst d11_worthOf_12 ki_2 ?_
    refine v_callV1i d11_worthOf_13 (mc11_no (2 : Int32) t2) yv11_no mlX11_113 (Recv.obj ic_11 rfl) (by decide) (Nat.le_of_ble_eq_true rfl) fun r11 t12 => ?_
    exact v_iretB d11_worthOf_16 rfl rfl
theorem d11_nimber_0 : decode cX11_nimber 0 = .ok (.aload_n 0, 1) := by decide +kernel
theorem d11_nimber_1 : decode cX11_nimber 1 = .ok (.aload_n 0, 1) := by decide +kernel
theorem d11_nimber_2 : decode cX11_nimber 2 = .ok (.getfield 26, 3) := by decide +kernel
theorem d11_nimber_5 : decode cX11_nimber 5 = .ok (.aload_n 0, 1) := by decide +kernel
theorem d11_nimber_6 : decode cX11_nimber 6 = .ok (.getfield 26, 3) := by decide +kernel
theorem d11_nimber_9 : decode cX11_nimber 9 = .ok (.getfield 206, 3) := by decide +kernel
theorem d11_nimber_12 : decode cX11_nimber 12 = .ok (.invokevirtual 279, 3) := by decide +kernel
theorem d11_nimber_15 : decode cX11_nimber 15 = .ok (.invokevirtual 186, 3) := by decide +kernel
theorem d11_nimber_18 : decode cX11_nimber 18 = .ok (.ireturn, 1) := by decide +kernel
abbrev K11_nimber : CK Int32 := (enI, (some .int), 1, 3, none)
noncomputable def F11_nimber (N : Nat) (σ : Ms) : Option (Int32 × Ms) :=
  bn (F0_nimWith N 22 (σ.1 22 6) σ) (fun r1 t2 => bn (F11_told r1 t2) (fun r3 t4 => some (r3, t4)))
set_option maxRecDepth 100000 in
theorem mc11_nimber (N : Nat) (σ : Ms) : MC enI yX11_nimber cX11_nimber 1 (some .int) 3 (F11_nimber N σ) σ [.ref 11] := by
  refine MC.i (by decide +kernel) (Nat.le_of_ble_eq_true rfl) ?_
  show VF (K11_nimber) cX11_nimber RX11 (F11_nimber N σ) σ 0 [(0, .ref 11)] []
  unfold F11_nimber
  refine v_aload_n d11_nimber_0 0 rfl rfl ?_
  refine v_aload_n d11_nimber_1 0 rfl rfl ?_
  refine v_getR d11_nimber_2 faX11_26 ic_11 rfl ?_
  refine v_aload_n d11_nimber_5 0 rfl rfl ?_
  refine v_getR d11_nimber_6 faX11_26 ic_11 rfl ?_
  refine v_getI d11_nimber_9 faX11_206 ic_22 ?_
  refine v_callV1i d11_nimber_12 (mc0_nimWith N 22 ic_22 (σ.1 22 6) σ) yv0_nimWith mlX11_279 (Recv.obj ic_22 rfl) (by decide) (Nat.le_of_ble_eq_true rfl) fun r1 t2 => ?_
  refine v_callV1i d11_nimber_15 (mc11_told r1 t2) yv11_told mlX11_186 (Recv.obj ic_11 rfl) (by decide) (Nat.le_of_ble_eq_true rfl) fun r3 t4 => ?_
  exact v_iret d11_nimber_18 rfl rfl rfl
theorem d11_nimOf_0 : decode cX11_nimOf 0 = .ok (.aload_n 0, 1) := by decide +kernel
theorem d11_nimOf_1 : decode cX11_nimOf 1 = .ok (.getfield 26, 3) := by decide +kernel
theorem d11_nimOf_4 : decode cX11_nimOf 4 = .ok (.iload_n 1, 1) := by decide +kernel
theorem d11_nimOf_5 : decode cX11_nimOf 5 = .ok (.invokevirtual 218, 3) := by decide +kernel
theorem d11_nimOf_8 : decode cX11_nimOf 8 = .ok (.ifCond .ne 9, 3) := by decide +kernel
theorem d11_nimOf_11 : decode cX11_nimOf 11 = .ok (.aload_n 0, 1) := by decide +kernel
theorem d11_nimOf_12 : decode cX11_nimOf 12 = .ok (.iconst 2, 1) := by decide +kernel
theorem d11_nimOf_13 : decode cX11_nimOf 13 = .ok (.invokevirtual 132, 3) := by decide +kernel
theorem d11_nimOf_16 : decode cX11_nimOf 16 = .ok (.ireturn, 1) := by decide +kernel
theorem d11_nimOf_17 : decode cX11_nimOf 17 = .ok (.aload_n 0, 1) := by decide +kernel
theorem d11_nimOf_18 : decode cX11_nimOf 18 = .ok (.getfield 26, 3) := by decide +kernel
theorem d11_nimOf_21 : decode cX11_nimOf 21 = .ok (.iload_n 1, 1) := by decide +kernel
theorem d11_nimOf_22 : decode cX11_nimOf 22 = .ok (.invokevirtual 221, 3) := by decide +kernel
theorem d11_nimOf_25 : decode cX11_nimOf 25 = .ok (.ifCond .eq 16, 3) := by decide +kernel
theorem d11_nimOf_28 : decode cX11_nimOf 28 = .ok (.aload_n 0, 1) := by decide +kernel
theorem d11_nimOf_29 : decode cX11_nimOf 29 = .ok (.getfield 26, 3) := by decide +kernel
theorem d11_nimOf_32 : decode cX11_nimOf 32 = .ok (.getfield 224, 3) := by decide +kernel
theorem d11_nimOf_35 : decode cX11_nimOf 35 = .ok (.iload_n 1, 1) := by decide +kernel
theorem d11_nimOf_36 : decode cX11_nimOf 36 = .ok (.iaload, 1) := by decide +kernel
theorem d11_nimOf_37 : decode cX11_nimOf 37 = .ok (.iconst 2, 1) := by decide +kernel
theorem d11_nimOf_38 : decode cX11_nimOf 38 = .ok (.if_icmp .eq 10, 3) := by decide +kernel
theorem d11_nimOf_41 : decode cX11_nimOf 41 = .ok (.aload_n 0, 1) := by decide +kernel
theorem d11_nimOf_42 : decode cX11_nimOf 42 = .ok (.bipush 9, 2) := by decide +kernel
theorem d11_nimOf_44 : decode cX11_nimOf 44 = .ok (.invokevirtual 132, 3) := by decide +kernel
theorem d11_nimOf_47 : decode cX11_nimOf 47 = .ok (.ireturn, 1) := by decide +kernel
theorem d11_nimOf_48 : decode cX11_nimOf 48 = .ok (.aload_n 0, 1) := by decide +kernel
theorem d11_nimOf_49 : decode cX11_nimOf 49 = .ok (.aload_n 0, 1) := by decide +kernel
theorem d11_nimOf_50 : decode cX11_nimOf 50 = .ok (.getfield 26, 3) := by decide +kernel
theorem d11_nimOf_53 : decode cX11_nimOf 53 = .ok (.iload_n 1, 1) := by decide +kernel
theorem d11_nimOf_54 : decode cX11_nimOf 54 = .ok (.invokevirtual 317, 3) := by decide +kernel
theorem d11_nimOf_57 : decode cX11_nimOf 57 = .ok (.invokevirtual 186, 3) := by decide +kernel
theorem d11_nimOf_60 : decode cX11_nimOf 60 = .ok (.ireturn, 1) := by decide +kernel
abbrev K11_nimOf : CK Int32 := (enI, (some .int), 2, 4, none)
noncomputable def F11_nimOf_b41 (N : Nat) (σ : Ms) : Option (Int32 × Ms) :=
  bn (F11_none (9 : Int32) σ) (fun r1 t2 => some (r1, t2))
noncomputable def F11_nimOf (N : Nat) (p0 : Int32) (σ : Ms) : Option (Int32 × Ms) :=
  bn (F0_hasSprig 22 p0 σ) (fun r3 t4 => if r3 ≠ 0 then (bn (F0_isStanding 22 p0 t4) (fun r5 t6 => if r5 = 0 then (F11_nimOf_b41 N t6)
  else (ck (ixb p0 20) (if (t6.1 23 p0.toNatClampNeg) = (2 : Int32) then (bn (F0_branchNim N 22 p0 t6) (fun r7 t8 => bn (F11_told r7 t8) (fun r9 t10 => some (r9, t10))))
  else (F11_nimOf_b41 N t6)))))
  else (bn (F11_none (2 : Int32) t4) (fun r11 t12 => some (r11, t12))))
set_option maxRecDepth 100000 in
theorem v11_nimOf_b41 (N : Nat) (σ : Ms) : VF (K11_nimOf) cX11_nimOf RX11 (F11_nimOf_b41 N σ) σ 41 [(0, .ref 11)] [] := by
  unfold F11_nimOf_b41
  refine v_aload_n d11_nimOf_41 0 rfl rfl ?_
  refine v_bipush d11_nimOf_42 kb_9 ?_
  refine v_callV1i d11_nimOf_44 (mc11_none (9 : Int32) σ) yv11_none mlX11_132 (Recv.obj ic_11 rfl) (by decide) (Nat.le_of_ble_eq_true rfl) fun r1 t2 => ?_
  exact v_iret d11_nimOf_47 rfl rfl rfl
set_option maxRecDepth 100000 in
theorem mc11_nimOf (N : Nat) (p0 : Int32) (σ : Ms) : MC enI yX11_nimOf cX11_nimOf 2 (some .int) 4 (F11_nimOf N p0 σ) σ [.ref 11, .int p0] := by
  refine MC.i (by decide +kernel) (Nat.le_of_ble_eq_true rfl) ?_
  show VF (K11_nimOf) cX11_nimOf RX11 (F11_nimOf N p0 σ) σ 0 [(0, .ref 11), (1, .int p0)] []
  unfold F11_nimOf
  refine v_aload_n d11_nimOf_0 0 rfl rfl ?_
  refine v_getR d11_nimOf_1 faX11_26 ic_11 rfl ?_
  refine v_iload_n d11_nimOf_4 1 rfl rfl ?_
  refine v_callV1i d11_nimOf_5 (mc0_hasSprig 22 ic_22 p0 σ) yv0_hasSprig mlX11_218 (Recv.obj ic_22 rfl) (by decide) (Nat.le_of_ble_eq_true rfl) fun r3 t4 => ?_
  refine v_if_ne (tgt := 17) d11_nimOf_8 (by decide) ?_ ?_
  · refine v_aload_n d11_nimOf_17 0 rfl rfl ?_
    refine v_getR d11_nimOf_18 faX11_26 ic_11 rfl ?_
    refine v_iload_n d11_nimOf_21 1 rfl rfl ?_
    refine v_callV1i d11_nimOf_22 (mc0_isStanding 22 ic_22 p0 t4) yv0_isStanding mlX11_221 (Recv.obj ic_22 rfl) (by decide) (Nat.le_of_ble_eq_true rfl) fun r5 t6 => ?_
    refine v_if_eq (tgt := 41) d11_nimOf_25 (by decide) ?_ ?_
    · refine v_sub [0] rfl ?_
      exact v11_nimOf_b41 N t6
    · refine v_aload_n d11_nimOf_28 0 rfl rfl ?_
      refine v_getR d11_nimOf_29 faX11_26 ic_11 rfl ?_
      refine v_getR d11_nimOf_32 faX11_224 ic_22 rfl ?_
      refine v_iload_n d11_nimOf_35 1 rfl rfl ?_
      refine v_iald d11_nimOf_36 ic_23 ?_
      refine v_iconst d11_nimOf_37 ki_2 ?_
      refine v_icmp_eq (tgt := 48) d11_nimOf_38 (by decide) ?_ ?_
      · refine v_aload_n d11_nimOf_48 0 rfl rfl ?_
        refine v_aload_n d11_nimOf_49 0 rfl rfl ?_
        refine v_getR d11_nimOf_50 faX11_26 ic_11 rfl ?_
        refine v_iload_n d11_nimOf_53 1 rfl rfl ?_
        refine v_callV1i d11_nimOf_54 (mc0_branchNim N 22 ic_22 p0 t6) yv0_branchNim mlX11_317 (Recv.obj ic_22 rfl) (by decide) (Nat.le_of_ble_eq_true rfl) fun r7 t8 => ?_
        refine v_callV1i d11_nimOf_57 (mc11_told r7 t8) yv11_told mlX11_186 (Recv.obj ic_11 rfl) (by decide) (Nat.le_of_ble_eq_true rfl) fun r9 t10 => ?_
        exact v_iret d11_nimOf_60 rfl rfl rfl
      · refine v_sub [0] rfl ?_
        exact v11_nimOf_b41 N t6
  · refine v_aload_n d11_nimOf_11 0 rfl rfl ?_
    refine v_iconst d11_nimOf_12 ki_2 ?_
    refine v_callV1i d11_nimOf_13 (mc11_none (2 : Int32) t4) yv11_none mlX11_132 (Recv.obj ic_11 rfl) (by decide) (Nat.le_of_ble_eq_true rfl) fun r11 t12 => ?_
    exact v_iret d11_nimOf_16 rfl rfl rfl
