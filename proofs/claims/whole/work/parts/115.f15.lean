theorem d11_compare_0 : decode cX11_compare 0 = .ok (.aload_n 0, 1) := by decide +kernel
theorem d11_compare_1 : decode cX11_compare 1 = .ok (.getfield 26, 3) := by decide +kernel
theorem d11_compare_4 : decode cX11_compare 4 = .ok (.iload_n 1, 1) := by decide +kernel
theorem d11_compare_5 : decode cX11_compare 5 = .ok (.invokevirtual 218, 3) := by decide +kernel
theorem d11_compare_8 : decode cX11_compare 8 = .ok (.ifCond .eq 14, 3) := by decide +kernel
theorem d11_compare_11 : decode cX11_compare 11 = .ok (.aload_n 0, 1) := by decide +kernel
theorem d11_compare_12 : decode cX11_compare 12 = .ok (.getfield 26, 3) := by decide +kernel
theorem d11_compare_15 : decode cX11_compare 15 = .ok (.iload_n 2, 1) := by decide +kernel
theorem d11_compare_16 : decode cX11_compare 16 = .ok (.invokevirtual 218, 3) := by decide +kernel
theorem d11_compare_19 : decode cX11_compare 19 = .ok (.ifCond .ne 9, 3) := by decide +kernel
theorem d11_compare_22 : decode cX11_compare 22 = .ok (.aload_n 0, 1) := by decide +kernel
theorem d11_compare_23 : decode cX11_compare 23 = .ok (.iconst 2, 1) := by decide +kernel
theorem d11_compare_24 : decode cX11_compare 24 = .ok (.invokevirtual 132, 3) := by decide +kernel
theorem d11_compare_27 : decode cX11_compare 27 = .ok (.ireturn, 1) := by decide +kernel
theorem d11_compare_28 : decode cX11_compare 28 = .ok (.aload_n 0, 1) := by decide +kernel
theorem d11_compare_29 : decode cX11_compare 29 = .ok (.getfield 26, 3) := by decide +kernel
theorem d11_compare_32 : decode cX11_compare 32 = .ok (.iload_n 1, 1) := by decide +kernel
theorem d11_compare_33 : decode cX11_compare 33 = .ok (.invokevirtual 294, 3) := by decide +kernel
theorem d11_compare_36 : decode cX11_compare 36 = .ok (.ifCond .eq 14, 3) := by decide +kernel
theorem d11_compare_39 : decode cX11_compare 39 = .ok (.aload_n 0, 1) := by decide +kernel
theorem d11_compare_40 : decode cX11_compare 40 = .ok (.getfield 26, 3) := by decide +kernel
theorem d11_compare_43 : decode cX11_compare 43 = .ok (.iload_n 2, 1) := by decide +kernel
theorem d11_compare_44 : decode cX11_compare 44 = .ok (.invokevirtual 294, 3) := by decide +kernel
theorem d11_compare_47 : decode cX11_compare 47 = .ok (.ifCond .ne 10, 3) := by decide +kernel
theorem d11_compare_50 : decode cX11_compare 50 = .ok (.aload_n 0, 1) := by decide +kernel
theorem d11_compare_51 : decode cX11_compare 51 = .ok (.bipush 9, 2) := by decide +kernel
theorem d11_compare_53 : decode cX11_compare 53 = .ok (.invokevirtual 132, 3) := by decide +kernel
theorem d11_compare_56 : decode cX11_compare 56 = .ok (.ireturn, 1) := by decide +kernel
theorem d11_compare_57 : decode cX11_compare 57 = .ok (.aload_n 0, 1) := by decide +kernel
theorem d11_compare_58 : decode cX11_compare 58 = .ok (.aload_n 0, 1) := by decide +kernel
theorem d11_compare_59 : decode cX11_compare 59 = .ok (.getfield 26, 3) := by decide +kernel
theorem d11_compare_62 : decode cX11_compare 62 = .ok (.iload_n 1, 1) := by decide +kernel
theorem d11_compare_63 : decode cX11_compare 63 = .ok (.invokevirtual 314, 3) := by decide +kernel
theorem d11_compare_66 : decode cX11_compare 66 = .ok (.aload_n 0, 1) := by decide +kernel
theorem d11_compare_67 : decode cX11_compare 67 = .ok (.getfield 26, 3) := by decide +kernel
theorem d11_compare_70 : decode cX11_compare 70 = .ok (.iload_n 2, 1) := by decide +kernel
theorem d11_compare_71 : decode cX11_compare 71 = .ok (.invokevirtual 314, 3) := by decide +kernel
theorem d11_compare_74 : decode cX11_compare 74 = .ok (.invokestatic 320, 3) := by decide +kernel
theorem d11_compare_77 : decode cX11_compare 77 = .ok (.iconst 1, 1) := by decide +kernel
theorem d11_compare_78 : decode cX11_compare 78 = .ok (.iadd, 1) := by decide +kernel
theorem d11_compare_79 : decode cX11_compare 79 = .ok (.invokevirtual 186, 3) := by decide +kernel
theorem d11_compare_82 : decode cX11_compare 82 = .ok (.ireturn, 1) := by decide +kernel
abbrev K11_compare : CK Int32 := (enI, (some .int), 3, 5, none)
noncomputable def F11_compare_b22 (N : Nat) (σ : Ms) : Option (Int32 × Ms) :=
  bn (F11_none (2 : Int32) σ) (fun r1 t2 => some (r1, t2))
noncomputable def F11_compare_b50 (N : Nat) (σ : Ms) : Option (Int32 × Ms) :=
  bn (F11_none (9 : Int32) σ) (fun r3 t4 => some (r3, t4))
noncomputable def F11_compare (N : Nat) (p0 : Int32) (p1 : Int32) (σ : Ms) : Option (Int32 × Ms) :=
  bn (F0_hasSprig 22 p0 σ) (fun r5 t6 => if r5 = 0 then (F11_compare_b22 N t6)
  else (bn (F0_hasSprig 22 p1 t6) (fun r7 t8 => if r7 ≠ 0 then (bn (F0_hasWorth 22 p0 t8) (fun r9 t10 => if r9 = 0 then (F11_compare_b50 N t10)
  else (bn (F0_hasWorth 22 p1 t10) (fun r11 t12 => if r11 ≠ 0 then (bn (F0_branchWorth N 22 p0 t12) (fun r13 t14 => bn (F0_branchWorth N 22 p1 t14) (fun r15 t16 => bn (FJ13_compare_74951 r13 r15 t16) (fun r17 t18 => bn (F11_told (r17 + (1 : Int32)) t18) (fun r19 t20 => some (r19, t20))))))
  else (F11_compare_b50 N t12)))))
  else (F11_compare_b22 N t8))))
set_option maxRecDepth 100000 in
theorem v11_compare_b22 (N : Nat) (σ : Ms) : VF (K11_compare) cX11_compare RX11 (F11_compare_b22 N σ) σ 22 [(0, .ref 11)] [] := by
  unfold F11_compare_b22
  refine v_aload_n d11_compare_22 0 rfl rfl ?_
  refine v_iconst d11_compare_23 ki_2 ?_
  refine v_callV1i d11_compare_24 (mc11_none (2 : Int32) σ) yv11_none mlX11_132 (Recv.obj ic_11 rfl) (by decide) (Nat.le_of_ble_eq_true rfl) fun r1 t2 => ?_
  exact v_iret d11_compare_27 rfl rfl rfl
set_option maxRecDepth 100000 in
theorem v11_compare_b50 (N : Nat) (σ : Ms) : VF (K11_compare) cX11_compare RX11 (F11_compare_b50 N σ) σ 50 [(0, .ref 11)] [] := by
  unfold F11_compare_b50
  refine v_aload_n d11_compare_50 0 rfl rfl ?_
  refine v_bipush d11_compare_51 kb_9 ?_
  refine v_callV1i d11_compare_53 (mc11_none (9 : Int32) σ) yv11_none mlX11_132 (Recv.obj ic_11 rfl) (by decide) (Nat.le_of_ble_eq_true rfl) fun r3 t4 => ?_
  exact v_iret d11_compare_56 rfl rfl rfl
set_option maxRecDepth 100000 in
theorem mc11_compare (N : Nat) (p0 : Int32) (p1 : Int32) (σ : Ms) : MC enI yX11_compare cX11_compare 3 (some .int) 5 (F11_compare N p0 p1 σ) σ [.ref 11, .int p0, .int p1] := by
  refine MC.i (by decide +kernel) (Nat.le_of_ble_eq_true rfl) ?_
  show VF (K11_compare) cX11_compare RX11 (F11_compare N p0 p1 σ) σ 0 [(0, .ref 11), (1, .int p0), (2, .int p1)] []
  unfold F11_compare
  refine v_aload_n d11_compare_0 0 rfl rfl ?_
  refine v_getR d11_compare_1 faX11_26 ic_11 rfl ?_
  refine v_iload_n d11_compare_4 1 rfl rfl ?_
  refine v_callV1i d11_compare_5 (mc0_hasSprig 22 ic_22 p0 σ) yv0_hasSprig mlX11_218 (Recv.obj ic_22 rfl) (by decide) (Nat.le_of_ble_eq_true rfl) fun r5 t6 => ?_
  refine v_if_eq (tgt := 22) d11_compare_8 (by decide) ?_ ?_
  · refine v_sub [0] rfl ?_
    exact v11_compare_b22 N t6
  · refine v_aload_n d11_compare_11 0 rfl rfl ?_
    refine v_getR d11_compare_12 faX11_26 ic_11 rfl ?_
    refine v_iload_n d11_compare_15 2 rfl rfl ?_
    refine v_callV1i d11_compare_16 (mc0_hasSprig 22 ic_22 p1 t6) yv0_hasSprig mlX11_218 (Recv.obj ic_22 rfl) (by decide) (Nat.le_of_ble_eq_true rfl) fun r7 t8 => ?_
    refine v_if_ne (tgt := 28) d11_compare_19 (by decide) ?_ ?_
    · refine v_aload_n d11_compare_28 0 rfl rfl ?_
      refine v_getR d11_compare_29 faX11_26 ic_11 rfl ?_
      refine v_iload_n d11_compare_32 1 rfl rfl ?_
      refine v_callV1i d11_compare_33 (mc0_hasWorth 22 ic_22 p0 t8) yv0_hasWorth mlX11_294 (Recv.obj ic_22 rfl) (by decide) (Nat.le_of_ble_eq_true rfl) fun r9 t10 => ?_
      refine v_if_eq (tgt := 50) d11_compare_36 (by decide) ?_ ?_
      · refine v_sub [0] rfl ?_
        exact v11_compare_b50 N t10
      · refine v_aload_n d11_compare_39 0 rfl rfl ?_
        refine v_getR d11_compare_40 faX11_26 ic_11 rfl ?_
        refine v_iload_n d11_compare_43 2 rfl rfl ?_
        refine v_callV1i d11_compare_44 (mc0_hasWorth 22 ic_22 p1 t10) yv0_hasWorth mlX11_294 (Recv.obj ic_22 rfl) (by decide) (Nat.le_of_ble_eq_true rfl) fun r11 t12 => ?_
        refine v_if_ne (tgt := 57) d11_compare_47 (by decide) ?_ ?_
        · refine v_aload_n d11_compare_57 0 rfl rfl ?_
          refine v_aload_n d11_compare_58 0 rfl rfl ?_
          refine v_getR d11_compare_59 faX11_26 ic_11 rfl ?_
          refine v_iload_n d11_compare_62 1 rfl rfl ?_
          refine v_callV1l d11_compare_63 (mc0_branchWorth N 22 ic_22 p0 t12) yv0_branchWorth mlX11_314 (Recv.obj ic_22 rfl) (by decide) (Nat.le_of_ble_eq_true rfl) fun r13 t14 => ?_
          refine v_aload_n d11_compare_66 0 rfl rfl ?_
          refine v_getR d11_compare_67 faX11_26 ic_11 rfl ?_
          refine v_iload_n d11_compare_70 2 rfl rfl ?_
          refine v_callV1l d11_compare_71 (mc0_branchWorth N 22 ic_22 p1 t14) yv0_branchWorth mlX11_314 (Recv.obj ic_22 rfl) (by decide) (Nat.le_of_ble_eq_true rfl) fun r15 t16 => ?_
          refine v_callS2i d11_compare_74 (mcJ13_compare_74951 r13 r15 t16) ysJ13_compare_74951 mlX11_320 (by decide) (Nat.le_of_ble_eq_true rfl) fun r17 t18 => ?_
          refine v_iconst d11_compare_77 ki_1 ?_
          refine v_iadd d11_compare_78 ?_
          refine v_callV1i d11_compare_79 (mc11_told (r17 + (1 : Int32)) t18) yv11_told mlX11_186 (Recv.obj ic_11 rfl) (by decide) (Nat.le_of_ble_eq_true rfl) fun r19 t20 => ?_
          exact v_iret d11_compare_82 rfl rfl rfl
        · refine v_sub [0] rfl ?_
          exact v11_compare_b50 N t12
    · refine v_sub [0] rfl ?_
      exact v11_compare_b22 N t8
theorem d11_outcome_0 : decode cX11_outcome 0 = .ok (.aload_n 0, 1) := by decide +kernel
theorem d11_outcome_1 : decode cX11_outcome 1 = .ok (.getfield 26, 3) := by decide +kernel
theorem d11_outcome_4 : decode cX11_outcome 4 = .ok (.iconst 0, 1) := by decide +kernel
theorem d11_outcome_5 : decode cX11_outcome 5 = .ok (.invokestatic 326, 3) := by decide +kernel
theorem d11_outcome_8 : decode cX11_outcome 8 = .ok (.istore_n 1, 1) := by decide +kernel
theorem d11_outcome_9 : decode cX11_outcome 9 = .ok (.aload_n 0, 1) := by decide +kernel
theorem d11_outcome_10 : decode cX11_outcome 10 = .ok (.getfield 26, 3) := by decide +kernel
theorem d11_outcome_13 : decode cX11_outcome 13 = .ok (.iconst 1, 1) := by decide +kernel
theorem d11_outcome_14 : decode cX11_outcome 14 = .ok (.invokestatic 326, 3) := by decide +kernel
theorem d11_outcome_17 : decode cX11_outcome 17 = .ok (.istore_n 2, 1) := by decide +kernel
theorem d11_outcome_18 : decode cX11_outcome 18 = .ok (.iload_n 1, 1) := by decide +kernel
theorem d11_outcome_19 : decode cX11_outcome 19 = .ok (.ifCond .eq 17, 3) := by decide +kernel
theorem d11_outcome_22 : decode cX11_outcome 22 = .ok (.aload_n 0, 1) := by decide +kernel
theorem d11_outcome_23 : decode cX11_outcome 23 = .ok (.iload_n 2, 1) := by decide +kernel
theorem d11_outcome_24 : decode cX11_outcome 24 = .ok (.ifCond .eq 7, 3) := by decide +kernel
theorem d11_outcome_27 : decode cX11_outcome 27 = .ok (.iconst 2, 1) := by decide +kernel
theorem d11_outcome_28 : decode cX11_outcome 28 = .ok (.goto 4, 3) := by decide +kernel
theorem d11_outcome_31 : decode cX11_outcome 31 = .ok (.iconst 0, 1) := by decide +kernel
theorem d11_outcome_32 : decode cX11_outcome 32 = .ok (.invokevirtual 186, 3) := by decide +kernel
theorem d11_outcome_35 : decode cX11_outcome 35 = .ok (.ireturn, 1) := by decide +kernel
theorem d11_outcome_36 : decode cX11_outcome 36 = .ok (.aload_n 0, 1) := by decide +kernel
theorem d11_outcome_37 : decode cX11_outcome 37 = .ok (.iload_n 2, 1) := by decide +kernel
theorem d11_outcome_38 : decode cX11_outcome 38 = .ok (.ifCond .eq 7, 3) := by decide +kernel
theorem d11_outcome_41 : decode cX11_outcome 41 = .ok (.iconst 1, 1) := by decide +kernel
theorem d11_outcome_42 : decode cX11_outcome 42 = .ok (.goto 4, 3) := by decide +kernel
theorem d11_outcome_45 : decode cX11_outcome 45 = .ok (.iconst 3, 1) := by decide +kernel
theorem d11_outcome_46 : decode cX11_outcome 46 = .ok (.invokevirtual 186, 3) := by decide +kernel
theorem d11_outcome_49 : decode cX11_outcome 49 = .ok (.ireturn, 1) := by decide +kernel
abbrev K11_outcome : CK Int32 := (enI, (some .int), 3, 5, none)
noncomputable def F11_outcome (N : Nat) (σ : Ms) : Option (Int32 × Ms) :=
  bn (F4_winsBeginning N 22 (0 : Int32) σ) (fun r1 t2 => bn (F4_winsBeginning N 22 (1 : Int32) t2) (fun r3 t4 => if r1 = 0 then (if r3 = 0 then (bn (F11_told (3 : Int32) t4) (fun r5 t6 => some (r5, t6)))
  else (bn (F11_told (1 : Int32) t4) (fun r7 t8 => some (r7, t8))))
  else (if r3 = 0 then (bn (F11_told (0 : Int32) t4) (fun r9 t10 => some (r9, t10)))
  else (bn (F11_told (2 : Int32) t4) (fun r11 t12 => some (r11, t12))))))
set_option maxRecDepth 100000 in
theorem mc11_outcome (N : Nat) (σ : Ms) : MC enI yX11_outcome cX11_outcome 3 (some .int) 5 (F11_outcome N σ) σ [.ref 11] := by
  refine MC.i (by decide +kernel) (Nat.le_of_ble_eq_true rfl) ?_
  show VF (K11_outcome) cX11_outcome RX11 (F11_outcome N σ) σ 0 [(0, .ref 11)] []
  unfold F11_outcome
  refine v_aload_n d11_outcome_0 0 rfl rfl ?_
  refine v_getR d11_outcome_1 faX11_26 ic_11 rfl ?_
  refine v_iconst d11_outcome_4 ki_0 ?_
  refine v_callS2i d11_outcome_5 (mc4_winsBeginning N 22 ic_22 (0 : Int32) σ) ys4_winsBeginning mlX11_326 (by decide) (Nat.le_of_ble_eq_true rfl) fun r1 t2 => ?_
  refine v_istore_n (lv' := [(1, .int r1), (0, .ref 11)]) d11_outcome_8 rfl (by decide) rfl ?_
  refine v_aload_n d11_outcome_9 1 rfl rfl ?_
  refine v_getR d11_outcome_10 faX11_26 ic_11 rfl ?_
  refine v_iconst d11_outcome_13 ki_1 ?_
  refine v_callS2i d11_outcome_14 (mc4_winsBeginning N 22 ic_22 (1 : Int32) t2) ys4_winsBeginning mlX11_326 (by decide) (Nat.le_of_ble_eq_true rfl) fun r3 t4 => ?_
  refine v_istore_n (lv' := [(2, .int r3), (1, .int r1), (0, .ref 11)]) d11_outcome_17 rfl (by decide) rfl ?_
  refine v_iload_n d11_outcome_18 1 rfl rfl ?_
  refine v_if_eq (tgt := 36) d11_outcome_19 (by decide) ?_ ?_
  · refine v_aload_n d11_outcome_36 2 rfl rfl ?_
    refine v_iload_n d11_outcome_37 0 rfl rfl ?_
    refine v_if_eq (tgt := 45) d11_outcome_38 (by decide) ?_ ?_
    · refine v_iconst d11_outcome_45 ki_3 ?_
      refine v_callV1i d11_outcome_46 (mc11_told (3 : Int32) t4) yv11_told mlX11_186 (Recv.obj ic_11 rfl) (by decide) (Nat.le_of_ble_eq_true rfl) fun r5 t6 => ?_
      exact v_iret d11_outcome_49 rfl rfl rfl
    · refine v_iconst d11_outcome_41 ki_1 ?_
      refine v_goto (tgt := 46) d11_outcome_42 (by decide) ?_
      refine v_callV1i d11_outcome_46 (mc11_told (1 : Int32) t4) yv11_told mlX11_186 (Recv.obj ic_11 rfl) (by decide) (Nat.le_of_ble_eq_true rfl) fun r7 t8 => ?_
      exact v_iret d11_outcome_49 rfl rfl rfl
  · refine v_aload_n d11_outcome_22 2 rfl rfl ?_
    refine v_iload_n d11_outcome_23 0 rfl rfl ?_
    refine v_if_eq (tgt := 31) d11_outcome_24 (by decide) ?_ ?_
    · refine v_iconst d11_outcome_31 ki_0 ?_
      refine v_callV1i d11_outcome_32 (mc11_told (0 : Int32) t4) yv11_told mlX11_186 (Recv.obj ic_11 rfl) (by decide) (Nat.le_of_ble_eq_true rfl) fun r9 t10 => ?_
      exact v_iret d11_outcome_35 rfl rfl rfl
    · refine v_iconst d11_outcome_27 ki_2 ?_
      refine v_goto (tgt := 32) d11_outcome_28 (by decide) ?_
      refine v_callV1i d11_outcome_32 (mc11_told (2 : Int32) t4) yv11_told mlX11_186 (Recv.obj ic_11 rfl) (by decide) (Nat.le_of_ble_eq_true rfl) fun r11 t12 => ?_
      exact v_iret d11_outcome_35 rfl rfl rfl
theorem d11_winner_0 : decode cX11_winner 0 = .ok (.iload_n 1, 1) := by decide +kernel
theorem d11_winner_1 : decode cX11_winner 1 = .ok (.invokestatic 251, 3) := by decide +kernel
theorem d11_winner_4 : decode cX11_winner 4 = .ok (.ifCond .ne 9, 3) := by decide +kernel
theorem d11_winner_7 : decode cX11_winner 7 = .ok (.aload_n 0, 1) := by decide +kernel
theorem d11_winner_8 : decode cX11_winner 8 = .ok (.iconst 2, 1) := by decide +kernel
theorem d11_winner_9 : decode cX11_winner 9 = .ok (.invokevirtual 132, 3) := by decide +kernel
theorem d11_winner_12 : decode cX11_winner 12 = .ok (.ireturn, 1) := by decide +kernel
theorem d11_winner_13 : decode cX11_winner 13 = .ok (.aload_n 0, 1) := by decide +kernel
theorem d11_winner_14 : decode cX11_winner 14 = .ok (.aload_n 0, 1) := by decide +kernel
theorem d11_winner_15 : decode cX11_winner 15 = .ok (.getfield 26, 3) := by decide +kernel
theorem d11_winner_18 : decode cX11_winner 18 = .ok (.iload_n 1, 1) := by decide +kernel
theorem d11_winner_19 : decode cX11_winner 19 = .ok (.invokestatic 326, 3) := by decide +kernel
theorem d11_winner_22 : decode cX11_winner 22 = .ok (.ifCond .eq 7, 3) := by decide +kernel
theorem d11_winner_25 : decode cX11_winner 25 = .ok (.iload_n 1, 1) := by decide +kernel
theorem d11_winner_26 : decode cX11_winner 26 = .ok (.goto 7, 3) := by decide +kernel
theorem d11_winner_29 : decode cX11_winner 29 = .ok (.iload_n 1, 1) := by decide +kernel
theorem d11_winner_30 : decode cX11_winner 30 = .ok (.invokestatic 330, 3) := by decide +kernel
theorem d11_winner_33 : decode cX11_winner 33 = .ok (.invokevirtual 186, 3) := by decide +kernel
theorem d11_winner_36 : decode cX11_winner 36 = .ok (.ireturn, 1) := by decide +kernel
abbrev K11_winner : CK Int32 := (enI, (some .int), 2, 5, none)
noncomputable def F11_winner (N : Nat) (p0 : Int32) (σ : Ms) : Option (Int32 × Ms) :=
  bn (F11_isSide p0 σ) (fun r1 t2 => if r1 ≠ 0 then (bn (F4_winsBeginning N 22 p0 t2) (fun r3 t4 => if r3 = 0 then (bn (F11_other p0 t4) (fun r5 t6 => bn (F11_told r5 t6) (fun r7 t8 => some (r7, t8))))
  else (bn (F11_told p0 t4) (fun r9 t10 => some (r9, t10)))))
  else (bn (F11_none (2 : Int32) t2) (fun r11 t12 => some (r11, t12))))
set_option maxRecDepth 100000 in
theorem mc11_winner (N : Nat) (p0 : Int32) (σ : Ms) : MC enI yX11_winner cX11_winner 2 (some .int) 5 (F11_winner N p0 σ) σ [.ref 11, .int p0] := by
  refine MC.i (by decide +kernel) (Nat.le_of_ble_eq_true rfl) ?_
  show VF (K11_winner) cX11_winner RX11 (F11_winner N p0 σ) σ 0 [(0, .ref 11), (1, .int p0)] []
  unfold F11_winner
  refine v_iload_n d11_winner_0 1 rfl rfl ?_
  refine v_callS1i d11_winner_1 (mc11_isSide p0 σ) ys11_isSide mlX11_251 (by decide) (Nat.le_of_ble_eq_true rfl) fun r1 t2 => ?_
  refine v_if_ne (tgt := 13) d11_winner_4 (by decide) ?_ ?_
  · refine v_aload_n d11_winner_13 0 rfl rfl ?_
    refine v_aload_n d11_winner_14 0 rfl rfl ?_
    refine v_getR d11_winner_15 faX11_26 ic_11 rfl ?_
    refine v_iload_n d11_winner_18 1 rfl rfl ?_
    refine v_callS2i d11_winner_19 (mc4_winsBeginning N 22 ic_22 p0 t2) ys4_winsBeginning mlX11_326 (by decide) (Nat.le_of_ble_eq_true rfl) fun r3 t4 => ?_
    refine v_if_eq (tgt := 29) d11_winner_22 (by decide) ?_ ?_
    · refine v_iload_n d11_winner_29 1 rfl rfl ?_
      refine v_callS1i d11_winner_30 (mc11_other p0 t4) ys11_other mlX11_330 (by decide) (Nat.le_of_ble_eq_true rfl) fun r5 t6 => ?_
      refine v_callV1i d11_winner_33 (mc11_told r5 t6) yv11_told mlX11_186 (Recv.obj ic_11 rfl) (by decide) (Nat.le_of_ble_eq_true rfl) fun r7 t8 => ?_
      exact v_iret d11_winner_36 rfl rfl rfl
    · refine v_iload_n d11_winner_25 1 rfl rfl ?_
      refine v_goto (tgt := 33) d11_winner_26 (by decide) ?_
      refine v_callV1i d11_winner_33 (mc11_told p0 t4) yv11_told mlX11_186 (Recv.obj ic_11 rfl) (by decide) (Nat.le_of_ble_eq_true rfl) fun r9 t10 => ?_
      exact v_iret d11_winner_36 rfl rfl rfl
  · refine v_aload_n d11_winner_7 0 rfl rfl ?_
    refine v_iconst d11_winner_8 ki_2 ?_
    refine v_callV1i d11_winner_9 (mc11_none (2 : Int32) t2) yv11_none mlX11_132 (Recv.obj ic_11 rfl) (by decide) (Nat.le_of_ble_eq_true rfl) fun r11 t12 => ?_
    exact v_iret d11_winner_12 rfl rfl rfl
theorem d11_moves_0 : decode cX11_moves 0 = .ok (.iload_n 1, 1) := by decide +kernel
theorem d11_moves_1 : decode cX11_moves 1 = .ok (.invokestatic 251, 3) := by decide +kernel
theorem d11_moves_4 : decode cX11_moves 4 = .ok (.ifCond .ne 9, 3) := by decide +kernel
theorem d11_moves_7 : decode cX11_moves 7 = .ok (.aload_n 0, 1) := by decide +kernel
theorem d11_moves_8 : decode cX11_moves 8 = .ok (.iconst 2, 1) := by decide +kernel
theorem d11_moves_9 : decode cX11_moves 9 = .ok (.invokevirtual 132, 3) := by decide +kernel
theorem d11_moves_12 : decode cX11_moves 12 = .ok (.ireturn, 1) := by decide +kernel
theorem d11_moves_13 : decode cX11_moves 13 = .ok (.aload_n 0, 1) := by decide +kernel
theorem d11_moves_14 : decode cX11_moves 14 = .ok (.getfield 54, 3) := by decide +kernel
theorem d11_moves_17 : decode cX11_moves 17 = .ok (.aload_n 0, 1) := by decide +kernel
theorem d11_moves_18 : decode cX11_moves 18 = .ok (.getfield 26, 3) := by decide +kernel
theorem d11_moves_21 : decode cX11_moves 21 = .ok (.iload_n 1, 1) := by decide +kernel
theorem d11_moves_22 : decode cX11_moves 22 = .ok (.invokevirtual 333, 3) := by decide +kernel
theorem d11_moves_25 : decode cX11_moves 25 = .ok (.aload_n 0, 1) := by decide +kernel
theorem d11_moves_26 : decode cX11_moves 26 = .ok (.aload_n 0, 1) := by decide +kernel
theorem d11_moves_27 : decode cX11_moves 27 = .ok (.getfield 54, 3) := by decide +kernel
theorem d11_moves_30 : decode cX11_moves 30 = .ok (.getfield 337, 3) := by decide +kernel
theorem d11_moves_33 : decode cX11_moves 33 = .ok (.invokevirtual 186, 3) := by decide +kernel
theorem d11_moves_36 : decode cX11_moves 36 = .ok (.ireturn, 1) := by decide +kernel
abbrev K11_moves : CK Int32 := (enI, (some .int), 2, 7, none)
noncomputable def F11_moves (N : Nat) (p0 : Int32) (σ : Ms) : Option (Int32 × Ms) :=
  bn (F11_isSide p0 σ) (fun r1 t2 => if r1 ≠ 0 then (bn (F4_look N 22 p0 t2) (fun r3 t4 => bn (F11_told (t4.1 99 0) t4) (fun r5 t6 => some (r5, t6))))
  else (bn (F11_none (2 : Int32) t2) (fun r7 t8 => some (r7, t8))))
set_option maxRecDepth 100000 in
theorem mc11_moves (N : Nat) (p0 : Int32) (σ : Ms) : MC enI yX11_moves cX11_moves 2 (some .int) 7 (F11_moves N p0 σ) σ [.ref 11, .int p0] := by
  refine MC.i (by decide +kernel) (Nat.le_of_ble_eq_true rfl) ?_
  show VF (K11_moves) cX11_moves RX11 (F11_moves N p0 σ) σ 0 [(0, .ref 11), (1, .int p0)] []
  unfold F11_moves
  refine v_iload_n d11_moves_0 1 rfl rfl ?_
  refine v_callS1i d11_moves_1 (mc11_isSide p0 σ) ys11_isSide mlX11_251 (by decide) (Nat.le_of_ble_eq_true rfl) fun r1 t2 => ?_
  refine v_if_ne (tgt := 13) d11_moves_4 (by decide) ?_ ?_
  · refine v_aload_n d11_moves_13 0 rfl rfl ?_
    refine v_getR d11_moves_14 faX11_54 ic_11 rfl ?_
    refine v_aload_n d11_moves_17 0 rfl rfl ?_
    refine v_getR d11_moves_18 faX11_26 ic_11 rfl ?_
    refine v_iload_n d11_moves_21 1 rfl rfl ?_
    refine v_callV2v d11_moves_22 (mc4_look N 22 ic_22 p0 t2) yv4_look mlX11_333 (Recv.obj ic_99 rfl) (by decide) (Nat.le_of_ble_eq_true rfl) fun r3 t4 => ?_
    refine v_aload_n d11_moves_25 0 rfl rfl ?_
    refine v_aload_n d11_moves_26 0 rfl rfl ?_
    refine v_getR d11_moves_27 faX11_54 ic_11 rfl ?_
    refine v_getI d11_moves_30 faX11_337 ic_99 ?_
    refine v_callV1i d11_moves_33 (mc11_told (t4.1 99 0) t4) yv11_told mlX11_186 (Recv.obj ic_11 rfl) (by decide) (Nat.le_of_ble_eq_true rfl) fun r5 t6 => ?_
    exact v_iret d11_moves_36 rfl rfl rfl
  · refine v_aload_n d11_moves_7 0 rfl rfl ?_
    refine v_iconst d11_moves_8 ki_2 ?_
    refine v_callV1i d11_moves_9 (mc11_none (2 : Int32) t2) yv11_none mlX11_132 (Recv.obj ic_11 rfl) (by decide) (Nat.le_of_ble_eq_true rfl) fun r7 t8 => ?_
    exact v_iret d11_moves_12 rfl rfl rfl
theorem d11_wins_0 : decode cX11_wins 0 = .ok (.iload_n 1, 1) := by decide +kernel
theorem d11_wins_1 : decode cX11_wins 1 = .ok (.invokestatic 251, 3) := by decide +kernel
theorem d11_wins_4 : decode cX11_wins 4 = .ok (.ifCond .ne 9, 3) := by decide +kernel
theorem d11_wins_7 : decode cX11_wins 7 = .ok (.aload_n 0, 1) := by decide +kernel
theorem d11_wins_8 : decode cX11_wins 8 = .ok (.iconst 2, 1) := by decide +kernel
theorem d11_wins_9 : decode cX11_wins 9 = .ok (.invokevirtual 132, 3) := by decide +kernel
theorem d11_wins_12 : decode cX11_wins 12 = .ok (.ireturn, 1) := by decide +kernel
theorem d11_wins_13 : decode cX11_wins 13 = .ok (.aload_n 0, 1) := by decide +kernel
theorem d11_wins_14 : decode cX11_wins 14 = .ok (.getfield 54, 3) := by decide +kernel
theorem d11_wins_17 : decode cX11_wins 17 = .ok (.aload_n 0, 1) := by decide +kernel
theorem d11_wins_18 : decode cX11_wins 18 = .ok (.getfield 26, 3) := by decide +kernel
theorem d11_wins_21 : decode cX11_wins 21 = .ok (.iload_n 1, 1) := by decide +kernel
theorem d11_wins_22 : decode cX11_wins 22 = .ok (.invokevirtual 333, 3) := by decide +kernel
theorem d11_wins_25 : decode cX11_wins 25 = .ok (.aload_n 0, 1) := by decide +kernel
theorem d11_wins_26 : decode cX11_wins 26 = .ok (.aload_n 0, 1) := by decide +kernel
theorem d11_wins_27 : decode cX11_wins 27 = .ok (.getfield 54, 3) := by decide +kernel
theorem d11_wins_30 : decode cX11_wins 30 = .ok (.getfield 340, 3) := by decide +kernel
theorem d11_wins_33 : decode cX11_wins 33 = .ok (.invokevirtual 186, 3) := by decide +kernel
theorem d11_wins_36 : decode cX11_wins 36 = .ok (.ireturn, 1) := by decide +kernel
abbrev K11_wins : CK Int32 := (enI, (some .int), 2, 7, none)
noncomputable def F11_wins (N : Nat) (p0 : Int32) (σ : Ms) : Option (Int32 × Ms) :=
  bn (F11_isSide p0 σ) (fun r1 t2 => if r1 ≠ 0 then (bn (F4_look N 22 p0 t2) (fun r3 t4 => bn (F11_told (t4.1 99 1) t4) (fun r5 t6 => some (r5, t6))))
  else (bn (F11_none (2 : Int32) t2) (fun r7 t8 => some (r7, t8))))
set_option maxRecDepth 100000 in
theorem mc11_wins (N : Nat) (p0 : Int32) (σ : Ms) : MC enI yX11_wins cX11_wins 2 (some .int) 7 (F11_wins N p0 σ) σ [.ref 11, .int p0] := by
  refine MC.i (by decide +kernel) (Nat.le_of_ble_eq_true rfl) ?_
  show VF (K11_wins) cX11_wins RX11 (F11_wins N p0 σ) σ 0 [(0, .ref 11), (1, .int p0)] []
  unfold F11_wins
  refine v_iload_n d11_wins_0 1 rfl rfl ?_
  refine v_callS1i d11_wins_1 (mc11_isSide p0 σ) ys11_isSide mlX11_251 (by decide) (Nat.le_of_ble_eq_true rfl) fun r1 t2 => ?_
  refine v_if_ne (tgt := 13) d11_wins_4 (by decide) ?_ ?_
  · refine v_aload_n d11_wins_13 0 rfl rfl ?_
    refine v_getR d11_wins_14 faX11_54 ic_11 rfl ?_
    refine v_aload_n d11_wins_17 0 rfl rfl ?_
    refine v_getR d11_wins_18 faX11_26 ic_11 rfl ?_
    refine v_iload_n d11_wins_21 1 rfl rfl ?_
    refine v_callV2v d11_wins_22 (mc4_look N 22 ic_22 p0 t2) yv4_look mlX11_333 (Recv.obj ic_99 rfl) (by decide) (Nat.le_of_ble_eq_true rfl) fun r3 t4 => ?_
    refine v_aload_n d11_wins_25 0 rfl rfl ?_
    refine v_aload_n d11_wins_26 0 rfl rfl ?_
    refine v_getR d11_wins_27 faX11_54 ic_11 rfl ?_
    refine v_getI d11_wins_30 faX11_340 ic_99 ?_
    refine v_callV1i d11_wins_33 (mc11_told (t4.1 99 1) t4) yv11_told mlX11_186 (Recv.obj ic_11 rfl) (by decide) (Nat.le_of_ble_eq_true rfl) fun r5 t6 => ?_
    exact v_iret d11_wins_36 rfl rfl rfl
  · refine v_aload_n d11_wins_7 0 rfl rfl ?_
    refine v_iconst d11_wins_8 ki_2 ?_
    refine v_callV1i d11_wins_9 (mc11_none (2 : Int32) t2) yv11_none mlX11_132 (Recv.obj ic_11 rfl) (by decide) (Nat.le_of_ble_eq_true rfl) fun r7 t8 => ?_
    exact v_iret d11_wins_12 rfl rfl rfl
theorem d11_bestOf_0 : decode cX11_bestOf 0 = .ok (.iload_n 1, 1) := by decide +kernel
theorem d11_bestOf_1 : decode cX11_bestOf 1 = .ok (.invokestatic 251, 3) := by decide +kernel
theorem d11_bestOf_4 : decode cX11_bestOf 4 = .ok (.ifCond .ne 9, 3) := by decide +kernel
theorem d11_bestOf_7 : decode cX11_bestOf 7 = .ok (.aload_n 0, 1) := by decide +kernel
theorem d11_bestOf_8 : decode cX11_bestOf 8 = .ok (.iconst 2, 1) := by decide +kernel
theorem d11_bestOf_9 : decode cX11_bestOf 9 = .ok (.invokevirtual 132, 3) := by decide +kernel
theorem d11_bestOf_12 : decode cX11_bestOf 12 = .ok (.ireturn, 1) := by decide +kernel
theorem d11_bestOf_13 : decode cX11_bestOf 13 = .ok (.iload_n 2, 1) := by decide +kernel
theorem d11_bestOf_14 : decode cX11_bestOf 14 = .ok (.ifCond .lt 8, 3) := by decide +kernel
theorem d11_bestOf_17 : decode cX11_bestOf 17 = .ok (.iload_n 2, 1) := by decide +kernel
theorem d11_bestOf_18 : decode cX11_bestOf 18 = .ok (.iconst 2, 1) := by decide +kernel
theorem d11_bestOf_19 : decode cX11_bestOf 19 = .ok (.if_icmp .le 9, 3) := by decide +kernel
theorem d11_bestOf_22 : decode cX11_bestOf 22 = .ok (.aload_n 0, 1) := by decide +kernel
theorem d11_bestOf_23 : decode cX11_bestOf 23 = .ok (.iconst 5, 1) := by decide +kernel
theorem d11_bestOf_24 : decode cX11_bestOf 24 = .ok (.invokevirtual 132, 3) := by decide +kernel
theorem d11_bestOf_27 : decode cX11_bestOf 27 = .ok (.ireturn, 1) := by decide +kernel
theorem d11_bestOf_28 : decode cX11_bestOf 28 = .ok (.aload_n 0, 1) := by decide +kernel
theorem d11_bestOf_29 : decode cX11_bestOf 29 = .ok (.getfield 54, 3) := by decide +kernel
theorem d11_bestOf_32 : decode cX11_bestOf 32 = .ok (.aload_n 0, 1) := by decide +kernel
theorem d11_bestOf_33 : decode cX11_bestOf 33 = .ok (.getfield 26, 3) := by decide +kernel
theorem d11_bestOf_36 : decode cX11_bestOf 36 = .ok (.iload_n 1, 1) := by decide +kernel
theorem d11_bestOf_37 : decode cX11_bestOf 37 = .ok (.invokevirtual 333, 3) := by decide +kernel
theorem d11_bestOf_40 : decode cX11_bestOf 40 = .ok (.aload_n 0, 1) := by decide +kernel
theorem d11_bestOf_41 : decode cX11_bestOf 41 = .ok (.getfield 54, 3) := by decide +kernel
theorem d11_bestOf_44 : decode cX11_bestOf 44 = .ok (.getfield 340, 3) := by decide +kernel
theorem d11_bestOf_47 : decode cX11_bestOf 47 = .ok (.ifCond .ne 10, 3) := by decide +kernel
theorem d11_bestOf_50 : decode cX11_bestOf 50 = .ok (.aload_n 0, 1) := by decide +kernel
theorem d11_bestOf_51 : decode cX11_bestOf 51 = .ok (.bipush 8, 2) := by decide +kernel
theorem d11_bestOf_53 : decode cX11_bestOf 53 = .ok (.invokevirtual 132, 3) := by decide +kernel
theorem d11_bestOf_56 : decode cX11_bestOf 56 = .ok (.ireturn, 1) := by decide +kernel
theorem d11_bestOf_57 : decode cX11_bestOf 57 = .ok (.iload_n 2, 1) := by decide +kernel
theorem d11_bestOf_58 : decode cX11_bestOf 58 = .ok (.ifCond .ne 15, 3) := by decide +kernel
theorem d11_bestOf_61 : decode cX11_bestOf 61 = .ok (.aload_n 0, 1) := by decide +kernel
theorem d11_bestOf_62 : decode cX11_bestOf 62 = .ok (.aload_n 0, 1) := by decide +kernel
theorem d11_bestOf_63 : decode cX11_bestOf 63 = .ok (.getfield 54, 3) := by decide +kernel
theorem d11_bestOf_66 : decode cX11_bestOf 66 = .ok (.getfield 343, 3) := by decide +kernel
theorem d11_bestOf_69 : decode cX11_bestOf 69 = .ok (.invokevirtual 186, 3) := by decide +kernel
theorem d11_bestOf_72 : decode cX11_bestOf 72 = .ok (.ireturn, 1) := by decide +kernel
theorem d11_bestOf_73 : decode cX11_bestOf 73 = .ok (.aload_n 0, 1) := by decide +kernel
theorem d11_bestOf_74 : decode cX11_bestOf 74 = .ok (.iload_n 2, 1) := by decide +kernel
theorem d11_bestOf_75 : decode cX11_bestOf 75 = .ok (.iconst 1, 1) := by decide +kernel
theorem d11_bestOf_76 : decode cX11_bestOf 76 = .ok (.if_icmp .ne 13, 3) := by decide +kernel
theorem d11_bestOf_79 : decode cX11_bestOf 79 = .ok (.aload_n 0, 1) := by decide +kernel
theorem d11_bestOf_80 : decode cX11_bestOf 80 = .ok (.getfield 54, 3) := by decide +kernel
theorem d11_bestOf_83 : decode cX11_bestOf 83 = .ok (.getfield 346, 3) := by decide +kernel
theorem d11_bestOf_86 : decode cX11_bestOf 86 = .ok (.goto 10, 3) := by decide +kernel
theorem d11_bestOf_89 : decode cX11_bestOf 89 = .ok (.aload_n 0, 1) := by decide +kernel
theorem d11_bestOf_90 : decode cX11_bestOf 90 = .ok (.getfield 54, 3) := by decide +kernel
theorem d11_bestOf_93 : decode cX11_bestOf 93 = .ok (.getfield 349, 3) := by decide +kernel
theorem d11_bestOf_96 : decode cX11_bestOf 96 = .ok (.invokevirtual 186, 3) := by decide +kernel
theorem d11_bestOf_99 : decode cX11_bestOf 99 = .ok (.ireturn, 1) := by decide +kernel
abbrev K11_bestOf : CK Int32 := (enI, (some .int), 3, 7, none)
noncomputable def F11_bestOf_b22 (N : Nat) (σ : Ms) : Option (Int32 × Ms) :=
  bn (F11_none (5 : Int32) σ) (fun r1 t2 => some (r1, t2))
noncomputable def F11_bestOf (N : Nat) (p0 : Int32) (p1 : Int32) (σ : Ms) : Option (Int32 × Ms) :=
  bn (F11_isSide p0 σ) (fun r3 t4 => if r3 ≠ 0 then (if p1 < 0 then (F11_bestOf_b22 N t4)
  else (if p1 ≤ (2 : Int32) then (bn (F4_look N 22 p0 t4) (fun r5 t6 => if (t6.1 99 1) ≠ 0 then (if p1 ≠ 0 then (if p1 ≠ (1 : Int32) then (bn (F11_told (t6.1 99 4) t6) (fun r7 t8 => some (r7, t8)))
  else (bn (F11_told (t6.1 99 3) t6) (fun r9 t10 => some (r9, t10))))
  else (bn (F11_told (t6.1 99 2) t6) (fun r11 t12 => some (r11, t12))))
  else (bn (F11_none (8 : Int32) t6) (fun r13 t14 => some (r13, t14)))))
  else (F11_bestOf_b22 N t4)))
  else (bn (F11_none (2 : Int32) t4) (fun r15 t16 => some (r15, t16))))
set_option maxRecDepth 100000 in
theorem v11_bestOf_b22 (N : Nat) (σ : Ms) : VF (K11_bestOf) cX11_bestOf RX11 (F11_bestOf_b22 N σ) σ 22 [(0, .ref 11)] [] := by
  unfold F11_bestOf_b22
  refine v_aload_n d11_bestOf_22 0 rfl rfl ?_
  refine v_iconst d11_bestOf_23 ki_5 ?_
  refine v_callV1i d11_bestOf_24 (mc11_none (5 : Int32) σ) yv11_none mlX11_132 (Recv.obj ic_11 rfl) (by decide) (Nat.le_of_ble_eq_true rfl) fun r1 t2 => ?_
  exact v_iret d11_bestOf_27 rfl rfl rfl
set_option maxRecDepth 100000 in
theorem mc11_bestOf (N : Nat) (p0 : Int32) (p1 : Int32) (σ : Ms) : MC enI yX11_bestOf cX11_bestOf 3 (some .int) 7 (F11_bestOf N p0 p1 σ) σ [.ref 11, .int p0, .int p1] := by
  refine MC.i (by decide +kernel) (Nat.le_of_ble_eq_true rfl) ?_
  show VF (K11_bestOf) cX11_bestOf RX11 (F11_bestOf N p0 p1 σ) σ 0 [(0, .ref 11), (1, .int p0), (2, .int p1)] []
  unfold F11_bestOf
  refine v_iload_n d11_bestOf_0 1 rfl rfl ?_
  refine v_callS1i d11_bestOf_1 (mc11_isSide p0 σ) ys11_isSide mlX11_251 (by decide) (Nat.le_of_ble_eq_true rfl) fun r3 t4 => ?_
  refine v_if_ne (tgt := 13) d11_bestOf_4 (by decide) ?_ ?_
  · refine v_iload_n d11_bestOf_13 2 rfl rfl ?_
    refine v_if_lt (tgt := 22) d11_bestOf_14 (by decide) ?_ ?_
    · refine v_sub [0] rfl ?_
      exact v11_bestOf_b22 N t4
    · refine v_iload_n d11_bestOf_17 2 rfl rfl ?_
      refine v_iconst d11_bestOf_18 ki_2 ?_
      refine v_icmp_le (tgt := 28) d11_bestOf_19 (by decide) ?_ ?_
      · refine v_aload_n d11_bestOf_28 0 rfl rfl ?_
        refine v_getR d11_bestOf_29 faX11_54 ic_11 rfl ?_
        refine v_aload_n d11_bestOf_32 0 rfl rfl ?_
        refine v_getR d11_bestOf_33 faX11_26 ic_11 rfl ?_
        refine v_iload_n d11_bestOf_36 1 rfl rfl ?_
        refine v_callV2v d11_bestOf_37 (mc4_look N 22 ic_22 p0 t4) yv4_look mlX11_333 (Recv.obj ic_99 rfl) (by decide) (Nat.le_of_ble_eq_true rfl) fun r5 t6 => ?_
        refine v_aload_n d11_bestOf_40 0 rfl rfl ?_
        refine v_getR d11_bestOf_41 faX11_54 ic_11 rfl ?_
        refine v_getI d11_bestOf_44 faX11_340 ic_99 ?_
        refine v_if_ne (tgt := 57) d11_bestOf_47 (by decide) ?_ ?_
        · refine v_iload_n d11_bestOf_57 2 rfl rfl ?_
          refine v_if_ne (tgt := 73) d11_bestOf_58 (by decide) ?_ ?_
          · refine v_aload_n d11_bestOf_73 0 rfl rfl ?_
            refine v_iload_n d11_bestOf_74 2 rfl rfl ?_
            refine v_iconst d11_bestOf_75 ki_1 ?_
            refine v_icmp_ne (tgt := 89) d11_bestOf_76 (by decide) ?_ ?_
            · refine v_aload_n d11_bestOf_89 0 rfl rfl ?_
              refine v_getR d11_bestOf_90 faX11_54 ic_11 rfl ?_
              refine v_getI d11_bestOf_93 faX11_349 ic_99 ?_
              refine v_callV1i d11_bestOf_96 (mc11_told (t6.1 99 4) t6) yv11_told mlX11_186 (Recv.obj ic_11 rfl) (by decide) (Nat.le_of_ble_eq_true rfl) fun r7 t8 => ?_
              exact v_iret d11_bestOf_99 rfl rfl rfl
            · refine v_aload_n d11_bestOf_79 0 rfl rfl ?_
              refine v_getR d11_bestOf_80 faX11_54 ic_11 rfl ?_
              refine v_getI d11_bestOf_83 faX11_346 ic_99 ?_
              refine v_goto (tgt := 96) d11_bestOf_86 (by decide) ?_
              refine v_callV1i d11_bestOf_96 (mc11_told (t6.1 99 3) t6) yv11_told mlX11_186 (Recv.obj ic_11 rfl) (by decide) (Nat.le_of_ble_eq_true rfl) fun r9 t10 => ?_
              exact v_iret d11_bestOf_99 rfl rfl rfl
          · refine v_aload_n d11_bestOf_61 0 rfl rfl ?_
            refine v_aload_n d11_bestOf_62 0 rfl rfl ?_
            refine v_getR d11_bestOf_63 faX11_54 ic_11 rfl ?_
            refine v_getI d11_bestOf_66 faX11_343 ic_99 ?_
            refine v_callV1i d11_bestOf_69 (mc11_told (t6.1 99 2) t6) yv11_told mlX11_186 (Recv.obj ic_11 rfl) (by decide) (Nat.le_of_ble_eq_true rfl) fun r11 t12 => ?_
            exact v_iret d11_bestOf_72 rfl rfl rfl
        · refine v_aload_n d11_bestOf_50 0 rfl rfl ?_
          refine v_bipush d11_bestOf_51 kb_8 ?_
          refine v_callV1i d11_bestOf_53 (mc11_none (8 : Int32) t6) yv11_none mlX11_132 (Recv.obj ic_11 rfl) (by decide) (Nat.le_of_ble_eq_true rfl) fun r13 t14 => ?_
          exact v_iret d11_bestOf_56 rfl rfl rfl
      · refine v_sub [0] rfl ?_
        exact v11_bestOf_b22 N t4
  · refine v_aload_n d11_bestOf_7 0 rfl rfl ?_
    refine v_iconst d11_bestOf_8 ki_2 ?_
    refine v_callV1i d11_bestOf_9 (mc11_none (2 : Int32) t4) yv11_none mlX11_132 (Recv.obj ic_11 rfl) (by decide) (Nat.le_of_ble_eq_true rfl) fun r15 t16 => ?_
    exact v_iret d11_bestOf_12 rfl rfl rfl
theorem d11_stop_0 : decode cX11_stop 0 = .ok (.iload_n 1, 1) := by decide +kernel
theorem d11_stop_1 : decode cX11_stop 1 = .ok (.invokestatic 251, 3) := by decide +kernel
theorem d11_stop_4 : decode cX11_stop 4 = .ok (.ifCond .ne 9, 3) := by decide +kernel
theorem d11_stop_7 : decode cX11_stop 7 = .ok (.aload_n 0, 1) := by decide +kernel
theorem d11_stop_8 : decode cX11_stop 8 = .ok (.iconst 2, 1) := by decide +kernel
theorem d11_stop_9 : decode cX11_stop 9 = .ok (.invokevirtual 113, 3) := by decide +kernel
theorem d11_stop_12 : decode cX11_stop 12 = .ok (.ireturn, 1) := by decide +kernel
theorem d11_stop_13 : decode cX11_stop 13 = .ok (.aload_n 0, 1) := by decide +kernel
theorem d11_stop_14 : decode cX11_stop 14 = .ok (.aload_n 0, 1) := by decide +kernel
theorem d11_stop_15 : decode cX11_stop 15 = .ok (.getfield 26, 3) := by decide +kernel
theorem d11_stop_18 : decode cX11_stop 18 = .ok (.aload_n 0, 1) := by decide +kernel
theorem d11_stop_19 : decode cX11_stop 19 = .ok (.getfield 26, 3) := by decide +kernel
theorem d11_stop_22 : decode cX11_stop 22 = .ok (.aload_n 0, 1) := by decide +kernel
theorem d11_stop_23 : decode cX11_stop 23 = .ok (.getfield 26, 3) := by decide +kernel
theorem d11_stop_26 : decode cX11_stop 26 = .ok (.getfield 206, 3) := by decide +kernel
theorem d11_stop_29 : decode cX11_stop 29 = .ok (.invokevirtual 306, 3) := by decide +kernel
theorem d11_stop_32 : decode cX11_stop 32 = .ok (.aload_n 0, 1) := by decide +kernel
theorem d11_stop_33 : decode cX11_stop 33 = .ok (.getfield 26, 3) := by decide +kernel
theorem d11_stop_36 : decode cX11_stop 36 = .ok (.getfield 209, 3) := by decide +kernel
theorem d11_stop_39 : decode cX11_stop 39 = .ok (.iload_n 1, 1) := by decide +kernel
theorem d11_stop_40 : decode cX11_stop 40 = .ok (.invokestatic 352, 3) := by decide +kernel
theorem d11_stop_43 : decode cX11_stop 43 = .ok (.invokevirtual 310, 3) := by decide +kernel
theorem d11_stop_46 : decode cX11_stop 46 = .ok (.ireturn, 1) := by decide +kernel
abbrev K11_stop : CK Int32 := (enI, (some .boolean), 2, 4, none)
noncomputable def F11_stop (N : Nat) (p0 : Int32) (σ : Ms) : Option (Int32 × Ms) :=
  bn (F11_isSide p0 σ) (fun r1 t2 => if r1 ≠ 0 then (bn (F0_worthWith N 22 (t2.1 22 6) t2) (fun r3 t4 => bn (F4_settled N 22 r3 (t4.1 22 9) p0 t4) (fun r5 t6 => bn (F11_tellNumber N r5 t6) (fun r7 t8 => ck (nkB r7) (some (r7, t8))))))
  else (bn (F11_no (2 : Int32) t2) (fun r9 t10 => ck (nkB r9) (some (r9, t10)))))
set_option maxRecDepth 100000 in
theorem mc11_stop (N : Nat) (p0 : Int32) (σ : Ms) : MC enI yX11_stop cX11_stop 2 (some .boolean) 4 (F11_stop N p0 σ) σ [.ref 11, .int p0] := by
  refine MC.i (by decide +kernel) (Nat.le_of_ble_eq_true rfl) ?_
  show VF (K11_stop) cX11_stop RX11 (F11_stop N p0 σ) σ 0 [(0, .ref 11), (1, .int p0)] []
  unfold F11_stop
  refine v_iload_n d11_stop_0 1 rfl rfl ?_
  refine v_callS1i d11_stop_1 (mc11_isSide p0 σ) ys11_isSide mlX11_251 (by decide) (Nat.le_of_ble_eq_true rfl) fun r1 t2 => ?_
  refine v_if_ne (tgt := 13) d11_stop_4 (by decide) ?_ ?_
  · refine v_aload_n d11_stop_13 0 rfl rfl ?_
    refine v_aload_n d11_stop_14 0 rfl rfl ?_
    refine v_getR d11_stop_15 faX11_26 ic_11 rfl ?_
    refine v_aload_n d11_stop_18 0 rfl rfl ?_
    refine v_getR d11_stop_19 faX11_26 ic_11 rfl ?_
    refine v_aload_n d11_stop_22 0 rfl rfl ?_
    refine v_getR d11_stop_23 faX11_26 ic_11 rfl ?_
    refine v_getI d11_stop_26 faX11_206 ic_22 ?_
    refine v_callV1l d11_stop_29 (mc0_worthWith N 22 ic_22 (t2.1 22 6) t2) yv0_worthWith mlX11_306 (Recv.obj ic_22 rfl) (by decide) (Nat.le_of_ble_eq_true rfl) fun r3 t4 => ?_
    refine v_aload_n d11_stop_32 0 rfl rfl ?_
    refine v_getR d11_stop_33 faX11_26 ic_11 rfl ?_
    refine v_getI d11_stop_36 faX11_209 ic_22 ?_
    refine v_iload_n d11_stop_39 1 rfl rfl ?_
    refine v_callS4l d11_stop_40 (mc4_settled N 22 ic_22 r3 (t4.1 22 9) p0 t4) ys4_settled mlX11_352 (by decide) (Nat.le_of_ble_eq_true rfl) fun r5 t6 => ?_
    refine v_callV1i d11_stop_43 (mc11_tellNumber N r5 t6) yv11_tellNumber mlX11_310 (Recv.obj ic_11 rfl) (by decide) (Nat.le_of_ble_eq_true rfl) fun r7 t8 => ?_
    exact v_iretB d11_stop_46 rfl rfl
  · refine v_aload_n d11_stop_7 0 rfl rfl ?_
    refine v_iconst d11_stop_8 ki_2 ?_
    refine v_callV1i d11_stop_9 (mc11_no (2 : Int32) t2) yv11_no mlX11_113 (Recv.obj ic_11 rfl) (by decide) (Nat.le_of_ble_eq_true rfl) fun r9 t10 => ?_
    exact v_iretB d11_stop_12 rfl rfl
theorem d11_hottest_0 : decode cX11_hottest 0 = .ok (.aload_n 0, 1) := by decide +kernel
theorem d11_hottest_1 : decode cX11_hottest 1 = .ok (.getfield 26, 3) := by decide +kernel
theorem d11_hottest_4 : decode cX11_hottest 4 = .ok (.aload_n 0, 1) := by decide +kernel
theorem d11_hottest_5 : decode cX11_hottest 5 = .ok (.getfield 26, 3) := by decide +kernel
theorem d11_hottest_8 : decode cX11_hottest 8 = .ok (.getfield 209, 3) := by decide +kernel
theorem d11_hottest_11 : decode cX11_hottest 11 = .ok (.invokevirtual 356, 3) := by decide +kernel
theorem d11_hottest_14 : decode cX11_hottest 14 = .ok (.istore_n 1, 1) := by decide +kernel
theorem d11_hottest_15 : decode cX11_hottest 15 = .ok (.iload_n 1, 1) := by decide +kernel
theorem d11_hottest_16 : decode cX11_hottest 16 = .ok (.iconst (-1), 1) := by decide +kernel
theorem d11_hottest_17 : decode cX11_hottest 17 = .ok (.if_icmp .ne 12, 3) := by decide +kernel
theorem d11_hottest_20 : decode cX11_hottest 20 = .ok (.aload_n 0, 1) := by decide +kernel
theorem d11_hottest_21 : decode cX11_hottest 21 = .ok (.bipush 8, 2) := by decide +kernel
theorem d11_hottest_23 : decode cX11_hottest 23 = .ok (.invokevirtual 132, 3) := by decide +kernel
theorem d11_hottest_26 : decode cX11_hottest 26 = .ok (.goto 8, 3) := by decide +kernel
theorem d11_hottest_29 : decode cX11_hottest 29 = .ok (.aload_n 0, 1) := by decide +kernel
theorem d11_hottest_30 : decode cX11_hottest 30 = .ok (.iload_n 1, 1) := by decide +kernel
theorem d11_hottest_31 : decode cX11_hottest 31 = .ok (.invokevirtual 186, 3) := by decide +kernel
theorem d11_hottest_34 : decode cX11_hottest 34 = .ok (.ireturn, 1) := by decide +kernel
abbrev K11_hottest : CK Int32 := (enI, (some .int), 2, 3, none)
noncomputable def F11_hottest (N : Nat) (σ : Ms) : Option (Int32 × Ms) :=
  bn (F0_hottestBut N 22 (σ.1 22 9) σ) (fun r1 t2 => if r1 ≠ (-1 : Int32) then (bn (F11_told r1 t2) (fun r3 t4 => some (r3, t4)))
  else (bn (F11_none (8 : Int32) t2) (fun r5 t6 => some (r5, t6))))
set_option maxRecDepth 100000 in
theorem mc11_hottest (N : Nat) (σ : Ms) : MC enI yX11_hottest cX11_hottest 2 (some .int) 3 (F11_hottest N σ) σ [.ref 11] := by
  refine MC.i (by decide +kernel) (Nat.le_of_ble_eq_true rfl) ?_
  show VF (K11_hottest) cX11_hottest RX11 (F11_hottest N σ) σ 0 [(0, .ref 11)] []
  unfold F11_hottest
  refine v_aload_n d11_hottest_0 0 rfl rfl ?_
  refine v_getR d11_hottest_1 faX11_26 ic_11 rfl ?_
  refine v_aload_n d11_hottest_4 0 rfl rfl ?_
  refine v_getR d11_hottest_5 faX11_26 ic_11 rfl ?_
  refine v_getI d11_hottest_8 faX11_209 ic_22 ?_
  refine v_callV1i d11_hottest_11 (mc0_hottestBut N 22 ic_22 (σ.1 22 9) σ) yv0_hottestBut mlX11_356 (Recv.obj ic_22 rfl) (by decide) (Nat.le_of_ble_eq_true rfl) fun r1 t2 => ?_
  refine v_istore_n (lv' := [(1, .int r1), (0, .ref 11)]) d11_hottest_14 rfl (by decide) rfl ?_
  refine v_iload_n d11_hottest_15 0 rfl rfl ?_
  refine v_iconst d11_hottest_16 ki_m1 ?_
  refine v_icmp_ne (tgt := 29) d11_hottest_17 (by decide) ?_ ?_
  · refine v_aload_n d11_hottest_29 1 rfl rfl ?_
    refine v_iload_n d11_hottest_30 0 rfl rfl ?_
    refine v_callV1i d11_hottest_31 (mc11_told r1 t2) yv11_told mlX11_186 (Recv.obj ic_11 rfl) (by decide) (Nat.le_of_ble_eq_true rfl) fun r3 t4 => ?_
    exact v_iret d11_hottest_34 rfl rfl rfl
  · refine v_aload_n d11_hottest_20 1 rfl rfl ?_
    refine v_bipush d11_hottest_21 kb_8 ?_
    refine v_callV1i d11_hottest_23 (mc11_none (8 : Int32) t2) yv11_none mlX11_132 (Recv.obj ic_11 rfl) (by decide) (Nat.le_of_ble_eq_true rfl) fun r5 t6 => ?_
    refine v_goto (tgt := 34) d11_hottest_26 (by decide) ?_
    exact v_iret d11_hottest_34 rfl rfl rfl
theorem d11_heat_0 : decode cX11_heat 0 = .ok (.aload_n 0, 1) := by decide +kernel
theorem d11_heat_1 : decode cX11_heat 1 = .ok (.getfield 26, 3) := by decide +kernel
theorem d11_heat_4 : decode cX11_heat 4 = .ok (.iload_n 1, 1) := by decide +kernel
theorem d11_heat_5 : decode cX11_heat 5 = .ok (.invokevirtual 248, 3) := by decide +kernel
theorem d11_heat_8 : decode cX11_heat 8 = .ok (.ifCond .ne 9, 3) := by decide +kernel
theorem d11_heat_11 : decode cX11_heat 11 = .ok (.aload_n 0, 1) := by decide +kernel
theorem d11_heat_12 : decode cX11_heat 12 = .ok (.iconst 2, 1) := by decide +kernel
theorem d11_heat_13 : decode cX11_heat 13 = .ok (.invokevirtual 113, 3) := by decide +kernel
theorem d11_heat_16 : decode cX11_heat 16 = .ok (.ireturn, 1) := by decide +kernel
theorem d11_heat_17 : decode cX11_heat 17 = .ok (.iload_n 2, 1) := by decide +kernel
theorem d11_heat_18 : decode cX11_heat 18 = .ok (.ifCond .eq 14, 3) := by decide +kernel
theorem d11_heat_21 : decode cX11_heat 21 = .ok (.iload_n 2, 1) := by decide +kernel
theorem d11_heat_22 : decode cX11_heat 22 = .ok (.iconst 1, 1) := by decide +kernel
theorem d11_heat_23 : decode cX11_heat 23 = .ok (.if_icmp .eq 9, 3) := by decide +kernel
theorem d11_heat_26 : decode cX11_heat 26 = .ok (.aload_n 0, 1) := by decide +kernel
theorem d11_heat_27 : decode cX11_heat 27 = .ok (.iconst 5, 1) := by decide +kernel
theorem d11_heat_28 : decode cX11_heat 28 = .ok (.invokevirtual 113, 3) := by decide +kernel
theorem d11_heat_31 : decode cX11_heat 31 = .ok (.ireturn, 1) := by decide +kernel
theorem d11_heat_32 : decode cX11_heat 32 = .ok (.aload_n 0, 1) := by decide +kernel
theorem d11_heat_33 : decode cX11_heat 33 = .ok (.getfield 26, 3) := by decide +kernel
theorem d11_heat_36 : decode cX11_heat 36 = .ok (.iload_n 1, 1) := by decide +kernel
theorem d11_heat_37 : decode cX11_heat 37 = .ok (.iconst 1, 1) := by decide +kernel
theorem d11_heat_38 : decode cX11_heat 38 = .ok (.invokevirtual 254, 3) := by decide +kernel
theorem d11_heat_41 : decode cX11_heat 41 = .ok (.istore_n 3, 1) := by decide +kernel
theorem d11_heat_42 : decode cX11_heat 42 = .ok (.aload_n 0, 1) := by decide +kernel
theorem d11_heat_43 : decode cX11_heat 43 = .ok (.aload_n 0, 1) := by decide +kernel
theorem d11_heat_44 : decode cX11_heat 44 = .ok (.getfield 26, 3) := by decide +kernel
theorem d11_heat_47 : decode cX11_heat 47 = .ok (.iload_n 1, 1) := by decide +kernel
theorem d11_heat_48 : decode cX11_heat 48 = .ok (.iconst 0, 1) := by decide +kernel
theorem d11_heat_49 : decode cX11_heat 49 = .ok (.invokevirtual 254, 3) := by decide +kernel
theorem d11_heat_52 : decode cX11_heat 52 = .ok (.iload_n 2, 1) := by decide +kernel
theorem d11_heat_53 : decode cX11_heat 53 = .ok (.ifCond .ne 7, 3) := by decide +kernel
theorem d11_heat_56 : decode cX11_heat 56 = .ok (.iload_n 3, 1) := by decide +kernel
theorem d11_heat_57 : decode cX11_heat 57 = .ok (.goto 5, 3) := by decide +kernel
theorem d11_heat_60 : decode cX11_heat 60 = .ok (.iload_n 3, 1) := by decide +kernel
theorem d11_heat_61 : decode cX11_heat 61 = .ok (.ineg, 1) := by decide +kernel
theorem d11_heat_62 : decode cX11_heat 62 = .ok (.iadd, 1) := by decide +kernel
theorem d11_heat_63 : decode cX11_heat 63 = .ok (.i2l, 1) := by decide +kernel
theorem d11_heat_64 : decode cX11_heat 64 = .ok (.ldc2_w 359, 3) := by decide +kernel
theorem d11_heat_67 : decode cX11_heat 67 = .ok (.invokevirtual 361, 3) := by decide +kernel
theorem d11_heat_70 : decode cX11_heat 70 = .ok (.ireturn, 1) := by decide +kernel
abbrev K11_heat : CK Int32 := (enI, (some .boolean), 4, 3, none)
noncomputable def F11_heat_b62 (N : Nat) (s1 : Int32) (s2 : Int32) (σ : Ms) : Option (Int32 × Ms) :=
  bn (F11_tellFraction N ((s1 + s2).toInt64) (2 : Int64) σ) (fun r1 t2 => ck (nkB r1) (some (r1, t2)))
noncomputable def F11_heat_b32 (N : Nat) (l1 : Int32) (l2 : Int32) (σ : Ms) : Option (Int32 × Ms) :=
  bn (F0_betFor 22 l1 (1 : Int32) σ) (fun r3 t4 => bn (F0_betFor 22 l1 (0 : Int32) t4) (fun r5 t6 => if l2 ≠ 0 then (F11_heat_b62 N r5 (-r3) t6)
  else (F11_heat_b62 N r5 r3 t6)))
noncomputable def F11_heat (N : Nat) (p0 : Int32) (p1 : Int32) (σ : Ms) : Option (Int32 × Ms) :=
  bn (F0_hasBet 22 p0 σ) (fun r7 t8 => if r7 ≠ 0 then (if p1 = 0 then (F11_heat_b32 N p0 p1 t8)
  else (if p1 = (1 : Int32) then (F11_heat_b32 N p0 p1 t8)
  else (bn (F11_no (5 : Int32) t8) (fun r9 t10 => ck (nkB r9) (some (r9, t10))))))
  else (bn (F11_no (2 : Int32) t8) (fun r11 t12 => ck (nkB r11) (some (r11, t12)))))
set_option maxRecDepth 100000 in
theorem v11_heat_b62 (N : Nat) (s1 : Int32) (s2 : Int32) (σ : Ms) : VF (K11_heat) cX11_heat RX11 (F11_heat_b62 N s1 s2 σ) σ 62 [] [.int s2, .int s1, .ref 11] := by
  unfold F11_heat_b62
  refine v_iadd d11_heat_62 ?_
  refine v_i2l d11_heat_63 ?_
  refine v_ldc2 d11_heat_64 klX11_359 ?_
  refine v_callV2i d11_heat_67 (mc11_tellFraction N ((s1 + s2).toInt64) (2 : Int64) σ) yv11_tellFraction mlX11_361 (Recv.obj ic_11 rfl) (by decide) (Nat.le_of_ble_eq_true rfl) fun r1 t2 => ?_
  exact v_iretB d11_heat_70 rfl rfl
set_option maxRecDepth 100000 in
theorem v11_heat_b32 (N : Nat) (l1 : Int32) (l2 : Int32) (σ : Ms) : VF (K11_heat) cX11_heat RX11 (F11_heat_b32 N l1 l2 σ) σ 32 [(0, .ref 11), (1, .int l1), (2, .int l2)] [] := by
  unfold F11_heat_b32
  refine v_aload_n d11_heat_32 0 rfl rfl ?_
  refine v_getR d11_heat_33 faX11_26 ic_11 rfl ?_
  refine v_iload_n d11_heat_36 1 rfl rfl ?_
  refine v_iconst d11_heat_37 ki_1 ?_
  refine v_callV2i d11_heat_38 (mc0_betFor 22 ic_22 l1 (1 : Int32) σ) yv0_betFor mlX11_254 (Recv.obj ic_22 rfl) (by decide) (Nat.le_of_ble_eq_true rfl) fun r3 t4 => ?_
  refine v_istore_n (lv' := [(3, .int r3), (0, .ref 11), (1, .int l1), (2, .int l2)]) d11_heat_41 rfl (by decide) rfl ?_
  refine v_aload_n d11_heat_42 1 rfl rfl ?_
  refine v_aload_n d11_heat_43 1 rfl rfl ?_
  refine v_getR d11_heat_44 faX11_26 ic_11 rfl ?_
  refine v_iload_n d11_heat_47 2 rfl rfl ?_
  refine v_iconst d11_heat_48 ki_0 ?_
  refine v_callV2i d11_heat_49 (mc0_betFor 22 ic_22 l1 (0 : Int32) t4) yv0_betFor mlX11_254 (Recv.obj ic_22 rfl) (by decide) (Nat.le_of_ble_eq_true rfl) fun r5 t6 => ?_
  refine v_iload_n d11_heat_52 3 rfl rfl ?_
  refine v_if_ne (tgt := 60) d11_heat_53 (by decide) ?_ ?_
  · refine v_iload_n d11_heat_60 0 rfl rfl ?_
    refine v_ineg d11_heat_61 ?_
    refine v_sub [] rfl ?_
    exact v11_heat_b62 N r5 (-r3) t6
  · refine v_iload_n d11_heat_56 0 rfl rfl ?_
    refine v_goto (tgt := 62) d11_heat_57 (by decide) ?_
    refine v_sub [] rfl ?_
    exact v11_heat_b62 N r5 r3 t6
set_option maxRecDepth 100000 in
theorem mc11_heat (N : Nat) (p0 : Int32) (p1 : Int32) (σ : Ms) : MC enI yX11_heat cX11_heat 4 (some .boolean) 3 (F11_heat N p0 p1 σ) σ [.ref 11, .int p0, .int p1] := by
  refine MC.i (by decide +kernel) (Nat.le_of_ble_eq_true rfl) ?_
  show VF (K11_heat) cX11_heat RX11 (F11_heat N p0 p1 σ) σ 0 [(0, .ref 11), (1, .int p0), (2, .int p1)] []
  unfold F11_heat
  refine v_aload_n d11_heat_0 0 rfl rfl ?_
  refine v_getR d11_heat_1 faX11_26 ic_11 rfl ?_
  refine v_iload_n d11_heat_4 1 rfl rfl ?_
  refine v_callV1i d11_heat_5 (mc0_hasBet 22 ic_22 p0 σ) yv0_hasBet mlX11_248 (Recv.obj ic_22 rfl) (by decide) (Nat.le_of_ble_eq_true rfl) fun r7 t8 => ?_
  refine v_if_ne (tgt := 17) d11_heat_8 (by decide) ?_ ?_
  · refine v_iload_n d11_heat_17 2 rfl rfl ?_
    refine v_if_eq (tgt := 32) d11_heat_18 (by decide) ?_ ?_
    · exact v11_heat_b32 N p0 p1 t8
    · refine v_iload_n d11_heat_21 2 rfl rfl ?_
      refine v_iconst d11_heat_22 ki_1 ?_
      refine v_icmp_eq (tgt := 32) d11_heat_23 (by decide) ?_ ?_
      · exact v11_heat_b32 N p0 p1 t8
      · refine v_aload_n d11_heat_26 0 rfl rfl ?_
        refine v_iconst d11_heat_27 ki_5 ?_
        refine v_callV1i d11_heat_28 (mc11_no (5 : Int32) t8) yv11_no mlX11_113 (Recv.obj ic_11 rfl) (by decide) (Nat.le_of_ble_eq_true rfl) fun r9 t10 => ?_
        exact v_iretB d11_heat_31 rfl rfl
  · refine v_aload_n d11_heat_11 0 rfl rfl ?_
    refine v_iconst d11_heat_12 ki_2 ?_
    refine v_callV1i d11_heat_13 (mc11_no (2 : Int32) t8) yv11_no mlX11_113 (Recv.obj ic_11 rfl) (by decide) (Nat.le_of_ble_eq_true rfl) fun r11 t12 => ?_
    exact v_iretB d11_heat_16 rfl rfl
theorem d11_simplest_0 : decode cX11_simplest 0 = .ok (.iload_n 1, 1) := by decide +kernel
theorem d11_simplest_1 : decode cX11_simplest 1 = .ok (.iload_n 2, 1) := by decide +kernel
theorem d11_simplest_2 : decode cX11_simplest 2 = .ok (.invokestatic 365, 3) := by decide +kernel
theorem d11_simplest_5 : decode cX11_simplest 5 = .ok (.ifCond .eq 12, 3) := by decide +kernel
theorem d11_simplest_8 : decode cX11_simplest 8 = .ok (.iload_n 3, 1) := by decide +kernel
theorem d11_simplest_9 : decode cX11_simplest 9 = .ok (.iload 4, 2) := by decide +kernel
theorem d11_simplest_11 : decode cX11_simplest 11 = .ok (.invokestatic 365, 3) := by decide +kernel
theorem d11_simplest_14 : decode cX11_simplest 14 = .ok (.ifCond .ne 9, 3) := by decide +kernel
theorem d11_simplest_17 : decode cX11_simplest 17 = .ok (.aload_n 0, 1) := by decide +kernel
theorem d11_simplest_18 : decode cX11_simplest 18 = .ok (.iconst 5, 1) := by decide +kernel
theorem d11_simplest_19 : decode cX11_simplest 19 = .ok (.invokevirtual 113, 3) := by decide +kernel
theorem d11_simplest_22 : decode cX11_simplest 22 = .ok (.ireturn, 1) := by decide +kernel
theorem d11_simplest_23 : decode cX11_simplest 23 = .ok (.iload_n 1, 1) := by decide +kernel
theorem d11_simplest_24 : decode cX11_simplest 24 = .ok (.iload_n 2, 1) := by decide +kernel
theorem d11_simplest_25 : decode cX11_simplest 25 = .ok (.invokestatic 370, 3) := by decide +kernel
theorem d11_simplest_28 : decode cX11_simplest 28 = .ok (.lstore 5, 2) := by decide +kernel
theorem d11_simplest_30 : decode cX11_simplest 30 = .ok (.iload_n 3, 1) := by decide +kernel
theorem d11_simplest_31 : decode cX11_simplest 31 = .ok (.iload 4, 2) := by decide +kernel
theorem d11_simplest_33 : decode cX11_simplest 33 = .ok (.invokestatic 370, 3) := by decide +kernel
theorem d11_simplest_36 : decode cX11_simplest 36 = .ok (.lstore 7, 2) := by decide +kernel
theorem d11_simplest_38 : decode cX11_simplest 38 = .ok (.lload 5, 2) := by decide +kernel
theorem d11_simplest_40 : decode cX11_simplest 40 = .ok (.lload 7, 2) := by decide +kernel
theorem d11_simplest_42 : decode cX11_simplest 42 = .ok (.lcmp, 1) := by decide +kernel
theorem d11_simplest_43 : decode cX11_simplest 43 = .ok (.ifCond .lt 10, 3) := by decide +kernel
theorem d11_simplest_46 : decode cX11_simplest 46 = .ok (.aload_n 0, 1) := by decide +kernel
theorem d11_simplest_47 : decode cX11_simplest 47 = .ok (.bipush 9, 2) := by decide +kernel
theorem d11_simplest_49 : decode cX11_simplest 49 = .ok (.invokevirtual 113, 3) := by decide +kernel
theorem d11_simplest_52 : decode cX11_simplest 52 = .ok (.ireturn, 1) := by decide +kernel
theorem d11_simplest_53 : decode cX11_simplest 53 = .ok (.aload_n 0, 1) := by decide +kernel
theorem d11_simplest_54 : decode cX11_simplest 54 = .ok (.lload 5, 2) := by decide +kernel
theorem d11_simplest_56 : decode cX11_simplest 56 = .ok (.lload 7, 2) := by decide +kernel
theorem d11_simplest_58 : decode cX11_simplest 58 = .ok (.invokestatic 373, 3) := by decide +kernel
theorem d11_simplest_61 : decode cX11_simplest 61 = .ok (.invokevirtual 310, 3) := by decide +kernel
theorem d11_simplest_64 : decode cX11_simplest 64 = .ok (.ireturn, 1) := by decide +kernel
abbrev K11_simplest : CK Int32 := (enI, (some .boolean), 9, 4, none)
noncomputable def F11_simplest_b17 (N : Nat) (σ : Ms) : Option (Int32 × Ms) :=
  bn (F11_no (5 : Int32) σ) (fun r1 t2 => ck (nkB r1) (some (r1, t2)))
noncomputable def F11_simplest (N : Nat) (p0 : Int32) (p1 : Int32) (p2 : Int32) (p3 : Int32) (σ : Ms) : Option (Int32 × Ms) :=
  bn (F3_canBe p0 p1 σ) (fun r3 t4 => if r3 = 0 then (F11_simplest_b17 N t4)
  else (bn (F3_canBe p2 p3 t4) (fun r5 t6 => if r5 ≠ 0 then (bn (F3_of p0 p1 t6) (fun r7 t8 => bn (F3_of p2 p3 t8) (fun r9 t10 => if (lg_cmp r7 r9) < 0 then (bn (F3_between N r7 r9 t10) (fun r11 t12 => bn (F11_tellNumber N r11 t12) (fun r13 t14 => ck (nkB r13) (some (r13, t14)))))
  else (bn (F11_no (9 : Int32) t10) (fun r15 t16 => ck (nkB r15) (some (r15, t16)))))))
  else (F11_simplest_b17 N t6))))
set_option maxRecDepth 100000 in
theorem v11_simplest_b17 (N : Nat) (σ : Ms) : VF (K11_simplest) cX11_simplest RX11 (F11_simplest_b17 N σ) σ 17 [(0, .ref 11)] [] := by
  unfold F11_simplest_b17
  refine v_aload_n d11_simplest_17 0 rfl rfl ?_
  refine v_iconst d11_simplest_18 ki_5 ?_
  refine v_callV1i d11_simplest_19 (mc11_no (5 : Int32) σ) yv11_no mlX11_113 (Recv.obj ic_11 rfl) (by decide) (Nat.le_of_ble_eq_true rfl) fun r1 t2 => ?_
  exact v_iretB d11_simplest_22 rfl rfl
set_option maxRecDepth 100000 in
theorem mc11_simplest (N : Nat) (p0 : Int32) (p1 : Int32) (p2 : Int32) (p3 : Int32) (σ : Ms) : MC enI yX11_simplest cX11_simplest 9 (some .boolean) 4 (F11_simplest N p0 p1 p2 p3 σ) σ [.ref 11, .int p0, .int p1, .int p2, .int p3] := by
  refine MC.i (by decide +kernel) (Nat.le_of_ble_eq_true rfl) ?_
  show VF (K11_simplest) cX11_simplest RX11 (F11_simplest N p0 p1 p2 p3 σ) σ 0 [(0, .ref 11), (1, .int p0), (2, .int p1), (3, .int p2), (4, .int p3)] []
  unfold F11_simplest
  refine v_iload_n d11_simplest_0 1 rfl rfl ?_
  refine v_iload_n d11_simplest_1 2 rfl rfl ?_
  refine v_callS2i d11_simplest_2 (mc3_canBe p0 p1 σ) ys3_canBe mlX11_365 (by decide) (Nat.le_of_ble_eq_true rfl) fun r3 t4 => ?_
  refine v_if_eq (tgt := 17) d11_simplest_5 (by decide) ?_ ?_
  · refine v_sub [0] rfl ?_
    exact v11_simplest_b17 N t4
  · refine v_iload_n d11_simplest_8 3 rfl rfl ?_
    refine v_iload d11_simplest_9 4 rfl ?_
    refine v_callS2i d11_simplest_11 (mc3_canBe p2 p3 t4) ys3_canBe mlX11_365 (by decide) (Nat.le_of_ble_eq_true rfl) fun r5 t6 => ?_
    refine v_if_ne (tgt := 23) d11_simplest_14 (by decide) ?_ ?_
    · refine v_iload_n d11_simplest_23 1 rfl rfl ?_
      refine v_iload_n d11_simplest_24 2 rfl rfl ?_
      refine v_callS2l d11_simplest_25 (mc3_of p0 p1 t6) ys3_of mlX11_370 (by decide) (Nat.le_of_ble_eq_true rfl) fun r7 t8 => ?_
      refine v_lstore (lv' := [(5, .long r7), (0, .ref 11), (1, .int p0), (2, .int p1), (3, .int p2), (4, .int p3)]) d11_simplest_28 (by decide) rfl ?_
      refine v_iload_n d11_simplest_30 4 rfl rfl ?_
      refine v_iload d11_simplest_31 5 rfl ?_
      refine v_callS2l d11_simplest_33 (mc3_of p2 p3 t8) ys3_of mlX11_370 (by decide) (Nat.le_of_ble_eq_true rfl) fun r9 t10 => ?_
      refine v_lstore (lv' := [(7, .long r9), (5, .long r7), (0, .ref 11), (1, .int p0), (2, .int p1), (3, .int p2), (4, .int p3)]) d11_simplest_36 (by decide) rfl ?_
      refine v_lload d11_simplest_38 1 rfl ?_
      refine v_lload d11_simplest_40 0 rfl ?_
      refine v_lcmp d11_simplest_42 ?_
      refine v_if_lt (tgt := 53) d11_simplest_43 (by decide) ?_ ?_
      · refine v_aload_n d11_simplest_53 2 rfl rfl ?_
        refine v_lload d11_simplest_54 1 rfl ?_
        refine v_lload d11_simplest_56 0 rfl ?_
        refine v_callS2l d11_simplest_58 (mc3_between N r7 r9 t10) ys3_between mlX11_373 (by decide) (Nat.le_of_ble_eq_true rfl) fun r11 t12 => ?_
        refine v_callV1i d11_simplest_61 (mc11_tellNumber N r11 t12) yv11_tellNumber mlX11_310 (Recv.obj ic_11 rfl) (by decide) (Nat.le_of_ble_eq_true rfl) fun r13 t14 => ?_
        exact v_iretB d11_simplest_64 rfl rfl
      · refine v_aload_n d11_simplest_46 2 rfl rfl ?_
        refine v_bipush d11_simplest_47 kb_9 ?_
        refine v_callV1i d11_simplest_49 (mc11_no (9 : Int32) t10) yv11_no mlX11_113 (Recv.obj ic_11 rfl) (by decide) (Nat.le_of_ble_eq_true rfl) fun r15 t16 => ?_
        exact v_iretB d11_simplest_52 rfl rfl
    · refine v_sub [0] rfl ?_
      exact v11_simplest_b17 N t6
theorem d11_birthday_0 : decode cX11_birthday 0 = .ok (.iload_n 1, 1) := by decide +kernel
theorem d11_birthday_1 : decode cX11_birthday 1 = .ok (.iload_n 2, 1) := by decide +kernel
theorem d11_birthday_2 : decode cX11_birthday 2 = .ok (.invokestatic 365, 3) := by decide +kernel
theorem d11_birthday_5 : decode cX11_birthday 5 = .ok (.ifCond .ne 9, 3) := by decide +kernel
theorem d11_birthday_8 : decode cX11_birthday 8 = .ok (.aload_n 0, 1) := by decide +kernel
theorem d11_birthday_9 : decode cX11_birthday 9 = .ok (.iconst 5, 1) := by decide +kernel
theorem d11_birthday_10 : decode cX11_birthday 10 = .ok (.invokevirtual 132, 3) := by decide +kernel
theorem d11_birthday_13 : decode cX11_birthday 13 = .ok (.ireturn, 1) := by decide +kernel
theorem d11_birthday_14 : decode cX11_birthday 14 = .ok (.aload_n 0, 1) := by decide +kernel
theorem d11_birthday_15 : decode cX11_birthday 15 = .ok (.iload_n 1, 1) := by decide +kernel
theorem d11_birthday_16 : decode cX11_birthday 16 = .ok (.iload_n 2, 1) := by decide +kernel
theorem d11_birthday_17 : decode cX11_birthday 17 = .ok (.invokestatic 370, 3) := by decide +kernel
theorem d11_birthday_20 : decode cX11_birthday 20 = .ok (.invokestatic 377, 3) := by decide +kernel
theorem d11_birthday_23 : decode cX11_birthday 23 = .ok (.invokevirtual 186, 3) := by decide +kernel
theorem d11_birthday_26 : decode cX11_birthday 26 = .ok (.ireturn, 1) := by decide +kernel
abbrev K11_birthday : CK Int32 := (enI, (some .int), 3, 4, none)
noncomputable def F11_birthday (p0 : Int32) (p1 : Int32) (σ : Ms) : Option (Int32 × Ms) :=
  bn (F3_canBe p0 p1 σ) (fun r1 t2 => if r1 ≠ 0 then (bn (F3_of p0 p1 t2) (fun r3 t4 => bn (F3_age r3 t4) (fun r5 t6 => bn (F11_told r5 t6) (fun r7 t8 => some (r7, t8)))))
  else (bn (F11_none (5 : Int32) t2) (fun r9 t10 => some (r9, t10))))
set_option maxRecDepth 100000 in
theorem mc11_birthday (p0 : Int32) (p1 : Int32) (σ : Ms) : MC enI yX11_birthday cX11_birthday 3 (some .int) 4 (F11_birthday p0 p1 σ) σ [.ref 11, .int p0, .int p1] := by
  refine MC.i (by decide +kernel) (Nat.le_of_ble_eq_true rfl) ?_
  show VF (K11_birthday) cX11_birthday RX11 (F11_birthday p0 p1 σ) σ 0 [(0, .ref 11), (1, .int p0), (2, .int p1)] []
  unfold F11_birthday
  refine v_iload_n d11_birthday_0 1 rfl rfl ?_
  refine v_iload_n d11_birthday_1 2 rfl rfl ?_
  refine v_callS2i d11_birthday_2 (mc3_canBe p0 p1 σ) ys3_canBe mlX11_365 (by decide) (Nat.le_of_ble_eq_true rfl) fun r1 t2 => ?_
  refine v_if_ne (tgt := 14) d11_birthday_5 (by decide) ?_ ?_
  · refine v_aload_n d11_birthday_14 0 rfl rfl ?_
    refine v_iload_n d11_birthday_15 1 rfl rfl ?_
    refine v_iload_n d11_birthday_16 2 rfl rfl ?_
    refine v_callS2l d11_birthday_17 (mc3_of p0 p1 t2) ys3_of mlX11_370 (by decide) (Nat.le_of_ble_eq_true rfl) fun r3 t4 => ?_
    refine v_callS1i d11_birthday_20 (mc3_age r3 t4) ys3_age mlX11_377 (by decide) (Nat.le_of_ble_eq_true rfl) fun r5 t6 => ?_
    refine v_callV1i d11_birthday_23 (mc11_told r5 t6) yv11_told mlX11_186 (Recv.obj ic_11 rfl) (by decide) (Nat.le_of_ble_eq_true rfl) fun r7 t8 => ?_
    exact v_iret d11_birthday_26 rfl rfl rfl
  · refine v_aload_n d11_birthday_8 0 rfl rfl ?_
    refine v_iconst d11_birthday_9 ki_5 ?_
    refine v_callV1i d11_birthday_10 (mc11_none (5 : Int32) t2) yv11_none mlX11_132 (Recv.obj ic_11 rfl) (by decide) (Nat.le_of_ble_eq_true rfl) fun r9 t10 => ?_
    exact v_iret d11_birthday_13 rfl rfl rfl
