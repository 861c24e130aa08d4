theorem d12_heap_0 : decode cX12_heap 0 = .ok (.aload_n 0, 1) := by decide +kernel
theorem d12_heap_1 : decode cX12_heap 1 = .ok (.iconst 0, 1) := by decide +kernel
theorem d12_heap_2 : decode cX12_heap 2 = .ok (.putfield 53, 3) := by decide +kernel
theorem d12_heap_5 : decode cX12_heap 5 = .ok (.aload_n 0, 1) := by decide +kernel
theorem d12_heap_6 : decode cX12_heap 6 = .ok (.iconst 0, 1) := by decide +kernel
theorem d12_heap_7 : decode cX12_heap 7 = .ok (.putfield 56, 3) := by decide +kernel
theorem d12_heap_10 : decode cX12_heap 10 = .ok (.aload_n 0, 1) := by decide +kernel
theorem d12_heap_11 : decode cX12_heap 11 = .ok (.iload_n 1, 1) := by decide +kernel
theorem d12_heap_12 : decode cX12_heap 12 = .ok (.invokevirtual 291, 3) := by decide +kernel
theorem d12_heap_15 : decode cX12_heap 15 = .ok (.ifCond .eq 15, 3) := by decide +kernel
theorem d12_heap_18 : decode cX12_heap 18 = .ok (.aload_n 0, 1) := by decide +kernel
theorem d12_heap_19 : decode cX12_heap 19 = .ok (.getfield 35, 3) := by decide +kernel
theorem d12_heap_22 : decode cX12_heap 22 = .ok (.bipush 65, 2) := by decide +kernel
theorem d12_heap_24 : decode cX12_heap 24 = .ok (.iload_n 1, 1) := by decide +kernel
theorem d12_heap_25 : decode cX12_heap 25 = .ok (.iadd, 1) := by decide +kernel
theorem d12_heap_26 : decode cX12_heap 26 = .ok (.iaload, 1) := by decide +kernel
theorem d12_heap_27 : decode cX12_heap 27 = .ok (.goto 8, 3) := by decide +kernel
theorem d12_heap_30 : decode cX12_heap 30 = .ok (.aload_n 0, 1) := by decide +kernel
theorem d12_heap_31 : decode cX12_heap 31 = .ok (.iconst 2, 1) := by decide +kernel
theorem d12_heap_32 : decode cX12_heap 32 = .ok (.invokevirtual 265, 3) := by decide +kernel
theorem d12_heap_35 : decode cX12_heap 35 = .ok (.ireturn, 1) := by decide +kernel
abbrev K12_heap : CK Int32 := (enI, (some .int), 2, 3, none)
noncomputable def F12_heap (p0 : Int32) (σ : Ms) : Option (Int32 × Ms) :=
  lt (sI σ 0 1 (0 : Int32)) (fun t1 => lt (sI t1 0 0 (0 : Int32)) (fun t2 => bn (F12_isHeapAt p0 t2) (fun r3 t4 => if r3 = 0 then (bn (F12_refuse (2 : Int32) t4) (fun r5 t6 => some (r5, t6)))
  else (ck (ixb ((65 : Int32) + p0) 1780) (some ((t4.1 5 ((65 : Int32) + p0).toNatClampNeg), t4))))))
set_option maxRecDepth 100000 in
theorem mc12_heap (p0 : Int32) (σ : Ms) : MC enI yX12_heap cX12_heap 2 (some .int) 3 (F12_heap p0 σ) σ [.ref 0, .int p0] := by
  refine MC.i (by decide +kernel) (Nat.le_of_ble_eq_true rfl) ?_
  show VF (K12_heap) cX12_heap RX12 (F12_heap p0 σ) σ 0 [(0, .ref 0), (1, .int p0)] []
  unfold F12_heap
  refine v_aload_n d12_heap_0 0 rfl rfl ?_
  refine v_iconst d12_heap_1 ki_0 ?_
  refine v_putI d12_heap_2 faX12_53 fp9_1 ic_0 ?_
  refine v_lts fun t1 => ?_
  refine v_aload_n d12_heap_5 0 rfl rfl ?_
  refine v_iconst d12_heap_6 ki_0 ?_
  refine v_putI d12_heap_7 faX12_56 fp9_0 ic_0 ?_
  refine v_lts fun t2 => ?_
  refine v_aload_n d12_heap_10 0 rfl rfl ?_
  refine v_iload_n d12_heap_11 1 rfl rfl ?_
  refine v_callV1i d12_heap_12 (mc12_isHeapAt p0 t2) yv12_isHeapAt mlX12_291 (Recv.obj ic_0 rfl) (by decide) (Nat.le_of_ble_eq_true rfl) fun r3 t4 => ?_
  refine v_if_eq (tgt := 30) d12_heap_15 (by decide) ?_ ?_
  · refine v_aload_n d12_heap_30 0 rfl rfl ?_
    refine v_iconst d12_heap_31 ki_2 ?_
    refine v_callV1i d12_heap_32 (mc12_refuse (2 : Int32) t4) yv12_refuse mlX12_265 (Recv.obj ic_0 rfl) (by decide) (Nat.le_of_ble_eq_true rfl) fun r5 t6 => ?_
    exact v_iret d12_heap_35 rfl rfl rfl
  · refine v_aload_n d12_heap_18 0 rfl rfl ?_
    refine v_getR d12_heap_19 faX12_35 ic_0 rfl ?_
    refine v_bipush d12_heap_22 kb_65 ?_
    refine v_iload_n d12_heap_24 1 rfl rfl ?_
    refine v_iadd d12_heap_25 ?_
    refine v_iald d12_heap_26 ic_5 ?_
    refine v_goto (tgt := 35) d12_heap_27 (by decide) ?_
    exact v_iret d12_heap_35 rfl rfl rfl
theorem d12_bet_0 : decode cX12_bet 0 = .ok (.aload_n 0, 1) := by decide +kernel
theorem d12_bet_1 : decode cX12_bet 1 = .ok (.iconst 0, 1) := by decide +kernel
theorem d12_bet_2 : decode cX12_bet 2 = .ok (.putfield 53, 3) := by decide +kernel
theorem d12_bet_5 : decode cX12_bet 5 = .ok (.aload_n 0, 1) := by decide +kernel
theorem d12_bet_6 : decode cX12_bet 6 = .ok (.iconst 0, 1) := by decide +kernel
theorem d12_bet_7 : decode cX12_bet 7 = .ok (.putfield 56, 3) := by decide +kernel
theorem d12_bet_10 : decode cX12_bet 10 = .ok (.aload_n 0, 1) := by decide +kernel
theorem d12_bet_11 : decode cX12_bet 11 = .ok (.iload_n 1, 1) := by decide +kernel
theorem d12_bet_12 : decode cX12_bet 12 = .ok (.invokevirtual 294, 3) := by decide +kernel
theorem d12_bet_15 : decode cX12_bet 15 = .ok (.ifCond .eq 26, 3) := by decide +kernel
theorem d12_bet_18 : decode cX12_bet 18 = .ok (.iload_n 2, 1) := by decide +kernel
theorem d12_bet_19 : decode cX12_bet 19 = .ok (.invokestatic 297, 3) := by decide +kernel
theorem d12_bet_22 : decode cX12_bet 22 = .ok (.ifCond .eq 19, 3) := by decide +kernel
theorem d12_bet_25 : decode cX12_bet 25 = .ok (.aload_n 0, 1) := by decide +kernel
theorem d12_bet_26 : decode cX12_bet 26 = .ok (.getfield 35, 3) := by decide +kernel
theorem d12_bet_29 : decode cX12_bet 29 = .ok (.bipush 69, 2) := by decide +kernel
theorem d12_bet_31 : decode cX12_bet 31 = .ok (.iconst 5, 1) := by decide +kernel
theorem d12_bet_32 : decode cX12_bet 32 = .ok (.iload_n 2, 1) := by decide +kernel
theorem d12_bet_33 : decode cX12_bet 33 = .ok (.imul, 1) := by decide +kernel
theorem d12_bet_34 : decode cX12_bet 34 = .ok (.iadd, 1) := by decide +kernel
theorem d12_bet_35 : decode cX12_bet 35 = .ok (.iload_n 1, 1) := by decide +kernel
theorem d12_bet_36 : decode cX12_bet 36 = .ok (.iadd, 1) := by decide +kernel
theorem d12_bet_37 : decode cX12_bet 37 = .ok (.iaload, 1) := by decide +kernel
theorem d12_bet_38 : decode cX12_bet 38 = .ok (.goto 8, 3) := by decide +kernel
theorem d12_bet_41 : decode cX12_bet 41 = .ok (.aload_n 0, 1) := by decide +kernel
theorem d12_bet_42 : decode cX12_bet 42 = .ok (.iconst 2, 1) := by decide +kernel
theorem d12_bet_43 : decode cX12_bet 43 = .ok (.invokevirtual 265, 3) := by decide +kernel
theorem d12_bet_46 : decode cX12_bet 46 = .ok (.ireturn, 1) := by decide +kernel
abbrev K12_bet : CK Int32 := (enI, (some .int), 3, 3, none)
noncomputable def F12_bet_b41 (σ : Ms) : Option (Int32 × Ms) :=
  bn (F12_refuse (2 : Int32) σ) (fun r1 t2 => some (r1, t2))
noncomputable def F12_bet (p0 : Int32) (p1 : Int32) (σ : Ms) : Option (Int32 × Ms) :=
  lt (sI σ 0 1 (0 : Int32)) (fun t3 => lt (sI t3 0 0 (0 : Int32)) (fun t4 => bn (F12_isBetAt p0 t4) (fun r5 t6 => if r5 = 0 then (F12_bet_b41 t6)
  else (bn (F12_isSideAt p1 t6) (fun r7 t8 => if r7 = 0 then (F12_bet_b41 t8)
  else (ck (ixb (((69 : Int32) + ((5 : Int32) * p1)) + p0) 1780) (some ((t8.1 5 (((69 : Int32) + ((5 : Int32) * p1)) + p0).toNatClampNeg), t8))))))))
set_option maxRecDepth 100000 in
theorem v12_bet_b41 (σ : Ms) : VF (K12_bet) cX12_bet RX12 (F12_bet_b41 σ) σ 41 [(0, .ref 0)] [] := by
  unfold F12_bet_b41
  refine v_aload_n d12_bet_41 0 rfl rfl ?_
  refine v_iconst d12_bet_42 ki_2 ?_
  refine v_callV1i d12_bet_43 (mc12_refuse (2 : Int32) σ) yv12_refuse mlX12_265 (Recv.obj ic_0 rfl) (by decide) (Nat.le_of_ble_eq_true rfl) fun r1 t2 => ?_
  exact v_iret d12_bet_46 rfl rfl rfl
set_option maxRecDepth 100000 in
theorem mc12_bet (p0 : Int32) (p1 : Int32) (σ : Ms) : MC enI yX12_bet cX12_bet 3 (some .int) 3 (F12_bet p0 p1 σ) σ [.ref 0, .int p0, .int p1] := by
  refine MC.i (by decide +kernel) (Nat.le_of_ble_eq_true rfl) ?_
  show VF (K12_bet) cX12_bet RX12 (F12_bet p0 p1 σ) σ 0 [(0, .ref 0), (1, .int p0), (2, .int p1)] []
  unfold F12_bet
  refine v_aload_n d12_bet_0 0 rfl rfl ?_
  refine v_iconst d12_bet_1 ki_0 ?_
  refine v_putI d12_bet_2 faX12_53 fp9_1 ic_0 ?_
  refine v_lts fun t3 => ?_
  refine v_aload_n d12_bet_5 0 rfl rfl ?_
  refine v_iconst d12_bet_6 ki_0 ?_
  refine v_putI d12_bet_7 faX12_56 fp9_0 ic_0 ?_
  refine v_lts fun t4 => ?_
  refine v_aload_n d12_bet_10 0 rfl rfl ?_
  refine v_iload_n d12_bet_11 1 rfl rfl ?_
  refine v_callV1i d12_bet_12 (mc12_isBetAt p0 t4) yv12_isBetAt mlX12_294 (Recv.obj ic_0 rfl) (by decide) (Nat.le_of_ble_eq_true rfl) fun r5 t6 => ?_
  refine v_if_eq (tgt := 41) d12_bet_15 (by decide) ?_ ?_
  · refine v_sub [0] rfl ?_
    exact v12_bet_b41 t6
  · refine v_iload_n d12_bet_18 2 rfl rfl ?_
    refine v_callS1i d12_bet_19 (mc12_isSideAt p1 t6) ys12_isSideAt mlX12_297 (by decide) (Nat.le_of_ble_eq_true rfl) fun r7 t8 => ?_
    refine v_if_eq (tgt := 41) d12_bet_22 (by decide) ?_ ?_
    · refine v_sub [0] rfl ?_
      exact v12_bet_b41 t8
    · refine v_aload_n d12_bet_25 0 rfl rfl ?_
      refine v_getR d12_bet_26 faX12_35 ic_0 rfl ?_
      refine v_bipush d12_bet_29 kb_69 ?_
      refine v_iconst d12_bet_31 ki_5 ?_
      refine v_iload_n d12_bet_32 2 rfl rfl ?_
      refine v_imul d12_bet_33 ?_
      refine v_iadd d12_bet_34 ?_
      refine v_iload_n d12_bet_35 1 rfl rfl ?_
      refine v_iadd d12_bet_36 ?_
      refine v_iald d12_bet_37 ic_5 ?_
      refine v_goto (tgt := 46) d12_bet_38 (by decide) ?_
      exact v_iret d12_bet_46 rfl rfl rfl
theorem d12_copyColours_0 : decode cX12_copyColours 0 = .ok (.aload_n 0, 1) := by decide +kernel
theorem d12_copyColours_1 : decode cX12_copyColours 1 = .ok (.iconst 0, 1) := by decide +kernel
theorem d12_copyColours_2 : decode cX12_copyColours 2 = .ok (.putfield 53, 3) := by decide +kernel
theorem d12_copyColours_5 : decode cX12_copyColours 5 = .ok (.aload_n 0, 1) := by decide +kernel
theorem d12_copyColours_6 : decode cX12_copyColours 6 = .ok (.iconst 0, 1) := by decide +kernel
theorem d12_copyColours_7 : decode cX12_copyColours 7 = .ok (.putfield 56, 3) := by decide +kernel
theorem d12_copyColours_10 : decode cX12_copyColours 10 = .ok (.aload_n 0, 1) := by decide +kernel
theorem d12_copyColours_11 : decode cX12_copyColours 11 = .ok (.iload_n 1, 1) := by decide +kernel
theorem d12_copyColours_12 : decode cX12_copyColours 12 = .ok (.invokevirtual 300, 3) := by decide +kernel
theorem d12_copyColours_15 : decode cX12_copyColours 15 = .ok (.ifCond .ne 9, 3) := by decide +kernel
theorem d12_copyColours_18 : decode cX12_copyColours 18 = .ok (.aload_n 0, 1) := by decide +kernel
theorem d12_copyColours_19 : decode cX12_copyColours 19 = .ok (.iconst 1, 1) := by decide +kernel
theorem d12_copyColours_20 : decode cX12_copyColours 20 = .ok (.invokevirtual 265, 3) := by decide +kernel
theorem d12_copyColours_23 : decode cX12_copyColours 23 = .ok (.ireturn, 1) := by decide +kernel
theorem d12_copyColours_24 : decode cX12_copyColours 24 = .ok (.aload_n 0, 1) := by decide +kernel
theorem d12_copyColours_25 : decode cX12_copyColours 25 = .ok (.getfield 17, 3) := by decide +kernel
theorem d12_copyColours_28 : decode cX12_copyColours 28 = .ok (.iload_n 1, 1) := by decide +kernel
theorem d12_copyColours_29 : decode cX12_copyColours 29 = .ok (.iaload, 1) := by decide +kernel
theorem d12_copyColours_30 : decode cX12_copyColours 30 = .ok (.ifCond .ge 9, 3) := by decide +kernel
theorem d12_copyColours_33 : decode cX12_copyColours 33 = .ok (.aload_n 0, 1) := by decide +kernel
theorem d12_copyColours_34 : decode cX12_copyColours 34 = .ok (.iconst 3, 1) := by decide +kernel
theorem d12_copyColours_35 : decode cX12_copyColours 35 = .ok (.invokevirtual 265, 3) := by decide +kernel
theorem d12_copyColours_38 : decode cX12_copyColours 38 = .ok (.ireturn, 1) := by decide +kernel
theorem d12_copyColours_39 : decode cX12_copyColours 39 = .ok (.aload_n 0, 1) := by decide +kernel
theorem d12_copyColours_40 : decode cX12_copyColours 40 = .ok (.getfield 17, 3) := by decide +kernel
theorem d12_copyColours_43 : decode cX12_copyColours 43 = .ok (.iload_n 1, 1) := by decide +kernel
theorem d12_copyColours_44 : decode cX12_copyColours 44 = .ok (.iaload, 1) := by decide +kernel
theorem d12_copyColours_45 : decode cX12_copyColours 45 = .ok (.aload_n 0, 1) := by decide +kernel
theorem d12_copyColours_46 : decode cX12_copyColours 46 = .ok (.getfield 35, 3) := by decide +kernel
theorem d12_copyColours_49 : decode cX12_copyColours 49 = .ok (.iconst 0, 1) := by decide +kernel
theorem d12_copyColours_50 : decode cX12_copyColours 50 = .ok (.iaload, 1) := by decide +kernel
theorem d12_copyColours_51 : decode cX12_copyColours 51 = .ok (.if_icmp .ge 9, 3) := by decide +kernel
theorem d12_copyColours_54 : decode cX12_copyColours 54 = .ok (.aload_n 0, 1) := by decide +kernel
theorem d12_copyColours_55 : decode cX12_copyColours 55 = .ok (.iconst 4, 1) := by decide +kernel
theorem d12_copyColours_56 : decode cX12_copyColours 56 = .ok (.invokevirtual 265, 3) := by decide +kernel
theorem d12_copyColours_59 : decode cX12_copyColours 59 = .ok (.ireturn, 1) := by decide +kernel
theorem d12_copyColours_60 : decode cX12_copyColours 60 = .ok (.iconst 0, 1) := by decide +kernel
theorem d12_copyColours_61 : decode cX12_copyColours 61 = .ok (.istore_n 2, 1) := by decide +kernel
theorem d12_copyColours_62 : decode cX12_copyColours 62 = .ok (.iload_n 2, 1) := by decide +kernel
theorem d12_copyColours_63 : decode cX12_copyColours 63 = .ok (.aload_n 0, 1) := by decide +kernel
theorem d12_copyColours_64 : decode cX12_copyColours 64 = .ok (.getfield 35, 3) := by decide +kernel
theorem d12_copyColours_67 : decode cX12_copyColours 67 = .ok (.iconst 0, 1) := by decide +kernel
theorem d12_copyColours_68 : decode cX12_copyColours 68 = .ok (.iaload, 1) := by decide +kernel
theorem d12_copyColours_69 : decode cX12_copyColours 69 = .ok (.if_icmp .ge 44, 3) := by decide +kernel
theorem d12_copyColours_72 : decode cX12_copyColours 72 = .ok (.aload_n 0, 1) := by decide +kernel
theorem d12_copyColours_73 : decode cX12_copyColours 73 = .ok (.iload_n 1, 1) := by decide +kernel
theorem d12_copyColours_74 : decode cX12_copyColours 74 = .ok (.iload_n 2, 1) := by decide +kernel
theorem d12_copyColours_75 : decode cX12_copyColours 75 = .ok (.aload_n 0, 1) := by decide +kernel
theorem d12_copyColours_76 : decode cX12_copyColours 76 = .ok (.getfield 35, 3) := by decide +kernel
theorem d12_copyColours_79 : decode cX12_copyColours 79 = .ok (.bipush 45, 2) := by decide +kernel
theorem d12_copyColours_81 : decode cX12_copyColours 81 = .ok (.iload_n 2, 1) := by decide +kernel
theorem d12_copyColours_82 : decode cX12_copyColours 82 = .ok (.iadd, 1) := by decide +kernel
theorem d12_copyColours_83 : decode cX12_copyColours 83 = .ok (.iaload, 1) := by decide +kernel
theorem d12_copyColours_84 : decode cX12_copyColours 84 = .ok (.iconst 1, 1) := by decide +kernel
theorem d12_copyColours_85 : decode cX12_copyColours 85 = .ok (.if_icmp .ne 15, 3) := by decide +kernel
theorem d12_copyColours_88 : decode cX12_copyColours 88 = .ok (.aload_n 0, 1) := by decide +kernel
theorem d12_copyColours_89 : decode cX12_copyColours 89 = .ok (.getfield 35, 3) := by decide +kernel
theorem d12_copyColours_92 : decode cX12_copyColours 92 = .ok (.iconst 5, 1) := by decide +kernel
theorem d12_copyColours_93 : decode cX12_copyColours 93 = .ok (.iload_n 2, 1) := by decide +kernel
theorem d12_copyColours_94 : decode cX12_copyColours 94 = .ok (.iadd, 1) := by decide +kernel
theorem d12_copyColours_95 : decode cX12_copyColours 95 = .ok (.iaload, 1) := by decide +kernel
theorem d12_copyColours_96 : decode cX12_copyColours 96 = .ok (.i2l, 1) := by decide +kernel
theorem d12_copyColours_97 : decode cX12_copyColours 97 = .ok (.goto 6, 3) := by decide +kernel
theorem d12_copyColours_100 : decode cX12_copyColours 100 = .ok (.ldc2_w 86, 3) := by decide +kernel
theorem d12_copyColours_103 : decode cX12_copyColours 103 = .ok (.invokevirtual 303, 3) := by decide +kernel
theorem d12_copyColours_106 : decode cX12_copyColours 106 = .ok (.pop, 1) := by decide +kernel
theorem d12_copyColours_107 : decode cX12_copyColours 107 = .ok (.iinc 2 1, 3) := by decide +kernel
theorem d12_copyColours_110 : decode cX12_copyColours 110 = .ok (.goto (-48), 3) := by decide +kernel
theorem d12_copyColours_113 : decode cX12_copyColours 113 = .ok (.aload_n 0, 1) := by decide +kernel
theorem d12_copyColours_114 : decode cX12_copyColours 114 = .ok (.getfield 35, 3) := by decide +kernel
theorem d12_copyColours_117 : decode cX12_copyColours 117 = .ok (.iconst 0, 1) := by decide +kernel
theorem d12_copyColours_118 : decode cX12_copyColours 118 = .ok (.iaload, 1) := by decide +kernel
theorem d12_copyColours_119 : decode cX12_copyColours 119 = .ok (.ireturn, 1) := by decide +kernel
abbrev K12_copyColours : CK Int32 := (enI, (some .int), 3, 4, none)
noncomputable def F12_copyColours_b103 (N : Nat) (k62 : Int32 × Int32 × Ms → Option (Int32 × Ms)) (l1 : Int32) (l2 : Int32) (s1 : Int32) (s2 : Int32) (s3 : Int64) (σ : Ms) : Option (Int32 × Ms) :=
  bn (F12_write s1 s2 s3 σ) (fun r1 t2 => k62 (l1, (l2 + (1 : Int32)), t2))
noncomputable def F12_copyColours_b62B (N : Nat) (k62 : Int32 × Int32 × Ms → Option (Int32 × Ms)) (l1 : Int32) (l2 : Int32) (σ : Ms) : Option (Int32 × Ms) :=
  ck (ixb (0 : Int32) 1780) (if (σ.1 5 (0 : Int32).toNatClampNeg) ≤ l2 then (ck (ixb (0 : Int32) 1780) (some ((σ.1 5 (0 : Int32).toNatClampNeg), σ)))
  else (ck (ixb ((45 : Int32) + l2) 1780) (if (σ.1 5 ((45 : Int32) + l2).toNatClampNeg) ≠ (1 : Int32) then (F12_copyColours_b103 N k62 l1 l2 l1 l2 (3 : Int64) σ)
  else (ck (ixb ((5 : Int32) + l2) 1780) (F12_copyColours_b103 N k62 l1 l2 l1 l2 ((σ.1 5 ((5 : Int32) + l2).toNatClampNeg).toInt64) σ)))))
noncomputable def F12_copyColours_b62 (N : Nat) (l1 : Int32) (l2 : Int32) (σ : Ms) : Option (Int32 × Ms) :=
  fx N (fun k x => F12_copyColours_b62B N k x.1 x.2.1 x.2.2) (l1, l2, σ)
noncomputable def F12_copyColours (N : Nat) (p0 : Int32) (σ : Ms) : Option (Int32 × Ms) :=
  lt (sI σ 0 1 (0 : Int32)) (fun t3 => lt (sI t3 0 0 (0 : Int32)) (fun t4 => bn (F12_isTray p0 t4) (fun r5 t6 => if r5 ≠ 0 then (ck (ixb p0 4) (if 0 ≤ (t6.1 2 p0.toNatClampNeg) then (ck (ixb p0 4) (ck (ixb (0 : Int32) 1780) (if (t6.1 5 (0 : Int32).toNatClampNeg) ≤ (t6.1 2 p0.toNatClampNeg) then (F12_copyColours_b62 N p0 (0 : Int32) t6)
  else (bn (F12_refuse (4 : Int32) t6) (fun r7 t8 => some (r7, t8))))))
  else (bn (F12_refuse (3 : Int32) t6) (fun r9 t10 => some (r9, t10)))))
  else (bn (F12_refuse (1 : Int32) t6) (fun r11 t12 => some (r11, t12))))))
set_option maxRecDepth 100000 in
theorem v12_copyColours_b103 (N : Nat) (k62 : Int32 × Int32 × Ms → Option (Int32 × Ms)) (hk62 : ∀ (l1 : Int32) (l2 : Int32) (τ : Ms), VF (K12_copyColours) cX12_copyColours RX12 (k62 (l1, l2, τ)) τ 62 [(0, .ref 0), (1, .int l1), (2, .int l2)] []) (l1 : Int32) (l2 : Int32) (s1 : Int32) (s2 : Int32) (s3 : Int64) (σ : Ms) : VF (K12_copyColours) cX12_copyColours RX12 (F12_copyColours_b103 N k62 l1 l2 s1 s2 s3 σ) σ 103 [(0, .ref 0), (1, .int l1), (2, .int l2)] [.long s3, .int s2, .int s1, .ref 0] := by
  unfold F12_copyColours_b103
  refine v_callV3i d12_copyColours_103 (mc12_write s1 s2 s3 σ) yv12_write mlX12_303 (Recv.obj ic_0 rfl) (by decide) (Nat.le_of_ble_eq_true rfl) fun r1 t2 => ?_
  refine v_pop d12_copyColours_106 rfl ?_
  refine v_iinc (lv' := [(2, .int (l2 + (1 : Int32))), (0, .ref 0), (1, .int l1)]) d12_copyColours_107 2 rfl (by rw [ki_1]) (by decide) rfl ?_
  refine v_goto (tgt := 62) d12_copyColours_110 (by decide) ?_
  refine v_sub [1, 2, 0] rfl ?_
  exact hk62 l1 (l2 + (1 : Int32)) t2
set_option maxRecDepth 100000 in
theorem v12_copyColours_b62B (N : Nat) (k62 : Int32 × Int32 × Ms → Option (Int32 × Ms)) (hk62 : ∀ (l1 : Int32) (l2 : Int32) (τ : Ms), VF (K12_copyColours) cX12_copyColours RX12 (k62 (l1, l2, τ)) τ 62 [(0, .ref 0), (1, .int l1), (2, .int l2)] []) (l1 : Int32) (l2 : Int32) (σ : Ms) : VF (K12_copyColours) cX12_copyColours RX12 (F12_copyColours_b62B N k62 l1 l2 σ) σ 62 [(0, .ref 0), (1, .int l1), (2, .int l2)] [] := by
  unfold F12_copyColours_b62B
  refine v_iload_n d12_copyColours_62 2 rfl rfl ?_
  refine v_aload_n d12_copyColours_63 0 rfl rfl ?_
  refine v_getR d12_copyColours_64 faX12_35 ic_0 rfl ?_
  refine v_iconst d12_copyColours_67 ki_0 ?_
  refine v_iald d12_copyColours_68 ic_5 ?_
  refine v_icmp_ge (tgt := 113) d12_copyColours_69 (by decide) ?_ ?_
  · refine v_aload_n d12_copyColours_113 0 rfl rfl ?_
    refine v_getR d12_copyColours_114 faX12_35 ic_0 rfl ?_
    refine v_iconst d12_copyColours_117 ki_0 ?_
    refine v_iald d12_copyColours_118 ic_5 ?_
    exact v_iret d12_copyColours_119 rfl rfl rfl
  · refine v_aload_n d12_copyColours_72 0 rfl rfl ?_
    refine v_iload_n d12_copyColours_73 1 rfl rfl ?_
    refine v_iload_n d12_copyColours_74 2 rfl rfl ?_
    refine v_aload_n d12_copyColours_75 0 rfl rfl ?_
    refine v_getR d12_copyColours_76 faX12_35 ic_0 rfl ?_
    refine v_bipush d12_copyColours_79 kb_45 ?_
    refine v_iload_n d12_copyColours_81 2 rfl rfl ?_
    refine v_iadd d12_copyColours_82 ?_
    refine v_iald d12_copyColours_83 ic_5 ?_
    refine v_iconst d12_copyColours_84 ki_1 ?_
    refine v_icmp_ne (tgt := 100) d12_copyColours_85 (by decide) ?_ ?_
    · refine v_ldc2 d12_copyColours_100 klX12_86 ?_
      exact v12_copyColours_b103 N k62 hk62 l1 l2 l1 l2 (3 : Int64) σ
    · refine v_aload_n d12_copyColours_88 0 rfl rfl ?_
      refine v_getR d12_copyColours_89 faX12_35 ic_0 rfl ?_
      refine v_iconst d12_copyColours_92 ki_5 ?_
      refine v_iload_n d12_copyColours_93 2 rfl rfl ?_
      refine v_iadd d12_copyColours_94 ?_
      refine v_iald d12_copyColours_95 ic_5 ?_
      refine v_i2l d12_copyColours_96 ?_
      refine v_goto (tgt := 103) d12_copyColours_97 (by decide) ?_
      exact v12_copyColours_b103 N k62 hk62 l1 l2 l1 l2 ((σ.1 5 ((5 : Int32) + l2).toNatClampNeg).toInt64) σ
theorem v12_copyColours_b62 (N : Nat) (l1 : Int32) (l2 : Int32) (σ : Ms) : VF (K12_copyColours) cX12_copyColours RX12 (F12_copyColours_b62 N l1 l2 σ) σ 62 [(0, .ref 0), (1, .int l1), (2, .int l2)] [] := v_fx (σo := fun x => x.2.2) (lo := fun x => [(0, .ref 0), (1, .int x.1), (2, .int x.2.1)]) (fun k hk x => v12_copyColours_b62B N k (fun l1 l2 τ => hk (l1, l2, τ)) x.1 x.2.1 x.2.2) N (l1, l2, σ)
set_option maxRecDepth 100000 in
theorem mc12_copyColours (N : Nat) (p0 : Int32) (σ : Ms) : MC enI yX12_copyColours cX12_copyColours 3 (some .int) 4 (F12_copyColours N p0 σ) σ [.ref 0, .int p0] := by
  refine MC.i (by decide +kernel) (Nat.le_of_ble_eq_true rfl) ?_
  show VF (K12_copyColours) cX12_copyColours RX12 (F12_copyColours N p0 σ) σ 0 [(0, .ref 0), (1, .int p0)] []
  unfold F12_copyColours
  refine v_aload_n d12_copyColours_0 0 rfl rfl ?_
  refine v_iconst d12_copyColours_1 ki_0 ?_
  refine v_putI d12_copyColours_2 faX12_53 fp9_1 ic_0 ?_
  refine v_lts fun t3 => ?_
  refine v_aload_n d12_copyColours_5 0 rfl rfl ?_
  refine v_iconst d12_copyColours_6 ki_0 ?_
  refine v_putI d12_copyColours_7 faX12_56 fp9_0 ic_0 ?_
  refine v_lts fun t4 => ?_
  refine v_aload_n d12_copyColours_10 0 rfl rfl ?_
  refine v_iload_n d12_copyColours_11 1 rfl rfl ?_
  refine v_callV1i d12_copyColours_12 (mc12_isTray p0 t4) yv12_isTray mlX12_300 (Recv.obj ic_0 rfl) (by decide) (Nat.le_of_ble_eq_true rfl) fun r5 t6 => ?_
  refine v_if_ne (tgt := 24) d12_copyColours_15 (by decide) ?_ ?_
  · refine v_aload_n d12_copyColours_24 0 rfl rfl ?_
    refine v_getR d12_copyColours_25 faX12_17 ic_0 rfl ?_
    refine v_iload_n d12_copyColours_28 1 rfl rfl ?_
    refine v_iald d12_copyColours_29 ic_2 ?_
    refine v_if_ge (tgt := 39) d12_copyColours_30 (by decide) ?_ ?_
    · refine v_aload_n d12_copyColours_39 0 rfl rfl ?_
      refine v_getR d12_copyColours_40 faX12_17 ic_0 rfl ?_
      refine v_iload_n d12_copyColours_43 1 rfl rfl ?_
      refine v_iald d12_copyColours_44 ic_2 ?_
      refine v_aload_n d12_copyColours_45 0 rfl rfl ?_
      refine v_getR d12_copyColours_46 faX12_35 ic_0 rfl ?_
      refine v_iconst d12_copyColours_49 ki_0 ?_
      refine v_iald d12_copyColours_50 ic_5 ?_
      refine v_icmp_ge (tgt := 60) d12_copyColours_51 (by decide) ?_ ?_
      · refine v_iconst d12_copyColours_60 ki_0 ?_
        refine v_istore_n (lv' := [(2, .int (0 : Int32)), (0, .ref 0), (1, .int p0)]) d12_copyColours_61 rfl (by decide) rfl ?_
        refine v_sub [1, 2, 0] rfl ?_
        exact v12_copyColours_b62 N p0 (0 : Int32) t6
      · refine v_aload_n d12_copyColours_54 0 rfl rfl ?_
        refine v_iconst d12_copyColours_55 ki_4 ?_
        refine v_callV1i d12_copyColours_56 (mc12_refuse (4 : Int32) t6) yv12_refuse mlX12_265 (Recv.obj ic_0 rfl) (by decide) (Nat.le_of_ble_eq_true rfl) fun r7 t8 => ?_
        exact v_iret d12_copyColours_59 rfl rfl rfl
    · refine v_aload_n d12_copyColours_33 0 rfl rfl ?_
      refine v_iconst d12_copyColours_34 ki_3 ?_
      refine v_callV1i d12_copyColours_35 (mc12_refuse (3 : Int32) t6) yv12_refuse mlX12_265 (Recv.obj ic_0 rfl) (by decide) (Nat.le_of_ble_eq_true rfl) fun r9 t10 => ?_
      exact v_iret d12_copyColours_38 rfl rfl rfl
  · refine v_aload_n d12_copyColours_18 0 rfl rfl ?_
    refine v_iconst d12_copyColours_19 ki_1 ?_
    refine v_callV1i d12_copyColours_20 (mc12_refuse (1 : Int32) t6) yv12_refuse mlX12_265 (Recv.obj ic_0 rfl) (by decide) (Nat.le_of_ble_eq_true rfl) fun r11 t12 => ?_
    exact v_iret d12_copyColours_23 rfl rfl rfl
theorem d12_blueWorth_0 : decode cX12_blueWorth 0 = .ok (.iconst 1, 1) := by decide +kernel
theorem d12_blueWorth_1 : decode cX12_blueWorth 1 = .ok (.istore_n 2, 1) := by decide +kernel
theorem d12_blueWorth_2 : decode cX12_blueWorth 2 = .ok (.lload_n 0, 1) := by decide +kernel
theorem d12_blueWorth_3 : decode cX12_blueWorth 3 = .ok (.iload_n 2, 1) := by decide +kernel
theorem d12_blueWorth_4 : decode cX12_blueWorth 4 = .ok (.i2l, 1) := by decide +kernel
theorem d12_blueWorth_5 : decode cX12_blueWorth 5 = .ok (.ldc2_w 307, 3) := by decide +kernel
theorem d12_blueWorth_8 : decode cX12_blueWorth 8 = .ok (.lmul, 1) := by decide +kernel
theorem d12_blueWorth_9 : decode cX12_blueWorth 9 = .ok (.ladd, 1) := by decide +kernel
theorem d12_blueWorth_10 : decode cX12_blueWorth 10 = .ok (.ldc2_w 307, 3) := by decide +kernel
theorem d12_blueWorth_13 : decode cX12_blueWorth 13 = .ok (.lcmp, 1) := by decide +kernel
theorem d12_blueWorth_14 : decode cX12_blueWorth 14 = .ok (.ifCond .gt 9, 3) := by decide +kernel
theorem d12_blueWorth_17 : decode cX12_blueWorth 17 = .ok (.iinc 2 1, 3) := by decide +kernel
theorem d12_blueWorth_20 : decode cX12_blueWorth 20 = .ok (.goto (-18), 3) := by decide +kernel
theorem d12_blueWorth_23 : decode cX12_blueWorth 23 = .ok (.lload_n 0, 1) := by decide +kernel
theorem d12_blueWorth_24 : decode cX12_blueWorth 24 = .ok (.iload_n 2, 1) := by decide +kernel
theorem d12_blueWorth_25 : decode cX12_blueWorth 25 = .ok (.i2l, 1) := by decide +kernel
theorem d12_blueWorth_26 : decode cX12_blueWorth 26 = .ok (.ldc2_w 307, 3) := by decide +kernel
theorem d12_blueWorth_29 : decode cX12_blueWorth 29 = .ok (.lmul, 1) := by decide +kernel
theorem d12_blueWorth_30 : decode cX12_blueWorth 30 = .ok (.ladd, 1) := by decide +kernel
theorem d12_blueWorth_31 : decode cX12_blueWorth 31 = .ok (.iload_n 2, 1) := by decide +kernel
theorem d12_blueWorth_32 : decode cX12_blueWorth 32 = .ok (.iconst 1, 1) := by decide +kernel
theorem d12_blueWorth_33 : decode cX12_blueWorth 33 = .ok (.isub, 1) := by decide +kernel
theorem d12_blueWorth_34 : decode cX12_blueWorth 34 = .ok (.lshr, 1) := by decide +kernel
theorem d12_blueWorth_35 : decode cX12_blueWorth 35 = .ok (.lreturn, 1) := by decide +kernel
abbrev K12_blueWorth : CK Int64 := (enL, (some .long), 3, 1, none)
noncomputable def F12_blueWorth_b2B (N : Nat) (k2 : Int64 × Int32 × Ms → Option (Int64 × Ms)) (l0 : Int64) (l2 : Int32) (σ : Ms) : Option (Int64 × Ms) :=
  if 0 < (lg_cmp (l0 + ((l2.toInt64) * (1048576 : Int64))) (1048576 : Int64)) then (some (((l0 + ((l2.toInt64) * (1048576 : Int64))) >>> ((l2 - (1 : Int32)).toInt64 &&& 63)), σ))
  else (k2 (l0, (l2 + (1 : Int32)), σ))
noncomputable def F12_blueWorth_b2 (N : Nat) (l0 : Int64) (l2 : Int32) (σ : Ms) : Option (Int64 × Ms) :=
  fx N (fun k x => F12_blueWorth_b2B N k x.1 x.2.1 x.2.2) (l0, l2, σ)
noncomputable def F12_blueWorth (N : Nat) (p0 : Int64) (σ : Ms) : Option (Int64 × Ms) :=
  F12_blueWorth_b2 N p0 (1 : Int32) σ
set_option maxRecDepth 100000 in
theorem v12_blueWorth_b2B (N : Nat) (k2 : Int64 × Int32 × Ms → Option (Int64 × Ms)) (hk2 : ∀ (l0 : Int64) (l2 : Int32) (τ : Ms), VF (K12_blueWorth) cX12_blueWorth RX12 (k2 (l0, l2, τ)) τ 2 [(0, .long l0), (2, .int l2)] []) (l0 : Int64) (l2 : Int32) (σ : Ms) : VF (K12_blueWorth) cX12_blueWorth RX12 (F12_blueWorth_b2B N k2 l0 l2 σ) σ 2 [(0, .long l0), (2, .int l2)] [] := by
  unfold F12_blueWorth_b2B
  refine v_lload_n d12_blueWorth_2 0 rfl rfl ?_
  refine v_iload_n d12_blueWorth_3 1 rfl rfl ?_
  refine v_i2l d12_blueWorth_4 ?_
  refine v_ldc2 d12_blueWorth_5 klX12_307 ?_
  refine v_lmul d12_blueWorth_8 ?_
  refine v_ladd d12_blueWorth_9 ?_
  refine v_ldc2 d12_blueWorth_10 klX12_307 ?_
  refine v_lcmp d12_blueWorth_13 ?_
  refine v_if_gt (tgt := 23) d12_blueWorth_14 (by decide) ?_ ?_
  · refine v_lload_n d12_blueWorth_23 0 rfl rfl ?_
    refine v_iload_n d12_blueWorth_24 1 rfl rfl ?_
    refine v_i2l d12_blueWorth_25 ?_
    refine v_ldc2 d12_blueWorth_26 klX12_307 ?_
    refine v_lmul d12_blueWorth_29 ?_
    refine v_ladd d12_blueWorth_30 ?_
    refine v_iload_n d12_blueWorth_31 1 rfl rfl ?_
    refine v_iconst d12_blueWorth_32 ki_1 ?_
    refine v_isub d12_blueWorth_33 ?_
    refine v_lshr d12_blueWorth_34 ?_
    exact v_lret d12_blueWorth_35 rfl rfl
  · refine v_iinc (lv' := [(2, .int (l2 + (1 : Int32))), (0, .long l0)]) d12_blueWorth_17 1 rfl (by rw [ki_1]) (by decide) rfl ?_
    refine v_goto (tgt := 2) d12_blueWorth_20 (by decide) ?_
    refine v_sub [1, 0] rfl ?_
    exact hk2 l0 (l2 + (1 : Int32)) σ
theorem v12_blueWorth_b2 (N : Nat) (l0 : Int64) (l2 : Int32) (σ : Ms) : VF (K12_blueWorth) cX12_blueWorth RX12 (F12_blueWorth_b2 N l0 l2 σ) σ 2 [(0, .long l0), (2, .int l2)] [] := v_fx (σo := fun x => x.2.2) (lo := fun x => [(0, .long x.1), (2, .int x.2.1)]) (fun k hk x => v12_blueWorth_b2B N k (fun l0 l2 τ => hk (l0, l2, τ)) x.1 x.2.1 x.2.2) N (l0, l2, σ)
set_option maxRecDepth 100000 in
theorem mc12_blueWorth (N : Nat) (p0 : Int64) (σ : Ms) : MC enL yX12_blueWorth cX12_blueWorth 3 (some .long) 1 (F12_blueWorth N p0 σ) σ [.long p0] := by
  refine MC.l (by decide +kernel) (Nat.le_of_ble_eq_true rfl) ?_
  show VF (K12_blueWorth) cX12_blueWorth RX12 (F12_blueWorth N p0 σ) σ 0 [(0, .long p0)] []
  unfold F12_blueWorth
  refine v_iconst d12_blueWorth_0 ki_1 ?_
  refine v_istore_n (lv' := [(2, .int (1 : Int32)), (0, .long p0)]) d12_blueWorth_1 rfl (by decide) rfl ?_
  refine v_sub [1, 0] rfl ?_
  exact v12_blueWorth_b2 N p0 (1 : Int32) σ
theorem d12_branchWorth_0 : decode cX12_branchWorth 0 = .ok (.iload_n 0, 1) := by decide +kernel
theorem d12_branchWorth_1 : decode cX12_branchWorth 1 = .ok (.ifCond .ne 10, 3) := by decide +kernel
theorem d12_branchWorth_4 : decode cX12_branchWorth 4 = .ok (.lload_n 1, 1) := by decide +kernel
theorem d12_branchWorth_5 : decode cX12_branchWorth 5 = .ok (.invokestatic 309, 3) := by decide +kernel
theorem d12_branchWorth_8 : decode cX12_branchWorth 8 = .ok (.goto 9, 3) := by decide +kernel
theorem d12_branchWorth_11 : decode cX12_branchWorth 11 = .ok (.lload_n 1, 1) := by decide +kernel
theorem d12_branchWorth_12 : decode cX12_branchWorth 12 = .ok (.lneg, 1) := by decide +kernel
theorem d12_branchWorth_13 : decode cX12_branchWorth 13 = .ok (.invokestatic 309, 3) := by decide +kernel
theorem d12_branchWorth_16 : decode cX12_branchWorth 16 = .ok (.lneg, 1) := by decide +kernel
theorem d12_branchWorth_17 : decode cX12_branchWorth 17 = .ok (.lreturn, 1) := by decide +kernel
abbrev K12_branchWorth : CK Int64 := (enL, (some .long), 3, 2, none)
noncomputable def F12_branchWorth (N : Nat) (p0 : Int32) (p1 : Int64) (σ : Ms) : Option (Int64 × Ms) :=
  if p0 ≠ 0 then (bn (F12_blueWorth N (-p1) σ) (fun r1 t2 => some ((-r1), t2)))
  else (bn (F12_blueWorth N p1 σ) (fun r3 t4 => some (r3, t4)))
set_option maxRecDepth 100000 in
theorem mc12_branchWorth (N : Nat) (p0 : Int32) (p1 : Int64) (σ : Ms) : MC enL yX12_branchWorth cX12_branchWorth 3 (some .long) 2 (F12_branchWorth N p0 p1 σ) σ [.int p0, .long p1] := by
  refine MC.l (by decide +kernel) (Nat.le_of_ble_eq_true rfl) ?_
  show VF (K12_branchWorth) cX12_branchWorth RX12 (F12_branchWorth N p0 p1 σ) σ 0 [(0, .int p0), (1, .long p1)] []
  unfold F12_branchWorth
  refine v_iload_n d12_branchWorth_0 0 rfl rfl ?_
  refine v_if_ne (tgt := 11) d12_branchWorth_1 (by decide) ?_ ?_
  · refine v_lload_n d12_branchWorth_11 1 rfl rfl ?_
    refine v_lneg d12_branchWorth_12 ?_
    refine v_callS1l d12_branchWorth_13 (mc12_blueWorth N (-p1) σ) ys12_blueWorth mlX12_309 (by decide) (Nat.le_of_ble_eq_true rfl) fun r1 t2 => ?_
    refine v_lneg d12_branchWorth_16 ?_
    exact v_lret d12_branchWorth_17 rfl rfl
  · refine v_lload_n d12_branchWorth_4 1 rfl rfl ?_
    refine v_callS1l d12_branchWorth_5 (mc12_blueWorth N p1 σ) ys12_blueWorth mlX12_309 (by decide) (Nat.le_of_ble_eq_true rfl) fun r3 t4 => ?_
    refine v_goto (tgt := 17) d12_branchWorth_8 (by decide) ?_
    exact v_lret d12_branchWorth_17 rfl rfl
theorem d12_laysWorths_0 : decode cX12_laysWorths 0 = .ok (.aload_n 0, 1) := by decide +kernel
theorem d12_laysWorths_1 : decode cX12_laysWorths 1 = .ok (.aload_n 0, 1) := by decide +kernel
theorem d12_laysWorths_2 : decode cX12_laysWorths 2 = .ok (.getfield 35, 3) := by decide +kernel
theorem d12_laysWorths_5 : decode cX12_laysWorths 5 = .ok (.iconst 3, 1) := by decide +kernel
theorem d12_laysWorths_6 : decode cX12_laysWorths 6 = .ok (.iaload, 1) := by decide +kernel
theorem d12_laysWorths_7 : decode cX12_laysWorths 7 = .ok (.i2l, 1) := by decide +kernel
theorem d12_laysWorths_8 : decode cX12_laysWorths 8 = .ok (.ldc2_w 307, 3) := by decide +kernel
theorem d12_laysWorths_11 : decode cX12_laysWorths 11 = .ok (.lmul, 1) := by decide +kernel
theorem d12_laysWorths_12 : decode cX12_laysWorths 12 = .ok (.putfield 312, 3) := by decide +kernel
theorem d12_laysWorths_15 : decode cX12_laysWorths 15 = .ok (.aload_n 0, 1) := by decide +kernel
theorem d12_laysWorths_16 : decode cX12_laysWorths 16 = .ok (.iconst 0, 1) := by decide +kernel
theorem d12_laysWorths_17 : decode cX12_laysWorths 17 = .ok (.putfield 315, 3) := by decide +kernel
theorem d12_laysWorths_20 : decode cX12_laysWorths 20 = .ok (.iconst 0, 1) := by decide +kernel
theorem d12_laysWorths_21 : decode cX12_laysWorths 21 = .ok (.istore 4, 2) := by decide +kernel
theorem d12_laysWorths_23 : decode cX12_laysWorths 23 = .ok (.iload 4, 2) := by decide +kernel
theorem d12_laysWorths_25 : decode cX12_laysWorths 25 = .ok (.aload_n 0, 1) := by decide +kernel
theorem d12_laysWorths_26 : decode cX12_laysWorths 26 = .ok (.getfield 35, 3) := by decide +kernel
theorem d12_laysWorths_29 : decode cX12_laysWorths 29 = .ok (.iconst 1, 1) := by decide +kernel
theorem d12_laysWorths_30 : decode cX12_laysWorths 30 = .ok (.iaload, 1) := by decide +kernel
theorem d12_laysWorths_31 : decode cX12_laysWorths 31 = .ok (.if_icmp .ge 28, 3) := by decide +kernel
theorem d12_laysWorths_34 : decode cX12_laysWorths 34 = .ok (.aload_n 0, 1) := by decide +kernel
theorem d12_laysWorths_35 : decode cX12_laysWorths 35 = .ok (.dup, 1) := by decide +kernel
theorem d12_laysWorths_36 : decode cX12_laysWorths 36 = .ok (.getfield 315, 3) := by decide +kernel
theorem d12_laysWorths_39 : decode cX12_laysWorths 39 = .ok (.aload_n 0, 1) := by decide +kernel
theorem d12_laysWorths_40 : decode cX12_laysWorths 40 = .ok (.getfield 35, 3) := by decide +kernel
theorem d12_laysWorths_43 : decode cX12_laysWorths 43 = .ok (.bipush 65, 2) := by decide +kernel
theorem d12_laysWorths_45 : decode cX12_laysWorths 45 = .ok (.iload 4, 2) := by decide +kernel
theorem d12_laysWorths_47 : decode cX12_laysWorths 47 = .ok (.iadd, 1) := by decide +kernel
theorem d12_laysWorths_48 : decode cX12_laysWorths 48 = .ok (.iaload, 1) := by decide +kernel
theorem d12_laysWorths_49 : decode cX12_laysWorths 49 = .ok (.ixor, 1) := by decide +kernel
theorem d12_laysWorths_50 : decode cX12_laysWorths 50 = .ok (.putfield 315, 3) := by decide +kernel
theorem d12_laysWorths_53 : decode cX12_laysWorths 53 = .ok (.iinc 4 1, 3) := by decide +kernel
theorem d12_laysWorths_56 : decode cX12_laysWorths 56 = .ok (.goto (-33), 3) := by decide +kernel
theorem d12_laysWorths_59 : decode cX12_laysWorths 59 = .ok (.iconst 0, 1) := by decide +kernel
theorem d12_laysWorths_60 : decode cX12_laysWorths 60 = .ok (.istore 4, 2) := by decide +kernel
theorem d12_laysWorths_62 : decode cX12_laysWorths 62 = .ok (.iload 4, 2) := by decide +kernel
theorem d12_laysWorths_64 : decode cX12_laysWorths 64 = .ok (.aload_n 0, 1) := by decide +kernel
theorem d12_laysWorths_65 : decode cX12_laysWorths 65 = .ok (.getfield 35, 3) := by decide +kernel
theorem d12_laysWorths_68 : decode cX12_laysWorths 68 = .ok (.iconst 0, 1) := by decide +kernel
theorem d12_laysWorths_69 : decode cX12_laysWorths 69 = .ok (.iaload, 1) := by decide +kernel
theorem d12_laysWorths_70 : decode cX12_laysWorths 70 = .ok (.if_icmp .ge 25, 3) := by decide +kernel
theorem d12_laysWorths_73 : decode cX12_laysWorths 73 = .ok (.aload_n 0, 1) := by decide +kernel
theorem d12_laysWorths_74 : decode cX12_laysWorths 74 = .ok (.getfield 41, 3) := by decide +kernel
theorem d12_laysWorths_77 : decode cX12_laysWorths 77 = .ok (.iload 4, 2) := by decide +kernel
theorem d12_laysWorths_79 : decode cX12_laysWorths 79 = .ok (.lconst 0, 1) := by decide +kernel
theorem d12_laysWorths_80 : decode cX12_laysWorths 80 = .ok (.lastore, 1) := by decide +kernel
theorem d12_laysWorths_81 : decode cX12_laysWorths 81 = .ok (.aload_n 0, 1) := by decide +kernel
theorem d12_laysWorths_82 : decode cX12_laysWorths 82 = .ok (.getfield 44, 3) := by decide +kernel
theorem d12_laysWorths_85 : decode cX12_laysWorths 85 = .ok (.iload 4, 2) := by decide +kernel
theorem d12_laysWorths_87 : decode cX12_laysWorths 87 = .ok (.iconst 0, 1) := by decide +kernel
theorem d12_laysWorths_88 : decode cX12_laysWorths 88 = .ok (.iastore, 1) := by decide +kernel
theorem d12_laysWorths_89 : decode cX12_laysWorths 89 = .ok (.iinc 4 1, 3) := by decide +kernel
theorem d12_laysWorths_92 : decode cX12_laysWorths 92 = .ok (.goto (-30), 3) := by decide +kernel
theorem d12_laysWorths_95 : decode cX12_laysWorths 95 = .ok (.aload_n 0, 1) := by decide +kernel
theorem d12_laysWorths_96 : decode cX12_laysWorths 96 = .ok (.getfield 35, 3) := by decide +kernel
theorem d12_laysWorths_99 : decode cX12_laysWorths 99 = .ok (.iconst 0, 1) := by decide +kernel
theorem d12_laysWorths_100 : decode cX12_laysWorths 100 = .ok (.iaload, 1) := by decide +kernel
theorem d12_laysWorths_101 : decode cX12_laysWorths 101 = .ok (.iconst 1, 1) := by decide +kernel
theorem d12_laysWorths_102 : decode cX12_laysWorths 102 = .ok (.isub, 1) := by decide +kernel
theorem d12_laysWorths_103 : decode cX12_laysWorths 103 = .ok (.istore 4, 2) := by decide +kernel
theorem d12_laysWorths_105 : decode cX12_laysWorths 105 = .ok (.iload 4, 2) := by decide +kernel
theorem d12_laysWorths_107 : decode cX12_laysWorths 107 = .ok (.ifCond .lt 185, 3) := by decide +kernel
theorem d12_laysWorths_110 : decode cX12_laysWorths 110 = .ok (.iload_n 1, 1) := by decide +kernel
theorem d12_laysWorths_111 : decode cX12_laysWorths 111 = .ok (.iload 4, 2) := by decide +kernel
theorem d12_laysWorths_113 : decode cX12_laysWorths 113 = .ok (.invokestatic 92, 3) := by decide +kernel
theorem d12_laysWorths_116 : decode cX12_laysWorths 116 = .ok (.ifCond .ne 6, 3) := by decide +kernel
theorem d12_laysWorths_119 : decode cX12_laysWorths 119 = .ok (.goto 167, 3) := by decide +kernel
theorem d12_laysWorths_122 : decode cX12_laysWorths 122 = .ok (.iload_n 2, 1) := by decide +kernel
theorem d12_laysWorths_123 : decode cX12_laysWorths 123 = .ok (.iload 4, 2) := by decide +kernel
theorem d12_laysWorths_125 : decode cX12_laysWorths 125 = .ok (.invokestatic 92, 3) := by decide +kernel
theorem d12_laysWorths_128 : decode cX12_laysWorths 128 = .ok (.ifCond .eq 20, 3) := by decide +kernel
theorem d12_laysWorths_131 : decode cX12_laysWorths 131 = .ok (.iload_n 3, 1) := by decide +kernel
theorem d12_laysWorths_132 : decode cX12_laysWorths 132 = .ok (.iload 4, 2) := by decide +kernel
theorem d12_laysWorths_134 : decode cX12_laysWorths 134 = .ok (.invokestatic 92, 3) := by decide +kernel
theorem d12_laysWorths_137 : decode cX12_laysWorths 137 = .ok (.ifCond .eq 7, 3) := by decide +kernel
theorem d12_laysWorths_140 : decode cX12_laysWorths 140 = .ok (.iconst 1, 1) := by decide +kernel
theorem d12_laysWorths_141 : decode cX12_laysWorths 141 = .ok (.goto 16, 3) := by decide +kernel
theorem d12_laysWorths_144 : decode cX12_laysWorths 144 = .ok (.iconst 0, 1) := by decide +kernel
theorem d12_laysWorths_145 : decode cX12_laysWorths 145 = .ok (.goto 12, 3) := by decide +kernel
theorem d12_laysWorths_148 : decode cX12_laysWorths 148 = .ok (.aload_n 0, 1) := by decide +kernel
theorem d12_laysWorths_149 : decode cX12_laysWorths 149 = .ok (.getfield 35, 3) := by decide +kernel
theorem d12_laysWorths_152 : decode cX12_laysWorths 152 = .ok (.iconst 5, 1) := by decide +kernel
theorem d12_laysWorths_153 : decode cX12_laysWorths 153 = .ok (.iload 4, 2) := by decide +kernel
theorem d12_laysWorths_155 : decode cX12_laysWorths 155 = .ok (.iadd, 1) := by decide +kernel
theorem d12_laysWorths_156 : decode cX12_laysWorths 156 = .ok (.iaload, 1) := by decide +kernel
theorem d12_laysWorths_157 : decode cX12_laysWorths 157 = .ok (.istore 5, 2) := by decide +kernel
theorem d12_laysWorths_159 : decode cX12_laysWorths 159 = .ok (.iload 5, 2) := by decide +kernel
theorem d12_laysWorths_161 : decode cX12_laysWorths 161 = .ok (.iconst 2, 1) := by decide +kernel
theorem d12_laysWorths_162 : decode cX12_laysWorths 162 = .ok (.if_icmp .ne 17, 3) := by decide +kernel
theorem d12_laysWorths_165 : decode cX12_laysWorths 165 = .ok (.aload_n 0, 1) := by decide +kernel
theorem d12_laysWorths_166 : decode cX12_laysWorths 166 = .ok (.getfield 44, 3) := by decide +kernel
theorem d12_laysWorths_169 : decode cX12_laysWorths 169 = .ok (.iload 4, 2) := by decide +kernel
theorem d12_laysWorths_171 : decode cX12_laysWorths 171 = .ok (.dup2, 1) := by decide +kernel
theorem d12_laysWorths_172 : decode cX12_laysWorths 172 = .ok (.iaload, 1) := by decide +kernel
theorem d12_laysWorths_173 : decode cX12_laysWorths 173 = .ok (.iconst 1, 1) := by decide +kernel
theorem d12_laysWorths_174 : decode cX12_laysWorths 174 = .ok (.iadd, 1) := by decide +kernel
theorem d12_laysWorths_175 : decode cX12_laysWorths 175 = .ok (.iastore, 1) := by decide +kernel
theorem d12_laysWorths_176 : decode cX12_laysWorths 176 = .ok (.goto 22, 3) := by decide +kernel
theorem d12_laysWorths_179 : decode cX12_laysWorths 179 = .ok (.aload_n 0, 1) := by decide +kernel
theorem d12_laysWorths_180 : decode cX12_laysWorths 180 = .ok (.getfield 41, 3) := by decide +kernel
theorem d12_laysWorths_183 : decode cX12_laysWorths 183 = .ok (.iload 4, 2) := by decide +kernel
theorem d12_laysWorths_185 : decode cX12_laysWorths 185 = .ok (.iload 5, 2) := by decide +kernel
theorem d12_laysWorths_187 : decode cX12_laysWorths 187 = .ok (.aload_n 0, 1) := by decide +kernel
theorem d12_laysWorths_188 : decode cX12_laysWorths 188 = .ok (.getfield 41, 3) := by decide +kernel
theorem d12_laysWorths_191 : decode cX12_laysWorths 191 = .ok (.iload 4, 2) := by decide +kernel
theorem d12_laysWorths_193 : decode cX12_laysWorths 193 = .ok (.laload, 1) := by decide +kernel
theorem d12_laysWorths_194 : decode cX12_laysWorths 194 = .ok (.invokestatic 318, 3) := by decide +kernel
theorem d12_laysWorths_197 : decode cX12_laysWorths 197 = .ok (.lastore, 1) := by decide +kernel
theorem d12_laysWorths_198 : decode cX12_laysWorths 198 = .ok (.aload_n 0, 1) := by decide +kernel
theorem d12_laysWorths_199 : decode cX12_laysWorths 199 = .ok (.getfield 35, 3) := by decide +kernel
theorem d12_laysWorths_202 : decode cX12_laysWorths 202 = .ok (.bipush 25, 2) := by decide +kernel
theorem d12_laysWorths_204 : decode cX12_laysWorths 204 = .ok (.iload 4, 2) := by decide +kernel
theorem d12_laysWorths_206 : decode cX12_laysWorths 206 = .ok (.iadd, 1) := by decide +kernel
theorem d12_laysWorths_207 : decode cX12_laysWorths 207 = .ok (.iaload, 1) := by decide +kernel
theorem d12_laysWorths_208 : decode cX12_laysWorths 208 = .ok (.iconst 1, 1) := by decide +kernel
theorem d12_laysWorths_209 : decode cX12_laysWorths 209 = .ok (.isub, 1) := by decide +kernel
theorem d12_laysWorths_210 : decode cX12_laysWorths 210 = .ok (.istore 6, 2) := by decide +kernel
theorem d12_laysWorths_212 : decode cX12_laysWorths 212 = .ok (.iload 6, 2) := by decide +kernel
theorem d12_laysWorths_214 : decode cX12_laysWorths 214 = .ok (.ifCond .lt 40, 3) := by decide +kernel
theorem d12_laysWorths_217 : decode cX12_laysWorths 217 = .ok (.aload_n 0, 1) := by decide +kernel
theorem d12_laysWorths_218 : decode cX12_laysWorths 218 = .ok (.getfield 41, 3) := by decide +kernel
theorem d12_laysWorths_221 : decode cX12_laysWorths 221 = .ok (.iload 6, 2) := by decide +kernel
theorem d12_laysWorths_223 : decode cX12_laysWorths 223 = .ok (.dup2, 1) := by decide +kernel
theorem d12_laysWorths_224 : decode cX12_laysWorths 224 = .ok (.laload, 1) := by decide +kernel
theorem d12_laysWorths_225 : decode cX12_laysWorths 225 = .ok (.aload_n 0, 1) := by decide +kernel
theorem d12_laysWorths_226 : decode cX12_laysWorths 226 = .ok (.getfield 41, 3) := by decide +kernel
theorem d12_laysWorths_229 : decode cX12_laysWorths 229 = .ok (.iload 4, 2) := by decide +kernel
theorem d12_laysWorths_231 : decode cX12_laysWorths 231 = .ok (.laload, 1) := by decide +kernel
theorem d12_laysWorths_232 : decode cX12_laysWorths 232 = .ok (.ladd, 1) := by decide +kernel
theorem d12_laysWorths_233 : decode cX12_laysWorths 233 = .ok (.lastore, 1) := by decide +kernel
theorem d12_laysWorths_234 : decode cX12_laysWorths 234 = .ok (.aload_n 0, 1) := by decide +kernel
theorem d12_laysWorths_235 : decode cX12_laysWorths 235 = .ok (.getfield 44, 3) := by decide +kernel
theorem d12_laysWorths_238 : decode cX12_laysWorths 238 = .ok (.iload 6, 2) := by decide +kernel
theorem d12_laysWorths_240 : decode cX12_laysWorths 240 = .ok (.dup2, 1) := by decide +kernel
theorem d12_laysWorths_241 : decode cX12_laysWorths 241 = .ok (.iaload, 1) := by decide +kernel
theorem d12_laysWorths_242 : decode cX12_laysWorths 242 = .ok (.aload_n 0, 1) := by decide +kernel
theorem d12_laysWorths_243 : decode cX12_laysWorths 243 = .ok (.getfield 44, 3) := by decide +kernel
theorem d12_laysWorths_246 : decode cX12_laysWorths 246 = .ok (.iload 4, 2) := by decide +kernel
theorem d12_laysWorths_248 : decode cX12_laysWorths 248 = .ok (.iaload, 1) := by decide +kernel
theorem d12_laysWorths_249 : decode cX12_laysWorths 249 = .ok (.ixor, 1) := by decide +kernel
theorem d12_laysWorths_250 : decode cX12_laysWorths 250 = .ok (.iastore, 1) := by decide +kernel
theorem d12_laysWorths_251 : decode cX12_laysWorths 251 = .ok (.goto 35, 3) := by decide +kernel
theorem d12_laysWorths_254 : decode cX12_laysWorths 254 = .ok (.aload_n 0, 1) := by decide +kernel
theorem d12_laysWorths_255 : decode cX12_laysWorths 255 = .ok (.dup, 1) := by decide +kernel
theorem d12_laysWorths_256 : decode cX12_laysWorths 256 = .ok (.getfield 312, 3) := by decide +kernel
theorem d12_laysWorths_259 : decode cX12_laysWorths 259 = .ok (.aload_n 0, 1) := by decide +kernel
theorem d12_laysWorths_260 : decode cX12_laysWorths 260 = .ok (.getfield 41, 3) := by decide +kernel
theorem d12_laysWorths_263 : decode cX12_laysWorths 263 = .ok (.iload 4, 2) := by decide +kernel
theorem d12_laysWorths_265 : decode cX12_laysWorths 265 = .ok (.laload, 1) := by decide +kernel
theorem d12_laysWorths_266 : decode cX12_laysWorths 266 = .ok (.ladd, 1) := by decide +kernel
theorem d12_laysWorths_267 : decode cX12_laysWorths 267 = .ok (.putfield 312, 3) := by decide +kernel
theorem d12_laysWorths_270 : decode cX12_laysWorths 270 = .ok (.aload_n 0, 1) := by decide +kernel
theorem d12_laysWorths_271 : decode cX12_laysWorths 271 = .ok (.dup, 1) := by decide +kernel
theorem d12_laysWorths_272 : decode cX12_laysWorths 272 = .ok (.getfield 315, 3) := by decide +kernel
theorem d12_laysWorths_275 : decode cX12_laysWorths 275 = .ok (.aload_n 0, 1) := by decide +kernel
theorem d12_laysWorths_276 : decode cX12_laysWorths 276 = .ok (.getfield 44, 3) := by decide +kernel
theorem d12_laysWorths_279 : decode cX12_laysWorths 279 = .ok (.iload 4, 2) := by decide +kernel
theorem d12_laysWorths_281 : decode cX12_laysWorths 281 = .ok (.iaload, 1) := by decide +kernel
theorem d12_laysWorths_282 : decode cX12_laysWorths 282 = .ok (.ixor, 1) := by decide +kernel
theorem d12_laysWorths_283 : decode cX12_laysWorths 283 = .ok (.putfield 315, 3) := by decide +kernel
theorem d12_laysWorths_286 : decode cX12_laysWorths 286 = .ok (.iinc 4 (-1), 3) := by decide +kernel
theorem d12_laysWorths_289 : decode cX12_laysWorths 289 = .ok (.goto (-184), 3) := by decide +kernel
theorem d12_laysWorths_292 : decode cX12_laysWorths 292 = .ok (.return_, 1) := by decide +kernel
abbrev K12_laysWorths : CK Unit := (enV, none, 7, 3, none)
noncomputable def F12_laysWorths_b286 (N : Nat) (k105 : Int32 × Int32 × Int32 × Int32 × Ms → Option (Unit × Ms)) (l1 : Int32) (l2 : Int32) (l3 : Int32) (l4 : Int32) (σ : Ms) : Option (Unit × Ms) :=
  k105 (l1, l2, l3, (l4 + (-1 : Int32)), σ)
noncomputable def F12_laysWorths_b198 (N : Nat) (k105 : Int32 × Int32 × Int32 × Int32 × Ms → Option (Unit × Ms)) (l1 : Int32) (l2 : Int32) (l3 : Int32) (l4 : Int32) (σ : Ms) : Option (Unit × Ms) :=
  ck (ixb ((25 : Int32) + l4) 1780) (lt ((σ.1 5 ((25 : Int32) + l4).toNatClampNeg) - (1 : Int32)) (fun x1 => if x1 < 0 then (ck (ixb l4 20) (lt (sL σ 0 25 ((σ.2 0 25) + (σ.2 7 l4.toNatClampNeg))) (fun t2 => ck (ixb l4 20) (lt (sI t2 0 26 ((t2.1 0 26) ^^^ (t2.1 8 l4.toNatClampNeg))) (fun t3 => F12_laysWorths_b286 N k105 l1 l2 l3 l4 t3)))))
  else (ck (ixb x1 20) (ck (ixb l4 20) (ck (ixb x1 20) (lt (sL σ 7 x1.toNatClampNeg ((σ.2 7 x1.toNatClampNeg) + (σ.2 7 l4.toNatClampNeg))) (fun t4 => ck (ixb x1 20) (ck (ixb l4 20) (ck (ixb x1 20) (lt (sI t4 8 x1.toNatClampNeg ((t4.1 8 x1.toNatClampNeg) ^^^ (t4.1 8 l4.toNatClampNeg))) (fun t5 => F12_laysWorths_b286 N k105 l1 l2 l3 l4 t5)))))))))))
noncomputable def F12_laysWorths_b157 (N : Nat) (k105 : Int32 × Int32 × Int32 × Int32 × Ms → Option (Unit × Ms)) (l1 : Int32) (l2 : Int32) (l3 : Int32) (l4 : Int32) (s0 : Int32) (σ : Ms) : Option (Unit × Ms) :=
  if s0 ≠ (2 : Int32) then (ck (ixb l4 20) (bn (F12_branchWorth N s0 (σ.2 7 l4.toNatClampNeg) σ) (fun r6 t7 => ck (ixb l4 20) (lt (sL t7 7 l4.toNatClampNeg r6) (fun t8 => F12_laysWorths_b198 N k105 l1 l2 l3 l4 t8)))))
  else (ck (ixb l4 20) (ck (ixb l4 20) (lt (sI σ 8 l4.toNatClampNeg ((σ.1 8 l4.toNatClampNeg) + (1 : Int32))) (fun t9 => F12_laysWorths_b198 N k105 l1 l2 l3 l4 t9))))
noncomputable def F12_laysWorths_b105B (N : Nat) (k105 : Int32 × Int32 × Int32 × Int32 × Ms → Option (Unit × Ms)) (l1 : Int32) (l2 : Int32) (l3 : Int32) (l4 : Int32) (σ : Ms) : Option (Unit × Ms) :=
  if l4 < 0 then (some ((), σ))
  else (bn (F12_has l1 l4 σ) (fun r10 t11 => if r10 ≠ 0 then (bn (F12_has l2 l4 t11) (fun r12 t13 => if r12 = 0 then (ck (ixb ((5 : Int32) + l4) 1780) (F12_laysWorths_b157 N k105 l1 l2 l3 l4 (t13.1 5 ((5 : Int32) + l4).toNatClampNeg) t13))
  else (bn (F12_has l3 l4 t13) (fun r14 t15 => if r14 = 0 then (F12_laysWorths_b157 N k105 l1 l2 l3 l4 (0 : Int32) t15)
  else (F12_laysWorths_b157 N k105 l1 l2 l3 l4 (1 : Int32) t15)))))
  else (F12_laysWorths_b286 N k105 l1 l2 l3 l4 t11)))
noncomputable def F12_laysWorths_b105 (N : Nat) (l1 : Int32) (l2 : Int32) (l3 : Int32) (l4 : Int32) (σ : Ms) : Option (Unit × Ms) :=
  fx N (fun k x => F12_laysWorths_b105B N k x.1 x.2.1 x.2.2.1 x.2.2.2.1 x.2.2.2.2) (l1, l2, l3, l4, σ)
noncomputable def F12_laysWorths_b62B (N : Nat) (k62 : Int32 × Int32 × Int32 × Int32 × Ms → Option (Unit × Ms)) (l1 : Int32) (l2 : Int32) (l3 : Int32) (l4 : Int32) (σ : Ms) : Option (Unit × Ms) :=
  ck (ixb (0 : Int32) 1780) (if (σ.1 5 (0 : Int32).toNatClampNeg) ≤ l4 then (ck (ixb (0 : Int32) 1780) (lt ((σ.1 5 (0 : Int32).toNatClampNeg) - (1 : Int32)) (fun x16 => F12_laysWorths_b105 N l1 l2 l3 x16 σ)))
  else (ck (ixb l4 20) (lt (sL σ 7 l4.toNatClampNeg (0 : Int64)) (fun t17 => ck (ixb l4 20) (lt (sI t17 8 l4.toNatClampNeg (0 : Int32)) (fun t18 => k62 (l1, l2, l3, (l4 + (1 : Int32)), t18)))))))
noncomputable def F12_laysWorths_b62 (N : Nat) (l1 : Int32) (l2 : Int32) (l3 : Int32) (l4 : Int32) (σ : Ms) : Option (Unit × Ms) :=
  fx N (fun k x => F12_laysWorths_b62B N k x.1 x.2.1 x.2.2.1 x.2.2.2.1 x.2.2.2.2) (l1, l2, l3, l4, σ)
noncomputable def F12_laysWorths_b23B (N : Nat) (k23 : Int32 × Int32 × Int32 × Int32 × Ms → Option (Unit × Ms)) (l1 : Int32) (l2 : Int32) (l3 : Int32) (l4 : Int32) (σ : Ms) : Option (Unit × Ms) :=
  ck (ixb (1 : Int32) 1780) (if (σ.1 5 (1 : Int32).toNatClampNeg) ≤ l4 then (F12_laysWorths_b62 N l1 l2 l3 (0 : Int32) σ)
  else (ck (ixb ((65 : Int32) + l4) 1780) (lt (sI σ 0 26 ((σ.1 0 26) ^^^ (σ.1 5 ((65 : Int32) + l4).toNatClampNeg))) (fun t19 => k23 (l1, l2, l3, (l4 + (1 : Int32)), t19)))))
noncomputable def F12_laysWorths_b23 (N : Nat) (l1 : Int32) (l2 : Int32) (l3 : Int32) (l4 : Int32) (σ : Ms) : Option (Unit × Ms) :=
  fx N (fun k x => F12_laysWorths_b23B N k x.1 x.2.1 x.2.2.1 x.2.2.2.1 x.2.2.2.2) (l1, l2, l3, l4, σ)
noncomputable def F12_laysWorths (N : Nat) (p0 : Int32) (p1 : Int32) (p2 : Int32) (σ : Ms) : Option (Unit × Ms) :=
  ck (ixb (3 : Int32) 1780) (lt (sL σ 0 25 (((σ.1 5 (3 : Int32).toNatClampNeg).toInt64) * (1048576 : Int64))) (fun t20 => lt (sI t20 0 26 (0 : Int32)) (fun t21 => F12_laysWorths_b23 N p0 p1 p2 (0 : Int32) t21)))
set_option maxRecDepth 100000 in
theorem v12_laysWorths_b286 (N : Nat) (k105 : Int32 × Int32 × Int32 × Int32 × Ms → Option (Unit × Ms)) (hk105 : ∀ (l1 : Int32) (l2 : Int32) (l3 : Int32) (l4 : Int32) (τ : Ms), VF (K12_laysWorths) cX12_laysWorths RX12 (k105 (l1, l2, l3, l4, τ)) τ 105 [(0, .ref 0), (1, .int l1), (2, .int l2), (3, .int l3), (4, .int l4)] []) (l1 : Int32) (l2 : Int32) (l3 : Int32) (l4 : Int32) (σ : Ms) : VF (K12_laysWorths) cX12_laysWorths RX12 (F12_laysWorths_b286 N k105 l1 l2 l3 l4 σ) σ 286 [(0, .ref 0), (1, .int l1), (2, .int l2), (3, .int l3), (4, .int l4)] [] := by
  unfold F12_laysWorths_b286
  refine v_iinc (lv' := [(4, .int (l4 + (-1 : Int32))), (0, .ref 0), (1, .int l1), (2, .int l2), (3, .int l3)]) d12_laysWorths_286 4 rfl (by rw [ki_m1]) (by decide) rfl ?_
  refine v_goto (tgt := 105) d12_laysWorths_289 (by decide) ?_
  refine v_sub [1, 2, 3, 4, 0] rfl ?_
  exact hk105 l1 l2 l3 (l4 + (-1 : Int32)) σ
set_option maxRecDepth 100000 in
theorem v12_laysWorths_b198 (N : Nat) (k105 : Int32 × Int32 × Int32 × Int32 × Ms → Option (Unit × Ms)) (hk105 : ∀ (l1 : Int32) (l2 : Int32) (l3 : Int32) (l4 : Int32) (τ : Ms), VF (K12_laysWorths) cX12_laysWorths RX12 (k105 (l1, l2, l3, l4, τ)) τ 105 [(0, .ref 0), (1, .int l1), (2, .int l2), (3, .int l3), (4, .int l4)] []) (l1 : Int32) (l2 : Int32) (l3 : Int32) (l4 : Int32) (σ : Ms) : VF (K12_laysWorths) cX12_laysWorths RX12 (F12_laysWorths_b198 N k105 l1 l2 l3 l4 σ) σ 198 [(0, .ref 0), (1, .int l1), (2, .int l2), (3, .int l3), (4, .int l4)] [] := by
  unfold F12_laysWorths_b198
  refine v_aload_n d12_laysWorths_198 0 rfl rfl ?_
  refine v_getR d12_laysWorths_199 faX12_35 ic_0 rfl ?_
  refine v_bipush d12_laysWorths_202 kb_25 ?_
  refine v_iload d12_laysWorths_204 4 rfl ?_
  refine v_iadd d12_laysWorths_206 ?_
  refine v_iald d12_laysWorths_207 ic_5 ?_
  refine v_iconst d12_laysWorths_208 ki_1 ?_
  refine v_isub d12_laysWorths_209 ?_
  refine v_lti fun x1 => ?_
  refine v_istore (lv' := [(6, .int x1), (0, .ref 0), (1, .int l1), (2, .int l2), (3, .int l3), (4, .int l4)]) d12_laysWorths_210 (by decide) rfl ?_
  refine v_iload d12_laysWorths_212 0 rfl ?_
  refine v_if_lt (tgt := 254) d12_laysWorths_214 (by decide) ?_ ?_
  · refine v_aload_n d12_laysWorths_254 1 rfl rfl ?_
    refine v_dup d12_laysWorths_255 rfl ?_
    refine v_getL d12_laysWorths_256 faX12_312 ic_0 ?_
    refine v_aload_n d12_laysWorths_259 1 rfl rfl ?_
    refine v_getR d12_laysWorths_260 faX12_41 ic_0 rfl ?_
    refine v_iload d12_laysWorths_263 5 rfl ?_
    refine v_lald d12_laysWorths_265 ic_7 ?_
    refine v_ladd d12_laysWorths_266 ?_
    refine v_putL d12_laysWorths_267 faX12_312 fp9_25 ic_0 ?_
    refine v_lts fun t2 => ?_
    refine v_aload_n d12_laysWorths_270 1 rfl rfl ?_
    refine v_dup d12_laysWorths_271 rfl ?_
    refine v_getI d12_laysWorths_272 faX12_315 ic_0 ?_
    refine v_aload_n d12_laysWorths_275 1 rfl rfl ?_
    refine v_getR d12_laysWorths_276 faX12_44 ic_0 rfl ?_
    refine v_iload d12_laysWorths_279 5 rfl ?_
    refine v_iald d12_laysWorths_281 ic_8 ?_
    refine v_ixor d12_laysWorths_282 ?_
    refine v_putI d12_laysWorths_283 faX12_315 fp9_26 ic_0 ?_
    refine v_lts fun t3 => ?_
    refine v_sub [1, 2, 3, 4, 5] rfl ?_
    exact v12_laysWorths_b286 N k105 hk105 l1 l2 l3 l4 t3
  · refine v_aload_n d12_laysWorths_217 1 rfl rfl ?_
    refine v_getR d12_laysWorths_218 faX12_41 ic_0 rfl ?_
    refine v_iload d12_laysWorths_221 0 rfl ?_
    refine v_dup2_11 d12_laysWorths_223 rfl rfl ?_
    refine v_lald d12_laysWorths_224 ic_7 ?_
    refine v_aload_n d12_laysWorths_225 1 rfl rfl ?_
    refine v_getR d12_laysWorths_226 faX12_41 ic_0 rfl ?_
    refine v_iload d12_laysWorths_229 5 rfl ?_
    refine v_lald d12_laysWorths_231 ic_7 ?_
    refine v_ladd d12_laysWorths_232 ?_
    refine v_last d12_laysWorths_233 ic_7 ?_
    refine v_lts fun t4 => ?_
    refine v_aload_n d12_laysWorths_234 1 rfl rfl ?_
    refine v_getR d12_laysWorths_235 faX12_44 ic_0 rfl ?_
    refine v_iload d12_laysWorths_238 0 rfl ?_
    refine v_dup2_11 d12_laysWorths_240 rfl rfl ?_
    refine v_iald d12_laysWorths_241 ic_8 ?_
    refine v_aload_n d12_laysWorths_242 1 rfl rfl ?_
    refine v_getR d12_laysWorths_243 faX12_44 ic_0 rfl ?_
    refine v_iload d12_laysWorths_246 5 rfl ?_
    refine v_iald d12_laysWorths_248 ic_8 ?_
    refine v_ixor d12_laysWorths_249 ?_
    refine v_iast d12_laysWorths_250 ic_8 ?_
    refine v_lts fun t5 => ?_
    refine v_goto (tgt := 286) d12_laysWorths_251 (by decide) ?_
    refine v_sub [1, 2, 3, 4, 5] rfl ?_
    exact v12_laysWorths_b286 N k105 hk105 l1 l2 l3 l4 t5
set_option maxRecDepth 100000 in
theorem v12_laysWorths_b157 (N : Nat) (k105 : Int32 × Int32 × Int32 × Int32 × Ms → Option (Unit × Ms)) (hk105 : ∀ (l1 : Int32) (l2 : Int32) (l3 : Int32) (l4 : Int32) (τ : Ms), VF (K12_laysWorths) cX12_laysWorths RX12 (k105 (l1, l2, l3, l4, τ)) τ 105 [(0, .ref 0), (1, .int l1), (2, .int l2), (3, .int l3), (4, .int l4)] []) (l1 : Int32) (l2 : Int32) (l3 : Int32) (l4 : Int32) (s0 : Int32) (σ : Ms) : VF (K12_laysWorths) cX12_laysWorths RX12 (F12_laysWorths_b157 N k105 l1 l2 l3 l4 s0 σ) σ 157 [(0, .ref 0), (1, .int l1), (2, .int l2), (3, .int l3), (4, .int l4)] [.int s0] := by
  unfold F12_laysWorths_b157
  refine v_istore (lv' := [(5, .int s0), (0, .ref 0), (1, .int l1), (2, .int l2), (3, .int l3), (4, .int l4)]) d12_laysWorths_157 (by decide) rfl ?_
  refine v_iload d12_laysWorths_159 0 rfl ?_
  refine v_iconst d12_laysWorths_161 ki_2 ?_
  refine v_icmp_ne (tgt := 179) d12_laysWorths_162 (by decide) ?_ ?_
  · refine v_aload_n d12_laysWorths_179 1 rfl rfl ?_
    refine v_getR d12_laysWorths_180 faX12_41 ic_0 rfl ?_
    refine v_iload d12_laysWorths_183 5 rfl ?_
    refine v_iload d12_laysWorths_185 0 rfl ?_
    refine v_aload_n d12_laysWorths_187 1 rfl rfl ?_
    refine v_getR d12_laysWorths_188 faX12_41 ic_0 rfl ?_
    refine v_iload d12_laysWorths_191 5 rfl ?_
    refine v_lald d12_laysWorths_193 ic_7 ?_
    refine v_callS2l d12_laysWorths_194 (mc12_branchWorth N s0 (σ.2 7 l4.toNatClampNeg) σ) ys12_branchWorth mlX12_318 (by decide) (Nat.le_of_ble_eq_true rfl) fun r6 t7 => ?_
    refine v_last d12_laysWorths_197 ic_7 ?_
    refine v_lts fun t8 => ?_
    refine v_sub [1, 2, 3, 4, 5] rfl ?_
    exact v12_laysWorths_b198 N k105 hk105 l1 l2 l3 l4 t8
  · refine v_aload_n d12_laysWorths_165 1 rfl rfl ?_
    refine v_getR d12_laysWorths_166 faX12_44 ic_0 rfl ?_
    refine v_iload d12_laysWorths_169 5 rfl ?_
    refine v_dup2_11 d12_laysWorths_171 rfl rfl ?_
    refine v_iald d12_laysWorths_172 ic_8 ?_
    refine v_iconst d12_laysWorths_173 ki_1 ?_
    refine v_iadd d12_laysWorths_174 ?_
    refine v_iast d12_laysWorths_175 ic_8 ?_
    refine v_lts fun t9 => ?_
    refine v_goto (tgt := 198) d12_laysWorths_176 (by decide) ?_
    refine v_sub [1, 2, 3, 4, 5] rfl ?_
    exact v12_laysWorths_b198 N k105 hk105 l1 l2 l3 l4 t9
set_option maxRecDepth 100000 in
theorem v12_laysWorths_b105B (N : Nat) (k105 : Int32 × Int32 × Int32 × Int32 × Ms → Option (Unit × Ms)) (hk105 : ∀ (l1 : Int32) (l2 : Int32) (l3 : Int32) (l4 : Int32) (τ : Ms), VF (K12_laysWorths) cX12_laysWorths RX12 (k105 (l1, l2, l3, l4, τ)) τ 105 [(0, .ref 0), (1, .int l1), (2, .int l2), (3, .int l3), (4, .int l4)] []) (l1 : Int32) (l2 : Int32) (l3 : Int32) (l4 : Int32) (σ : Ms) : VF (K12_laysWorths) cX12_laysWorths RX12 (F12_laysWorths_b105B N k105 l1 l2 l3 l4 σ) σ 105 [(0, .ref 0), (1, .int l1), (2, .int l2), (3, .int l3), (4, .int l4)] [] := by
  unfold F12_laysWorths_b105B
  refine v_iload d12_laysWorths_105 4 rfl ?_
  refine v_if_lt (tgt := 292) d12_laysWorths_107 (by decide) ?_ ?_
  · exact v_vret d12_laysWorths_292 rfl
  · refine v_iload_n d12_laysWorths_110 1 rfl rfl ?_
    refine v_iload d12_laysWorths_111 4 rfl ?_
    refine v_callS2i d12_laysWorths_113 (mc12_has l1 l4 σ) ys12_has mlX12_92 (by decide) (Nat.le_of_ble_eq_true rfl) fun r10 t11 => ?_
    refine v_if_ne (tgt := 122) d12_laysWorths_116 (by decide) ?_ ?_
    · refine v_iload_n d12_laysWorths_122 2 rfl rfl ?_
      refine v_iload d12_laysWorths_123 4 rfl ?_
      refine v_callS2i d12_laysWorths_125 (mc12_has l2 l4 t11) ys12_has mlX12_92 (by decide) (Nat.le_of_ble_eq_true rfl) fun r12 t13 => ?_
      refine v_if_eq (tgt := 148) d12_laysWorths_128 (by decide) ?_ ?_
      · refine v_aload_n d12_laysWorths_148 0 rfl rfl ?_
        refine v_getR d12_laysWorths_149 faX12_35 ic_0 rfl ?_
        refine v_iconst d12_laysWorths_152 ki_5 ?_
        refine v_iload d12_laysWorths_153 4 rfl ?_
        refine v_iadd d12_laysWorths_155 ?_
        refine v_iald d12_laysWorths_156 ic_5 ?_
        exact v12_laysWorths_b157 N k105 hk105 l1 l2 l3 l4 (t13.1 5 ((5 : Int32) + l4).toNatClampNeg) t13
      · refine v_iload_n d12_laysWorths_131 3 rfl rfl ?_
        refine v_iload d12_laysWorths_132 4 rfl ?_
        refine v_callS2i d12_laysWorths_134 (mc12_has l3 l4 t13) ys12_has mlX12_92 (by decide) (Nat.le_of_ble_eq_true rfl) fun r14 t15 => ?_
        refine v_if_eq (tgt := 144) d12_laysWorths_137 (by decide) ?_ ?_
        · refine v_iconst d12_laysWorths_144 ki_0 ?_
          refine v_goto (tgt := 157) d12_laysWorths_145 (by decide) ?_
          exact v12_laysWorths_b157 N k105 hk105 l1 l2 l3 l4 (0 : Int32) t15
        · refine v_iconst d12_laysWorths_140 ki_1 ?_
          refine v_goto (tgt := 157) d12_laysWorths_141 (by decide) ?_
          exact v12_laysWorths_b157 N k105 hk105 l1 l2 l3 l4 (1 : Int32) t15
    · refine v_goto (tgt := 286) d12_laysWorths_119 (by decide) ?_
      exact v12_laysWorths_b286 N k105 hk105 l1 l2 l3 l4 t11
theorem v12_laysWorths_b105 (N : Nat) (l1 : Int32) (l2 : Int32) (l3 : Int32) (l4 : Int32) (σ : Ms) : VF (K12_laysWorths) cX12_laysWorths RX12 (F12_laysWorths_b105 N l1 l2 l3 l4 σ) σ 105 [(0, .ref 0), (1, .int l1), (2, .int l2), (3, .int l3), (4, .int l4)] [] := v_fx (σo := fun x => x.2.2.2.2) (lo := fun x => [(0, .ref 0), (1, .int x.1), (2, .int x.2.1), (3, .int x.2.2.1), (4, .int x.2.2.2.1)]) (fun k hk x => v12_laysWorths_b105B N k (fun l1 l2 l3 l4 τ => hk (l1, l2, l3, l4, τ)) x.1 x.2.1 x.2.2.1 x.2.2.2.1 x.2.2.2.2) N (l1, l2, l3, l4, σ)
set_option maxRecDepth 100000 in
theorem v12_laysWorths_b62B (N : Nat) (k62 : Int32 × Int32 × Int32 × Int32 × Ms → Option (Unit × Ms)) (hk62 : ∀ (l1 : Int32) (l2 : Int32) (l3 : Int32) (l4 : Int32) (τ : Ms), VF (K12_laysWorths) cX12_laysWorths RX12 (k62 (l1, l2, l3, l4, τ)) τ 62 [(0, .ref 0), (1, .int l1), (2, .int l2), (3, .int l3), (4, .int l4)] []) (l1 : Int32) (l2 : Int32) (l3 : Int32) (l4 : Int32) (σ : Ms) : VF (K12_laysWorths) cX12_laysWorths RX12 (F12_laysWorths_b62B N k62 l1 l2 l3 l4 σ) σ 62 [(0, .ref 0), (1, .int l1), (2, .int l2), (3, .int l3), (4, .int l4)] [] := by
  unfold F12_laysWorths_b62B
  refine v_iload d12_laysWorths_62 4 rfl ?_
  refine v_aload_n d12_laysWorths_64 0 rfl rfl ?_
  refine v_getR d12_laysWorths_65 faX12_35 ic_0 rfl ?_
  refine v_iconst d12_laysWorths_68 ki_0 ?_
  refine v_iald d12_laysWorths_69 ic_5 ?_
  refine v_icmp_ge (tgt := 95) d12_laysWorths_70 (by decide) ?_ ?_
  · refine v_aload_n d12_laysWorths_95 0 rfl rfl ?_
    refine v_getR d12_laysWorths_96 faX12_35 ic_0 rfl ?_
    refine v_iconst d12_laysWorths_99 ki_0 ?_
    refine v_iald d12_laysWorths_100 ic_5 ?_
    refine v_iconst d12_laysWorths_101 ki_1 ?_
    refine v_isub d12_laysWorths_102 ?_
    refine v_lti fun x16 => ?_
    refine v_istore (lv' := [(4, .int x16), (0, .ref 0), (1, .int l1), (2, .int l2), (3, .int l3)]) d12_laysWorths_103 (by decide) rfl ?_
    refine v_sub [1, 2, 3, 4, 0] rfl ?_
    exact v12_laysWorths_b105 N l1 l2 l3 x16 σ
  · refine v_aload_n d12_laysWorths_73 0 rfl rfl ?_
    refine v_getR d12_laysWorths_74 faX12_41 ic_0 rfl ?_
    refine v_iload d12_laysWorths_77 4 rfl ?_
    refine v_lconst d12_laysWorths_79 kl_0 ?_
    refine v_last d12_laysWorths_80 ic_7 ?_
    refine v_lts fun t17 => ?_
    refine v_aload_n d12_laysWorths_81 0 rfl rfl ?_
    refine v_getR d12_laysWorths_82 faX12_44 ic_0 rfl ?_
    refine v_iload d12_laysWorths_85 4 rfl ?_
    refine v_iconst d12_laysWorths_87 ki_0 ?_
    refine v_iast d12_laysWorths_88 ic_8 ?_
    refine v_lts fun t18 => ?_
    refine v_iinc (lv' := [(4, .int (l4 + (1 : Int32))), (0, .ref 0), (1, .int l1), (2, .int l2), (3, .int l3)]) d12_laysWorths_89 4 rfl (by rw [ki_1]) (by decide) rfl ?_
    refine v_goto (tgt := 62) d12_laysWorths_92 (by decide) ?_
    refine v_sub [1, 2, 3, 4, 0] rfl ?_
    exact hk62 l1 l2 l3 (l4 + (1 : Int32)) t18
theorem v12_laysWorths_b62 (N : Nat) (l1 : Int32) (l2 : Int32) (l3 : Int32) (l4 : Int32) (σ : Ms) : VF (K12_laysWorths) cX12_laysWorths RX12 (F12_laysWorths_b62 N l1 l2 l3 l4 σ) σ 62 [(0, .ref 0), (1, .int l1), (2, .int l2), (3, .int l3), (4, .int l4)] [] := v_fx (σo := fun x => x.2.2.2.2) (lo := fun x => [(0, .ref 0), (1, .int x.1), (2, .int x.2.1), (3, .int x.2.2.1), (4, .int x.2.2.2.1)]) (fun k hk x => v12_laysWorths_b62B N k (fun l1 l2 l3 l4 τ => hk (l1, l2, l3, l4, τ)) x.1 x.2.1 x.2.2.1 x.2.2.2.1 x.2.2.2.2) N (l1, l2, l3, l4, σ)
set_option maxRecDepth 100000 in
theorem v12_laysWorths_b23B (N : Nat) (k23 : Int32 × Int32 × Int32 × Int32 × Ms → Option (Unit × Ms)) (hk23 : ∀ (l1 : Int32) (l2 : Int32) (l3 : Int32) (l4 : Int32) (τ : Ms), VF (K12_laysWorths) cX12_laysWorths RX12 (k23 (l1, l2, l3, l4, τ)) τ 23 [(0, .ref 0), (1, .int l1), (2, .int l2), (3, .int l3), (4, .int l4)] []) (l1 : Int32) (l2 : Int32) (l3 : Int32) (l4 : Int32) (σ : Ms) : VF (K12_laysWorths) cX12_laysWorths RX12 (F12_laysWorths_b23B N k23 l1 l2 l3 l4 σ) σ 23 [(0, .ref 0), (1, .int l1), (2, .int l2), (3, .int l3), (4, .int l4)] [] := by
  unfold F12_laysWorths_b23B
  refine v_iload d12_laysWorths_23 4 rfl ?_
  refine v_aload_n d12_laysWorths_25 0 rfl rfl ?_
  refine v_getR d12_laysWorths_26 faX12_35 ic_0 rfl ?_
  refine v_iconst d12_laysWorths_29 ki_1 ?_
  refine v_iald d12_laysWorths_30 ic_5 ?_
  refine v_icmp_ge (tgt := 59) d12_laysWorths_31 (by decide) ?_ ?_
  · refine v_iconst d12_laysWorths_59 ki_0 ?_
    refine v_istore (lv' := [(4, .int (0 : Int32)), (0, .ref 0), (1, .int l1), (2, .int l2), (3, .int l3)]) d12_laysWorths_60 (by decide) rfl ?_
    refine v_sub [1, 2, 3, 4, 0] rfl ?_
    exact v12_laysWorths_b62 N l1 l2 l3 (0 : Int32) σ
  · refine v_aload_n d12_laysWorths_34 0 rfl rfl ?_
    refine v_dup d12_laysWorths_35 rfl ?_
    refine v_getI d12_laysWorths_36 faX12_315 ic_0 ?_
    refine v_aload_n d12_laysWorths_39 0 rfl rfl ?_
    refine v_getR d12_laysWorths_40 faX12_35 ic_0 rfl ?_
    refine v_bipush d12_laysWorths_43 kb_65 ?_
    refine v_iload d12_laysWorths_45 4 rfl ?_
    refine v_iadd d12_laysWorths_47 ?_
    refine v_iald d12_laysWorths_48 ic_5 ?_
    refine v_ixor d12_laysWorths_49 ?_
    refine v_putI d12_laysWorths_50 faX12_315 fp9_26 ic_0 ?_
    refine v_lts fun t19 => ?_
    refine v_iinc (lv' := [(4, .int (l4 + (1 : Int32))), (0, .ref 0), (1, .int l1), (2, .int l2), (3, .int l3)]) d12_laysWorths_53 4 rfl (by rw [ki_1]) (by decide) rfl ?_
    refine v_goto (tgt := 23) d12_laysWorths_56 (by decide) ?_
    refine v_sub [1, 2, 3, 4, 0] rfl ?_
    exact hk23 l1 l2 l3 (l4 + (1 : Int32)) t19
theorem v12_laysWorths_b23 (N : Nat) (l1 : Int32) (l2 : Int32) (l3 : Int32) (l4 : Int32) (σ : Ms) : VF (K12_laysWorths) cX12_laysWorths RX12 (F12_laysWorths_b23 N l1 l2 l3 l4 σ) σ 23 [(0, .ref 0), (1, .int l1), (2, .int l2), (3, .int l3), (4, .int l4)] [] := v_fx (σo := fun x => x.2.2.2.2) (lo := fun x => [(0, .ref 0), (1, .int x.1), (2, .int x.2.1), (3, .int x.2.2.1), (4, .int x.2.2.2.1)]) (fun k hk x => v12_laysWorths_b23B N k (fun l1 l2 l3 l4 τ => hk (l1, l2, l3, l4, τ)) x.1 x.2.1 x.2.2.1 x.2.2.2.1 x.2.2.2.2) N (l1, l2, l3, l4, σ)
set_option maxRecDepth 100000 in
theorem mc12_laysWorths (N : Nat) (p0 : Int32) (p1 : Int32) (p2 : Int32) (σ : Ms) : MC enV yX12_laysWorths cX12_laysWorths 7 none 3 (F12_laysWorths N p0 p1 p2 σ) σ [.ref 0, .int p0, .int p1, .int p2] := by
  refine MC.v (by decide +kernel) (Nat.le_of_ble_eq_true rfl) ?_
  show VF (K12_laysWorths) cX12_laysWorths RX12 (F12_laysWorths N p0 p1 p2 σ) σ 0 [(0, .ref 0), (1, .int p0), (2, .int p1), (3, .int p2)] []
  unfold F12_laysWorths
  refine v_aload_n d12_laysWorths_0 0 rfl rfl ?_
  refine v_aload_n d12_laysWorths_1 0 rfl rfl ?_
  refine v_getR d12_laysWorths_2 faX12_35 ic_0 rfl ?_
  refine v_iconst d12_laysWorths_5 ki_3 ?_
  refine v_iald d12_laysWorths_6 ic_5 ?_
  refine v_i2l d12_laysWorths_7 ?_
  refine v_ldc2 d12_laysWorths_8 klX12_307 ?_
  refine v_lmul d12_laysWorths_11 ?_
  refine v_putL d12_laysWorths_12 faX12_312 fp9_25 ic_0 ?_
  refine v_lts fun t20 => ?_
  refine v_aload_n d12_laysWorths_15 0 rfl rfl ?_
  refine v_iconst d12_laysWorths_16 ki_0 ?_
  refine v_putI d12_laysWorths_17 faX12_315 fp9_26 ic_0 ?_
  refine v_lts fun t21 => ?_
  refine v_iconst d12_laysWorths_20 ki_0 ?_
  refine v_istore (lv' := [(4, .int (0 : Int32)), (0, .ref 0), (1, .int p0), (2, .int p1), (3, .int p2)]) d12_laysWorths_21 (by decide) rfl ?_
  refine v_sub [1, 2, 3, 4, 0] rfl ?_
  exact v12_laysWorths_b23 N p0 p1 p2 (0 : Int32) t21
