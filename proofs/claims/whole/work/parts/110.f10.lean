theorem d7_leavesToLuck_0 : decode cX7_leavesToLuck 0 = .ok (.aload_n 0, 1) := by decide +kernel
theorem d7_leavesToLuck_1 : decode cX7_leavesToLuck 1 = .ok (.getfield 40, 3) := by decide +kernel
theorem d7_leavesToLuck_4 : decode cX7_leavesToLuck 4 = .ok (.invokestatic 67, 3) := by decide +kernel
theorem d7_leavesToLuck_7 : decode cX7_leavesToLuck 7 = .ok (.bipush 6, 2) := by decide +kernel
theorem d7_leavesToLuck_9 : decode cX7_leavesToLuck 9 = .ok (.if_icmp .gt 10, 3) := by decide +kernel
theorem d7_leavesToLuck_12 : decode cX7_leavesToLuck 12 = .ok (.aload_n 0, 1) := by decide +kernel
theorem d7_leavesToLuck_13 : decode cX7_leavesToLuck 13 = .ok (.getfield 70, 3) := by decide +kernel
theorem d7_leavesToLuck_16 : decode cX7_leavesToLuck 16 = .ok (.ifCond .eq 5, 3) := by decide +kernel
theorem d7_leavesToLuck_19 : decode cX7_leavesToLuck 19 = .ok (.iconst 0, 1) := by decide +kernel
theorem d7_leavesToLuck_20 : decode cX7_leavesToLuck 20 = .ok (.ireturn, 1) := by decide +kernel
theorem d7_leavesToLuck_21 : decode cX7_leavesToLuck 21 = .ok (.aload_n 0, 1) := by decide +kernel
theorem d7_leavesToLuck_22 : decode cX7_leavesToLuck 22 = .ok (.aload_n 0, 1) := by decide +kernel
theorem d7_leavesToLuck_23 : decode cX7_leavesToLuck 23 = .ok (.getfield 73, 3) := by decide +kernel
theorem d7_leavesToLuck_26 : decode cX7_leavesToLuck 26 = .ok (.invokevirtual 76, 3) := by decide +kernel
theorem d7_leavesToLuck_29 : decode cX7_leavesToLuck 29 = .ok (.iconst (-1), 1) := by decide +kernel
theorem d7_leavesToLuck_30 : decode cX7_leavesToLuck 30 = .ok (.if_icmp .eq 5, 3) := by decide +kernel
theorem d7_leavesToLuck_33 : decode cX7_leavesToLuck 33 = .ok (.iconst 0, 1) := by decide +kernel
theorem d7_leavesToLuck_34 : decode cX7_leavesToLuck 34 = .ok (.ireturn, 1) := by decide +kernel
theorem d7_leavesToLuck_35 : decode cX7_leavesToLuck 35 = .ok (.iconst 0, 1) := by decide +kernel
theorem d7_leavesToLuck_36 : decode cX7_leavesToLuck 36 = .ok (.istore_n 1, 1) := by decide +kernel
theorem d7_leavesToLuck_37 : decode cX7_leavesToLuck 37 = .ok (.iload_n 1, 1) := by decide +kernel
theorem d7_leavesToLuck_38 : decode cX7_leavesToLuck 38 = .ok (.iconst 4, 1) := by decide +kernel
theorem d7_leavesToLuck_39 : decode cX7_leavesToLuck 39 = .ok (.if_icmp .ge 28, 3) := by decide +kernel
theorem d7_leavesToLuck_42 : decode cX7_leavesToLuck 42 = .ok (.aload_n 0, 1) := by decide +kernel
theorem d7_leavesToLuck_43 : decode cX7_leavesToLuck 43 = .ok (.iload_n 1, 1) := by decide +kernel
theorem d7_leavesToLuck_44 : decode cX7_leavesToLuck 44 = .ok (.invokevirtual 79, 3) := by decide +kernel
theorem d7_leavesToLuck_47 : decode cX7_leavesToLuck 47 = .ok (.ifCond .eq 14, 3) := by decide +kernel
theorem d7_leavesToLuck_50 : decode cX7_leavesToLuck 50 = .ok (.aload_n 0, 1) := by decide +kernel
theorem d7_leavesToLuck_51 : decode cX7_leavesToLuck 51 = .ok (.getfield 83, 3) := by decide +kernel
theorem d7_leavesToLuck_54 : decode cX7_leavesToLuck 54 = .ok (.iload_n 1, 1) := by decide +kernel
theorem d7_leavesToLuck_55 : decode cX7_leavesToLuck 55 = .ok (.iaload, 1) := by decide +kernel
theorem d7_leavesToLuck_56 : decode cX7_leavesToLuck 56 = .ok (.ifCond .le 5, 3) := by decide +kernel
theorem d7_leavesToLuck_59 : decode cX7_leavesToLuck 59 = .ok (.iconst 0, 1) := by decide +kernel
theorem d7_leavesToLuck_60 : decode cX7_leavesToLuck 60 = .ok (.ireturn, 1) := by decide +kernel
theorem d7_leavesToLuck_61 : decode cX7_leavesToLuck 61 = .ok (.iinc 1 1, 3) := by decide +kernel
theorem d7_leavesToLuck_64 : decode cX7_leavesToLuck 64 = .ok (.goto (-27), 3) := by decide +kernel
theorem d7_leavesToLuck_67 : decode cX7_leavesToLuck 67 = .ok (.iconst 1, 1) := by decide +kernel
theorem d7_leavesToLuck_68 : decode cX7_leavesToLuck 68 = .ok (.ireturn, 1) := by decide +kernel
abbrev K7_leavesToLuck : CK Int32 := (enI, (some .boolean), 2, 3, none)
noncomputable def F7_leavesToLuck_b61 (N : Nat) (q0 : Nat) (k37 : Int32 × Ms → Option (Int32 × Ms)) (l1 : Int32) (σ : Ms) : Option (Int32 × Ms) :=
  k37 ((l1 + (1 : Int32)), σ)
noncomputable def F7_leavesToLuck_b37B (N : Nat) (q0 : Nat) (k37 : Int32 × Ms → Option (Int32 × Ms)) (l1 : Int32) (σ : Ms) : Option (Int32 × Ms) :=
  if (4 : Int32) ≤ l1 then (some ((1 : Int32), σ))
  else (bn (F0_hasHeap q0 l1 σ) (fun r1 t2 => if r1 = 0 then (F7_leavesToLuck_b61 N q0 k37 l1 t2)
  else (ck (ixb l1 4) (if (t2.1 (q0 + 3) l1.toNatClampNeg) ≤ 0 then (F7_leavesToLuck_b61 N q0 k37 l1 t2)
  else (some ((0 : Int32), t2))))))
noncomputable def F7_leavesToLuck_b37 (N : Nat) (q0 : Nat) (l1 : Int32) (σ : Ms) : Option (Int32 × Ms) :=
  fx N (fun k x => F7_leavesToLuck_b37B N q0 k x.1 x.2) (l1, σ)
noncomputable def F7_leavesToLuck (N : Nat) (q0 : Nat) (σ : Ms) : Option (Int32 × Ms) :=
  bn (FJ6_bitCount_0f7a4 (σ.1 q0 6) σ) (fun r3 t4 => if (6 : Int32) < r3 then (some ((0 : Int32), t4))
  else (if (t4.1 q0 10) = 0 then (bn (F0_hottestBut N q0 (t4.1 q0 9) t4) (fun r5 t6 => if r5 = (-1 : Int32) then (F7_leavesToLuck_b37 N q0 (0 : Int32) t6)
  else (some ((0 : Int32), t6))))
  else (some ((0 : Int32), t4))))
set_option maxRecDepth 100000 in
theorem v7_leavesToLuck_b61 (N : Nat) (q0 : Nat) (hq0 : IsC q0 (0, 0, 0)) (k37 : Int32 × Ms → Option (Int32 × Ms)) (hk37 : ∀ (l1 : Int32) (τ : Ms), VF (K7_leavesToLuck) cX7_leavesToLuck RX7 (k37 (l1, τ)) τ 37 [(0, .ref q0), (1, .int l1)] []) (l1 : Int32) (σ : Ms) : VF (K7_leavesToLuck) cX7_leavesToLuck RX7 (F7_leavesToLuck_b61 N q0 k37 l1 σ) σ 61 [(0, .ref q0), (1, .int l1)] [] := by
  unfold F7_leavesToLuck_b61
  refine v_iinc (lv' := [(1, .int (l1 + (1 : Int32))), (0, .ref q0)]) d7_leavesToLuck_61 1 rfl (by rw [ki_1]) (by decide) rfl ?_
  refine v_goto (tgt := 37) d7_leavesToLuck_64 (by decide) ?_
  refine v_sub [1, 0] rfl ?_
  exact hk37 (l1 + (1 : Int32)) σ
set_option maxRecDepth 100000 in
theorem v7_leavesToLuck_b37B (N : Nat) (q0 : Nat) (hq0 : IsC q0 (0, 0, 0)) (k37 : Int32 × Ms → Option (Int32 × Ms)) (hk37 : ∀ (l1 : Int32) (τ : Ms), VF (K7_leavesToLuck) cX7_leavesToLuck RX7 (k37 (l1, τ)) τ 37 [(0, .ref q0), (1, .int l1)] []) (l1 : Int32) (σ : Ms) : VF (K7_leavesToLuck) cX7_leavesToLuck RX7 (F7_leavesToLuck_b37B N q0 k37 l1 σ) σ 37 [(0, .ref q0), (1, .int l1)] [] := by
  unfold F7_leavesToLuck_b37B
  refine v_iload_n d7_leavesToLuck_37 1 rfl rfl ?_
  refine v_iconst d7_leavesToLuck_38 ki_4 ?_
  refine v_icmp_ge (tgt := 67) d7_leavesToLuck_39 (by decide) ?_ ?_
  · refine v_iconst d7_leavesToLuck_67 ki_1 ?_
    exact v_iret (ty := .boolean) d7_leavesToLuck_68 rfl rfl rfl
  · refine v_aload_n d7_leavesToLuck_42 0 rfl rfl ?_
    refine v_iload_n d7_leavesToLuck_43 1 rfl rfl ?_
    refine v_callV1i d7_leavesToLuck_44 (mc0_hasHeap q0 hq0 l1 σ) yv0_hasHeap mlX7_79 (Recv.obj hq0 rfl) (by decide) (Nat.le_of_ble_eq_true rfl) fun r1 t2 => ?_
    refine v_if_eq (tgt := 61) d7_leavesToLuck_47 (by decide) ?_ ?_
    · exact v7_leavesToLuck_b61 N q0 hq0 k37 hk37 l1 t2
    · refine v_aload_n d7_leavesToLuck_50 0 rfl rfl ?_
      refine v_getR d7_leavesToLuck_51 faX7_83 hq0 rfl ?_
      refine v_iload_n d7_leavesToLuck_54 1 rfl rfl ?_
      refine v_iald d7_leavesToLuck_55 (ih0_3 hq0) ?_
      refine v_if_le (tgt := 61) d7_leavesToLuck_56 (by decide) ?_ ?_
      · exact v7_leavesToLuck_b61 N q0 hq0 k37 hk37 l1 t2
      · refine v_iconst d7_leavesToLuck_59 ki_0 ?_
        exact v_iret (ty := .boolean) d7_leavesToLuck_60 rfl rfl rfl
theorem v7_leavesToLuck_b37 (N : Nat) (q0 : Nat) (hq0 : IsC q0 (0, 0, 0)) (l1 : Int32) (σ : Ms) : VF (K7_leavesToLuck) cX7_leavesToLuck RX7 (F7_leavesToLuck_b37 N q0 l1 σ) σ 37 [(0, .ref q0), (1, .int l1)] [] := v_fx (σo := fun x => x.2) (lo := fun x => [(0, .ref q0), (1, .int x.1)]) (fun k hk x => v7_leavesToLuck_b37B N q0 hq0 k (fun l1 τ => hk (l1, τ)) x.1 x.2) N (l1, σ)
set_option maxRecDepth 100000 in
theorem mc7_leavesToLuck (N : Nat) (q0 : Nat) (hq0 : IsC q0 (0, 0, 0)) (σ : Ms) : MC enI yX7_leavesToLuck cX7_leavesToLuck 2 (some .boolean) 3 (F7_leavesToLuck N q0 σ) σ [.ref q0] := by
  refine MC.i (by decide +kernel) (Nat.le_of_ble_eq_true rfl) ?_
  show VF (K7_leavesToLuck) cX7_leavesToLuck RX7 (F7_leavesToLuck N q0 σ) σ 0 [(0, .ref q0)] []
  unfold F7_leavesToLuck
  refine v_aload_n d7_leavesToLuck_0 0 rfl rfl ?_
  refine v_getI d7_leavesToLuck_1 faX7_40 hq0 ?_
  refine v_callS1i d7_leavesToLuck_4 (mcJ6_bitCount_0f7a4 (σ.1 q0 6) σ) ysJ6_bitCount_0f7a4 mlX7_67 (by decide) (Nat.le_of_ble_eq_true rfl) fun r3 t4 => ?_
  refine v_bipush d7_leavesToLuck_7 kb_6 ?_
  refine v_icmp_gt (tgt := 19) d7_leavesToLuck_9 (by decide) ?_ ?_
  · refine v_iconst d7_leavesToLuck_19 ki_0 ?_
    exact v_iret (ty := .boolean) d7_leavesToLuck_20 rfl rfl rfl
  · refine v_aload_n d7_leavesToLuck_12 0 rfl rfl ?_
    refine v_getI d7_leavesToLuck_13 faX7_70 hq0 ?_
    refine v_if_eq (tgt := 21) d7_leavesToLuck_16 (by decide) ?_ ?_
    · refine v_aload_n d7_leavesToLuck_21 0 rfl rfl ?_
      refine v_aload_n d7_leavesToLuck_22 0 rfl rfl ?_
      refine v_getI d7_leavesToLuck_23 faX7_73 hq0 ?_
      refine v_callV1i d7_leavesToLuck_26 (mc0_hottestBut N q0 hq0 (t4.1 q0 9) t4) yv0_hottestBut mlX7_76 (Recv.obj hq0 rfl) (by decide) (Nat.le_of_ble_eq_true rfl) fun r5 t6 => ?_
      refine v_iconst d7_leavesToLuck_29 ki_m1 ?_
      refine v_icmp_eq (tgt := 35) d7_leavesToLuck_30 (by decide) ?_ ?_
      · refine v_iconst d7_leavesToLuck_35 ki_0 ?_
        refine v_istore_n (lv' := [(1, .int (0 : Int32)), (0, .ref q0)]) d7_leavesToLuck_36 rfl (by decide) rfl ?_
        refine v_sub [1, 0] rfl ?_
        exact v7_leavesToLuck_b37 N q0 hq0 (0 : Int32) t6
      · refine v_iconst d7_leavesToLuck_33 ki_0 ?_
        exact v_iret (ty := .boolean) d7_leavesToLuck_34 rfl rfl rfl
    · refine v_iconst d7_leavesToLuck_19 ki_0 ?_
      exact v_iret (ty := .boolean) d7_leavesToLuck_20 rfl rfl rfl
theorem d7_gather_0 : decode cX7_gather 0 = .ok (.iconst 0, 1) := by decide +kernel
theorem d7_gather_1 : decode cX7_gather 1 = .ok (.istore_n 2, 1) := by decide +kernel
theorem d7_gather_2 : decode cX7_gather 2 = .ok (.iconst 0, 1) := by decide +kernel
theorem d7_gather_3 : decode cX7_gather 3 = .ok (.istore_n 3, 1) := by decide +kernel
theorem d7_gather_4 : decode cX7_gather 4 = .ok (.iload_n 3, 1) := by decide +kernel
theorem d7_gather_5 : decode cX7_gather 5 = .ok (.bipush 20, 2) := by decide +kernel
theorem d7_gather_7 : decode cX7_gather 7 = .ok (.if_icmp .ge 36, 3) := by decide +kernel
theorem d7_gather_10 : decode cX7_gather 10 = .ok (.iload_n 2, 1) := by decide +kernel
theorem d7_gather_11 : decode cX7_gather 11 = .ok (.bipush 6, 2) := by decide +kernel
theorem d7_gather_13 : decode cX7_gather 13 = .ok (.if_icmp .ge 30, 3) := by decide +kernel
theorem d7_gather_16 : decode cX7_gather 16 = .ok (.aload_n 1, 1) := by decide +kernel
theorem d7_gather_17 : decode cX7_gather 17 = .ok (.iload_n 3, 1) := by decide +kernel
theorem d7_gather_18 : decode cX7_gather 18 = .ok (.invokevirtual 94, 3) := by decide +kernel
theorem d7_gather_21 : decode cX7_gather 21 = .ok (.ifCond .ne 6, 3) := by decide +kernel
theorem d7_gather_24 : decode cX7_gather 24 = .ok (.goto 13, 3) := by decide +kernel
theorem d7_gather_27 : decode cX7_gather 27 = .ok (.aload_n 0, 1) := by decide +kernel
theorem d7_gather_28 : decode cX7_gather 28 = .ok (.getfield 15, 3) := by decide +kernel
theorem d7_gather_31 : decode cX7_gather 31 = .ok (.iload_n 2, 1) := by decide +kernel
theorem d7_gather_32 : decode cX7_gather 32 = .ok (.iload_n 3, 1) := by decide +kernel
theorem d7_gather_33 : decode cX7_gather 33 = .ok (.iastore, 1) := by decide +kernel
theorem d7_gather_34 : decode cX7_gather 34 = .ok (.iinc 2 1, 3) := by decide +kernel
theorem d7_gather_37 : decode cX7_gather 37 = .ok (.iinc 3 1, 3) := by decide +kernel
theorem d7_gather_40 : decode cX7_gather 40 = .ok (.goto (-36), 3) := by decide +kernel
theorem d7_gather_43 : decode cX7_gather 43 = .ok (.iconst 0, 1) := by decide +kernel
theorem d7_gather_44 : decode cX7_gather 44 = .ok (.istore_n 3, 1) := by decide +kernel
theorem d7_gather_45 : decode cX7_gather 45 = .ok (.iload_n 3, 1) := by decide +kernel
theorem d7_gather_46 : decode cX7_gather 46 = .ok (.iload_n 2, 1) := by decide +kernel
theorem d7_gather_47 : decode cX7_gather 47 = .ok (.if_icmp .ge 71, 3) := by decide +kernel
theorem d7_gather_50 : decode cX7_gather 50 = .ok (.aload_n 1, 1) := by decide +kernel
theorem d7_gather_51 : decode cX7_gather 51 = .ok (.aload_n 0, 1) := by decide +kernel
theorem d7_gather_52 : decode cX7_gather 52 = .ok (.getfield 15, 3) := by decide +kernel
theorem d7_gather_55 : decode cX7_gather 55 = .ok (.iload_n 3, 1) := by decide +kernel
theorem d7_gather_56 : decode cX7_gather 56 = .ok (.iaload, 1) := by decide +kernel
theorem d7_gather_57 : decode cX7_gather 57 = .ok (.invokevirtual 26, 3) := by decide +kernel
theorem d7_gather_60 : decode cX7_gather 60 = .ok (.istore 4, 2) := by decide +kernel
theorem d7_gather_62 : decode cX7_gather 62 = .ok (.aload_n 0, 1) := by decide +kernel
theorem d7_gather_63 : decode cX7_gather 63 = .ok (.getfield 18, 3) := by decide +kernel
theorem d7_gather_66 : decode cX7_gather 66 = .ok (.iload_n 3, 1) := by decide +kernel
theorem d7_gather_67 : decode cX7_gather 67 = .ok (.iconst 0, 1) := by decide +kernel
theorem d7_gather_68 : decode cX7_gather 68 = .ok (.iastore, 1) := by decide +kernel
theorem d7_gather_69 : decode cX7_gather 69 = .ok (.iconst 0, 1) := by decide +kernel
theorem d7_gather_70 : decode cX7_gather 70 = .ok (.istore 5, 2) := by decide +kernel
theorem d7_gather_72 : decode cX7_gather 72 = .ok (.iload 5, 2) := by decide +kernel
theorem d7_gather_74 : decode cX7_gather 74 = .ok (.iload_n 2, 1) := by decide +kernel
theorem d7_gather_75 : decode cX7_gather 75 = .ok (.if_icmp .ge 37, 3) := by decide +kernel
theorem d7_gather_78 : decode cX7_gather 78 = .ok (.iload 4, 2) := by decide +kernel
theorem d7_gather_80 : decode cX7_gather 80 = .ok (.aload_n 0, 1) := by decide +kernel
theorem d7_gather_81 : decode cX7_gather 81 = .ok (.getfield 15, 3) := by decide +kernel
theorem d7_gather_84 : decode cX7_gather 84 = .ok (.iload 5, 2) := by decide +kernel
theorem d7_gather_86 : decode cX7_gather 86 = .ok (.iaload, 1) := by decide +kernel
theorem d7_gather_87 : decode cX7_gather 87 = .ok (.invokestatic 56, 3) := by decide +kernel
theorem d7_gather_90 : decode cX7_gather 90 = .ok (.ifCond .eq 16, 3) := by decide +kernel
theorem d7_gather_93 : decode cX7_gather 93 = .ok (.aload_n 0, 1) := by decide +kernel
theorem d7_gather_94 : decode cX7_gather 94 = .ok (.getfield 18, 3) := by decide +kernel
theorem d7_gather_97 : decode cX7_gather 97 = .ok (.iload_n 3, 1) := by decide +kernel
theorem d7_gather_98 : decode cX7_gather 98 = .ok (.dup2, 1) := by decide +kernel
theorem d7_gather_99 : decode cX7_gather 99 = .ok (.iaload, 1) := by decide +kernel
theorem d7_gather_100 : decode cX7_gather 100 = .ok (.iconst 1, 1) := by decide +kernel
theorem d7_gather_101 : decode cX7_gather 101 = .ok (.iload 5, 2) := by decide +kernel
theorem d7_gather_103 : decode cX7_gather 103 = .ok (.ishl, 1) := by decide +kernel
theorem d7_gather_104 : decode cX7_gather 104 = .ok (.ior, 1) := by decide +kernel
theorem d7_gather_105 : decode cX7_gather 105 = .ok (.iastore, 1) := by decide +kernel
theorem d7_gather_106 : decode cX7_gather 106 = .ok (.iinc 5 1, 3) := by decide +kernel
theorem d7_gather_109 : decode cX7_gather 109 = .ok (.goto (-37), 3) := by decide +kernel
theorem d7_gather_112 : decode cX7_gather 112 = .ok (.iinc 3 1, 3) := by decide +kernel
theorem d7_gather_115 : decode cX7_gather 115 = .ok (.goto (-70), 3) := by decide +kernel
theorem d7_gather_118 : decode cX7_gather 118 = .ok (.iload_n 2, 1) := by decide +kernel
theorem d7_gather_119 : decode cX7_gather 119 = .ok (.ireturn, 1) := by decide +kernel
abbrev K7_gather : CK Int32 := (enI, (some .int), 6, 3, none)
noncomputable def F7_gather_b106 (N : Nat) (q0 : Nat) (k45 : Int32 × Int32 × Ms → Option (Int32 × Ms)) (k72 : Int32 × Int32 × Int32 × Int32 × Ms → Option (Int32 × Ms)) (l2 : Int32) (l3 : Int32) (l4 : Int32) (l5 : Int32) (σ : Ms) : Option (Int32 × Ms) :=
  k72 (l2, l3, l4, (l5 + (1 : Int32)), σ)
noncomputable def F7_gather_b72B (N : Nat) (q0 : Nat) (k45 : Int32 × Int32 × Ms → Option (Int32 × Ms)) (k72 : Int32 × Int32 × Int32 × Int32 × Ms → Option (Int32 × Ms)) (l2 : Int32) (l3 : Int32) (l4 : Int32) (l5 : Int32) (σ : Ms) : Option (Int32 × Ms) :=
  if l2 ≤ l5 then (k45 (l2, (l3 + (1 : Int32)), σ))
  else (ck (ixb l5 6) (bn (F11_isIn l4 (σ.1 104 l5.toNatClampNeg) σ) (fun r1 t2 => if r1 = 0 then (F7_gather_b106 N q0 k45 k72 l2 l3 l4 l5 t2)
  else (ck (ixb l3 6) (ck (ixb l3 6) (lt (sI t2 105 l3.toNatClampNeg ((t2.1 105 l3.toNatClampNeg) ||| ((1 : Int32) <<< (l5 &&& 31)))) (fun t3 => F7_gather_b106 N q0 k45 k72 l2 l3 l4 l5 t3)))))))
noncomputable def F7_gather_b72 (N : Nat) (q0 : Nat) (k45 : Int32 × Int32 × Ms → Option (Int32 × Ms)) (l2 : Int32) (l3 : Int32) (l4 : Int32) (l5 : Int32) (σ : Ms) : Option (Int32 × Ms) :=
  fx N (fun k x => F7_gather_b72B N q0 k45 k x.1 x.2.1 x.2.2.1 x.2.2.2.1 x.2.2.2.2) (l2, l3, l4, l5, σ)
noncomputable def F7_gather_b45B (N : Nat) (q0 : Nat) (k45 : Int32 × Int32 × Ms → Option (Int32 × Ms)) (l2 : Int32) (l3 : Int32) (σ : Ms) : Option (Int32 × Ms) :=
  if l2 ≤ l3 then (some (l2, σ))
  else (ck (ixb l3 6) (bn (F0_branchSet N q0 (σ.1 104 l3.toNatClampNeg) σ) (fun r4 t5 => ck (ixb l3 6) (lt (sI t5 105 l3.toNatClampNeg (0 : Int32)) (fun t6 => F7_gather_b72 N q0 k45 l2 l3 r4 (0 : Int32) t6)))))
noncomputable def F7_gather_b45 (N : Nat) (q0 : Nat) (l2 : Int32) (l3 : Int32) (σ : Ms) : Option (Int32 × Ms) :=
  fx N (fun k x => F7_gather_b45B N q0 k x.1 x.2.1 x.2.2) (l2, l3, σ)
noncomputable def F7_gather_b43 (N : Nat) (q0 : Nat) (l2 : Int32) (σ : Ms) : Option (Int32 × Ms) :=
  F7_gather_b45 N q0 l2 (0 : Int32) σ
noncomputable def F7_gather_b37 (N : Nat) (q0 : Nat) (k4 : Int32 × Int32 × Ms → Option (Int32 × Ms)) (l2 : Int32) (l3 : Int32) (σ : Ms) : Option (Int32 × Ms) :=
  k4 (l2, (l3 + (1 : Int32)), σ)
noncomputable def F7_gather_b4B (N : Nat) (q0 : Nat) (k4 : Int32 × Int32 × Ms → Option (Int32 × Ms)) (l2 : Int32) (l3 : Int32) (σ : Ms) : Option (Int32 × Ms) :=
  if (20 : Int32) ≤ l3 then (F7_gather_b43 N q0 l2 σ)
  else (if (6 : Int32) ≤ l2 then (F7_gather_b43 N q0 l2 σ)
  else (bn (F0_isStanding q0 l3 σ) (fun r7 t8 => if r7 ≠ 0 then (ck (ixb l2 6) (lt (sI t8 104 l2.toNatClampNeg l3) (fun t9 => F7_gather_b37 N q0 k4 (l2 + (1 : Int32)) l3 t9)))
  else (F7_gather_b37 N q0 k4 l2 l3 t8))))
noncomputable def F7_gather_b4 (N : Nat) (q0 : Nat) (l2 : Int32) (l3 : Int32) (σ : Ms) : Option (Int32 × Ms) :=
  fx N (fun k x => F7_gather_b4B N q0 k x.1 x.2.1 x.2.2) (l2, l3, σ)
noncomputable def F7_gather (N : Nat) (q0 : Nat) (σ : Ms) : Option (Int32 × Ms) :=
  F7_gather_b4 N q0 (0 : Int32) (0 : Int32) σ
set_option maxRecDepth 100000 in
theorem v7_gather_b106 (N : Nat) (q0 : Nat) (hq0 : IsC q0 (0, 0, 0)) (k45 : Int32 × Int32 × Ms → Option (Int32 × Ms)) (hk45 : ∀ (l2 : Int32) (l3 : Int32) (τ : Ms), VF (K7_gather) cX7_gather RX7 (k45 (l2, l3, τ)) τ 45 [(0, .ref 102), (1, .ref q0), (2, .int l2), (3, .int l3)] []) (k72 : Int32 × Int32 × Int32 × Int32 × Ms → Option (Int32 × Ms)) (hk72 : ∀ (l2 : Int32) (l3 : Int32) (l4 : Int32) (l5 : Int32) (τ : Ms), VF (K7_gather) cX7_gather RX7 (k72 (l2, l3, l4, l5, τ)) τ 72 [(0, .ref 102), (1, .ref q0), (2, .int l2), (3, .int l3), (4, .int l4), (5, .int l5)] []) (l2 : Int32) (l3 : Int32) (l4 : Int32) (l5 : Int32) (σ : Ms) : VF (K7_gather) cX7_gather RX7 (F7_gather_b106 N q0 k45 k72 l2 l3 l4 l5 σ) σ 106 [(0, .ref 102), (1, .ref q0), (2, .int l2), (3, .int l3), (4, .int l4), (5, .int l5)] [] := by
  unfold F7_gather_b106
  refine v_iinc (lv' := [(5, .int (l5 + (1 : Int32))), (0, .ref 102), (1, .ref q0), (2, .int l2), (3, .int l3), (4, .int l4)]) d7_gather_106 5 rfl (by rw [ki_1]) (by decide) rfl ?_
  refine v_goto (tgt := 72) d7_gather_109 (by decide) ?_
  refine v_sub [1, 2, 3, 4, 5, 0] rfl ?_
  exact hk72 l2 l3 l4 (l5 + (1 : Int32)) σ
set_option maxRecDepth 100000 in
theorem v7_gather_b72B (N : Nat) (q0 : Nat) (hq0 : IsC q0 (0, 0, 0)) (k45 : Int32 × Int32 × Ms → Option (Int32 × Ms)) (hk45 : ∀ (l2 : Int32) (l3 : Int32) (τ : Ms), VF (K7_gather) cX7_gather RX7 (k45 (l2, l3, τ)) τ 45 [(0, .ref 102), (1, .ref q0), (2, .int l2), (3, .int l3)] []) (k72 : Int32 × Int32 × Int32 × Int32 × Ms → Option (Int32 × Ms)) (hk72 : ∀ (l2 : Int32) (l3 : Int32) (l4 : Int32) (l5 : Int32) (τ : Ms), VF (K7_gather) cX7_gather RX7 (k72 (l2, l3, l4, l5, τ)) τ 72 [(0, .ref 102), (1, .ref q0), (2, .int l2), (3, .int l3), (4, .int l4), (5, .int l5)] []) (l2 : Int32) (l3 : Int32) (l4 : Int32) (l5 : Int32) (σ : Ms) : VF (K7_gather) cX7_gather RX7 (F7_gather_b72B N q0 k45 k72 l2 l3 l4 l5 σ) σ 72 [(0, .ref 102), (1, .ref q0), (2, .int l2), (3, .int l3), (4, .int l4), (5, .int l5)] [] := by
  unfold F7_gather_b72B
  refine v_iload d7_gather_72 5 rfl ?_
  refine v_iload_n d7_gather_74 2 rfl rfl ?_
  refine v_icmp_ge (tgt := 112) d7_gather_75 (by decide) ?_ ?_
  · refine v_iinc (lv' := [(3, .int (l3 + (1 : Int32))), (0, .ref 102), (1, .ref q0), (2, .int l2), (4, .int l4), (5, .int l5)]) d7_gather_112 3 rfl (by rw [ki_1]) (by decide) rfl ?_
    refine v_goto (tgt := 45) d7_gather_115 (by decide) ?_
    refine v_sub [1, 2, 3, 0] rfl ?_
    exact hk45 l2 (l3 + (1 : Int32)) σ
  · refine v_iload d7_gather_78 4 rfl ?_
    refine v_aload_n d7_gather_80 0 rfl rfl ?_
    refine v_getR d7_gather_81 faX7_15 ic_102 rfl ?_
    refine v_iload d7_gather_84 5 rfl ?_
    refine v_iald d7_gather_86 ic_104 ?_
    refine v_callN2i d7_gather_87 (mc11_isIn l4 (σ.1 104 l5.toNatClampNeg) σ) ys11_isIn neX7_56 (by decide) (Nat.le_of_ble_eq_true rfl) fun r1 t2 => ?_
    refine v_if_eq (tgt := 106) d7_gather_90 (by decide) ?_ ?_
    · exact v7_gather_b106 N q0 hq0 k45 hk45 k72 hk72 l2 l3 l4 l5 t2
    · refine v_aload_n d7_gather_93 0 rfl rfl ?_
      refine v_getR d7_gather_94 faX7_18 ic_102 rfl ?_
      refine v_iload_n d7_gather_97 3 rfl rfl ?_
      refine v_dup2_11 d7_gather_98 rfl rfl ?_
      refine v_iald d7_gather_99 ic_105 ?_
      refine v_iconst d7_gather_100 ki_1 ?_
      refine v_iload d7_gather_101 5 rfl ?_
      refine v_ishl d7_gather_103 ?_
      refine v_ior d7_gather_104 ?_
      refine v_iast d7_gather_105 ic_105 ?_
      refine v_lts fun t3 => ?_
      exact v7_gather_b106 N q0 hq0 k45 hk45 k72 hk72 l2 l3 l4 l5 t3
theorem v7_gather_b72 (N : Nat) (q0 : Nat) (hq0 : IsC q0 (0, 0, 0)) (k45 : Int32 × Int32 × Ms → Option (Int32 × Ms)) (hk45 : ∀ (l2 : Int32) (l3 : Int32) (τ : Ms), VF (K7_gather) cX7_gather RX7 (k45 (l2, l3, τ)) τ 45 [(0, .ref 102), (1, .ref q0), (2, .int l2), (3, .int l3)] []) (l2 : Int32) (l3 : Int32) (l4 : Int32) (l5 : Int32) (σ : Ms) : VF (K7_gather) cX7_gather RX7 (F7_gather_b72 N q0 k45 l2 l3 l4 l5 σ) σ 72 [(0, .ref 102), (1, .ref q0), (2, .int l2), (3, .int l3), (4, .int l4), (5, .int l5)] [] := v_fx (σo := fun x => x.2.2.2.2) (lo := fun x => [(0, .ref 102), (1, .ref q0), (2, .int x.1), (3, .int x.2.1), (4, .int x.2.2.1), (5, .int x.2.2.2.1)]) (fun k hk x => v7_gather_b72B N q0 hq0 k45 hk45 k (fun l2 l3 l4 l5 τ => hk (l2, l3, l4, l5, τ)) x.1 x.2.1 x.2.2.1 x.2.2.2.1 x.2.2.2.2) N (l2, l3, l4, l5, σ)
set_option maxRecDepth 100000 in
theorem v7_gather_b45B (N : Nat) (q0 : Nat) (hq0 : IsC q0 (0, 0, 0)) (k45 : Int32 × Int32 × Ms → Option (Int32 × Ms)) (hk45 : ∀ (l2 : Int32) (l3 : Int32) (τ : Ms), VF (K7_gather) cX7_gather RX7 (k45 (l2, l3, τ)) τ 45 [(0, .ref 102), (1, .ref q0), (2, .int l2), (3, .int l3)] []) (l2 : Int32) (l3 : Int32) (σ : Ms) : VF (K7_gather) cX7_gather RX7 (F7_gather_b45B N q0 k45 l2 l3 σ) σ 45 [(0, .ref 102), (1, .ref q0), (2, .int l2), (3, .int l3)] [] := by
  unfold F7_gather_b45B
  refine v_iload_n d7_gather_45 3 rfl rfl ?_
  refine v_iload_n d7_gather_46 2 rfl rfl ?_
  refine v_icmp_ge (tgt := 118) d7_gather_47 (by decide) ?_ ?_
  · refine v_iload_n d7_gather_118 2 rfl rfl ?_
    exact v_iret d7_gather_119 rfl rfl rfl
  · refine v_aload_n d7_gather_50 1 rfl rfl ?_
    refine v_aload_n d7_gather_51 0 rfl rfl ?_
    refine v_getR d7_gather_52 faX7_15 ic_102 rfl ?_
    refine v_iload_n d7_gather_55 3 rfl rfl ?_
    refine v_iald d7_gather_56 ic_104 ?_
    refine v_callV1i d7_gather_57 (mc0_branchSet N q0 hq0 (σ.1 104 l3.toNatClampNeg) σ) yv0_branchSet mlX7_26 (Recv.obj hq0 rfl) (by decide) (Nat.le_of_ble_eq_true rfl) fun r4 t5 => ?_
    refine v_istore (lv' := [(4, .int r4), (0, .ref 102), (1, .ref q0), (2, .int l2), (3, .int l3)]) d7_gather_60 (by decide) rfl ?_
    refine v_aload_n d7_gather_62 1 rfl rfl ?_
    refine v_getR d7_gather_63 faX7_18 ic_102 rfl ?_
    refine v_iload_n d7_gather_66 4 rfl rfl ?_
    refine v_iconst d7_gather_67 ki_0 ?_
    refine v_iast d7_gather_68 ic_105 ?_
    refine v_lts fun t6 => ?_
    refine v_iconst d7_gather_69 ki_0 ?_
    refine v_istore (lv' := [(5, .int (0 : Int32)), (4, .int r4), (0, .ref 102), (1, .ref q0), (2, .int l2), (3, .int l3)]) d7_gather_70 (by decide) rfl ?_
    refine v_sub [2, 3, 4, 5, 1, 0] rfl ?_
    exact v7_gather_b72 N q0 hq0 k45 hk45 l2 l3 r4 (0 : Int32) t6
theorem v7_gather_b45 (N : Nat) (q0 : Nat) (hq0 : IsC q0 (0, 0, 0)) (l2 : Int32) (l3 : Int32) (σ : Ms) : VF (K7_gather) cX7_gather RX7 (F7_gather_b45 N q0 l2 l3 σ) σ 45 [(0, .ref 102), (1, .ref q0), (2, .int l2), (3, .int l3)] [] := v_fx (σo := fun x => x.2.2) (lo := fun x => [(0, .ref 102), (1, .ref q0), (2, .int x.1), (3, .int x.2.1)]) (fun k hk x => v7_gather_b45B N q0 hq0 k (fun l2 l3 τ => hk (l2, l3, τ)) x.1 x.2.1 x.2.2) N (l2, l3, σ)
set_option maxRecDepth 100000 in
theorem v7_gather_b43 (N : Nat) (q0 : Nat) (hq0 : IsC q0 (0, 0, 0)) (l2 : Int32) (σ : Ms) : VF (K7_gather) cX7_gather RX7 (F7_gather_b43 N q0 l2 σ) σ 43 [(0, .ref 102), (1, .ref q0), (2, .int l2)] [] := by
  unfold F7_gather_b43
  refine v_iconst d7_gather_43 ki_0 ?_
  refine v_istore_n (lv' := [(3, .int (0 : Int32)), (0, .ref 102), (1, .ref q0), (2, .int l2)]) d7_gather_44 rfl (by decide) rfl ?_
  refine v_sub [1, 2, 3, 0] rfl ?_
  exact v7_gather_b45 N q0 hq0 l2 (0 : Int32) σ
set_option maxRecDepth 100000 in
theorem v7_gather_b37 (N : Nat) (q0 : Nat) (hq0 : IsC q0 (0, 0, 0)) (k4 : Int32 × Int32 × Ms → Option (Int32 × Ms)) (hk4 : ∀ (l2 : Int32) (l3 : Int32) (τ : Ms), VF (K7_gather) cX7_gather RX7 (k4 (l2, l3, τ)) τ 4 [(0, .ref 102), (1, .ref q0), (2, .int l2), (3, .int l3)] []) (l2 : Int32) (l3 : Int32) (σ : Ms) : VF (K7_gather) cX7_gather RX7 (F7_gather_b37 N q0 k4 l2 l3 σ) σ 37 [(0, .ref 102), (1, .ref q0), (2, .int l2), (3, .int l3)] [] := by
  unfold F7_gather_b37
  refine v_iinc (lv' := [(3, .int (l3 + (1 : Int32))), (0, .ref 102), (1, .ref q0), (2, .int l2)]) d7_gather_37 3 rfl (by rw [ki_1]) (by decide) rfl ?_
  refine v_goto (tgt := 4) d7_gather_40 (by decide) ?_
  refine v_sub [1, 2, 3, 0] rfl ?_
  exact hk4 l2 (l3 + (1 : Int32)) σ
set_option maxRecDepth 100000 in
theorem v7_gather_b4B (N : Nat) (q0 : Nat) (hq0 : IsC q0 (0, 0, 0)) (k4 : Int32 × Int32 × Ms → Option (Int32 × Ms)) (hk4 : ∀ (l2 : Int32) (l3 : Int32) (τ : Ms), VF (K7_gather) cX7_gather RX7 (k4 (l2, l3, τ)) τ 4 [(0, .ref 102), (1, .ref q0), (2, .int l2), (3, .int l3)] []) (l2 : Int32) (l3 : Int32) (σ : Ms) : VF (K7_gather) cX7_gather RX7 (F7_gather_b4B N q0 k4 l2 l3 σ) σ 4 [(0, .ref 102), (1, .ref q0), (2, .int l2), (3, .int l3)] [] := by
  unfold F7_gather_b4B
  refine v_iload_n d7_gather_4 3 rfl rfl ?_
  refine v_bipush d7_gather_5 kb_20 ?_
  refine v_icmp_ge (tgt := 43) d7_gather_7 (by decide) ?_ ?_
  · refine v_sub [0, 1, 2] rfl ?_
    exact v7_gather_b43 N q0 hq0 l2 σ
  · refine v_iload_n d7_gather_10 2 rfl rfl ?_
    refine v_bipush d7_gather_11 kb_6 ?_
    refine v_icmp_ge (tgt := 43) d7_gather_13 (by decide) ?_ ?_
    · refine v_sub [0, 1, 2] rfl ?_
      exact v7_gather_b43 N q0 hq0 l2 σ
    · refine v_aload_n d7_gather_16 1 rfl rfl ?_
      refine v_iload_n d7_gather_17 3 rfl rfl ?_
      refine v_callV1i d7_gather_18 (mc0_isStanding q0 hq0 l3 σ) yv0_isStanding mlX7_94 (Recv.obj hq0 rfl) (by decide) (Nat.le_of_ble_eq_true rfl) fun r7 t8 => ?_
      refine v_if_ne (tgt := 27) d7_gather_21 (by decide) ?_ ?_
      · refine v_aload_n d7_gather_27 0 rfl rfl ?_
        refine v_getR d7_gather_28 faX7_15 ic_102 rfl ?_
        refine v_iload_n d7_gather_31 2 rfl rfl ?_
        refine v_iload_n d7_gather_32 3 rfl rfl ?_
        refine v_iast d7_gather_33 ic_104 ?_
        refine v_lts fun t9 => ?_
        refine v_iinc (lv' := [(2, .int (l2 + (1 : Int32))), (0, .ref 102), (1, .ref q0), (3, .int l3)]) d7_gather_34 2 rfl (by rw [ki_1]) (by decide) rfl ?_
        refine v_sub [1, 2, 0, 3] rfl ?_
        exact v7_gather_b37 N q0 hq0 k4 hk4 (l2 + (1 : Int32)) l3 t9
      · refine v_goto (tgt := 37) d7_gather_24 (by decide) ?_
        exact v7_gather_b37 N q0 hq0 k4 hk4 l2 l3 t8
theorem v7_gather_b4 (N : Nat) (q0 : Nat) (hq0 : IsC q0 (0, 0, 0)) (l2 : Int32) (l3 : Int32) (σ : Ms) : VF (K7_gather) cX7_gather RX7 (F7_gather_b4 N q0 l2 l3 σ) σ 4 [(0, .ref 102), (1, .ref q0), (2, .int l2), (3, .int l3)] [] := v_fx (σo := fun x => x.2.2) (lo := fun x => [(0, .ref 102), (1, .ref q0), (2, .int x.1), (3, .int x.2.1)]) (fun k hk x => v7_gather_b4B N q0 hq0 k (fun l2 l3 τ => hk (l2, l3, τ)) x.1 x.2.1 x.2.2) N (l2, l3, σ)
set_option maxRecDepth 100000 in
theorem mc7_gather (N : Nat) (q0 : Nat) (hq0 : IsC q0 (0, 0, 0)) (σ : Ms) : MC enI yX7_gather cX7_gather 6 (some .int) 3 (F7_gather N q0 σ) σ [.ref 102, .ref q0] := by
  refine MC.i (by decide +kernel) (Nat.le_of_ble_eq_true rfl) ?_
  show VF (K7_gather) cX7_gather RX7 (F7_gather N q0 σ) σ 0 [(0, .ref 102), (1, .ref q0)] []
  unfold F7_gather
  refine v_iconst d7_gather_0 ki_0 ?_
  refine v_istore_n (lv' := [(2, .int (0 : Int32)), (0, .ref 102), (1, .ref q0)]) d7_gather_1 rfl (by decide) rfl ?_
  refine v_iconst d7_gather_2 ki_0 ?_
  refine v_istore_n (lv' := [(3, .int (0 : Int32)), (2, .int (0 : Int32)), (0, .ref 102), (1, .ref q0)]) d7_gather_3 rfl (by decide) rfl ?_
  refine v_sub [2, 3, 1, 0] rfl ?_
  exact v7_gather_b4 N q0 hq0 (0 : Int32) (0 : Int32) σ
theorem d7_oddsOf_0 : decode cX7_oddsOf 0 = .ok (.lconst 0, 1) := by decide +kernel
theorem d7_oddsOf_1 : decode cX7_oddsOf 1 = .ok (.lstore 4, 2) := by decide +kernel
theorem d7_oddsOf_3 : decode cX7_oddsOf 3 = .ok (.iconst 0, 1) := by decide +kernel
theorem d7_oddsOf_4 : decode cX7_oddsOf 4 = .ok (.istore 6, 2) := by decide +kernel
theorem d7_oddsOf_6 : decode cX7_oddsOf 6 = .ok (.iconst 0, 1) := by decide +kernel
theorem d7_oddsOf_7 : decode cX7_oddsOf 7 = .ok (.istore 7, 2) := by decide +kernel
theorem d7_oddsOf_9 : decode cX7_oddsOf 9 = .ok (.iload 7, 2) := by decide +kernel
theorem d7_oddsOf_11 : decode cX7_oddsOf 11 = .ok (.bipush 6, 2) := by decide +kernel
theorem d7_oddsOf_13 : decode cX7_oddsOf 13 = .ok (.if_icmp .ge 65, 3) := by decide +kernel
theorem d7_oddsOf_16 : decode cX7_oddsOf 16 = .ok (.iload_n 2, 1) := by decide +kernel
theorem d7_oddsOf_17 : decode cX7_oddsOf 17 = .ok (.iload 7, 2) := by decide +kernel
theorem d7_oddsOf_19 : decode cX7_oddsOf 19 = .ok (.invokestatic 56, 3) := by decide +kernel
theorem d7_oddsOf_22 : decode cX7_oddsOf 22 = .ok (.ifCond .eq 50, 3) := by decide +kernel
theorem d7_oddsOf_25 : decode cX7_oddsOf 25 = .ok (.aload_n 1, 1) := by decide +kernel
theorem d7_oddsOf_26 : decode cX7_oddsOf 26 = .ok (.iload_n 3, 1) := by decide +kernel
theorem d7_oddsOf_27 : decode cX7_oddsOf 27 = .ok (.aload_n 0, 1) := by decide +kernel
theorem d7_oddsOf_28 : decode cX7_oddsOf 28 = .ok (.getfield 15, 3) := by decide +kernel
theorem d7_oddsOf_31 : decode cX7_oddsOf 31 = .ok (.iload 7, 2) := by decide +kernel
theorem d7_oddsOf_33 : decode cX7_oddsOf 33 = .ok (.iaload, 1) := by decide +kernel
theorem d7_oddsOf_34 : decode cX7_oddsOf 34 = .ok (.invokevirtual 97, 3) := by decide +kernel
theorem d7_oddsOf_37 : decode cX7_oddsOf 37 = .ok (.ifCond .ne 6, 3) := by decide +kernel
theorem d7_oddsOf_40 : decode cX7_oddsOf 40 = .ok (.goto 32, 3) := by decide +kernel
theorem d7_oddsOf_43 : decode cX7_oddsOf 43 = .ok (.lload 4, 2) := by decide +kernel
theorem d7_oddsOf_45 : decode cX7_oddsOf 45 = .ok (.aload_n 0, 1) := by decide +kernel
theorem d7_oddsOf_46 : decode cX7_oddsOf 46 = .ok (.getfield 23, 3) := by decide +kernel
theorem d7_oddsOf_49 : decode cX7_oddsOf 49 = .ok (.iload_n 3, 1) := by decide +kernel
theorem d7_oddsOf_50 : decode cX7_oddsOf 50 = .ok (.invokestatic 100, 3) := by decide +kernel
theorem d7_oddsOf_53 : decode cX7_oddsOf 53 = .ok (.aaload, 1) := by decide +kernel
theorem d7_oddsOf_54 : decode cX7_oddsOf 54 = .ok (.iload_n 2, 1) := by decide +kernel
theorem d7_oddsOf_55 : decode cX7_oddsOf 55 = .ok (.aload_n 0, 1) := by decide +kernel
theorem d7_oddsOf_56 : decode cX7_oddsOf 56 = .ok (.getfield 18, 3) := by decide +kernel
theorem d7_oddsOf_59 : decode cX7_oddsOf 59 = .ok (.iload 7, 2) := by decide +kernel
theorem d7_oddsOf_61 : decode cX7_oddsOf 61 = .ok (.iaload, 1) := by decide +kernel
theorem d7_oddsOf_62 : decode cX7_oddsOf 62 = .ok (.iconst (-1), 1) := by decide +kernel
theorem d7_oddsOf_63 : decode cX7_oddsOf 63 = .ok (.ixor, 1) := by decide +kernel
theorem d7_oddsOf_64 : decode cX7_oddsOf 64 = .ok (.iand, 1) := by decide +kernel
theorem d7_oddsOf_65 : decode cX7_oddsOf 65 = .ok (.laload, 1) := by decide +kernel
theorem d7_oddsOf_66 : decode cX7_oddsOf 66 = .ok (.ladd, 1) := by decide +kernel
theorem d7_oddsOf_67 : decode cX7_oddsOf 67 = .ok (.lstore 4, 2) := by decide +kernel
theorem d7_oddsOf_69 : decode cX7_oddsOf 69 = .ok (.iinc 6 1, 3) := by decide +kernel
theorem d7_oddsOf_72 : decode cX7_oddsOf 72 = .ok (.iinc 7 1, 3) := by decide +kernel
theorem d7_oddsOf_75 : decode cX7_oddsOf 75 = .ok (.goto (-66), 3) := by decide +kernel
theorem d7_oddsOf_78 : decode cX7_oddsOf 78 = .ok (.iload 6, 2) := by decide +kernel
theorem d7_oddsOf_80 : decode cX7_oddsOf 80 = .ok (.ifCond .le 10, 3) := by decide +kernel
theorem d7_oddsOf_83 : decode cX7_oddsOf 83 = .ok (.lload 4, 2) := by decide +kernel
theorem d7_oddsOf_85 : decode cX7_oddsOf 85 = .ok (.iload 6, 2) := by decide +kernel
theorem d7_oddsOf_87 : decode cX7_oddsOf 87 = .ok (.i2l, 1) := by decide +kernel
theorem d7_oddsOf_88 : decode cX7_oddsOf 88 = .ok (.ldiv, 1) := by decide +kernel
theorem d7_oddsOf_89 : decode cX7_oddsOf 89 = .ok (.lreturn, 1) := by decide +kernel
theorem d7_oddsOf_90 : decode cX7_oddsOf 90 = .ok (.iload_n 3, 1) := by decide +kernel
theorem d7_oddsOf_91 : decode cX7_oddsOf 91 = .ok (.ifCond .ne 7, 3) := by decide +kernel
theorem d7_oddsOf_94 : decode cX7_oddsOf 94 = .ok (.lconst 0, 1) := by decide +kernel
theorem d7_oddsOf_95 : decode cX7_oddsOf 95 = .ok (.goto 6, 3) := by decide +kernel
theorem d7_oddsOf_98 : decode cX7_oddsOf 98 = .ok (.ldc2_w 103, 3) := by decide +kernel
theorem d7_oddsOf_101 : decode cX7_oddsOf 101 = .ok (.lreturn, 1) := by decide +kernel
abbrev K7_oddsOf : CK Int64 := (enL, (some .long), 8, 4, none)
noncomputable def F7_oddsOf_b72 (N : Nat) (q0 : Nat) (k9 : Int32 × Int32 × Int64 × Int32 × Int32 × Ms → Option (Int64 × Ms)) (l2 : Int32) (l3 : Int32) (l4 : Int64) (l6 : Int32) (l7 : Int32) (σ : Ms) : Option (Int64 × Ms) :=
  k9 (l2, l3, l4, l6, (l7 + (1 : Int32)), σ)
noncomputable def F7_oddsOf_b9B (N : Nat) (q0 : Nat) (k9 : Int32 × Int32 × Int64 × Int32 × Int32 × Ms → Option (Int64 × Ms)) (l2 : Int32) (l3 : Int32) (l4 : Int64) (l6 : Int32) (l7 : Int32) (σ : Ms) : Option (Int64 × Ms) :=
  if (6 : Int32) ≤ l7 then (if l6 ≤ 0 then (if l3 ≠ 0 then (some ((46656000000 : Int64), σ))
  else (some ((0 : Int64), σ)))
  else (ck (!((l6.toInt64) == 0)) (some ((l4 / (l6.toInt64)), σ))))
  else (bn (F11_isIn l2 l7 σ) (fun r1 t2 => if r1 = 0 then (F7_oddsOf_b72 N q0 k9 l2 l3 l4 l6 l7 t2)
  else (ck (ixb l7 6) (bn (F0_mayCut q0 l3 (t2.1 104 l7.toNatClampNeg) t2) (fun r3 t4 => if r3 ≠ 0 then (bn (F11_other l3 t4) (fun r5 t6 => ck (ixb r5 2) (ck (ixb l7 6) (ck (ixb (l2 &&& ((t6.1 105 l7.toNatClampNeg) ^^^ (-1 : Int32))) 64) (lt (l4 + (t6.2 (107 + r5.toNatClampNeg) (l2 &&& ((t6.1 105 l7.toNatClampNeg) ^^^ (-1 : Int32))).toNatClampNeg)) (fun x8 => F7_oddsOf_b72 N q0 k9 l2 l3 x8 (l6 + (1 : Int32)) l7 t6))))))
  else (F7_oddsOf_b72 N q0 k9 l2 l3 l4 l6 l7 t4))))))
noncomputable def F7_oddsOf_b9 (N : Nat) (q0 : Nat) (l2 : Int32) (l3 : Int32) (l4 : Int64) (l6 : Int32) (l7 : Int32) (σ : Ms) : Option (Int64 × Ms) :=
  fx N (fun k x => F7_oddsOf_b9B N q0 k x.1 x.2.1 x.2.2.1 x.2.2.2.1 x.2.2.2.2.1 x.2.2.2.2.2) (l2, l3, l4, l6, l7, σ)
noncomputable def F7_oddsOf (N : Nat) (q0 : Nat) (p1 : Int32) (p2 : Int32) (σ : Ms) : Option (Int64 × Ms) :=
  F7_oddsOf_b9 N q0 p1 p2 (0 : Int64) (0 : Int32) (0 : Int32) σ
set_option maxRecDepth 100000 in
theorem v7_oddsOf_b72 (N : Nat) (q0 : Nat) (hq0 : IsC q0 (0, 0, 0)) (k9 : Int32 × Int32 × Int64 × Int32 × Int32 × Ms → Option (Int64 × Ms)) (hk9 : ∀ (l2 : Int32) (l3 : Int32) (l4 : Int64) (l6 : Int32) (l7 : Int32) (τ : Ms), VF (K7_oddsOf) cX7_oddsOf RX7 (k9 (l2, l3, l4, l6, l7, τ)) τ 9 [(0, .ref 102), (1, .ref q0), (2, .int l2), (3, .int l3), (4, .long l4), (6, .int l6), (7, .int l7)] []) (l2 : Int32) (l3 : Int32) (l4 : Int64) (l6 : Int32) (l7 : Int32) (σ : Ms) : VF (K7_oddsOf) cX7_oddsOf RX7 (F7_oddsOf_b72 N q0 k9 l2 l3 l4 l6 l7 σ) σ 72 [(0, .ref 102), (1, .ref q0), (2, .int l2), (3, .int l3), (4, .long l4), (6, .int l6), (7, .int l7)] [] := by
  unfold F7_oddsOf_b72
  refine v_iinc (lv' := [(7, .int (l7 + (1 : Int32))), (0, .ref 102), (1, .ref q0), (2, .int l2), (3, .int l3), (4, .long l4), (6, .int l6)]) d7_oddsOf_72 6 rfl (by rw [ki_1]) (by decide) rfl ?_
  refine v_goto (tgt := 9) d7_oddsOf_75 (by decide) ?_
  refine v_sub [1, 2, 3, 4, 5, 6, 0] rfl ?_
  exact hk9 l2 l3 l4 l6 (l7 + (1 : Int32)) σ
set_option maxRecDepth 100000 in
theorem v7_oddsOf_b9B (N : Nat) (q0 : Nat) (hq0 : IsC q0 (0, 0, 0)) (k9 : Int32 × Int32 × Int64 × Int32 × Int32 × Ms → Option (Int64 × Ms)) (hk9 : ∀ (l2 : Int32) (l3 : Int32) (l4 : Int64) (l6 : Int32) (l7 : Int32) (τ : Ms), VF (K7_oddsOf) cX7_oddsOf RX7 (k9 (l2, l3, l4, l6, l7, τ)) τ 9 [(0, .ref 102), (1, .ref q0), (2, .int l2), (3, .int l3), (4, .long l4), (6, .int l6), (7, .int l7)] []) (l2 : Int32) (l3 : Int32) (l4 : Int64) (l6 : Int32) (l7 : Int32) (σ : Ms) : VF (K7_oddsOf) cX7_oddsOf RX7 (F7_oddsOf_b9B N q0 k9 l2 l3 l4 l6 l7 σ) σ 9 [(0, .ref 102), (1, .ref q0), (2, .int l2), (3, .int l3), (4, .long l4), (6, .int l6), (7, .int l7)] [] := by
  unfold F7_oddsOf_b9B
  refine v_iload d7_oddsOf_9 6 rfl ?_
  refine v_bipush d7_oddsOf_11 kb_6 ?_
  refine v_icmp_ge (tgt := 78) d7_oddsOf_13 (by decide) ?_ ?_
  · refine v_iload d7_oddsOf_78 5 rfl ?_
    refine v_if_le (tgt := 90) d7_oddsOf_80 (by decide) ?_ ?_
    · refine v_iload_n d7_oddsOf_90 3 rfl rfl ?_
      refine v_if_ne (tgt := 98) d7_oddsOf_91 (by decide) ?_ ?_
      · refine v_ldc2 d7_oddsOf_98 klX7_103 ?_
        exact v_lret d7_oddsOf_101 rfl rfl
      · refine v_lconst d7_oddsOf_94 kl_0 ?_
        refine v_goto (tgt := 101) d7_oddsOf_95 (by decide) ?_
        exact v_lret d7_oddsOf_101 rfl rfl
    · refine v_lload d7_oddsOf_83 4 rfl ?_
      refine v_iload d7_oddsOf_85 5 rfl ?_
      refine v_i2l d7_oddsOf_87 ?_
      refine v_ldiv d7_oddsOf_88 ?_
      exact v_lret d7_oddsOf_89 rfl rfl
  · refine v_iload_n d7_oddsOf_16 2 rfl rfl ?_
    refine v_iload d7_oddsOf_17 6 rfl ?_
    refine v_callN2i d7_oddsOf_19 (mc11_isIn l2 l7 σ) ys11_isIn neX7_56 (by decide) (Nat.le_of_ble_eq_true rfl) fun r1 t2 => ?_
    refine v_if_eq (tgt := 72) d7_oddsOf_22 (by decide) ?_ ?_
    · exact v7_oddsOf_b72 N q0 hq0 k9 hk9 l2 l3 l4 l6 l7 t2
    · refine v_aload_n d7_oddsOf_25 1 rfl rfl ?_
      refine v_iload_n d7_oddsOf_26 3 rfl rfl ?_
      refine v_aload_n d7_oddsOf_27 0 rfl rfl ?_
      refine v_getR d7_oddsOf_28 faX7_15 ic_102 rfl ?_
      refine v_iload d7_oddsOf_31 6 rfl ?_
      refine v_iald d7_oddsOf_33 ic_104 ?_
      refine v_callV2i d7_oddsOf_34 (mc0_mayCut q0 hq0 l3 (t2.1 104 l7.toNatClampNeg) t2) yv0_mayCut mlX7_97 (Recv.obj hq0 rfl) (by decide) (Nat.le_of_ble_eq_true rfl) fun r3 t4 => ?_
      refine v_if_ne (tgt := 43) d7_oddsOf_37 (by decide) ?_ ?_
      · refine v_lload d7_oddsOf_43 4 rfl ?_
        refine v_aload_n d7_oddsOf_45 0 rfl rfl ?_
        refine v_getR d7_oddsOf_46 faX7_23 ic_102 rfl ?_
        refine v_iload_n d7_oddsOf_49 3 rfl rfl ?_
        refine v_callN1i d7_oddsOf_50 (mc11_other l3 t4) ys11_other neX7_100 (by decide) (Nat.le_of_ble_eq_true rfl) fun r5 t6 => ?_
        refine v_aald4 d7_oddsOf_53 ic_106 fun hb7 => ?_
        refine v_iload_n d7_oddsOf_54 2 rfl rfl ?_
        refine v_aload_n d7_oddsOf_55 0 rfl rfl ?_
        refine v_getR d7_oddsOf_56 faX7_18 ic_102 rfl ?_
        refine v_iload d7_oddsOf_59 6 rfl ?_
        refine v_iald d7_oddsOf_61 ic_105 ?_
        refine v_iconst d7_oddsOf_62 ki_m1 ?_
        refine v_ixor d7_oddsOf_63 ?_
        refine v_iand d7_oddsOf_64 ?_
        refine v_lald d7_oddsOf_65 (ia_106 hb7) ?_
        refine v_ladd d7_oddsOf_66 ?_
        refine v_ltl fun x8 => ?_
        refine v_lstore (lv' := [(4, .long x8), (0, .ref 102), (1, .ref q0), (2, .int l2), (3, .int l3), (6, .int l6), (7, .int l7)]) d7_oddsOf_67 (by decide) rfl ?_
        refine v_iinc (lv' := [(6, .int (l6 + (1 : Int32))), (4, .long x8), (0, .ref 102), (1, .ref q0), (2, .int l2), (3, .int l3), (7, .int l7)]) d7_oddsOf_69 5 rfl (by rw [ki_1]) (by decide) rfl ?_
        refine v_sub [2, 3, 4, 5, 1, 0, 6] rfl ?_
        exact v7_oddsOf_b72 N q0 hq0 k9 hk9 l2 l3 x8 (l6 + (1 : Int32)) l7 t6
      · refine v_goto (tgt := 72) d7_oddsOf_40 (by decide) ?_
        exact v7_oddsOf_b72 N q0 hq0 k9 hk9 l2 l3 l4 l6 l7 t4
theorem v7_oddsOf_b9 (N : Nat) (q0 : Nat) (hq0 : IsC q0 (0, 0, 0)) (l2 : Int32) (l3 : Int32) (l4 : Int64) (l6 : Int32) (l7 : Int32) (σ : Ms) : VF (K7_oddsOf) cX7_oddsOf RX7 (F7_oddsOf_b9 N q0 l2 l3 l4 l6 l7 σ) σ 9 [(0, .ref 102), (1, .ref q0), (2, .int l2), (3, .int l3), (4, .long l4), (6, .int l6), (7, .int l7)] [] := v_fx (σo := fun x => x.2.2.2.2.2) (lo := fun x => [(0, .ref 102), (1, .ref q0), (2, .int x.1), (3, .int x.2.1), (4, .long x.2.2.1), (6, .int x.2.2.2.1), (7, .int x.2.2.2.2.1)]) (fun k hk x => v7_oddsOf_b9B N q0 hq0 k (fun l2 l3 l4 l6 l7 τ => hk (l2, l3, l4, l6, l7, τ)) x.1 x.2.1 x.2.2.1 x.2.2.2.1 x.2.2.2.2.1 x.2.2.2.2.2) N (l2, l3, l4, l6, l7, σ)
set_option maxRecDepth 100000 in
theorem mc7_oddsOf (N : Nat) (q0 : Nat) (hq0 : IsC q0 (0, 0, 0)) (p1 : Int32) (p2 : Int32) (σ : Ms) : MC enL yX7_oddsOf cX7_oddsOf 8 (some .long) 4 (F7_oddsOf N q0 p1 p2 σ) σ [.ref 102, .ref q0, .int p1, .int p2] := by
  refine MC.l (by decide +kernel) (Nat.le_of_ble_eq_true rfl) ?_
  show VF (K7_oddsOf) cX7_oddsOf RX7 (F7_oddsOf N q0 p1 p2 σ) σ 0 [(0, .ref 102), (1, .ref q0), (2, .int p1), (3, .int p2)] []
  unfold F7_oddsOf
  refine v_lconst d7_oddsOf_0 kl_0 ?_
  refine v_lstore (lv' := [(4, .long (0 : Int64)), (0, .ref 102), (1, .ref q0), (2, .int p1), (3, .int p2)]) d7_oddsOf_1 (by decide) rfl ?_
  refine v_iconst d7_oddsOf_3 ki_0 ?_
  refine v_istore (lv' := [(6, .int (0 : Int32)), (4, .long (0 : Int64)), (0, .ref 102), (1, .ref q0), (2, .int p1), (3, .int p2)]) d7_oddsOf_4 (by decide) rfl ?_
  refine v_iconst d7_oddsOf_6 ki_0 ?_
  refine v_istore (lv' := [(7, .int (0 : Int32)), (6, .int (0 : Int32)), (4, .long (0 : Int64)), (0, .ref 102), (1, .ref q0), (2, .int p1), (3, .int p2)]) d7_oddsOf_7 (by decide) rfl ?_
  refine v_sub [3, 4, 5, 6, 2, 1, 0] rfl ?_
  exact v7_oddsOf_b9 N q0 hq0 p1 p2 (0 : Int64) (0 : Int32) (0 : Int32) σ
theorem d7_oddsOfLeft_0 : decode cX7_oddsOfLeft 0 = .ok (.aload_n 0, 1) := by decide +kernel
theorem d7_oddsOfLeft_1 : decode cX7_oddsOfLeft 1 = .ok (.aload_n 1, 1) := by decide +kernel
theorem d7_oddsOfLeft_2 : decode cX7_oddsOfLeft 2 = .ok (.invokevirtual 86, 3) := by decide +kernel
theorem d7_oddsOfLeft_5 : decode cX7_oddsOfLeft 5 = .ok (.istore_n 3, 1) := by decide +kernel
theorem d7_oddsOfLeft_6 : decode cX7_oddsOfLeft 6 = .ok (.iconst 1, 1) := by decide +kernel
theorem d7_oddsOfLeft_7 : decode cX7_oddsOfLeft 7 = .ok (.iload_n 3, 1) := by decide +kernel
theorem d7_oddsOfLeft_8 : decode cX7_oddsOfLeft 8 = .ok (.ishl, 1) := by decide +kernel
theorem d7_oddsOfLeft_9 : decode cX7_oddsOfLeft 9 = .ok (.iconst 1, 1) := by decide +kernel
theorem d7_oddsOfLeft_10 : decode cX7_oddsOfLeft 10 = .ok (.isub, 1) := by decide +kernel
theorem d7_oddsOfLeft_11 : decode cX7_oddsOfLeft 11 = .ok (.istore 4, 2) := by decide +kernel
theorem d7_oddsOfLeft_13 : decode cX7_oddsOfLeft 13 = .ok (.iconst 0, 1) := by decide +kernel
theorem d7_oddsOfLeft_14 : decode cX7_oddsOfLeft 14 = .ok (.istore 5, 2) := by decide +kernel
theorem d7_oddsOfLeft_16 : decode cX7_oddsOfLeft 16 = .ok (.iload 5, 2) := by decide +kernel
theorem d7_oddsOfLeft_18 : decode cX7_oddsOfLeft 18 = .ok (.iload 4, 2) := by decide +kernel
theorem d7_oddsOfLeft_20 : decode cX7_oddsOfLeft 20 = .ok (.if_icmp .gt 43, 3) := by decide +kernel
theorem d7_oddsOfLeft_23 : decode cX7_oddsOfLeft 23 = .ok (.aload_n 0, 1) := by decide +kernel
theorem d7_oddsOfLeft_24 : decode cX7_oddsOfLeft 24 = .ok (.getfield 23, 3) := by decide +kernel
theorem d7_oddsOfLeft_27 : decode cX7_oddsOfLeft 27 = .ok (.iconst 0, 1) := by decide +kernel
theorem d7_oddsOfLeft_28 : decode cX7_oddsOfLeft 28 = .ok (.aaload, 1) := by decide +kernel
theorem d7_oddsOfLeft_29 : decode cX7_oddsOfLeft 29 = .ok (.iload 5, 2) := by decide +kernel
theorem d7_oddsOfLeft_31 : decode cX7_oddsOfLeft 31 = .ok (.aload_n 0, 1) := by decide +kernel
theorem d7_oddsOfLeft_32 : decode cX7_oddsOfLeft 32 = .ok (.aload_n 1, 1) := by decide +kernel
theorem d7_oddsOfLeft_33 : decode cX7_oddsOfLeft 33 = .ok (.iload 5, 2) := by decide +kernel
theorem d7_oddsOfLeft_35 : decode cX7_oddsOfLeft 35 = .ok (.iconst 0, 1) := by decide +kernel
theorem d7_oddsOfLeft_36 : decode cX7_oddsOfLeft 36 = .ok (.invokevirtual 90, 3) := by decide +kernel
theorem d7_oddsOfLeft_39 : decode cX7_oddsOfLeft 39 = .ok (.lastore, 1) := by decide +kernel
theorem d7_oddsOfLeft_40 : decode cX7_oddsOfLeft 40 = .ok (.aload_n 0, 1) := by decide +kernel
theorem d7_oddsOfLeft_41 : decode cX7_oddsOfLeft 41 = .ok (.getfield 23, 3) := by decide +kernel
theorem d7_oddsOfLeft_44 : decode cX7_oddsOfLeft 44 = .ok (.iconst 1, 1) := by decide +kernel
theorem d7_oddsOfLeft_45 : decode cX7_oddsOfLeft 45 = .ok (.aaload, 1) := by decide +kernel
theorem d7_oddsOfLeft_46 : decode cX7_oddsOfLeft 46 = .ok (.iload 5, 2) := by decide +kernel
theorem d7_oddsOfLeft_48 : decode cX7_oddsOfLeft 48 = .ok (.aload_n 0, 1) := by decide +kernel
theorem d7_oddsOfLeft_49 : decode cX7_oddsOfLeft 49 = .ok (.aload_n 1, 1) := by decide +kernel
theorem d7_oddsOfLeft_50 : decode cX7_oddsOfLeft 50 = .ok (.iload 5, 2) := by decide +kernel
theorem d7_oddsOfLeft_52 : decode cX7_oddsOfLeft 52 = .ok (.iconst 1, 1) := by decide +kernel
theorem d7_oddsOfLeft_53 : decode cX7_oddsOfLeft 53 = .ok (.invokevirtual 90, 3) := by decide +kernel
theorem d7_oddsOfLeft_56 : decode cX7_oddsOfLeft 56 = .ok (.lastore, 1) := by decide +kernel
theorem d7_oddsOfLeft_57 : decode cX7_oddsOfLeft 57 = .ok (.iinc 5 1, 3) := by decide +kernel
theorem d7_oddsOfLeft_60 : decode cX7_oddsOfLeft 60 = .ok (.goto (-44), 3) := by decide +kernel
theorem d7_oddsOfLeft_63 : decode cX7_oddsOfLeft 63 = .ok (.aload_n 0, 1) := by decide +kernel
theorem d7_oddsOfLeft_64 : decode cX7_oddsOfLeft 64 = .ok (.getfield 23, 3) := by decide +kernel
theorem d7_oddsOfLeft_67 : decode cX7_oddsOfLeft 67 = .ok (.iload_n 2, 1) := by decide +kernel
theorem d7_oddsOfLeft_68 : decode cX7_oddsOfLeft 68 = .ok (.ifCond .ne 7, 3) := by decide +kernel
theorem d7_oddsOfLeft_71 : decode cX7_oddsOfLeft 71 = .ok (.iconst 0, 1) := by decide +kernel
theorem d7_oddsOfLeft_72 : decode cX7_oddsOfLeft 72 = .ok (.goto 4, 3) := by decide +kernel
theorem d7_oddsOfLeft_75 : decode cX7_oddsOfLeft 75 = .ok (.iconst 1, 1) := by decide +kernel
theorem d7_oddsOfLeft_76 : decode cX7_oddsOfLeft 76 = .ok (.aaload, 1) := by decide +kernel
theorem d7_oddsOfLeft_77 : decode cX7_oddsOfLeft 77 = .ok (.iload 4, 2) := by decide +kernel
theorem d7_oddsOfLeft_79 : decode cX7_oddsOfLeft 79 = .ok (.laload, 1) := by decide +kernel
theorem d7_oddsOfLeft_80 : decode cX7_oddsOfLeft 80 = .ok (.lreturn, 1) := by decide +kernel
abbrev K7_oddsOfLeft : CK Int64 := (enL, (some .long), 6, 5, none)
noncomputable def F7_oddsOfLeft_b76 (N : Nat) (q0 : Nat) (l4 : Int32) (s1 : Int32) (σ : Ms) : Option (Int64 × Ms) :=
  ck (ixb s1 2) (ck (ixb l4 64) (some ((σ.2 (107 + s1.toNatClampNeg) l4.toNatClampNeg), σ)))
noncomputable def F7_oddsOfLeft_b16B (N : Nat) (q0 : Nat) (k16 : Int32 × Int32 × Int32 × Ms → Option (Int64 × Ms)) (l2 : Int32) (l4 : Int32) (l5 : Int32) (σ : Ms) : Option (Int64 × Ms) :=
  if l4 < l5 then (if l2 ≠ 0 then (F7_oddsOfLeft_b76 N q0 l4 (1 : Int32) σ)
  else (F7_oddsOfLeft_b76 N q0 l4 (0 : Int32) σ))
  else (ck (ixb (0 : Int32) 2) (bn (F7_oddsOf N q0 l5 (0 : Int32) σ) (fun r3 t4 => ck (ixb l5 64) (lt (sL t4 (107 + (0 : Int32).toNatClampNeg) l5.toNatClampNeg r3) (fun t5 => ck (ixb (1 : Int32) 2) (bn (F7_oddsOf N q0 l5 (1 : Int32) t5) (fun r7 t8 => ck (ixb l5 64) (lt (sL t8 (107 + (1 : Int32).toNatClampNeg) l5.toNatClampNeg r7) (fun t9 => k16 (l2, l4, (l5 + (1 : Int32)), t9))))))))))
noncomputable def F7_oddsOfLeft_b16 (N : Nat) (q0 : Nat) (l2 : Int32) (l4 : Int32) (l5 : Int32) (σ : Ms) : Option (Int64 × Ms) :=
  fx N (fun k x => F7_oddsOfLeft_b16B N q0 k x.1 x.2.1 x.2.2.1 x.2.2.2) (l2, l4, l5, σ)
noncomputable def F7_oddsOfLeft (N : Nat) (q0 : Nat) (p1 : Int32) (σ : Ms) : Option (Int64 × Ms) :=
  bn (F7_gather N q0 σ) (fun r10 t11 => lt (((1 : Int32) <<< (r10 &&& 31)) - (1 : Int32)) (fun x12 => F7_oddsOfLeft_b16 N q0 p1 x12 (0 : Int32) t11))
set_option maxRecDepth 100000 in
theorem v7_oddsOfLeft_b76 (N : Nat) (q0 : Nat) (hq0 : IsC q0 (0, 0, 0)) (l4 : Int32) (s1 : Int32) (σ : Ms) : VF (K7_oddsOfLeft) cX7_oddsOfLeft RX7 (F7_oddsOfLeft_b76 N q0 l4 s1 σ) σ 76 [(4, .int l4)] [.int s1, .ref 106] := by
  unfold F7_oddsOfLeft_b76
  refine v_aald4 d7_oddsOfLeft_76 ic_106 fun hb1 => ?_
  refine v_iload d7_oddsOfLeft_77 0 rfl ?_
  refine v_lald d7_oddsOfLeft_79 (ia_106 hb1) ?_
  exact v_lret d7_oddsOfLeft_80 rfl rfl
set_option maxRecDepth 100000 in
theorem v7_oddsOfLeft_b16B (N : Nat) (q0 : Nat) (hq0 : IsC q0 (0, 0, 0)) (k16 : Int32 × Int32 × Int32 × Ms → Option (Int64 × Ms)) (hk16 : ∀ (l2 : Int32) (l4 : Int32) (l5 : Int32) (τ : Ms), VF (K7_oddsOfLeft) cX7_oddsOfLeft RX7 (k16 (l2, l4, l5, τ)) τ 16 [(0, .ref 102), (1, .ref q0), (2, .int l2), (4, .int l4), (5, .int l5)] []) (l2 : Int32) (l4 : Int32) (l5 : Int32) (σ : Ms) : VF (K7_oddsOfLeft) cX7_oddsOfLeft RX7 (F7_oddsOfLeft_b16B N q0 k16 l2 l4 l5 σ) σ 16 [(0, .ref 102), (1, .ref q0), (2, .int l2), (4, .int l4), (5, .int l5)] [] := by
  unfold F7_oddsOfLeft_b16B
  refine v_iload d7_oddsOfLeft_16 4 rfl ?_
  refine v_iload d7_oddsOfLeft_18 3 rfl ?_
  refine v_icmp_gt (tgt := 63) d7_oddsOfLeft_20 (by decide) ?_ ?_
  · refine v_aload_n d7_oddsOfLeft_63 0 rfl rfl ?_
    refine v_getR d7_oddsOfLeft_64 faX7_23 ic_102 rfl ?_
    refine v_iload_n d7_oddsOfLeft_67 2 rfl rfl ?_
    refine v_if_ne (tgt := 75) d7_oddsOfLeft_68 (by decide) ?_ ?_
    · refine v_iconst d7_oddsOfLeft_75 ki_1 ?_
      refine v_sub [3] rfl ?_
      exact v7_oddsOfLeft_b76 N q0 hq0 l4 (1 : Int32) σ
    · refine v_iconst d7_oddsOfLeft_71 ki_0 ?_
      refine v_goto (tgt := 76) d7_oddsOfLeft_72 (by decide) ?_
      refine v_sub [3] rfl ?_
      exact v7_oddsOfLeft_b76 N q0 hq0 l4 (0 : Int32) σ
  · refine v_aload_n d7_oddsOfLeft_23 0 rfl rfl ?_
    refine v_getR d7_oddsOfLeft_24 faX7_23 ic_102 rfl ?_
    refine v_iconst d7_oddsOfLeft_27 ki_0 ?_
    refine v_aald4 d7_oddsOfLeft_28 ic_106 fun hb2 => ?_
    refine v_iload d7_oddsOfLeft_29 4 rfl ?_
    refine v_aload_n d7_oddsOfLeft_31 0 rfl rfl ?_
    refine v_aload_n d7_oddsOfLeft_32 1 rfl rfl ?_
    refine v_iload d7_oddsOfLeft_33 4 rfl ?_
    refine v_iconst d7_oddsOfLeft_35 ki_0 ?_
    refine v_callV3l d7_oddsOfLeft_36 (mc7_oddsOf N q0 hq0 l5 (0 : Int32) σ) yv7_oddsOf mlX7_90 (Recv.obj ic_102 rfl) (by decide) (Nat.le_of_ble_eq_true rfl) fun r3 t4 => ?_
    refine v_last d7_oddsOfLeft_39 (ia_106 hb2) ?_
    refine v_lts fun t5 => ?_
    refine v_aload_n d7_oddsOfLeft_40 0 rfl rfl ?_
    refine v_getR d7_oddsOfLeft_41 faX7_23 ic_102 rfl ?_
    refine v_iconst d7_oddsOfLeft_44 ki_1 ?_
    refine v_aald4 d7_oddsOfLeft_45 ic_106 fun hb6 => ?_
    refine v_iload d7_oddsOfLeft_46 4 rfl ?_
    refine v_aload_n d7_oddsOfLeft_48 0 rfl rfl ?_
    refine v_aload_n d7_oddsOfLeft_49 1 rfl rfl ?_
    refine v_iload d7_oddsOfLeft_50 4 rfl ?_
    refine v_iconst d7_oddsOfLeft_52 ki_1 ?_
    refine v_callV3l d7_oddsOfLeft_53 (mc7_oddsOf N q0 hq0 l5 (1 : Int32) t5) yv7_oddsOf mlX7_90 (Recv.obj ic_102 rfl) (by decide) (Nat.le_of_ble_eq_true rfl) fun r7 t8 => ?_
    refine v_last d7_oddsOfLeft_56 (ia_106 hb6) ?_
    refine v_lts fun t9 => ?_
    refine v_iinc (lv' := [(5, .int (l5 + (1 : Int32))), (0, .ref 102), (1, .ref q0), (2, .int l2), (4, .int l4)]) d7_oddsOfLeft_57 4 rfl (by rw [ki_1]) (by decide) rfl ?_
    refine v_goto (tgt := 16) d7_oddsOfLeft_60 (by decide) ?_
    refine v_sub [1, 2, 3, 4, 0] rfl ?_
    exact hk16 l2 l4 (l5 + (1 : Int32)) t9
theorem v7_oddsOfLeft_b16 (N : Nat) (q0 : Nat) (hq0 : IsC q0 (0, 0, 0)) (l2 : Int32) (l4 : Int32) (l5 : Int32) (σ : Ms) : VF (K7_oddsOfLeft) cX7_oddsOfLeft RX7 (F7_oddsOfLeft_b16 N q0 l2 l4 l5 σ) σ 16 [(0, .ref 102), (1, .ref q0), (2, .int l2), (4, .int l4), (5, .int l5)] [] := v_fx (σo := fun x => x.2.2.2) (lo := fun x => [(0, .ref 102), (1, .ref q0), (2, .int x.1), (4, .int x.2.1), (5, .int x.2.2.1)]) (fun k hk x => v7_oddsOfLeft_b16B N q0 hq0 k (fun l2 l4 l5 τ => hk (l2, l4, l5, τ)) x.1 x.2.1 x.2.2.1 x.2.2.2) N (l2, l4, l5, σ)
set_option maxRecDepth 100000 in
theorem mc7_oddsOfLeft (N : Nat) (q0 : Nat) (hq0 : IsC q0 (0, 0, 0)) (p1 : Int32) (σ : Ms) : MC enL yX7_oddsOfLeft cX7_oddsOfLeft 6 (some .long) 5 (F7_oddsOfLeft N q0 p1 σ) σ [.ref 102, .ref q0, .int p1] := by
  refine MC.l (by decide +kernel) (Nat.le_of_ble_eq_true rfl) ?_
  show VF (K7_oddsOfLeft) cX7_oddsOfLeft RX7 (F7_oddsOfLeft N q0 p1 σ) σ 0 [(0, .ref 102), (1, .ref q0), (2, .int p1)] []
  unfold F7_oddsOfLeft
  refine v_aload_n d7_oddsOfLeft_0 0 rfl rfl ?_
  refine v_aload_n d7_oddsOfLeft_1 1 rfl rfl ?_
  refine v_callV1i d7_oddsOfLeft_2 (mc7_gather N q0 hq0 σ) yv7_gather mlX7_86 (Recv.obj ic_102 rfl) (by decide) (Nat.le_of_ble_eq_true rfl) fun r10 t11 => ?_
  refine v_istore_n (lv' := [(3, .int r10), (0, .ref 102), (1, .ref q0), (2, .int p1)]) d7_oddsOfLeft_5 rfl (by decide) rfl ?_
  refine v_iconst d7_oddsOfLeft_6 ki_1 ?_
  refine v_iload_n d7_oddsOfLeft_7 0 rfl rfl ?_
  refine v_ishl d7_oddsOfLeft_8 ?_
  refine v_iconst d7_oddsOfLeft_9 ki_1 ?_
  refine v_isub d7_oddsOfLeft_10 ?_
  refine v_lti fun x12 => ?_
  refine v_istore (lv' := [(4, .int x12), (3, .int r10), (0, .ref 102), (1, .ref q0), (2, .int p1)]) d7_oddsOfLeft_11 (by decide) rfl ?_
  refine v_iconst d7_oddsOfLeft_13 ki_0 ?_
  refine v_istore (lv' := [(5, .int (0 : Int32)), (4, .int x12), (3, .int r10), (0, .ref 102), (1, .ref q0), (2, .int p1)]) d7_oddsOfLeft_14 (by decide) rfl ?_
  refine v_sub [3, 4, 5, 1, 0] rfl ?_
  exact v7_oddsOfLeft_b16 N q0 hq0 p1 x12 (0 : Int32) t11
theorem d8_hasRoom_0 : decode cX8_hasRoom 0 = .ok (.aload_n 0, 1) := by decide +kernel
theorem d8_hasRoom_1 : decode cX8_hasRoom 1 = .ok (.getfield 15, 3) := by decide +kernel
theorem d8_hasRoom_4 : decode cX8_hasRoom 4 = .ok (.sipush 900, 3) := by decide +kernel
theorem d8_hasRoom_7 : decode cX8_hasRoom 7 = .ok (.iload_n 1, 1) := by decide +kernel
theorem d8_hasRoom_8 : decode cX8_hasRoom 8 = .ok (.isub, 1) := by decide +kernel
theorem d8_hasRoom_9 : decode cX8_hasRoom 9 = .ok (.if_icmp .gt 7, 3) := by decide +kernel
theorem d8_hasRoom_12 : decode cX8_hasRoom 12 = .ok (.iconst 1, 1) := by decide +kernel
theorem d8_hasRoom_13 : decode cX8_hasRoom 13 = .ok (.goto 4, 3) := by decide +kernel
theorem d8_hasRoom_16 : decode cX8_hasRoom 16 = .ok (.iconst 0, 1) := by decide +kernel
theorem d8_hasRoom_17 : decode cX8_hasRoom 17 = .ok (.ireturn, 1) := by decide +kernel
abbrev K8_hasRoom : CK Int32 := (enI, (some .boolean), 2, 1, none)
noncomputable def F8_hasRoom (p0 : Int32) (σ : Ms) : Option (Int32 × Ms) :=
  if ((900 : Int32) - p0) < (σ.1 20 1) then (some ((0 : Int32), σ))
  else (some ((1 : Int32), σ))
set_option maxRecDepth 100000 in
theorem mc8_hasRoom (p0 : Int32) (σ : Ms) : MC enI yX8_hasRoom cX8_hasRoom 2 (some .boolean) 1 (F8_hasRoom p0 σ) σ [.ref 20, .int p0] := by
  refine MC.i (by decide +kernel) (Nat.le_of_ble_eq_true rfl) ?_
  show VF (K8_hasRoom) cX8_hasRoom RX8 (F8_hasRoom p0 σ) σ 0 [(0, .ref 20), (1, .int p0)] []
  unfold F8_hasRoom
  refine v_aload_n d8_hasRoom_0 0 rfl rfl ?_
  refine v_getI d8_hasRoom_1 faX8_15 ic_20 ?_
  refine v_sipush d8_hasRoom_4 ks_900 ?_
  refine v_iload_n d8_hasRoom_7 1 rfl rfl ?_
  refine v_isub d8_hasRoom_8 ?_
  refine v_icmp_gt (tgt := 16) d8_hasRoom_9 (by decide) ?_ ?_
  · refine v_iconst d8_hasRoom_16 ki_0 ?_
    exact v_iret (ty := .boolean) d8_hasRoom_17 rfl rfl rfl
  · refine v_iconst d8_hasRoom_12 ki_1 ?_
    refine v_goto (tgt := 17) d8_hasRoom_13 (by decide) ?_
    exact v_iret (ty := .boolean) d8_hasRoom_17 rfl rfl rfl
theorem d8_append_0 : decode cX8_append 0 = .ok (.aload_n 0, 1) := by decide +kernel
theorem d8_append_1 : decode cX8_append 1 = .ok (.iconst 4, 1) := by decide +kernel
theorem d8_append_2 : decode cX8_append 2 = .ok (.invokevirtual 40, 3) := by decide +kernel
theorem d8_append_5 : decode cX8_append 5 = .ok (.ifCond .ne 4, 3) := by decide +kernel
theorem d8_append_8 : decode cX8_append 8 = .ok (.return_, 1) := by decide +kernel
theorem d8_append_9 : decode cX8_append 9 = .ok (.bipush 24, 2) := by decide +kernel
theorem d8_append_11 : decode cX8_append 11 = .ok (.istore_n 2, 1) := by decide +kernel
theorem d8_append_12 : decode cX8_append 12 = .ok (.iload_n 2, 1) := by decide +kernel
theorem d8_append_13 : decode cX8_append 13 = .ok (.ifCond .lt 32, 3) := by decide +kernel
theorem d8_append_16 : decode cX8_append 16 = .ok (.aload_n 0, 1) := by decide +kernel
theorem d8_append_17 : decode cX8_append 17 = .ok (.getfield 9, 3) := by decide +kernel
theorem d8_append_20 : decode cX8_append 20 = .ok (.aload_n 0, 1) := by decide +kernel
theorem d8_append_21 : decode cX8_append 21 = .ok (.getfield 15, 3) := by decide +kernel
theorem d8_append_24 : decode cX8_append 24 = .ok (.iload_n 1, 1) := by decide +kernel
theorem d8_append_25 : decode cX8_append 25 = .ok (.iload_n 2, 1) := by decide +kernel
theorem d8_append_26 : decode cX8_append 26 = .ok (.ishr, 1) := by decide +kernel
theorem d8_append_27 : decode cX8_append 27 = .ok (.i2b, 1) := by decide +kernel
theorem d8_append_28 : decode cX8_append 28 = .ok (.bastore, 1) := by decide +kernel
theorem d8_append_29 : decode cX8_append 29 = .ok (.aload_n 0, 1) := by decide +kernel
theorem d8_append_30 : decode cX8_append 30 = .ok (.dup, 1) := by decide +kernel
theorem d8_append_31 : decode cX8_append 31 = .ok (.getfield 15, 3) := by decide +kernel
theorem d8_append_34 : decode cX8_append 34 = .ok (.iconst 1, 1) := by decide +kernel
theorem d8_append_35 : decode cX8_append 35 = .ok (.iadd, 1) := by decide +kernel
theorem d8_append_36 : decode cX8_append 36 = .ok (.putfield 15, 3) := by decide +kernel
theorem d8_append_39 : decode cX8_append 39 = .ok (.iinc 2 (-8), 3) := by decide +kernel
theorem d8_append_42 : decode cX8_append 42 = .ok (.goto (-30), 3) := by decide +kernel
theorem d8_append_45 : decode cX8_append 45 = .ok (.return_, 1) := by decide +kernel
abbrev K8_append : CK Unit := (enV, none, 3, 2, none)
noncomputable def F8_append_b12B (N : Nat) (k12 : Int32 × Int32 × Ms → Option (Unit × Ms)) (l1 : Int32) (l2 : Int32) (σ : Ms) : Option (Unit × Ms) :=
  if l2 < 0 then (some ((), σ))
  else (ck (ixb (σ.1 20 1) 900) (lt (sI σ 21 (σ.1 20 1).toNatClampNeg (((l1 >>> (l2 &&& 31)).toInt8.toInt32).toInt8.toInt32)) (fun t1 => lt (sI t1 20 1 ((t1.1 20 1) + (1 : Int32))) (fun t2 => k12 (l1, (l2 + (-8 : Int32)), t2)))))
noncomputable def F8_append_b12 (N : Nat) (l1 : Int32) (l2 : Int32) (σ : Ms) : Option (Unit × Ms) :=
  fx N (fun k x => F8_append_b12B N k x.1 x.2.1 x.2.2) (l1, l2, σ)
noncomputable def F8_append (N : Nat) (p0 : Int32) (σ : Ms) : Option (Unit × Ms) :=
  bn (F8_hasRoom (4 : Int32) σ) (fun r3 t4 => if r3 ≠ 0 then (F8_append_b12 N p0 (24 : Int32) t4)
  else (some ((), t4)))
set_option maxRecDepth 100000 in
theorem v8_append_b12B (N : Nat) (k12 : Int32 × Int32 × Ms → Option (Unit × Ms)) (hk12 : ∀ (l1 : Int32) (l2 : Int32) (τ : Ms), VF (K8_append) cX8_append RX8 (k12 (l1, l2, τ)) τ 12 [(0, .ref 20), (1, .int l1), (2, .int l2)] []) (l1 : Int32) (l2 : Int32) (σ : Ms) : VF (K8_append) cX8_append RX8 (F8_append_b12B N k12 l1 l2 σ) σ 12 [(0, .ref 20), (1, .int l1), (2, .int l2)] [] := by
  unfold F8_append_b12B
  refine v_iload_n d8_append_12 2 rfl rfl ?_
  refine v_if_lt (tgt := 45) d8_append_13 (by decide) ?_ ?_
  · exact v_vret d8_append_45 rfl
  · refine v_aload_n d8_append_16 0 rfl rfl ?_
    refine v_getR d8_append_17 faX8_9 ic_20 rfl ?_
    refine v_aload_n d8_append_20 0 rfl rfl ?_
    refine v_getI d8_append_21 faX8_15 ic_20 ?_
    refine v_iload_n d8_append_24 1 rfl rfl ?_
    refine v_iload_n d8_append_25 2 rfl rfl ?_
    refine v_ishr d8_append_26 ?_
    refine v_i2b d8_append_27 ?_
    refine v_bast d8_append_28 ic_21 ?_
    refine v_lts fun t1 => ?_
    refine v_aload_n d8_append_29 0 rfl rfl ?_
    refine v_dup d8_append_30 rfl ?_
    refine v_getI d8_append_31 faX8_15 ic_20 ?_
    refine v_iconst d8_append_34 ki_1 ?_
    refine v_iadd d8_append_35 ?_
    refine v_putI d8_append_36 faX8_15 fp5_1 ic_20 ?_
    refine v_lts fun t2 => ?_
    refine v_iinc (lv' := [(2, .int (l2 + (-8 : Int32))), (0, .ref 20), (1, .int l1)]) d8_append_39 2 rfl (by rw [ki_m8]) (by decide) rfl ?_
    refine v_goto (tgt := 12) d8_append_42 (by decide) ?_
    refine v_sub [1, 2, 0] rfl ?_
    exact hk12 l1 (l2 + (-8 : Int32)) t2
theorem v8_append_b12 (N : Nat) (l1 : Int32) (l2 : Int32) (σ : Ms) : VF (K8_append) cX8_append RX8 (F8_append_b12 N l1 l2 σ) σ 12 [(0, .ref 20), (1, .int l1), (2, .int l2)] [] := v_fx (σo := fun x => x.2.2) (lo := fun x => [(0, .ref 20), (1, .int x.1), (2, .int x.2.1)]) (fun k hk x => v8_append_b12B N k (fun l1 l2 τ => hk (l1, l2, τ)) x.1 x.2.1 x.2.2) N (l1, l2, σ)
set_option maxRecDepth 100000 in
theorem mc8_append (N : Nat) (p0 : Int32) (σ : Ms) : MC enV yX8_append cX8_append 3 none 2 (F8_append N p0 σ) σ [.ref 20, .int p0] := by
  refine MC.v (by decide +kernel) (Nat.le_of_ble_eq_true rfl) ?_
  show VF (K8_append) cX8_append RX8 (F8_append N p0 σ) σ 0 [(0, .ref 20), (1, .int p0)] []
  unfold F8_append
  refine v_aload_n d8_append_0 0 rfl rfl ?_
  refine v_iconst d8_append_1 ki_4 ?_
  refine v_callV1i d8_append_2 (mc8_hasRoom (4 : Int32) σ) yv8_hasRoom mlX8_40 (Recv.obj ic_20 rfl) (by decide) (Nat.le_of_ble_eq_true rfl) fun r3 t4 => ?_
  refine v_if_ne (tgt := 9) d8_append_5 (by decide) ?_ ?_
  · refine v_bipush d8_append_9 kb_24 ?_
    refine v_istore_n (lv' := [(2, .int (24 : Int32)), (0, .ref 20), (1, .int p0)]) d8_append_11 rfl (by decide) rfl ?_
    refine v_sub [1, 2, 0] rfl ?_
    exact v8_append_b12 N p0 (24 : Int32) t4
  · exact v_vret d8_append_8 rfl
theorem d8_empty_0 : decode cX8_empty 0 = .ok (.aload_n 0, 1) := by decide +kernel
theorem d8_empty_1 : decode cX8_empty 1 = .ok (.iconst 0, 1) := by decide +kernel
theorem d8_empty_2 : decode cX8_empty 2 = .ok (.putfield 15, 3) := by decide +kernel
theorem d8_empty_5 : decode cX8_empty 5 = .ok (.return_, 1) := by decide +kernel
abbrev K8_empty : CK Unit := (enV, none, 1, 1, none)
noncomputable def F8_empty (σ : Ms) : Option (Unit × Ms) :=
  lt (sI σ 20 1 (0 : Int32)) (fun t1 => some ((), t1))
set_option maxRecDepth 100000 in
theorem mc8_empty (σ : Ms) : MC enV yX8_empty cX8_empty 1 none 1 (F8_empty σ) σ [.ref 20] := by
  refine MC.v (by decide +kernel) (Nat.le_of_ble_eq_true rfl) ?_
  show VF (K8_empty) cX8_empty RX8 (F8_empty σ) σ 0 [(0, .ref 20)] []
  unfold F8_empty
  refine v_aload_n d8_empty_0 0 rfl rfl ?_
  refine v_iconst d8_empty_1 ki_0 ?_
  refine v_putI d8_empty_2 faX8_15 fp5_1 ic_20 ?_
  refine v_lts fun t1 => ?_
  exact v_vret d8_empty_5 rfl
theorem dJ9_min_7cf53_0 : decode cJ9_min_7cf53 0 = .ok (.iload_n 0, 1) := by decide +kernel
theorem dJ9_min_7cf53_1 : decode cJ9_min_7cf53 1 = .ok (.iload_n 1, 1) := by decide +kernel
theorem dJ9_min_7cf53_2 : decode cJ9_min_7cf53 2 = .ok (.if_icmp .gt 7, 3) := by decide +kernel
theorem dJ9_min_7cf53_5 : decode cJ9_min_7cf53 5 = .ok (.iload_n 0, 1) := by decide +kernel
theorem dJ9_min_7cf53_6 : decode cJ9_min_7cf53 6 = .ok (.goto 4, 3) := by decide +kernel
theorem dJ9_min_7cf53_9 : decode cJ9_min_7cf53 9 = .ok (.iload_n 1, 1) := by decide +kernel
theorem dJ9_min_7cf53_10 : decode cJ9_min_7cf53 10 = .ok (.ireturn, 1) := by decide +kernel
abbrev KJ9_min_7cf53 : CK Int32 := (enI, (some .int), 2, 1, none)
noncomputable def FJ9_min_7cf53 (p0 : Int32) (p1 : Int32) (σ : Ms) : Option (Int32 × Ms) :=
  if p1 < p0 then (some (p1, σ))
  else (some (p0, σ))
set_option maxRecDepth 100000 in
theorem mcJ9_min_7cf53 (p0 : Int32) (p1 : Int32) (σ : Ms) : MC enI yJ9_min_7cf53 cJ9_min_7cf53 2 (some .int) 1 (FJ9_min_7cf53 p0 p1 σ) σ [.int p0, .int p1] := by
  refine MC.iF (by decide +kernel) (Nat.le_of_ble_eq_true rfl) ?_
  show VF (KJ9_min_7cf53) cJ9_min_7cf53 RJ9 (FJ9_min_7cf53 p0 p1 σ) σ 0 [(0, .int p0), (1, .int p1)] []
  unfold FJ9_min_7cf53
  refine v_iload_n dJ9_min_7cf53_0 0 rfl rfl ?_
  refine v_iload_n dJ9_min_7cf53_1 1 rfl rfl ?_
  refine v_icmp_gt (tgt := 9) dJ9_min_7cf53_2 (by decide) ?_ ?_
  · refine v_iload_n dJ9_min_7cf53_9 1 rfl rfl ?_
    exact v_iret dJ9_min_7cf53_10 rfl rfl rfl
  · refine v_iload_n dJ9_min_7cf53_5 0 rfl rfl ?_
    refine v_goto (tgt := 10) dJ9_min_7cf53_6 (by decide) ?_
    exact v_iret dJ9_min_7cf53_10 rfl rfl rfl
theorem dJ9_max_7cf53_0 : decode cJ9_max_7cf53 0 = .ok (.iload_n 0, 1) := by decide +kernel
theorem dJ9_max_7cf53_1 : decode cJ9_max_7cf53 1 = .ok (.iload_n 1, 1) := by decide +kernel
theorem dJ9_max_7cf53_2 : decode cJ9_max_7cf53 2 = .ok (.if_icmp .lt 7, 3) := by decide +kernel
theorem dJ9_max_7cf53_5 : decode cJ9_max_7cf53 5 = .ok (.iload_n 0, 1) := by decide +kernel
theorem dJ9_max_7cf53_6 : decode cJ9_max_7cf53 6 = .ok (.goto 4, 3) := by decide +kernel
theorem dJ9_max_7cf53_9 : decode cJ9_max_7cf53 9 = .ok (.iload_n 1, 1) := by decide +kernel
theorem dJ9_max_7cf53_10 : decode cJ9_max_7cf53 10 = .ok (.ireturn, 1) := by decide +kernel
abbrev KJ9_max_7cf53 : CK Int32 := (enI, (some .int), 2, 1, none)
noncomputable def FJ9_max_7cf53 (p0 : Int32) (p1 : Int32) (σ : Ms) : Option (Int32 × Ms) :=
  if p0 < p1 then (some (p1, σ))
  else (some (p0, σ))
set_option maxRecDepth 100000 in
theorem mcJ9_max_7cf53 (p0 : Int32) (p1 : Int32) (σ : Ms) : MC enI yJ9_max_7cf53 cJ9_max_7cf53 2 (some .int) 1 (FJ9_max_7cf53 p0 p1 σ) σ [.int p0, .int p1] := by
  refine MC.iF (by decide +kernel) (Nat.le_of_ble_eq_true rfl) ?_
  show VF (KJ9_max_7cf53) cJ9_max_7cf53 RJ9 (FJ9_max_7cf53 p0 p1 σ) σ 0 [(0, .int p0), (1, .int p1)] []
  unfold FJ9_max_7cf53
  refine v_iload_n dJ9_max_7cf53_0 0 rfl rfl ?_
  refine v_iload_n dJ9_max_7cf53_1 1 rfl rfl ?_
  refine v_icmp_lt (tgt := 9) dJ9_max_7cf53_2 (by decide) ?_ ?_
  · refine v_iload_n dJ9_max_7cf53_9 1 rfl rfl ?_
    exact v_iret dJ9_max_7cf53_10 rfl rfl rfl
  · refine v_iload_n dJ9_max_7cf53_5 0 rfl rfl ?_
    refine v_goto (tgt := 10) dJ9_max_7cf53_6 (by decide) ?_
    exact v_iret dJ9_max_7cf53_10 rfl rfl rfl
theorem d8_open_0 : decode cX8_open 0 = .ok (.aload_n 0, 1) := by decide +kernel
theorem d8_open_1 : decode cX8_open 1 = .ok (.iconst 0, 1) := by decide +kernel
theorem d8_open_2 : decode cX8_open 2 = .ok (.iload_n 1, 1) := by decide +kernel
theorem d8_open_3 : decode cX8_open 3 = .ok (.aload_n 0, 1) := by decide +kernel
theorem d8_open_4 : decode cX8_open 4 = .ok (.getfield 15, 3) := by decide +kernel
theorem d8_open_7 : decode cX8_open 7 = .ok (.invokestatic 44, 3) := by decide +kernel
theorem d8_open_10 : decode cX8_open 10 = .ok (.invokestatic 50, 3) := by decide +kernel
theorem d8_open_13 : decode cX8_open 13 = .ok (.putfield 25, 3) := by decide +kernel
theorem d8_open_16 : decode cX8_open 16 = .ok (.aload_n 0, 1) := by decide +kernel
theorem d8_open_17 : decode cX8_open 17 = .ok (.iconst 0, 1) := by decide +kernel
theorem d8_open_18 : decode cX8_open 18 = .ok (.putfield 19, 3) := by decide +kernel
theorem d8_open_21 : decode cX8_open 21 = .ok (.aload_n 0, 1) := by decide +kernel
theorem d8_open_22 : decode cX8_open 22 = .ok (.iconst (-1), 1) := by decide +kernel
theorem d8_open_23 : decode cX8_open 23 = .ok (.putfield 22, 3) := by decide +kernel
theorem d8_open_26 : decode cX8_open 26 = .ok (.aload_n 0, 1) := by decide +kernel
theorem d8_open_27 : decode cX8_open 27 = .ok (.iconst 0, 1) := by decide +kernel
theorem d8_open_28 : decode cX8_open 28 = .ok (.putfield 34, 3) := by decide +kernel
theorem d8_open_31 : decode cX8_open 31 = .ok (.aload_n 0, 1) := by decide +kernel
theorem d8_open_32 : decode cX8_open 32 = .ok (.invokevirtual 53, 3) := by decide +kernel
theorem d8_open_35 : decode cX8_open 35 = .ok (.return_, 1) := by decide +kernel
abbrev K8_open : CK Unit := (enV, none, 2, 4, none)
noncomputable def F8_open (N : Nat) (p0 : Int32) (σ : Ms) : Option (Unit × Ms) :=
  bn (FJ9_min_7cf53 p0 (σ.1 20 1) σ) (fun r1 t2 => bn (FJ9_max_7cf53 (0 : Int32) r1 t2) (fun r3 t4 => lt (sI t4 20 4 r3) (fun t5 => lt (sI t5 20 2 (0 : Int32)) (fun t6 => lt (sI t6 20 3 (-1 : Int32)) (fun t7 => lt (sI t7 20 7 (0 : Int32)) (fun t8 => bn (F8_step N t8) (fun r9 t10 => some ((), t10))))))))
set_option maxRecDepth 100000 in
theorem mc8_open (N : Nat) (p0 : Int32) (σ : Ms) : MC enV yX8_open cX8_open 2 none 4 (F8_open N p0 σ) σ [.ref 20, .int p0] := by
  refine MC.v (by decide +kernel) (Nat.le_of_ble_eq_true rfl) ?_
  show VF (K8_open) cX8_open RX8 (F8_open N p0 σ) σ 0 [(0, .ref 20), (1, .int p0)] []
  unfold F8_open
  refine v_aload_n d8_open_0 0 rfl rfl ?_
  refine v_iconst d8_open_1 ki_0 ?_
  refine v_iload_n d8_open_2 1 rfl rfl ?_
  refine v_aload_n d8_open_3 0 rfl rfl ?_
  refine v_getI d8_open_4 faX8_15 ic_20 ?_
  refine v_callS2i d8_open_7 (mcJ9_min_7cf53 p0 (σ.1 20 1) σ) ysJ9_min_7cf53 mlX8_44 (by decide) (Nat.le_of_ble_eq_true rfl) fun r1 t2 => ?_
  refine v_callS2i d8_open_10 (mcJ9_max_7cf53 (0 : Int32) r1 t2) ysJ9_max_7cf53 mlX8_50 (by decide) (Nat.le_of_ble_eq_true rfl) fun r3 t4 => ?_
  refine v_putI d8_open_13 faX8_25 fp5_4 ic_20 ?_
  refine v_lts fun t5 => ?_
  refine v_aload_n d8_open_16 0 rfl rfl ?_
  refine v_iconst d8_open_17 ki_0 ?_
  refine v_putI d8_open_18 faX8_19 fp5_2 ic_20 ?_
  refine v_lts fun t6 => ?_
  refine v_aload_n d8_open_21 0 rfl rfl ?_
  refine v_iconst d8_open_22 ki_m1 ?_
  refine v_putI d8_open_23 faX8_22 fp5_3 ic_20 ?_
  refine v_lts fun t7 => ?_
  refine v_aload_n d8_open_26 0 rfl rfl ?_
  refine v_iconst d8_open_27 ki_0 ?_
  refine v_putI d8_open_28 faX8_34 fp5_7 ic_20 ?_
  refine v_lts fun t8 => ?_
  refine v_aload_n d8_open_31 0 rfl rfl ?_
  refine v_callV0v d8_open_32 (mc8_step N t8) yv8_step mlX8_53 (Recv.obj ic_20 rfl) (by decide) (Nat.le_of_ble_eq_true rfl) fun r9 t10 => ?_
  exact v_vret d8_open_35 rfl
theorem d9_isTray_0 : decode cX9_isTray 0 = .ok (.iload_n 0, 1) := by decide +kernel
theorem d9_isTray_1 : decode cX9_isTray 1 = .ok (.ifCond .lt 12, 3) := by decide +kernel
theorem d9_isTray_4 : decode cX9_isTray 4 = .ok (.iload_n 0, 1) := by decide +kernel
theorem d9_isTray_5 : decode cX9_isTray 5 = .ok (.iconst 4, 1) := by decide +kernel
theorem d9_isTray_6 : decode cX9_isTray 6 = .ok (.if_icmp .ge 7, 3) := by decide +kernel
theorem d9_isTray_9 : decode cX9_isTray 9 = .ok (.iconst 1, 1) := by decide +kernel
theorem d9_isTray_10 : decode cX9_isTray 10 = .ok (.goto 4, 3) := by decide +kernel
theorem d9_isTray_13 : decode cX9_isTray 13 = .ok (.iconst 0, 1) := by decide +kernel
theorem d9_isTray_14 : decode cX9_isTray 14 = .ok (.ireturn, 1) := by decide +kernel
abbrev K9_isTray : CK Int32 := (enI, (some .boolean), 1, 1, none)
noncomputable def F9_isTray (p0 : Int32) (σ : Ms) : Option (Int32 × Ms) :=
  if p0 < 0 then (some ((0 : Int32), σ))
  else (if (4 : Int32) ≤ p0 then (some ((0 : Int32), σ))
  else (some ((1 : Int32), σ)))
set_option maxRecDepth 100000 in
theorem mc9_isTray (p0 : Int32) (σ : Ms) : MC enI yX9_isTray cX9_isTray 1 (some .boolean) 1 (F9_isTray p0 σ) σ [.int p0] := by
  refine MC.i (by decide +kernel) (Nat.le_of_ble_eq_true rfl) ?_
  show VF (K9_isTray) cX9_isTray RX9 (F9_isTray p0 σ) σ 0 [(0, .int p0)] []
  unfold F9_isTray
  refine v_iload_n d9_isTray_0 0 rfl rfl ?_
  refine v_if_lt (tgt := 13) d9_isTray_1 (by decide) ?_ ?_
  · refine v_iconst d9_isTray_13 ki_0 ?_
    exact v_iret (ty := .boolean) d9_isTray_14 rfl rfl rfl
  · refine v_iload_n d9_isTray_4 0 rfl rfl ?_
    refine v_iconst d9_isTray_5 ki_4 ?_
    refine v_icmp_ge (tgt := 13) d9_isTray_6 (by decide) ?_ ?_
    · refine v_iconst d9_isTray_13 ki_0 ?_
      exact v_iret (ty := .boolean) d9_isTray_14 rfl rfl rfl
    · refine v_iconst d9_isTray_9 ki_1 ?_
      refine v_goto (tgt := 14) d9_isTray_10 (by decide) ?_
      exact v_iret (ty := .boolean) d9_isTray_14 rfl rfl rfl
theorem d9_isSort_0 : decode cX9_isSort 0 = .ok (.iload_n 0, 1) := by decide +kernel
theorem d9_isSort_1 : decode cX9_isSort 1 = .ok (.ifCond .lt 12, 3) := by decide +kernel
theorem d9_isSort_4 : decode cX9_isSort 4 = .ok (.iload_n 0, 1) := by decide +kernel
theorem d9_isSort_5 : decode cX9_isSort 5 = .ok (.iconst 3, 1) := by decide +kernel
theorem d9_isSort_6 : decode cX9_isSort 6 = .ok (.if_icmp .gt 7, 3) := by decide +kernel
theorem d9_isSort_9 : decode cX9_isSort 9 = .ok (.iconst 1, 1) := by decide +kernel
theorem d9_isSort_10 : decode cX9_isSort 10 = .ok (.goto 4, 3) := by decide +kernel
theorem d9_isSort_13 : decode cX9_isSort 13 = .ok (.iconst 0, 1) := by decide +kernel
theorem d9_isSort_14 : decode cX9_isSort 14 = .ok (.ireturn, 1) := by decide +kernel
abbrev K9_isSort : CK Int32 := (enI, (some .boolean), 1, 1, none)
noncomputable def F9_isSort (p0 : Int32) (σ : Ms) : Option (Int32 × Ms) :=
  if p0 < 0 then (some ((0 : Int32), σ))
  else (if (3 : Int32) < p0 then (some ((0 : Int32), σ))
  else (some ((1 : Int32), σ)))
set_option maxRecDepth 100000 in
theorem mc9_isSort (p0 : Int32) (σ : Ms) : MC enI yX9_isSort cX9_isSort 1 (some .boolean) 1 (F9_isSort p0 σ) σ [.int p0] := by
  refine MC.i (by decide +kernel) (Nat.le_of_ble_eq_true rfl) ?_
  show VF (K9_isSort) cX9_isSort RX9 (F9_isSort p0 σ) σ 0 [(0, .int p0)] []
  unfold F9_isSort
  refine v_iload_n d9_isSort_0 0 rfl rfl ?_
  refine v_if_lt (tgt := 13) d9_isSort_1 (by decide) ?_ ?_
  · refine v_iconst d9_isSort_13 ki_0 ?_
    exact v_iret (ty := .boolean) d9_isSort_14 rfl rfl rfl
  · refine v_iload_n d9_isSort_4 0 rfl rfl ?_
    refine v_iconst d9_isSort_5 ki_3 ?_
    refine v_icmp_gt (tgt := 13) d9_isSort_6 (by decide) ?_ ?_
    · refine v_iconst d9_isSort_13 ki_0 ?_
      exact v_iret (ty := .boolean) d9_isSort_14 rfl rfl rfl
    · refine v_iconst d9_isSort_9 ki_1 ?_
      refine v_goto (tgt := 14) d9_isSort_10 (by decide) ?_
      exact v_iret (ty := .boolean) d9_isSort_14 rfl rfl rfl
