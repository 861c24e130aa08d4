theorem d6_takeComparison_0 : decode cX6_takeComparison 0 = .ok (.aload_n 0, 1) := by decide +kernel
theorem d6_takeComparison_1 : decode cX6_takeComparison 1 = .ok (.bipush 60, 2) := by decide +kernel
theorem d6_takeComparison_3 : decode cX6_takeComparison 3 = .ok (.invokevirtual 126, 3) := by decide +kernel
theorem d6_takeComparison_6 : decode cX6_takeComparison 6 = .ok (.ifCond .eq 7, 3) := by decide +kernel
theorem d6_takeComparison_9 : decode cX6_takeComparison 9 = .ok (.iconst 0, 1) := by decide +kernel
theorem d6_takeComparison_10 : decode cX6_takeComparison 10 = .ok (.goto 30, 3) := by decide +kernel
theorem d6_takeComparison_13 : decode cX6_takeComparison 13 = .ok (.aload_n 0, 1) := by decide +kernel
theorem d6_takeComparison_14 : decode cX6_takeComparison 14 = .ok (.bipush 62, 2) := by decide +kernel
theorem d6_takeComparison_16 : decode cX6_takeComparison 16 = .ok (.invokevirtual 126, 3) := by decide +kernel
theorem d6_takeComparison_19 : decode cX6_takeComparison 19 = .ok (.ifCond .eq 7, 3) := by decide +kernel
theorem d6_takeComparison_22 : decode cX6_takeComparison 22 = .ok (.iconst 1, 1) := by decide +kernel
theorem d6_takeComparison_23 : decode cX6_takeComparison 23 = .ok (.goto 17, 3) := by decide +kernel
theorem d6_takeComparison_26 : decode cX6_takeComparison 26 = .ok (.aload_n 0, 1) := by decide +kernel
theorem d6_takeComparison_27 : decode cX6_takeComparison 27 = .ok (.bipush 61, 2) := by decide +kernel
theorem d6_takeComparison_29 : decode cX6_takeComparison 29 = .ok (.invokevirtual 126, 3) := by decide +kernel
theorem d6_takeComparison_32 : decode cX6_takeComparison 32 = .ok (.ifCond .eq 7, 3) := by decide +kernel
theorem d6_takeComparison_35 : decode cX6_takeComparison 35 = .ok (.iconst 2, 1) := by decide +kernel
theorem d6_takeComparison_36 : decode cX6_takeComparison 36 = .ok (.goto 4, 3) := by decide +kernel
theorem d6_takeComparison_39 : decode cX6_takeComparison 39 = .ok (.iconst (-1), 1) := by decide +kernel
theorem d6_takeComparison_40 : decode cX6_takeComparison 40 = .ok (.istore_n 1, 1) := by decide +kernel
theorem d6_takeComparison_41 : decode cX6_takeComparison 41 = .ok (.iload_n 1, 1) := by decide +kernel
theorem d6_takeComparison_42 : decode cX6_takeComparison 42 = .ok (.iconst (-1), 1) := by decide +kernel
theorem d6_takeComparison_43 : decode cX6_takeComparison 43 = .ok (.if_icmp .ne 8, 3) := by decide +kernel
theorem d6_takeComparison_46 : decode cX6_takeComparison 46 = .ok (.aload_n 0, 1) := by decide +kernel
theorem d6_takeComparison_47 : decode cX6_takeComparison 47 = .ok (.iconst 2, 1) := by decide +kernel
theorem d6_takeComparison_48 : decode cX6_takeComparison 48 = .ok (.invokevirtual 39, 3) := by decide +kernel
theorem d6_takeComparison_51 : decode cX6_takeComparison 51 = .ok (.aload_n 0, 1) := by decide +kernel
theorem d6_takeComparison_52 : decode cX6_takeComparison 52 = .ok (.invokevirtual 43, 3) := by decide +kernel
theorem d6_takeComparison_55 : decode cX6_takeComparison 55 = .ok (.iload_n 1, 1) := by decide +kernel
theorem d6_takeComparison_56 : decode cX6_takeComparison 56 = .ok (.ireturn, 1) := by decide +kernel
abbrev K6_takeComparison : CK Int32 := (enI, (some .int), 2, 4, none)
noncomputable def F6_takeComparison_b51 (N : Nat) (l1 : Int32) (σ : Ms) : Option (Int32 × Ms) :=
  bn (F8_step N σ) (fun r1 t2 => some (l1, t2))
noncomputable def F6_takeComparison_b40 (N : Nat) (s0 : Int32) (σ : Ms) : Option (Int32 × Ms) :=
  if s0 ≠ (-1 : Int32) then (F6_takeComparison_b51 N s0 σ)
  else (bn (F8_refuse (2 : Int32) σ) (fun r3 t4 => F6_takeComparison_b51 N s0 t4))
noncomputable def F6_takeComparison (N : Nat) (σ : Ms) : Option (Int32 × Ms) :=
  bn (F8_isMark (60 : Int32) σ) (fun r5 t6 => if r5 = 0 then (bn (F8_isMark (62 : Int32) t6) (fun r7 t8 => if r7 = 0 then (bn (F8_isMark (61 : Int32) t8) (fun r9 t10 => if r9 = 0 then (F6_takeComparison_b40 N (-1 : Int32) t10)
  else (F6_takeComparison_b40 N (2 : Int32) t10)))
  else (F6_takeComparison_b40 N (1 : Int32) t8)))
  else (F6_takeComparison_b40 N (0 : Int32) t6))
set_option maxRecDepth 100000 in
theorem v6_takeComparison_b51 (N : Nat) (l1 : Int32) (σ : Ms) : VF (K6_takeComparison) cX6_takeComparison RX6 (F6_takeComparison_b51 N l1 σ) σ 51 [(0, .ref 20), (1, .int l1)] [] := by
  unfold F6_takeComparison_b51
  refine v_aload_n d6_takeComparison_51 0 rfl rfl ?_
  refine v_callV0v d6_takeComparison_52 (mc8_step N σ) yv8_step mlX6_43 (Recv.obj ic_20 rfl) (by decide) (Nat.le_of_ble_eq_true rfl) fun r1 t2 => ?_
  refine v_iload_n d6_takeComparison_55 1 rfl rfl ?_
  exact v_iret d6_takeComparison_56 rfl rfl rfl
set_option maxRecDepth 100000 in
theorem v6_takeComparison_b40 (N : Nat) (s0 : Int32) (σ : Ms) : VF (K6_takeComparison) cX6_takeComparison RX6 (F6_takeComparison_b40 N s0 σ) σ 40 [(0, .ref 20)] [.int s0] := by
  unfold F6_takeComparison_b40
  refine v_istore_n (lv' := [(1, .int s0), (0, .ref 20)]) d6_takeComparison_40 rfl (by decide) rfl ?_
  refine v_iload_n d6_takeComparison_41 0 rfl rfl ?_
  refine v_iconst d6_takeComparison_42 ki_m1 ?_
  refine v_icmp_ne (tgt := 51) d6_takeComparison_43 (by decide) ?_ ?_
  · refine v_sub [1, 0] rfl ?_
    exact v6_takeComparison_b51 N s0 σ
  · refine v_aload_n d6_takeComparison_46 1 rfl rfl ?_
    refine v_iconst d6_takeComparison_47 ki_2 ?_
    refine v_callV1v d6_takeComparison_48 (mc8_refuse (2 : Int32) σ) yv8_refuse mlX6_39 (Recv.obj ic_20 rfl) (by decide) (Nat.le_of_ble_eq_true rfl) fun r3 t4 => ?_
    refine v_sub [1, 0] rfl ?_
    exact v6_takeComparison_b51 N s0 t4
set_option maxRecDepth 100000 in
theorem mc6_takeComparison (N : Nat) (σ : Ms) : MC enI yX6_takeComparison cX6_takeComparison 2 (some .int) 4 (F6_takeComparison N σ) σ [.ref 20] := by
  refine MC.i (by decide +kernel) (Nat.le_of_ble_eq_true rfl) ?_
  show VF (K6_takeComparison) cX6_takeComparison RX6 (F6_takeComparison N σ) σ 0 [(0, .ref 20)] []
  unfold F6_takeComparison
  refine v_aload_n d6_takeComparison_0 0 rfl rfl ?_
  refine v_bipush d6_takeComparison_1 kb_60 ?_
  refine v_callV1i d6_takeComparison_3 (mc8_isMark (60 : Int32) σ) yv8_isMark mlX6_126 (Recv.obj ic_20 rfl) (by decide) (Nat.le_of_ble_eq_true rfl) fun r5 t6 => ?_
  refine v_if_eq (tgt := 13) d6_takeComparison_6 (by decide) ?_ ?_
  · refine v_aload_n d6_takeComparison_13 0 rfl rfl ?_
    refine v_bipush d6_takeComparison_14 kb_62 ?_
    refine v_callV1i d6_takeComparison_16 (mc8_isMark (62 : Int32) t6) yv8_isMark mlX6_126 (Recv.obj ic_20 rfl) (by decide) (Nat.le_of_ble_eq_true rfl) fun r7 t8 => ?_
    refine v_if_eq (tgt := 26) d6_takeComparison_19 (by decide) ?_ ?_
    · refine v_aload_n d6_takeComparison_26 0 rfl rfl ?_
      refine v_bipush d6_takeComparison_27 kb_61 ?_
      refine v_callV1i d6_takeComparison_29 (mc8_isMark (61 : Int32) t8) yv8_isMark mlX6_126 (Recv.obj ic_20 rfl) (by decide) (Nat.le_of_ble_eq_true rfl) fun r9 t10 => ?_
      refine v_if_eq (tgt := 39) d6_takeComparison_32 (by decide) ?_ ?_
      · refine v_iconst d6_takeComparison_39 ki_m1 ?_
        exact v6_takeComparison_b40 N (-1 : Int32) t10
      · refine v_iconst d6_takeComparison_35 ki_2 ?_
        refine v_goto (tgt := 40) d6_takeComparison_36 (by decide) ?_
        exact v6_takeComparison_b40 N (2 : Int32) t10
    · refine v_iconst d6_takeComparison_22 ki_1 ?_
      refine v_goto (tgt := 40) d6_takeComparison_23 (by decide) ?_
      exact v6_takeComparison_b40 N (1 : Int32) t8
  · refine v_iconst d6_takeComparison_9 ki_0 ?_
    refine v_goto (tgt := 40) d6_takeComparison_10 (by decide) ?_
    exact v6_takeComparison_b40 N (0 : Int32) t6
theorem d6_parseWhen_0 : decode cX6_parseWhen 0 = .ok (.aload_n 0, 1) := by decide +kernel
theorem d6_parseWhen_1 : decode cX6_parseWhen 1 = .ok (.invokestatic 112, 3) := by decide +kernel
theorem d6_parseWhen_4 : decode cX6_parseWhen 4 = .ok (.istore_n 2, 1) := by decide +kernel
theorem d6_parseWhen_5 : decode cX6_parseWhen 5 = .ok (.iload_n 2, 1) := by decide +kernel
theorem d6_parseWhen_6 : decode cX6_parseWhen 6 = .ok (.iconst (-1), 1) := by decide +kernel
theorem d6_parseWhen_7 : decode cX6_parseWhen 7 = .ok (.if_icmp .ne 8, 3) := by decide +kernel
theorem d6_parseWhen_10 : decode cX6_parseWhen 10 = .ok (.aload_n 0, 1) := by decide +kernel
theorem d6_parseWhen_11 : decode cX6_parseWhen 11 = .ok (.iconst 2, 1) := by decide +kernel
theorem d6_parseWhen_12 : decode cX6_parseWhen 12 = .ok (.invokevirtual 39, 3) := by decide +kernel
theorem d6_parseWhen_15 : decode cX6_parseWhen 15 = .ok (.aload_n 0, 1) := by decide +kernel
theorem d6_parseWhen_16 : decode cX6_parseWhen 16 = .ok (.invokevirtual 43, 3) := by decide +kernel
theorem d6_parseWhen_19 : decode cX6_parseWhen 19 = .ok (.iload_n 2, 1) := by decide +kernel
theorem d6_parseWhen_20 : decode cX6_parseWhen 20 = .ok (.iconst 1, 1) := by decide +kernel
theorem d6_parseWhen_21 : decode cX6_parseWhen 21 = .ok (.if_icmp .eq 8, 3) := by decide +kernel
theorem d6_parseWhen_24 : decode cX6_parseWhen 24 = .ok (.iload_n 2, 1) := by decide +kernel
theorem d6_parseWhen_25 : decode cX6_parseWhen 25 = .ok (.iconst 2, 1) := by decide +kernel
theorem d6_parseWhen_26 : decode cX6_parseWhen 26 = .ok (.if_icmp .ne 10, 3) := by decide +kernel
theorem d6_parseWhen_29 : decode cX6_parseWhen 29 = .ok (.aload_n 0, 1) := by decide +kernel
theorem d6_parseWhen_30 : decode cX6_parseWhen 30 = .ok (.invokestatic 115, 3) := by decide +kernel
theorem d6_parseWhen_33 : decode cX6_parseWhen 33 = .ok (.goto 4, 3) := by decide +kernel
theorem d6_parseWhen_36 : decode cX6_parseWhen 36 = .ok (.iconst (-1), 1) := by decide +kernel
theorem d6_parseWhen_37 : decode cX6_parseWhen 37 = .ok (.istore_n 3, 1) := by decide +kernel
theorem d6_parseWhen_38 : decode cX6_parseWhen 38 = .ok (.iconst 0, 1) := by decide +kernel
theorem d6_parseWhen_39 : decode cX6_parseWhen 39 = .ok (.istore 4, 2) := by decide +kernel
theorem d6_parseWhen_41 : decode cX6_parseWhen 41 = .ok (.iload_n 2, 1) := by decide +kernel
theorem d6_parseWhen_42 : decode cX6_parseWhen 42 = .ok (.tableswitch 62 0 2 #[26, 38, 50], 26) := by decide +kernel
theorem d6_parseWhen_68 : decode cX6_parseWhen 68 = .ok (.aload_n 0, 1) := by decide +kernel
theorem d6_parseWhen_69 : decode cX6_parseWhen 69 = .ok (.iconst 0, 1) := by decide +kernel
theorem d6_parseWhen_70 : decode cX6_parseWhen 70 = .ok (.bipush 19, 2) := by decide +kernel
theorem d6_parseWhen_72 : decode cX6_parseWhen 72 = .ok (.invokevirtual 79, 3) := by decide +kernel
theorem d6_parseWhen_75 : decode cX6_parseWhen 75 = .ok (.istore 4, 2) := by decide +kernel
theorem d6_parseWhen_77 : decode cX6_parseWhen 77 = .ok (.goto 33, 3) := by decide +kernel
theorem d6_parseWhen_80 : decode cX6_parseWhen 80 = .ok (.aload_n 0, 1) := by decide +kernel
theorem d6_parseWhen_81 : decode cX6_parseWhen 81 = .ok (.iconst 0, 1) := by decide +kernel
theorem d6_parseWhen_82 : decode cX6_parseWhen 82 = .ok (.bipush 20, 2) := by decide +kernel
theorem d6_parseWhen_84 : decode cX6_parseWhen 84 = .ok (.invokevirtual 79, 3) := by decide +kernel
theorem d6_parseWhen_87 : decode cX6_parseWhen 87 = .ok (.istore 4, 2) := by decide +kernel
theorem d6_parseWhen_89 : decode cX6_parseWhen 89 = .ok (.goto 21, 3) := by decide +kernel
theorem d6_parseWhen_92 : decode cX6_parseWhen 92 = .ok (.aload_n 0, 1) := by decide +kernel
theorem d6_parseWhen_93 : decode cX6_parseWhen 93 = .ok (.iconst 0, 1) := by decide +kernel
theorem d6_parseWhen_94 : decode cX6_parseWhen 94 = .ok (.bipush 31, 2) := by decide +kernel
theorem d6_parseWhen_96 : decode cX6_parseWhen 96 = .ok (.invokevirtual 79, 3) := by decide +kernel
theorem d6_parseWhen_99 : decode cX6_parseWhen 99 = .ok (.istore 4, 2) := by decide +kernel
theorem d6_parseWhen_101 : decode cX6_parseWhen 101 = .ok (.goto 9, 3) := by decide +kernel
theorem d6_parseWhen_104 : decode cX6_parseWhen 104 = .ok (.aload_n 0, 1) := by decide +kernel
theorem d6_parseWhen_105 : decode cX6_parseWhen 105 = .ok (.invokevirtual 103, 3) := by decide +kernel
theorem d6_parseWhen_108 : decode cX6_parseWhen 108 = .ok (.istore 4, 2) := by decide +kernel
theorem d6_parseWhen_110 : decode cX6_parseWhen 110 = .ok (.aload_n 1, 1) := by decide +kernel
theorem d6_parseWhen_111 : decode cX6_parseWhen 111 = .ok (.iconst 5, 1) := by decide +kernel
theorem d6_parseWhen_112 : decode cX6_parseWhen 112 = .ok (.iload_n 2, 1) := by decide +kernel
theorem d6_parseWhen_113 : decode cX6_parseWhen 113 = .ok (.iload 4, 2) := by decide +kernel
theorem d6_parseWhen_115 : decode cX6_parseWhen 115 = .ok (.iload_n 3, 1) := by decide +kernel
theorem d6_parseWhen_116 : decode cX6_parseWhen 116 = .ok (.invokevirtual 83, 3) := by decide +kernel
theorem d6_parseWhen_119 : decode cX6_parseWhen 119 = .ok (.return_, 1) := by decide +kernel
abbrev K6_parseWhen : CK Unit := (enV, none, 5, 7, none)
noncomputable def F6_parseWhen_b110 (N : Nat) (q1 : Nat) (l2 : Int32) (l3 : Int32) (l4 : Int32) (σ : Ms) : Option (Unit × Ms) :=
  bn (F5_add q1 (5 : Int32) l2 l4 l3 σ) (fun r1 t2 => some ((), t2))
noncomputable def F6_parseWhen_b37 (N : Nat) (q1 : Nat) (l2 : Int32) (s0 : Int32) (σ : Ms) : Option (Unit × Ms) :=
  if l2 = (0 : Int32) then (bn (F8_takeNumber N (0 : Int32) (19 : Int32) σ) (fun r3 t4 => F6_parseWhen_b110 N q1 l2 s0 r3 t4))
  else (if l2 = (1 : Int32) then (bn (F8_takeNumber N (0 : Int32) (20 : Int32) σ) (fun r5 t6 => F6_parseWhen_b110 N q1 l2 s0 r5 t6))
  else (if l2 = (2 : Int32) then (bn (F8_takeNumber N (0 : Int32) (31 : Int32) σ) (fun r7 t8 => F6_parseWhen_b110 N q1 l2 s0 r7 t8))
  else (bn (F8_takeSide N σ) (fun r9 t10 => F6_parseWhen_b110 N q1 l2 s0 r9 t10))))
noncomputable def F6_parseWhen_b29 (N : Nat) (q1 : Nat) (l2 : Int32) (σ : Ms) : Option (Unit × Ms) :=
  bn (F6_takeComparison N σ) (fun r11 t12 => F6_parseWhen_b37 N q1 l2 r11 t12)
noncomputable def F6_parseWhen_b15 (N : Nat) (q1 : Nat) (l2 : Int32) (σ : Ms) : Option (Unit × Ms) :=
  bn (F8_step N σ) (fun r13 t14 => if l2 = (1 : Int32) then (F6_parseWhen_b29 N q1 l2 t14)
  else (if l2 ≠ (2 : Int32) then (F6_parseWhen_b37 N q1 l2 (-1 : Int32) t14)
  else (F6_parseWhen_b29 N q1 l2 t14)))
noncomputable def F6_parseWhen (N : Nat) (q1 : Nat) (σ : Ms) : Option (Unit × Ms) :=
  bn (F6_testHere N σ) (fun r15 t16 => if r15 ≠ (-1 : Int32) then (F6_parseWhen_b15 N q1 r15 t16)
  else (bn (F8_refuse (2 : Int32) t16) (fun r17 t18 => F6_parseWhen_b15 N q1 r15 t18)))
set_option maxRecDepth 100000 in
theorem v6_parseWhen_b110 (N : Nat) (q1 : Nat) (hq1 : IsC q1 (0, 3, 0)) (l2 : Int32) (l3 : Int32) (l4 : Int32) (σ : Ms) : VF (K6_parseWhen) cX6_parseWhen RX6 (F6_parseWhen_b110 N q1 l2 l3 l4 σ) σ 110 [(1, .ref q1), (2, .int l2), (3, .int l3), (4, .int l4)] [] := by
  unfold F6_parseWhen_b110
  refine v_aload_n d6_parseWhen_110 0 rfl rfl ?_
  refine v_iconst d6_parseWhen_111 ki_5 ?_
  refine v_iload_n d6_parseWhen_112 1 rfl rfl ?_
  refine v_iload d6_parseWhen_113 3 rfl ?_
  refine v_iload_n d6_parseWhen_115 2 rfl rfl ?_
  refine v_callV4v d6_parseWhen_116 (mc5_add q1 hq1 (5 : Int32) l2 l4 l3 σ) yv5_add mlX6_83 (Recv.obj hq1 rfl) (by decide) (Nat.le_of_ble_eq_true rfl) fun r1 t2 => ?_
  exact v_vret d6_parseWhen_119 rfl
set_option maxRecDepth 100000 in
theorem v6_parseWhen_b37 (N : Nat) (q1 : Nat) (hq1 : IsC q1 (0, 3, 0)) (l2 : Int32) (s0 : Int32) (σ : Ms) : VF (K6_parseWhen) cX6_parseWhen RX6 (F6_parseWhen_b37 N q1 l2 s0 σ) σ 37 [(0, .ref 20), (1, .ref q1), (2, .int l2)] [.int s0] := by
  unfold F6_parseWhen_b37
  refine v_istore_n (lv' := [(3, .int s0), (0, .ref 20), (1, .ref q1), (2, .int l2)]) d6_parseWhen_37 rfl (by decide) rfl ?_
  refine v_iconst d6_parseWhen_38 ki_0 ?_
  refine v_istore (lv' := [(4, .int (0 : Int32)), (3, .int s0), (0, .ref 20), (1, .ref q1), (2, .int l2)]) d6_parseWhen_39 (by decide) rfl ?_
  refine v_iload_n d6_parseWhen_41 4 rfl rfl ?_
  refine v_ite _ (fun ht0 => ?_) (fun ht0 => ?_)
  · refine v_tabIn (tgt := 68) d6_parseWhen_42 (0 : Int32) ht0 (by decide) (by decide) rfl (by decide) ?_
    refine v_aload_n d6_parseWhen_68 2 rfl rfl ?_
    refine v_iconst d6_parseWhen_69 ki_0 ?_
    refine v_bipush d6_parseWhen_70 kb_19 ?_
    refine v_callV2i d6_parseWhen_72 (mc8_takeNumber N (0 : Int32) (19 : Int32) σ) yv8_takeNumber mlX6_79 (Recv.obj ic_20 rfl) (by decide) (Nat.le_of_ble_eq_true rfl) fun r3 t4 => ?_
    refine v_istore (lv' := [(4, .int r3), (3, .int s0), (0, .ref 20), (1, .ref q1), (2, .int l2)]) d6_parseWhen_75 (by decide) rfl ?_
    refine v_goto (tgt := 110) d6_parseWhen_77 (by decide) ?_
    refine v_sub [3, 4, 1, 0] rfl ?_
    exact v6_parseWhen_b110 N q1 hq1 l2 s0 r3 t4
  refine v_ite _ (fun ht1 => ?_) (fun ht1 => ?_)
  · refine v_tabIn (tgt := 80) d6_parseWhen_42 (1 : Int32) ht1 (by decide) (by decide) rfl (by decide) ?_
    refine v_aload_n d6_parseWhen_80 2 rfl rfl ?_
    refine v_iconst d6_parseWhen_81 ki_0 ?_
    refine v_bipush d6_parseWhen_82 kb_20 ?_
    refine v_callV2i d6_parseWhen_84 (mc8_takeNumber N (0 : Int32) (20 : Int32) σ) yv8_takeNumber mlX6_79 (Recv.obj ic_20 rfl) (by decide) (Nat.le_of_ble_eq_true rfl) fun r5 t6 => ?_
    refine v_istore (lv' := [(4, .int r5), (3, .int s0), (0, .ref 20), (1, .ref q1), (2, .int l2)]) d6_parseWhen_87 (by decide) rfl ?_
    refine v_goto (tgt := 110) d6_parseWhen_89 (by decide) ?_
    refine v_sub [3, 4, 1, 0] rfl ?_
    exact v6_parseWhen_b110 N q1 hq1 l2 s0 r5 t6
  refine v_ite _ (fun ht2 => ?_) (fun ht2 => ?_)
  · refine v_tabIn (tgt := 92) d6_parseWhen_42 (2 : Int32) ht2 (by decide) (by decide) rfl (by decide) ?_
    refine v_aload_n d6_parseWhen_92 2 rfl rfl ?_
    refine v_iconst d6_parseWhen_93 ki_0 ?_
    refine v_bipush d6_parseWhen_94 kb_31 ?_
    refine v_callV2i d6_parseWhen_96 (mc8_takeNumber N (0 : Int32) (31 : Int32) σ) yv8_takeNumber mlX6_79 (Recv.obj ic_20 rfl) (by decide) (Nat.le_of_ble_eq_true rfl) fun r7 t8 => ?_
    refine v_istore (lv' := [(4, .int r7), (3, .int s0), (0, .ref 20), (1, .ref q1), (2, .int l2)]) d6_parseWhen_99 (by decide) rfl ?_
    refine v_goto (tgt := 110) d6_parseWhen_101 (by decide) ?_
    refine v_sub [3, 4, 1, 0] rfl ?_
    exact v6_parseWhen_b110 N q1 hq1 l2 s0 r7 t8
  refine v_tabOut (tgt := 104) d6_parseWhen_42 (by decide) (tab_out 2 (by decide) (by decide) (fun j hj => (match j, hj with | 0, _ => ht0 | 1, _ => ht1 | 2, _ => ht2 | n + 3, h => absurd h (by omega)))) ?_
  refine v_aload_n d6_parseWhen_104 2 rfl rfl ?_
  refine v_callV0i d6_parseWhen_105 (mc8_takeSide N σ) yv8_takeSide mlX6_103 (Recv.obj ic_20 rfl) (by decide) (Nat.le_of_ble_eq_true rfl) fun r9 t10 => ?_
  refine v_istore (lv' := [(4, .int r9), (3, .int s0), (0, .ref 20), (1, .ref q1), (2, .int l2)]) d6_parseWhen_108 (by decide) rfl ?_
  refine v_sub [3, 4, 1, 0] rfl ?_
  exact v6_parseWhen_b110 N q1 hq1 l2 s0 r9 t10
set_option maxRecDepth 100000 in
theorem v6_parseWhen_b29 (N : Nat) (q1 : Nat) (hq1 : IsC q1 (0, 3, 0)) (l2 : Int32) (σ : Ms) : VF (K6_parseWhen) cX6_parseWhen RX6 (F6_parseWhen_b29 N q1 l2 σ) σ 29 [(0, .ref 20), (1, .ref q1), (2, .int l2)] [] := by
  unfold F6_parseWhen_b29
  refine v_aload_n d6_parseWhen_29 0 rfl rfl ?_
  refine v_callS1i d6_parseWhen_30 (mc6_takeComparison N σ) ys6_takeComparison mlX6_115 (by decide) (Nat.le_of_ble_eq_true rfl) fun r11 t12 => ?_
  refine v_goto (tgt := 37) d6_parseWhen_33 (by decide) ?_
  exact v6_parseWhen_b37 N q1 hq1 l2 r11 t12
set_option maxRecDepth 100000 in
theorem v6_parseWhen_b15 (N : Nat) (q1 : Nat) (hq1 : IsC q1 (0, 3, 0)) (l2 : Int32) (σ : Ms) : VF (K6_parseWhen) cX6_parseWhen RX6 (F6_parseWhen_b15 N q1 l2 σ) σ 15 [(0, .ref 20), (1, .ref q1), (2, .int l2)] [] := by
  unfold F6_parseWhen_b15
  refine v_aload_n d6_parseWhen_15 0 rfl rfl ?_
  refine v_callV0v d6_parseWhen_16 (mc8_step N σ) yv8_step mlX6_43 (Recv.obj ic_20 rfl) (by decide) (Nat.le_of_ble_eq_true rfl) fun r13 t14 => ?_
  refine v_iload_n d6_parseWhen_19 2 rfl rfl ?_
  refine v_iconst d6_parseWhen_20 ki_1 ?_
  refine v_icmp_eq (tgt := 29) d6_parseWhen_21 (by decide) ?_ ?_
  · exact v6_parseWhen_b29 N q1 hq1 l2 t14
  · refine v_iload_n d6_parseWhen_24 2 rfl rfl ?_
    refine v_iconst d6_parseWhen_25 ki_2 ?_
    refine v_icmp_ne (tgt := 36) d6_parseWhen_26 (by decide) ?_ ?_
    · refine v_iconst d6_parseWhen_36 ki_m1 ?_
      exact v6_parseWhen_b37 N q1 hq1 l2 (-1 : Int32) t14
    · exact v6_parseWhen_b29 N q1 hq1 l2 t14
set_option maxRecDepth 100000 in
theorem mc6_parseWhen (N : Nat) (q1 : Nat) (hq1 : IsC q1 (0, 3, 0)) (σ : Ms) : MC enV yX6_parseWhen cX6_parseWhen 5 none 7 (F6_parseWhen N q1 σ) σ [.ref 20, .ref q1] := by
  refine MC.v (by decide +kernel) (Nat.le_of_ble_eq_true rfl) ?_
  show VF (K6_parseWhen) cX6_parseWhen RX6 (F6_parseWhen N q1 σ) σ 0 [(0, .ref 20), (1, .ref q1)] []
  unfold F6_parseWhen
  refine v_aload_n d6_parseWhen_0 0 rfl rfl ?_
  refine v_callS1i d6_parseWhen_1 (mc6_testHere N σ) ys6_testHere mlX6_112 (by decide) (Nat.le_of_ble_eq_true rfl) fun r15 t16 => ?_
  refine v_istore_n (lv' := [(2, .int r15), (0, .ref 20), (1, .ref q1)]) d6_parseWhen_4 rfl (by decide) rfl ?_
  refine v_iload_n d6_parseWhen_5 0 rfl rfl ?_
  refine v_iconst d6_parseWhen_6 ki_m1 ?_
  refine v_icmp_ne (tgt := 15) d6_parseWhen_7 (by decide) ?_ ?_
  · refine v_sub [1, 2, 0] rfl ?_
    exact v6_parseWhen_b15 N q1 hq1 r15 t16
  · refine v_aload_n d6_parseWhen_10 1 rfl rfl ?_
    refine v_iconst d6_parseWhen_11 ki_2 ?_
    refine v_callV1v d6_parseWhen_12 (mc8_refuse (2 : Int32) t16) yv8_refuse mlX6_39 (Recv.obj ic_20 rfl) (by decide) (Nat.le_of_ble_eq_true rfl) fun r17 t18 => ?_
    refine v_sub [1, 2, 0] rfl ?_
    exact v6_parseWhen_b15 N q1 hq1 r15 t18
theorem d6_parseStep_0 : decode cX6_parseStep 0 = .ok (.aload_n 0, 1) := by decide +kernel
theorem d6_parseStep_1 : decode cX6_parseStep 1 = .ok (.invokestatic 55, 3) := by decide +kernel
theorem d6_parseStep_4 : decode cX6_parseStep 4 = .ok (.istore_n 2, 1) := by decide +kernel
theorem d6_parseStep_5 : decode cX6_parseStep 5 = .ok (.iload_n 2, 1) := by decide +kernel
theorem d6_parseStep_6 : decode cX6_parseStep 6 = .ok (.iconst (-1), 1) := by decide +kernel
theorem d6_parseStep_7 : decode cX6_parseStep 7 = .ok (.if_icmp .ne 8, 3) := by decide +kernel
theorem d6_parseStep_10 : decode cX6_parseStep 10 = .ok (.aload_n 0, 1) := by decide +kernel
theorem d6_parseStep_11 : decode cX6_parseStep 11 = .ok (.iconst 2, 1) := by decide +kernel
theorem d6_parseStep_12 : decode cX6_parseStep 12 = .ok (.invokevirtual 39, 3) := by decide +kernel
theorem d6_parseStep_15 : decode cX6_parseStep 15 = .ok (.aload_n 1, 1) := by decide +kernel
theorem d6_parseStep_16 : decode cX6_parseStep 16 = .ok (.getfield 59, 3) := by decide +kernel
theorem d6_parseStep_19 : decode cX6_parseStep 19 = .ok (.bipush 30, 2) := by decide +kernel
theorem d6_parseStep_21 : decode cX6_parseStep 21 = .ok (.if_icmp .lt 9, 3) := by decide +kernel
theorem d6_parseStep_24 : decode cX6_parseStep 24 = .ok (.aload_n 0, 1) := by decide +kernel
theorem d6_parseStep_25 : decode cX6_parseStep 25 = .ok (.bipush 6, 2) := by decide +kernel
theorem d6_parseStep_27 : decode cX6_parseStep 27 = .ok (.invokevirtual 39, 3) := by decide +kernel
theorem d6_parseStep_30 : decode cX6_parseStep 30 = .ok (.iload_n 2, 1) := by decide +kernel
theorem d6_parseStep_31 : decode cX6_parseStep 31 = .ok (.invokestatic 62, 3) := by decide +kernel
theorem d6_parseStep_34 : decode cX6_parseStep 34 = .ok (.ifCond .eq 17, 3) := by decide +kernel
theorem d6_parseStep_37 : decode cX6_parseStep 37 = .ok (.aload_n 1, 1) := by decide +kernel
theorem d6_parseStep_38 : decode cX6_parseStep 38 = .ok (.getfield 35, 3) := by decide +kernel
theorem d6_parseStep_41 : decode cX6_parseStep 41 = .ok (.iconst 3, 1) := by decide +kernel
theorem d6_parseStep_42 : decode cX6_parseStep 42 = .ok (.if_icmp .lt 9, 3) := by decide +kernel
theorem d6_parseStep_45 : decode cX6_parseStep 45 = .ok (.aload_n 0, 1) := by decide +kernel
theorem d6_parseStep_46 : decode cX6_parseStep 46 = .ok (.bipush 7, 2) := by decide +kernel
theorem d6_parseStep_48 : decode cX6_parseStep 48 = .ok (.invokevirtual 39, 3) := by decide +kernel
theorem d6_parseStep_51 : decode cX6_parseStep 51 = .ok (.aload_n 0, 1) := by decide +kernel
theorem d6_parseStep_52 : decode cX6_parseStep 52 = .ok (.invokevirtual 43, 3) := by decide +kernel
theorem d6_parseStep_55 : decode cX6_parseStep 55 = .ok (.iload_n 2, 1) := by decide +kernel
theorem d6_parseStep_56 : decode cX6_parseStep 56 = .ok (.tableswitch 106 0 6 #[44, 55, 65, 73, 106, 81, 89], 44) := by decide +kernel
theorem d6_parseStep_100 : decode cX6_parseStep 100 = .ok (.aload_n 0, 1) := by decide +kernel
theorem d6_parseStep_101 : decode cX6_parseStep 101 = .ok (.aload_n 1, 1) := by decide +kernel
theorem d6_parseStep_102 : decode cX6_parseStep 102 = .ok (.iload_n 2, 1) := by decide +kernel
theorem d6_parseStep_103 : decode cX6_parseStep 103 = .ok (.bipush 20, 2) := by decide +kernel
theorem d6_parseStep_105 : decode cX6_parseStep 105 = .ok (.invokestatic 66, 3) := by decide +kernel
theorem d6_parseStep_108 : decode cX6_parseStep 108 = .ok (.goto 62, 3) := by decide +kernel
theorem d6_parseStep_111 : decode cX6_parseStep 111 = .ok (.aload_n 0, 1) := by decide +kernel
theorem d6_parseStep_112 : decode cX6_parseStep 112 = .ok (.aload_n 1, 1) := by decide +kernel
theorem d6_parseStep_113 : decode cX6_parseStep 113 = .ok (.iload_n 2, 1) := by decide +kernel
theorem d6_parseStep_114 : decode cX6_parseStep 114 = .ok (.iconst 5, 1) := by decide +kernel
theorem d6_parseStep_115 : decode cX6_parseStep 115 = .ok (.invokestatic 66, 3) := by decide +kernel
theorem d6_parseStep_118 : decode cX6_parseStep 118 = .ok (.goto 52, 3) := by decide +kernel
theorem d6_parseStep_121 : decode cX6_parseStep 121 = .ok (.aload_n 0, 1) := by decide +kernel
theorem d6_parseStep_122 : decode cX6_parseStep 122 = .ok (.aload_n 1, 1) := by decide +kernel
theorem d6_parseStep_123 : decode cX6_parseStep 123 = .ok (.invokestatic 70, 3) := by decide +kernel
theorem d6_parseStep_126 : decode cX6_parseStep 126 = .ok (.goto 44, 3) := by decide +kernel
theorem d6_parseStep_129 : decode cX6_parseStep 129 = .ok (.aload_n 0, 1) := by decide +kernel
theorem d6_parseStep_130 : decode cX6_parseStep 130 = .ok (.aload_n 1, 1) := by decide +kernel
theorem d6_parseStep_131 : decode cX6_parseStep 131 = .ok (.invokestatic 73, 3) := by decide +kernel
theorem d6_parseStep_134 : decode cX6_parseStep 134 = .ok (.goto 36, 3) := by decide +kernel
theorem d6_parseStep_137 : decode cX6_parseStep 137 = .ok (.aload_n 0, 1) := by decide +kernel
theorem d6_parseStep_138 : decode cX6_parseStep 138 = .ok (.aload_n 1, 1) := by decide +kernel
theorem d6_parseStep_139 : decode cX6_parseStep 139 = .ok (.invokestatic 76, 3) := by decide +kernel
theorem d6_parseStep_142 : decode cX6_parseStep 142 = .ok (.goto 28, 3) := by decide +kernel
theorem d6_parseStep_145 : decode cX6_parseStep 145 = .ok (.aload_n 1, 1) := by decide +kernel
theorem d6_parseStep_146 : decode cX6_parseStep 146 = .ok (.iload_n 2, 1) := by decide +kernel
theorem d6_parseStep_147 : decode cX6_parseStep 147 = .ok (.aload_n 0, 1) := by decide +kernel
theorem d6_parseStep_148 : decode cX6_parseStep 148 = .ok (.iconst 1, 1) := by decide +kernel
theorem d6_parseStep_149 : decode cX6_parseStep 149 = .ok (.bipush 99, 2) := by decide +kernel
theorem d6_parseStep_151 : decode cX6_parseStep 151 = .ok (.invokevirtual 79, 3) := by decide +kernel
theorem d6_parseStep_154 : decode cX6_parseStep 154 = .ok (.iconst 0, 1) := by decide +kernel
theorem d6_parseStep_155 : decode cX6_parseStep 155 = .ok (.iconst 0, 1) := by decide +kernel
theorem d6_parseStep_156 : decode cX6_parseStep 156 = .ok (.invokevirtual 83, 3) := by decide +kernel
theorem d6_parseStep_159 : decode cX6_parseStep 159 = .ok (.goto 11, 3) := by decide +kernel
theorem d6_parseStep_162 : decode cX6_parseStep 162 = .ok (.aload_n 1, 1) := by decide +kernel
theorem d6_parseStep_163 : decode cX6_parseStep 163 = .ok (.iload_n 2, 1) := by decide +kernel
theorem d6_parseStep_164 : decode cX6_parseStep 164 = .ok (.iconst 0, 1) := by decide +kernel
theorem d6_parseStep_165 : decode cX6_parseStep 165 = .ok (.iconst 0, 1) := by decide +kernel
theorem d6_parseStep_166 : decode cX6_parseStep 166 = .ok (.iconst 0, 1) := by decide +kernel
theorem d6_parseStep_167 : decode cX6_parseStep 167 = .ok (.invokevirtual 83, 3) := by decide +kernel
theorem d6_parseStep_170 : decode cX6_parseStep 170 = .ok (.aload_n 0, 1) := by decide +kernel
theorem d6_parseStep_171 : decode cX6_parseStep 171 = .ok (.invokevirtual 46, 3) := by decide +kernel
theorem d6_parseStep_174 : decode cX6_parseStep 174 = .ok (.return_, 1) := by decide +kernel
abbrev K6_parseStep : CK Unit := (enV, none, 3, 8, none)
noncomputable def F6_parseStep_b170 (N : Nat) (q1 : Nat) (σ : Ms) : Option (Unit × Ms) :=
  bn (F8_takeClose N σ) (fun r1 t2 => some ((), t2))
noncomputable def F6_parseStep_b51 (N : Nat) (q1 : Nat) (l2 : Int32) (σ : Ms) : Option (Unit × Ms) :=
  bn (F8_step N σ) (fun r3 t4 => if l2 = (0 : Int32) then (bn (F6_parseDeed N q1 l2 (20 : Int32) t4) (fun r5 t6 => F6_parseStep_b170 N q1 t6))
  else (if l2 = (1 : Int32) then (bn (F6_parseDeed N q1 l2 (5 : Int32) t4) (fun r7 t8 => F6_parseStep_b170 N q1 t8))
  else (if l2 = (2 : Int32) then (bn (F6_parseLess N q1 t4) (fun r9 t10 => F6_parseStep_b170 N q1 t10))
  else (if l2 = (3 : Int32) then (bn (F6_parseGrow N q1 t4) (fun r11 t12 => F6_parseStep_b170 N q1 t12))
  else (if l2 = (4 : Int32) then (bn (F5_add q1 l2 (0 : Int32) (0 : Int32) (0 : Int32) t4) (fun r13 t14 => F6_parseStep_b170 N q1 t14))
  else (if l2 = (5 : Int32) then (bn (F6_parseWhen N q1 t4) (fun r15 t16 => F6_parseStep_b170 N q1 t16))
  else (if l2 = (6 : Int32) then (bn (F8_takeNumber N (1 : Int32) (99 : Int32) t4) (fun r17 t18 => bn (F5_add q1 l2 r17 (0 : Int32) (0 : Int32) t18) (fun r19 t20 => F6_parseStep_b170 N q1 t20)))
  else (bn (F5_add q1 l2 (0 : Int32) (0 : Int32) (0 : Int32) t4) (fun r21 t22 => F6_parseStep_b170 N q1 t22)))))))))
noncomputable def F6_parseStep_b30 (N : Nat) (q1 : Nat) (l2 : Int32) (σ : Ms) : Option (Unit × Ms) :=
  bn (F5_isBlock l2 σ) (fun r23 t24 => if r23 = 0 then (F6_parseStep_b51 N q1 l2 t24)
  else (if (t24.1 q1 8) < (3 : Int32) then (F6_parseStep_b51 N q1 l2 t24)
  else (bn (F8_refuse (7 : Int32) t24) (fun r25 t26 => F6_parseStep_b51 N q1 l2 t26))))
noncomputable def F6_parseStep_b15 (N : Nat) (q1 : Nat) (l2 : Int32) (σ : Ms) : Option (Unit × Ms) :=
  if (σ.1 q1 1) < (30 : Int32) then (F6_parseStep_b30 N q1 l2 σ)
  else (bn (F8_refuse (6 : Int32) σ) (fun r27 t28 => F6_parseStep_b30 N q1 l2 t28))
noncomputable def F6_parseStep (N : Nat) (q1 : Nat) (σ : Ms) : Option (Unit × Ms) :=
  bn (F6_kindHere N σ) (fun r29 t30 => if r29 ≠ (-1 : Int32) then (F6_parseStep_b15 N q1 r29 t30)
  else (bn (F8_refuse (2 : Int32) t30) (fun r31 t32 => F6_parseStep_b15 N q1 r29 t32)))
set_option maxRecDepth 100000 in
theorem v6_parseStep_b170 (N : Nat) (q1 : Nat) (hq1 : IsC q1 (0, 3, 0)) (σ : Ms) : VF (K6_parseStep) cX6_parseStep RX6 (F6_parseStep_b170 N q1 σ) σ 170 [(0, .ref 20)] [] := by
  unfold F6_parseStep_b170
  refine v_aload_n d6_parseStep_170 0 rfl rfl ?_
  refine v_callV0v d6_parseStep_171 (mc8_takeClose N σ) yv8_takeClose mlX6_46 (Recv.obj ic_20 rfl) (by decide) (Nat.le_of_ble_eq_true rfl) fun r1 t2 => ?_
  exact v_vret d6_parseStep_174 rfl
set_option maxRecDepth 100000 in
theorem v6_parseStep_b51 (N : Nat) (q1 : Nat) (hq1 : IsC q1 (0, 3, 0)) (l2 : Int32) (σ : Ms) : VF (K6_parseStep) cX6_parseStep RX6 (F6_parseStep_b51 N q1 l2 σ) σ 51 [(0, .ref 20), (1, .ref q1), (2, .int l2)] [] := by
  unfold F6_parseStep_b51
  refine v_aload_n d6_parseStep_51 0 rfl rfl ?_
  refine v_callV0v d6_parseStep_52 (mc8_step N σ) yv8_step mlX6_43 (Recv.obj ic_20 rfl) (by decide) (Nat.le_of_ble_eq_true rfl) fun r3 t4 => ?_
  refine v_iload_n d6_parseStep_55 2 rfl rfl ?_
  refine v_ite _ (fun ht0 => ?_) (fun ht0 => ?_)
  · refine v_tabIn (tgt := 100) d6_parseStep_56 (0 : Int32) ht0 (by decide) (by decide) rfl (by decide) ?_
    refine v_aload_n d6_parseStep_100 0 rfl rfl ?_
    refine v_aload_n d6_parseStep_101 1 rfl rfl ?_
    refine v_iload_n d6_parseStep_102 2 rfl rfl ?_
    refine v_bipush d6_parseStep_103 kb_20 ?_
    refine v_callS4v d6_parseStep_105 (mc6_parseDeed N q1 hq1 l2 (20 : Int32) t4) ys6_parseDeed mlX6_66 (by decide) (Nat.le_of_ble_eq_true rfl) fun r5 t6 => ?_
    refine v_goto (tgt := 170) d6_parseStep_108 (by decide) ?_
    refine v_sub [0] rfl ?_
    exact v6_parseStep_b170 N q1 hq1 t6
  refine v_ite _ (fun ht1 => ?_) (fun ht1 => ?_)
  · refine v_tabIn (tgt := 111) d6_parseStep_56 (1 : Int32) ht1 (by decide) (by decide) rfl (by decide) ?_
    refine v_aload_n d6_parseStep_111 0 rfl rfl ?_
    refine v_aload_n d6_parseStep_112 1 rfl rfl ?_
    refine v_iload_n d6_parseStep_113 2 rfl rfl ?_
    refine v_iconst d6_parseStep_114 ki_5 ?_
    refine v_callS4v d6_parseStep_115 (mc6_parseDeed N q1 hq1 l2 (5 : Int32) t4) ys6_parseDeed mlX6_66 (by decide) (Nat.le_of_ble_eq_true rfl) fun r7 t8 => ?_
    refine v_goto (tgt := 170) d6_parseStep_118 (by decide) ?_
    refine v_sub [0] rfl ?_
    exact v6_parseStep_b170 N q1 hq1 t8
  refine v_ite _ (fun ht2 => ?_) (fun ht2 => ?_)
  · refine v_tabIn (tgt := 121) d6_parseStep_56 (2 : Int32) ht2 (by decide) (by decide) rfl (by decide) ?_
    refine v_aload_n d6_parseStep_121 0 rfl rfl ?_
    refine v_aload_n d6_parseStep_122 1 rfl rfl ?_
    refine v_callS2v d6_parseStep_123 (mc6_parseLess N q1 hq1 t4) ys6_parseLess mlX6_70 (by decide) (Nat.le_of_ble_eq_true rfl) fun r9 t10 => ?_
    refine v_goto (tgt := 170) d6_parseStep_126 (by decide) ?_
    refine v_sub [0] rfl ?_
    exact v6_parseStep_b170 N q1 hq1 t10
  refine v_ite _ (fun ht3 => ?_) (fun ht3 => ?_)
  · refine v_tabIn (tgt := 129) d6_parseStep_56 (3 : Int32) ht3 (by decide) (by decide) rfl (by decide) ?_
    refine v_aload_n d6_parseStep_129 0 rfl rfl ?_
    refine v_aload_n d6_parseStep_130 1 rfl rfl ?_
    refine v_callS2v d6_parseStep_131 (mc6_parseGrow N q1 hq1 t4) ys6_parseGrow mlX6_73 (by decide) (Nat.le_of_ble_eq_true rfl) fun r11 t12 => ?_
    refine v_goto (tgt := 170) d6_parseStep_134 (by decide) ?_
    refine v_sub [0] rfl ?_
    exact v6_parseStep_b170 N q1 hq1 t12
  refine v_ite _ (fun ht4 => ?_) (fun ht4 => ?_)
  · refine v_tabIn (tgt := 162) d6_parseStep_56 (4 : Int32) ht4 (by decide) (by decide) rfl (by decide) ?_
    refine v_aload_n d6_parseStep_162 1 rfl rfl ?_
    refine v_iload_n d6_parseStep_163 2 rfl rfl ?_
    refine v_iconst d6_parseStep_164 ki_0 ?_
    refine v_iconst d6_parseStep_165 ki_0 ?_
    refine v_iconst d6_parseStep_166 ki_0 ?_
    refine v_callV4v d6_parseStep_167 (mc5_add q1 hq1 l2 (0 : Int32) (0 : Int32) (0 : Int32) t4) yv5_add mlX6_83 (Recv.obj hq1 rfl) (by decide) (Nat.le_of_ble_eq_true rfl) fun r13 t14 => ?_
    refine v_sub [0] rfl ?_
    exact v6_parseStep_b170 N q1 hq1 t14
  refine v_ite _ (fun ht5 => ?_) (fun ht5 => ?_)
  · refine v_tabIn (tgt := 137) d6_parseStep_56 (5 : Int32) ht5 (by decide) (by decide) rfl (by decide) ?_
    refine v_aload_n d6_parseStep_137 0 rfl rfl ?_
    refine v_aload_n d6_parseStep_138 1 rfl rfl ?_
    refine v_callS2v d6_parseStep_139 (mc6_parseWhen N q1 hq1 t4) ys6_parseWhen mlX6_76 (by decide) (Nat.le_of_ble_eq_true rfl) fun r15 t16 => ?_
    refine v_goto (tgt := 170) d6_parseStep_142 (by decide) ?_
    refine v_sub [0] rfl ?_
    exact v6_parseStep_b170 N q1 hq1 t16
  refine v_ite _ (fun ht6 => ?_) (fun ht6 => ?_)
  · refine v_tabIn (tgt := 145) d6_parseStep_56 (6 : Int32) ht6 (by decide) (by decide) rfl (by decide) ?_
    refine v_aload_n d6_parseStep_145 1 rfl rfl ?_
    refine v_iload_n d6_parseStep_146 2 rfl rfl ?_
    refine v_aload_n d6_parseStep_147 0 rfl rfl ?_
    refine v_iconst d6_parseStep_148 ki_1 ?_
    refine v_bipush d6_parseStep_149 kb_99 ?_
    refine v_callV2i d6_parseStep_151 (mc8_takeNumber N (1 : Int32) (99 : Int32) t4) yv8_takeNumber mlX6_79 (Recv.obj ic_20 rfl) (by decide) (Nat.le_of_ble_eq_true rfl) fun r17 t18 => ?_
    refine v_iconst d6_parseStep_154 ki_0 ?_
    refine v_iconst d6_parseStep_155 ki_0 ?_
    refine v_callV4v d6_parseStep_156 (mc5_add q1 hq1 l2 r17 (0 : Int32) (0 : Int32) t18) yv5_add mlX6_83 (Recv.obj hq1 rfl) (by decide) (Nat.le_of_ble_eq_true rfl) fun r19 t20 => ?_
    refine v_goto (tgt := 170) d6_parseStep_159 (by decide) ?_
    refine v_sub [0] rfl ?_
    exact v6_parseStep_b170 N q1 hq1 t20
  refine v_tabOut (tgt := 162) d6_parseStep_56 (by decide) (tab_out 6 (by decide) (by decide) (fun j hj => (match j, hj with | 0, _ => ht0 | 1, _ => ht1 | 2, _ => ht2 | 3, _ => ht3 | 4, _ => ht4 | 5, _ => ht5 | 6, _ => ht6 | n + 7, h => absurd h (by omega)))) ?_
  refine v_aload_n d6_parseStep_162 1 rfl rfl ?_
  refine v_iload_n d6_parseStep_163 2 rfl rfl ?_
  refine v_iconst d6_parseStep_164 ki_0 ?_
  refine v_iconst d6_parseStep_165 ki_0 ?_
  refine v_iconst d6_parseStep_166 ki_0 ?_
  refine v_callV4v d6_parseStep_167 (mc5_add q1 hq1 l2 (0 : Int32) (0 : Int32) (0 : Int32) t4) yv5_add mlX6_83 (Recv.obj hq1 rfl) (by decide) (Nat.le_of_ble_eq_true rfl) fun r21 t22 => ?_
  refine v_sub [0] rfl ?_
  exact v6_parseStep_b170 N q1 hq1 t22
set_option maxRecDepth 100000 in
theorem v6_parseStep_b30 (N : Nat) (q1 : Nat) (hq1 : IsC q1 (0, 3, 0)) (l2 : Int32) (σ : Ms) : VF (K6_parseStep) cX6_parseStep RX6 (F6_parseStep_b30 N q1 l2 σ) σ 30 [(0, .ref 20), (1, .ref q1), (2, .int l2)] [] := by
  unfold F6_parseStep_b30
  refine v_iload_n d6_parseStep_30 2 rfl rfl ?_
  refine v_callS1i d6_parseStep_31 (mc5_isBlock l2 σ) ys5_isBlock mlX6_62 (by decide) (Nat.le_of_ble_eq_true rfl) fun r23 t24 => ?_
  refine v_if_eq (tgt := 51) d6_parseStep_34 (by decide) ?_ ?_
  · exact v6_parseStep_b51 N q1 hq1 l2 t24
  · refine v_aload_n d6_parseStep_37 1 rfl rfl ?_
    refine v_getI d6_parseStep_38 faX6_35 hq1 ?_
    refine v_iconst d6_parseStep_41 ki_3 ?_
    refine v_icmp_lt (tgt := 51) d6_parseStep_42 (by decide) ?_ ?_
    · exact v6_parseStep_b51 N q1 hq1 l2 t24
    · refine v_aload_n d6_parseStep_45 0 rfl rfl ?_
      refine v_bipush d6_parseStep_46 kb_7 ?_
      refine v_callV1v d6_parseStep_48 (mc8_refuse (7 : Int32) t24) yv8_refuse mlX6_39 (Recv.obj ic_20 rfl) (by decide) (Nat.le_of_ble_eq_true rfl) fun r25 t26 => ?_
      exact v6_parseStep_b51 N q1 hq1 l2 t26
set_option maxRecDepth 100000 in
theorem v6_parseStep_b15 (N : Nat) (q1 : Nat) (hq1 : IsC q1 (0, 3, 0)) (l2 : Int32) (σ : Ms) : VF (K6_parseStep) cX6_parseStep RX6 (F6_parseStep_b15 N q1 l2 σ) σ 15 [(0, .ref 20), (1, .ref q1), (2, .int l2)] [] := by
  unfold F6_parseStep_b15
  refine v_aload_n d6_parseStep_15 1 rfl rfl ?_
  refine v_getI d6_parseStep_16 faX6_59 hq1 ?_
  refine v_bipush d6_parseStep_19 kb_30 ?_
  refine v_icmp_lt (tgt := 30) d6_parseStep_21 (by decide) ?_ ?_
  · exact v6_parseStep_b30 N q1 hq1 l2 σ
  · refine v_aload_n d6_parseStep_24 0 rfl rfl ?_
    refine v_bipush d6_parseStep_25 kb_6 ?_
    refine v_callV1v d6_parseStep_27 (mc8_refuse (6 : Int32) σ) yv8_refuse mlX6_39 (Recv.obj ic_20 rfl) (by decide) (Nat.le_of_ble_eq_true rfl) fun r27 t28 => ?_
    exact v6_parseStep_b30 N q1 hq1 l2 t28
set_option maxRecDepth 100000 in
theorem mc6_parseStep (N : Nat) (q1 : Nat) (hq1 : IsC q1 (0, 3, 0)) (σ : Ms) : MC enV yX6_parseStep cX6_parseStep 3 none 8 (F6_parseStep N q1 σ) σ [.ref 20, .ref q1] := by
  refine MC.v (by decide +kernel) (Nat.le_of_ble_eq_true rfl) ?_
  show VF (K6_parseStep) cX6_parseStep RX6 (F6_parseStep N q1 σ) σ 0 [(0, .ref 20), (1, .ref q1)] []
  unfold F6_parseStep
  refine v_aload_n d6_parseStep_0 0 rfl rfl ?_
  refine v_callS1i d6_parseStep_1 (mc6_kindHere N σ) ys6_kindHere mlX6_55 (by decide) (Nat.le_of_ble_eq_true rfl) fun r29 t30 => ?_
  refine v_istore_n (lv' := [(2, .int r29), (0, .ref 20), (1, .ref q1)]) d6_parseStep_4 rfl (by decide) rfl ?_
  refine v_iload_n d6_parseStep_5 0 rfl rfl ?_
  refine v_iconst d6_parseStep_6 ki_m1 ?_
  refine v_icmp_ne (tgt := 15) d6_parseStep_7 (by decide) ?_ ?_
  · refine v_sub [1, 2, 0] rfl ?_
    exact v6_parseStep_b15 N q1 hq1 r29 t30
  · refine v_aload_n d6_parseStep_10 1 rfl rfl ?_
    refine v_iconst d6_parseStep_11 ki_2 ?_
    refine v_callV1v d6_parseStep_12 (mc8_refuse (2 : Int32) t30) yv8_refuse mlX6_39 (Recv.obj ic_20 rfl) (by decide) (Nat.le_of_ble_eq_true rfl) fun r31 t32 => ?_
    refine v_sub [1, 2, 0] rfl ?_
    exact v6_parseStep_b15 N q1 hq1 r29 t32
theorem d6_parse_0 : decode cX6_parse 0 = .ok (.aload_n 1, 1) := by decide +kernel
theorem d6_parse_1 : decode cX6_parse 1 = .ok (.invokevirtual 9, 3) := by decide +kernel
theorem d6_parse_4 : decode cX6_parse 4 = .ok (.iconst 0, 1) := by decide +kernel
theorem d6_parse_5 : decode cX6_parse 5 = .ok (.istore_n 2, 1) := by decide +kernel
theorem d6_parse_6 : decode cX6_parse 6 = .ok (.iload_n 2, 1) := by decide +kernel
theorem d6_parse_7 : decode cX6_parse 7 = .ok (.sipush 300, 3) := by decide +kernel
theorem d6_parse_10 : decode cX6_parse 10 = .ok (.if_icmp .ge 38, 3) := by decide +kernel
theorem d6_parse_13 : decode cX6_parse 13 = .ok (.aload_n 0, 1) := by decide +kernel
theorem d6_parse_14 : decode cX6_parse 14 = .ok (.invokevirtual 14, 3) := by decide +kernel
theorem d6_parse_17 : decode cX6_parse 17 = .ok (.ifCond .eq 31, 3) := by decide +kernel
theorem d6_parse_20 : decode cX6_parse 20 = .ok (.aload_n 0, 1) := by decide +kernel
theorem d6_parse_21 : decode cX6_parse 21 = .ok (.ldc 20, 2) := by decide +kernel
theorem d6_parse_23 : decode cX6_parse 23 = .ok (.invokevirtual 22, 3) := by decide +kernel
theorem d6_parse_26 : decode cX6_parse 26 = .ok (.ifCond .eq 11, 3) := by decide +kernel
theorem d6_parse_29 : decode cX6_parse 29 = .ok (.aload_n 0, 1) := by decide +kernel
theorem d6_parse_30 : decode cX6_parse 30 = .ok (.aload_n 1, 1) := by decide +kernel
theorem d6_parse_31 : decode cX6_parse 31 = .ok (.invokestatic 26, 3) := by decide +kernel
theorem d6_parse_34 : decode cX6_parse 34 = .ok (.goto 8, 3) := by decide +kernel
theorem d6_parse_37 : decode cX6_parse 37 = .ok (.aload_n 0, 1) := by decide +kernel
theorem d6_parse_38 : decode cX6_parse 38 = .ok (.aload_n 1, 1) := by decide +kernel
theorem d6_parse_39 : decode cX6_parse 39 = .ok (.invokestatic 32, 3) := by decide +kernel
theorem d6_parse_42 : decode cX6_parse 42 = .ok (.iinc 2 1, 3) := by decide +kernel
theorem d6_parse_45 : decode cX6_parse 45 = .ok (.goto (-39), 3) := by decide +kernel
theorem d6_parse_48 : decode cX6_parse 48 = .ok (.aload_n 1, 1) := by decide +kernel
theorem d6_parse_49 : decode cX6_parse 49 = .ok (.getfield 35, 3) := by decide +kernel
theorem d6_parse_52 : decode cX6_parse 52 = .ok (.ifCond .le 8, 3) := by decide +kernel
theorem d6_parse_55 : decode cX6_parse 55 = .ok (.aload_n 0, 1) := by decide +kernel
theorem d6_parse_56 : decode cX6_parse 56 = .ok (.iconst 2, 1) := by decide +kernel
theorem d6_parse_57 : decode cX6_parse 57 = .ok (.invokevirtual 39, 3) := by decide +kernel
theorem d6_parse_60 : decode cX6_parse 60 = .ok (.return_, 1) := by decide +kernel
abbrev K6_parse : CK Unit := (enV, none, 3, 9, none)
noncomputable def F6_parse_b48 (N : Nat) (q1 : Nat) (σ : Ms) : Option (Unit × Ms) :=
  if (σ.1 q1 8) ≤ 0 then (some ((), σ))
  else (bn (F8_refuse (2 : Int32) σ) (fun r1 t2 => some ((), t2)))
noncomputable def F6_parse_b42 (N : Nat) (q1 : Nat) (k6 : Int32 × Ms → Option (Unit × Ms)) (l2 : Int32) (σ : Ms) : Option (Unit × Ms) :=
  k6 ((l2 + (1 : Int32)), σ)
noncomputable def F6_parse_b6B (N : Nat) (q1 : Nat) (k6 : Int32 × Ms → Option (Unit × Ms)) (l2 : Int32) (σ : Ms) : Option (Unit × Ms) :=
  if (300 : Int32) ≤ l2 then (F6_parse_b48 N q1 σ)
  else (bn (F8_goesOn σ) (fun r3 t4 => if r3 = 0 then (F6_parse_b48 N q1 t4)
  else (bn (F8_isWord N 9 t4) (fun r5 t6 => if r5 = 0 then (bn (F6_parseStep N q1 t6) (fun r7 t8 => F6_parse_b42 N q1 k6 l2 t8))
  else (bn (F6_parseEnd N q1 t6) (fun r9 t10 => F6_parse_b42 N q1 k6 l2 t10))))))
noncomputable def F6_parse_b6 (N : Nat) (q1 : Nat) (l2 : Int32) (σ : Ms) : Option (Unit × Ms) :=
  fx N (fun k x => F6_parse_b6B N q1 k x.1 x.2) (l2, σ)
noncomputable def F6_parse (N : Nat) (q1 : Nat) (σ : Ms) : Option (Unit × Ms) :=
  bn (F5_begin q1 σ) (fun r11 t12 => F6_parse_b6 N q1 (0 : Int32) t12)
set_option maxRecDepth 100000 in
theorem v6_parse_b48 (N : Nat) (q1 : Nat) (hq1 : IsC q1 (0, 3, 0)) (σ : Ms) : VF (K6_parse) cX6_parse RX6 (F6_parse_b48 N q1 σ) σ 48 [(0, .ref 20), (1, .ref q1)] [] := by
  unfold F6_parse_b48
  refine v_aload_n d6_parse_48 1 rfl rfl ?_
  refine v_getI d6_parse_49 faX6_35 hq1 ?_
  refine v_if_le (tgt := 60) d6_parse_52 (by decide) ?_ ?_
  · exact v_vret d6_parse_60 rfl
  · refine v_aload_n d6_parse_55 0 rfl rfl ?_
    refine v_iconst d6_parse_56 ki_2 ?_
    refine v_callV1v d6_parse_57 (mc8_refuse (2 : Int32) σ) yv8_refuse mlX6_39 (Recv.obj ic_20 rfl) (by decide) (Nat.le_of_ble_eq_true rfl) fun r1 t2 => ?_
    exact v_vret d6_parse_60 rfl
set_option maxRecDepth 100000 in
theorem v6_parse_b42 (N : Nat) (q1 : Nat) (hq1 : IsC q1 (0, 3, 0)) (k6 : Int32 × Ms → Option (Unit × Ms)) (hk6 : ∀ (l2 : Int32) (τ : Ms), VF (K6_parse) cX6_parse RX6 (k6 (l2, τ)) τ 6 [(0, .ref 20), (1, .ref q1), (2, .int l2)] []) (l2 : Int32) (σ : Ms) : VF (K6_parse) cX6_parse RX6 (F6_parse_b42 N q1 k6 l2 σ) σ 42 [(0, .ref 20), (1, .ref q1), (2, .int l2)] [] := by
  unfold F6_parse_b42
  refine v_iinc (lv' := [(2, .int (l2 + (1 : Int32))), (0, .ref 20), (1, .ref q1)]) d6_parse_42 2 rfl (by rw [ki_1]) (by decide) rfl ?_
  refine v_goto (tgt := 6) d6_parse_45 (by decide) ?_
  refine v_sub [1, 2, 0] rfl ?_
  exact hk6 (l2 + (1 : Int32)) σ
set_option maxRecDepth 100000 in
theorem v6_parse_b6B (N : Nat) (q1 : Nat) (hq1 : IsC q1 (0, 3, 0)) (k6 : Int32 × Ms → Option (Unit × Ms)) (hk6 : ∀ (l2 : Int32) (τ : Ms), VF (K6_parse) cX6_parse RX6 (k6 (l2, τ)) τ 6 [(0, .ref 20), (1, .ref q1), (2, .int l2)] []) (l2 : Int32) (σ : Ms) : VF (K6_parse) cX6_parse RX6 (F6_parse_b6B N q1 k6 l2 σ) σ 6 [(0, .ref 20), (1, .ref q1), (2, .int l2)] [] := by
  unfold F6_parse_b6B
  refine v_iload_n d6_parse_6 2 rfl rfl ?_
  refine v_sipush d6_parse_7 ks_300 ?_
  refine v_icmp_ge (tgt := 48) d6_parse_10 (by decide) ?_ ?_
  · refine v_sub [0, 1] rfl ?_
    exact v6_parse_b48 N q1 hq1 σ
  · refine v_aload_n d6_parse_13 0 rfl rfl ?_
    refine v_callV0i d6_parse_14 (mc8_goesOn σ) yv8_goesOn mlX6_14 (Recv.obj ic_20 rfl) (by decide) (Nat.le_of_ble_eq_true rfl) fun r3 t4 => ?_
    refine v_if_eq (tgt := 48) d6_parse_17 (by decide) ?_ ?_
    · refine v_sub [0, 1] rfl ?_
      exact v6_parse_b48 N q1 hq1 t4
    · refine v_aload_n d6_parse_20 0 rfl rfl ?_
      refine v_ldcS (i := 9) d6_parse_21 stX6_20 ?_
      refine v_callV1i d6_parse_23 (mc8_isWord N 9 (by decide) t4) yv8_isWord mlX6_22 (Recv.obj ic_20 rfl) (by decide) (Nat.le_of_ble_eq_true rfl) fun r5 t6 => ?_
      refine v_if_eq (tgt := 37) d6_parse_26 (by decide) ?_ ?_
      · refine v_aload_n d6_parse_37 0 rfl rfl ?_
        refine v_aload_n d6_parse_38 1 rfl rfl ?_
        refine v_callS2v d6_parse_39 (mc6_parseStep N q1 hq1 t6) ys6_parseStep mlX6_32 (by decide) (Nat.le_of_ble_eq_true rfl) fun r7 t8 => ?_
        exact v6_parse_b42 N q1 hq1 k6 hk6 l2 t8
      · refine v_aload_n d6_parse_29 0 rfl rfl ?_
        refine v_aload_n d6_parse_30 1 rfl rfl ?_
        refine v_callS2v d6_parse_31 (mc6_parseEnd N q1 hq1 t6) ys6_parseEnd mlX6_26 (by decide) (Nat.le_of_ble_eq_true rfl) fun r9 t10 => ?_
        refine v_goto (tgt := 42) d6_parse_34 (by decide) ?_
        exact v6_parse_b42 N q1 hq1 k6 hk6 l2 t10
theorem v6_parse_b6 (N : Nat) (q1 : Nat) (hq1 : IsC q1 (0, 3, 0)) (l2 : Int32) (σ : Ms) : VF (K6_parse) cX6_parse RX6 (F6_parse_b6 N q1 l2 σ) σ 6 [(0, .ref 20), (1, .ref q1), (2, .int l2)] [] := v_fx (σo := fun x => x.2) (lo := fun x => [(0, .ref 20), (1, .ref q1), (2, .int x.1)]) (fun k hk x => v6_parse_b6B N q1 hq1 k (fun l2 τ => hk (l2, τ)) x.1 x.2) N (l2, σ)
set_option maxRecDepth 100000 in
theorem mc6_parse (N : Nat) (q1 : Nat) (hq1 : IsC q1 (0, 3, 0)) (σ : Ms) : MC enV yX6_parse cX6_parse 3 none 9 (F6_parse N q1 σ) σ [.ref 20, .ref q1] := by
  refine MC.v (by decide +kernel) (Nat.le_of_ble_eq_true rfl) ?_
  show VF (K6_parse) cX6_parse RX6 (F6_parse N q1 σ) σ 0 [(0, .ref 20), (1, .ref q1)] []
  unfold F6_parse
  refine v_aload_n d6_parse_0 1 rfl rfl ?_
  refine v_callV0v d6_parse_1 (mc5_begin q1 hq1 σ) yv5_begin mlX6_9 (Recv.obj hq1 rfl) (by decide) (Nat.le_of_ble_eq_true rfl) fun r11 t12 => ?_
  refine v_iconst d6_parse_4 ki_0 ?_
  refine v_istore_n (lv' := [(2, .int (0 : Int32)), (0, .ref 20), (1, .ref q1)]) d6_parse_5 rfl (by decide) rfl ?_
  refine v_sub [1, 2, 0] rfl ?_
  exact v6_parse_b6 N q1 hq1 (0 : Int32) t12
theorem d7_balances_0 : decode cX7_balances 0 = .ok (.aload_n 1, 1) := by decide +kernel
theorem d7_balances_1 : decode cX7_balances 1 = .ok (.getfield 40, 3) := by decide +kernel
theorem d7_balances_4 : decode cX7_balances 4 = .ok (.istore_n 3, 1) := by decide +kernel
theorem d7_balances_5 : decode cX7_balances 5 = .ok (.iconst 0, 1) := by decide +kernel
theorem d7_balances_6 : decode cX7_balances 6 = .ok (.istore 4, 2) := by decide +kernel
theorem d7_balances_8 : decode cX7_balances 8 = .ok (.iload 4, 2) := by decide +kernel
theorem d7_balances_10 : decode cX7_balances 10 = .ok (.bipush 20, 2) := by decide +kernel
theorem d7_balances_12 : decode cX7_balances 12 = .ok (.if_icmp .ge 30, 3) := by decide +kernel
theorem d7_balances_15 : decode cX7_balances 15 = .ok (.iload_n 2, 1) := by decide +kernel
theorem d7_balances_16 : decode cX7_balances 16 = .ok (.iload 4, 2) := by decide +kernel
theorem d7_balances_18 : decode cX7_balances 18 = .ok (.invokestatic 56, 3) := by decide +kernel
theorem d7_balances_21 : decode cX7_balances 21 = .ok (.ifCond .eq 15, 3) := by decide +kernel
theorem d7_balances_24 : decode cX7_balances 24 = .ok (.iload_n 3, 1) := by decide +kernel
theorem d7_balances_25 : decode cX7_balances 25 = .ok (.aload_n 0, 1) := by decide +kernel
theorem d7_balances_26 : decode cX7_balances 26 = .ok (.getfield 9, 3) := by decide +kernel
theorem d7_balances_29 : decode cX7_balances 29 = .ok (.iload 4, 2) := by decide +kernel
theorem d7_balances_31 : decode cX7_balances 31 = .ok (.iaload, 1) := by decide +kernel
theorem d7_balances_32 : decode cX7_balances 32 = .ok (.iconst (-1), 1) := by decide +kernel
theorem d7_balances_33 : decode cX7_balances 33 = .ok (.ixor, 1) := by decide +kernel
theorem d7_balances_34 : decode cX7_balances 34 = .ok (.iand, 1) := by decide +kernel
theorem d7_balances_35 : decode cX7_balances 35 = .ok (.istore_n 3, 1) := by decide +kernel
theorem d7_balances_36 : decode cX7_balances 36 = .ok (.iinc 4 1, 3) := by decide +kernel
theorem d7_balances_39 : decode cX7_balances 39 = .ok (.goto (-31), 3) := by decide +kernel
theorem d7_balances_42 : decode cX7_balances 42 = .ok (.aload_n 1, 1) := by decide +kernel
theorem d7_balances_43 : decode cX7_balances 43 = .ok (.iload_n 3, 1) := by decide +kernel
theorem d7_balances_44 : decode cX7_balances 44 = .ok (.invokevirtual 60, 3) := by decide +kernel
theorem d7_balances_47 : decode cX7_balances 47 = .ok (.lconst 0, 1) := by decide +kernel
theorem d7_balances_48 : decode cX7_balances 48 = .ok (.lcmp, 1) := by decide +kernel
theorem d7_balances_49 : decode cX7_balances 49 = .ok (.ifCond .ne 15, 3) := by decide +kernel
theorem d7_balances_52 : decode cX7_balances 52 = .ok (.aload_n 1, 1) := by decide +kernel
theorem d7_balances_53 : decode cX7_balances 53 = .ok (.iload_n 3, 1) := by decide +kernel
theorem d7_balances_54 : decode cX7_balances 54 = .ok (.invokevirtual 64, 3) := by decide +kernel
theorem d7_balances_57 : decode cX7_balances 57 = .ok (.ifCond .ne 7, 3) := by decide +kernel
theorem d7_balances_60 : decode cX7_balances 60 = .ok (.iconst 1, 1) := by decide +kernel
theorem d7_balances_61 : decode cX7_balances 61 = .ok (.goto 4, 3) := by decide +kernel
theorem d7_balances_64 : decode cX7_balances 64 = .ok (.iconst 0, 1) := by decide +kernel
theorem d7_balances_65 : decode cX7_balances 65 = .ok (.ireturn, 1) := by decide +kernel
abbrev K7_balances : CK Int32 := (enI, (some .boolean), 5, 3, none)
noncomputable def F7_balances_b36 (N : Nat) (q0 : Nat) (k8 : Int32 × Int32 × Int32 × Ms → Option (Int32 × Ms)) (l2 : Int32) (l3 : Int32) (l4 : Int32) (σ : Ms) : Option (Int32 × Ms) :=
  k8 (l2, l3, (l4 + (1 : Int32)), σ)
noncomputable def F7_balances_b8B (N : Nat) (q0 : Nat) (k8 : Int32 × Int32 × Int32 × Ms → Option (Int32 × Ms)) (l2 : Int32) (l3 : Int32) (l4 : Int32) (σ : Ms) : Option (Int32 × Ms) :=
  if (20 : Int32) ≤ l4 then (bn (F0_worthWith N q0 l3 σ) (fun r1 t2 => if (lg_cmp r1 (0 : Int64)) ≠ 0 then (some ((0 : Int32), t2))
  else (bn (F0_nimWith N q0 l3 t2) (fun r3 t4 => if r3 ≠ 0 then (some ((0 : Int32), t4))
  else (some ((1 : Int32), t4))))))
  else (bn (F11_isIn l2 l4 σ) (fun r5 t6 => if r5 = 0 then (F7_balances_b36 N q0 k8 l2 l3 l4 t6)
  else (ck (ixb l4 20) (lt (l3 &&& ((t6.1 103 l4.toNatClampNeg) ^^^ (-1 : Int32))) (fun x7 => F7_balances_b36 N q0 k8 l2 x7 l4 t6)))))
noncomputable def F7_balances_b8 (N : Nat) (q0 : Nat) (l2 : Int32) (l3 : Int32) (l4 : Int32) (σ : Ms) : Option (Int32 × Ms) :=
  fx N (fun k x => F7_balances_b8B N q0 k x.1 x.2.1 x.2.2.1 x.2.2.2) (l2, l3, l4, σ)
noncomputable def F7_balances (N : Nat) (q0 : Nat) (p1 : Int32) (σ : Ms) : Option (Int32 × Ms) :=
  lt (σ.1 q0 6) (fun x8 => F7_balances_b8 N q0 p1 x8 (0 : Int32) σ)
set_option maxRecDepth 100000 in
theorem v7_balances_b36 (N : Nat) (q0 : Nat) (hq0 : IsC q0 (0, 0, 0)) (k8 : Int32 × Int32 × Int32 × Ms → Option (Int32 × Ms)) (hk8 : ∀ (l2 : Int32) (l3 : Int32) (l4 : Int32) (τ : Ms), VF (K7_balances) cX7_balances RX7 (k8 (l2, l3, l4, τ)) τ 8 [(0, .ref 102), (1, .ref q0), (2, .int l2), (3, .int l3), (4, .int l4)] []) (l2 : Int32) (l3 : Int32) (l4 : Int32) (σ : Ms) : VF (K7_balances) cX7_balances RX7 (F7_balances_b36 N q0 k8 l2 l3 l4 σ) σ 36 [(0, .ref 102), (1, .ref q0), (2, .int l2), (3, .int l3), (4, .int l4)] [] := by
  unfold F7_balances_b36
  refine v_iinc (lv' := [(4, .int (l4 + (1 : Int32))), (0, .ref 102), (1, .ref q0), (2, .int l2), (3, .int l3)]) d7_balances_36 4 rfl (by rw [ki_1]) (by decide) rfl ?_
  refine v_goto (tgt := 8) d7_balances_39 (by decide) ?_
  refine v_sub [1, 2, 3, 4, 0] rfl ?_
  exact hk8 l2 l3 (l4 + (1 : Int32)) σ
set_option maxRecDepth 100000 in
theorem v7_balances_b8B (N : Nat) (q0 : Nat) (hq0 : IsC q0 (0, 0, 0)) (k8 : Int32 × Int32 × Int32 × Ms → Option (Int32 × Ms)) (hk8 : ∀ (l2 : Int32) (l3 : Int32) (l4 : Int32) (τ : Ms), VF (K7_balances) cX7_balances RX7 (k8 (l2, l3, l4, τ)) τ 8 [(0, .ref 102), (1, .ref q0), (2, .int l2), (3, .int l3), (4, .int l4)] []) (l2 : Int32) (l3 : Int32) (l4 : Int32) (σ : Ms) : VF (K7_balances) cX7_balances RX7 (F7_balances_b8B N q0 k8 l2 l3 l4 σ) σ 8 [(0, .ref 102), (1, .ref q0), (2, .int l2), (3, .int l3), (4, .int l4)] [] := by
  unfold F7_balances_b8B
  refine v_iload d7_balances_8 4 rfl ?_
  refine v_bipush d7_balances_10 kb_20 ?_
  refine v_icmp_ge (tgt := 42) d7_balances_12 (by decide) ?_ ?_
  · refine v_aload_n d7_balances_42 1 rfl rfl ?_
    refine v_iload_n d7_balances_43 3 rfl rfl ?_
    refine v_callV1l d7_balances_44 (mc0_worthWith N q0 hq0 l3 σ) yv0_worthWith mlX7_60 (Recv.obj hq0 rfl) (by decide) (Nat.le_of_ble_eq_true rfl) fun r1 t2 => ?_
    refine v_lconst d7_balances_47 kl_0 ?_
    refine v_lcmp d7_balances_48 ?_
    refine v_if_ne (tgt := 64) d7_balances_49 (by decide) ?_ ?_
    · refine v_iconst d7_balances_64 ki_0 ?_
      exact v_iret (ty := .boolean) d7_balances_65 rfl rfl rfl
    · refine v_aload_n d7_balances_52 1 rfl rfl ?_
      refine v_iload_n d7_balances_53 3 rfl rfl ?_
      refine v_callV1i d7_balances_54 (mc0_nimWith N q0 hq0 l3 t2) yv0_nimWith mlX7_64 (Recv.obj hq0 rfl) (by decide) (Nat.le_of_ble_eq_true rfl) fun r3 t4 => ?_
      refine v_if_ne (tgt := 64) d7_balances_57 (by decide) ?_ ?_
      · refine v_iconst d7_balances_64 ki_0 ?_
        exact v_iret (ty := .boolean) d7_balances_65 rfl rfl rfl
      · refine v_iconst d7_balances_60 ki_1 ?_
        refine v_goto (tgt := 65) d7_balances_61 (by decide) ?_
        exact v_iret (ty := .boolean) d7_balances_65 rfl rfl rfl
  · refine v_iload_n d7_balances_15 2 rfl rfl ?_
    refine v_iload d7_balances_16 4 rfl ?_
    refine v_callN2i d7_balances_18 (mc11_isIn l2 l4 σ) ys11_isIn neX7_56 (by decide) (Nat.le_of_ble_eq_true rfl) fun r5 t6 => ?_
    refine v_if_eq (tgt := 36) d7_balances_21 (by decide) ?_ ?_
    · exact v7_balances_b36 N q0 hq0 k8 hk8 l2 l3 l4 t6
    · refine v_iload_n d7_balances_24 3 rfl rfl ?_
      refine v_aload_n d7_balances_25 0 rfl rfl ?_
      refine v_getR d7_balances_26 faX7_9 ic_102 rfl ?_
      refine v_iload d7_balances_29 4 rfl ?_
      refine v_iald d7_balances_31 ic_103 ?_
      refine v_iconst d7_balances_32 ki_m1 ?_
      refine v_ixor d7_balances_33 ?_
      refine v_iand d7_balances_34 ?_
      refine v_lti fun x7 => ?_
      refine v_istore_n (lv' := [(3, .int x7), (0, .ref 102), (1, .ref q0), (2, .int l2), (4, .int l4)]) d7_balances_35 rfl (by decide) rfl ?_
      refine v_sub [1, 2, 3, 0, 4] rfl ?_
      exact v7_balances_b36 N q0 hq0 k8 hk8 l2 x7 l4 t6
theorem v7_balances_b8 (N : Nat) (q0 : Nat) (hq0 : IsC q0 (0, 0, 0)) (l2 : Int32) (l3 : Int32) (l4 : Int32) (σ : Ms) : VF (K7_balances) cX7_balances RX7 (F7_balances_b8 N q0 l2 l3 l4 σ) σ 8 [(0, .ref 102), (1, .ref q0), (2, .int l2), (3, .int l3), (4, .int l4)] [] := v_fx (σo := fun x => x.2.2.2) (lo := fun x => [(0, .ref 102), (1, .ref q0), (2, .int x.1), (3, .int x.2.1), (4, .int x.2.2.1)]) (fun k hk x => v7_balances_b8B N q0 hq0 k (fun l2 l3 l4 τ => hk (l2, l3, l4, τ)) x.1 x.2.1 x.2.2.1 x.2.2.2) N (l2, l3, l4, σ)
set_option maxRecDepth 100000 in
theorem mc7_balances (N : Nat) (q0 : Nat) (hq0 : IsC q0 (0, 0, 0)) (p1 : Int32) (σ : Ms) : MC enI yX7_balances cX7_balances 5 (some .boolean) 3 (F7_balances N q0 p1 σ) σ [.ref 102, .ref q0, .int p1] := by
  refine MC.i (by decide +kernel) (Nat.le_of_ble_eq_true rfl) ?_
  show VF (K7_balances) cX7_balances RX7 (F7_balances N q0 p1 σ) σ 0 [(0, .ref 102), (1, .ref q0), (2, .int p1)] []
  unfold F7_balances
  refine v_aload_n d7_balances_0 1 rfl rfl ?_
  refine v_getI d7_balances_1 faX7_40 hq0 ?_
  refine v_lti fun x8 => ?_
  refine v_istore_n (lv' := [(3, .int x8), (0, .ref 102), (1, .ref q0), (2, .int p1)]) d7_balances_4 rfl (by decide) rfl ?_
  refine v_iconst d7_balances_5 ki_0 ?_
  refine v_istore (lv' := [(4, .int (0 : Int32)), (3, .int x8), (0, .ref 102), (1, .ref q0), (2, .int p1)]) d7_balances_6 (by decide) rfl ?_
  refine v_sub [2, 3, 4, 1, 0] rfl ?_
  exact v7_balances_b8 N q0 hq0 p1 x8 (0 : Int32) σ
theorem d7_nextOfSize_0 : decode cX7_nextOfSize 0 = .ok (.iload_n 0, 1) := by decide +kernel
theorem d7_nextOfSize_1 : decode cX7_nextOfSize 1 = .ok (.ifCond .ne 6, 3) := by decide +kernel
theorem d7_nextOfSize_4 : decode cX7_nextOfSize 4 = .ok (.ldc 50, 2) := by decide +kernel
theorem d7_nextOfSize_6 : decode cX7_nextOfSize 6 = .ok (.ireturn, 1) := by decide +kernel
theorem d7_nextOfSize_7 : decode cX7_nextOfSize 7 = .ok (.iload_n 0, 1) := by decide +kernel
theorem d7_nextOfSize_8 : decode cX7_nextOfSize 8 = .ok (.iload_n 0, 1) := by decide +kernel
theorem d7_nextOfSize_9 : decode cX7_nextOfSize 9 = .ok (.ineg, 1) := by decide +kernel
theorem d7_nextOfSize_10 : decode cX7_nextOfSize 10 = .ok (.iand, 1) := by decide +kernel
theorem d7_nextOfSize_11 : decode cX7_nextOfSize 11 = .ok (.istore_n 1, 1) := by decide +kernel
theorem d7_nextOfSize_12 : decode cX7_nextOfSize 12 = .ok (.iload_n 0, 1) := by decide +kernel
theorem d7_nextOfSize_13 : decode cX7_nextOfSize 13 = .ok (.iload_n 1, 1) := by decide +kernel
theorem d7_nextOfSize_14 : decode cX7_nextOfSize 14 = .ok (.iadd, 1) := by decide +kernel
theorem d7_nextOfSize_15 : decode cX7_nextOfSize 15 = .ok (.istore_n 2, 1) := by decide +kernel
theorem d7_nextOfSize_16 : decode cX7_nextOfSize 16 = .ok (.iload_n 2, 1) := by decide +kernel
theorem d7_nextOfSize_17 : decode cX7_nextOfSize 17 = .ok (.iload_n 0, 1) := by decide +kernel
theorem d7_nextOfSize_18 : decode cX7_nextOfSize 18 = .ok (.iload_n 2, 1) := by decide +kernel
theorem d7_nextOfSize_19 : decode cX7_nextOfSize 19 = .ok (.ixor, 1) := by decide +kernel
theorem d7_nextOfSize_20 : decode cX7_nextOfSize 20 = .ok (.iload_n 1, 1) := by decide +kernel
theorem d7_nextOfSize_21 : decode cX7_nextOfSize 21 = .ok (.invokestatic 51, 3) := by decide +kernel
theorem d7_nextOfSize_24 : decode cX7_nextOfSize 24 = .ok (.iconst 2, 1) := by decide +kernel
theorem d7_nextOfSize_25 : decode cX7_nextOfSize 25 = .ok (.iadd, 1) := by decide +kernel
theorem d7_nextOfSize_26 : decode cX7_nextOfSize 26 = .ok (.ishr, 1) := by decide +kernel
theorem d7_nextOfSize_27 : decode cX7_nextOfSize 27 = .ok (.ior, 1) := by decide +kernel
theorem d7_nextOfSize_28 : decode cX7_nextOfSize 28 = .ok (.ireturn, 1) := by decide +kernel
abbrev K7_nextOfSize : CK Int32 := (enI, (some .int), 3, 2, none)
noncomputable def F7_nextOfSize (p0 : Int32) (σ : Ms) : Option (Int32 × Ms) :=
  if p0 ≠ 0 then (lt (p0 &&& (-p0)) (fun x1 => lt (p0 + x1) (fun x2 => bn (FJ6_numberOfTrailingZeros_0f7a4 x1 σ) (fun r3 t4 => some ((x2 ||| ((p0 ^^^ x2) >>> ((r3 + (2 : Int32)) &&& 31))), t4)))))
  else (some ((1048576 : Int32), σ))
set_option maxRecDepth 100000 in
theorem mc7_nextOfSize (p0 : Int32) (σ : Ms) : MC enI yX7_nextOfSize cX7_nextOfSize 3 (some .int) 2 (F7_nextOfSize p0 σ) σ [.int p0] := by
  refine MC.i (by decide +kernel) (Nat.le_of_ble_eq_true rfl) ?_
  show VF (K7_nextOfSize) cX7_nextOfSize RX7 (F7_nextOfSize p0 σ) σ 0 [(0, .int p0)] []
  unfold F7_nextOfSize
  refine v_iload_n d7_nextOfSize_0 0 rfl rfl ?_
  refine v_if_ne (tgt := 7) d7_nextOfSize_1 (by decide) ?_ ?_
  · refine v_iload_n d7_nextOfSize_7 0 rfl rfl ?_
    refine v_iload_n d7_nextOfSize_8 0 rfl rfl ?_
    refine v_ineg d7_nextOfSize_9 ?_
    refine v_iand d7_nextOfSize_10 ?_
    refine v_lti fun x1 => ?_
    refine v_istore_n (lv' := [(1, .int x1), (0, .int p0)]) d7_nextOfSize_11 rfl (by decide) rfl ?_
    refine v_iload_n d7_nextOfSize_12 1 rfl rfl ?_
    refine v_iload_n d7_nextOfSize_13 0 rfl rfl ?_
    refine v_iadd d7_nextOfSize_14 ?_
    refine v_lti fun x2 => ?_
    refine v_istore_n (lv' := [(2, .int x2), (1, .int x1), (0, .int p0)]) d7_nextOfSize_15 rfl (by decide) rfl ?_
    refine v_iload_n d7_nextOfSize_16 0 rfl rfl ?_
    refine v_iload_n d7_nextOfSize_17 2 rfl rfl ?_
    refine v_iload_n d7_nextOfSize_18 0 rfl rfl ?_
    refine v_ixor d7_nextOfSize_19 ?_
    refine v_iload_n d7_nextOfSize_20 1 rfl rfl ?_
    refine v_callS1i d7_nextOfSize_21 (mcJ6_numberOfTrailingZeros_0f7a4 x1 σ) ysJ6_numberOfTrailingZeros_0f7a4 mlX7_51 (by decide) (Nat.le_of_ble_eq_true rfl) fun r3 t4 => ?_
    refine v_iconst d7_nextOfSize_24 ki_2 ?_
    refine v_iadd d7_nextOfSize_25 ?_
    refine v_ishr d7_nextOfSize_26 ?_
    refine v_ior d7_nextOfSize_27 ?_
    exact v_iret d7_nextOfSize_28 rfl rfl rfl
  · refine v_ldc d7_nextOfSize_4 kcX7_50 ?_
    exact v_iret d7_nextOfSize_6 rfl rfl rfl
theorem d7_leastOf_0 : decode cX7_leastOf 0 = .ok (.iconst 1, 1) := by decide +kernel
theorem d7_leastOf_1 : decode cX7_leastOf 1 = .ok (.iload_n 2, 1) := by decide +kernel
theorem d7_leastOf_2 : decode cX7_leastOf 2 = .ok (.ishl, 1) := by decide +kernel
theorem d7_leastOf_3 : decode cX7_leastOf 3 = .ok (.iconst 1, 1) := by decide +kernel
theorem d7_leastOf_4 : decode cX7_leastOf 4 = .ok (.isub, 1) := by decide +kernel
theorem d7_leastOf_5 : decode cX7_leastOf 5 = .ok (.istore_n 3, 1) := by decide +kernel
theorem d7_leastOf_6 : decode cX7_leastOf 6 = .ok (.iconst 0, 1) := by decide +kernel
theorem d7_leastOf_7 : decode cX7_leastOf 7 = .ok (.istore 4, 2) := by decide +kernel
theorem d7_leastOf_9 : decode cX7_leastOf 9 = .ok (.iload 4, 2) := by decide +kernel
theorem d7_leastOf_11 : decode cX7_leastOf 11 = .ok (.sipush 1140, 3) := by decide +kernel
theorem d7_leastOf_14 : decode cX7_leastOf 14 = .ok (.if_icmp .ge 46, 3) := by decide +kernel
theorem d7_leastOf_17 : decode cX7_leastOf 17 = .ok (.iload_n 3, 1) := by decide +kernel
theorem d7_leastOf_18 : decode cX7_leastOf 18 = .ok (.iconst 1, 1) := by decide +kernel
theorem d7_leastOf_19 : decode cX7_leastOf 19 = .ok (.aload_n 1, 1) := by decide +kernel
theorem d7_leastOf_20 : decode cX7_leastOf 20 = .ok (.getfield 36, 3) := by decide +kernel
theorem d7_leastOf_23 : decode cX7_leastOf 23 = .ok (.ishl, 1) := by decide +kernel
theorem d7_leastOf_24 : decode cX7_leastOf 24 = .ok (.if_icmp .ge 36, 3) := by decide +kernel
theorem d7_leastOf_27 : decode cX7_leastOf 27 = .ok (.iload_n 3, 1) := by decide +kernel
theorem d7_leastOf_28 : decode cX7_leastOf 28 = .ok (.aload_n 1, 1) := by decide +kernel
theorem d7_leastOf_29 : decode cX7_leastOf 29 = .ok (.getfield 40, 3) := by decide +kernel
theorem d7_leastOf_32 : decode cX7_leastOf 32 = .ok (.iconst (-1), 1) := by decide +kernel
theorem d7_leastOf_33 : decode cX7_leastOf 33 = .ok (.ixor, 1) := by decide +kernel
theorem d7_leastOf_34 : decode cX7_leastOf 34 = .ok (.iand, 1) := by decide +kernel
theorem d7_leastOf_35 : decode cX7_leastOf 35 = .ok (.ifCond .ne 14, 3) := by decide +kernel
theorem d7_leastOf_38 : decode cX7_leastOf 38 = .ok (.aload_n 0, 1) := by decide +kernel
theorem d7_leastOf_39 : decode cX7_leastOf 39 = .ok (.aload_n 1, 1) := by decide +kernel
theorem d7_leastOf_40 : decode cX7_leastOf 40 = .ok (.iload_n 3, 1) := by decide +kernel
theorem d7_leastOf_41 : decode cX7_leastOf 41 = .ok (.invokevirtual 43, 3) := by decide +kernel
theorem d7_leastOf_44 : decode cX7_leastOf 44 = .ok (.ifCond .eq 5, 3) := by decide +kernel
theorem d7_leastOf_47 : decode cX7_leastOf 47 = .ok (.iload_n 3, 1) := by decide +kernel
theorem d7_leastOf_48 : decode cX7_leastOf 48 = .ok (.ireturn, 1) := by decide +kernel
theorem d7_leastOf_49 : decode cX7_leastOf 49 = .ok (.iload_n 3, 1) := by decide +kernel
theorem d7_leastOf_50 : decode cX7_leastOf 50 = .ok (.invokestatic 47, 3) := by decide +kernel
theorem d7_leastOf_53 : decode cX7_leastOf 53 = .ok (.istore_n 3, 1) := by decide +kernel
theorem d7_leastOf_54 : decode cX7_leastOf 54 = .ok (.iinc 4 1, 3) := by decide +kernel
theorem d7_leastOf_57 : decode cX7_leastOf 57 = .ok (.goto (-48), 3) := by decide +kernel
theorem d7_leastOf_60 : decode cX7_leastOf 60 = .ok (.iconst (-1), 1) := by decide +kernel
theorem d7_leastOf_61 : decode cX7_leastOf 61 = .ok (.ireturn, 1) := by decide +kernel
abbrev K7_leastOf : CK Int32 := (enI, (some .int), 5, 4, none)
noncomputable def F7_leastOf_b49 (N : Nat) (q0 : Nat) (k9 : Int32 × Int32 × Ms → Option (Int32 × Ms)) (l3 : Int32) (l4 : Int32) (σ : Ms) : Option (Int32 × Ms) :=
  bn (F7_nextOfSize l3 σ) (fun r1 t2 => k9 (r1, (l4 + (1 : Int32)), t2))
noncomputable def F7_leastOf_b9B (N : Nat) (q0 : Nat) (k9 : Int32 × Int32 × Ms → Option (Int32 × Ms)) (l3 : Int32) (l4 : Int32) (σ : Ms) : Option (Int32 × Ms) :=
  if (1140 : Int32) ≤ l4 then (some ((-1 : Int32), σ))
  else (if ((1 : Int32) <<< ((σ.1 q0 5) &&& 31)) ≤ l3 then (some ((-1 : Int32), σ))
  else (if (l3 &&& ((σ.1 q0 6) ^^^ (-1 : Int32))) ≠ 0 then (F7_leastOf_b49 N q0 k9 l3 l4 σ)
  else (bn (F7_balances N q0 l3 σ) (fun r3 t4 => if r3 = 0 then (F7_leastOf_b49 N q0 k9 l3 l4 t4)
  else (some (l3, t4))))))
noncomputable def F7_leastOf_b9 (N : Nat) (q0 : Nat) (l3 : Int32) (l4 : Int32) (σ : Ms) : Option (Int32 × Ms) :=
  fx N (fun k x => F7_leastOf_b9B N q0 k x.1 x.2.1 x.2.2) (l3, l4, σ)
noncomputable def F7_leastOf (N : Nat) (q0 : Nat) (p1 : Int32) (σ : Ms) : Option (Int32 × Ms) :=
  lt (((1 : Int32) <<< (p1 &&& 31)) - (1 : Int32)) (fun x5 => F7_leastOf_b9 N q0 x5 (0 : Int32) σ)
set_option maxRecDepth 100000 in
theorem v7_leastOf_b49 (N : Nat) (q0 : Nat) (hq0 : IsC q0 (0, 0, 0)) (k9 : Int32 × Int32 × Ms → Option (Int32 × Ms)) (hk9 : ∀ (l3 : Int32) (l4 : Int32) (τ : Ms), VF (K7_leastOf) cX7_leastOf RX7 (k9 (l3, l4, τ)) τ 9 [(0, .ref 102), (1, .ref q0), (3, .int l3), (4, .int l4)] []) (l3 : Int32) (l4 : Int32) (σ : Ms) : VF (K7_leastOf) cX7_leastOf RX7 (F7_leastOf_b49 N q0 k9 l3 l4 σ) σ 49 [(0, .ref 102), (1, .ref q0), (3, .int l3), (4, .int l4)] [] := by
  unfold F7_leastOf_b49
  refine v_iload_n d7_leastOf_49 2 rfl rfl ?_
  refine v_callS1i d7_leastOf_50 (mc7_nextOfSize l3 σ) ys7_nextOfSize mlX7_47 (by decide) (Nat.le_of_ble_eq_true rfl) fun r1 t2 => ?_
  refine v_istore_n (lv' := [(3, .int r1), (0, .ref 102), (1, .ref q0), (4, .int l4)]) d7_leastOf_53 rfl (by decide) rfl ?_
  refine v_iinc (lv' := [(4, .int (l4 + (1 : Int32))), (3, .int r1), (0, .ref 102), (1, .ref q0)]) d7_leastOf_54 3 rfl (by rw [ki_1]) (by decide) rfl ?_
  refine v_goto (tgt := 9) d7_leastOf_57 (by decide) ?_
  refine v_sub [2, 3, 1, 0] rfl ?_
  exact hk9 r1 (l4 + (1 : Int32)) t2
set_option maxRecDepth 100000 in
theorem v7_leastOf_b9B (N : Nat) (q0 : Nat) (hq0 : IsC q0 (0, 0, 0)) (k9 : Int32 × Int32 × Ms → Option (Int32 × Ms)) (hk9 : ∀ (l3 : Int32) (l4 : Int32) (τ : Ms), VF (K7_leastOf) cX7_leastOf RX7 (k9 (l3, l4, τ)) τ 9 [(0, .ref 102), (1, .ref q0), (3, .int l3), (4, .int l4)] []) (l3 : Int32) (l4 : Int32) (σ : Ms) : VF (K7_leastOf) cX7_leastOf RX7 (F7_leastOf_b9B N q0 k9 l3 l4 σ) σ 9 [(0, .ref 102), (1, .ref q0), (3, .int l3), (4, .int l4)] [] := by
  unfold F7_leastOf_b9B
  refine v_iload d7_leastOf_9 3 rfl ?_
  refine v_sipush d7_leastOf_11 ks_1140 ?_
  refine v_icmp_ge (tgt := 60) d7_leastOf_14 (by decide) ?_ ?_
  · refine v_iconst d7_leastOf_60 ki_m1 ?_
    exact v_iret d7_leastOf_61 rfl rfl rfl
  · refine v_iload_n d7_leastOf_17 2 rfl rfl ?_
    refine v_iconst d7_leastOf_18 ki_1 ?_
    refine v_aload_n d7_leastOf_19 1 rfl rfl ?_
    refine v_getI d7_leastOf_20 faX7_36 hq0 ?_
    refine v_ishl d7_leastOf_23 ?_
    refine v_icmp_ge (tgt := 60) d7_leastOf_24 (by decide) ?_ ?_
    · refine v_iconst d7_leastOf_60 ki_m1 ?_
      exact v_iret d7_leastOf_61 rfl rfl rfl
    · refine v_iload_n d7_leastOf_27 2 rfl rfl ?_
      refine v_aload_n d7_leastOf_28 1 rfl rfl ?_
      refine v_getI d7_leastOf_29 faX7_40 hq0 ?_
      refine v_iconst d7_leastOf_32 ki_m1 ?_
      refine v_ixor d7_leastOf_33 ?_
      refine v_iand d7_leastOf_34 ?_
      refine v_if_ne (tgt := 49) d7_leastOf_35 (by decide) ?_ ?_
      · exact v7_leastOf_b49 N q0 hq0 k9 hk9 l3 l4 σ
      · refine v_aload_n d7_leastOf_38 0 rfl rfl ?_
        refine v_aload_n d7_leastOf_39 1 rfl rfl ?_
        refine v_iload_n d7_leastOf_40 2 rfl rfl ?_
        refine v_callV2i d7_leastOf_41 (mc7_balances N q0 hq0 l3 σ) yv7_balances mlX7_43 (Recv.obj ic_102 rfl) (by decide) (Nat.le_of_ble_eq_true rfl) fun r3 t4 => ?_
        refine v_if_eq (tgt := 49) d7_leastOf_44 (by decide) ?_ ?_
        · exact v7_leastOf_b49 N q0 hq0 k9 hk9 l3 l4 t4
        · refine v_iload_n d7_leastOf_47 2 rfl rfl ?_
          exact v_iret d7_leastOf_48 rfl rfl rfl
theorem v7_leastOf_b9 (N : Nat) (q0 : Nat) (hq0 : IsC q0 (0, 0, 0)) (l3 : Int32) (l4 : Int32) (σ : Ms) : VF (K7_leastOf) cX7_leastOf RX7 (F7_leastOf_b9 N q0 l3 l4 σ) σ 9 [(0, .ref 102), (1, .ref q0), (3, .int l3), (4, .int l4)] [] := v_fx (σo := fun x => x.2.2) (lo := fun x => [(0, .ref 102), (1, .ref q0), (3, .int x.1), (4, .int x.2.1)]) (fun k hk x => v7_leastOf_b9B N q0 hq0 k (fun l3 l4 τ => hk (l3, l4, τ)) x.1 x.2.1 x.2.2) N (l3, l4, σ)
set_option maxRecDepth 100000 in
theorem mc7_leastOf (N : Nat) (q0 : Nat) (hq0 : IsC q0 (0, 0, 0)) (p1 : Int32) (σ : Ms) : MC enI yX7_leastOf cX7_leastOf 5 (some .int) 4 (F7_leastOf N q0 p1 σ) σ [.ref 102, .ref q0, .int p1] := by
  refine MC.i (by decide +kernel) (Nat.le_of_ble_eq_true rfl) ?_
  show VF (K7_leastOf) cX7_leastOf RX7 (F7_leastOf N q0 p1 σ) σ 0 [(0, .ref 102), (1, .ref q0), (2, .int p1)] []
  unfold F7_leastOf
  refine v_iconst d7_leastOf_0 ki_1 ?_
  refine v_iload_n d7_leastOf_1 2 rfl rfl ?_
  refine v_ishl d7_leastOf_2 ?_
  refine v_iconst d7_leastOf_3 ki_1 ?_
  refine v_isub d7_leastOf_4 ?_
  refine v_lti fun x5 => ?_
  refine v_istore_n (lv' := [(3, .int x5), (0, .ref 102), (1, .ref q0), (2, .int p1)]) d7_leastOf_5 rfl (by decide) rfl ?_
  refine v_iconst d7_leastOf_6 ki_0 ?_
  refine v_istore (lv' := [(4, .int (0 : Int32)), (3, .int x5), (0, .ref 102), (1, .ref q0), (2, .int p1)]) d7_leastOf_7 (by decide) rfl ?_
  refine v_sub [2, 3, 1, 0] rfl ?_
  exact v7_leastOf_b9 N q0 hq0 x5 (0 : Int32) σ
theorem d7_balancing_0 : decode cX7_balancing 0 = .ok (.iconst 0, 1) := by decide +kernel
theorem d7_balancing_1 : decode cX7_balancing 1 = .ok (.istore_n 2, 1) := by decide +kernel
theorem d7_balancing_2 : decode cX7_balancing 2 = .ok (.iload_n 2, 1) := by decide +kernel
theorem d7_balancing_3 : decode cX7_balancing 3 = .ok (.bipush 20, 2) := by decide +kernel
theorem d7_balancing_5 : decode cX7_balancing 5 = .ok (.if_icmp .ge 20, 3) := by decide +kernel
theorem d7_balancing_8 : decode cX7_balancing 8 = .ok (.aload_n 0, 1) := by decide +kernel
theorem d7_balancing_9 : decode cX7_balancing 9 = .ok (.getfield 9, 3) := by decide +kernel
theorem d7_balancing_12 : decode cX7_balancing 12 = .ok (.iload_n 2, 1) := by decide +kernel
theorem d7_balancing_13 : decode cX7_balancing 13 = .ok (.aload_n 1, 1) := by decide +kernel
theorem d7_balancing_14 : decode cX7_balancing 14 = .ok (.iload_n 2, 1) := by decide +kernel
theorem d7_balancing_15 : decode cX7_balancing 15 = .ok (.invokevirtual 26, 3) := by decide +kernel
theorem d7_balancing_18 : decode cX7_balancing 18 = .ok (.iastore, 1) := by decide +kernel
theorem d7_balancing_19 : decode cX7_balancing 19 = .ok (.iinc 2 1, 3) := by decide +kernel
theorem d7_balancing_22 : decode cX7_balancing 22 = .ok (.goto (-20), 3) := by decide +kernel
theorem d7_balancing_25 : decode cX7_balancing 25 = .ok (.iconst (-1), 1) := by decide +kernel
theorem d7_balancing_26 : decode cX7_balancing 26 = .ok (.istore_n 2, 1) := by decide +kernel
theorem d7_balancing_27 : decode cX7_balancing 27 = .ok (.iconst 0, 1) := by decide +kernel
theorem d7_balancing_28 : decode cX7_balancing 28 = .ok (.istore_n 3, 1) := by decide +kernel
theorem d7_balancing_29 : decode cX7_balancing 29 = .ok (.iload_n 3, 1) := by decide +kernel
theorem d7_balancing_30 : decode cX7_balancing 30 = .ok (.iconst 3, 1) := by decide +kernel
theorem d7_balancing_31 : decode cX7_balancing 31 = .ok (.if_icmp .gt 21, 3) := by decide +kernel
theorem d7_balancing_34 : decode cX7_balancing 34 = .ok (.iload_n 2, 1) := by decide +kernel
theorem d7_balancing_35 : decode cX7_balancing 35 = .ok (.iconst (-1), 1) := by decide +kernel
theorem d7_balancing_36 : decode cX7_balancing 36 = .ok (.if_icmp .ne 16, 3) := by decide +kernel
theorem d7_balancing_39 : decode cX7_balancing 39 = .ok (.aload_n 0, 1) := by decide +kernel
theorem d7_balancing_40 : decode cX7_balancing 40 = .ok (.aload_n 1, 1) := by decide +kernel
theorem d7_balancing_41 : decode cX7_balancing 41 = .ok (.iload_n 3, 1) := by decide +kernel
theorem d7_balancing_42 : decode cX7_balancing 42 = .ok (.invokevirtual 32, 3) := by decide +kernel
theorem d7_balancing_45 : decode cX7_balancing 45 = .ok (.istore_n 2, 1) := by decide +kernel
theorem d7_balancing_46 : decode cX7_balancing 46 = .ok (.iinc 3 1, 3) := by decide +kernel
theorem d7_balancing_49 : decode cX7_balancing 49 = .ok (.goto (-20), 3) := by decide +kernel
theorem d7_balancing_52 : decode cX7_balancing 52 = .ok (.iload_n 2, 1) := by decide +kernel
theorem d7_balancing_53 : decode cX7_balancing 53 = .ok (.ireturn, 1) := by decide +kernel
abbrev K7_balancing : CK Int32 := (enI, (some .int), 4, 5, none)
noncomputable def F7_balancing_b29B (N : Nat) (q0 : Nat) (k29 : Int32 × Int32 × Ms → Option (Int32 × Ms)) (l2 : Int32) (l3 : Int32) (σ : Ms) : Option (Int32 × Ms) :=
  if (3 : Int32) < l3 then (some (l2, σ))
  else (if l2 ≠ (-1 : Int32) then (some (l2, σ))
  else (bn (F7_leastOf N q0 l3 σ) (fun r1 t2 => k29 (r1, (l3 + (1 : Int32)), t2))))
noncomputable def F7_balancing_b29 (N : Nat) (q0 : Nat) (l2 : Int32) (l3 : Int32) (σ : Ms) : Option (Int32 × Ms) :=
  fx N (fun k x => F7_balancing_b29B N q0 k x.1 x.2.1 x.2.2) (l2, l3, σ)
noncomputable def F7_balancing_b2B (N : Nat) (q0 : Nat) (k2 : Int32 × Ms → Option (Int32 × Ms)) (l2 : Int32) (σ : Ms) : Option (Int32 × Ms) :=
  if (20 : Int32) ≤ l2 then (F7_balancing_b29 N q0 (-1 : Int32) (0 : Int32) σ)
  else (bn (F0_branchSet N q0 l2 σ) (fun r3 t4 => ck (ixb l2 20) (lt (sI t4 103 l2.toNatClampNeg r3) (fun t5 => k2 ((l2 + (1 : Int32)), t5)))))
noncomputable def F7_balancing_b2 (N : Nat) (q0 : Nat) (l2 : Int32) (σ : Ms) : Option (Int32 × Ms) :=
  fx N (fun k x => F7_balancing_b2B N q0 k x.1 x.2) (l2, σ)
noncomputable def F7_balancing (N : Nat) (q0 : Nat) (σ : Ms) : Option (Int32 × Ms) :=
  F7_balancing_b2 N q0 (0 : Int32) σ
set_option maxRecDepth 100000 in
theorem v7_balancing_b29B (N : Nat) (q0 : Nat) (hq0 : IsC q0 (0, 0, 0)) (k29 : Int32 × Int32 × Ms → Option (Int32 × Ms)) (hk29 : ∀ (l2 : Int32) (l3 : Int32) (τ : Ms), VF (K7_balancing) cX7_balancing RX7 (k29 (l2, l3, τ)) τ 29 [(0, .ref 102), (1, .ref q0), (2, .int l2), (3, .int l3)] []) (l2 : Int32) (l3 : Int32) (σ : Ms) : VF (K7_balancing) cX7_balancing RX7 (F7_balancing_b29B N q0 k29 l2 l3 σ) σ 29 [(0, .ref 102), (1, .ref q0), (2, .int l2), (3, .int l3)] [] := by
  unfold F7_balancing_b29B
  refine v_iload_n d7_balancing_29 3 rfl rfl ?_
  refine v_iconst d7_balancing_30 ki_3 ?_
  refine v_icmp_gt (tgt := 52) d7_balancing_31 (by decide) ?_ ?_
  · refine v_iload_n d7_balancing_52 2 rfl rfl ?_
    exact v_iret d7_balancing_53 rfl rfl rfl
  · refine v_iload_n d7_balancing_34 2 rfl rfl ?_
    refine v_iconst d7_balancing_35 ki_m1 ?_
    refine v_icmp_ne (tgt := 52) d7_balancing_36 (by decide) ?_ ?_
    · refine v_iload_n d7_balancing_52 2 rfl rfl ?_
      exact v_iret d7_balancing_53 rfl rfl rfl
    · refine v_aload_n d7_balancing_39 0 rfl rfl ?_
      refine v_aload_n d7_balancing_40 1 rfl rfl ?_
      refine v_iload_n d7_balancing_41 3 rfl rfl ?_
      refine v_callV2i d7_balancing_42 (mc7_leastOf N q0 hq0 l3 σ) yv7_leastOf mlX7_32 (Recv.obj ic_102 rfl) (by decide) (Nat.le_of_ble_eq_true rfl) fun r1 t2 => ?_
      refine v_istore_n (lv' := [(2, .int r1), (0, .ref 102), (1, .ref q0), (3, .int l3)]) d7_balancing_45 rfl (by decide) rfl ?_
      refine v_iinc (lv' := [(3, .int (l3 + (1 : Int32))), (2, .int r1), (0, .ref 102), (1, .ref q0)]) d7_balancing_46 3 rfl (by rw [ki_1]) (by decide) rfl ?_
      refine v_goto (tgt := 29) d7_balancing_49 (by decide) ?_
      refine v_sub [2, 3, 1, 0] rfl ?_
      exact hk29 r1 (l3 + (1 : Int32)) t2
theorem v7_balancing_b29 (N : Nat) (q0 : Nat) (hq0 : IsC q0 (0, 0, 0)) (l2 : Int32) (l3 : Int32) (σ : Ms) : VF (K7_balancing) cX7_balancing RX7 (F7_balancing_b29 N q0 l2 l3 σ) σ 29 [(0, .ref 102), (1, .ref q0), (2, .int l2), (3, .int l3)] [] := v_fx (σo := fun x => x.2.2) (lo := fun x => [(0, .ref 102), (1, .ref q0), (2, .int x.1), (3, .int x.2.1)]) (fun k hk x => v7_balancing_b29B N q0 hq0 k (fun l2 l3 τ => hk (l2, l3, τ)) x.1 x.2.1 x.2.2) N (l2, l3, σ)
set_option maxRecDepth 100000 in
theorem v7_balancing_b2B (N : Nat) (q0 : Nat) (hq0 : IsC q0 (0, 0, 0)) (k2 : Int32 × Ms → Option (Int32 × Ms)) (hk2 : ∀ (l2 : Int32) (τ : Ms), VF (K7_balancing) cX7_balancing RX7 (k2 (l2, τ)) τ 2 [(0, .ref 102), (1, .ref q0), (2, .int l2)] []) (l2 : Int32) (σ : Ms) : VF (K7_balancing) cX7_balancing RX7 (F7_balancing_b2B N q0 k2 l2 σ) σ 2 [(0, .ref 102), (1, .ref q0), (2, .int l2)] [] := by
  unfold F7_balancing_b2B
  refine v_iload_n d7_balancing_2 2 rfl rfl ?_
  refine v_bipush d7_balancing_3 kb_20 ?_
  refine v_icmp_ge (tgt := 25) d7_balancing_5 (by decide) ?_ ?_
  · refine v_iconst d7_balancing_25 ki_m1 ?_
    refine v_istore_n (lv' := [(2, .int (-1 : Int32)), (0, .ref 102), (1, .ref q0)]) d7_balancing_26 rfl (by decide) rfl ?_
    refine v_iconst d7_balancing_27 ki_0 ?_
    refine v_istore_n (lv' := [(3, .int (0 : Int32)), (2, .int (-1 : Int32)), (0, .ref 102), (1, .ref q0)]) d7_balancing_28 rfl (by decide) rfl ?_
    refine v_sub [2, 3, 1, 0] rfl ?_
    exact v7_balancing_b29 N q0 hq0 (-1 : Int32) (0 : Int32) σ
  · refine v_aload_n d7_balancing_8 0 rfl rfl ?_
    refine v_getR d7_balancing_9 faX7_9 ic_102 rfl ?_
    refine v_iload_n d7_balancing_12 2 rfl rfl ?_
    refine v_aload_n d7_balancing_13 1 rfl rfl ?_
    refine v_iload_n d7_balancing_14 2 rfl rfl ?_
    refine v_callV1i d7_balancing_15 (mc0_branchSet N q0 hq0 l2 σ) yv0_branchSet mlX7_26 (Recv.obj hq0 rfl) (by decide) (Nat.le_of_ble_eq_true rfl) fun r3 t4 => ?_
    refine v_iast d7_balancing_18 ic_103 ?_
    refine v_lts fun t5 => ?_
    refine v_iinc (lv' := [(2, .int (l2 + (1 : Int32))), (0, .ref 102), (1, .ref q0)]) d7_balancing_19 2 rfl (by rw [ki_1]) (by decide) rfl ?_
    refine v_goto (tgt := 2) d7_balancing_22 (by decide) ?_
    refine v_sub [1, 2, 0] rfl ?_
    exact hk2 (l2 + (1 : Int32)) t5
theorem v7_balancing_b2 (N : Nat) (q0 : Nat) (hq0 : IsC q0 (0, 0, 0)) (l2 : Int32) (σ : Ms) : VF (K7_balancing) cX7_balancing RX7 (F7_balancing_b2 N q0 l2 σ) σ 2 [(0, .ref 102), (1, .ref q0), (2, .int l2)] [] := v_fx (σo := fun x => x.2) (lo := fun x => [(0, .ref 102), (1, .ref q0), (2, .int x.1)]) (fun k hk x => v7_balancing_b2B N q0 hq0 k (fun l2 τ => hk (l2, τ)) x.1 x.2) N (l2, σ)
set_option maxRecDepth 100000 in
theorem mc7_balancing (N : Nat) (q0 : Nat) (hq0 : IsC q0 (0, 0, 0)) (σ : Ms) : MC enI yX7_balancing cX7_balancing 4 (some .int) 5 (F7_balancing N q0 σ) σ [.ref 102, .ref q0] := by
  refine MC.i (by decide +kernel) (Nat.le_of_ble_eq_true rfl) ?_
  show VF (K7_balancing) cX7_balancing RX7 (F7_balancing N q0 σ) σ 0 [(0, .ref 102), (1, .ref q0)] []
  unfold F7_balancing
  refine v_iconst d7_balancing_0 ki_0 ?_
  refine v_istore_n (lv' := [(2, .int (0 : Int32)), (0, .ref 102), (1, .ref q0)]) d7_balancing_1 rfl (by decide) rfl ?_
  refine v_sub [1, 2, 0] rfl ?_
  exact v7_balancing_b2 N q0 hq0 (0 : Int32) σ
