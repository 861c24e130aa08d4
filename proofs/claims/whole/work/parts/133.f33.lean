theorem d12_does_0 : decode cX12_does 0 = .ok (.aload_n 0, 1) := by decide +kernel
theorem d12_does_1 : decode cX12_does 1 = .ok (.getfield 35, 3) := by decide +kernel
theorem d12_does_4 : decode cX12_does 4 = .ok (.iload_n 1, 1) := by decide +kernel
theorem d12_does_5 : decode cX12_does 5 = .ok (.iaload, 1) := by decide +kernel
theorem d12_does_6 : decode cX12_does 6 = .ok (.istore_n 2, 1) := by decide +kernel
theorem d12_does_7 : decode cX12_does 7 = .ok (.aload_n 0, 1) := by decide +kernel
theorem d12_does_8 : decode cX12_does 8 = .ok (.getfield 35, 3) := by decide +kernel
theorem d12_does_11 : decode cX12_does 11 = .ok (.iload_n 1, 1) := by decide +kernel
theorem d12_does_12 : decode cX12_does 12 = .ok (.iconst 1, 1) := by decide +kernel
theorem d12_does_13 : decode cX12_does 13 = .ok (.iadd, 1) := by decide +kernel
theorem d12_does_14 : decode cX12_does 14 = .ok (.iaload, 1) := by decide +kernel
theorem d12_does_15 : decode cX12_does 15 = .ok (.istore_n 3, 1) := by decide +kernel
theorem d12_does_16 : decode cX12_does 16 = .ok (.iload_n 2, 1) := by decide +kernel
theorem d12_does_17 : decode cX12_does 17 = .ok (.ifCond .ne 17, 3) := by decide +kernel
theorem d12_does_20 : decode cX12_does 20 = .ok (.aload_n 0, 1) := by decide +kernel
theorem d12_does_21 : decode cX12_does 21 = .ok (.iload_n 3, 1) := by decide +kernel
theorem d12_does_22 : decode cX12_does 22 = .ok (.aload_n 0, 1) := by decide +kernel
theorem d12_does_23 : decode cX12_does 23 = .ok (.getfield 35, 3) := by decide +kernel
theorem d12_does_26 : decode cX12_does 26 = .ok (.iload_n 1, 1) := by decide +kernel
theorem d12_does_27 : decode cX12_does 27 = .ok (.iconst 2, 1) := by decide +kernel
theorem d12_does_28 : decode cX12_does 28 = .ok (.iadd, 1) := by decide +kernel
theorem d12_does_29 : decode cX12_does 29 = .ok (.iaload, 1) := by decide +kernel
theorem d12_does_30 : decode cX12_does 30 = .ok (.invokevirtual 475, 3) := by decide +kernel
theorem d12_does_33 : decode cX12_does 33 = .ok (.ireturn, 1) := by decide +kernel
theorem d12_does_34 : decode cX12_does 34 = .ok (.iload_n 2, 1) := by decide +kernel
theorem d12_does_35 : decode cX12_does 35 = .ok (.iconst 1, 1) := by decide +kernel
theorem d12_does_36 : decode cX12_does 36 = .ok (.if_icmp .ne 17, 3) := by decide +kernel
theorem d12_does_39 : decode cX12_does 39 = .ok (.aload_n 0, 1) := by decide +kernel
theorem d12_does_40 : decode cX12_does 40 = .ok (.iload_n 3, 1) := by decide +kernel
theorem d12_does_41 : decode cX12_does 41 = .ok (.aload_n 0, 1) := by decide +kernel
theorem d12_does_42 : decode cX12_does 42 = .ok (.getfield 35, 3) := by decide +kernel
theorem d12_does_45 : decode cX12_does 45 = .ok (.iload_n 1, 1) := by decide +kernel
theorem d12_does_46 : decode cX12_does 46 = .ok (.iconst 2, 1) := by decide +kernel
theorem d12_does_47 : decode cX12_does 47 = .ok (.iadd, 1) := by decide +kernel
theorem d12_does_48 : decode cX12_does 48 = .ok (.iaload, 1) := by decide +kernel
theorem d12_does_49 : decode cX12_does 49 = .ok (.invokevirtual 344, 3) := by decide +kernel
theorem d12_does_52 : decode cX12_does 52 = .ok (.ireturn, 1) := by decide +kernel
theorem d12_does_53 : decode cX12_does 53 = .ok (.iload_n 2, 1) := by decide +kernel
theorem d12_does_54 : decode cX12_does 54 = .ok (.iconst 2, 1) := by decide +kernel
theorem d12_does_55 : decode cX12_does 55 = .ok (.if_icmp .ne 17, 3) := by decide +kernel
theorem d12_does_58 : decode cX12_does 58 = .ok (.aload_n 0, 1) := by decide +kernel
theorem d12_does_59 : decode cX12_does 59 = .ok (.iload_n 3, 1) := by decide +kernel
theorem d12_does_60 : decode cX12_does 60 = .ok (.aload_n 0, 1) := by decide +kernel
theorem d12_does_61 : decode cX12_does 61 = .ok (.getfield 35, 3) := by decide +kernel
theorem d12_does_64 : decode cX12_does 64 = .ok (.iload_n 1, 1) := by decide +kernel
theorem d12_does_65 : decode cX12_does 65 = .ok (.iconst 2, 1) := by decide +kernel
theorem d12_does_66 : decode cX12_does 66 = .ok (.iadd, 1) := by decide +kernel
theorem d12_does_67 : decode cX12_does 67 = .ok (.iaload, 1) := by decide +kernel
theorem d12_does_68 : decode cX12_does 68 = .ok (.invokevirtual 349, 3) := by decide +kernel
theorem d12_does_71 : decode cX12_does 71 = .ok (.ireturn, 1) := by decide +kernel
theorem d12_does_72 : decode cX12_does 72 = .ok (.iload_n 2, 1) := by decide +kernel
theorem d12_does_73 : decode cX12_does 73 = .ok (.iconst 3, 1) := by decide +kernel
theorem d12_does_74 : decode cX12_does 74 = .ok (.if_icmp .ne 19, 3) := by decide +kernel
theorem d12_does_77 : decode cX12_does 77 = .ok (.aload_n 0, 1) := by decide +kernel
theorem d12_does_78 : decode cX12_does 78 = .ok (.iload_n 3, 1) := by decide +kernel
theorem d12_does_79 : decode cX12_does 79 = .ok (.aload_n 0, 1) := by decide +kernel
theorem d12_does_80 : decode cX12_does 80 = .ok (.getfield 35, 3) := by decide +kernel
theorem d12_does_83 : decode cX12_does 83 = .ok (.iload_n 1, 1) := by decide +kernel
theorem d12_does_84 : decode cX12_does 84 = .ok (.iconst 2, 1) := by decide +kernel
theorem d12_does_85 : decode cX12_does 85 = .ok (.iadd, 1) := by decide +kernel
theorem d12_does_86 : decode cX12_does 86 = .ok (.iaload, 1) := by decide +kernel
theorem d12_does_87 : decode cX12_does 87 = .ok (.invokevirtual 478, 3) := by decide +kernel
theorem d12_does_90 : decode cX12_does 90 = .ok (.goto 7, 3) := by decide +kernel
theorem d12_does_93 : decode cX12_does 93 = .ok (.aload_n 0, 1) := by decide +kernel
theorem d12_does_94 : decode cX12_does 94 = .ok (.invokevirtual 481, 3) := by decide +kernel
theorem d12_does_97 : decode cX12_does 97 = .ok (.ireturn, 1) := by decide +kernel
abbrev K12_does : CK Int32 := (enI, (some .boolean), 4, 6, none)
noncomputable def F12_does (N : Nat) (p0 : Int32) (σ : Ms) : Option (Int32 × Ms) :=
  ck (ixb p0 1780) (lt (σ.1 5 p0.toNatClampNeg) (fun x1 => ck (ixb (p0 + (1 : Int32)) 1780) (lt (σ.1 5 (p0 + (1 : Int32)).toNatClampNeg) (fun x2 => if x1 ≠ 0 then (if x1 ≠ (1 : Int32) then (if x1 ≠ (2 : Int32) then (if x1 ≠ (3 : Int32) then (bn (F12_isAny N σ) (fun r3 t4 => ck (nkB r3) (some (r3, t4))))
  else (ck (ixb (p0 + (2 : Int32)) 1780) (bn (F12_isGrown x2 (σ.1 5 (p0 + (2 : Int32)).toNatClampNeg) σ) (fun r5 t6 => ck (nkB r5) (some (r5, t6))))))
  else (ck (ixb (p0 + (2 : Int32)) 1780) (bn (F12_lessens x2 (σ.1 5 (p0 + (2 : Int32)).toNatClampNeg) σ) (fun r7 t8 => ck (nkB r7) (some (r7, t8))))))
  else (ck (ixb (p0 + (2 : Int32)) 1780) (bn (F12_takes x2 (σ.1 5 (p0 + (2 : Int32)).toNatClampNeg) σ) (fun r9 t10 => ck (nkB r9) (some (r9, t10))))))
  else (ck (ixb (p0 + (2 : Int32)) 1780) (bn (F12_isCut N x2 (σ.1 5 (p0 + (2 : Int32)).toNatClampNeg) σ) (fun r11 t12 => ck (nkB r11) (some (r11, t12)))))))))
set_option maxRecDepth 100000 in
theorem mc12_does (N : Nat) (p0 : Int32) (σ : Ms) : MC enI yX12_does cX12_does 4 (some .boolean) 6 (F12_does N p0 σ) σ [.ref 0, .int p0] := by
  refine MC.i (by decide +kernel) (Nat.le_of_ble_eq_true rfl) ?_
  show VF (K12_does) cX12_does RX12 (F12_does N p0 σ) σ 0 [(0, .ref 0), (1, .int p0)] []
  unfold F12_does
  refine v_aload_n d12_does_0 0 rfl rfl ?_
  refine v_getR d12_does_1 faX12_35 ic_0 rfl ?_
  refine v_iload_n d12_does_4 1 rfl rfl ?_
  refine v_iald d12_does_5 ic_5 ?_
  refine v_lti fun x1 => ?_
  refine v_istore_n (lv' := [(2, .int x1), (0, .ref 0), (1, .int p0)]) d12_does_6 rfl (by decide) rfl ?_
  refine v_aload_n d12_does_7 1 rfl rfl ?_
  refine v_getR d12_does_8 faX12_35 ic_0 rfl ?_
  refine v_iload_n d12_does_11 2 rfl rfl ?_
  refine v_iconst d12_does_12 ki_1 ?_
  refine v_iadd d12_does_13 ?_
  refine v_iald d12_does_14 ic_5 ?_
  refine v_lti fun x2 => ?_
  refine v_istore_n (lv' := [(3, .int x2), (2, .int x1), (0, .ref 0), (1, .int p0)]) d12_does_15 rfl (by decide) rfl ?_
  refine v_iload_n d12_does_16 1 rfl rfl ?_
  refine v_if_ne (tgt := 34) d12_does_17 (by decide) ?_ ?_
  · refine v_iload_n d12_does_34 1 rfl rfl ?_
    refine v_iconst d12_does_35 ki_1 ?_
    refine v_icmp_ne (tgt := 53) d12_does_36 (by decide) ?_ ?_
    · refine v_iload_n d12_does_53 1 rfl rfl ?_
      refine v_iconst d12_does_54 ki_2 ?_
      refine v_icmp_ne (tgt := 72) d12_does_55 (by decide) ?_ ?_
      · refine v_iload_n d12_does_72 1 rfl rfl ?_
        refine v_iconst d12_does_73 ki_3 ?_
        refine v_icmp_ne (tgt := 93) d12_does_74 (by decide) ?_ ?_
        · refine v_aload_n d12_does_93 2 rfl rfl ?_
          refine v_callV0i d12_does_94 (mc12_isAny N σ) yv12_isAny mlX12_481 (Recv.obj ic_0 rfl) (by decide) (Nat.le_of_ble_eq_true rfl) fun r3 t4 => ?_
          exact v_iretB d12_does_97 rfl rfl
        · refine v_aload_n d12_does_77 2 rfl rfl ?_
          refine v_iload_n d12_does_78 0 rfl rfl ?_
          refine v_aload_n d12_does_79 2 rfl rfl ?_
          refine v_getR d12_does_80 faX12_35 ic_0 rfl ?_
          refine v_iload_n d12_does_83 3 rfl rfl ?_
          refine v_iconst d12_does_84 ki_2 ?_
          refine v_iadd d12_does_85 ?_
          refine v_iald d12_does_86 ic_5 ?_
          refine v_callV2i d12_does_87 (mc12_isGrown x2 (σ.1 5 (p0 + (2 : Int32)).toNatClampNeg) σ) yv12_isGrown mlX12_478 (Recv.obj ic_0 rfl) (by decide) (Nat.le_of_ble_eq_true rfl) fun r5 t6 => ?_
          refine v_goto (tgt := 97) d12_does_90 (by decide) ?_
          exact v_iretB d12_does_97 rfl rfl
      · refine v_aload_n d12_does_58 2 rfl rfl ?_
        refine v_iload_n d12_does_59 0 rfl rfl ?_
        refine v_aload_n d12_does_60 2 rfl rfl ?_
        refine v_getR d12_does_61 faX12_35 ic_0 rfl ?_
        refine v_iload_n d12_does_64 3 rfl rfl ?_
        refine v_iconst d12_does_65 ki_2 ?_
        refine v_iadd d12_does_66 ?_
        refine v_iald d12_does_67 ic_5 ?_
        refine v_callV2i d12_does_68 (mc12_lessens x2 (σ.1 5 (p0 + (2 : Int32)).toNatClampNeg) σ) yv12_lessens mlX12_349 (Recv.obj ic_0 rfl) (by decide) (Nat.le_of_ble_eq_true rfl) fun r7 t8 => ?_
        exact v_iretB d12_does_71 rfl rfl
    · refine v_aload_n d12_does_39 2 rfl rfl ?_
      refine v_iload_n d12_does_40 0 rfl rfl ?_
      refine v_aload_n d12_does_41 2 rfl rfl ?_
      refine v_getR d12_does_42 faX12_35 ic_0 rfl ?_
      refine v_iload_n d12_does_45 3 rfl rfl ?_
      refine v_iconst d12_does_46 ki_2 ?_
      refine v_iadd d12_does_47 ?_
      refine v_iald d12_does_48 ic_5 ?_
      refine v_callV2i d12_does_49 (mc12_takes x2 (σ.1 5 (p0 + (2 : Int32)).toNatClampNeg) σ) yv12_takes mlX12_344 (Recv.obj ic_0 rfl) (by decide) (Nat.le_of_ble_eq_true rfl) fun r9 t10 => ?_
      exact v_iretB d12_does_52 rfl rfl
  · refine v_aload_n d12_does_20 2 rfl rfl ?_
    refine v_iload_n d12_does_21 0 rfl rfl ?_
    refine v_aload_n d12_does_22 2 rfl rfl ?_
    refine v_getR d12_does_23 faX12_35 ic_0 rfl ?_
    refine v_iload_n d12_does_26 3 rfl rfl ?_
    refine v_iconst d12_does_27 ki_2 ?_
    refine v_iadd d12_does_28 ?_
    refine v_iald d12_does_29 ic_5 ?_
    refine v_callV2i d12_does_30 (mc12_isCut N x2 (σ.1 5 (p0 + (2 : Int32)).toNatClampNeg) σ) yv12_isCut mlX12_475 (Recv.obj ic_0 rfl) (by decide) (Nat.le_of_ble_eq_true rfl) fun r11 t12 => ?_
    exact v_iretB d12_does_33 rfl rfl
theorem d12_holds_0 : decode cX12_holds 0 = .ok (.aload_n 0, 1) := by decide +kernel
theorem d12_holds_1 : decode cX12_holds 1 = .ok (.getfield 35, 3) := by decide +kernel
theorem d12_holds_4 : decode cX12_holds 4 = .ok (.iload_n 1, 1) := by decide +kernel
theorem d12_holds_5 : decode cX12_holds 5 = .ok (.iconst 5, 1) := by decide +kernel
theorem d12_holds_6 : decode cX12_holds 6 = .ok (.iadd, 1) := by decide +kernel
theorem d12_holds_7 : decode cX12_holds 7 = .ok (.iaload, 1) := by decide +kernel
theorem d12_holds_8 : decode cX12_holds 8 = .ok (.istore_n 2, 1) := by decide +kernel
theorem d12_holds_9 : decode cX12_holds 9 = .ok (.aload_n 0, 1) := by decide +kernel
theorem d12_holds_10 : decode cX12_holds 10 = .ok (.getfield 35, 3) := by decide +kernel
theorem d12_holds_13 : decode cX12_holds 13 = .ok (.iload_n 1, 1) := by decide +kernel
theorem d12_holds_14 : decode cX12_holds 14 = .ok (.iconst 1, 1) := by decide +kernel
theorem d12_holds_15 : decode cX12_holds 15 = .ok (.iadd, 1) := by decide +kernel
theorem d12_holds_16 : decode cX12_holds 16 = .ok (.iaload, 1) := by decide +kernel
theorem d12_holds_17 : decode cX12_holds 17 = .ok (.istore_n 3, 1) := by decide +kernel
theorem d12_holds_18 : decode cX12_holds 18 = .ok (.iload_n 2, 1) := by decide +kernel
theorem d12_holds_19 : decode cX12_holds 19 = .ok (.ifCond .ne 30, 3) := by decide +kernel
theorem d12_holds_22 : decode cX12_holds 22 = .ok (.aload_n 0, 1) := by decide +kernel
theorem d12_holds_23 : decode cX12_holds 23 = .ok (.iload_n 3, 1) := by decide +kernel
theorem d12_holds_24 : decode cX12_holds 24 = .ok (.invokevirtual 280, 3) := by decide +kernel
theorem d12_holds_27 : decode cX12_holds 27 = .ok (.ifCond .eq 20, 3) := by decide +kernel
theorem d12_holds_30 : decode cX12_holds 30 = .ok (.aload_n 0, 1) := by decide +kernel
theorem d12_holds_31 : decode cX12_holds 31 = .ok (.getfield 35, 3) := by decide +kernel
theorem d12_holds_34 : decode cX12_holds 34 = .ok (.bipush 45, 2) := by decide +kernel
theorem d12_holds_36 : decode cX12_holds 36 = .ok (.iload_n 3, 1) := by decide +kernel
theorem d12_holds_37 : decode cX12_holds 37 = .ok (.iadd, 1) := by decide +kernel
theorem d12_holds_38 : decode cX12_holds 38 = .ok (.iaload, 1) := by decide +kernel
theorem d12_holds_39 : decode cX12_holds 39 = .ok (.iconst 1, 1) := by decide +kernel
theorem d12_holds_40 : decode cX12_holds 40 = .ok (.if_icmp .ne 7, 3) := by decide +kernel
theorem d12_holds_43 : decode cX12_holds 43 = .ok (.iconst 1, 1) := by decide +kernel
theorem d12_holds_44 : decode cX12_holds 44 = .ok (.goto 4, 3) := by decide +kernel
theorem d12_holds_47 : decode cX12_holds 47 = .ok (.iconst 0, 1) := by decide +kernel
theorem d12_holds_48 : decode cX12_holds 48 = .ok (.ireturn, 1) := by decide +kernel
theorem d12_holds_49 : decode cX12_holds 49 = .ok (.iload_n 2, 1) := by decide +kernel
theorem d12_holds_50 : decode cX12_holds 50 = .ok (.iconst 3, 1) := by decide +kernel
theorem d12_holds_51 : decode cX12_holds 51 = .ok (.if_icmp .ne 18, 3) := by decide +kernel
theorem d12_holds_54 : decode cX12_holds 54 = .ok (.aload_n 0, 1) := by decide +kernel
theorem d12_holds_55 : decode cX12_holds 55 = .ok (.iload_n 3, 1) := by decide +kernel
theorem d12_holds_56 : decode cX12_holds 56 = .ok (.invokevirtual 379, 3) := by decide +kernel
theorem d12_holds_59 : decode cX12_holds 59 = .ok (.iload_n 3, 1) := by decide +kernel
theorem d12_holds_60 : decode cX12_holds 60 = .ok (.if_icmp .ne 7, 3) := by decide +kernel
theorem d12_holds_63 : decode cX12_holds 63 = .ok (.iconst 1, 1) := by decide +kernel
theorem d12_holds_64 : decode cX12_holds 64 = .ok (.goto 4, 3) := by decide +kernel
theorem d12_holds_67 : decode cX12_holds 67 = .ok (.iconst 0, 1) := by decide +kernel
theorem d12_holds_68 : decode cX12_holds 68 = .ok (.ireturn, 1) := by decide +kernel
theorem d12_holds_69 : decode cX12_holds 69 = .ok (.aload_n 0, 1) := by decide +kernel
theorem d12_holds_70 : decode cX12_holds 70 = .ok (.invokevirtual 324, 3) := by decide +kernel
theorem d12_holds_73 : decode cX12_holds 73 = .ok (.iload_n 2, 1) := by decide +kernel
theorem d12_holds_74 : decode cX12_holds 74 = .ok (.iconst 1, 1) := by decide +kernel
theorem d12_holds_75 : decode cX12_holds 75 = .ok (.if_icmp .ne 10, 3) := by decide +kernel
theorem d12_holds_78 : decode cX12_holds 78 = .ok (.aload_n 0, 1) := by decide +kernel
theorem d12_holds_79 : decode cX12_holds 79 = .ok (.getfield 312, 3) := by decide +kernel
theorem d12_holds_82 : decode cX12_holds 82 = .ok (.goto 8, 3) := by decide +kernel
theorem d12_holds_85 : decode cX12_holds 85 = .ok (.aload_n 0, 1) := by decide +kernel
theorem d12_holds_86 : decode cX12_holds 86 = .ok (.getfield 315, 3) := by decide +kernel
theorem d12_holds_89 : decode cX12_holds 89 = .ok (.i2l, 1) := by decide +kernel
theorem d12_holds_90 : decode cX12_holds 90 = .ok (.lstore 4, 2) := by decide +kernel
theorem d12_holds_92 : decode cX12_holds 92 = .ok (.iload_n 2, 1) := by decide +kernel
theorem d12_holds_93 : decode cX12_holds 93 = .ok (.iconst 1, 1) := by decide +kernel
theorem d12_holds_94 : decode cX12_holds 94 = .ok (.if_icmp .ne 20, 3) := by decide +kernel
theorem d12_holds_97 : decode cX12_holds 97 = .ok (.aload_n 0, 1) := by decide +kernel
theorem d12_holds_98 : decode cX12_holds 98 = .ok (.getfield 35, 3) := by decide +kernel
theorem d12_holds_101 : decode cX12_holds 101 = .ok (.iload_n 1, 1) := by decide +kernel
theorem d12_holds_102 : decode cX12_holds 102 = .ok (.bipush 6, 2) := by decide +kernel
theorem d12_holds_104 : decode cX12_holds 104 = .ok (.iadd, 1) := by decide +kernel
theorem d12_holds_105 : decode cX12_holds 105 = .ok (.iaload, 1) := by decide +kernel
theorem d12_holds_106 : decode cX12_holds 106 = .ok (.i2l, 1) := by decide +kernel
theorem d12_holds_107 : decode cX12_holds 107 = .ok (.ldc2_w 307, 3) := by decide +kernel
theorem d12_holds_110 : decode cX12_holds 110 = .ok (.lmul, 1) := by decide +kernel
theorem d12_holds_111 : decode cX12_holds 111 = .ok (.goto 13, 3) := by decide +kernel
theorem d12_holds_114 : decode cX12_holds 114 = .ok (.aload_n 0, 1) := by decide +kernel
theorem d12_holds_115 : decode cX12_holds 115 = .ok (.getfield 35, 3) := by decide +kernel
theorem d12_holds_118 : decode cX12_holds 118 = .ok (.iload_n 1, 1) := by decide +kernel
theorem d12_holds_119 : decode cX12_holds 119 = .ok (.bipush 6, 2) := by decide +kernel
theorem d12_holds_121 : decode cX12_holds 121 = .ok (.iadd, 1) := by decide +kernel
theorem d12_holds_122 : decode cX12_holds 122 = .ok (.iaload, 1) := by decide +kernel
theorem d12_holds_123 : decode cX12_holds 123 = .ok (.i2l, 1) := by decide +kernel
theorem d12_holds_124 : decode cX12_holds 124 = .ok (.lstore 6, 2) := by decide +kernel
theorem d12_holds_126 : decode cX12_holds 126 = .ok (.aload_n 0, 1) := by decide +kernel
theorem d12_holds_127 : decode cX12_holds 127 = .ok (.getfield 35, 3) := by decide +kernel
theorem d12_holds_130 : decode cX12_holds 130 = .ok (.iload_n 1, 1) := by decide +kernel
theorem d12_holds_131 : decode cX12_holds 131 = .ok (.bipush 7, 2) := by decide +kernel
theorem d12_holds_133 : decode cX12_holds 133 = .ok (.iadd, 1) := by decide +kernel
theorem d12_holds_134 : decode cX12_holds 134 = .ok (.iaload, 1) := by decide +kernel
theorem d12_holds_135 : decode cX12_holds 135 = .ok (.bipush 60, 2) := by decide +kernel
theorem d12_holds_137 : decode cX12_holds 137 = .ok (.if_icmp .ne 19, 3) := by decide +kernel
theorem d12_holds_140 : decode cX12_holds 140 = .ok (.lload 4, 2) := by decide +kernel
theorem d12_holds_142 : decode cX12_holds 142 = .ok (.lload 6, 2) := by decide +kernel
theorem d12_holds_144 : decode cX12_holds 144 = .ok (.lcmp, 1) := by decide +kernel
theorem d12_holds_145 : decode cX12_holds 145 = .ok (.ifCond .ge 7, 3) := by decide +kernel
theorem d12_holds_148 : decode cX12_holds 148 = .ok (.iconst 1, 1) := by decide +kernel
theorem d12_holds_149 : decode cX12_holds 149 = .ok (.goto 50, 3) := by decide +kernel
theorem d12_holds_152 : decode cX12_holds 152 = .ok (.iconst 0, 1) := by decide +kernel
theorem d12_holds_153 : decode cX12_holds 153 = .ok (.goto 46, 3) := by decide +kernel
theorem d12_holds_156 : decode cX12_holds 156 = .ok (.aload_n 0, 1) := by decide +kernel
theorem d12_holds_157 : decode cX12_holds 157 = .ok (.getfield 35, 3) := by decide +kernel
theorem d12_holds_160 : decode cX12_holds 160 = .ok (.iload_n 1, 1) := by decide +kernel
theorem d12_holds_161 : decode cX12_holds 161 = .ok (.bipush 7, 2) := by decide +kernel
theorem d12_holds_163 : decode cX12_holds 163 = .ok (.iadd, 1) := by decide +kernel
theorem d12_holds_164 : decode cX12_holds 164 = .ok (.iaload, 1) := by decide +kernel
theorem d12_holds_165 : decode cX12_holds 165 = .ok (.bipush 62, 2) := by decide +kernel
theorem d12_holds_167 : decode cX12_holds 167 = .ok (.if_icmp .ne 19, 3) := by decide +kernel
theorem d12_holds_170 : decode cX12_holds 170 = .ok (.lload 4, 2) := by decide +kernel
theorem d12_holds_172 : decode cX12_holds 172 = .ok (.lload 6, 2) := by decide +kernel
theorem d12_holds_174 : decode cX12_holds 174 = .ok (.lcmp, 1) := by decide +kernel
theorem d12_holds_175 : decode cX12_holds 175 = .ok (.ifCond .le 7, 3) := by decide +kernel
theorem d12_holds_178 : decode cX12_holds 178 = .ok (.iconst 1, 1) := by decide +kernel
theorem d12_holds_179 : decode cX12_holds 179 = .ok (.goto 20, 3) := by decide +kernel
theorem d12_holds_182 : decode cX12_holds 182 = .ok (.iconst 0, 1) := by decide +kernel
theorem d12_holds_183 : decode cX12_holds 183 = .ok (.goto 16, 3) := by decide +kernel
theorem d12_holds_186 : decode cX12_holds 186 = .ok (.lload 4, 2) := by decide +kernel
theorem d12_holds_188 : decode cX12_holds 188 = .ok (.lload 6, 2) := by decide +kernel
theorem d12_holds_190 : decode cX12_holds 190 = .ok (.lcmp, 1) := by decide +kernel
theorem d12_holds_191 : decode cX12_holds 191 = .ok (.ifCond .ne 7, 3) := by decide +kernel
theorem d12_holds_194 : decode cX12_holds 194 = .ok (.iconst 1, 1) := by decide +kernel
theorem d12_holds_195 : decode cX12_holds 195 = .ok (.goto 4, 3) := by decide +kernel
theorem d12_holds_198 : decode cX12_holds 198 = .ok (.iconst 0, 1) := by decide +kernel
theorem d12_holds_199 : decode cX12_holds 199 = .ok (.ireturn, 1) := by decide +kernel
abbrev K12_holds : CK Int32 := (enI, (some .boolean), 8, 6, none)
noncomputable def F12_holds_b124 (N : Nat) (l1 : Int32) (l4 : Int64) (s0 : Int64) (σ : Ms) : Option (Int32 × Ms) :=
  ck (ixb (l1 + (7 : Int32)) 1780) (if (σ.1 5 (l1 + (7 : Int32)).toNatClampNeg) ≠ (60 : Int32) then (ck (ixb (l1 + (7 : Int32)) 1780) (if (σ.1 5 (l1 + (7 : Int32)).toNatClampNeg) ≠ (62 : Int32) then (if (lg_cmp l4 s0) ≠ 0 then (some ((0 : Int32), σ))
  else (some ((1 : Int32), σ)))
  else (if (lg_cmp l4 s0) ≤ 0 then (some ((0 : Int32), σ))
  else (some ((1 : Int32), σ)))))
  else (if 0 ≤ (lg_cmp l4 s0) then (some ((0 : Int32), σ))
  else (some ((1 : Int32), σ))))
noncomputable def F12_holds_b90 (N : Nat) (l1 : Int32) (l2 : Int32) (s0 : Int64) (σ : Ms) : Option (Int32 × Ms) :=
  if l2 ≠ (1 : Int32) then (ck (ixb (l1 + (6 : Int32)) 1780) (F12_holds_b124 N l1 s0 ((σ.1 5 (l1 + (6 : Int32)).toNatClampNeg).toInt64) σ))
  else (ck (ixb (l1 + (6 : Int32)) 1780) (F12_holds_b124 N l1 s0 (((σ.1 5 (l1 + (6 : Int32)).toNatClampNeg).toInt64) * (1048576 : Int64)) σ))
noncomputable def F12_holds (N : Nat) (p0 : Int32) (σ : Ms) : Option (Int32 × Ms) :=
  ck (ixb (p0 + (5 : Int32)) 1780) (lt (σ.1 5 (p0 + (5 : Int32)).toNatClampNeg) (fun x1 => ck (ixb (p0 + (1 : Int32)) 1780) (lt (σ.1 5 (p0 + (1 : Int32)).toNatClampNeg) (fun x2 => if x1 ≠ 0 then (if x1 ≠ (3 : Int32) then (bn (F12_laysNow N σ) (fun r3 t4 => if x1 ≠ (1 : Int32) then (F12_holds_b90 N p0 x1 ((t4.1 0 26).toInt64) t4)
  else (F12_holds_b90 N p0 x1 (t4.2 0 25) t4)))
  else (bn (F12_winnerNow N x2 σ) (fun r5 t6 => if r5 ≠ x2 then (some ((0 : Int32), t6))
  else (some ((1 : Int32), t6)))))
  else (bn (F12_isSprigAt x2 σ) (fun r7 t8 => if r7 = 0 then (some ((0 : Int32), t8))
  else (ck (ixb ((45 : Int32) + x2) 1780) (if (t8.1 5 ((45 : Int32) + x2).toNatClampNeg) ≠ (1 : Int32) then (some ((0 : Int32), t8))
  else (some ((1 : Int32), t8))))))))))
set_option maxRecDepth 100000 in
theorem v12_holds_b124 (N : Nat) (l1 : Int32) (l4 : Int64) (s0 : Int64) (σ : Ms) : VF (K12_holds) cX12_holds RX12 (F12_holds_b124 N l1 l4 s0 σ) σ 124 [(0, .ref 0), (1, .int l1), (4, .long l4)] [.long s0] := by
  unfold F12_holds_b124
  refine v_lstore (lv' := [(6, .long s0), (0, .ref 0), (1, .int l1), (4, .long l4)]) d12_holds_124 (by decide) rfl ?_
  refine v_aload_n d12_holds_126 1 rfl rfl ?_
  refine v_getR d12_holds_127 faX12_35 ic_0 rfl ?_
  refine v_iload_n d12_holds_130 2 rfl rfl ?_
  refine v_bipush d12_holds_131 kb_7 ?_
  refine v_iadd d12_holds_133 ?_
  refine v_iald d12_holds_134 ic_5 ?_
  refine v_bipush d12_holds_135 kb_60 ?_
  refine v_icmp_ne (tgt := 156) d12_holds_137 (by decide) ?_ ?_
  · refine v_aload_n d12_holds_156 1 rfl rfl ?_
    refine v_getR d12_holds_157 faX12_35 ic_0 rfl ?_
    refine v_iload_n d12_holds_160 2 rfl rfl ?_
    refine v_bipush d12_holds_161 kb_7 ?_
    refine v_iadd d12_holds_163 ?_
    refine v_iald d12_holds_164 ic_5 ?_
    refine v_bipush d12_holds_165 kb_62 ?_
    refine v_icmp_ne (tgt := 186) d12_holds_167 (by decide) ?_ ?_
    · refine v_lload d12_holds_186 3 rfl ?_
      refine v_lload d12_holds_188 0 rfl ?_
      refine v_lcmp d12_holds_190 ?_
      refine v_if_ne (tgt := 198) d12_holds_191 (by decide) ?_ ?_
      · refine v_iconst d12_holds_198 ki_0 ?_
        exact v_iret (ty := .boolean) d12_holds_199 rfl rfl rfl
      · refine v_iconst d12_holds_194 ki_1 ?_
        refine v_goto (tgt := 199) d12_holds_195 (by decide) ?_
        exact v_iret (ty := .boolean) d12_holds_199 rfl rfl rfl
    · refine v_lload d12_holds_170 3 rfl ?_
      refine v_lload d12_holds_172 0 rfl ?_
      refine v_lcmp d12_holds_174 ?_
      refine v_if_le (tgt := 182) d12_holds_175 (by decide) ?_ ?_
      · refine v_iconst d12_holds_182 ki_0 ?_
        refine v_goto (tgt := 199) d12_holds_183 (by decide) ?_
        exact v_iret (ty := .boolean) d12_holds_199 rfl rfl rfl
      · refine v_iconst d12_holds_178 ki_1 ?_
        refine v_goto (tgt := 199) d12_holds_179 (by decide) ?_
        exact v_iret (ty := .boolean) d12_holds_199 rfl rfl rfl
  · refine v_lload d12_holds_140 3 rfl ?_
    refine v_lload d12_holds_142 0 rfl ?_
    refine v_lcmp d12_holds_144 ?_
    refine v_if_ge (tgt := 152) d12_holds_145 (by decide) ?_ ?_
    · refine v_iconst d12_holds_152 ki_0 ?_
      refine v_goto (tgt := 199) d12_holds_153 (by decide) ?_
      exact v_iret (ty := .boolean) d12_holds_199 rfl rfl rfl
    · refine v_iconst d12_holds_148 ki_1 ?_
      refine v_goto (tgt := 199) d12_holds_149 (by decide) ?_
      exact v_iret (ty := .boolean) d12_holds_199 rfl rfl rfl
set_option maxRecDepth 100000 in
theorem v12_holds_b90 (N : Nat) (l1 : Int32) (l2 : Int32) (s0 : Int64) (σ : Ms) : VF (K12_holds) cX12_holds RX12 (F12_holds_b90 N l1 l2 s0 σ) σ 90 [(0, .ref 0), (1, .int l1), (2, .int l2)] [.long s0] := by
  unfold F12_holds_b90
  refine v_lstore (lv' := [(4, .long s0), (0, .ref 0), (1, .int l1), (2, .int l2)]) d12_holds_90 (by decide) rfl ?_
  refine v_iload_n d12_holds_92 3 rfl rfl ?_
  refine v_iconst d12_holds_93 ki_1 ?_
  refine v_icmp_ne (tgt := 114) d12_holds_94 (by decide) ?_ ?_
  · refine v_aload_n d12_holds_114 1 rfl rfl ?_
    refine v_getR d12_holds_115 faX12_35 ic_0 rfl ?_
    refine v_iload_n d12_holds_118 2 rfl rfl ?_
    refine v_bipush d12_holds_119 kb_6 ?_
    refine v_iadd d12_holds_121 ?_
    refine v_iald d12_holds_122 ic_5 ?_
    refine v_i2l d12_holds_123 ?_
    refine v_sub [1, 2, 0] rfl ?_
    exact v12_holds_b124 N l1 s0 ((σ.1 5 (l1 + (6 : Int32)).toNatClampNeg).toInt64) σ
  · refine v_aload_n d12_holds_97 1 rfl rfl ?_
    refine v_getR d12_holds_98 faX12_35 ic_0 rfl ?_
    refine v_iload_n d12_holds_101 2 rfl rfl ?_
    refine v_bipush d12_holds_102 kb_6 ?_
    refine v_iadd d12_holds_104 ?_
    refine v_iald d12_holds_105 ic_5 ?_
    refine v_i2l d12_holds_106 ?_
    refine v_ldc2 d12_holds_107 klX12_307 ?_
    refine v_lmul d12_holds_110 ?_
    refine v_goto (tgt := 124) d12_holds_111 (by decide) ?_
    refine v_sub [1, 2, 0] rfl ?_
    exact v12_holds_b124 N l1 s0 (((σ.1 5 (l1 + (6 : Int32)).toNatClampNeg).toInt64) * (1048576 : Int64)) σ
set_option maxRecDepth 100000 in
theorem mc12_holds (N : Nat) (p0 : Int32) (σ : Ms) : MC enI yX12_holds cX12_holds 8 (some .boolean) 6 (F12_holds N p0 σ) σ [.ref 0, .int p0] := by
  refine MC.i (by decide +kernel) (Nat.le_of_ble_eq_true rfl) ?_
  show VF (K12_holds) cX12_holds RX12 (F12_holds N p0 σ) σ 0 [(0, .ref 0), (1, .int p0)] []
  unfold F12_holds
  refine v_aload_n d12_holds_0 0 rfl rfl ?_
  refine v_getR d12_holds_1 faX12_35 ic_0 rfl ?_
  refine v_iload_n d12_holds_4 1 rfl rfl ?_
  refine v_iconst d12_holds_5 ki_5 ?_
  refine v_iadd d12_holds_6 ?_
  refine v_iald d12_holds_7 ic_5 ?_
  refine v_lti fun x1 => ?_
  refine v_istore_n (lv' := [(2, .int x1), (0, .ref 0), (1, .int p0)]) d12_holds_8 rfl (by decide) rfl ?_
  refine v_aload_n d12_holds_9 1 rfl rfl ?_
  refine v_getR d12_holds_10 faX12_35 ic_0 rfl ?_
  refine v_iload_n d12_holds_13 2 rfl rfl ?_
  refine v_iconst d12_holds_14 ki_1 ?_
  refine v_iadd d12_holds_15 ?_
  refine v_iald d12_holds_16 ic_5 ?_
  refine v_lti fun x2 => ?_
  refine v_istore_n (lv' := [(3, .int x2), (2, .int x1), (0, .ref 0), (1, .int p0)]) d12_holds_17 rfl (by decide) rfl ?_
  refine v_iload_n d12_holds_18 1 rfl rfl ?_
  refine v_if_ne (tgt := 49) d12_holds_19 (by decide) ?_ ?_
  · refine v_iload_n d12_holds_49 1 rfl rfl ?_
    refine v_iconst d12_holds_50 ki_3 ?_
    refine v_icmp_ne (tgt := 69) d12_holds_51 (by decide) ?_ ?_
    · refine v_aload_n d12_holds_69 2 rfl rfl ?_
      refine v_callV0v d12_holds_70 (mc12_laysNow N σ) yv12_laysNow mlX12_324 (Recv.obj ic_0 rfl) (by decide) (Nat.le_of_ble_eq_true rfl) fun r3 t4 => ?_
      refine v_iload_n d12_holds_73 1 rfl rfl ?_
      refine v_iconst d12_holds_74 ki_1 ?_
      refine v_icmp_ne (tgt := 85) d12_holds_75 (by decide) ?_ ?_
      · refine v_aload_n d12_holds_85 2 rfl rfl ?_
        refine v_getI d12_holds_86 faX12_315 ic_0 ?_
        refine v_i2l d12_holds_89 ?_
        refine v_sub [2, 3, 1] rfl ?_
        exact v12_holds_b90 N p0 x1 ((t4.1 0 26).toInt64) t4
      · refine v_aload_n d12_holds_78 2 rfl rfl ?_
        refine v_getL d12_holds_79 faX12_312 ic_0 ?_
        refine v_goto (tgt := 90) d12_holds_82 (by decide) ?_
        refine v_sub [2, 3, 1] rfl ?_
        exact v12_holds_b90 N p0 x1 (t4.2 0 25) t4
    · refine v_aload_n d12_holds_54 2 rfl rfl ?_
      refine v_iload_n d12_holds_55 0 rfl rfl ?_
      refine v_callV1i d12_holds_56 (mc12_winnerNow N x2 σ) yv12_winnerNow mlX12_379 (Recv.obj ic_0 rfl) (by decide) (Nat.le_of_ble_eq_true rfl) fun r5 t6 => ?_
      refine v_iload_n d12_holds_59 0 rfl rfl ?_
      refine v_icmp_ne (tgt := 67) d12_holds_60 (by decide) ?_ ?_
      · refine v_iconst d12_holds_67 ki_0 ?_
        exact v_iret (ty := .boolean) d12_holds_68 rfl rfl rfl
      · refine v_iconst d12_holds_63 ki_1 ?_
        refine v_goto (tgt := 68) d12_holds_64 (by decide) ?_
        exact v_iret (ty := .boolean) d12_holds_68 rfl rfl rfl
  · refine v_aload_n d12_holds_22 2 rfl rfl ?_
    refine v_iload_n d12_holds_23 0 rfl rfl ?_
    refine v_callV1i d12_holds_24 (mc12_isSprigAt x2 σ) yv12_isSprigAt mlX12_280 (Recv.obj ic_0 rfl) (by decide) (Nat.le_of_ble_eq_true rfl) fun r7 t8 => ?_
    refine v_if_eq (tgt := 47) d12_holds_27 (by decide) ?_ ?_
    · refine v_iconst d12_holds_47 ki_0 ?_
      exact v_iret (ty := .boolean) d12_holds_48 rfl rfl rfl
    · refine v_aload_n d12_holds_30 2 rfl rfl ?_
      refine v_getR d12_holds_31 faX12_35 ic_0 rfl ?_
      refine v_bipush d12_holds_34 kb_45 ?_
      refine v_iload_n d12_holds_36 0 rfl rfl ?_
      refine v_iadd d12_holds_37 ?_
      refine v_iald d12_holds_38 ic_5 ?_
      refine v_iconst d12_holds_39 ki_1 ?_
      refine v_icmp_ne (tgt := 47) d12_holds_40 (by decide) ?_ ?_
      · refine v_iconst d12_holds_47 ki_0 ?_
        exact v_iret (ty := .boolean) d12_holds_48 rfl rfl rfl
      · refine v_iconst d12_holds_43 ki_1 ?_
        refine v_goto (tgt := 48) d12_holds_44 (by decide) ?_
        exact v_iret (ty := .boolean) d12_holds_48 rfl rfl rfl
theorem d12_doOne_0 : decode cX12_doOne 0 = .ok (.aload_n 0, 1) := by decide +kernel
theorem d12_doOne_1 : decode cX12_doOne 1 = .ok (.getfield 484, 3) := by decide +kernel
theorem d12_doOne_4 : decode cX12_doOne 4 = .ok (.sipush 300, 3) := by decide +kernel
theorem d12_doOne_7 : decode cX12_doOne 7 = .ok (.if_icmp .ne 14, 3) := by decide +kernel
theorem d12_doOne_10 : decode cX12_doOne 10 = .ok (.aload_n 0, 1) := by decide +kernel
theorem d12_doOne_11 : decode cX12_doOne 11 = .ok (.iconst 1, 1) := by decide +kernel
theorem d12_doOne_12 : decode cX12_doOne 12 = .ok (.putfield 487, 3) := by decide +kernel
theorem d12_doOne_15 : decode cX12_doOne 15 = .ok (.aload_n 0, 1) := by decide +kernel
theorem d12_doOne_16 : decode cX12_doOne 16 = .ok (.iconst 1, 1) := by decide +kernel
theorem d12_doOne_17 : decode cX12_doOne 17 = .ok (.putfield 491, 3) := by decide +kernel
theorem d12_doOne_20 : decode cX12_doOne 20 = .ok (.return_, 1) := by decide +kernel
theorem d12_doOne_21 : decode cX12_doOne 21 = .ok (.aload_n 0, 1) := by decide +kernel
theorem d12_doOne_22 : decode cX12_doOne 22 = .ok (.dup, 1) := by decide +kernel
theorem d12_doOne_23 : decode cX12_doOne 23 = .ok (.getfield 484, 3) := by decide +kernel
theorem d12_doOne_26 : decode cX12_doOne 26 = .ok (.iconst 1, 1) := by decide +kernel
theorem d12_doOne_27 : decode cX12_doOne 27 = .ok (.iadd, 1) := by decide +kernel
theorem d12_doOne_28 : decode cX12_doOne 28 = .ok (.putfield 484, 3) := by decide +kernel
theorem d12_doOne_31 : decode cX12_doOne 31 = .ok (.bipush 86, 2) := by decide +kernel
theorem d12_doOne_33 : decode cX12_doOne 33 = .ok (.bipush 9, 2) := by decide +kernel
theorem d12_doOne_35 : decode cX12_doOne 35 = .ok (.iload_n 1, 1) := by decide +kernel
theorem d12_doOne_36 : decode cX12_doOne 36 = .ok (.imul, 1) := by decide +kernel
theorem d12_doOne_37 : decode cX12_doOne 37 = .ok (.iadd, 1) := by decide +kernel
theorem d12_doOne_38 : decode cX12_doOne 38 = .ok (.istore_n 2, 1) := by decide +kernel
theorem d12_doOne_39 : decode cX12_doOne 39 = .ok (.aload_n 0, 1) := by decide +kernel
theorem d12_doOne_40 : decode cX12_doOne 40 = .ok (.getfield 35, 3) := by decide +kernel
theorem d12_doOne_43 : decode cX12_doOne 43 = .ok (.iload_n 2, 1) := by decide +kernel
theorem d12_doOne_44 : decode cX12_doOne 44 = .ok (.iaload, 1) := by decide +kernel
theorem d12_doOne_45 : decode cX12_doOne 45 = .ok (.istore_n 3, 1) := by decide +kernel
theorem d12_doOne_46 : decode cX12_doOne 46 = .ok (.iload_n 3, 1) := by decide +kernel
theorem d12_doOne_47 : decode cX12_doOne 47 = .ok (.iconst 5, 1) := by decide +kernel
theorem d12_doOne_48 : decode cX12_doOne 48 = .ok (.if_icmp .ge 28, 3) := by decide +kernel
theorem d12_doOne_51 : decode cX12_doOne 51 = .ok (.aload_n 0, 1) := by decide +kernel
theorem d12_doOne_52 : decode cX12_doOne 52 = .ok (.dup, 1) := by decide +kernel
theorem d12_doOne_53 : decode cX12_doOne 53 = .ok (.getfield 494, 3) := by decide +kernel
theorem d12_doOne_56 : decode cX12_doOne 56 = .ok (.aload_n 0, 1) := by decide +kernel
theorem d12_doOne_57 : decode cX12_doOne 57 = .ok (.iload_n 2, 1) := by decide +kernel
theorem d12_doOne_58 : decode cX12_doOne 58 = .ok (.invokevirtual 497, 3) := by decide +kernel
theorem d12_doOne_61 : decode cX12_doOne 61 = .ok (.ifCond .eq 7, 3) := by decide +kernel
theorem d12_doOne_64 : decode cX12_doOne 64 = .ok (.iconst 0, 1) := by decide +kernel
theorem d12_doOne_65 : decode cX12_doOne 65 = .ok (.goto 4, 3) := by decide +kernel
theorem d12_doOne_68 : decode cX12_doOne 68 = .ok (.iconst 1, 1) := by decide +kernel
theorem d12_doOne_69 : decode cX12_doOne 69 = .ok (.iadd, 1) := by decide +kernel
theorem d12_doOne_70 : decode cX12_doOne 70 = .ok (.putfield 494, 3) := by decide +kernel
theorem d12_doOne_73 : decode cX12_doOne 73 = .ok (.goto 100, 3) := by decide +kernel
theorem d12_doOne_76 : decode cX12_doOne 76 = .ok (.iload_n 3, 1) := by decide +kernel
theorem d12_doOne_77 : decode cX12_doOne 77 = .ok (.iconst 5, 1) := by decide +kernel
theorem d12_doOne_78 : decode cX12_doOne 78 = .ok (.if_icmp .ne 30, 3) := by decide +kernel
theorem d12_doOne_81 : decode cX12_doOne 81 = .ok (.aload_n 0, 1) := by decide +kernel
theorem d12_doOne_82 : decode cX12_doOne 82 = .ok (.iload_n 2, 1) := by decide +kernel
theorem d12_doOne_83 : decode cX12_doOne 83 = .ok (.invokevirtual 500, 3) := by decide +kernel
theorem d12_doOne_86 : decode cX12_doOne 86 = .ok (.ifCond .eq 22, 3) := by decide +kernel
theorem d12_doOne_89 : decode cX12_doOne 89 = .ok (.aload_n 0, 1) := by decide +kernel
theorem d12_doOne_90 : decode cX12_doOne 90 = .ok (.iload_n 1, 1) := by decide +kernel
theorem d12_doOne_91 : decode cX12_doOne 91 = .ok (.iconst 1, 1) := by decide +kernel
theorem d12_doOne_92 : decode cX12_doOne 92 = .ok (.iadd, 1) := by decide +kernel
theorem d12_doOne_93 : decode cX12_doOne 93 = .ok (.aload_n 0, 1) := by decide +kernel
theorem d12_doOne_94 : decode cX12_doOne 94 = .ok (.getfield 35, 3) := by decide +kernel
theorem d12_doOne_97 : decode cX12_doOne 97 = .ok (.iload_n 2, 1) := by decide +kernel
theorem d12_doOne_98 : decode cX12_doOne 98 = .ok (.bipush 8, 2) := by decide +kernel
theorem d12_doOne_100 : decode cX12_doOne 100 = .ok (.iadd, 1) := by decide +kernel
theorem d12_doOne_101 : decode cX12_doOne 101 = .ok (.iaload, 1) := by decide +kernel
theorem d12_doOne_102 : decode cX12_doOne 102 = .ok (.invokevirtual 503, 3) := by decide +kernel
theorem d12_doOne_105 : decode cX12_doOne 105 = .ok (.goto 68, 3) := by decide +kernel
theorem d12_doOne_108 : decode cX12_doOne 108 = .ok (.iload_n 3, 1) := by decide +kernel
theorem d12_doOne_109 : decode cX12_doOne 109 = .ok (.bipush 6, 2) := by decide +kernel
theorem d12_doOne_111 : decode cX12_doOne 111 = .ok (.if_icmp .ne 51, 3) := by decide +kernel
theorem d12_doOne_114 : decode cX12_doOne 114 = .ok (.iconst 0, 1) := by decide +kernel
theorem d12_doOne_115 : decode cX12_doOne 115 = .ok (.istore 4, 2) := by decide +kernel
theorem d12_doOne_117 : decode cX12_doOne 117 = .ok (.iload 4, 2) := by decide +kernel
theorem d12_doOne_119 : decode cX12_doOne 119 = .ok (.aload_n 0, 1) := by decide +kernel
theorem d12_doOne_120 : decode cX12_doOne 120 = .ok (.getfield 35, 3) := by decide +kernel
theorem d12_doOne_123 : decode cX12_doOne 123 = .ok (.iload_n 2, 1) := by decide +kernel
theorem d12_doOne_124 : decode cX12_doOne 124 = .ok (.iconst 1, 1) := by decide +kernel
theorem d12_doOne_125 : decode cX12_doOne 125 = .ok (.iadd, 1) := by decide +kernel
theorem d12_doOne_126 : decode cX12_doOne 126 = .ok (.iaload, 1) := by decide +kernel
theorem d12_doOne_127 : decode cX12_doOne 127 = .ok (.if_icmp .ge 32, 3) := by decide +kernel
theorem d12_doOne_130 : decode cX12_doOne 130 = .ok (.aload_n 0, 1) := by decide +kernel
theorem d12_doOne_131 : decode cX12_doOne 131 = .ok (.getfield 487, 3) := by decide +kernel
theorem d12_doOne_134 : decode cX12_doOne 134 = .ok (.ifCond .ne 25, 3) := by decide +kernel
theorem d12_doOne_137 : decode cX12_doOne 137 = .ok (.aload_n 0, 1) := by decide +kernel
theorem d12_doOne_138 : decode cX12_doOne 138 = .ok (.iload_n 1, 1) := by decide +kernel
theorem d12_doOne_139 : decode cX12_doOne 139 = .ok (.iconst 1, 1) := by decide +kernel
theorem d12_doOne_140 : decode cX12_doOne 140 = .ok (.iadd, 1) := by decide +kernel
theorem d12_doOne_141 : decode cX12_doOne 141 = .ok (.aload_n 0, 1) := by decide +kernel
theorem d12_doOne_142 : decode cX12_doOne 142 = .ok (.getfield 35, 3) := by decide +kernel
theorem d12_doOne_145 : decode cX12_doOne 145 = .ok (.iload_n 2, 1) := by decide +kernel
theorem d12_doOne_146 : decode cX12_doOne 146 = .ok (.bipush 8, 2) := by decide +kernel
theorem d12_doOne_148 : decode cX12_doOne 148 = .ok (.iadd, 1) := by decide +kernel
theorem d12_doOne_149 : decode cX12_doOne 149 = .ok (.iaload, 1) := by decide +kernel
theorem d12_doOne_150 : decode cX12_doOne 150 = .ok (.invokevirtual 503, 3) := by decide +kernel
theorem d12_doOne_153 : decode cX12_doOne 153 = .ok (.iinc 4 1, 3) := by decide +kernel
theorem d12_doOne_156 : decode cX12_doOne 156 = .ok (.goto (-39), 3) := by decide +kernel
theorem d12_doOne_159 : decode cX12_doOne 159 = .ok (.goto 14, 3) := by decide +kernel
theorem d12_doOne_162 : decode cX12_doOne 162 = .ok (.iload_n 3, 1) := by decide +kernel
theorem d12_doOne_163 : decode cX12_doOne 163 = .ok (.bipush 6, 2) := by decide +kernel
theorem d12_doOne_165 : decode cX12_doOne 165 = .ok (.if_icmp .le 8, 3) := by decide +kernel
theorem d12_doOne_168 : decode cX12_doOne 168 = .ok (.aload_n 0, 1) := by decide +kernel
theorem d12_doOne_169 : decode cX12_doOne 169 = .ok (.iconst 1, 1) := by decide +kernel
theorem d12_doOne_170 : decode cX12_doOne 170 = .ok (.putfield 487, 3) := by decide +kernel
theorem d12_doOne_173 : decode cX12_doOne 173 = .ok (.return_, 1) := by decide +kernel
abbrev K12_doOne (d : Nat) : CK Unit := (enV, none, 5, d, none)
noncomputable def F12_doOne_b117B (N : Nat) (r12_doAll : Int32 → Int32 → Ms → Option (Unit × Ms)) (k117 : Int32 × Int32 × Int32 × Ms → Option (Unit × Ms)) (l1 : Int32) (l2 : Int32) (l4 : Int32) (σ : Ms) : Option (Unit × Ms) :=
  ck (ixb (l2 + (1 : Int32)) 1780) (if (σ.1 5 (l2 + (1 : Int32)).toNatClampNeg) ≤ l4 then (some ((), σ))
  else (if (σ.1 0 38) ≠ 0 then (some ((), σ))
  else (ck (ixb (l2 + (8 : Int32)) 1780) (bn (r12_doAll (l1 + (1 : Int32)) (σ.1 5 (l2 + (8 : Int32)).toNatClampNeg) σ) (fun r1 t2 => k117 (l1, l2, (l4 + (1 : Int32)), t2))))))
noncomputable def F12_doOne_b117 (N : Nat) (r12_doAll : Int32 → Int32 → Ms → Option (Unit × Ms)) (l1 : Int32) (l2 : Int32) (l4 : Int32) (σ : Ms) : Option (Unit × Ms) :=
  fx N (fun k x => F12_doOne_b117B N r12_doAll k x.1 x.2.1 x.2.2.1 x.2.2.2) (l1, l2, l4, σ)
noncomputable def F12_doOne_b108 (N : Nat) (r12_doAll : Int32 → Int32 → Ms → Option (Unit × Ms)) (l1 : Int32) (l2 : Int32) (l3 : Int32) (σ : Ms) : Option (Unit × Ms) :=
  if l3 ≠ (6 : Int32) then (if l3 ≤ (6 : Int32) then (some ((), σ))
  else (ck (nkB (1 : Int32)) (lt (sI σ 0 38 (1 : Int32)) (fun t3 => some ((), t3)))))
  else (F12_doOne_b117 N r12_doAll l1 l2 (0 : Int32) σ)
noncomputable def F12_doOne_b69 (N : Nat) (r12_doAll : Int32 → Int32 → Ms → Option (Unit × Ms)) (s1 : Int32) (s2 : Int32) (σ : Ms) : Option (Unit × Ms) :=
  lt (sI σ 0 41 (s1 + s2)) (fun t4 => some ((), t4))
noncomputable def F12_doOneB (N : Nat) (r12_doAll : Int32 → Int32 → Ms → Option (Unit × Ms)) (p0 : Int32) (σ : Ms) : Option (Unit × Ms) :=
  if (σ.1 0 40) ≠ (300 : Int32) then (lt (sI σ 0 40 ((σ.1 0 40) + (1 : Int32))) (fun t5 => lt ((86 : Int32) + ((9 : Int32) * p0)) (fun x6 => ck (ixb x6 1780) (lt (t5.1 5 x6.toNatClampNeg) (fun x7 => if (5 : Int32) ≤ x7 then (if x7 ≠ (5 : Int32) then (F12_doOne_b108 N r12_doAll p0 x6 x7 t5)
  else (bn (F12_holds N x6 t5) (fun r8 t9 => if r8 = 0 then (F12_doOne_b108 N r12_doAll p0 x6 x7 t9)
  else (ck (ixb (x6 + (8 : Int32)) 1780) (bn (r12_doAll (p0 + (1 : Int32)) (t9.1 5 (x6 + (8 : Int32)).toNatClampNeg) t9) (fun r10 t11 => some ((), t11)))))))
  else (bn (F12_does N x6 t5) (fun r12 t13 => if r12 = 0 then (F12_doOne_b69 N r12_doAll (t5.1 0 41) (1 : Int32) t13)
  else (F12_doOne_b69 N r12_doAll (t5.1 0 41) (0 : Int32) t13))))))))
  else (ck (nkB (1 : Int32)) (lt (sI σ 0 38 (1 : Int32)) (fun t14 => lt (sI t14 0 45 (1 : Int32)) (fun t15 => some ((), t15)))))
set_option maxRecDepth 100000 in
theorem v12_doOne_b117B {d ddoAll : Nat} (hddoAll : ddoAll + 1 ≤ d) (hd0 : 7 ≤ d) (N : Nat) (r12_doAll : Int32 → Int32 → Ms → Option (Unit × Ms)) (hr12_doAll : ∀ (p0 : Int32) (p1 : Int32) (σ : Ms), MC enV yX12_doAll cX12_doAll 4 none ddoAll (r12_doAll p0 p1 σ) σ [.ref 0, .int p0, .int p1]) (k117 : Int32 × Int32 × Int32 × Ms → Option (Unit × Ms)) (hk117 : ∀ (l1 : Int32) (l2 : Int32) (l4 : Int32) (τ : Ms), VF (K12_doOne d) cX12_doOne RX12 (k117 (l1, l2, l4, τ)) τ 117 [(0, .ref 0), (1, .int l1), (2, .int l2), (4, .int l4)] []) (l1 : Int32) (l2 : Int32) (l4 : Int32) (σ : Ms) : VF (K12_doOne d) cX12_doOne RX12 (F12_doOne_b117B N r12_doAll k117 l1 l2 l4 σ) σ 117 [(0, .ref 0), (1, .int l1), (2, .int l2), (4, .int l4)] [] := by
  unfold F12_doOne_b117B
  refine v_iload d12_doOne_117 3 rfl ?_
  refine v_aload_n d12_doOne_119 0 rfl rfl ?_
  refine v_getR d12_doOne_120 faX12_35 ic_0 rfl ?_
  refine v_iload_n d12_doOne_123 2 rfl rfl ?_
  refine v_iconst d12_doOne_124 ki_1 ?_
  refine v_iadd d12_doOne_125 ?_
  refine v_iald d12_doOne_126 ic_5 ?_
  refine v_icmp_ge (tgt := 159) d12_doOne_127 (by decide) ?_ ?_
  · refine v_goto (tgt := 173) d12_doOne_159 (by decide) ?_
    exact v_vret d12_doOne_173 rfl
  · refine v_aload_n d12_doOne_130 0 rfl rfl ?_
    refine v_getI d12_doOne_131 faX12_487 ic_0 ?_
    refine v_if_ne (tgt := 159) d12_doOne_134 (by decide) ?_ ?_
    · refine v_goto (tgt := 173) d12_doOne_159 (by decide) ?_
      exact v_vret d12_doOne_173 rfl
    · refine v_aload_n d12_doOne_137 0 rfl rfl ?_
      refine v_iload_n d12_doOne_138 1 rfl rfl ?_
      refine v_iconst d12_doOne_139 ki_1 ?_
      refine v_iadd d12_doOne_140 ?_
      refine v_aload_n d12_doOne_141 0 rfl rfl ?_
      refine v_getR d12_doOne_142 faX12_35 ic_0 rfl ?_
      refine v_iload_n d12_doOne_145 2 rfl rfl ?_
      refine v_bipush d12_doOne_146 kb_8 ?_
      refine v_iadd d12_doOne_148 ?_
      refine v_iald d12_doOne_149 ic_5 ?_
      refine v_callV2v d12_doOne_150 (hr12_doAll (l1 + (1 : Int32)) (σ.1 5 (l2 + (8 : Int32)).toNatClampNeg) σ) yv12_doAll mlX12_503 (Recv.obj ic_0 rfl) hddoAll (Nat.le_of_ble_eq_true rfl) fun r1 t2 => ?_
      refine v_iinc (lv' := [(4, .int (l4 + (1 : Int32))), (0, .ref 0), (1, .int l1), (2, .int l2)]) d12_doOne_153 3 rfl (by rw [ki_1]) (show 4 < 5 by decide) rfl ?_
      refine v_goto (tgt := 117) d12_doOne_156 (by decide) ?_
      refine v_sub [1, 2, 3, 0] rfl ?_
      exact hk117 l1 l2 (l4 + (1 : Int32)) t2
theorem v12_doOne_b117 {d ddoAll : Nat} (hddoAll : ddoAll + 1 ≤ d) (hd0 : 7 ≤ d) (N : Nat) (r12_doAll : Int32 → Int32 → Ms → Option (Unit × Ms)) (hr12_doAll : ∀ (p0 : Int32) (p1 : Int32) (σ : Ms), MC enV yX12_doAll cX12_doAll 4 none ddoAll (r12_doAll p0 p1 σ) σ [.ref 0, .int p0, .int p1]) (l1 : Int32) (l2 : Int32) (l4 : Int32) (σ : Ms) : VF (K12_doOne d) cX12_doOne RX12 (F12_doOne_b117 N r12_doAll l1 l2 l4 σ) σ 117 [(0, .ref 0), (1, .int l1), (2, .int l2), (4, .int l4)] [] := v_fx (σo := fun x => x.2.2.2) (lo := fun x => [(0, .ref 0), (1, .int x.1), (2, .int x.2.1), (4, .int x.2.2.1)]) (fun k hk x => v12_doOne_b117B hddoAll hd0 N r12_doAll hr12_doAll k (fun l1 l2 l4 τ => hk (l1, l2, l4, τ)) x.1 x.2.1 x.2.2.1 x.2.2.2) N (l1, l2, l4, σ)
set_option maxRecDepth 100000 in
theorem v12_doOne_b108 {d ddoAll : Nat} (hddoAll : ddoAll + 1 ≤ d) (hd0 : 7 ≤ d) (N : Nat) (r12_doAll : Int32 → Int32 → Ms → Option (Unit × Ms)) (hr12_doAll : ∀ (p0 : Int32) (p1 : Int32) (σ : Ms), MC enV yX12_doAll cX12_doAll 4 none ddoAll (r12_doAll p0 p1 σ) σ [.ref 0, .int p0, .int p1]) (l1 : Int32) (l2 : Int32) (l3 : Int32) (σ : Ms) : VF (K12_doOne d) cX12_doOne RX12 (F12_doOne_b108 N r12_doAll l1 l2 l3 σ) σ 108 [(0, .ref 0), (1, .int l1), (2, .int l2), (3, .int l3)] [] := by
  unfold F12_doOne_b108
  refine v_iload_n d12_doOne_108 3 rfl rfl ?_
  refine v_bipush d12_doOne_109 kb_6 ?_
  refine v_icmp_ne (tgt := 162) d12_doOne_111 (by decide) ?_ ?_
  · refine v_iload_n d12_doOne_162 3 rfl rfl ?_
    refine v_bipush d12_doOne_163 kb_6 ?_
    refine v_icmp_le (tgt := 173) d12_doOne_165 (by decide) ?_ ?_
    · exact v_vret d12_doOne_173 rfl
    · refine v_aload_n d12_doOne_168 0 rfl rfl ?_
      refine v_iconst d12_doOne_169 ki_1 ?_
      refine v_putB d12_doOne_170 faX12_487 fp9_38 ic_0 ?_
      refine v_lts fun t3 => ?_
      exact v_vret d12_doOne_173 rfl
  · refine v_iconst d12_doOne_114 ki_0 ?_
    refine v_istore (lv' := [(4, .int (0 : Int32)), (0, .ref 0), (1, .int l1), (2, .int l2), (3, .int l3)]) d12_doOne_115 (show 4 < 5 by decide) rfl ?_
    refine v_sub [1, 2, 3, 0] rfl ?_
    exact v12_doOne_b117 hddoAll hd0 N r12_doAll hr12_doAll l1 l2 (0 : Int32) σ
set_option maxRecDepth 100000 in
theorem v12_doOne_b69 {d ddoAll : Nat} (hddoAll : ddoAll + 1 ≤ d) (hd0 : 7 ≤ d) (N : Nat) (r12_doAll : Int32 → Int32 → Ms → Option (Unit × Ms)) (hr12_doAll : ∀ (p0 : Int32) (p1 : Int32) (σ : Ms), MC enV yX12_doAll cX12_doAll 4 none ddoAll (r12_doAll p0 p1 σ) σ [.ref 0, .int p0, .int p1]) (s1 : Int32) (s2 : Int32) (σ : Ms) : VF (K12_doOne d) cX12_doOne RX12 (F12_doOne_b69 N r12_doAll s1 s2 σ) σ 69 [] [.int s2, .int s1, .ref 0] := by
  unfold F12_doOne_b69
  refine v_iadd d12_doOne_69 ?_
  refine v_putI d12_doOne_70 faX12_494 fp9_41 ic_0 ?_
  refine v_lts fun t4 => ?_
  refine v_goto (tgt := 173) d12_doOne_73 (by decide) ?_
  exact v_vret d12_doOne_173 rfl
set_option maxRecDepth 100000 in
theorem mc12_doOneB {d ddoAll : Nat} (hddoAll : ddoAll + 1 ≤ d) (hd0 : 7 ≤ d)  (N : Nat) (r12_doAll : Int32 → Int32 → Ms → Option (Unit × Ms)) (hr12_doAll : ∀ (p0 : Int32) (p1 : Int32) (σ : Ms), MC enV yX12_doAll cX12_doAll 4 none ddoAll (r12_doAll p0 p1 σ) σ [.ref 0, .int p0, .int p1]) (p0 : Int32) (σ : Ms) : MC enV yX12_doOne cX12_doOne 5 none d (F12_doOneB N r12_doAll p0 σ) σ [.ref 0, .int p0] := by
  refine MC.v (by decide +kernel) (Nat.le_of_ble_eq_true rfl) ?_
  show VF (K12_doOne d) cX12_doOne RX12 (F12_doOneB N r12_doAll p0 σ) σ 0 [(0, .ref 0), (1, .int p0)] []
  unfold F12_doOneB
  refine v_aload_n d12_doOne_0 0 rfl rfl ?_
  refine v_getI d12_doOne_1 faX12_484 ic_0 ?_
  refine v_sipush d12_doOne_4 ks_300 ?_
  refine v_icmp_ne (tgt := 21) d12_doOne_7 (by decide) ?_ ?_
  · refine v_aload_n d12_doOne_21 0 rfl rfl ?_
    refine v_dup d12_doOne_22 rfl ?_
    refine v_getI d12_doOne_23 faX12_484 ic_0 ?_
    refine v_iconst d12_doOne_26 ki_1 ?_
    refine v_iadd d12_doOne_27 ?_
    refine v_putI d12_doOne_28 faX12_484 fp9_40 ic_0 ?_
    refine v_lts fun t5 => ?_
    refine v_bipush d12_doOne_31 kb_86 ?_
    refine v_bipush d12_doOne_33 kb_9 ?_
    refine v_iload_n d12_doOne_35 1 rfl rfl ?_
    refine v_imul d12_doOne_36 ?_
    refine v_iadd d12_doOne_37 ?_
    refine v_lti fun x6 => ?_
    refine v_istore_n (lv' := [(2, .int x6), (0, .ref 0), (1, .int p0)]) d12_doOne_38 rfl (show 2 < 5 by decide) rfl ?_
    refine v_aload_n d12_doOne_39 1 rfl rfl ?_
    refine v_getR d12_doOne_40 faX12_35 ic_0 rfl ?_
    refine v_iload_n d12_doOne_43 0 rfl rfl ?_
    refine v_iald d12_doOne_44 ic_5 ?_
    refine v_lti fun x7 => ?_
    refine v_istore_n (lv' := [(3, .int x7), (2, .int x6), (0, .ref 0), (1, .int p0)]) d12_doOne_45 rfl (show 3 < 5 by decide) rfl ?_
    refine v_iload_n d12_doOne_46 0 rfl rfl ?_
    refine v_iconst d12_doOne_47 ki_5 ?_
    refine v_icmp_ge (tgt := 76) d12_doOne_48 (by decide) ?_ ?_
    · refine v_iload_n d12_doOne_76 0 rfl rfl ?_
      refine v_iconst d12_doOne_77 ki_5 ?_
      refine v_icmp_ne (tgt := 108) d12_doOne_78 (by decide) ?_ ?_
      · refine v_sub [2, 3, 1, 0] rfl ?_
        exact v12_doOne_b108 hddoAll hd0 N r12_doAll hr12_doAll p0 x6 x7 t5
      · refine v_aload_n d12_doOne_81 2 rfl rfl ?_
        refine v_iload_n d12_doOne_82 1 rfl rfl ?_
        refine v_callV1i d12_doOne_83 (mc12_holds N x6 t5) yv12_holds mlX12_500 (Recv.obj ic_0 rfl) (Nat.le_trans (by decide) hd0) (Nat.le_of_ble_eq_true rfl) fun r8 t9 => ?_
        refine v_if_eq (tgt := 108) d12_doOne_86 (by decide) ?_ ?_
        · refine v_sub [2, 3, 1, 0] rfl ?_
          exact v12_doOne_b108 hddoAll hd0 N r12_doAll hr12_doAll p0 x6 x7 t9
        · refine v_aload_n d12_doOne_89 2 rfl rfl ?_
          refine v_iload_n d12_doOne_90 3 rfl rfl ?_
          refine v_iconst d12_doOne_91 ki_1 ?_
          refine v_iadd d12_doOne_92 ?_
          refine v_aload_n d12_doOne_93 2 rfl rfl ?_
          refine v_getR d12_doOne_94 faX12_35 ic_0 rfl ?_
          refine v_iload_n d12_doOne_97 1 rfl rfl ?_
          refine v_bipush d12_doOne_98 kb_8 ?_
          refine v_iadd d12_doOne_100 ?_
          refine v_iald d12_doOne_101 ic_5 ?_
          refine v_callV2v d12_doOne_102 (hr12_doAll (p0 + (1 : Int32)) (t9.1 5 (x6 + (8 : Int32)).toNatClampNeg) t9) yv12_doAll mlX12_503 (Recv.obj ic_0 rfl) hddoAll (Nat.le_of_ble_eq_true rfl) fun r10 t11 => ?_
          refine v_goto (tgt := 173) d12_doOne_105 (by decide) ?_
          exact v_vret d12_doOne_173 rfl
    · refine v_aload_n d12_doOne_51 2 rfl rfl ?_
      refine v_dup d12_doOne_52 rfl ?_
      refine v_getI d12_doOne_53 faX12_494 ic_0 ?_
      refine v_aload_n d12_doOne_56 2 rfl rfl ?_
      refine v_iload_n d12_doOne_57 1 rfl rfl ?_
      refine v_callV1i d12_doOne_58 (mc12_does N x6 t5) yv12_does mlX12_497 (Recv.obj ic_0 rfl) (Nat.le_trans (by decide) hd0) (Nat.le_of_ble_eq_true rfl) fun r12 t13 => ?_
      refine v_if_eq (tgt := 68) d12_doOne_61 (by decide) ?_ ?_
      · refine v_iconst d12_doOne_68 ki_1 ?_
        refine v_sub [] rfl ?_
        exact v12_doOne_b69 hddoAll hd0 N r12_doAll hr12_doAll (t5.1 0 41) (1 : Int32) t13
      · refine v_iconst d12_doOne_64 ki_0 ?_
        refine v_goto (tgt := 69) d12_doOne_65 (by decide) ?_
        refine v_sub [] rfl ?_
        exact v12_doOne_b69 hddoAll hd0 N r12_doAll hr12_doAll (t5.1 0 41) (0 : Int32) t13
  · refine v_aload_n d12_doOne_10 0 rfl rfl ?_
    refine v_iconst d12_doOne_11 ki_1 ?_
    refine v_putB d12_doOne_12 faX12_487 fp9_38 ic_0 ?_
    refine v_lts fun t14 => ?_
    refine v_aload_n d12_doOne_15 0 rfl rfl ?_
    refine v_iconst d12_doOne_16 ki_1 ?_
    refine v_putI d12_doOne_17 faX12_491 fp9_45 ic_0 ?_
    refine v_lts fun t15 => ?_
    exact v_vret d12_doOne_20 rfl
theorem d12_doAll_0 : decode cX12_doAll 0 = .ok (.iload_n 1, 1) := by decide +kernel
theorem d12_doAll_1 : decode cX12_doAll 1 = .ok (.istore_n 3, 1) := by decide +kernel
theorem d12_doAll_2 : decode cX12_doAll 2 = .ok (.iload_n 3, 1) := by decide +kernel
theorem d12_doAll_3 : decode cX12_doAll 3 = .ok (.iload_n 2, 1) := by decide +kernel
theorem d12_doAll_4 : decode cX12_doAll 4 = .ok (.if_icmp .ge 34, 3) := by decide +kernel
theorem d12_doAll_7 : decode cX12_doAll 7 = .ok (.aload_n 0, 1) := by decide +kernel
theorem d12_doAll_8 : decode cX12_doAll 8 = .ok (.getfield 487, 3) := by decide +kernel
theorem d12_doAll_11 : decode cX12_doAll 11 = .ok (.ifCond .ne 27, 3) := by decide +kernel
theorem d12_doAll_14 : decode cX12_doAll 14 = .ok (.aload_n 0, 1) := by decide +kernel
theorem d12_doAll_15 : decode cX12_doAll 15 = .ok (.iload_n 3, 1) := by decide +kernel
theorem d12_doAll_16 : decode cX12_doAll 16 = .ok (.invokevirtual 506, 3) := by decide +kernel
theorem d12_doAll_19 : decode cX12_doAll 19 = .ok (.aload_n 0, 1) := by decide +kernel
theorem d12_doAll_20 : decode cX12_doAll 20 = .ok (.getfield 35, 3) := by decide +kernel
theorem d12_doAll_23 : decode cX12_doAll 23 = .ok (.bipush 86, 2) := by decide +kernel
theorem d12_doAll_25 : decode cX12_doAll 25 = .ok (.bipush 9, 2) := by decide +kernel
theorem d12_doAll_27 : decode cX12_doAll 27 = .ok (.iload_n 3, 1) := by decide +kernel
theorem d12_doAll_28 : decode cX12_doAll 28 = .ok (.imul, 1) := by decide +kernel
theorem d12_doAll_29 : decode cX12_doAll 29 = .ok (.iadd, 1) := by decide +kernel
theorem d12_doAll_30 : decode cX12_doAll 30 = .ok (.bipush 8, 2) := by decide +kernel
theorem d12_doAll_32 : decode cX12_doAll 32 = .ok (.iadd, 1) := by decide +kernel
theorem d12_doAll_33 : decode cX12_doAll 33 = .ok (.iaload, 1) := by decide +kernel
theorem d12_doAll_34 : decode cX12_doAll 34 = .ok (.istore_n 3, 1) := by decide +kernel
theorem d12_doAll_35 : decode cX12_doAll 35 = .ok (.goto (-33), 3) := by decide +kernel
theorem d12_doAll_38 : decode cX12_doAll 38 = .ok (.return_, 1) := by decide +kernel
abbrev K12_doAll (d : Nat) : CK Unit := (enV, none, 4, d, none)
noncomputable def F12_doAll_b2B (N : Nat) (r12_doOne : Int32 → Ms → Option (Unit × Ms)) (k2 : Int32 × Int32 × Ms → Option (Unit × Ms)) (l2 : Int32) (l3 : Int32) (σ : Ms) : Option (Unit × Ms) :=
  if l2 ≤ l3 then (some ((), σ))
  else (if (σ.1 0 38) ≠ 0 then (some ((), σ))
  else (bn (r12_doOne l3 σ) (fun r1 t2 => ck (ixb (((86 : Int32) + ((9 : Int32) * l3)) + (8 : Int32)) 1780) (lt (t2.1 5 (((86 : Int32) + ((9 : Int32) * l3)) + (8 : Int32)).toNatClampNeg) (fun x3 => k2 (l2, x3, t2))))))
noncomputable def F12_doAll_b2 (N : Nat) (r12_doOne : Int32 → Ms → Option (Unit × Ms)) (l2 : Int32) (l3 : Int32) (σ : Ms) : Option (Unit × Ms) :=
  fx N (fun k x => F12_doAll_b2B N r12_doOne k x.1 x.2.1 x.2.2) (l2, l3, σ)
noncomputable def F12_doAllB (N : Nat) (r12_doOne : Int32 → Ms → Option (Unit × Ms)) (p0 : Int32) (p1 : Int32) (σ : Ms) : Option (Unit × Ms) :=
  F12_doAll_b2 N r12_doOne p1 p0 σ
set_option maxRecDepth 100000 in
theorem v12_doAll_b2B {d ddoOne : Nat} (hddoOne : ddoOne + 1 ≤ d) (hd0 : 1 ≤ d) (N : Nat) (r12_doOne : Int32 → Ms → Option (Unit × Ms)) (hr12_doOne : ∀ (p0 : Int32) (σ : Ms), MC enV yX12_doOne cX12_doOne 5 none ddoOne (r12_doOne p0 σ) σ [.ref 0, .int p0]) (k2 : Int32 × Int32 × Ms → Option (Unit × Ms)) (hk2 : ∀ (l2 : Int32) (l3 : Int32) (τ : Ms), VF (K12_doAll d) cX12_doAll RX12 (k2 (l2, l3, τ)) τ 2 [(0, .ref 0), (2, .int l2), (3, .int l3)] []) (l2 : Int32) (l3 : Int32) (σ : Ms) : VF (K12_doAll d) cX12_doAll RX12 (F12_doAll_b2B N r12_doOne k2 l2 l3 σ) σ 2 [(0, .ref 0), (2, .int l2), (3, .int l3)] [] := by
  unfold F12_doAll_b2B
  refine v_iload_n d12_doAll_2 2 rfl rfl ?_
  refine v_iload_n d12_doAll_3 1 rfl rfl ?_
  refine v_icmp_ge (tgt := 38) d12_doAll_4 (by decide) ?_ ?_
  · exact v_vret d12_doAll_38 rfl
  · refine v_aload_n d12_doAll_7 0 rfl rfl ?_
    refine v_getI d12_doAll_8 faX12_487 ic_0 ?_
    refine v_if_ne (tgt := 38) d12_doAll_11 (by decide) ?_ ?_
    · exact v_vret d12_doAll_38 rfl
    · refine v_aload_n d12_doAll_14 0 rfl rfl ?_
      refine v_iload_n d12_doAll_15 2 rfl rfl ?_
      refine v_callV1v d12_doAll_16 (hr12_doOne l3 σ) yv12_doOne mlX12_506 (Recv.obj ic_0 rfl) hddoOne (Nat.le_of_ble_eq_true rfl) fun r1 t2 => ?_
      refine v_aload_n d12_doAll_19 0 rfl rfl ?_
      refine v_getR d12_doAll_20 faX12_35 ic_0 rfl ?_
      refine v_bipush d12_doAll_23 kb_86 ?_
      refine v_bipush d12_doAll_25 kb_9 ?_
      refine v_iload_n d12_doAll_27 2 rfl rfl ?_
      refine v_imul d12_doAll_28 ?_
      refine v_iadd d12_doAll_29 ?_
      refine v_bipush d12_doAll_30 kb_8 ?_
      refine v_iadd d12_doAll_32 ?_
      refine v_iald d12_doAll_33 ic_5 ?_
      refine v_lti fun x3 => ?_
      refine v_istore_n (lv' := [(3, .int x3), (0, .ref 0), (2, .int l2)]) d12_doAll_34 rfl (show 3 < 4 by decide) rfl ?_
      refine v_goto (tgt := 2) d12_doAll_35 (by decide) ?_
      refine v_sub [1, 2, 0] rfl ?_
      exact hk2 l2 x3 t2
theorem v12_doAll_b2 {d ddoOne : Nat} (hddoOne : ddoOne + 1 ≤ d) (hd0 : 1 ≤ d) (N : Nat) (r12_doOne : Int32 → Ms → Option (Unit × Ms)) (hr12_doOne : ∀ (p0 : Int32) (σ : Ms), MC enV yX12_doOne cX12_doOne 5 none ddoOne (r12_doOne p0 σ) σ [.ref 0, .int p0]) (l2 : Int32) (l3 : Int32) (σ : Ms) : VF (K12_doAll d) cX12_doAll RX12 (F12_doAll_b2 N r12_doOne l2 l3 σ) σ 2 [(0, .ref 0), (2, .int l2), (3, .int l3)] [] := v_fx (σo := fun x => x.2.2) (lo := fun x => [(0, .ref 0), (2, .int x.1), (3, .int x.2.1)]) (fun k hk x => v12_doAll_b2B hddoOne hd0 N r12_doOne hr12_doOne k (fun l2 l3 τ => hk (l2, l3, τ)) x.1 x.2.1 x.2.2) N (l2, l3, σ)
set_option maxRecDepth 100000 in
theorem mc12_doAllB {d ddoOne : Nat} (hddoOne : ddoOne + 1 ≤ d) (hd0 : 1 ≤ d)  (N : Nat) (r12_doOne : Int32 → Ms → Option (Unit × Ms)) (hr12_doOne : ∀ (p0 : Int32) (σ : Ms), MC enV yX12_doOne cX12_doOne 5 none ddoOne (r12_doOne p0 σ) σ [.ref 0, .int p0]) (p0 : Int32) (p1 : Int32) (σ : Ms) : MC enV yX12_doAll cX12_doAll 4 none d (F12_doAllB N r12_doOne p0 p1 σ) σ [.ref 0, .int p0, .int p1] := by
  refine MC.v (by decide +kernel) (Nat.le_of_ble_eq_true rfl) ?_
  show VF (K12_doAll d) cX12_doAll RX12 (F12_doAllB N r12_doOne p0 p1 σ) σ 0 [(0, .ref 0), (1, .int p0), (2, .int p1)] []
  unfold F12_doAllB
  refine v_iload_n d12_doAll_0 1 rfl rfl ?_
  refine v_istore_n (lv' := [(3, .int p0), (0, .ref 0), (1, .int p0), (2, .int p1)]) d12_doAll_1 rfl (show 3 < 4 by decide) rfl ?_
  refine v_sub [1, 3, 0] rfl ?_
  exact v12_doAll_b2 hddoOne hd0 N r12_doOne hr12_doOne p1 p0 σ
noncomputable def F12_doAll (N : Nat) : Nat → Int32 → Int32 → Ms → Option (Unit × Ms)
  | 0, _, _, _ => none
  | D + 1, p0, p1, σ => F12_doAllB N (fun q τ => F12_doOneB N (F12_doAll N D) q τ) p0 p1 σ
theorem mc12_doAll (N : Nat) : ∀ (D : Nat) (p0 p1 : Int32) (σ : Ms), MC enV yX12_doAll cX12_doAll 4 none (7 + 2 * D) (F12_doAll N D p0 p1 σ) σ [.ref 0, .int p0, .int p1]
  | 0, _, _, _ => MC_none
  | D + 1, p0, p1, σ => mc12_doAllB (d := 7 + 2 * (D + 1)) (ddoOne := 7 + 2 * D + 1) (by omega) (by omega) N (fun q τ => F12_doOneB N (F12_doAll N D) q τ) (fun q τ => mc12_doOneB (d := 7 + 2 * D + 1) (ddoAll := 7 + 2 * D) (Nat.le_refl _) (by omega) N (F12_doAll N D) (mc12_doAll N D) q τ) p0 p1 σ
