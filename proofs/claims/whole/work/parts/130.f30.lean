theorem d12_birthday_0 : decode cX12_birthday 0 = .ok (.aload_n 0, 1) := by decide +kernel
theorem d12_birthday_1 : decode cX12_birthday 1 = .ok (.iconst 0, 1) := by decide +kernel
theorem d12_birthday_2 : decode cX12_birthday 2 = .ok (.putfield 53, 3) := by decide +kernel
theorem d12_birthday_5 : decode cX12_birthday 5 = .ok (.aload_n 0, 1) := by decide +kernel
theorem d12_birthday_6 : decode cX12_birthday 6 = .ok (.iconst 0, 1) := by decide +kernel
theorem d12_birthday_7 : decode cX12_birthday 7 = .ok (.putfield 56, 3) := by decide +kernel
theorem d12_birthday_10 : decode cX12_birthday 10 = .ok (.iload_n 1, 1) := by decide +kernel
theorem d12_birthday_11 : decode cX12_birthday 11 = .ok (.iload_n 2, 1) := by decide +kernel
theorem d12_birthday_12 : decode cX12_birthday 12 = .ok (.invokestatic 404, 3) := by decide +kernel
theorem d12_birthday_15 : decode cX12_birthday 15 = .ok (.ifCond .ne 9, 3) := by decide +kernel
theorem d12_birthday_18 : decode cX12_birthday 18 = .ok (.aload_n 0, 1) := by decide +kernel
theorem d12_birthday_19 : decode cX12_birthday 19 = .ok (.iconst 5, 1) := by decide +kernel
theorem d12_birthday_20 : decode cX12_birthday 20 = .ok (.invokevirtual 265, 3) := by decide +kernel
theorem d12_birthday_23 : decode cX12_birthday 23 = .ok (.ireturn, 1) := by decide +kernel
theorem d12_birthday_24 : decode cX12_birthday 24 = .ok (.iload_n 1, 1) := by decide +kernel
theorem d12_birthday_25 : decode cX12_birthday 25 = .ok (.iload_n 2, 1) := by decide +kernel
theorem d12_birthday_26 : decode cX12_birthday 26 = .ok (.invokestatic 407, 3) := by decide +kernel
theorem d12_birthday_29 : decode cX12_birthday 29 = .ok (.invokestatic 62, 3) := by decide +kernel
theorem d12_birthday_32 : decode cX12_birthday 32 = .ok (.lstore_n 3, 1) := by decide +kernel
theorem d12_birthday_33 : decode cX12_birthday 33 = .ok (.lload_n 3, 1) := by decide +kernel
theorem d12_birthday_34 : decode cX12_birthday 34 = .ok (.ldc2_w 307, 3) := by decide +kernel
theorem d12_birthday_37 : decode cX12_birthday 37 = .ok (.ldiv, 1) := by decide +kernel
theorem d12_birthday_38 : decode cX12_birthday 38 = .ok (.l2i, 1) := by decide +kernel
theorem d12_birthday_39 : decode cX12_birthday 39 = .ok (.istore 5, 2) := by decide +kernel
theorem d12_birthday_41 : decode cX12_birthday 41 = .ok (.lload_n 3, 1) := by decide +kernel
theorem d12_birthday_42 : decode cX12_birthday 42 = .ok (.ldc2_w 307, 3) := by decide +kernel
theorem d12_birthday_45 : decode cX12_birthday 45 = .ok (.lrem, 1) := by decide +kernel
theorem d12_birthday_46 : decode cX12_birthday 46 = .ok (.lconst 0, 1) := by decide +kernel
theorem d12_birthday_47 : decode cX12_birthday 47 = .ok (.lcmp, 1) := by decide +kernel
theorem d12_birthday_48 : decode cX12_birthday 48 = .ok (.ifCond .ne 6, 3) := by decide +kernel
theorem d12_birthday_51 : decode cX12_birthday 51 = .ok (.iload 5, 2) := by decide +kernel
theorem d12_birthday_53 : decode cX12_birthday 53 = .ok (.ireturn, 1) := by decide +kernel
theorem d12_birthday_54 : decode cX12_birthday 54 = .ok (.iconst 0, 1) := by decide +kernel
theorem d12_birthday_55 : decode cX12_birthday 55 = .ok (.istore 6, 2) := by decide +kernel
theorem d12_birthday_57 : decode cX12_birthday 57 = .ok (.lload_n 3, 1) := by decide +kernel
theorem d12_birthday_58 : decode cX12_birthday 58 = .ok (.iload 6, 2) := by decide +kernel
theorem d12_birthday_60 : decode cX12_birthday 60 = .ok (.lshl, 1) := by decide +kernel
theorem d12_birthday_61 : decode cX12_birthday 61 = .ok (.ldc2_w 307, 3) := by decide +kernel
theorem d12_birthday_64 : decode cX12_birthday 64 = .ok (.lrem, 1) := by decide +kernel
theorem d12_birthday_65 : decode cX12_birthday 65 = .ok (.lconst 0, 1) := by decide +kernel
theorem d12_birthday_66 : decode cX12_birthday 66 = .ok (.lcmp, 1) := by decide +kernel
theorem d12_birthday_67 : decode cX12_birthday 67 = .ok (.ifCond .eq 9, 3) := by decide +kernel
theorem d12_birthday_70 : decode cX12_birthday 70 = .ok (.iinc 6 1, 3) := by decide +kernel
theorem d12_birthday_73 : decode cX12_birthday 73 = .ok (.goto (-16), 3) := by decide +kernel
theorem d12_birthday_76 : decode cX12_birthday 76 = .ok (.iload 5, 2) := by decide +kernel
theorem d12_birthday_78 : decode cX12_birthday 78 = .ok (.iload 6, 2) := by decide +kernel
theorem d12_birthday_80 : decode cX12_birthday 80 = .ok (.iadd, 1) := by decide +kernel
theorem d12_birthday_81 : decode cX12_birthday 81 = .ok (.iconst 1, 1) := by decide +kernel
theorem d12_birthday_82 : decode cX12_birthday 82 = .ok (.iadd, 1) := by decide +kernel
theorem d12_birthday_83 : decode cX12_birthday 83 = .ok (.ireturn, 1) := by decide +kernel
abbrev K12_birthday : CK Int32 := (enI, (some .int), 7, 3, none)
noncomputable def F12_birthday_b57B (N : Nat) (k57 : Int64 × Int32 × Int32 × Ms → Option (Int32 × Ms)) (l3 : Int64) (l5 : Int32) (l6 : Int32) (σ : Ms) : Option (Int32 × Ms) :=
  ck (!((1048576 : Int64) == 0)) (if (lg_cmp ((l3 <<< (l6.toInt64 &&& 63)) - (l3 <<< (l6.toInt64 &&& 63)) / (1048576 : Int64) * (1048576 : Int64)) (0 : Int64)) = 0 then (some (((l5 + l6) + (1 : Int32)), σ))
  else (k57 (l3, l5, (l6 + (1 : Int32)), σ)))
noncomputable def F12_birthday_b57 (N : Nat) (l3 : Int64) (l5 : Int32) (l6 : Int32) (σ : Ms) : Option (Int32 × Ms) :=
  fx N (fun k x => F12_birthday_b57B N k x.1 x.2.1 x.2.2.1 x.2.2.2) (l3, l5, l6, σ)
noncomputable def F12_birthday (N : Nat) (p0 : Int32) (p1 : Int32) (σ : Ms) : Option (Int32 × Ms) :=
  lt (sI σ 0 1 (0 : Int32)) (fun t1 => lt (sI t1 0 0 (0 : Int32)) (fun t2 => bn (F12_isNumber p0 p1 t2) (fun r3 t4 => if r3 ≠ 0 then (bn (F12_partsOf p0 p1 t4) (fun r5 t6 => bn (FJ9_abs_067f4 r5 t6) (fun r7 t8 => ck (!((1048576 : Int64) == 0)) (lt ((r7 / (1048576 : Int64)).toInt32) (fun x9 => ck (!((1048576 : Int64) == 0)) (if (lg_cmp (r7 - r7 / (1048576 : Int64) * (1048576 : Int64)) (0 : Int64)) ≠ 0 then (F12_birthday_b57 N r7 x9 (0 : Int32) t8)
  else (some (x9, t8))))))))
  else (bn (F12_refuse (5 : Int32) t4) (fun r10 t11 => some (r10, t11))))))
set_option maxRecDepth 100000 in
theorem v12_birthday_b57B (N : Nat) (k57 : Int64 × Int32 × Int32 × Ms → Option (Int32 × Ms)) (hk57 : ∀ (l3 : Int64) (l5 : Int32) (l6 : Int32) (τ : Ms), VF (K12_birthday) cX12_birthday RX12 (k57 (l3, l5, l6, τ)) τ 57 [(3, .long l3), (5, .int l5), (6, .int l6)] []) (l3 : Int64) (l5 : Int32) (l6 : Int32) (σ : Ms) : VF (K12_birthday) cX12_birthday RX12 (F12_birthday_b57B N k57 l3 l5 l6 σ) σ 57 [(3, .long l3), (5, .int l5), (6, .int l6)] [] := by
  unfold F12_birthday_b57B
  refine v_lload_n d12_birthday_57 0 rfl rfl ?_
  refine v_iload d12_birthday_58 2 rfl ?_
  refine v_lshl d12_birthday_60 ?_
  refine v_ldc2 d12_birthday_61 klX12_307 ?_
  refine v_lrem d12_birthday_64 ?_
  refine v_lconst d12_birthday_65 kl_0 ?_
  refine v_lcmp d12_birthday_66 ?_
  refine v_if_eq (tgt := 76) d12_birthday_67 (by decide) ?_ ?_
  · refine v_iload d12_birthday_76 1 rfl ?_
    refine v_iload d12_birthday_78 2 rfl ?_
    refine v_iadd d12_birthday_80 ?_
    refine v_iconst d12_birthday_81 ki_1 ?_
    refine v_iadd d12_birthday_82 ?_
    exact v_iret d12_birthday_83 rfl rfl rfl
  · refine v_iinc (lv' := [(6, .int (l6 + (1 : Int32))), (3, .long l3), (5, .int l5)]) d12_birthday_70 2 rfl (by rw [ki_1]) (by decide) rfl ?_
    refine v_goto (tgt := 57) d12_birthday_73 (by decide) ?_
    refine v_sub [1, 2, 0] rfl ?_
    exact hk57 l3 l5 (l6 + (1 : Int32)) σ
theorem v12_birthday_b57 (N : Nat) (l3 : Int64) (l5 : Int32) (l6 : Int32) (σ : Ms) : VF (K12_birthday) cX12_birthday RX12 (F12_birthday_b57 N l3 l5 l6 σ) σ 57 [(3, .long l3), (5, .int l5), (6, .int l6)] [] := v_fx (σo := fun x => x.2.2.2) (lo := fun x => [(3, .long x.1), (5, .int x.2.1), (6, .int x.2.2.1)]) (fun k hk x => v12_birthday_b57B N k (fun l3 l5 l6 τ => hk (l3, l5, l6, τ)) x.1 x.2.1 x.2.2.1 x.2.2.2) N (l3, l5, l6, σ)
set_option maxRecDepth 100000 in
theorem mc12_birthday (N : Nat) (p0 : Int32) (p1 : Int32) (σ : Ms) : MC enI yX12_birthday cX12_birthday 7 (some .int) 3 (F12_birthday N p0 p1 σ) σ [.ref 0, .int p0, .int p1] := by
  refine MC.i (by decide +kernel) (Nat.le_of_ble_eq_true rfl) ?_
  show VF (K12_birthday) cX12_birthday RX12 (F12_birthday N p0 p1 σ) σ 0 [(0, .ref 0), (1, .int p0), (2, .int p1)] []
  unfold F12_birthday
  refine v_aload_n d12_birthday_0 0 rfl rfl ?_
  refine v_iconst d12_birthday_1 ki_0 ?_
  refine v_putI d12_birthday_2 faX12_53 fp9_1 ic_0 ?_
  refine v_lts fun t1 => ?_
  refine v_aload_n d12_birthday_5 0 rfl rfl ?_
  refine v_iconst d12_birthday_6 ki_0 ?_
  refine v_putI d12_birthday_7 faX12_56 fp9_0 ic_0 ?_
  refine v_lts fun t2 => ?_
  refine v_iload_n d12_birthday_10 1 rfl rfl ?_
  refine v_iload_n d12_birthday_11 2 rfl rfl ?_
  refine v_callS2i d12_birthday_12 (mc12_isNumber p0 p1 t2) ys12_isNumber mlX12_404 (by decide) (Nat.le_of_ble_eq_true rfl) fun r3 t4 => ?_
  refine v_if_ne (tgt := 24) d12_birthday_15 (by decide) ?_ ?_
  · refine v_iload_n d12_birthday_24 1 rfl rfl ?_
    refine v_iload_n d12_birthday_25 2 rfl rfl ?_
    refine v_callS2l d12_birthday_26 (mc12_partsOf p0 p1 t4) ys12_partsOf mlX12_407 (by decide) (Nat.le_of_ble_eq_true rfl) fun r5 t6 => ?_
    refine v_callS1l d12_birthday_29 (mcJ9_abs_067f4 r5 t6) ysJ9_abs_067f4 mlX12_62 (by decide) (Nat.le_of_ble_eq_true rfl) fun r7 t8 => ?_
    refine v_lstore_n (lv' := [(3, .long r7), (0, .ref 0), (1, .int p0), (2, .int p1)]) d12_birthday_32 rfl (by decide) rfl ?_
    refine v_lload_n d12_birthday_33 0 rfl rfl ?_
    refine v_ldc2 d12_birthday_34 klX12_307 ?_
    refine v_ldiv d12_birthday_37 ?_
    refine v_l2i d12_birthday_38 ?_
    refine v_lti fun x9 => ?_
    refine v_istore (lv' := [(5, .int x9), (3, .long r7), (0, .ref 0), (1, .int p0), (2, .int p1)]) d12_birthday_39 (by decide) rfl ?_
    refine v_lload_n d12_birthday_41 1 rfl rfl ?_
    refine v_ldc2 d12_birthday_42 klX12_307 ?_
    refine v_lrem d12_birthday_45 ?_
    refine v_lconst d12_birthday_46 kl_0 ?_
    refine v_lcmp d12_birthday_47 ?_
    refine v_if_ne (tgt := 54) d12_birthday_48 (by decide) ?_ ?_
    · refine v_iconst d12_birthday_54 ki_0 ?_
      refine v_istore (lv' := [(6, .int (0 : Int32)), (5, .int x9), (3, .long r7), (0, .ref 0), (1, .int p0), (2, .int p1)]) d12_birthday_55 (by decide) rfl ?_
      refine v_sub [2, 1, 0] rfl ?_
      exact v12_birthday_b57 N r7 x9 (0 : Int32) t8
    · refine v_iload d12_birthday_51 0 rfl ?_
      exact v_iret d12_birthday_53 rfl rfl rfl
  · refine v_aload_n d12_birthday_18 0 rfl rfl ?_
    refine v_iconst d12_birthday_19 ki_5 ?_
    refine v_callV1i d12_birthday_20 (mc12_refuse (5 : Int32) t4) yv12_refuse mlX12_265 (Recv.obj ic_0 rfl) (by decide) (Nat.le_of_ble_eq_true rfl) fun r10 t11 => ?_
    exact v_iret d12_birthday_23 rfl rfl rfl
theorem d12_stalkOf_0 : decode cX12_stalkOf 0 = .ok (.lload_n 0, 1) := by decide +kernel
theorem d12_stalkOf_1 : decode cX12_stalkOf 1 = .ok (.ldc2_w 307, 3) := by decide +kernel
theorem d12_stalkOf_4 : decode cX12_stalkOf 4 = .ok (.ldiv, 1) := by decide +kernel
theorem d12_stalkOf_5 : decode cX12_stalkOf 5 = .ok (.l2i, 1) := by decide +kernel
theorem d12_stalkOf_6 : decode cX12_stalkOf 6 = .ok (.istore_n 3, 1) := by decide +kernel
theorem d12_stalkOf_7 : decode cX12_stalkOf 7 = .ok (.lload_n 0, 1) := by decide +kernel
theorem d12_stalkOf_8 : decode cX12_stalkOf 8 = .ok (.ldc2_w 307, 3) := by decide +kernel
theorem d12_stalkOf_11 : decode cX12_stalkOf 11 = .ok (.lrem, 1) := by decide +kernel
theorem d12_stalkOf_12 : decode cX12_stalkOf 12 = .ok (.lconst 0, 1) := by decide +kernel
theorem d12_stalkOf_13 : decode cX12_stalkOf 13 = .ok (.lcmp, 1) := by decide +kernel
theorem d12_stalkOf_14 : decode cX12_stalkOf 14 = .ok (.ifCond .ne 7, 3) := by decide +kernel
theorem d12_stalkOf_17 : decode cX12_stalkOf 17 = .ok (.iconst 1, 1) := by decide +kernel
theorem d12_stalkOf_18 : decode cX12_stalkOf 18 = .ok (.goto 4, 3) := by decide +kernel
theorem d12_stalkOf_21 : decode cX12_stalkOf 21 = .ok (.iconst 0, 1) := by decide +kernel
theorem d12_stalkOf_22 : decode cX12_stalkOf 22 = .ok (.istore 4, 2) := by decide +kernel
theorem d12_stalkOf_24 : decode cX12_stalkOf 24 = .ok (.iload_n 2, 1) := by decide +kernel
theorem d12_stalkOf_25 : decode cX12_stalkOf 25 = .ok (.iload 4, 2) := by decide +kernel
theorem d12_stalkOf_27 : decode cX12_stalkOf 27 = .ok (.ifCond .eq 7, 3) := by decide +kernel
theorem d12_stalkOf_30 : decode cX12_stalkOf 30 = .ok (.iload_n 3, 1) := by decide +kernel
theorem d12_stalkOf_31 : decode cX12_stalkOf 31 = .ok (.goto 6, 3) := by decide +kernel
theorem d12_stalkOf_34 : decode cX12_stalkOf 34 = .ok (.iload_n 3, 1) := by decide +kernel
theorem d12_stalkOf_35 : decode cX12_stalkOf 35 = .ok (.iconst 1, 1) := by decide +kernel
theorem d12_stalkOf_36 : decode cX12_stalkOf 36 = .ok (.iadd, 1) := by decide +kernel
theorem d12_stalkOf_37 : decode cX12_stalkOf 37 = .ok (.if_icmp .ge 5, 3) := by decide +kernel
theorem d12_stalkOf_40 : decode cX12_stalkOf 40 = .ok (.iconst 0, 1) := by decide +kernel
theorem d12_stalkOf_41 : decode cX12_stalkOf 41 = .ok (.ireturn, 1) := by decide +kernel
theorem d12_stalkOf_42 : decode cX12_stalkOf 42 = .ok (.iload 4, 2) := by decide +kernel
theorem d12_stalkOf_44 : decode cX12_stalkOf 44 = .ok (.ifCond .eq 5, 3) := by decide +kernel
theorem d12_stalkOf_47 : decode cX12_stalkOf 47 = .ok (.iconst (-1), 1) := by decide +kernel
theorem d12_stalkOf_48 : decode cX12_stalkOf 48 = .ok (.ireturn, 1) := by decide +kernel
theorem d12_stalkOf_49 : decode cX12_stalkOf 49 = .ok (.iload_n 2, 1) := by decide +kernel
theorem d12_stalkOf_50 : decode cX12_stalkOf 50 = .ok (.iload_n 3, 1) := by decide +kernel
theorem d12_stalkOf_51 : decode cX12_stalkOf 51 = .ok (.iconst 1, 1) := by decide +kernel
theorem d12_stalkOf_52 : decode cX12_stalkOf 52 = .ok (.iadd, 1) := by decide +kernel
theorem d12_stalkOf_53 : decode cX12_stalkOf 53 = .ok (.if_icmp .ne 5, 3) := by decide +kernel
theorem d12_stalkOf_56 : decode cX12_stalkOf 56 = .ok (.iconst 1, 1) := by decide +kernel
theorem d12_stalkOf_57 : decode cX12_stalkOf 57 = .ok (.ireturn, 1) := by decide +kernel
theorem d12_stalkOf_58 : decode cX12_stalkOf 58 = .ok (.iload_n 3, 1) := by decide +kernel
theorem d12_stalkOf_59 : decode cX12_stalkOf 59 = .ok (.i2l, 1) := by decide +kernel
theorem d12_stalkOf_60 : decode cX12_stalkOf 60 = .ok (.ldc2_w 307, 3) := by decide +kernel
theorem d12_stalkOf_63 : decode cX12_stalkOf 63 = .ok (.lmul, 1) := by decide +kernel
theorem d12_stalkOf_64 : decode cX12_stalkOf 64 = .ok (.ldc2_w 415, 3) := by decide +kernel
theorem d12_stalkOf_67 : decode cX12_stalkOf 67 = .ok (.ladd, 1) := by decide +kernel
theorem d12_stalkOf_68 : decode cX12_stalkOf 68 = .ok (.lstore 5, 2) := by decide +kernel
theorem d12_stalkOf_70 : decode cX12_stalkOf 70 = .ok (.ldc2_w 417, 3) := by decide +kernel
theorem d12_stalkOf_73 : decode cX12_stalkOf 73 = .ok (.lstore 7, 2) := by decide +kernel
theorem d12_stalkOf_75 : decode cX12_stalkOf 75 = .ok (.iload_n 3, 1) := by decide +kernel
theorem d12_stalkOf_76 : decode cX12_stalkOf 76 = .ok (.iconst 2, 1) := by decide +kernel
theorem d12_stalkOf_77 : decode cX12_stalkOf 77 = .ok (.iadd, 1) := by decide +kernel
theorem d12_stalkOf_78 : decode cX12_stalkOf 78 = .ok (.istore 9, 2) := by decide +kernel
theorem d12_stalkOf_80 : decode cX12_stalkOf 80 = .ok (.lload 5, 2) := by decide +kernel
theorem d12_stalkOf_82 : decode cX12_stalkOf 82 = .ok (.lload_n 0, 1) := by decide +kernel
theorem d12_stalkOf_83 : decode cX12_stalkOf 83 = .ok (.lcmp, 1) := by decide +kernel
theorem d12_stalkOf_84 : decode cX12_stalkOf 84 = .ok (.ifCond .eq 58, 3) := by decide +kernel
theorem d12_stalkOf_87 : decode cX12_stalkOf 87 = .ok (.lload 5, 2) := by decide +kernel
theorem d12_stalkOf_89 : decode cX12_stalkOf 89 = .ok (.lload_n 0, 1) := by decide +kernel
theorem d12_stalkOf_90 : decode cX12_stalkOf 90 = .ok (.lcmp, 1) := by decide +kernel
theorem d12_stalkOf_91 : decode cX12_stalkOf 91 = .ok (.ifCond .ge 7, 3) := by decide +kernel
theorem d12_stalkOf_94 : decode cX12_stalkOf 94 = .ok (.iconst 0, 1) := by decide +kernel
theorem d12_stalkOf_95 : decode cX12_stalkOf 95 = .ok (.goto 4, 3) := by decide +kernel
theorem d12_stalkOf_98 : decode cX12_stalkOf 98 = .ok (.iconst 1, 1) := by decide +kernel
theorem d12_stalkOf_99 : decode cX12_stalkOf 99 = .ok (.istore 10, 2) := by decide +kernel
theorem d12_stalkOf_101 : decode cX12_stalkOf 101 = .ok (.iload 9, 2) := by decide +kernel
theorem d12_stalkOf_103 : decode cX12_stalkOf 103 = .ok (.iload_n 2, 1) := by decide +kernel
theorem d12_stalkOf_104 : decode cX12_stalkOf 104 = .ok (.if_icmp .ne 6, 3) := by decide +kernel
theorem d12_stalkOf_107 : decode cX12_stalkOf 107 = .ok (.iload 10, 2) := by decide +kernel
theorem d12_stalkOf_109 : decode cX12_stalkOf 109 = .ok (.ireturn, 1) := by decide +kernel
theorem d12_stalkOf_110 : decode cX12_stalkOf 110 = .ok (.lload 5, 2) := by decide +kernel
theorem d12_stalkOf_112 : decode cX12_stalkOf 112 = .ok (.iload 10, 2) := by decide +kernel
theorem d12_stalkOf_114 : decode cX12_stalkOf 114 = .ok (.ifCond .ne 8, 3) := by decide +kernel
theorem d12_stalkOf_117 : decode cX12_stalkOf 117 = .ok (.lload 7, 2) := by decide +kernel
theorem d12_stalkOf_119 : decode cX12_stalkOf 119 = .ok (.goto 6, 3) := by decide +kernel
theorem d12_stalkOf_122 : decode cX12_stalkOf 122 = .ok (.lload 7, 2) := by decide +kernel
theorem d12_stalkOf_124 : decode cX12_stalkOf 124 = .ok (.lneg, 1) := by decide +kernel
theorem d12_stalkOf_125 : decode cX12_stalkOf 125 = .ok (.ladd, 1) := by decide +kernel
theorem d12_stalkOf_126 : decode cX12_stalkOf 126 = .ok (.lstore 5, 2) := by decide +kernel
theorem d12_stalkOf_128 : decode cX12_stalkOf 128 = .ok (.lload 7, 2) := by decide +kernel
theorem d12_stalkOf_130 : decode cX12_stalkOf 130 = .ok (.ldc2_w 355, 3) := by decide +kernel
theorem d12_stalkOf_133 : decode cX12_stalkOf 133 = .ok (.ldiv, 1) := by decide +kernel
theorem d12_stalkOf_134 : decode cX12_stalkOf 134 = .ok (.lstore 7, 2) := by decide +kernel
theorem d12_stalkOf_136 : decode cX12_stalkOf 136 = .ok (.iinc 9 1, 3) := by decide +kernel
theorem d12_stalkOf_139 : decode cX12_stalkOf 139 = .ok (.goto (-59), 3) := by decide +kernel
theorem d12_stalkOf_142 : decode cX12_stalkOf 142 = .ok (.iconst (-1), 1) := by decide +kernel
theorem d12_stalkOf_143 : decode cX12_stalkOf 143 = .ok (.ireturn, 1) := by decide +kernel
abbrev K12_stalkOf : CK Int32 := (enI, (some .int), 11, 1, none)
noncomputable def F12_stalkOf_b125 (N : Nat) (k80 : Int64 × Int32 × Int64 × Int64 × Int32 × Ms → Option (Int32 × Ms)) (l0 : Int64) (l2 : Int32) (l7 : Int64) (l9 : Int32) (s0 : Int64) (s1 : Int64) (σ : Ms) : Option (Int32 × Ms) :=
  lt (s0 + s1) (fun x1 => ck (!((2 : Int64) == 0)) (lt (l7 / (2 : Int64)) (fun x2 => k80 (l0, l2, x1, x2, (l9 + (1 : Int32)), σ))))
noncomputable def F12_stalkOf_b99 (N : Nat) (k80 : Int64 × Int32 × Int64 × Int64 × Int32 × Ms → Option (Int32 × Ms)) (l0 : Int64) (l2 : Int32) (l5 : Int64) (l7 : Int64) (l9 : Int32) (s0 : Int32) (σ : Ms) : Option (Int32 × Ms) :=
  if l9 ≠ l2 then (if s0 ≠ 0 then (F12_stalkOf_b125 N k80 l0 l2 l7 l9 l5 (-l7) σ)
  else (F12_stalkOf_b125 N k80 l0 l2 l7 l9 l5 l7 σ))
  else (some (s0, σ))
noncomputable def F12_stalkOf_b80B (N : Nat) (k80 : Int64 × Int32 × Int64 × Int64 × Int32 × Ms → Option (Int32 × Ms)) (l0 : Int64) (l2 : Int32) (l5 : Int64) (l7 : Int64) (l9 : Int32) (σ : Ms) : Option (Int32 × Ms) :=
  if (lg_cmp l5 l0) = 0 then (some ((-1 : Int32), σ))
  else (if 0 ≤ (lg_cmp l5 l0) then (F12_stalkOf_b99 N k80 l0 l2 l5 l7 l9 (1 : Int32) σ)
  else (F12_stalkOf_b99 N k80 l0 l2 l5 l7 l9 (0 : Int32) σ))
noncomputable def F12_stalkOf_b80 (N : Nat) (l0 : Int64) (l2 : Int32) (l5 : Int64) (l7 : Int64) (l9 : Int32) (σ : Ms) : Option (Int32 × Ms) :=
  fx N (fun k x => F12_stalkOf_b80B N k x.1 x.2.1 x.2.2.1 x.2.2.2.1 x.2.2.2.2.1 x.2.2.2.2.2) (l0, l2, l5, l7, l9, σ)
noncomputable def F12_stalkOf_b37 (N : Nat) (l0 : Int64) (l2 : Int32) (l3 : Int32) (l4 : Int32) (s0 : Int32) (s1 : Int32) (σ : Ms) : Option (Int32 × Ms) :=
  if s1 ≤ s0 then (if l4 = 0 then (if l2 ≠ (l3 + (1 : Int32)) then (lt (((l3.toInt64) * (1048576 : Int64)) + (524288 : Int64)) (fun x3 => lt (l3 + (2 : Int32)) (fun x4 => F12_stalkOf_b80 N l0 l2 x3 (262144 : Int64) x4 σ)))
  else (some ((1 : Int32), σ)))
  else (some ((-1 : Int32), σ)))
  else (some ((0 : Int32), σ))
noncomputable def F12_stalkOf_b22 (N : Nat) (l0 : Int64) (l2 : Int32) (l3 : Int32) (s0 : Int32) (σ : Ms) : Option (Int32 × Ms) :=
  if s0 = 0 then (F12_stalkOf_b37 N l0 l2 l3 s0 l2 (l3 + (1 : Int32)) σ)
  else (F12_stalkOf_b37 N l0 l2 l3 s0 l2 l3 σ)
noncomputable def F12_stalkOf (N : Nat) (p0 : Int64) (p1 : Int32) (σ : Ms) : Option (Int32 × Ms) :=
  ck (!((1048576 : Int64) == 0)) (lt ((p0 / (1048576 : Int64)).toInt32) (fun x5 => ck (!((1048576 : Int64) == 0)) (if (lg_cmp (p0 - p0 / (1048576 : Int64) * (1048576 : Int64)) (0 : Int64)) ≠ 0 then (F12_stalkOf_b22 N p0 p1 x5 (0 : Int32) σ)
  else (F12_stalkOf_b22 N p0 p1 x5 (1 : Int32) σ))))
set_option maxRecDepth 100000 in
theorem v12_stalkOf_b125 (N : Nat) (k80 : Int64 × Int32 × Int64 × Int64 × Int32 × Ms → Option (Int32 × Ms)) (hk80 : ∀ (l0 : Int64) (l2 : Int32) (l5 : Int64) (l7 : Int64) (l9 : Int32) (τ : Ms), VF (K12_stalkOf) cX12_stalkOf RX12 (k80 (l0, l2, l5, l7, l9, τ)) τ 80 [(0, .long l0), (2, .int l2), (5, .long l5), (7, .long l7), (9, .int l9)] []) (l0 : Int64) (l2 : Int32) (l7 : Int64) (l9 : Int32) (s0 : Int64) (s1 : Int64) (σ : Ms) : VF (K12_stalkOf) cX12_stalkOf RX12 (F12_stalkOf_b125 N k80 l0 l2 l7 l9 s0 s1 σ) σ 125 [(0, .long l0), (2, .int l2), (7, .long l7), (9, .int l9)] [.long s1, .long s0] := by
  unfold F12_stalkOf_b125
  refine v_ladd d12_stalkOf_125 ?_
  refine v_ltl fun x1 => ?_
  refine v_lstore (lv' := [(5, .long x1), (0, .long l0), (2, .int l2), (7, .long l7), (9, .int l9)]) d12_stalkOf_126 (by decide) rfl ?_
  refine v_lload d12_stalkOf_128 3 rfl ?_
  refine v_ldc2 d12_stalkOf_130 klX12_355 ?_
  refine v_ldiv d12_stalkOf_133 ?_
  refine v_ltl fun x2 => ?_
  refine v_lstore (lv' := [(7, .long x2), (5, .long x1), (0, .long l0), (2, .int l2), (9, .int l9)]) d12_stalkOf_134 (by decide) rfl ?_
  refine v_iinc (lv' := [(9, .int (l9 + (1 : Int32))), (7, .long x2), (5, .long x1), (0, .long l0), (2, .int l2)]) d12_stalkOf_136 4 rfl (by rw [ki_1]) (by decide) rfl ?_
  refine v_goto (tgt := 80) d12_stalkOf_139 (by decide) ?_
  refine v_sub [3, 4, 2, 1, 0] rfl ?_
  exact hk80 l0 l2 x1 x2 (l9 + (1 : Int32)) σ
set_option maxRecDepth 100000 in
theorem v12_stalkOf_b99 (N : Nat) (k80 : Int64 × Int32 × Int64 × Int64 × Int32 × Ms → Option (Int32 × Ms)) (hk80 : ∀ (l0 : Int64) (l2 : Int32) (l5 : Int64) (l7 : Int64) (l9 : Int32) (τ : Ms), VF (K12_stalkOf) cX12_stalkOf RX12 (k80 (l0, l2, l5, l7, l9, τ)) τ 80 [(0, .long l0), (2, .int l2), (5, .long l5), (7, .long l7), (9, .int l9)] []) (l0 : Int64) (l2 : Int32) (l5 : Int64) (l7 : Int64) (l9 : Int32) (s0 : Int32) (σ : Ms) : VF (K12_stalkOf) cX12_stalkOf RX12 (F12_stalkOf_b99 N k80 l0 l2 l5 l7 l9 s0 σ) σ 99 [(0, .long l0), (2, .int l2), (5, .long l5), (7, .long l7), (9, .int l9)] [.int s0] := by
  unfold F12_stalkOf_b99
  refine v_istore (lv' := [(10, .int s0), (0, .long l0), (2, .int l2), (5, .long l5), (7, .long l7), (9, .int l9)]) d12_stalkOf_99 (by decide) rfl ?_
  refine v_iload d12_stalkOf_101 5 rfl ?_
  refine v_iload_n d12_stalkOf_103 2 rfl rfl ?_
  refine v_icmp_ne (tgt := 110) d12_stalkOf_104 (by decide) ?_ ?_
  · refine v_lload d12_stalkOf_110 3 rfl ?_
    refine v_iload d12_stalkOf_112 0 rfl ?_
    refine v_if_ne (tgt := 122) d12_stalkOf_114 (by decide) ?_ ?_
    · refine v_lload d12_stalkOf_122 4 rfl ?_
      refine v_lneg d12_stalkOf_124 ?_
      refine v_sub [1, 2, 4, 5] rfl ?_
      exact v12_stalkOf_b125 N k80 hk80 l0 l2 l7 l9 l5 (-l7) σ
    · refine v_lload d12_stalkOf_117 4 rfl ?_
      refine v_goto (tgt := 125) d12_stalkOf_119 (by decide) ?_
      refine v_sub [1, 2, 4, 5] rfl ?_
      exact v12_stalkOf_b125 N k80 hk80 l0 l2 l7 l9 l5 l7 σ
  · refine v_iload d12_stalkOf_107 0 rfl ?_
    exact v_iret d12_stalkOf_109 rfl rfl rfl
set_option maxRecDepth 100000 in
theorem v12_stalkOf_b80B (N : Nat) (k80 : Int64 × Int32 × Int64 × Int64 × Int32 × Ms → Option (Int32 × Ms)) (hk80 : ∀ (l0 : Int64) (l2 : Int32) (l5 : Int64) (l7 : Int64) (l9 : Int32) (τ : Ms), VF (K12_stalkOf) cX12_stalkOf RX12 (k80 (l0, l2, l5, l7, l9, τ)) τ 80 [(0, .long l0), (2, .int l2), (5, .long l5), (7, .long l7), (9, .int l9)] []) (l0 : Int64) (l2 : Int32) (l5 : Int64) (l7 : Int64) (l9 : Int32) (σ : Ms) : VF (K12_stalkOf) cX12_stalkOf RX12 (F12_stalkOf_b80B N k80 l0 l2 l5 l7 l9 σ) σ 80 [(0, .long l0), (2, .int l2), (5, .long l5), (7, .long l7), (9, .int l9)] [] := by
  unfold F12_stalkOf_b80B
  refine v_lload d12_stalkOf_80 2 rfl ?_
  refine v_lload_n d12_stalkOf_82 0 rfl rfl ?_
  refine v_lcmp d12_stalkOf_83 ?_
  refine v_if_eq (tgt := 142) d12_stalkOf_84 (by decide) ?_ ?_
  · refine v_iconst d12_stalkOf_142 ki_m1 ?_
    exact v_iret d12_stalkOf_143 rfl rfl rfl
  · refine v_lload d12_stalkOf_87 2 rfl ?_
    refine v_lload_n d12_stalkOf_89 0 rfl rfl ?_
    refine v_lcmp d12_stalkOf_90 ?_
    refine v_if_ge (tgt := 98) d12_stalkOf_91 (by decide) ?_ ?_
    · refine v_iconst d12_stalkOf_98 ki_1 ?_
      exact v12_stalkOf_b99 N k80 hk80 l0 l2 l5 l7 l9 (1 : Int32) σ
    · refine v_iconst d12_stalkOf_94 ki_0 ?_
      refine v_goto (tgt := 99) d12_stalkOf_95 (by decide) ?_
      exact v12_stalkOf_b99 N k80 hk80 l0 l2 l5 l7 l9 (0 : Int32) σ
theorem v12_stalkOf_b80 (N : Nat) (l0 : Int64) (l2 : Int32) (l5 : Int64) (l7 : Int64) (l9 : Int32) (σ : Ms) : VF (K12_stalkOf) cX12_stalkOf RX12 (F12_stalkOf_b80 N l0 l2 l5 l7 l9 σ) σ 80 [(0, .long l0), (2, .int l2), (5, .long l5), (7, .long l7), (9, .int l9)] [] := v_fx (σo := fun x => x.2.2.2.2.2) (lo := fun x => [(0, .long x.1), (2, .int x.2.1), (5, .long x.2.2.1), (7, .long x.2.2.2.1), (9, .int x.2.2.2.2.1)]) (fun k hk x => v12_stalkOf_b80B N k (fun l0 l2 l5 l7 l9 τ => hk (l0, l2, l5, l7, l9, τ)) x.1 x.2.1 x.2.2.1 x.2.2.2.1 x.2.2.2.2.1 x.2.2.2.2.2) N (l0, l2, l5, l7, l9, σ)
set_option maxRecDepth 100000 in
theorem v12_stalkOf_b37 (N : Nat) (l0 : Int64) (l2 : Int32) (l3 : Int32) (l4 : Int32) (s0 : Int32) (s1 : Int32) (σ : Ms) : VF (K12_stalkOf) cX12_stalkOf RX12 (F12_stalkOf_b37 N l0 l2 l3 l4 s0 s1 σ) σ 37 [(0, .long l0), (2, .int l2), (3, .int l3), (4, .int l4)] [.int s1, .int s0] := by
  unfold F12_stalkOf_b37
  refine v_icmp_ge (tgt := 42) d12_stalkOf_37 (by decide) ?_ ?_
  · refine v_iload d12_stalkOf_42 3 rfl ?_
    refine v_if_eq (tgt := 49) d12_stalkOf_44 (by decide) ?_ ?_
    · refine v_iload_n d12_stalkOf_49 1 rfl rfl ?_
      refine v_iload_n d12_stalkOf_50 2 rfl rfl ?_
      refine v_iconst d12_stalkOf_51 ki_1 ?_
      refine v_iadd d12_stalkOf_52 ?_
      refine v_icmp_ne (tgt := 58) d12_stalkOf_53 (by decide) ?_ ?_
      · refine v_iload_n d12_stalkOf_58 2 rfl rfl ?_
        refine v_i2l d12_stalkOf_59 ?_
        refine v_ldc2 d12_stalkOf_60 klX12_307 ?_
        refine v_lmul d12_stalkOf_63 ?_
        refine v_ldc2 d12_stalkOf_64 klX12_415 ?_
        refine v_ladd d12_stalkOf_67 ?_
        refine v_ltl fun x3 => ?_
        refine v_lstore (lv' := [(5, .long x3), (0, .long l0), (2, .int l2), (3, .int l3), (4, .int l4)]) d12_stalkOf_68 (by decide) rfl ?_
        refine v_ldc2 d12_stalkOf_70 klX12_417 ?_
        refine v_lstore (lv' := [(7, .long (262144 : Int64)), (5, .long x3), (0, .long l0), (2, .int l2), (3, .int l3), (4, .int l4)]) d12_stalkOf_73 (by decide) rfl ?_
        refine v_iload_n d12_stalkOf_75 4 rfl rfl ?_
        refine v_iconst d12_stalkOf_76 ki_2 ?_
        refine v_iadd d12_stalkOf_77 ?_
        refine v_lti fun x4 => ?_
        refine v_istore (lv' := [(9, .int x4), (7, .long (262144 : Int64)), (5, .long x3), (0, .long l0), (2, .int l2), (3, .int l3), (4, .int l4)]) d12_stalkOf_78 (by decide) rfl ?_
        refine v_sub [3, 4, 2, 1, 0] rfl ?_
        exact v12_stalkOf_b80 N l0 l2 x3 (262144 : Int64) x4 σ
      · refine v_iconst d12_stalkOf_56 ki_1 ?_
        exact v_iret d12_stalkOf_57 rfl rfl rfl
    · refine v_iconst d12_stalkOf_47 ki_m1 ?_
      exact v_iret d12_stalkOf_48 rfl rfl rfl
  · refine v_iconst d12_stalkOf_40 ki_0 ?_
    exact v_iret d12_stalkOf_41 rfl rfl rfl
set_option maxRecDepth 100000 in
theorem v12_stalkOf_b22 (N : Nat) (l0 : Int64) (l2 : Int32) (l3 : Int32) (s0 : Int32) (σ : Ms) : VF (K12_stalkOf) cX12_stalkOf RX12 (F12_stalkOf_b22 N l0 l2 l3 s0 σ) σ 22 [(0, .long l0), (2, .int l2), (3, .int l3)] [.int s0] := by
  unfold F12_stalkOf_b22
  refine v_istore (lv' := [(4, .int s0), (0, .long l0), (2, .int l2), (3, .int l3)]) d12_stalkOf_22 (by decide) rfl ?_
  refine v_iload_n d12_stalkOf_24 2 rfl rfl ?_
  refine v_iload d12_stalkOf_25 0 rfl ?_
  refine v_if_eq (tgt := 34) d12_stalkOf_27 (by decide) ?_ ?_
  · refine v_iload_n d12_stalkOf_34 3 rfl rfl ?_
    refine v_iconst d12_stalkOf_35 ki_1 ?_
    refine v_iadd d12_stalkOf_36 ?_
    refine v_sub [1, 2, 3, 0] rfl ?_
    exact v12_stalkOf_b37 N l0 l2 l3 s0 l2 (l3 + (1 : Int32)) σ
  · refine v_iload_n d12_stalkOf_30 3 rfl rfl ?_
    refine v_goto (tgt := 37) d12_stalkOf_31 (by decide) ?_
    refine v_sub [1, 2, 3, 0] rfl ?_
    exact v12_stalkOf_b37 N l0 l2 l3 s0 l2 l3 σ
set_option maxRecDepth 100000 in
theorem mc12_stalkOf (N : Nat) (p0 : Int64) (p1 : Int32) (σ : Ms) : MC enI yX12_stalkOf cX12_stalkOf 11 (some .int) 1 (F12_stalkOf N p0 p1 σ) σ [.long p0, .int p1] := by
  refine MC.i (by decide +kernel) (Nat.le_of_ble_eq_true rfl) ?_
  show VF (K12_stalkOf) cX12_stalkOf RX12 (F12_stalkOf N p0 p1 σ) σ 0 [(0, .long p0), (2, .int p1)] []
  unfold F12_stalkOf
  refine v_lload_n d12_stalkOf_0 0 rfl rfl ?_
  refine v_ldc2 d12_stalkOf_1 klX12_307 ?_
  refine v_ldiv d12_stalkOf_4 ?_
  refine v_l2i d12_stalkOf_5 ?_
  refine v_lti fun x5 => ?_
  refine v_istore_n (lv' := [(3, .int x5), (0, .long p0), (2, .int p1)]) d12_stalkOf_6 rfl (by decide) rfl ?_
  refine v_lload_n d12_stalkOf_7 1 rfl rfl ?_
  refine v_ldc2 d12_stalkOf_8 klX12_307 ?_
  refine v_lrem d12_stalkOf_11 ?_
  refine v_lconst d12_stalkOf_12 kl_0 ?_
  refine v_lcmp d12_stalkOf_13 ?_
  refine v_if_ne (tgt := 21) d12_stalkOf_14 (by decide) ?_ ?_
  · refine v_iconst d12_stalkOf_21 ki_0 ?_
    refine v_sub [1, 2, 0] rfl ?_
    exact v12_stalkOf_b22 N p0 p1 x5 (0 : Int32) σ
  · refine v_iconst d12_stalkOf_17 ki_1 ?_
    refine v_goto (tgt := 22) d12_stalkOf_18 (by decide) ?_
    refine v_sub [1, 2, 0] rfl ?_
    exact v12_stalkOf_b22 N p0 p1 x5 (1 : Int32) σ
theorem d12_stalkAt_0 : decode cX12_stalkAt 0 = .ok (.aload_n 0, 1) := by decide +kernel
theorem d12_stalkAt_1 : decode cX12_stalkAt 1 = .ok (.iconst 0, 1) := by decide +kernel
theorem d12_stalkAt_2 : decode cX12_stalkAt 2 = .ok (.putfield 53, 3) := by decide +kernel
theorem d12_stalkAt_5 : decode cX12_stalkAt 5 = .ok (.aload_n 0, 1) := by decide +kernel
theorem d12_stalkAt_6 : decode cX12_stalkAt 6 = .ok (.iconst 0, 1) := by decide +kernel
theorem d12_stalkAt_7 : decode cX12_stalkAt 7 = .ok (.putfield 56, 3) := by decide +kernel
theorem d12_stalkAt_10 : decode cX12_stalkAt 10 = .ok (.iload_n 1, 1) := by decide +kernel
theorem d12_stalkAt_11 : decode cX12_stalkAt 11 = .ok (.iload_n 2, 1) := by decide +kernel
theorem d12_stalkAt_12 : decode cX12_stalkAt 12 = .ok (.invokestatic 404, 3) := by decide +kernel
theorem d12_stalkAt_15 : decode cX12_stalkAt 15 = .ok (.ifCond .ne 9, 3) := by decide +kernel
theorem d12_stalkAt_18 : decode cX12_stalkAt 18 = .ok (.aload_n 0, 1) := by decide +kernel
theorem d12_stalkAt_19 : decode cX12_stalkAt 19 = .ok (.iconst 5, 1) := by decide +kernel
theorem d12_stalkAt_20 : decode cX12_stalkAt 20 = .ok (.invokevirtual 265, 3) := by decide +kernel
theorem d12_stalkAt_23 : decode cX12_stalkAt 23 = .ok (.ireturn, 1) := by decide +kernel
theorem d12_stalkAt_24 : decode cX12_stalkAt 24 = .ok (.iload_n 1, 1) := by decide +kernel
theorem d12_stalkAt_25 : decode cX12_stalkAt 25 = .ok (.iload_n 2, 1) := by decide +kernel
theorem d12_stalkAt_26 : decode cX12_stalkAt 26 = .ok (.invokestatic 407, 3) := by decide +kernel
theorem d12_stalkAt_29 : decode cX12_stalkAt 29 = .ok (.lstore 4, 2) := by decide +kernel
theorem d12_stalkAt_31 : decode cX12_stalkAt 31 = .ok (.iload_n 3, 1) := by decide +kernel
theorem d12_stalkAt_32 : decode cX12_stalkAt 32 = .ok (.ifCond .lt 10, 3) := by decide +kernel
theorem d12_stalkAt_35 : decode cX12_stalkAt 35 = .ok (.lload 4, 2) := by decide +kernel
theorem d12_stalkAt_37 : decode cX12_stalkAt 37 = .ok (.lconst 0, 1) := by decide +kernel
theorem d12_stalkAt_38 : decode cX12_stalkAt 38 = .ok (.lcmp, 1) := by decide +kernel
theorem d12_stalkAt_39 : decode cX12_stalkAt 39 = .ok (.ifCond .ne 7, 3) := by decide +kernel
theorem d12_stalkAt_42 : decode cX12_stalkAt 42 = .ok (.iconst (-1), 1) := by decide +kernel
theorem d12_stalkAt_43 : decode cX12_stalkAt 43 = .ok (.goto 12, 3) := by decide +kernel
theorem d12_stalkAt_46 : decode cX12_stalkAt 46 = .ok (.lload 4, 2) := by decide +kernel
theorem d12_stalkAt_48 : decode cX12_stalkAt 48 = .ok (.invokestatic 62, 3) := by decide +kernel
theorem d12_stalkAt_51 : decode cX12_stalkAt 51 = .ok (.iload_n 3, 1) := by decide +kernel
theorem d12_stalkAt_52 : decode cX12_stalkAt 52 = .ok (.invokestatic 419, 3) := by decide +kernel
theorem d12_stalkAt_55 : decode cX12_stalkAt 55 = .ok (.istore 6, 2) := by decide +kernel
theorem d12_stalkAt_57 : decode cX12_stalkAt 57 = .ok (.iload 6, 2) := by decide +kernel
theorem d12_stalkAt_59 : decode cX12_stalkAt 59 = .ok (.ifCond .ge 12, 3) := by decide +kernel
theorem d12_stalkAt_62 : decode cX12_stalkAt 62 = .ok (.aload_n 0, 1) := by decide +kernel
theorem d12_stalkAt_63 : decode cX12_stalkAt 63 = .ok (.bipush 8, 2) := by decide +kernel
theorem d12_stalkAt_65 : decode cX12_stalkAt 65 = .ok (.invokevirtual 265, 3) := by decide +kernel
theorem d12_stalkAt_68 : decode cX12_stalkAt 68 = .ok (.goto 19, 3) := by decide +kernel
theorem d12_stalkAt_71 : decode cX12_stalkAt 71 = .ok (.lload 4, 2) := by decide +kernel
theorem d12_stalkAt_73 : decode cX12_stalkAt 73 = .ok (.lconst 0, 1) := by decide +kernel
theorem d12_stalkAt_74 : decode cX12_stalkAt 74 = .ok (.lcmp, 1) := by decide +kernel
theorem d12_stalkAt_75 : decode cX12_stalkAt 75 = .ok (.ifCond .le 8, 3) := by decide +kernel
theorem d12_stalkAt_78 : decode cX12_stalkAt 78 = .ok (.iload 6, 2) := by decide +kernel
theorem d12_stalkAt_80 : decode cX12_stalkAt 80 = .ok (.goto 7, 3) := by decide +kernel
theorem d12_stalkAt_83 : decode cX12_stalkAt 83 = .ok (.iconst 1, 1) := by decide +kernel
theorem d12_stalkAt_84 : decode cX12_stalkAt 84 = .ok (.iload 6, 2) := by decide +kernel
theorem d12_stalkAt_86 : decode cX12_stalkAt 86 = .ok (.isub, 1) := by decide +kernel
theorem d12_stalkAt_87 : decode cX12_stalkAt 87 = .ok (.ireturn, 1) := by decide +kernel
abbrev K12_stalkAt : CK Int32 := (enI, (some .int), 7, 3, none)
noncomputable def F12_stalkAt_b55 (N : Nat) (l4 : Int64) (s0 : Int32) (σ : Ms) : Option (Int32 × Ms) :=
  if 0 ≤ s0 then (if (lg_cmp l4 (0 : Int64)) ≤ 0 then (some (((1 : Int32) - s0), σ))
  else (some (s0, σ)))
  else (bn (F12_refuse (8 : Int32) σ) (fun r1 t2 => some (r1, t2)))
noncomputable def F12_stalkAt_b42 (N : Nat) (l4 : Int64) (σ : Ms) : Option (Int32 × Ms) :=
  F12_stalkAt_b55 N l4 (-1 : Int32) σ
noncomputable def F12_stalkAt (N : Nat) (p0 : Int32) (p1 : Int32) (p2 : Int32) (σ : Ms) : Option (Int32 × Ms) :=
  lt (sI σ 0 1 (0 : Int32)) (fun t3 => lt (sI t3 0 0 (0 : Int32)) (fun t4 => bn (F12_isNumber p0 p1 t4) (fun r5 t6 => if r5 ≠ 0 then (bn (F12_partsOf p0 p1 t6) (fun r7 t8 => if p2 < 0 then (F12_stalkAt_b42 N r7 t8)
  else (if (lg_cmp r7 (0 : Int64)) ≠ 0 then (bn (FJ9_abs_067f4 r7 t8) (fun r9 t10 => bn (F12_stalkOf N r9 p2 t10) (fun r11 t12 => F12_stalkAt_b55 N r7 r11 t12)))
  else (F12_stalkAt_b42 N r7 t8))))
  else (bn (F12_refuse (5 : Int32) t6) (fun r13 t14 => some (r13, t14))))))
set_option maxRecDepth 100000 in
theorem v12_stalkAt_b55 (N : Nat) (l4 : Int64) (s0 : Int32) (σ : Ms) : VF (K12_stalkAt) cX12_stalkAt RX12 (F12_stalkAt_b55 N l4 s0 σ) σ 55 [(0, .ref 0), (4, .long l4)] [.int s0] := by
  unfold F12_stalkAt_b55
  refine v_istore (lv' := [(6, .int s0), (0, .ref 0), (4, .long l4)]) d12_stalkAt_55 (by decide) rfl ?_
  refine v_iload d12_stalkAt_57 0 rfl ?_
  refine v_if_ge (tgt := 71) d12_stalkAt_59 (by decide) ?_ ?_
  · refine v_lload d12_stalkAt_71 2 rfl ?_
    refine v_lconst d12_stalkAt_73 kl_0 ?_
    refine v_lcmp d12_stalkAt_74 ?_
    refine v_if_le (tgt := 83) d12_stalkAt_75 (by decide) ?_ ?_
    · refine v_iconst d12_stalkAt_83 ki_1 ?_
      refine v_iload d12_stalkAt_84 0 rfl ?_
      refine v_isub d12_stalkAt_86 ?_
      exact v_iret d12_stalkAt_87 rfl rfl rfl
    · refine v_iload d12_stalkAt_78 0 rfl ?_
      refine v_goto (tgt := 87) d12_stalkAt_80 (by decide) ?_
      exact v_iret d12_stalkAt_87 rfl rfl rfl
  · refine v_aload_n d12_stalkAt_62 1 rfl rfl ?_
    refine v_bipush d12_stalkAt_63 kb_8 ?_
    refine v_callV1i d12_stalkAt_65 (mc12_refuse (8 : Int32) σ) yv12_refuse mlX12_265 (Recv.obj ic_0 rfl) (by decide) (Nat.le_of_ble_eq_true rfl) fun r1 t2 => ?_
    refine v_goto (tgt := 87) d12_stalkAt_68 (by decide) ?_
    exact v_iret d12_stalkAt_87 rfl rfl rfl
set_option maxRecDepth 100000 in
theorem v12_stalkAt_b42 (N : Nat) (l4 : Int64) (σ : Ms) : VF (K12_stalkAt) cX12_stalkAt RX12 (F12_stalkAt_b42 N l4 σ) σ 42 [(0, .ref 0), (4, .long l4)] [] := by
  unfold F12_stalkAt_b42
  refine v_iconst d12_stalkAt_42 ki_m1 ?_
  refine v_goto (tgt := 55) d12_stalkAt_43 (by decide) ?_
  exact v12_stalkAt_b55 N l4 (-1 : Int32) σ
set_option maxRecDepth 100000 in
theorem mc12_stalkAt (N : Nat) (p0 : Int32) (p1 : Int32) (p2 : Int32) (σ : Ms) : MC enI yX12_stalkAt cX12_stalkAt 7 (some .int) 3 (F12_stalkAt N p0 p1 p2 σ) σ [.ref 0, .int p0, .int p1, .int p2] := by
  refine MC.i (by decide +kernel) (Nat.le_of_ble_eq_true rfl) ?_
  show VF (K12_stalkAt) cX12_stalkAt RX12 (F12_stalkAt N p0 p1 p2 σ) σ 0 [(0, .ref 0), (1, .int p0), (2, .int p1), (3, .int p2)] []
  unfold F12_stalkAt
  refine v_aload_n d12_stalkAt_0 0 rfl rfl ?_
  refine v_iconst d12_stalkAt_1 ki_0 ?_
  refine v_putI d12_stalkAt_2 faX12_53 fp9_1 ic_0 ?_
  refine v_lts fun t3 => ?_
  refine v_aload_n d12_stalkAt_5 0 rfl rfl ?_
  refine v_iconst d12_stalkAt_6 ki_0 ?_
  refine v_putI d12_stalkAt_7 faX12_56 fp9_0 ic_0 ?_
  refine v_lts fun t4 => ?_
  refine v_iload_n d12_stalkAt_10 1 rfl rfl ?_
  refine v_iload_n d12_stalkAt_11 2 rfl rfl ?_
  refine v_callS2i d12_stalkAt_12 (mc12_isNumber p0 p1 t4) ys12_isNumber mlX12_404 (by decide) (Nat.le_of_ble_eq_true rfl) fun r5 t6 => ?_
  refine v_if_ne (tgt := 24) d12_stalkAt_15 (by decide) ?_ ?_
  · refine v_iload_n d12_stalkAt_24 1 rfl rfl ?_
    refine v_iload_n d12_stalkAt_25 2 rfl rfl ?_
    refine v_callS2l d12_stalkAt_26 (mc12_partsOf p0 p1 t6) ys12_partsOf mlX12_407 (by decide) (Nat.le_of_ble_eq_true rfl) fun r7 t8 => ?_
    refine v_lstore (lv' := [(4, .long r7), (0, .ref 0), (1, .int p0), (2, .int p1), (3, .int p2)]) d12_stalkAt_29 (by decide) rfl ?_
    refine v_iload_n d12_stalkAt_31 4 rfl rfl ?_
    refine v_if_lt (tgt := 42) d12_stalkAt_32 (by decide) ?_ ?_
    · refine v_sub [1, 0] rfl ?_
      exact v12_stalkAt_b42 N r7 t8
    · refine v_lload d12_stalkAt_35 0 rfl ?_
      refine v_lconst d12_stalkAt_37 kl_0 ?_
      refine v_lcmp d12_stalkAt_38 ?_
      refine v_if_ne (tgt := 46) d12_stalkAt_39 (by decide) ?_ ?_
      · refine v_lload d12_stalkAt_46 0 rfl ?_
        refine v_callS1l d12_stalkAt_48 (mcJ9_abs_067f4 r7 t8) ysJ9_abs_067f4 mlX12_62 (by decide) (Nat.le_of_ble_eq_true rfl) fun r9 t10 => ?_
        refine v_iload_n d12_stalkAt_51 4 rfl rfl ?_
        refine v_callS2i d12_stalkAt_52 (mc12_stalkOf N r9 p2 t10) ys12_stalkOf mlX12_419 (by decide) (Nat.le_of_ble_eq_true rfl) fun r11 t12 => ?_
        refine v_sub [1, 0] rfl ?_
        exact v12_stalkAt_b55 N r7 r11 t12
      · refine v_sub [1, 0] rfl ?_
        exact v12_stalkAt_b42 N r7 t8
  · refine v_aload_n d12_stalkAt_18 0 rfl rfl ?_
    refine v_iconst d12_stalkAt_19 ki_5 ?_
    refine v_callV1i d12_stalkAt_20 (mc12_refuse (5 : Int32) t6) yv12_refuse mlX12_265 (Recv.obj ic_0 rfl) (by decide) (Nat.le_of_ble_eq_true rfl) fun r13 t14 => ?_
    exact v_iret d12_stalkAt_23 rfl rfl rfl
theorem d12_stalkWorth_0 : decode cX12_stalkWorth 0 = .ok (.aload_n 0, 1) := by decide +kernel
theorem d12_stalkWorth_1 : decode cX12_stalkWorth 1 = .ok (.iconst 0, 1) := by decide +kernel
theorem d12_stalkWorth_2 : decode cX12_stalkWorth 2 = .ok (.putfield 53, 3) := by decide +kernel
theorem d12_stalkWorth_5 : decode cX12_stalkWorth 5 = .ok (.aload_n 0, 1) := by decide +kernel
theorem d12_stalkWorth_6 : decode cX12_stalkWorth 6 = .ok (.iconst 0, 1) := by decide +kernel
theorem d12_stalkWorth_7 : decode cX12_stalkWorth 7 = .ok (.putfield 56, 3) := by decide +kernel
theorem d12_stalkWorth_10 : decode cX12_stalkWorth 10 = .ok (.aload_n 0, 1) := by decide +kernel
theorem d12_stalkWorth_11 : decode cX12_stalkWorth 11 = .ok (.iload_n 1, 1) := by decide +kernel
theorem d12_stalkWorth_12 : decode cX12_stalkWorth 12 = .ok (.invokevirtual 300, 3) := by decide +kernel
theorem d12_stalkWorth_15 : decode cX12_stalkWorth 15 = .ok (.ifCond .ne 9, 3) := by decide +kernel
theorem d12_stalkWorth_18 : decode cX12_stalkWorth 18 = .ok (.aload_n 0, 1) := by decide +kernel
theorem d12_stalkWorth_19 : decode cX12_stalkWorth 19 = .ok (.iconst 1, 1) := by decide +kernel
theorem d12_stalkWorth_20 : decode cX12_stalkWorth 20 = .ok (.invokevirtual 68, 3) := by decide +kernel
theorem d12_stalkWorth_23 : decode cX12_stalkWorth 23 = .ok (.ireturn, 1) := by decide +kernel
theorem d12_stalkWorth_24 : decode cX12_stalkWorth 24 = .ok (.aload_n 0, 1) := by decide +kernel
theorem d12_stalkWorth_25 : decode cX12_stalkWorth 25 = .ok (.getfield 17, 3) := by decide +kernel
theorem d12_stalkWorth_28 : decode cX12_stalkWorth 28 = .ok (.iload_n 1, 1) := by decide +kernel
theorem d12_stalkWorth_29 : decode cX12_stalkWorth 29 = .ok (.iaload, 1) := by decide +kernel
theorem d12_stalkWorth_30 : decode cX12_stalkWorth 30 = .ok (.ifCond .ge 9, 3) := by decide +kernel
theorem d12_stalkWorth_33 : decode cX12_stalkWorth 33 = .ok (.aload_n 0, 1) := by decide +kernel
theorem d12_stalkWorth_34 : decode cX12_stalkWorth 34 = .ok (.iconst 3, 1) := by decide +kernel
theorem d12_stalkWorth_35 : decode cX12_stalkWorth 35 = .ok (.invokevirtual 68, 3) := by decide +kernel
theorem d12_stalkWorth_38 : decode cX12_stalkWorth 38 = .ok (.ireturn, 1) := by decide +kernel
theorem d12_stalkWorth_39 : decode cX12_stalkWorth 39 = .ok (.aload_n 0, 1) := by decide +kernel
theorem d12_stalkWorth_40 : decode cX12_stalkWorth 40 = .ok (.getfield 17, 3) := by decide +kernel
theorem d12_stalkWorth_43 : decode cX12_stalkWorth 43 = .ok (.iload_n 1, 1) := by decide +kernel
theorem d12_stalkWorth_44 : decode cX12_stalkWorth 44 = .ok (.iaload, 1) := by decide +kernel
theorem d12_stalkWorth_45 : decode cX12_stalkWorth 45 = .ok (.iload_n 2, 1) := by decide +kernel
theorem d12_stalkWorth_46 : decode cX12_stalkWorth 46 = .ok (.if_icmp .ge 9, 3) := by decide +kernel
theorem d12_stalkWorth_49 : decode cX12_stalkWorth 49 = .ok (.aload_n 0, 1) := by decide +kernel
theorem d12_stalkWorth_50 : decode cX12_stalkWorth 50 = .ok (.iconst 4, 1) := by decide +kernel
theorem d12_stalkWorth_51 : decode cX12_stalkWorth 51 = .ok (.invokevirtual 68, 3) := by decide +kernel
theorem d12_stalkWorth_54 : decode cX12_stalkWorth 54 = .ok (.ireturn, 1) := by decide +kernel
theorem d12_stalkWorth_55 : decode cX12_stalkWorth 55 = .ok (.iload_n 2, 1) := by decide +kernel
theorem d12_stalkWorth_56 : decode cX12_stalkWorth 56 = .ok (.i2l, 1) := by decide +kernel
theorem d12_stalkWorth_57 : decode cX12_stalkWorth 57 = .ok (.lconst 0, 1) := by decide +kernel
theorem d12_stalkWorth_58 : decode cX12_stalkWorth 58 = .ok (.ldc2_w 360, 3) := by decide +kernel
theorem d12_stalkWorth_61 : decode cX12_stalkWorth 61 = .ok (.invokestatic 88, 3) := by decide +kernel
theorem d12_stalkWorth_64 : decode cX12_stalkWorth 64 = .ok (.ifCond .ne 9, 3) := by decide +kernel
theorem d12_stalkWorth_67 : decode cX12_stalkWorth 67 = .ok (.aload_n 0, 1) := by decide +kernel
theorem d12_stalkWorth_68 : decode cX12_stalkWorth 68 = .ok (.iconst 5, 1) := by decide +kernel
theorem d12_stalkWorth_69 : decode cX12_stalkWorth 69 = .ok (.invokevirtual 68, 3) := by decide +kernel
theorem d12_stalkWorth_72 : decode cX12_stalkWorth 72 = .ok (.ireturn, 1) := by decide +kernel
theorem d12_stalkWorth_73 : decode cX12_stalkWorth 73 = .ok (.iconst 0, 1) := by decide +kernel
theorem d12_stalkWorth_74 : decode cX12_stalkWorth 74 = .ok (.istore_n 3, 1) := by decide +kernel
theorem d12_stalkWorth_75 : decode cX12_stalkWorth 75 = .ok (.iload_n 3, 1) := by decide +kernel
theorem d12_stalkWorth_76 : decode cX12_stalkWorth 76 = .ok (.iload_n 2, 1) := by decide +kernel
theorem d12_stalkWorth_77 : decode cX12_stalkWorth 77 = .ok (.if_icmp .ge 29, 3) := by decide +kernel
theorem d12_stalkWorth_80 : decode cX12_stalkWorth 80 = .ok (.aload_n 0, 1) := by decide +kernel
theorem d12_stalkWorth_81 : decode cX12_stalkWorth 81 = .ok (.iload_n 1, 1) := by decide +kernel
theorem d12_stalkWorth_82 : decode cX12_stalkWorth 82 = .ok (.iload_n 3, 1) := by decide +kernel
theorem d12_stalkWorth_83 : decode cX12_stalkWorth 83 = .ok (.invokevirtual 423, 3) := by decide +kernel
theorem d12_stalkWorth_86 : decode cX12_stalkWorth 86 = .ok (.lconst 0, 1) := by decide +kernel
theorem d12_stalkWorth_87 : decode cX12_stalkWorth 87 = .ok (.lconst 1, 1) := by decide +kernel
theorem d12_stalkWorth_88 : decode cX12_stalkWorth 88 = .ok (.invokestatic 88, 3) := by decide +kernel
theorem d12_stalkWorth_91 : decode cX12_stalkWorth 91 = .ok (.ifCond .ne 9, 3) := by decide +kernel
theorem d12_stalkWorth_94 : decode cX12_stalkWorth 94 = .ok (.aload_n 0, 1) := by decide +kernel
theorem d12_stalkWorth_95 : decode cX12_stalkWorth 95 = .ok (.iconst 5, 1) := by decide +kernel
theorem d12_stalkWorth_96 : decode cX12_stalkWorth 96 = .ok (.invokevirtual 68, 3) := by decide +kernel
theorem d12_stalkWorth_99 : decode cX12_stalkWorth 99 = .ok (.ireturn, 1) := by decide +kernel
theorem d12_stalkWorth_100 : decode cX12_stalkWorth 100 = .ok (.iinc 3 1, 3) := by decide +kernel
theorem d12_stalkWorth_103 : decode cX12_stalkWorth 103 = .ok (.goto (-28), 3) := by decide +kernel
theorem d12_stalkWorth_106 : decode cX12_stalkWorth 106 = .ok (.lconst 0, 1) := by decide +kernel
theorem d12_stalkWorth_107 : decode cX12_stalkWorth 107 = .ok (.lstore_n 3, 1) := by decide +kernel
theorem d12_stalkWorth_108 : decode cX12_stalkWorth 108 = .ok (.iload_n 2, 1) := by decide +kernel
theorem d12_stalkWorth_109 : decode cX12_stalkWorth 109 = .ok (.iconst 1, 1) := by decide +kernel
theorem d12_stalkWorth_110 : decode cX12_stalkWorth 110 = .ok (.isub, 1) := by decide +kernel
theorem d12_stalkWorth_111 : decode cX12_stalkWorth 111 = .ok (.istore 5, 2) := by decide +kernel
theorem d12_stalkWorth_113 : decode cX12_stalkWorth 113 = .ok (.iload 5, 2) := by decide +kernel
theorem d12_stalkWorth_115 : decode cX12_stalkWorth 115 = .ok (.ifCond .lt 22, 3) := by decide +kernel
theorem d12_stalkWorth_118 : decode cX12_stalkWorth 118 = .ok (.aload_n 0, 1) := by decide +kernel
theorem d12_stalkWorth_119 : decode cX12_stalkWorth 119 = .ok (.iload_n 1, 1) := by decide +kernel
theorem d12_stalkWorth_120 : decode cX12_stalkWorth 120 = .ok (.iload 5, 2) := by decide +kernel
theorem d12_stalkWorth_122 : decode cX12_stalkWorth 122 = .ok (.invokevirtual 423, 3) := by decide +kernel
theorem d12_stalkWorth_125 : decode cX12_stalkWorth 125 = .ok (.l2i, 1) := by decide +kernel
theorem d12_stalkWorth_126 : decode cX12_stalkWorth 126 = .ok (.lload_n 3, 1) := by decide +kernel
theorem d12_stalkWorth_127 : decode cX12_stalkWorth 127 = .ok (.invokestatic 318, 3) := by decide +kernel
theorem d12_stalkWorth_130 : decode cX12_stalkWorth 130 = .ok (.lstore_n 3, 1) := by decide +kernel
theorem d12_stalkWorth_131 : decode cX12_stalkWorth 131 = .ok (.iinc 5 (-1), 3) := by decide +kernel
theorem d12_stalkWorth_134 : decode cX12_stalkWorth 134 = .ok (.goto (-21), 3) := by decide +kernel
theorem d12_stalkWorth_137 : decode cX12_stalkWorth 137 = .ok (.aload_n 0, 1) := by decide +kernel
theorem d12_stalkWorth_138 : decode cX12_stalkWorth 138 = .ok (.lload_n 3, 1) := by decide +kernel
theorem d12_stalkWorth_139 : decode cX12_stalkWorth 139 = .ok (.ldc2_w 307, 3) := by decide +kernel
theorem d12_stalkWorth_142 : decode cX12_stalkWorth 142 = .ok (.invokevirtual 327, 3) := by decide +kernel
theorem d12_stalkWorth_145 : decode cX12_stalkWorth 145 = .ok (.ireturn, 1) := by decide +kernel
abbrev K12_stalkWorth : CK Int32 := (enI, (some .boolean), 6, 3, none)
noncomputable def F12_stalkWorth_b113B (N : Nat) (k113 : Int32 × Int64 × Int32 × Ms → Option (Int32 × Ms)) (l1 : Int32) (l3 : Int64) (l5 : Int32) (σ : Ms) : Option (Int32 × Ms) :=
  if l5 < 0 then (bn (F12_fraction N l3 (1048576 : Int64) σ) (fun r1 t2 => ck (nkB r1) (some (r1, t2))))
  else (bn (F12_numberOf l1 l5 σ) (fun r3 t4 => bn (F12_branchWorth N (r3.toInt32) l3 t4) (fun r5 t6 => k113 (l1, r5, (l5 + (-1 : Int32)), t6))))
noncomputable def F12_stalkWorth_b113 (N : Nat) (l1 : Int32) (l3 : Int64) (l5 : Int32) (σ : Ms) : Option (Int32 × Ms) :=
  fx N (fun k x => F12_stalkWorth_b113B N k x.1 x.2.1 x.2.2.1 x.2.2.2) (l1, l3, l5, σ)
noncomputable def F12_stalkWorth_b75B (N : Nat) (k75 : Int32 × Int32 × Int32 × Ms → Option (Int32 × Ms)) (l1 : Int32) (l2 : Int32) (l3 : Int32) (σ : Ms) : Option (Int32 × Ms) :=
  if l2 ≤ l3 then (lt (l2 - (1 : Int32)) (fun x7 => F12_stalkWorth_b113 N l1 (0 : Int64) x7 σ))
  else (bn (F12_numberOf l1 l3 σ) (fun r8 t9 => bn (F12_isIn r8 (0 : Int64) (1 : Int64) t9) (fun r10 t11 => if r10 ≠ 0 then (k75 (l1, l2, (l3 + (1 : Int32)), t11))
  else (bn (F12_no (5 : Int32) t11) (fun r12 t13 => ck (nkB r12) (some (r12, t13)))))))
noncomputable def F12_stalkWorth_b75 (N : Nat) (l1 : Int32) (l2 : Int32) (l3 : Int32) (σ : Ms) : Option (Int32 × Ms) :=
  fx N (fun k x => F12_stalkWorth_b75B N k x.1 x.2.1 x.2.2.1 x.2.2.2) (l1, l2, l3, σ)
noncomputable def F12_stalkWorth (N : Nat) (p0 : Int32) (p1 : Int32) (σ : Ms) : Option (Int32 × Ms) :=
  lt (sI σ 0 1 (0 : Int32)) (fun t14 => lt (sI t14 0 0 (0 : Int32)) (fun t15 => bn (F12_isTray p0 t15) (fun r16 t17 => if r16 ≠ 0 then (ck (ixb p0 4) (if 0 ≤ (t17.1 2 p0.toNatClampNeg) then (ck (ixb p0 4) (if p1 ≤ (t17.1 2 p0.toNatClampNeg) then (bn (F12_isIn (p1.toInt64) (0 : Int64) (20 : Int64) t17) (fun r18 t19 => if r18 ≠ 0 then (F12_stalkWorth_b75 N p0 p1 (0 : Int32) t19)
  else (bn (F12_no (5 : Int32) t19) (fun r20 t21 => ck (nkB r20) (some (r20, t21))))))
  else (bn (F12_no (4 : Int32) t17) (fun r22 t23 => ck (nkB r22) (some (r22, t23))))))
  else (bn (F12_no (3 : Int32) t17) (fun r24 t25 => ck (nkB r24) (some (r24, t25))))))
  else (bn (F12_no (1 : Int32) t17) (fun r26 t27 => ck (nkB r26) (some (r26, t27)))))))
set_option maxRecDepth 100000 in
theorem v12_stalkWorth_b113B (N : Nat) (k113 : Int32 × Int64 × Int32 × Ms → Option (Int32 × Ms)) (hk113 : ∀ (l1 : Int32) (l3 : Int64) (l5 : Int32) (τ : Ms), VF (K12_stalkWorth) cX12_stalkWorth RX12 (k113 (l1, l3, l5, τ)) τ 113 [(0, .ref 0), (1, .int l1), (3, .long l3), (5, .int l5)] []) (l1 : Int32) (l3 : Int64) (l5 : Int32) (σ : Ms) : VF (K12_stalkWorth) cX12_stalkWorth RX12 (F12_stalkWorth_b113B N k113 l1 l3 l5 σ) σ 113 [(0, .ref 0), (1, .int l1), (3, .long l3), (5, .int l5)] [] := by
  unfold F12_stalkWorth_b113B
  refine v_iload d12_stalkWorth_113 3 rfl ?_
  refine v_if_lt (tgt := 137) d12_stalkWorth_115 (by decide) ?_ ?_
  · refine v_aload_n d12_stalkWorth_137 0 rfl rfl ?_
    refine v_lload_n d12_stalkWorth_138 2 rfl rfl ?_
    refine v_ldc2 d12_stalkWorth_139 klX12_307 ?_
    refine v_callV2i d12_stalkWorth_142 (mc12_fraction N l3 (1048576 : Int64) σ) yv12_fraction mlX12_327 (Recv.obj ic_0 rfl) (by decide) (Nat.le_of_ble_eq_true rfl) fun r1 t2 => ?_
    exact v_iretB d12_stalkWorth_145 rfl rfl
  · refine v_aload_n d12_stalkWorth_118 0 rfl rfl ?_
    refine v_iload_n d12_stalkWorth_119 1 rfl rfl ?_
    refine v_iload d12_stalkWorth_120 3 rfl ?_
    refine v_callV2l d12_stalkWorth_122 (mc12_numberOf l1 l5 σ) yv12_numberOf mlX12_423 (Recv.obj ic_0 rfl) (by decide) (Nat.le_of_ble_eq_true rfl) fun r3 t4 => ?_
    refine v_l2i d12_stalkWorth_125 ?_
    refine v_lload_n d12_stalkWorth_126 2 rfl rfl ?_
    refine v_callS2l d12_stalkWorth_127 (mc12_branchWorth N (r3.toInt32) l3 t4) ys12_branchWorth mlX12_318 (by decide) (Nat.le_of_ble_eq_true rfl) fun r5 t6 => ?_
    refine v_lstore_n (lv' := [(3, .long r5), (0, .ref 0), (1, .int l1), (5, .int l5)]) d12_stalkWorth_130 rfl (by decide) rfl ?_
    refine v_iinc (lv' := [(5, .int (l5 + (-1 : Int32))), (3, .long r5), (0, .ref 0), (1, .int l1)]) d12_stalkWorth_131 3 rfl (by rw [ki_m1]) (by decide) rfl ?_
    refine v_goto (tgt := 113) d12_stalkWorth_134 (by decide) ?_
    refine v_sub [2, 3, 1, 0] rfl ?_
    exact hk113 l1 r5 (l5 + (-1 : Int32)) t6
theorem v12_stalkWorth_b113 (N : Nat) (l1 : Int32) (l3 : Int64) (l5 : Int32) (σ : Ms) : VF (K12_stalkWorth) cX12_stalkWorth RX12 (F12_stalkWorth_b113 N l1 l3 l5 σ) σ 113 [(0, .ref 0), (1, .int l1), (3, .long l3), (5, .int l5)] [] := v_fx (σo := fun x => x.2.2.2) (lo := fun x => [(0, .ref 0), (1, .int x.1), (3, .long x.2.1), (5, .int x.2.2.1)]) (fun k hk x => v12_stalkWorth_b113B N k (fun l1 l3 l5 τ => hk (l1, l3, l5, τ)) x.1 x.2.1 x.2.2.1 x.2.2.2) N (l1, l3, l5, σ)
set_option maxRecDepth 100000 in
theorem v12_stalkWorth_b75B (N : Nat) (k75 : Int32 × Int32 × Int32 × Ms → Option (Int32 × Ms)) (hk75 : ∀ (l1 : Int32) (l2 : Int32) (l3 : Int32) (τ : Ms), VF (K12_stalkWorth) cX12_stalkWorth RX12 (k75 (l1, l2, l3, τ)) τ 75 [(0, .ref 0), (1, .int l1), (2, .int l2), (3, .int l3)] []) (l1 : Int32) (l2 : Int32) (l3 : Int32) (σ : Ms) : VF (K12_stalkWorth) cX12_stalkWorth RX12 (F12_stalkWorth_b75B N k75 l1 l2 l3 σ) σ 75 [(0, .ref 0), (1, .int l1), (2, .int l2), (3, .int l3)] [] := by
  unfold F12_stalkWorth_b75B
  refine v_iload_n d12_stalkWorth_75 3 rfl rfl ?_
  refine v_iload_n d12_stalkWorth_76 2 rfl rfl ?_
  refine v_icmp_ge (tgt := 106) d12_stalkWorth_77 (by decide) ?_ ?_
  · refine v_lconst d12_stalkWorth_106 kl_0 ?_
    refine v_lstore_n (lv' := [(3, .long (0 : Int64)), (0, .ref 0), (1, .int l1), (2, .int l2)]) d12_stalkWorth_107 rfl (by decide) rfl ?_
    refine v_iload_n d12_stalkWorth_108 3 rfl rfl ?_
    refine v_iconst d12_stalkWorth_109 ki_1 ?_
    refine v_isub d12_stalkWorth_110 ?_
    refine v_lti fun x7 => ?_
    refine v_istore (lv' := [(5, .int x7), (3, .long (0 : Int64)), (0, .ref 0), (1, .int l1), (2, .int l2)]) d12_stalkWorth_111 (by decide) rfl ?_
    refine v_sub [2, 3, 1, 0] rfl ?_
    exact v12_stalkWorth_b113 N l1 (0 : Int64) x7 σ
  · refine v_aload_n d12_stalkWorth_80 0 rfl rfl ?_
    refine v_iload_n d12_stalkWorth_81 1 rfl rfl ?_
    refine v_iload_n d12_stalkWorth_82 3 rfl rfl ?_
    refine v_callV2l d12_stalkWorth_83 (mc12_numberOf l1 l3 σ) yv12_numberOf mlX12_423 (Recv.obj ic_0 rfl) (by decide) (Nat.le_of_ble_eq_true rfl) fun r8 t9 => ?_
    refine v_lconst d12_stalkWorth_86 kl_0 ?_
    refine v_lconst d12_stalkWorth_87 kl_1 ?_
    refine v_callS3i d12_stalkWorth_88 (mc12_isIn r8 (0 : Int64) (1 : Int64) t9) ys12_isIn mlX12_88 (by decide) (Nat.le_of_ble_eq_true rfl) fun r10 t11 => ?_
    refine v_if_ne (tgt := 100) d12_stalkWorth_91 (by decide) ?_ ?_
    · refine v_iinc (lv' := [(3, .int (l3 + (1 : Int32))), (0, .ref 0), (1, .int l1), (2, .int l2)]) d12_stalkWorth_100 3 rfl (by rw [ki_1]) (by decide) rfl ?_
      refine v_goto (tgt := 75) d12_stalkWorth_103 (by decide) ?_
      refine v_sub [1, 2, 3, 0] rfl ?_
      exact hk75 l1 l2 (l3 + (1 : Int32)) t11
    · refine v_aload_n d12_stalkWorth_94 0 rfl rfl ?_
      refine v_iconst d12_stalkWorth_95 ki_5 ?_
      refine v_callV1i d12_stalkWorth_96 (mc12_no (5 : Int32) t11) yv12_no mlX12_68 (Recv.obj ic_0 rfl) (by decide) (Nat.le_of_ble_eq_true rfl) fun r12 t13 => ?_
      exact v_iretB d12_stalkWorth_99 rfl rfl
theorem v12_stalkWorth_b75 (N : Nat) (l1 : Int32) (l2 : Int32) (l3 : Int32) (σ : Ms) : VF (K12_stalkWorth) cX12_stalkWorth RX12 (F12_stalkWorth_b75 N l1 l2 l3 σ) σ 75 [(0, .ref 0), (1, .int l1), (2, .int l2), (3, .int l3)] [] := v_fx (σo := fun x => x.2.2.2) (lo := fun x => [(0, .ref 0), (1, .int x.1), (2, .int x.2.1), (3, .int x.2.2.1)]) (fun k hk x => v12_stalkWorth_b75B N k (fun l1 l2 l3 τ => hk (l1, l2, l3, τ)) x.1 x.2.1 x.2.2.1 x.2.2.2) N (l1, l2, l3, σ)
set_option maxRecDepth 100000 in
theorem mc12_stalkWorth (N : Nat) (p0 : Int32) (p1 : Int32) (σ : Ms) : MC enI yX12_stalkWorth cX12_stalkWorth 6 (some .boolean) 3 (F12_stalkWorth N p0 p1 σ) σ [.ref 0, .int p0, .int p1] := by
  refine MC.i (by decide +kernel) (Nat.le_of_ble_eq_true rfl) ?_
  show VF (K12_stalkWorth) cX12_stalkWorth RX12 (F12_stalkWorth N p0 p1 σ) σ 0 [(0, .ref 0), (1, .int p0), (2, .int p1)] []
  unfold F12_stalkWorth
  refine v_aload_n d12_stalkWorth_0 0 rfl rfl ?_
  refine v_iconst d12_stalkWorth_1 ki_0 ?_
  refine v_putI d12_stalkWorth_2 faX12_53 fp9_1 ic_0 ?_
  refine v_lts fun t14 => ?_
  refine v_aload_n d12_stalkWorth_5 0 rfl rfl ?_
  refine v_iconst d12_stalkWorth_6 ki_0 ?_
  refine v_putI d12_stalkWorth_7 faX12_56 fp9_0 ic_0 ?_
  refine v_lts fun t15 => ?_
  refine v_aload_n d12_stalkWorth_10 0 rfl rfl ?_
  refine v_iload_n d12_stalkWorth_11 1 rfl rfl ?_
  refine v_callV1i d12_stalkWorth_12 (mc12_isTray p0 t15) yv12_isTray mlX12_300 (Recv.obj ic_0 rfl) (by decide) (Nat.le_of_ble_eq_true rfl) fun r16 t17 => ?_
  refine v_if_ne (tgt := 24) d12_stalkWorth_15 (by decide) ?_ ?_
  · refine v_aload_n d12_stalkWorth_24 0 rfl rfl ?_
    refine v_getR d12_stalkWorth_25 faX12_17 ic_0 rfl ?_
    refine v_iload_n d12_stalkWorth_28 1 rfl rfl ?_
    refine v_iald d12_stalkWorth_29 ic_2 ?_
    refine v_if_ge (tgt := 39) d12_stalkWorth_30 (by decide) ?_ ?_
    · refine v_aload_n d12_stalkWorth_39 0 rfl rfl ?_
      refine v_getR d12_stalkWorth_40 faX12_17 ic_0 rfl ?_
      refine v_iload_n d12_stalkWorth_43 1 rfl rfl ?_
      refine v_iald d12_stalkWorth_44 ic_2 ?_
      refine v_iload_n d12_stalkWorth_45 2 rfl rfl ?_
      refine v_icmp_ge (tgt := 55) d12_stalkWorth_46 (by decide) ?_ ?_
      · refine v_iload_n d12_stalkWorth_55 2 rfl rfl ?_
        refine v_i2l d12_stalkWorth_56 ?_
        refine v_lconst d12_stalkWorth_57 kl_0 ?_
        refine v_ldc2 d12_stalkWorth_58 klX12_360 ?_
        refine v_callS3i d12_stalkWorth_61 (mc12_isIn (p1.toInt64) (0 : Int64) (20 : Int64) t17) ys12_isIn mlX12_88 (by decide) (Nat.le_of_ble_eq_true rfl) fun r18 t19 => ?_
        refine v_if_ne (tgt := 73) d12_stalkWorth_64 (by decide) ?_ ?_
        · refine v_iconst d12_stalkWorth_73 ki_0 ?_
          refine v_istore_n (lv' := [(3, .int (0 : Int32)), (0, .ref 0), (1, .int p0), (2, .int p1)]) d12_stalkWorth_74 rfl (by decide) rfl ?_
          refine v_sub [1, 2, 3, 0] rfl ?_
          exact v12_stalkWorth_b75 N p0 p1 (0 : Int32) t19
        · refine v_aload_n d12_stalkWorth_67 0 rfl rfl ?_
          refine v_iconst d12_stalkWorth_68 ki_5 ?_
          refine v_callV1i d12_stalkWorth_69 (mc12_no (5 : Int32) t19) yv12_no mlX12_68 (Recv.obj ic_0 rfl) (by decide) (Nat.le_of_ble_eq_true rfl) fun r20 t21 => ?_
          exact v_iretB d12_stalkWorth_72 rfl rfl
      · refine v_aload_n d12_stalkWorth_49 0 rfl rfl ?_
        refine v_iconst d12_stalkWorth_50 ki_4 ?_
        refine v_callV1i d12_stalkWorth_51 (mc12_no (4 : Int32) t17) yv12_no mlX12_68 (Recv.obj ic_0 rfl) (by decide) (Nat.le_of_ble_eq_true rfl) fun r22 t23 => ?_
        exact v_iretB d12_stalkWorth_54 rfl rfl
    · refine v_aload_n d12_stalkWorth_33 0 rfl rfl ?_
      refine v_iconst d12_stalkWorth_34 ki_3 ?_
      refine v_callV1i d12_stalkWorth_35 (mc12_no (3 : Int32) t17) yv12_no mlX12_68 (Recv.obj ic_0 rfl) (by decide) (Nat.le_of_ble_eq_true rfl) fun r24 t25 => ?_
      exact v_iretB d12_stalkWorth_38 rfl rfl
  · refine v_aload_n d12_stalkWorth_18 0 rfl rfl ?_
    refine v_iconst d12_stalkWorth_19 ki_1 ?_
    refine v_callV1i d12_stalkWorth_20 (mc12_no (1 : Int32) t17) yv12_no mlX12_68 (Recv.obj ic_0 rfl) (by decide) (Nat.le_of_ble_eq_true rfl) fun r26 t27 => ?_
    exact v_iretB d12_stalkWorth_23 rfl rfl
theorem d12_isSet_0 : decode cX12_isSet 0 = .ok (.iload_n 1, 1) := by decide +kernel
theorem d12_isSet_1 : decode cX12_isSet 1 = .ok (.i2l, 1) := by decide +kernel
theorem d12_isSet_2 : decode cX12_isSet 2 = .ok (.lconst 0, 1) := by decide +kernel
theorem d12_isSet_3 : decode cX12_isSet 3 = .ok (.iconst 1, 1) := by decide +kernel
theorem d12_isSet_4 : decode cX12_isSet 4 = .ok (.aload_n 0, 1) := by decide +kernel
theorem d12_isSet_5 : decode cX12_isSet 5 = .ok (.getfield 35, 3) := by decide +kernel
theorem d12_isSet_8 : decode cX12_isSet 8 = .ok (.iconst 0, 1) := by decide +kernel
theorem d12_isSet_9 : decode cX12_isSet 9 = .ok (.iaload, 1) := by decide +kernel
theorem d12_isSet_10 : decode cX12_isSet 10 = .ok (.ishl, 1) := by decide +kernel
theorem d12_isSet_11 : decode cX12_isSet 11 = .ok (.iconst 1, 1) := by decide +kernel
theorem d12_isSet_12 : decode cX12_isSet 12 = .ok (.isub, 1) := by decide +kernel
theorem d12_isSet_13 : decode cX12_isSet 13 = .ok (.i2l, 1) := by decide +kernel
theorem d12_isSet_14 : decode cX12_isSet 14 = .ok (.invokestatic 88, 3) := by decide +kernel
theorem d12_isSet_17 : decode cX12_isSet 17 = .ok (.ifCond .eq 12, 3) := by decide +kernel
theorem d12_isSet_20 : decode cX12_isSet 20 = .ok (.iload_n 1, 1) := by decide +kernel
theorem d12_isSet_21 : decode cX12_isSet 21 = .ok (.invokestatic 277, 3) := by decide +kernel
theorem d12_isSet_24 : decode cX12_isSet 24 = .ok (.bipush 10, 2) := by decide +kernel
theorem d12_isSet_26 : decode cX12_isSet 26 = .ok (.if_icmp .le 5, 3) := by decide +kernel
theorem d12_isSet_29 : decode cX12_isSet 29 = .ok (.iconst 0, 1) := by decide +kernel
theorem d12_isSet_30 : decode cX12_isSet 30 = .ok (.ireturn, 1) := by decide +kernel
theorem d12_isSet_31 : decode cX12_isSet 31 = .ok (.iconst 0, 1) := by decide +kernel
theorem d12_isSet_32 : decode cX12_isSet 32 = .ok (.istore_n 2, 1) := by decide +kernel
theorem d12_isSet_33 : decode cX12_isSet 33 = .ok (.iload_n 2, 1) := by decide +kernel
theorem d12_isSet_34 : decode cX12_isSet 34 = .ok (.aload_n 0, 1) := by decide +kernel
theorem d12_isSet_35 : decode cX12_isSet 35 = .ok (.getfield 35, 3) := by decide +kernel
theorem d12_isSet_38 : decode cX12_isSet 38 = .ok (.iconst 0, 1) := by decide +kernel
theorem d12_isSet_39 : decode cX12_isSet 39 = .ok (.iaload, 1) := by decide +kernel
theorem d12_isSet_40 : decode cX12_isSet 40 = .ok (.if_icmp .ge 28, 3) := by decide +kernel
theorem d12_isSet_43 : decode cX12_isSet 43 = .ok (.iload_n 1, 1) := by decide +kernel
theorem d12_isSet_44 : decode cX12_isSet 44 = .ok (.iload_n 2, 1) := by decide +kernel
theorem d12_isSet_45 : decode cX12_isSet 45 = .ok (.invokestatic 92, 3) := by decide +kernel
theorem d12_isSet_48 : decode cX12_isSet 48 = .ok (.ifCond .eq 14, 3) := by decide +kernel
theorem d12_isSet_51 : decode cX12_isSet 51 = .ok (.aload_n 0, 1) := by decide +kernel
theorem d12_isSet_52 : decode cX12_isSet 52 = .ok (.iload_n 2, 1) := by decide +kernel
theorem d12_isSet_53 : decode cX12_isSet 53 = .ok (.iconst 0, 1) := by decide +kernel
theorem d12_isSet_54 : decode cX12_isSet 54 = .ok (.invokevirtual 331, 3) := by decide +kernel
theorem d12_isSet_57 : decode cX12_isSet 57 = .ok (.ifCond .le 5, 3) := by decide +kernel
theorem d12_isSet_60 : decode cX12_isSet 60 = .ok (.iconst 0, 1) := by decide +kernel
theorem d12_isSet_61 : decode cX12_isSet 61 = .ok (.ireturn, 1) := by decide +kernel
theorem d12_isSet_62 : decode cX12_isSet 62 = .ok (.iinc 2 1, 3) := by decide +kernel
theorem d12_isSet_65 : decode cX12_isSet 65 = .ok (.goto (-32), 3) := by decide +kernel
theorem d12_isSet_68 : decode cX12_isSet 68 = .ok (.iconst 1, 1) := by decide +kernel
theorem d12_isSet_69 : decode cX12_isSet 69 = .ok (.ireturn, 1) := by decide +kernel
abbrev K12_isSet : CK Int32 := (enI, (some .boolean), 3, 4, none)
noncomputable def F12_isSet_b62 (N : Nat) (k33 : Int32 × Int32 × Ms → Option (Int32 × Ms)) (l1 : Int32) (l2 : Int32) (σ : Ms) : Option (Int32 × Ms) :=
  k33 (l1, (l2 + (1 : Int32)), σ)
noncomputable def F12_isSet_b33B (N : Nat) (k33 : Int32 × Int32 × Ms → Option (Int32 × Ms)) (l1 : Int32) (l2 : Int32) (σ : Ms) : Option (Int32 × Ms) :=
  ck (ixb (0 : Int32) 1780) (if (σ.1 5 (0 : Int32).toNatClampNeg) ≤ l2 then (some ((1 : Int32), σ))
  else (bn (F12_has l1 l2 σ) (fun r1 t2 => if r1 = 0 then (F12_isSet_b62 N k33 l1 l2 t2)
  else (bn (F12_whyNoBranch l2 (0 : Int32) t2) (fun r3 t4 => if r3 ≤ 0 then (F12_isSet_b62 N k33 l1 l2 t4)
  else (some ((0 : Int32), t4)))))))
noncomputable def F12_isSet_b33 (N : Nat) (l1 : Int32) (l2 : Int32) (σ : Ms) : Option (Int32 × Ms) :=
  fx N (fun k x => F12_isSet_b33B N k x.1 x.2.1 x.2.2) (l1, l2, σ)
noncomputable def F12_isSet (N : Nat) (p0 : Int32) (σ : Ms) : Option (Int32 × Ms) :=
  ck (ixb (0 : Int32) 1780) (bn (F12_isIn (p0.toInt64) (0 : Int64) ((((1 : Int32) <<< ((σ.1 5 (0 : Int32).toNatClampNeg) &&& 31)) - (1 : Int32)).toInt64) σ) (fun r5 t6 => if r5 = 0 then (some ((0 : Int32), t6))
  else (bn (F12_sizeOf N p0 t6) (fun r7 t8 => if r7 ≤ (10 : Int32) then (F12_isSet_b33 N p0 (0 : Int32) t8)
  else (some ((0 : Int32), t8))))))
set_option maxRecDepth 100000 in
theorem v12_isSet_b62 (N : Nat) (k33 : Int32 × Int32 × Ms → Option (Int32 × Ms)) (hk33 : ∀ (l1 : Int32) (l2 : Int32) (τ : Ms), VF (K12_isSet) cX12_isSet RX12 (k33 (l1, l2, τ)) τ 33 [(0, .ref 0), (1, .int l1), (2, .int l2)] []) (l1 : Int32) (l2 : Int32) (σ : Ms) : VF (K12_isSet) cX12_isSet RX12 (F12_isSet_b62 N k33 l1 l2 σ) σ 62 [(0, .ref 0), (1, .int l1), (2, .int l2)] [] := by
  unfold F12_isSet_b62
  refine v_iinc (lv' := [(2, .int (l2 + (1 : Int32))), (0, .ref 0), (1, .int l1)]) d12_isSet_62 2 rfl (by rw [ki_1]) (by decide) rfl ?_
  refine v_goto (tgt := 33) d12_isSet_65 (by decide) ?_
  refine v_sub [1, 2, 0] rfl ?_
  exact hk33 l1 (l2 + (1 : Int32)) σ
set_option maxRecDepth 100000 in
theorem v12_isSet_b33B (N : Nat) (k33 : Int32 × Int32 × Ms → Option (Int32 × Ms)) (hk33 : ∀ (l1 : Int32) (l2 : Int32) (τ : Ms), VF (K12_isSet) cX12_isSet RX12 (k33 (l1, l2, τ)) τ 33 [(0, .ref 0), (1, .int l1), (2, .int l2)] []) (l1 : Int32) (l2 : Int32) (σ : Ms) : VF (K12_isSet) cX12_isSet RX12 (F12_isSet_b33B N k33 l1 l2 σ) σ 33 [(0, .ref 0), (1, .int l1), (2, .int l2)] [] := by
  unfold F12_isSet_b33B
  refine v_iload_n d12_isSet_33 2 rfl rfl ?_
  refine v_aload_n d12_isSet_34 0 rfl rfl ?_
  refine v_getR d12_isSet_35 faX12_35 ic_0 rfl ?_
  refine v_iconst d12_isSet_38 ki_0 ?_
  refine v_iald d12_isSet_39 ic_5 ?_
  refine v_icmp_ge (tgt := 68) d12_isSet_40 (by decide) ?_ ?_
  · refine v_iconst d12_isSet_68 ki_1 ?_
    exact v_iret (ty := .boolean) d12_isSet_69 rfl rfl rfl
  · refine v_iload_n d12_isSet_43 1 rfl rfl ?_
    refine v_iload_n d12_isSet_44 2 rfl rfl ?_
    refine v_callS2i d12_isSet_45 (mc12_has l1 l2 σ) ys12_has mlX12_92 (by decide) (Nat.le_of_ble_eq_true rfl) fun r1 t2 => ?_
    refine v_if_eq (tgt := 62) d12_isSet_48 (by decide) ?_ ?_
    · exact v12_isSet_b62 N k33 hk33 l1 l2 t2
    · refine v_aload_n d12_isSet_51 0 rfl rfl ?_
      refine v_iload_n d12_isSet_52 2 rfl rfl ?_
      refine v_iconst d12_isSet_53 ki_0 ?_
      refine v_callV2i d12_isSet_54 (mc12_whyNoBranch l2 (0 : Int32) t2) yv12_whyNoBranch mlX12_331 (Recv.obj ic_0 rfl) (by decide) (Nat.le_of_ble_eq_true rfl) fun r3 t4 => ?_
      refine v_if_le (tgt := 62) d12_isSet_57 (by decide) ?_ ?_
      · exact v12_isSet_b62 N k33 hk33 l1 l2 t4
      · refine v_iconst d12_isSet_60 ki_0 ?_
        exact v_iret (ty := .boolean) d12_isSet_61 rfl rfl rfl
theorem v12_isSet_b33 (N : Nat) (l1 : Int32) (l2 : Int32) (σ : Ms) : VF (K12_isSet) cX12_isSet RX12 (F12_isSet_b33 N l1 l2 σ) σ 33 [(0, .ref 0), (1, .int l1), (2, .int l2)] [] := v_fx (σo := fun x => x.2.2) (lo := fun x => [(0, .ref 0), (1, .int x.1), (2, .int x.2.1)]) (fun k hk x => v12_isSet_b33B N k (fun l1 l2 τ => hk (l1, l2, τ)) x.1 x.2.1 x.2.2) N (l1, l2, σ)
set_option maxRecDepth 100000 in
theorem mc12_isSet (N : Nat) (p0 : Int32) (σ : Ms) : MC enI yX12_isSet cX12_isSet 3 (some .boolean) 4 (F12_isSet N p0 σ) σ [.ref 0, .int p0] := by
  refine MC.i (by decide +kernel) (Nat.le_of_ble_eq_true rfl) ?_
  show VF (K12_isSet) cX12_isSet RX12 (F12_isSet N p0 σ) σ 0 [(0, .ref 0), (1, .int p0)] []
  unfold F12_isSet
  refine v_iload_n d12_isSet_0 1 rfl rfl ?_
  refine v_i2l d12_isSet_1 ?_
  refine v_lconst d12_isSet_2 kl_0 ?_
  refine v_iconst d12_isSet_3 ki_1 ?_
  refine v_aload_n d12_isSet_4 0 rfl rfl ?_
  refine v_getR d12_isSet_5 faX12_35 ic_0 rfl ?_
  refine v_iconst d12_isSet_8 ki_0 ?_
  refine v_iald d12_isSet_9 ic_5 ?_
  refine v_ishl d12_isSet_10 ?_
  refine v_iconst d12_isSet_11 ki_1 ?_
  refine v_isub d12_isSet_12 ?_
  refine v_i2l d12_isSet_13 ?_
  refine v_callS3i d12_isSet_14 (mc12_isIn (p0.toInt64) (0 : Int64) ((((1 : Int32) <<< ((σ.1 5 (0 : Int32).toNatClampNeg) &&& 31)) - (1 : Int32)).toInt64) σ) ys12_isIn mlX12_88 (by decide) (Nat.le_of_ble_eq_true rfl) fun r5 t6 => ?_
  refine v_if_eq (tgt := 29) d12_isSet_17 (by decide) ?_ ?_
  · refine v_iconst d12_isSet_29 ki_0 ?_
    exact v_iret (ty := .boolean) d12_isSet_30 rfl rfl rfl
  · refine v_iload_n d12_isSet_20 1 rfl rfl ?_
    refine v_callS1i d12_isSet_21 (mc12_sizeOf N p0 t6) ys12_sizeOf mlX12_277 (by decide) (Nat.le_of_ble_eq_true rfl) fun r7 t8 => ?_
    refine v_bipush d12_isSet_24 kb_10 ?_
    refine v_icmp_le (tgt := 31) d12_isSet_26 (by decide) ?_ ?_
    · refine v_iconst d12_isSet_31 ki_0 ?_
      refine v_istore_n (lv' := [(2, .int (0 : Int32)), (0, .ref 0), (1, .int p0)]) d12_isSet_32 rfl (by decide) rfl ?_
      refine v_sub [1, 2, 0] rfl ?_
      exact v12_isSet_b33 N p0 (0 : Int32) t8
    · refine v_iconst d12_isSet_29 ki_0 ?_
      exact v_iret (ty := .boolean) d12_isSet_30 rfl rfl rfl
