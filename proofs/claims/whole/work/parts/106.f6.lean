theorem d2_run_0 : decode cX2_run 0 = .ok (.aload_n 0, 1) := by decide +kernel
theorem d2_run_1 : decode cX2_run 1 = .ok (.iconst 0, 1) := by decide +kernel
theorem d2_run_2 : decode cX2_run 2 = .ok (.putfield 9, 3) := by decide +kernel
theorem d2_run_5 : decode cX2_run 5 = .ok (.aload_n 0, 1) := by decide +kernel
theorem d2_run_6 : decode cX2_run 6 = .ok (.iconst 0, 1) := by decide +kernel
theorem d2_run_7 : decode cX2_run 7 = .ok (.putfield 15, 3) := by decide +kernel
theorem d2_run_10 : decode cX2_run 10 = .ok (.aload_n 0, 1) := by decide +kernel
theorem d2_run_11 : decode cX2_run 11 = .ok (.iconst 0, 1) := by decide +kernel
theorem d2_run_12 : decode cX2_run 12 = .ok (.putfield 18, 3) := by decide +kernel
theorem d2_run_15 : decode cX2_run 15 = .ok (.aload_n 0, 1) := by decide +kernel
theorem d2_run_16 : decode cX2_run 16 = .ok (.iconst 0, 1) := by decide +kernel
theorem d2_run_17 : decode cX2_run 17 = .ok (.putfield 21, 3) := by decide +kernel
theorem d2_run_20 : decode cX2_run 20 = .ok (.aload_n 0, 1) := by decide +kernel
theorem d2_run_21 : decode cX2_run 21 = .ok (.iconst 0, 1) := by decide +kernel
theorem d2_run_22 : decode cX2_run 22 = .ok (.putfield 24, 3) := by decide +kernel
theorem d2_run_25 : decode cX2_run 25 = .ok (.aload_n 0, 1) := by decide +kernel
theorem d2_run_26 : decode cX2_run 26 = .ok (.iconst 0, 1) := by decide +kernel
theorem d2_run_27 : decode cX2_run 27 = .ok (.putfield 27, 3) := by decide +kernel
theorem d2_run_30 : decode cX2_run 30 = .ok (.aload_n 0, 1) := by decide +kernel
theorem d2_run_31 : decode cX2_run 31 = .ok (.iload_n 3, 1) := by decide +kernel
theorem d2_run_32 : decode cX2_run 32 = .ok (.putfield 31, 3) := by decide +kernel
theorem d2_run_35 : decode cX2_run 35 = .ok (.iconst 0, 1) := by decide +kernel
theorem d2_run_36 : decode cX2_run 36 = .ok (.istore 4, 2) := by decide +kernel
theorem d2_run_38 : decode cX2_run 38 = .ok (.iconst 0, 1) := by decide +kernel
theorem d2_run_39 : decode cX2_run 39 = .ok (.istore 5, 2) := by decide +kernel
theorem d2_run_41 : decode cX2_run 41 = .ok (.iload 5, 2) := by decide +kernel
theorem d2_run_43 : decode cX2_run 43 = .ok (.sipush 30000, 3) := by decide +kernel
theorem d2_run_46 : decode cX2_run 46 = .ok (.if_icmp .gt 78, 3) := by decide +kernel
theorem d2_run_49 : decode cX2_run 49 = .ok (.aload_n 2, 1) := by decide +kernel
theorem d2_run_50 : decode cX2_run 50 = .ok (.iload 4, 2) := by decide +kernel
theorem d2_run_52 : decode cX2_run 52 = .ok (.invokevirtual 40, 3) := by decide +kernel
theorem d2_run_55 : decode cX2_run 55 = .ok (.ifCond .eq 69, 3) := by decide +kernel
theorem d2_run_58 : decode cX2_run 58 = .ok (.aload_n 2, 1) := by decide +kernel
theorem d2_run_59 : decode cX2_run 59 = .ok (.getfield 44, 3) := by decide +kernel
theorem d2_run_62 : decode cX2_run 62 = .ok (.iload 4, 2) := by decide +kernel
theorem d2_run_64 : decode cX2_run 64 = .ok (.iaload, 1) := by decide +kernel
theorem d2_run_65 : decode cX2_run 65 = .ok (.bipush 8, 2) := by decide +kernel
theorem d2_run_67 : decode cX2_run 67 = .ok (.if_icmp .ne 15, 3) := by decide +kernel
theorem d2_run_70 : decode cX2_run 70 = .ok (.aload_n 0, 1) := by decide +kernel
theorem d2_run_71 : decode cX2_run 71 = .ok (.aload_n 2, 1) := by decide +kernel
theorem d2_run_72 : decode cX2_run 72 = .ok (.iload 4, 2) := by decide +kernel
theorem d2_run_74 : decode cX2_run 74 = .ok (.invokevirtual 47, 3) := by decide +kernel
theorem d2_run_77 : decode cX2_run 77 = .ok (.istore 4, 2) := by decide +kernel
theorem d2_run_79 : decode cX2_run 79 = .ok (.goto 39, 3) := by decide +kernel
theorem d2_run_82 : decode cX2_run 82 = .ok (.aload_n 0, 1) := by decide +kernel
theorem d2_run_83 : decode cX2_run 83 = .ok (.getfield 9, 3) := by decide +kernel
theorem d2_run_86 : decode cX2_run 86 = .ok (.sipush 300, 3) := by decide +kernel
theorem d2_run_89 : decode cX2_run 89 = .ok (.if_icmp .ne 9, 3) := by decide +kernel
theorem d2_run_92 : decode cX2_run 92 = .ok (.aload_n 0, 1) := by decide +kernel
theorem d2_run_93 : decode cX2_run 93 = .ok (.iconst 1, 1) := by decide +kernel
theorem d2_run_94 : decode cX2_run 94 = .ok (.putfield 27, 3) := by decide +kernel
theorem d2_run_97 : decode cX2_run 97 = .ok (.return_, 1) := by decide +kernel
theorem d2_run_98 : decode cX2_run 98 = .ok (.aload_n 0, 1) := by decide +kernel
theorem d2_run_99 : decode cX2_run 99 = .ok (.dup, 1) := by decide +kernel
theorem d2_run_100 : decode cX2_run 100 = .ok (.getfield 9, 3) := by decide +kernel
theorem d2_run_103 : decode cX2_run 103 = .ok (.iconst 1, 1) := by decide +kernel
theorem d2_run_104 : decode cX2_run 104 = .ok (.iadd, 1) := by decide +kernel
theorem d2_run_105 : decode cX2_run 105 = .ok (.putfield 9, 3) := by decide +kernel
theorem d2_run_108 : decode cX2_run 108 = .ok (.aload_n 0, 1) := by decide +kernel
theorem d2_run_109 : decode cX2_run 109 = .ok (.aload_n 1, 1) := by decide +kernel
theorem d2_run_110 : decode cX2_run 110 = .ok (.aload_n 2, 1) := by decide +kernel
theorem d2_run_111 : decode cX2_run 111 = .ok (.iload 4, 2) := by decide +kernel
theorem d2_run_113 : decode cX2_run 113 = .ok (.invokevirtual 51, 3) := by decide +kernel
theorem d2_run_116 : decode cX2_run 116 = .ok (.istore 4, 2) := by decide +kernel
theorem d2_run_118 : decode cX2_run 118 = .ok (.iinc 5 1, 3) := by decide +kernel
theorem d2_run_121 : decode cX2_run 121 = .ok (.goto (-80), 3) := by decide +kernel
theorem d2_run_124 : decode cX2_run 124 = .ok (.return_, 1) := by decide +kernel
abbrev K2_run : CK Unit := (enV, none, 6, 7, none)
noncomputable def F2_run_b118 (N : Nat) (h : Nat) (q0 : Nat) (q1 : Nat) (k41 : Int32 × Int32 × Ms → Option (Unit × Ms)) (l4 : Int32) (l5 : Int32) (σ : Ms) : Option (Unit × Ms) :=
  k41 (l4, (l5 + (1 : Int32)), σ)
noncomputable def F2_run_b41B (N : Nat) (h : Nat) (q0 : Nat) (q1 : Nat) (k41 : Int32 × Int32 × Ms → Option (Unit × Ms)) (l4 : Int32) (l5 : Int32) (σ : Ms) : Option (Unit × Ms) :=
  if (30000 : Int32) < l5 then (some ((), σ))
  else (bn (F5_hasEntry q1 l4 σ) (fun r1 t2 => if r1 = 0 then (some ((), t2))
  else (ck (ixb l4 60) (if (t2.1 (q1 + 1) l4.toNatClampNeg) ≠ (8 : Int32) then (if (t2.1 h 0) ≠ (300 : Int32) then (lt (sI t2 h 0 ((t2.1 h 0) + (1 : Int32))) (fun t3 => bn (F2_doStep N h q0 q1 l4 t3) (fun r4 t5 => F2_run_b118 N h q0 q1 k41 r4 l5 t5)))
  else (ck (nkB (1 : Int32)) (lt (sI t2 h 5 (1 : Int32)) (fun t6 => some ((), t6)))))
  else (bn (F2_behindEnd h q1 l4 t2) (fun r7 t8 => F2_run_b118 N h q0 q1 k41 r7 l5 t8))))))
noncomputable def F2_run_b41 (N : Nat) (h : Nat) (q0 : Nat) (q1 : Nat) (l4 : Int32) (l5 : Int32) (σ : Ms) : Option (Unit × Ms) :=
  fx N (fun k x => F2_run_b41B N h q0 q1 k x.1 x.2.1 x.2.2) (l4, l5, σ)
noncomputable def F2_run (N : Nat) (h : Nat) (q0 : Nat) (q1 : Nat) (p2 : Int32) (σ : Ms) : Option (Unit × Ms) :=
  lt (sI σ h 0 (0 : Int32)) (fun t9 => lt (sI t9 h 1 (0 : Int32)) (fun t10 => lt (sI t10 h 2 (0 : Int32)) (fun t11 => lt (sI t11 h 3 (0 : Int32)) (fun t12 => lt (sI t12 h 4 (0 : Int32)) (fun t13 => ck (nkB (0 : Int32)) (lt (sI t13 h 5 (0 : Int32)) (fun t14 => lt (sI t14 h 6 p2) (fun t15 => F2_run_b41 N h q0 q1 (0 : Int32) (0 : Int32) t15))))))))
set_option maxRecDepth 100000 in
theorem v2_run_b118 (N : Nat) (h : Nat) (hh : IsC h (0, 1, 0)) (q0 : Nat) (hq0 : IsC q0 (0, 0, 0)) (q1 : Nat) (hq1 : IsC q1 (0, 3, 0)) (k41 : Int32 × Int32 × Ms → Option (Unit × Ms)) (hk41 : ∀ (l4 : Int32) (l5 : Int32) (τ : Ms), VF (K2_run) cX2_run RX2 (k41 (l4, l5, τ)) τ 41 [(0, .ref h), (1, .ref q0), (2, .ref q1), (4, .int l4), (5, .int l5)] []) (l4 : Int32) (l5 : Int32) (σ : Ms) : VF (K2_run) cX2_run RX2 (F2_run_b118 N h q0 q1 k41 l4 l5 σ) σ 118 [(0, .ref h), (1, .ref q0), (2, .ref q1), (4, .int l4), (5, .int l5)] [] := by
  unfold F2_run_b118
  refine v_iinc (lv' := [(5, .int (l5 + (1 : Int32))), (0, .ref h), (1, .ref q0), (2, .ref q1), (4, .int l4)]) d2_run_118 4 rfl (by rw [ki_1]) (by decide) rfl ?_
  refine v_goto (tgt := 41) d2_run_121 (by decide) ?_
  refine v_sub [1, 2, 3, 4, 0] rfl ?_
  exact hk41 l4 (l5 + (1 : Int32)) σ
set_option maxRecDepth 100000 in
theorem v2_run_b41B (N : Nat) (h : Nat) (hh : IsC h (0, 1, 0)) (q0 : Nat) (hq0 : IsC q0 (0, 0, 0)) (q1 : Nat) (hq1 : IsC q1 (0, 3, 0)) (k41 : Int32 × Int32 × Ms → Option (Unit × Ms)) (hk41 : ∀ (l4 : Int32) (l5 : Int32) (τ : Ms), VF (K2_run) cX2_run RX2 (k41 (l4, l5, τ)) τ 41 [(0, .ref h), (1, .ref q0), (2, .ref q1), (4, .int l4), (5, .int l5)] []) (l4 : Int32) (l5 : Int32) (σ : Ms) : VF (K2_run) cX2_run RX2 (F2_run_b41B N h q0 q1 k41 l4 l5 σ) σ 41 [(0, .ref h), (1, .ref q0), (2, .ref q1), (4, .int l4), (5, .int l5)] [] := by
  unfold F2_run_b41B
  refine v_iload d2_run_41 4 rfl ?_
  refine v_sipush d2_run_43 ks_30000 ?_
  refine v_icmp_gt (tgt := 124) d2_run_46 (by decide) ?_ ?_
  · exact v_vret d2_run_124 rfl
  · refine v_aload_n d2_run_49 2 rfl rfl ?_
    refine v_iload d2_run_50 3 rfl ?_
    refine v_callV1i d2_run_52 (mc5_hasEntry q1 hq1 l4 σ) yv5_hasEntry mlX2_40 (Recv.obj hq1 rfl) (by decide) (Nat.le_of_ble_eq_true rfl) fun r1 t2 => ?_
    refine v_if_eq (tgt := 124) d2_run_55 (by decide) ?_ ?_
    · exact v_vret d2_run_124 rfl
    · refine v_aload_n d2_run_58 2 rfl rfl ?_
      refine v_getR d2_run_59 faX2_44 hq1 rfl ?_
      refine v_iload d2_run_62 3 rfl ?_
      refine v_iald d2_run_64 (ih3_1 hq1) ?_
      refine v_bipush d2_run_65 kb_8 ?_
      refine v_icmp_ne (tgt := 82) d2_run_67 (by decide) ?_ ?_
      · refine v_aload_n d2_run_82 0 rfl rfl ?_
        refine v_getI d2_run_83 faX2_9 hh ?_
        refine v_sipush d2_run_86 ks_300 ?_
        refine v_icmp_ne (tgt := 98) d2_run_89 (by decide) ?_ ?_
        · refine v_aload_n d2_run_98 0 rfl rfl ?_
          refine v_dup d2_run_99 rfl ?_
          refine v_getI d2_run_100 faX2_9 hh ?_
          refine v_iconst d2_run_103 ki_1 ?_
          refine v_iadd d2_run_104 ?_
          refine v_putI d2_run_105 faX2_9 fp1_0 hh ?_
          refine v_lts fun t3 => ?_
          refine v_aload_n d2_run_108 0 rfl rfl ?_
          refine v_aload_n d2_run_109 1 rfl rfl ?_
          refine v_aload_n d2_run_110 2 rfl rfl ?_
          refine v_iload d2_run_111 3 rfl ?_
          refine v_callV3i d2_run_113 (mc2_doStep N h hh q0 hq0 q1 hq1 l4 t3) yv2_doStep mlX2_51 (Recv.obj hh rfl) (by decide) (Nat.le_of_ble_eq_true rfl) fun r4 t5 => ?_
          refine v_istore (lv' := [(4, .int r4), (0, .ref h), (1, .ref q0), (2, .ref q1), (5, .int l5)]) d2_run_116 (by decide) rfl ?_
          refine v_sub [1, 2, 3, 0, 4] rfl ?_
          exact v2_run_b118 N h hh q0 hq0 q1 hq1 k41 hk41 r4 l5 t5
        · refine v_aload_n d2_run_92 0 rfl rfl ?_
          refine v_iconst d2_run_93 ki_1 ?_
          refine v_putB d2_run_94 faX2_27 fp1_5 hh ?_
          refine v_lts fun t6 => ?_
          exact v_vret d2_run_97 rfl
      · refine v_aload_n d2_run_70 0 rfl rfl ?_
        refine v_aload_n d2_run_71 2 rfl rfl ?_
        refine v_iload d2_run_72 3 rfl ?_
        refine v_callV2i d2_run_74 (mc2_behindEnd h hh q1 hq1 l4 t2) yv2_behindEnd mlX2_47 (Recv.obj hh rfl) (by decide) (Nat.le_of_ble_eq_true rfl) fun r7 t8 => ?_
        refine v_istore (lv' := [(4, .int r7), (0, .ref h), (1, .ref q0), (2, .ref q1), (5, .int l5)]) d2_run_77 (by decide) rfl ?_
        refine v_goto (tgt := 118) d2_run_79 (by decide) ?_
        refine v_sub [1, 2, 3, 0, 4] rfl ?_
        exact v2_run_b118 N h hh q0 hq0 q1 hq1 k41 hk41 r7 l5 t8
theorem v2_run_b41 (N : Nat) (h : Nat) (hh : IsC h (0, 1, 0)) (q0 : Nat) (hq0 : IsC q0 (0, 0, 0)) (q1 : Nat) (hq1 : IsC q1 (0, 3, 0)) (l4 : Int32) (l5 : Int32) (σ : Ms) : VF (K2_run) cX2_run RX2 (F2_run_b41 N h q0 q1 l4 l5 σ) σ 41 [(0, .ref h), (1, .ref q0), (2, .ref q1), (4, .int l4), (5, .int l5)] [] := v_fx (σo := fun x => x.2.2) (lo := fun x => [(0, .ref h), (1, .ref q0), (2, .ref q1), (4, .int x.1), (5, .int x.2.1)]) (fun k hk x => v2_run_b41B N h hh q0 hq0 q1 hq1 k (fun l4 l5 τ => hk (l4, l5, τ)) x.1 x.2.1 x.2.2) N (l4, l5, σ)
set_option maxRecDepth 100000 in
theorem mc2_run (N : Nat) (h : Nat) (hh : IsC h (0, 1, 0)) (q0 : Nat) (hq0 : IsC q0 (0, 0, 0)) (q1 : Nat) (hq1 : IsC q1 (0, 3, 0)) (p2 : Int32) (σ : Ms) : MC enV yX2_run cX2_run 6 none 7 (F2_run N h q0 q1 p2 σ) σ [.ref h, .ref q0, .ref q1, .int p2] := by
  refine MC.v (by decide +kernel) (Nat.le_of_ble_eq_true rfl) ?_
  show VF (K2_run) cX2_run RX2 (F2_run N h q0 q1 p2 σ) σ 0 [(0, .ref h), (1, .ref q0), (2, .ref q1), (3, .int p2)] []
  unfold F2_run
  refine v_aload_n d2_run_0 0 rfl rfl ?_
  refine v_iconst d2_run_1 ki_0 ?_
  refine v_putI d2_run_2 faX2_9 fp1_0 hh ?_
  refine v_lts fun t9 => ?_
  refine v_aload_n d2_run_5 0 rfl rfl ?_
  refine v_iconst d2_run_6 ki_0 ?_
  refine v_putI d2_run_7 faX2_15 fp1_1 hh ?_
  refine v_lts fun t10 => ?_
  refine v_aload_n d2_run_10 0 rfl rfl ?_
  refine v_iconst d2_run_11 ki_0 ?_
  refine v_putI d2_run_12 faX2_18 fp1_2 hh ?_
  refine v_lts fun t11 => ?_
  refine v_aload_n d2_run_15 0 rfl rfl ?_
  refine v_iconst d2_run_16 ki_0 ?_
  refine v_putI d2_run_17 faX2_21 fp1_3 hh ?_
  refine v_lts fun t12 => ?_
  refine v_aload_n d2_run_20 0 rfl rfl ?_
  refine v_iconst d2_run_21 ki_0 ?_
  refine v_putI d2_run_22 faX2_24 fp1_4 hh ?_
  refine v_lts fun t13 => ?_
  refine v_aload_n d2_run_25 0 rfl rfl ?_
  refine v_iconst d2_run_26 ki_0 ?_
  refine v_putB d2_run_27 faX2_27 fp1_5 hh ?_
  refine v_lts fun t14 => ?_
  refine v_aload_n d2_run_30 0 rfl rfl ?_
  refine v_iload_n d2_run_31 3 rfl rfl ?_
  refine v_putI d2_run_32 faX2_31 fp1_6 hh ?_
  refine v_lts fun t15 => ?_
  refine v_iconst d2_run_35 ki_0 ?_
  refine v_istore (lv' := [(4, .int (0 : Int32)), (0, .ref h), (1, .ref q0), (2, .ref q1), (3, .int p2)]) d2_run_36 (by decide) rfl ?_
  refine v_iconst d2_run_38 ki_0 ?_
  refine v_istore (lv' := [(5, .int (0 : Int32)), (4, .int (0 : Int32)), (0, .ref h), (1, .ref q0), (2, .ref q1), (3, .int p2)]) d2_run_39 (by decide) rfl ?_
  refine v_sub [2, 3, 4, 1, 0] rfl ?_
  exact v2_run_b41 N h hh q0 hq0 q1 hq1 (0 : Int32) (0 : Int32) t15
theorem d3_of_0 : decode cX3_of 0 = .ok (.iload_n 0, 1) := by decide +kernel
theorem d3_of_1 : decode cX3_of 1 = .ok (.i2l, 1) := by decide +kernel
theorem d3_of_2 : decode cX3_of 2 = .ok (.bipush 30, 2) := by decide +kernel
theorem d3_of_4 : decode cX3_of 4 = .ok (.iload_n 1, 1) := by decide +kernel
theorem d3_of_5 : decode cX3_of 5 = .ok (.isub, 1) := by decide +kernel
theorem d3_of_6 : decode cX3_of 6 = .ok (.lshl, 1) := by decide +kernel
theorem d3_of_7 : decode cX3_of 7 = .ok (.lreturn, 1) := by decide +kernel
abbrev K3_of : CK Int64 := (enL, (some .long), 2, 1, none)
noncomputable def F3_of (p0 : Int32) (p1 : Int32) (σ : Ms) : Option (Int64 × Ms) :=
  some (((p0.toInt64) <<< (((30 : Int32) - p1).toInt64 &&& 63)), σ)
set_option maxRecDepth 100000 in
theorem mc3_of (p0 : Int32) (p1 : Int32) (σ : Ms) : MC enL yX3_of cX3_of 2 (some .long) 1 (F3_of p0 p1 σ) σ [.int p0, .int p1] := by
  refine MC.l (by decide +kernel) (Nat.le_of_ble_eq_true rfl) ?_
  show VF (K3_of) cX3_of RX3 (F3_of p0 p1 σ) σ 0 [(0, .int p0), (1, .int p1)] []
  unfold F3_of
  refine v_iload_n d3_of_0 0 rfl rfl ?_
  refine v_i2l d3_of_1 ?_
  refine v_bipush d3_of_2 kb_30 ?_
  refine v_iload_n d3_of_4 1 rfl rfl ?_
  refine v_isub d3_of_5 ?_
  refine v_lshl d3_of_6 ?_
  exact v_lret d3_of_7 rfl rfl
theorem d3_canBe_0 : decode cX3_canBe 0 = .ok (.iload_n 0, 1) := by decide +kernel
theorem d3_canBe_1 : decode cX3_canBe 1 = .ok (.ldc 9, 2) := by decide +kernel
theorem d3_canBe_3 : decode cX3_canBe 3 = .ok (.if_icmp .lt 19, 3) := by decide +kernel
theorem d3_canBe_6 : decode cX3_canBe 6 = .ok (.iload_n 0, 1) := by decide +kernel
theorem d3_canBe_7 : decode cX3_canBe 7 = .ok (.ldc 10, 2) := by decide +kernel
theorem d3_canBe_9 : decode cX3_canBe 9 = .ok (.if_icmp .gt 13, 3) := by decide +kernel
theorem d3_canBe_12 : decode cX3_canBe 12 = .ok (.iload_n 1, 1) := by decide +kernel
theorem d3_canBe_13 : decode cX3_canBe 13 = .ok (.ifCond .lt 9, 3) := by decide +kernel
theorem d3_canBe_16 : decode cX3_canBe 16 = .ok (.iload_n 1, 1) := by decide +kernel
theorem d3_canBe_17 : decode cX3_canBe 17 = .ok (.bipush 20, 2) := by decide +kernel
theorem d3_canBe_19 : decode cX3_canBe 19 = .ok (.if_icmp .le 5, 3) := by decide +kernel
theorem d3_canBe_22 : decode cX3_canBe 22 = .ok (.iconst 0, 1) := by decide +kernel
theorem d3_canBe_23 : decode cX3_canBe 23 = .ok (.ireturn, 1) := by decide +kernel
theorem d3_canBe_24 : decode cX3_canBe 24 = .ok (.iload_n 0, 1) := by decide +kernel
theorem d3_canBe_25 : decode cX3_canBe 25 = .ok (.iload_n 1, 1) := by decide +kernel
theorem d3_canBe_26 : decode cX3_canBe 26 = .ok (.invokestatic 11, 3) := by decide +kernel
theorem d3_canBe_29 : decode cX3_canBe 29 = .ok (.lstore_n 2, 1) := by decide +kernel
theorem d3_canBe_30 : decode cX3_canBe 30 = .ok (.lload_n 2, 1) := by decide +kernel
theorem d3_canBe_31 : decode cX3_canBe 31 = .ok (.ldc2_w 17, 3) := by decide +kernel
theorem d3_canBe_34 : decode cX3_canBe 34 = .ok (.lcmp, 1) := by decide +kernel
theorem d3_canBe_35 : decode cX3_canBe 35 = .ok (.ifCond .lt 15, 3) := by decide +kernel
theorem d3_canBe_38 : decode cX3_canBe 38 = .ok (.lload_n 2, 1) := by decide +kernel
theorem d3_canBe_39 : decode cX3_canBe 39 = .ok (.ldc2_w 19, 3) := by decide +kernel
theorem d3_canBe_42 : decode cX3_canBe 42 = .ok (.lcmp, 1) := by decide +kernel
theorem d3_canBe_43 : decode cX3_canBe 43 = .ok (.ifCond .gt 7, 3) := by decide +kernel
theorem d3_canBe_46 : decode cX3_canBe 46 = .ok (.iconst 1, 1) := by decide +kernel
theorem d3_canBe_47 : decode cX3_canBe 47 = .ok (.goto 4, 3) := by decide +kernel
theorem d3_canBe_50 : decode cX3_canBe 50 = .ok (.iconst 0, 1) := by decide +kernel
theorem d3_canBe_51 : decode cX3_canBe 51 = .ok (.ireturn, 1) := by decide +kernel
abbrev K3_canBe : CK Int32 := (enI, (some .boolean), 4, 2, none)
noncomputable def F3_canBe (p0 : Int32) (p1 : Int32) (σ : Ms) : Option (Int32 × Ms) :=
  if p0 < (-20971520 : Int32) then (some ((0 : Int32), σ))
  else (if (20971520 : Int32) < p0 then (some ((0 : Int32), σ))
  else (if p1 < 0 then (some ((0 : Int32), σ))
  else (if p1 ≤ (20 : Int32) then (bn (F3_of p0 p1 σ) (fun r1 t2 => if (lg_cmp r1 (-21474836480 : Int64)) < 0 then (some ((0 : Int32), t2))
  else (if 0 < (lg_cmp r1 (21474836480 : Int64)) then (some ((0 : Int32), t2))
  else (some ((1 : Int32), t2)))))
  else (some ((0 : Int32), σ)))))
set_option maxRecDepth 100000 in
theorem mc3_canBe (p0 : Int32) (p1 : Int32) (σ : Ms) : MC enI yX3_canBe cX3_canBe 4 (some .boolean) 2 (F3_canBe p0 p1 σ) σ [.int p0, .int p1] := by
  refine MC.i (by decide +kernel) (Nat.le_of_ble_eq_true rfl) ?_
  show VF (K3_canBe) cX3_canBe RX3 (F3_canBe p0 p1 σ) σ 0 [(0, .int p0), (1, .int p1)] []
  unfold F3_canBe
  refine v_iload_n d3_canBe_0 0 rfl rfl ?_
  refine v_ldc d3_canBe_1 kcX3_9 ?_
  refine v_icmp_lt (tgt := 22) d3_canBe_3 (by decide) ?_ ?_
  · refine v_iconst d3_canBe_22 ki_0 ?_
    exact v_iret (ty := .boolean) d3_canBe_23 rfl rfl rfl
  · refine v_iload_n d3_canBe_6 0 rfl rfl ?_
    refine v_ldc d3_canBe_7 kcX3_10 ?_
    refine v_icmp_gt (tgt := 22) d3_canBe_9 (by decide) ?_ ?_
    · refine v_iconst d3_canBe_22 ki_0 ?_
      exact v_iret (ty := .boolean) d3_canBe_23 rfl rfl rfl
    · refine v_iload_n d3_canBe_12 1 rfl rfl ?_
      refine v_if_lt (tgt := 22) d3_canBe_13 (by decide) ?_ ?_
      · refine v_iconst d3_canBe_22 ki_0 ?_
        exact v_iret (ty := .boolean) d3_canBe_23 rfl rfl rfl
      · refine v_iload_n d3_canBe_16 1 rfl rfl ?_
        refine v_bipush d3_canBe_17 kb_20 ?_
        refine v_icmp_le (tgt := 24) d3_canBe_19 (by decide) ?_ ?_
        · refine v_iload_n d3_canBe_24 0 rfl rfl ?_
          refine v_iload_n d3_canBe_25 1 rfl rfl ?_
          refine v_callS2l d3_canBe_26 (mc3_of p0 p1 σ) ys3_of mlX3_11 (by decide) (Nat.le_of_ble_eq_true rfl) fun r1 t2 => ?_
          refine v_lstore_n (lv' := [(2, .long r1), (0, .int p0), (1, .int p1)]) d3_canBe_29 rfl (by decide) rfl ?_
          refine v_lload_n d3_canBe_30 0 rfl rfl ?_
          refine v_ldc2 d3_canBe_31 klX3_17 ?_
          refine v_lcmp d3_canBe_34 ?_
          refine v_if_lt (tgt := 50) d3_canBe_35 (by decide) ?_ ?_
          · refine v_iconst d3_canBe_50 ki_0 ?_
            exact v_iret (ty := .boolean) d3_canBe_51 rfl rfl rfl
          · refine v_lload_n d3_canBe_38 0 rfl rfl ?_
            refine v_ldc2 d3_canBe_39 klX3_19 ?_
            refine v_lcmp d3_canBe_42 ?_
            refine v_if_gt (tgt := 50) d3_canBe_43 (by decide) ?_ ?_
            · refine v_iconst d3_canBe_50 ki_0 ?_
              exact v_iret (ty := .boolean) d3_canBe_51 rfl rfl rfl
            · refine v_iconst d3_canBe_46 ki_1 ?_
              refine v_goto (tgt := 51) d3_canBe_47 (by decide) ?_
              exact v_iret (ty := .boolean) d3_canBe_51 rfl rfl rfl
        · refine v_iconst d3_canBe_22 ki_0 ?_
          exact v_iret (ty := .boolean) d3_canBe_23 rfl rfl rfl
theorem d3_nextAbove_0 : decode cX3_nextAbove 0 = .ok (.lload_n 2, 1) := by decide +kernel
theorem d3_nextAbove_1 : decode cX3_nextAbove 1 = .ok (.lstore 4, 2) := by decide +kernel
theorem d3_nextAbove_3 : decode cX3_nextAbove 3 = .ok (.iconst 0, 1) := by decide +kernel
theorem d3_nextAbove_4 : decode cX3_nextAbove 4 = .ok (.istore 6, 2) := by decide +kernel
theorem d3_nextAbove_6 : decode cX3_nextAbove 6 = .ok (.iload 6, 2) := by decide +kernel
theorem d3_nextAbove_8 : decode cX3_nextAbove 8 = .ok (.bipush 30, 2) := by decide +kernel
theorem d3_nextAbove_10 : decode cX3_nextAbove 10 = .ok (.if_icmp .gt 34, 3) := by decide +kernel
theorem d3_nextAbove_13 : decode cX3_nextAbove 13 = .ok (.lload 4, 2) := by decide +kernel
theorem d3_nextAbove_15 : decode cX3_nextAbove 15 = .ok (.lload_n 2, 1) := by decide +kernel
theorem d3_nextAbove_16 : decode cX3_nextAbove 16 = .ok (.lcmp, 1) := by decide +kernel
theorem d3_nextAbove_17 : decode cX3_nextAbove 17 = .ok (.ifCond .lt 27, 3) := by decide +kernel
theorem d3_nextAbove_20 : decode cX3_nextAbove 20 = .ok (.bipush 30, 2) := by decide +kernel
theorem d3_nextAbove_22 : decode cX3_nextAbove 22 = .ok (.iload 6, 2) := by decide +kernel
theorem d3_nextAbove_24 : decode cX3_nextAbove 24 = .ok (.isub, 1) := by decide +kernel
theorem d3_nextAbove_25 : decode cX3_nextAbove 25 = .ok (.istore 7, 2) := by decide +kernel
theorem d3_nextAbove_27 : decode cX3_nextAbove 27 = .ok (.lload_n 0, 1) := by decide +kernel
theorem d3_nextAbove_28 : decode cX3_nextAbove 28 = .ok (.iload 7, 2) := by decide +kernel
theorem d3_nextAbove_30 : decode cX3_nextAbove 30 = .ok (.lshr, 1) := by decide +kernel
theorem d3_nextAbove_31 : decode cX3_nextAbove 31 = .ok (.lconst 1, 1) := by decide +kernel
theorem d3_nextAbove_32 : decode cX3_nextAbove 32 = .ok (.ladd, 1) := by decide +kernel
theorem d3_nextAbove_33 : decode cX3_nextAbove 33 = .ok (.iload 7, 2) := by decide +kernel
theorem d3_nextAbove_35 : decode cX3_nextAbove 35 = .ok (.lshl, 1) := by decide +kernel
theorem d3_nextAbove_36 : decode cX3_nextAbove 36 = .ok (.lstore 4, 2) := by decide +kernel
theorem d3_nextAbove_38 : decode cX3_nextAbove 38 = .ok (.iinc 6 1, 3) := by decide +kernel
theorem d3_nextAbove_41 : decode cX3_nextAbove 41 = .ok (.goto (-35), 3) := by decide +kernel
theorem d3_nextAbove_44 : decode cX3_nextAbove 44 = .ok (.lload 4, 2) := by decide +kernel
theorem d3_nextAbove_46 : decode cX3_nextAbove 46 = .ok (.lreturn, 1) := by decide +kernel
abbrev K3_nextAbove : CK Int64 := (enL, (some .long), 8, 1, none)
noncomputable def F3_nextAbove_b6B (N : Nat) (k6 : Int64 × Int64 × Int64 × Int32 × Ms → Option (Int64 × Ms)) (l0 : Int64) (l2 : Int64) (l4 : Int64) (l6 : Int32) (σ : Ms) : Option (Int64 × Ms) :=
  if (30 : Int32) < l6 then (some (l4, σ))
  else (if (lg_cmp l4 l2) < 0 then (some (l4, σ))
  else (lt ((30 : Int32) - l6) (fun x1 => lt (((l0 >>> (x1.toInt64 &&& 63)) + (1 : Int64)) <<< (x1.toInt64 &&& 63)) (fun x2 => k6 (l0, l2, x2, (l6 + (1 : Int32)), σ)))))
noncomputable def F3_nextAbove_b6 (N : Nat) (l0 : Int64) (l2 : Int64) (l4 : Int64) (l6 : Int32) (σ : Ms) : Option (Int64 × Ms) :=
  fx N (fun k x => F3_nextAbove_b6B N k x.1 x.2.1 x.2.2.1 x.2.2.2.1 x.2.2.2.2) (l0, l2, l4, l6, σ)
noncomputable def F3_nextAbove (N : Nat) (p0 : Int64) (p1 : Int64) (σ : Ms) : Option (Int64 × Ms) :=
  F3_nextAbove_b6 N p0 p1 p1 (0 : Int32) σ
set_option maxRecDepth 100000 in
theorem v3_nextAbove_b6B (N : Nat) (k6 : Int64 × Int64 × Int64 × Int32 × Ms → Option (Int64 × Ms)) (hk6 : ∀ (l0 : Int64) (l2 : Int64) (l4 : Int64) (l6 : Int32) (τ : Ms), VF (K3_nextAbove) cX3_nextAbove RX3 (k6 (l0, l2, l4, l6, τ)) τ 6 [(0, .long l0), (2, .long l2), (4, .long l4), (6, .int l6)] []) (l0 : Int64) (l2 : Int64) (l4 : Int64) (l6 : Int32) (σ : Ms) : VF (K3_nextAbove) cX3_nextAbove RX3 (F3_nextAbove_b6B N k6 l0 l2 l4 l6 σ) σ 6 [(0, .long l0), (2, .long l2), (4, .long l4), (6, .int l6)] [] := by
  unfold F3_nextAbove_b6B
  refine v_iload d3_nextAbove_6 3 rfl ?_
  refine v_bipush d3_nextAbove_8 kb_30 ?_
  refine v_icmp_gt (tgt := 44) d3_nextAbove_10 (by decide) ?_ ?_
  · refine v_lload d3_nextAbove_44 2 rfl ?_
    exact v_lret d3_nextAbove_46 rfl rfl
  · refine v_lload d3_nextAbove_13 2 rfl ?_
    refine v_lload_n d3_nextAbove_15 1 rfl rfl ?_
    refine v_lcmp d3_nextAbove_16 ?_
    refine v_if_lt (tgt := 44) d3_nextAbove_17 (by decide) ?_ ?_
    · refine v_lload d3_nextAbove_44 2 rfl ?_
      exact v_lret d3_nextAbove_46 rfl rfl
    · refine v_bipush d3_nextAbove_20 kb_30 ?_
      refine v_iload d3_nextAbove_22 3 rfl ?_
      refine v_isub d3_nextAbove_24 ?_
      refine v_lti fun x1 => ?_
      refine v_istore (lv' := [(7, .int x1), (0, .long l0), (2, .long l2), (4, .long l4), (6, .int l6)]) d3_nextAbove_25 (by decide) rfl ?_
      refine v_lload_n d3_nextAbove_27 1 rfl rfl ?_
      refine v_iload d3_nextAbove_28 0 rfl ?_
      refine v_lshr d3_nextAbove_30 ?_
      refine v_lconst d3_nextAbove_31 kl_1 ?_
      refine v_ladd d3_nextAbove_32 ?_
      refine v_iload d3_nextAbove_33 0 rfl ?_
      refine v_lshl d3_nextAbove_35 ?_
      refine v_ltl fun x2 => ?_
      refine v_lstore (lv' := [(4, .long x2), (7, .int x1), (0, .long l0), (2, .long l2), (6, .int l6)]) d3_nextAbove_36 (by decide) rfl ?_
      refine v_iinc (lv' := [(6, .int (l6 + (1 : Int32))), (4, .long x2), (7, .int x1), (0, .long l0), (2, .long l2)]) d3_nextAbove_38 4 rfl (by rw [ki_1]) (by decide) rfl ?_
      refine v_goto (tgt := 6) d3_nextAbove_41 (by decide) ?_
      refine v_sub [3, 4, 1, 0] rfl ?_
      exact hk6 l0 l2 x2 (l6 + (1 : Int32)) σ
theorem v3_nextAbove_b6 (N : Nat) (l0 : Int64) (l2 : Int64) (l4 : Int64) (l6 : Int32) (σ : Ms) : VF (K3_nextAbove) cX3_nextAbove RX3 (F3_nextAbove_b6 N l0 l2 l4 l6 σ) σ 6 [(0, .long l0), (2, .long l2), (4, .long l4), (6, .int l6)] [] := v_fx (σo := fun x => x.2.2.2.2) (lo := fun x => [(0, .long x.1), (2, .long x.2.1), (4, .long x.2.2.1), (6, .int x.2.2.2.1)]) (fun k hk x => v3_nextAbove_b6B N k (fun l0 l2 l4 l6 τ => hk (l0, l2, l4, l6, τ)) x.1 x.2.1 x.2.2.1 x.2.2.2.1 x.2.2.2.2) N (l0, l2, l4, l6, σ)
set_option maxRecDepth 100000 in
theorem mc3_nextAbove (N : Nat) (p0 : Int64) (p1 : Int64) (σ : Ms) : MC enL yX3_nextAbove cX3_nextAbove 8 (some .long) 1 (F3_nextAbove N p0 p1 σ) σ [.long p0, .long p1] := by
  refine MC.l (by decide +kernel) (Nat.le_of_ble_eq_true rfl) ?_
  show VF (K3_nextAbove) cX3_nextAbove RX3 (F3_nextAbove N p0 p1 σ) σ 0 [(0, .long p0), (2, .long p1)] []
  unfold F3_nextAbove
  refine v_lload_n d3_nextAbove_0 1 rfl rfl ?_
  refine v_lstore (lv' := [(4, .long p1), (0, .long p0), (2, .long p1)]) d3_nextAbove_1 (by decide) rfl ?_
  refine v_iconst d3_nextAbove_3 ki_0 ?_
  refine v_istore (lv' := [(6, .int (0 : Int32)), (4, .long p1), (0, .long p0), (2, .long p1)]) d3_nextAbove_4 (by decide) rfl ?_
  refine v_sub [2, 3, 1, 0] rfl ?_
  exact v3_nextAbove_b6 N p0 p1 p1 (0 : Int32) σ
theorem d3_between_0 : decode cX3_between 0 = .ok (.lload_n 0, 1) := by decide +kernel
theorem d3_between_1 : decode cX3_between 1 = .ok (.lconst 0, 1) := by decide +kernel
theorem d3_between_2 : decode cX3_between 2 = .ok (.lcmp, 1) := by decide +kernel
theorem d3_between_3 : decode cX3_between 3 = .ok (.ifCond .ge 11, 3) := by decide +kernel
theorem d3_between_6 : decode cX3_between 6 = .ok (.lload_n 2, 1) := by decide +kernel
theorem d3_between_7 : decode cX3_between 7 = .ok (.lconst 0, 1) := by decide +kernel
theorem d3_between_8 : decode cX3_between 8 = .ok (.lcmp, 1) := by decide +kernel
theorem d3_between_9 : decode cX3_between 9 = .ok (.ifCond .le 5, 3) := by decide +kernel
theorem d3_between_12 : decode cX3_between 12 = .ok (.lconst 0, 1) := by decide +kernel
theorem d3_between_13 : decode cX3_between 13 = .ok (.lreturn, 1) := by decide +kernel
theorem d3_between_14 : decode cX3_between 14 = .ok (.lload_n 0, 1) := by decide +kernel
theorem d3_between_15 : decode cX3_between 15 = .ok (.lconst 0, 1) := by decide +kernel
theorem d3_between_16 : decode cX3_between 16 = .ok (.lcmp, 1) := by decide +kernel
theorem d3_between_17 : decode cX3_between 17 = .ok (.ifCond .ge 14, 3) := by decide +kernel
theorem d3_between_20 : decode cX3_between 20 = .ok (.lload_n 2, 1) := by decide +kernel
theorem d3_between_21 : decode cX3_between 21 = .ok (.lneg, 1) := by decide +kernel
theorem d3_between_22 : decode cX3_between 22 = .ok (.lload_n 0, 1) := by decide +kernel
theorem d3_between_23 : decode cX3_between 23 = .ok (.lneg, 1) := by decide +kernel
theorem d3_between_24 : decode cX3_between 24 = .ok (.invokestatic 23, 3) := by decide +kernel
theorem d3_between_27 : decode cX3_between 27 = .ok (.lneg, 1) := by decide +kernel
theorem d3_between_28 : decode cX3_between 28 = .ok (.goto 8, 3) := by decide +kernel
theorem d3_between_31 : decode cX3_between 31 = .ok (.lload_n 0, 1) := by decide +kernel
theorem d3_between_32 : decode cX3_between 32 = .ok (.lload_n 2, 1) := by decide +kernel
theorem d3_between_33 : decode cX3_between 33 = .ok (.invokestatic 23, 3) := by decide +kernel
theorem d3_between_36 : decode cX3_between 36 = .ok (.lreturn, 1) := by decide +kernel
abbrev K3_between : CK Int64 := (enL, (some .long), 4, 2, none)
noncomputable def F3_between_b14 (N : Nat) (l0 : Int64) (l2 : Int64) (σ : Ms) : Option (Int64 × Ms) :=
  if 0 ≤ (lg_cmp l0 (0 : Int64)) then (bn (F3_nextAbove N l0 l2 σ) (fun r1 t2 => some (r1, t2)))
  else (bn (F3_nextAbove N (-l2) (-l0) σ) (fun r3 t4 => some ((-r3), t4)))
noncomputable def F3_between (N : Nat) (p0 : Int64) (p1 : Int64) (σ : Ms) : Option (Int64 × Ms) :=
  if 0 ≤ (lg_cmp p0 (0 : Int64)) then (F3_between_b14 N p0 p1 σ)
  else (if (lg_cmp p1 (0 : Int64)) ≤ 0 then (F3_between_b14 N p0 p1 σ)
  else (some ((0 : Int64), σ)))
set_option maxRecDepth 100000 in
theorem v3_between_b14 (N : Nat) (l0 : Int64) (l2 : Int64) (σ : Ms) : VF (K3_between) cX3_between RX3 (F3_between_b14 N l0 l2 σ) σ 14 [(0, .long l0), (2, .long l2)] [] := by
  unfold F3_between_b14
  refine v_lload_n d3_between_14 0 rfl rfl ?_
  refine v_lconst d3_between_15 kl_0 ?_
  refine v_lcmp d3_between_16 ?_
  refine v_if_ge (tgt := 31) d3_between_17 (by decide) ?_ ?_
  · refine v_lload_n d3_between_31 0 rfl rfl ?_
    refine v_lload_n d3_between_32 1 rfl rfl ?_
    refine v_callS2l d3_between_33 (mc3_nextAbove N l0 l2 σ) ys3_nextAbove mlX3_23 (by decide) (Nat.le_of_ble_eq_true rfl) fun r1 t2 => ?_
    exact v_lret d3_between_36 rfl rfl
  · refine v_lload_n d3_between_20 1 rfl rfl ?_
    refine v_lneg d3_between_21 ?_
    refine v_lload_n d3_between_22 0 rfl rfl ?_
    refine v_lneg d3_between_23 ?_
    refine v_callS2l d3_between_24 (mc3_nextAbove N (-l2) (-l0) σ) ys3_nextAbove mlX3_23 (by decide) (Nat.le_of_ble_eq_true rfl) fun r3 t4 => ?_
    refine v_lneg d3_between_27 ?_
    refine v_goto (tgt := 36) d3_between_28 (by decide) ?_
    exact v_lret d3_between_36 rfl rfl
set_option maxRecDepth 100000 in
theorem mc3_between (N : Nat) (p0 : Int64) (p1 : Int64) (σ : Ms) : MC enL yX3_between cX3_between 4 (some .long) 2 (F3_between N p0 p1 σ) σ [.long p0, .long p1] := by
  refine MC.l (by decide +kernel) (Nat.le_of_ble_eq_true rfl) ?_
  show VF (K3_between) cX3_between RX3 (F3_between N p0 p1 σ) σ 0 [(0, .long p0), (2, .long p1)] []
  unfold F3_between
  refine v_lload_n d3_between_0 0 rfl rfl ?_
  refine v_lconst d3_between_1 kl_0 ?_
  refine v_lcmp d3_between_2 ?_
  refine v_if_ge (tgt := 14) d3_between_3 (by decide) ?_ ?_
  · exact v3_between_b14 N p0 p1 σ
  · refine v_lload_n d3_between_6 1 rfl rfl ?_
    refine v_lconst d3_between_7 kl_0 ?_
    refine v_lcmp d3_between_8 ?_
    refine v_if_le (tgt := 14) d3_between_9 (by decide) ?_ ?_
    · exact v3_between_b14 N p0 p1 σ
    · refine v_lconst d3_between_12 kl_0 ?_
      exact v_lret d3_between_13 rfl rfl
theorem d3_isWhole_0 : decode cX3_isWhole 0 = .ok (.lload_n 0, 1) := by decide +kernel
theorem d3_isWhole_1 : decode cX3_isWhole 1 = .ok (.ldc2_w 27, 3) := by decide +kernel
theorem d3_isWhole_4 : decode cX3_isWhole 4 = .ok (.land, 1) := by decide +kernel
theorem d3_isWhole_5 : decode cX3_isWhole 5 = .ok (.lconst 0, 1) := by decide +kernel
theorem d3_isWhole_6 : decode cX3_isWhole 6 = .ok (.lcmp, 1) := by decide +kernel
theorem d3_isWhole_7 : decode cX3_isWhole 7 = .ok (.ifCond .ne 7, 3) := by decide +kernel
theorem d3_isWhole_10 : decode cX3_isWhole 10 = .ok (.iconst 1, 1) := by decide +kernel
theorem d3_isWhole_11 : decode cX3_isWhole 11 = .ok (.goto 4, 3) := by decide +kernel
theorem d3_isWhole_14 : decode cX3_isWhole 14 = .ok (.iconst 0, 1) := by decide +kernel
theorem d3_isWhole_15 : decode cX3_isWhole 15 = .ok (.ireturn, 1) := by decide +kernel
abbrev K3_isWhole : CK Int32 := (enI, (some .boolean), 2, 1, none)
noncomputable def F3_isWhole (p0 : Int64) (σ : Ms) : Option (Int32 × Ms) :=
  if (lg_cmp (p0 &&& (1073741823 : Int64)) (0 : Int64)) ≠ 0 then (some ((0 : Int32), σ))
  else (some ((1 : Int32), σ))
set_option maxRecDepth 100000 in
theorem mc3_isWhole (p0 : Int64) (σ : Ms) : MC enI yX3_isWhole cX3_isWhole 2 (some .boolean) 1 (F3_isWhole p0 σ) σ [.long p0] := by
  refine MC.i (by decide +kernel) (Nat.le_of_ble_eq_true rfl) ?_
  show VF (K3_isWhole) cX3_isWhole RX3 (F3_isWhole p0 σ) σ 0 [(0, .long p0)] []
  unfold F3_isWhole
  refine v_lload_n d3_isWhole_0 0 rfl rfl ?_
  refine v_ldc2 d3_isWhole_1 klX3_27 ?_
  refine v_land d3_isWhole_4 ?_
  refine v_lconst d3_isWhole_5 kl_0 ?_
  refine v_lcmp d3_isWhole_6 ?_
  refine v_if_ne (tgt := 14) d3_isWhole_7 (by decide) ?_ ?_
  · refine v_iconst d3_isWhole_14 ki_0 ?_
    exact v_iret (ty := .boolean) d3_isWhole_15 rfl rfl rfl
  · refine v_iconst d3_isWhole_10 ki_1 ?_
    refine v_goto (tgt := 15) d3_isWhole_11 (by decide) ?_
    exact v_iret (ty := .boolean) d3_isWhole_15 rfl rfl rfl
theorem dJ9_abs_067f4_0 : decode cJ9_abs_067f4 0 = .ok (.lload_n 0, 1) := by decide +kernel
theorem dJ9_abs_067f4_1 : decode cJ9_abs_067f4 1 = .ok (.lconst 0, 1) := by decide +kernel
theorem dJ9_abs_067f4_2 : decode cJ9_abs_067f4 2 = .ok (.lcmp, 1) := by decide +kernel
theorem dJ9_abs_067f4_3 : decode cJ9_abs_067f4 3 = .ok (.ifCond .ge 8, 3) := by decide +kernel
theorem dJ9_abs_067f4_6 : decode cJ9_abs_067f4 6 = .ok (.lload_n 0, 1) := by decide +kernel
theorem dJ9_abs_067f4_7 : decode cJ9_abs_067f4 7 = .ok (.lneg, 1) := by decide +kernel
theorem dJ9_abs_067f4_8 : decode cJ9_abs_067f4 8 = .ok (.goto 4, 3) := by decide +kernel
theorem dJ9_abs_067f4_11 : decode cJ9_abs_067f4 11 = .ok (.lload_n 0, 1) := by decide +kernel
theorem dJ9_abs_067f4_12 : decode cJ9_abs_067f4 12 = .ok (.lreturn, 1) := by decide +kernel
abbrev KJ9_abs_067f4 : CK Int64 := (enL, (some .long), 2, 1, none)
noncomputable def FJ9_abs_067f4 (p0 : Int64) (σ : Ms) : Option (Int64 × Ms) :=
  if 0 ≤ (lg_cmp p0 (0 : Int64)) then (some (p0, σ))
  else (some ((-p0), σ))
set_option maxRecDepth 100000 in
theorem mcJ9_abs_067f4 (p0 : Int64) (σ : Ms) : MC enL yJ9_abs_067f4 cJ9_abs_067f4 2 (some .long) 1 (FJ9_abs_067f4 p0 σ) σ [.long p0] := by
  refine MC.lF (by decide +kernel) (Nat.le_of_ble_eq_true rfl) ?_
  show VF (KJ9_abs_067f4) cJ9_abs_067f4 RJ9 (FJ9_abs_067f4 p0 σ) σ 0 [(0, .long p0)] []
  unfold FJ9_abs_067f4
  refine v_lload_n dJ9_abs_067f4_0 0 rfl rfl ?_
  refine v_lconst dJ9_abs_067f4_1 kl_0 ?_
  refine v_lcmp dJ9_abs_067f4_2 ?_
  refine v_if_ge (tgt := 11) dJ9_abs_067f4_3 (by decide) ?_ ?_
  · refine v_lload_n dJ9_abs_067f4_11 0 rfl rfl ?_
    exact v_lret dJ9_abs_067f4_12 rfl rfl
  · refine v_lload_n dJ9_abs_067f4_6 0 rfl rfl ?_
    refine v_lneg dJ9_abs_067f4_7 ?_
    refine v_goto (tgt := 12) dJ9_abs_067f4_8 (by decide) ?_
    exact v_lret dJ9_abs_067f4_12 rfl rfl
theorem dJ6_numberOfTrailingZeros_0f7a4_0 : decode cJ6_numberOfTrailingZeros_0f7a4 0 = .ok (.iload_n 0, 1) := by decide +kernel
theorem dJ6_numberOfTrailingZeros_0f7a4_1 : decode cJ6_numberOfTrailingZeros_0f7a4 1 = .ok (.iconst (-1), 1) := by decide +kernel
theorem dJ6_numberOfTrailingZeros_0f7a4_2 : decode cJ6_numberOfTrailingZeros_0f7a4 2 = .ok (.ixor, 1) := by decide +kernel
theorem dJ6_numberOfTrailingZeros_0f7a4_3 : decode cJ6_numberOfTrailingZeros_0f7a4 3 = .ok (.iload_n 0, 1) := by decide +kernel
theorem dJ6_numberOfTrailingZeros_0f7a4_4 : decode cJ6_numberOfTrailingZeros_0f7a4 4 = .ok (.iconst 1, 1) := by decide +kernel
theorem dJ6_numberOfTrailingZeros_0f7a4_5 : decode cJ6_numberOfTrailingZeros_0f7a4 5 = .ok (.isub, 1) := by decide +kernel
theorem dJ6_numberOfTrailingZeros_0f7a4_6 : decode cJ6_numberOfTrailingZeros_0f7a4 6 = .ok (.iand, 1) := by decide +kernel
theorem dJ6_numberOfTrailingZeros_0f7a4_7 : decode cJ6_numberOfTrailingZeros_0f7a4 7 = .ok (.istore_n 0, 1) := by decide +kernel
theorem dJ6_numberOfTrailingZeros_0f7a4_8 : decode cJ6_numberOfTrailingZeros_0f7a4 8 = .ok (.iload_n 0, 1) := by decide +kernel
theorem dJ6_numberOfTrailingZeros_0f7a4_9 : decode cJ6_numberOfTrailingZeros_0f7a4 9 = .ok (.ifCond .gt 8, 3) := by decide +kernel
theorem dJ6_numberOfTrailingZeros_0f7a4_12 : decode cJ6_numberOfTrailingZeros_0f7a4 12 = .ok (.iload_n 0, 1) := by decide +kernel
theorem dJ6_numberOfTrailingZeros_0f7a4_13 : decode cJ6_numberOfTrailingZeros_0f7a4 13 = .ok (.bipush 32, 2) := by decide +kernel
theorem dJ6_numberOfTrailingZeros_0f7a4_15 : decode cJ6_numberOfTrailingZeros_0f7a4 15 = .ok (.iand, 1) := by decide +kernel
theorem dJ6_numberOfTrailingZeros_0f7a4_16 : decode cJ6_numberOfTrailingZeros_0f7a4 16 = .ok (.ireturn, 1) := by decide +kernel
theorem dJ6_numberOfTrailingZeros_0f7a4_17 : decode cJ6_numberOfTrailingZeros_0f7a4 17 = .ok (.iconst 1, 1) := by decide +kernel
theorem dJ6_numberOfTrailingZeros_0f7a4_18 : decode cJ6_numberOfTrailingZeros_0f7a4 18 = .ok (.istore_n 1, 1) := by decide +kernel
theorem dJ6_numberOfTrailingZeros_0f7a4_19 : decode cJ6_numberOfTrailingZeros_0f7a4 19 = .ok (.iload_n 0, 1) := by decide +kernel
theorem dJ6_numberOfTrailingZeros_0f7a4_20 : decode cJ6_numberOfTrailingZeros_0f7a4 20 = .ok (.ldc_w 264, 3) := by decide +kernel
theorem dJ6_numberOfTrailingZeros_0f7a4_23 : decode cJ6_numberOfTrailingZeros_0f7a4 23 = .ok (.if_icmp .le 11, 3) := by decide +kernel
theorem dJ6_numberOfTrailingZeros_0f7a4_26 : decode cJ6_numberOfTrailingZeros_0f7a4 26 = .ok (.iinc 1 16, 3) := by decide +kernel
theorem dJ6_numberOfTrailingZeros_0f7a4_29 : decode cJ6_numberOfTrailingZeros_0f7a4 29 = .ok (.iload_n 0, 1) := by decide +kernel
theorem dJ6_numberOfTrailingZeros_0f7a4_30 : decode cJ6_numberOfTrailingZeros_0f7a4 30 = .ok (.bipush 16, 2) := by decide +kernel
theorem dJ6_numberOfTrailingZeros_0f7a4_32 : decode cJ6_numberOfTrailingZeros_0f7a4 32 = .ok (.iushr, 1) := by decide +kernel
theorem dJ6_numberOfTrailingZeros_0f7a4_33 : decode cJ6_numberOfTrailingZeros_0f7a4 33 = .ok (.istore_n 0, 1) := by decide +kernel
theorem dJ6_numberOfTrailingZeros_0f7a4_34 : decode cJ6_numberOfTrailingZeros_0f7a4 34 = .ok (.iload_n 0, 1) := by decide +kernel
theorem dJ6_numberOfTrailingZeros_0f7a4_35 : decode cJ6_numberOfTrailingZeros_0f7a4 35 = .ok (.sipush 256, 3) := by decide +kernel
theorem dJ6_numberOfTrailingZeros_0f7a4_38 : decode cJ6_numberOfTrailingZeros_0f7a4 38 = .ok (.if_icmp .le 11, 3) := by decide +kernel
theorem dJ6_numberOfTrailingZeros_0f7a4_41 : decode cJ6_numberOfTrailingZeros_0f7a4 41 = .ok (.iinc 1 8, 3) := by decide +kernel
theorem dJ6_numberOfTrailingZeros_0f7a4_44 : decode cJ6_numberOfTrailingZeros_0f7a4 44 = .ok (.iload_n 0, 1) := by decide +kernel
theorem dJ6_numberOfTrailingZeros_0f7a4_45 : decode cJ6_numberOfTrailingZeros_0f7a4 45 = .ok (.bipush 8, 2) := by decide +kernel
theorem dJ6_numberOfTrailingZeros_0f7a4_47 : decode cJ6_numberOfTrailingZeros_0f7a4 47 = .ok (.iushr, 1) := by decide +kernel
theorem dJ6_numberOfTrailingZeros_0f7a4_48 : decode cJ6_numberOfTrailingZeros_0f7a4 48 = .ok (.istore_n 0, 1) := by decide +kernel
theorem dJ6_numberOfTrailingZeros_0f7a4_49 : decode cJ6_numberOfTrailingZeros_0f7a4 49 = .ok (.iload_n 0, 1) := by decide +kernel
theorem dJ6_numberOfTrailingZeros_0f7a4_50 : decode cJ6_numberOfTrailingZeros_0f7a4 50 = .ok (.bipush 16, 2) := by decide +kernel
theorem dJ6_numberOfTrailingZeros_0f7a4_52 : decode cJ6_numberOfTrailingZeros_0f7a4 52 = .ok (.if_icmp .le 10, 3) := by decide +kernel
theorem dJ6_numberOfTrailingZeros_0f7a4_55 : decode cJ6_numberOfTrailingZeros_0f7a4 55 = .ok (.iinc 1 4, 3) := by decide +kernel
theorem dJ6_numberOfTrailingZeros_0f7a4_58 : decode cJ6_numberOfTrailingZeros_0f7a4 58 = .ok (.iload_n 0, 1) := by decide +kernel
theorem dJ6_numberOfTrailingZeros_0f7a4_59 : decode cJ6_numberOfTrailingZeros_0f7a4 59 = .ok (.iconst 4, 1) := by decide +kernel
theorem dJ6_numberOfTrailingZeros_0f7a4_60 : decode cJ6_numberOfTrailingZeros_0f7a4 60 = .ok (.iushr, 1) := by decide +kernel
theorem dJ6_numberOfTrailingZeros_0f7a4_61 : decode cJ6_numberOfTrailingZeros_0f7a4 61 = .ok (.istore_n 0, 1) := by decide +kernel
theorem dJ6_numberOfTrailingZeros_0f7a4_62 : decode cJ6_numberOfTrailingZeros_0f7a4 62 = .ok (.iload_n 0, 1) := by decide +kernel
theorem dJ6_numberOfTrailingZeros_0f7a4_63 : decode cJ6_numberOfTrailingZeros_0f7a4 63 = .ok (.iconst 4, 1) := by decide +kernel
theorem dJ6_numberOfTrailingZeros_0f7a4_64 : decode cJ6_numberOfTrailingZeros_0f7a4 64 = .ok (.if_icmp .le 10, 3) := by decide +kernel
theorem dJ6_numberOfTrailingZeros_0f7a4_67 : decode cJ6_numberOfTrailingZeros_0f7a4 67 = .ok (.iinc 1 2, 3) := by decide +kernel
theorem dJ6_numberOfTrailingZeros_0f7a4_70 : decode cJ6_numberOfTrailingZeros_0f7a4 70 = .ok (.iload_n 0, 1) := by decide +kernel
theorem dJ6_numberOfTrailingZeros_0f7a4_71 : decode cJ6_numberOfTrailingZeros_0f7a4 71 = .ok (.iconst 2, 1) := by decide +kernel
theorem dJ6_numberOfTrailingZeros_0f7a4_72 : decode cJ6_numberOfTrailingZeros_0f7a4 72 = .ok (.iushr, 1) := by decide +kernel
theorem dJ6_numberOfTrailingZeros_0f7a4_73 : decode cJ6_numberOfTrailingZeros_0f7a4 73 = .ok (.istore_n 0, 1) := by decide +kernel
theorem dJ6_numberOfTrailingZeros_0f7a4_74 : decode cJ6_numberOfTrailingZeros_0f7a4 74 = .ok (.iload_n 1, 1) := by decide +kernel
theorem dJ6_numberOfTrailingZeros_0f7a4_75 : decode cJ6_numberOfTrailingZeros_0f7a4 75 = .ok (.iload_n 0, 1) := by decide +kernel
theorem dJ6_numberOfTrailingZeros_0f7a4_76 : decode cJ6_numberOfTrailingZeros_0f7a4 76 = .ok (.iconst 1, 1) := by decide +kernel
theorem dJ6_numberOfTrailingZeros_0f7a4_77 : decode cJ6_numberOfTrailingZeros_0f7a4 77 = .ok (.iushr, 1) := by decide +kernel
theorem dJ6_numberOfTrailingZeros_0f7a4_78 : decode cJ6_numberOfTrailingZeros_0f7a4 78 = .ok (.iadd, 1) := by decide +kernel
theorem dJ6_numberOfTrailingZeros_0f7a4_79 : decode cJ6_numberOfTrailingZeros_0f7a4 79 = .ok (.ireturn, 1) := by decide +kernel
abbrev KJ6_numberOfTrailingZeros_0f7a4 : CK Int32 := (enI, (some .int), 2, 1, none)
noncomputable def FJ6_numberOfTrailingZeros_0f7a4_b74 (l0 : Int32) (l1 : Int32) (σ : Ms) : Option (Int32 × Ms) :=
  some ((l1 + ((l0.toUInt32 >>> ((1 : Int32).toUInt32 &&& Int32.toUInt32 31)).toInt32)), σ)
noncomputable def FJ6_numberOfTrailingZeros_0f7a4_b62 (l0 : Int32) (l1 : Int32) (σ : Ms) : Option (Int32 × Ms) :=
  if l0 ≤ (4 : Int32) then (FJ6_numberOfTrailingZeros_0f7a4_b74 l0 l1 σ)
  else (lt ((l0.toUInt32 >>> ((2 : Int32).toUInt32 &&& Int32.toUInt32 31)).toInt32) (fun x1 => FJ6_numberOfTrailingZeros_0f7a4_b74 x1 (l1 + (2 : Int32)) σ))
noncomputable def FJ6_numberOfTrailingZeros_0f7a4_b49 (l0 : Int32) (l1 : Int32) (σ : Ms) : Option (Int32 × Ms) :=
  if l0 ≤ (16 : Int32) then (FJ6_numberOfTrailingZeros_0f7a4_b62 l0 l1 σ)
  else (lt ((l0.toUInt32 >>> ((4 : Int32).toUInt32 &&& Int32.toUInt32 31)).toInt32) (fun x2 => FJ6_numberOfTrailingZeros_0f7a4_b62 x2 (l1 + (4 : Int32)) σ))
noncomputable def FJ6_numberOfTrailingZeros_0f7a4_b34 (l0 : Int32) (l1 : Int32) (σ : Ms) : Option (Int32 × Ms) :=
  if l0 ≤ (256 : Int32) then (FJ6_numberOfTrailingZeros_0f7a4_b49 l0 l1 σ)
  else (lt ((l0.toUInt32 >>> ((8 : Int32).toUInt32 &&& Int32.toUInt32 31)).toInt32) (fun x3 => FJ6_numberOfTrailingZeros_0f7a4_b49 x3 (l1 + (8 : Int32)) σ))
noncomputable def FJ6_numberOfTrailingZeros_0f7a4 (p0 : Int32) (σ : Ms) : Option (Int32 × Ms) :=
  lt ((p0 ^^^ (-1 : Int32)) &&& (p0 - (1 : Int32))) (fun x4 => if 0 < x4 then (if x4 ≤ (65536 : Int32) then (FJ6_numberOfTrailingZeros_0f7a4_b34 x4 (1 : Int32) σ)
  else (lt ((x4.toUInt32 >>> ((16 : Int32).toUInt32 &&& Int32.toUInt32 31)).toInt32) (fun x5 => FJ6_numberOfTrailingZeros_0f7a4_b34 x5 ((1 : Int32) + (16 : Int32)) σ)))
  else (some ((x4 &&& (32 : Int32)), σ)))
set_option maxRecDepth 100000 in
theorem vJ6_numberOfTrailingZeros_0f7a4_b74 (l0 : Int32) (l1 : Int32) (σ : Ms) : VF (KJ6_numberOfTrailingZeros_0f7a4) cJ6_numberOfTrailingZeros_0f7a4 RJ6 (FJ6_numberOfTrailingZeros_0f7a4_b74 l0 l1 σ) σ 74 [(0, .int l0), (1, .int l1)] [] := by
  unfold FJ6_numberOfTrailingZeros_0f7a4_b74
  refine v_iload_n dJ6_numberOfTrailingZeros_0f7a4_74 1 rfl rfl ?_
  refine v_iload_n dJ6_numberOfTrailingZeros_0f7a4_75 0 rfl rfl ?_
  refine v_iconst dJ6_numberOfTrailingZeros_0f7a4_76 ki_1 ?_
  refine v_iushr dJ6_numberOfTrailingZeros_0f7a4_77 ?_
  refine v_iadd dJ6_numberOfTrailingZeros_0f7a4_78 ?_
  exact v_iret dJ6_numberOfTrailingZeros_0f7a4_79 rfl rfl rfl
set_option maxRecDepth 100000 in
theorem vJ6_numberOfTrailingZeros_0f7a4_b62 (l0 : Int32) (l1 : Int32) (σ : Ms) : VF (KJ6_numberOfTrailingZeros_0f7a4) cJ6_numberOfTrailingZeros_0f7a4 RJ6 (FJ6_numberOfTrailingZeros_0f7a4_b62 l0 l1 σ) σ 62 [(0, .int l0), (1, .int l1)] [] := by
  unfold FJ6_numberOfTrailingZeros_0f7a4_b62
  refine v_iload_n dJ6_numberOfTrailingZeros_0f7a4_62 0 rfl rfl ?_
  refine v_iconst dJ6_numberOfTrailingZeros_0f7a4_63 ki_4 ?_
  refine v_icmp_le (tgt := 74) dJ6_numberOfTrailingZeros_0f7a4_64 (by decide) ?_ ?_
  · exact vJ6_numberOfTrailingZeros_0f7a4_b74 l0 l1 σ
  · refine v_iinc (lv' := [(1, .int (l1 + (2 : Int32))), (0, .int l0)]) dJ6_numberOfTrailingZeros_0f7a4_67 1 rfl (by rw [ki_2]) (by decide) rfl ?_
    refine v_iload_n dJ6_numberOfTrailingZeros_0f7a4_70 1 rfl rfl ?_
    refine v_iconst dJ6_numberOfTrailingZeros_0f7a4_71 ki_2 ?_
    refine v_iushr dJ6_numberOfTrailingZeros_0f7a4_72 ?_
    refine v_lti fun x1 => ?_
    refine v_istore_n (lv' := [(0, .int x1), (1, .int (l1 + (2 : Int32)))]) dJ6_numberOfTrailingZeros_0f7a4_73 rfl (by decide) rfl ?_
    exact vJ6_numberOfTrailingZeros_0f7a4_b74 x1 (l1 + (2 : Int32)) σ
set_option maxRecDepth 100000 in
theorem vJ6_numberOfTrailingZeros_0f7a4_b49 (l0 : Int32) (l1 : Int32) (σ : Ms) : VF (KJ6_numberOfTrailingZeros_0f7a4) cJ6_numberOfTrailingZeros_0f7a4 RJ6 (FJ6_numberOfTrailingZeros_0f7a4_b49 l0 l1 σ) σ 49 [(0, .int l0), (1, .int l1)] [] := by
  unfold FJ6_numberOfTrailingZeros_0f7a4_b49
  refine v_iload_n dJ6_numberOfTrailingZeros_0f7a4_49 0 rfl rfl ?_
  refine v_bipush dJ6_numberOfTrailingZeros_0f7a4_50 kb_16 ?_
  refine v_icmp_le (tgt := 62) dJ6_numberOfTrailingZeros_0f7a4_52 (by decide) ?_ ?_
  · exact vJ6_numberOfTrailingZeros_0f7a4_b62 l0 l1 σ
  · refine v_iinc (lv' := [(1, .int (l1 + (4 : Int32))), (0, .int l0)]) dJ6_numberOfTrailingZeros_0f7a4_55 1 rfl (by rw [ki_4]) (by decide) rfl ?_
    refine v_iload_n dJ6_numberOfTrailingZeros_0f7a4_58 1 rfl rfl ?_
    refine v_iconst dJ6_numberOfTrailingZeros_0f7a4_59 ki_4 ?_
    refine v_iushr dJ6_numberOfTrailingZeros_0f7a4_60 ?_
    refine v_lti fun x2 => ?_
    refine v_istore_n (lv' := [(0, .int x2), (1, .int (l1 + (4 : Int32)))]) dJ6_numberOfTrailingZeros_0f7a4_61 rfl (by decide) rfl ?_
    exact vJ6_numberOfTrailingZeros_0f7a4_b62 x2 (l1 + (4 : Int32)) σ
set_option maxRecDepth 100000 in
theorem vJ6_numberOfTrailingZeros_0f7a4_b34 (l0 : Int32) (l1 : Int32) (σ : Ms) : VF (KJ6_numberOfTrailingZeros_0f7a4) cJ6_numberOfTrailingZeros_0f7a4 RJ6 (FJ6_numberOfTrailingZeros_0f7a4_b34 l0 l1 σ) σ 34 [(0, .int l0), (1, .int l1)] [] := by
  unfold FJ6_numberOfTrailingZeros_0f7a4_b34
  refine v_iload_n dJ6_numberOfTrailingZeros_0f7a4_34 0 rfl rfl ?_
  refine v_sipush dJ6_numberOfTrailingZeros_0f7a4_35 ks_256 ?_
  refine v_icmp_le (tgt := 49) dJ6_numberOfTrailingZeros_0f7a4_38 (by decide) ?_ ?_
  · exact vJ6_numberOfTrailingZeros_0f7a4_b49 l0 l1 σ
  · refine v_iinc (lv' := [(1, .int (l1 + (8 : Int32))), (0, .int l0)]) dJ6_numberOfTrailingZeros_0f7a4_41 1 rfl (by rw [ki_8]) (by decide) rfl ?_
    refine v_iload_n dJ6_numberOfTrailingZeros_0f7a4_44 1 rfl rfl ?_
    refine v_bipush dJ6_numberOfTrailingZeros_0f7a4_45 kb_8 ?_
    refine v_iushr dJ6_numberOfTrailingZeros_0f7a4_47 ?_
    refine v_lti fun x3 => ?_
    refine v_istore_n (lv' := [(0, .int x3), (1, .int (l1 + (8 : Int32)))]) dJ6_numberOfTrailingZeros_0f7a4_48 rfl (by decide) rfl ?_
    exact vJ6_numberOfTrailingZeros_0f7a4_b49 x3 (l1 + (8 : Int32)) σ
set_option maxRecDepth 100000 in
theorem mcJ6_numberOfTrailingZeros_0f7a4 (p0 : Int32) (σ : Ms) : MC enI yJ6_numberOfTrailingZeros_0f7a4 cJ6_numberOfTrailingZeros_0f7a4 2 (some .int) 1 (FJ6_numberOfTrailingZeros_0f7a4 p0 σ) σ [.int p0] := by
  refine MC.i (by decide +kernel) (Nat.le_of_ble_eq_true rfl) ?_
  show VF (KJ6_numberOfTrailingZeros_0f7a4) cJ6_numberOfTrailingZeros_0f7a4 RJ6 (FJ6_numberOfTrailingZeros_0f7a4 p0 σ) σ 0 [(0, .int p0)] []
  unfold FJ6_numberOfTrailingZeros_0f7a4
  refine v_iload_n dJ6_numberOfTrailingZeros_0f7a4_0 0 rfl rfl ?_
  refine v_iconst dJ6_numberOfTrailingZeros_0f7a4_1 ki_m1 ?_
  refine v_ixor dJ6_numberOfTrailingZeros_0f7a4_2 ?_
  refine v_iload_n dJ6_numberOfTrailingZeros_0f7a4_3 0 rfl rfl ?_
  refine v_iconst dJ6_numberOfTrailingZeros_0f7a4_4 ki_1 ?_
  refine v_isub dJ6_numberOfTrailingZeros_0f7a4_5 ?_
  refine v_iand dJ6_numberOfTrailingZeros_0f7a4_6 ?_
  refine v_lti fun x4 => ?_
  refine v_istore_n (lv' := [(0, .int x4)]) dJ6_numberOfTrailingZeros_0f7a4_7 rfl (by decide) rfl ?_
  refine v_iload_n dJ6_numberOfTrailingZeros_0f7a4_8 0 rfl rfl ?_
  refine v_if_gt (tgt := 17) dJ6_numberOfTrailingZeros_0f7a4_9 (by decide) ?_ ?_
  · refine v_iconst dJ6_numberOfTrailingZeros_0f7a4_17 ki_1 ?_
    refine v_istore_n (lv' := [(1, .int (1 : Int32)), (0, .int x4)]) dJ6_numberOfTrailingZeros_0f7a4_18 rfl (by decide) rfl ?_
    refine v_iload_n dJ6_numberOfTrailingZeros_0f7a4_19 1 rfl rfl ?_
    refine v_ldc_w dJ6_numberOfTrailingZeros_0f7a4_20 kcJ6_264 ?_
    refine v_icmp_le (tgt := 34) dJ6_numberOfTrailingZeros_0f7a4_23 (by decide) ?_ ?_
    · refine v_sub [1, 0] rfl ?_
      exact vJ6_numberOfTrailingZeros_0f7a4_b34 x4 (1 : Int32) σ
    · refine v_iinc (lv' := [(1, .int ((1 : Int32) + (16 : Int32))), (0, .int x4)]) dJ6_numberOfTrailingZeros_0f7a4_26 0 rfl (by rw [ki_16]) (by decide) rfl ?_
      refine v_iload_n dJ6_numberOfTrailingZeros_0f7a4_29 1 rfl rfl ?_
      refine v_bipush dJ6_numberOfTrailingZeros_0f7a4_30 kb_16 ?_
      refine v_iushr dJ6_numberOfTrailingZeros_0f7a4_32 ?_
      refine v_lti fun x5 => ?_
      refine v_istore_n (lv' := [(0, .int x5), (1, .int ((1 : Int32) + (16 : Int32)))]) dJ6_numberOfTrailingZeros_0f7a4_33 rfl (by decide) rfl ?_
      exact vJ6_numberOfTrailingZeros_0f7a4_b34 x5 ((1 : Int32) + (16 : Int32)) σ
  · refine v_iload_n dJ6_numberOfTrailingZeros_0f7a4_12 0 rfl rfl ?_
    refine v_bipush dJ6_numberOfTrailingZeros_0f7a4_13 kb_32 ?_
    refine v_iand dJ6_numberOfTrailingZeros_0f7a4_15 ?_
    exact v_iret dJ6_numberOfTrailingZeros_0f7a4_16 rfl rfl rfl
theorem dJ13_numberOfTrailingZeros_95d88_0 : decode cJ13_numberOfTrailingZeros_95d88 0 = .ok (.lload_n 0, 1) := by decide +kernel
theorem dJ13_numberOfTrailingZeros_95d88_1 : decode cJ13_numberOfTrailingZeros_95d88 1 = .ok (.l2i, 1) := by decide +kernel
theorem dJ13_numberOfTrailingZeros_95d88_2 : decode cJ13_numberOfTrailingZeros_95d88 2 = .ok (.istore_n 2, 1) := by decide +kernel
theorem dJ13_numberOfTrailingZeros_95d88_3 : decode cJ13_numberOfTrailingZeros_95d88 3 = .ok (.iload_n 2, 1) := by decide +kernel
theorem dJ13_numberOfTrailingZeros_95d88_4 : decode cJ13_numberOfTrailingZeros_95d88 4 = .ok (.ifCond .ne 17, 3) := by decide +kernel
theorem dJ13_numberOfTrailingZeros_95d88_7 : decode cJ13_numberOfTrailingZeros_95d88 7 = .ok (.bipush 32, 2) := by decide +kernel
theorem dJ13_numberOfTrailingZeros_95d88_9 : decode cJ13_numberOfTrailingZeros_95d88 9 = .ok (.lload_n 0, 1) := by decide +kernel
theorem dJ13_numberOfTrailingZeros_95d88_10 : decode cJ13_numberOfTrailingZeros_95d88 10 = .ok (.bipush 32, 2) := by decide +kernel
theorem dJ13_numberOfTrailingZeros_95d88_12 : decode cJ13_numberOfTrailingZeros_95d88 12 = .ok (.lushr, 1) := by decide +kernel
theorem dJ13_numberOfTrailingZeros_95d88_13 : decode cJ13_numberOfTrailingZeros_95d88 13 = .ok (.l2i, 1) := by decide +kernel
theorem dJ13_numberOfTrailingZeros_95d88_14 : decode cJ13_numberOfTrailingZeros_95d88 14 = .ok (.invokestatic 311, 3) := by decide +kernel
theorem dJ13_numberOfTrailingZeros_95d88_17 : decode cJ13_numberOfTrailingZeros_95d88 17 = .ok (.iadd, 1) := by decide +kernel
theorem dJ13_numberOfTrailingZeros_95d88_18 : decode cJ13_numberOfTrailingZeros_95d88 18 = .ok (.goto 7, 3) := by decide +kernel
theorem dJ13_numberOfTrailingZeros_95d88_21 : decode cJ13_numberOfTrailingZeros_95d88 21 = .ok (.iload_n 2, 1) := by decide +kernel
theorem dJ13_numberOfTrailingZeros_95d88_22 : decode cJ13_numberOfTrailingZeros_95d88 22 = .ok (.invokestatic 311, 3) := by decide +kernel
theorem dJ13_numberOfTrailingZeros_95d88_25 : decode cJ13_numberOfTrailingZeros_95d88 25 = .ok (.ireturn, 1) := by decide +kernel
abbrev KJ13_numberOfTrailingZeros_95d88 : CK Int32 := (enI, (some .int), 3, 2, none)
noncomputable def FJ13_numberOfTrailingZeros_95d88 (p0 : Int64) (σ : Ms) : Option (Int32 × Ms) :=
  lt (p0.toInt32) (fun x1 => if x1 ≠ 0 then (bn (FJ6_numberOfTrailingZeros_0f7a4 x1 σ) (fun r2 t3 => some (r2, t3)))
  else (bn (FJ6_numberOfTrailingZeros_0f7a4 (((p0.toUInt64 >>> ((32 : Int32).toInt64.toUInt64 &&& Int64.toUInt64 63)).toInt64).toInt32) σ) (fun r4 t5 => some (((32 : Int32) + r4), t5))))
set_option maxRecDepth 100000 in
theorem mcJ13_numberOfTrailingZeros_95d88 (p0 : Int64) (σ : Ms) : MC enI yJ13_numberOfTrailingZeros_95d88 cJ13_numberOfTrailingZeros_95d88 3 (some .int) 2 (FJ13_numberOfTrailingZeros_95d88 p0 σ) σ [.long p0] := by
  refine MC.i (by decide +kernel) (Nat.le_of_ble_eq_true rfl) ?_
  show VF (KJ13_numberOfTrailingZeros_95d88) cJ13_numberOfTrailingZeros_95d88 RJ13 (FJ13_numberOfTrailingZeros_95d88 p0 σ) σ 0 [(0, .long p0)] []
  unfold FJ13_numberOfTrailingZeros_95d88
  refine v_lload_n dJ13_numberOfTrailingZeros_95d88_0 0 rfl rfl ?_
  refine v_l2i dJ13_numberOfTrailingZeros_95d88_1 ?_
  refine v_lti fun x1 => ?_
  refine v_istore_n (lv' := [(2, .int x1), (0, .long p0)]) dJ13_numberOfTrailingZeros_95d88_2 rfl (by decide) rfl ?_
  refine v_iload_n dJ13_numberOfTrailingZeros_95d88_3 0 rfl rfl ?_
  refine v_if_ne (tgt := 21) dJ13_numberOfTrailingZeros_95d88_4 (by decide) ?_ ?_
  · refine v_iload_n dJ13_numberOfTrailingZeros_95d88_21 0 rfl rfl ?_
    refine v_callS1i dJ13_numberOfTrailingZeros_95d88_22 (mcJ6_numberOfTrailingZeros_0f7a4 x1 σ) ysJ6_numberOfTrailingZeros_0f7a4 mlJ13_311 (by decide) (Nat.le_of_ble_eq_true rfl) fun r2 t3 => ?_
    exact v_iret dJ13_numberOfTrailingZeros_95d88_25 rfl rfl rfl
  · refine v_bipush dJ13_numberOfTrailingZeros_95d88_7 kb_32 ?_
    refine v_lload_n dJ13_numberOfTrailingZeros_95d88_9 1 rfl rfl ?_
    refine v_bipush dJ13_numberOfTrailingZeros_95d88_10 kb_32 ?_
    refine v_lushr dJ13_numberOfTrailingZeros_95d88_12 ?_
    refine v_l2i dJ13_numberOfTrailingZeros_95d88_13 ?_
    refine v_callS1i dJ13_numberOfTrailingZeros_95d88_14 (mcJ6_numberOfTrailingZeros_0f7a4 (((p0.toUInt64 >>> ((32 : Int32).toInt64.toUInt64 &&& Int64.toUInt64 63)).toInt64).toInt32) σ) ysJ6_numberOfTrailingZeros_0f7a4 mlJ13_311 (by decide) (Nat.le_of_ble_eq_true rfl) fun r4 t5 => ?_
    refine v_iadd dJ13_numberOfTrailingZeros_95d88_17 ?_
    refine v_goto (tgt := 25) dJ13_numberOfTrailingZeros_95d88_18 (by decide) ?_
    exact v_iret dJ13_numberOfTrailingZeros_95d88_25 rfl rfl rfl
theorem d3_age_0 : decode cX3_age 0 = .ok (.lload_n 0, 1) := by decide +kernel
theorem d3_age_1 : decode cX3_age 1 = .ok (.invokestatic 29, 3) := by decide +kernel
theorem d3_age_4 : decode cX3_age 4 = .ok (.bipush 30, 2) := by decide +kernel
theorem d3_age_6 : decode cX3_age 6 = .ok (.lshr, 1) := by decide +kernel
theorem d3_age_7 : decode cX3_age 7 = .ok (.l2i, 1) := by decide +kernel
theorem d3_age_8 : decode cX3_age 8 = .ok (.istore_n 2, 1) := by decide +kernel
theorem d3_age_9 : decode cX3_age 9 = .ok (.lload_n 0, 1) := by decide +kernel
theorem d3_age_10 : decode cX3_age 10 = .ok (.invokestatic 35, 3) := by decide +kernel
theorem d3_age_13 : decode cX3_age 13 = .ok (.ifCond .eq 5, 3) := by decide +kernel
theorem d3_age_16 : decode cX3_age 16 = .ok (.iload_n 2, 1) := by decide +kernel
theorem d3_age_17 : decode cX3_age 17 = .ok (.ireturn, 1) := by decide +kernel
theorem d3_age_18 : decode cX3_age 18 = .ok (.iload_n 2, 1) := by decide +kernel
theorem d3_age_19 : decode cX3_age 19 = .ok (.bipush 30, 2) := by decide +kernel
theorem d3_age_21 : decode cX3_age 21 = .ok (.iadd, 1) := by decide +kernel
theorem d3_age_22 : decode cX3_age 22 = .ok (.lload_n 0, 1) := by decide +kernel
theorem d3_age_23 : decode cX3_age 23 = .ok (.invokestatic 39, 3) := by decide +kernel
theorem d3_age_26 : decode cX3_age 26 = .ok (.isub, 1) := by decide +kernel
theorem d3_age_27 : decode cX3_age 27 = .ok (.iconst 1, 1) := by decide +kernel
theorem d3_age_28 : decode cX3_age 28 = .ok (.iadd, 1) := by decide +kernel
theorem d3_age_29 : decode cX3_age 29 = .ok (.ireturn, 1) := by decide +kernel
abbrev K3_age : CK Int32 := (enI, (some .int), 3, 3, none)
noncomputable def F3_age (p0 : Int64) (σ : Ms) : Option (Int32 × Ms) :=
  bn (FJ9_abs_067f4 p0 σ) (fun r1 t2 => lt ((r1 >>> ((30 : Int32).toInt64 &&& 63)).toInt32) (fun x3 => bn (F3_isWhole p0 t2) (fun r4 t5 => if r4 = 0 then (bn (FJ13_numberOfTrailingZeros_95d88 p0 t5) (fun r6 t7 => some ((((x3 + (30 : Int32)) - r6) + (1 : Int32)), t7)))
  else (some (x3, t5)))))
set_option maxRecDepth 100000 in
theorem mc3_age (p0 : Int64) (σ : Ms) : MC enI yX3_age cX3_age 3 (some .int) 3 (F3_age p0 σ) σ [.long p0] := by
  refine MC.i (by decide +kernel) (Nat.le_of_ble_eq_true rfl) ?_
  show VF (K3_age) cX3_age RX3 (F3_age p0 σ) σ 0 [(0, .long p0)] []
  unfold F3_age
  refine v_lload_n d3_age_0 0 rfl rfl ?_
  refine v_callS1l d3_age_1 (mcJ9_abs_067f4 p0 σ) ysJ9_abs_067f4 mlX3_29 (by decide) (Nat.le_of_ble_eq_true rfl) fun r1 t2 => ?_
  refine v_bipush d3_age_4 kb_30 ?_
  refine v_lshr d3_age_6 ?_
  refine v_l2i d3_age_7 ?_
  refine v_lti fun x3 => ?_
  refine v_istore_n (lv' := [(2, .int x3), (0, .long p0)]) d3_age_8 rfl (by decide) rfl ?_
  refine v_lload_n d3_age_9 1 rfl rfl ?_
  refine v_callS1i d3_age_10 (mc3_isWhole p0 t2) ys3_isWhole mlX3_35 (by decide) (Nat.le_of_ble_eq_true rfl) fun r4 t5 => ?_
  refine v_if_eq (tgt := 18) d3_age_13 (by decide) ?_ ?_
  · refine v_iload_n d3_age_18 0 rfl rfl ?_
    refine v_bipush d3_age_19 kb_30 ?_
    refine v_iadd d3_age_21 ?_
    refine v_lload_n d3_age_22 1 rfl rfl ?_
    refine v_callS1i d3_age_23 (mcJ13_numberOfTrailingZeros_95d88 p0 t5) ysJ13_numberOfTrailingZeros_95d88 mlX3_39 (by decide) (Nat.le_of_ble_eq_true rfl) fun r6 t7 => ?_
    refine v_isub d3_age_26 ?_
    refine v_iconst d3_age_27 ki_1 ?_
    refine v_iadd d3_age_28 ?_
    exact v_iret d3_age_29 rfl rfl rfl
  · refine v_iload_n d3_age_16 0 rfl rfl ?_
    exact v_iret d3_age_17 rfl rfl rfl
theorem d3_stalkColour_0 : decode cX3_stalkColour 0 = .ok (.iload_n 2, 1) := by decide +kernel
theorem d3_stalkColour_1 : decode cX3_stalkColour 1 = .ok (.ifCond .lt 11, 3) := by decide +kernel
theorem d3_stalkColour_4 : decode cX3_stalkColour 4 = .ok (.iload_n 2, 1) := by decide +kernel
theorem d3_stalkColour_5 : decode cX3_stalkColour 5 = .ok (.lload_n 0, 1) := by decide +kernel
theorem d3_stalkColour_6 : decode cX3_stalkColour 6 = .ok (.invokestatic 45, 3) := by decide +kernel
theorem d3_stalkColour_9 : decode cX3_stalkColour 9 = .ok (.if_icmp .lt 5, 3) := by decide +kernel
theorem d3_stalkColour_12 : decode cX3_stalkColour 12 = .ok (.iconst (-1), 1) := by decide +kernel
theorem d3_stalkColour_13 : decode cX3_stalkColour 13 = .ok (.ireturn, 1) := by decide +kernel
theorem d3_stalkColour_14 : decode cX3_stalkColour 14 = .ok (.lload_n 0, 1) := by decide +kernel
theorem d3_stalkColour_15 : decode cX3_stalkColour 15 = .ok (.lconst 0, 1) := by decide +kernel
theorem d3_stalkColour_16 : decode cX3_stalkColour 16 = .ok (.lcmp, 1) := by decide +kernel
theorem d3_stalkColour_17 : decode cX3_stalkColour 17 = .ok (.ifCond .ge 7, 3) := by decide +kernel
theorem d3_stalkColour_20 : decode cX3_stalkColour 20 = .ok (.iconst 1, 1) := by decide +kernel
theorem d3_stalkColour_21 : decode cX3_stalkColour 21 = .ok (.goto 4, 3) := by decide +kernel
theorem d3_stalkColour_24 : decode cX3_stalkColour 24 = .ok (.iconst 0, 1) := by decide +kernel
theorem d3_stalkColour_25 : decode cX3_stalkColour 25 = .ok (.istore_n 3, 1) := by decide +kernel
theorem d3_stalkColour_26 : decode cX3_stalkColour 26 = .ok (.lload_n 0, 1) := by decide +kernel
theorem d3_stalkColour_27 : decode cX3_stalkColour 27 = .ok (.lconst 0, 1) := by decide +kernel
theorem d3_stalkColour_28 : decode cX3_stalkColour 28 = .ok (.lcmp, 1) := by decide +kernel
theorem d3_stalkColour_29 : decode cX3_stalkColour 29 = .ok (.ifCond .ge 7, 3) := by decide +kernel
theorem d3_stalkColour_32 : decode cX3_stalkColour 32 = .ok (.iconst 0, 1) := by decide +kernel
theorem d3_stalkColour_33 : decode cX3_stalkColour 33 = .ok (.goto 4, 3) := by decide +kernel
theorem d3_stalkColour_36 : decode cX3_stalkColour 36 = .ok (.iconst 1, 1) := by decide +kernel
theorem d3_stalkColour_37 : decode cX3_stalkColour 37 = .ok (.istore 4, 2) := by decide +kernel
theorem d3_stalkColour_39 : decode cX3_stalkColour 39 = .ok (.lload_n 0, 1) := by decide +kernel
theorem d3_stalkColour_40 : decode cX3_stalkColour 40 = .ok (.invokestatic 29, 3) := by decide +kernel
theorem d3_stalkColour_43 : decode cX3_stalkColour 43 = .ok (.lstore 5, 2) := by decide +kernel
theorem d3_stalkColour_45 : decode cX3_stalkColour 45 = .ok (.lload 5, 2) := by decide +kernel
theorem d3_stalkColour_47 : decode cX3_stalkColour 47 = .ok (.bipush 30, 2) := by decide +kernel
theorem d3_stalkColour_49 : decode cX3_stalkColour 49 = .ok (.lshr, 1) := by decide +kernel
theorem d3_stalkColour_50 : decode cX3_stalkColour 50 = .ok (.l2i, 1) := by decide +kernel
theorem d3_stalkColour_51 : decode cX3_stalkColour 51 = .ok (.istore 7, 2) := by decide +kernel
theorem d3_stalkColour_53 : decode cX3_stalkColour 53 = .ok (.lload 5, 2) := by decide +kernel
theorem d3_stalkColour_55 : decode cX3_stalkColour 55 = .ok (.invokestatic 35, 3) := by decide +kernel
theorem d3_stalkColour_58 : decode cX3_stalkColour 58 = .ok (.ifCond .ne 9, 3) := by decide +kernel
theorem d3_stalkColour_61 : decode cX3_stalkColour 61 = .ok (.iload_n 2, 1) := by decide +kernel
theorem d3_stalkColour_62 : decode cX3_stalkColour 62 = .ok (.iload 7, 2) := by decide +kernel
theorem d3_stalkColour_64 : decode cX3_stalkColour 64 = .ok (.if_icmp .gt 5, 3) := by decide +kernel
theorem d3_stalkColour_67 : decode cX3_stalkColour 67 = .ok (.iload_n 3, 1) := by decide +kernel
theorem d3_stalkColour_68 : decode cX3_stalkColour 68 = .ok (.ireturn, 1) := by decide +kernel
theorem d3_stalkColour_69 : decode cX3_stalkColour 69 = .ok (.iload_n 2, 1) := by decide +kernel
theorem d3_stalkColour_70 : decode cX3_stalkColour 70 = .ok (.iload 7, 2) := by decide +kernel
theorem d3_stalkColour_72 : decode cX3_stalkColour 72 = .ok (.iconst 1, 1) := by decide +kernel
theorem d3_stalkColour_73 : decode cX3_stalkColour 73 = .ok (.iadd, 1) := by decide +kernel
theorem d3_stalkColour_74 : decode cX3_stalkColour 74 = .ok (.if_icmp .ne 6, 3) := by decide +kernel
theorem d3_stalkColour_77 : decode cX3_stalkColour 77 = .ok (.iload 4, 2) := by decide +kernel
theorem d3_stalkColour_79 : decode cX3_stalkColour 79 = .ok (.ireturn, 1) := by decide +kernel
theorem d3_stalkColour_80 : decode cX3_stalkColour 80 = .ok (.ldc2_w 48, 3) := by decide +kernel
theorem d3_stalkColour_83 : decode cX3_stalkColour 83 = .ok (.lstore 8, 2) := by decide +kernel
theorem d3_stalkColour_85 : decode cX3_stalkColour 85 = .ok (.iload 7, 2) := by decide +kernel
theorem d3_stalkColour_87 : decode cX3_stalkColour 87 = .ok (.i2l, 1) := by decide +kernel
theorem d3_stalkColour_88 : decode cX3_stalkColour 88 = .ok (.ldc2_w 21, 3) := by decide +kernel
theorem d3_stalkColour_91 : decode cX3_stalkColour 91 = .ok (.lmul, 1) := by decide +kernel
theorem d3_stalkColour_92 : decode cX3_stalkColour 92 = .ok (.lload 8, 2) := by decide +kernel
theorem d3_stalkColour_94 : decode cX3_stalkColour 94 = .ok (.ladd, 1) := by decide +kernel
theorem d3_stalkColour_95 : decode cX3_stalkColour 95 = .ok (.lstore 10, 2) := by decide +kernel
theorem d3_stalkColour_97 : decode cX3_stalkColour 97 = .ok (.iload 7, 2) := by decide +kernel
theorem d3_stalkColour_99 : decode cX3_stalkColour 99 = .ok (.iconst 2, 1) := by decide +kernel
theorem d3_stalkColour_100 : decode cX3_stalkColour 100 = .ok (.iadd, 1) := by decide +kernel
theorem d3_stalkColour_101 : decode cX3_stalkColour 101 = .ok (.istore 12, 2) := by decide +kernel
theorem d3_stalkColour_103 : decode cX3_stalkColour 103 = .ok (.iload 12, 2) := by decide +kernel
theorem d3_stalkColour_105 : decode cX3_stalkColour 105 = .ok (.iload_n 2, 1) := by decide +kernel
theorem d3_stalkColour_106 : decode cX3_stalkColour 106 = .ok (.if_icmp .ge 36, 3) := by decide +kernel
theorem d3_stalkColour_109 : decode cX3_stalkColour 109 = .ok (.lload 8, 2) := by decide +kernel
theorem d3_stalkColour_111 : decode cX3_stalkColour 111 = .ok (.iconst 1, 1) := by decide +kernel
theorem d3_stalkColour_112 : decode cX3_stalkColour 112 = .ok (.lshr, 1) := by decide +kernel
theorem d3_stalkColour_113 : decode cX3_stalkColour 113 = .ok (.lstore 8, 2) := by decide +kernel
theorem d3_stalkColour_115 : decode cX3_stalkColour 115 = .ok (.lload 10, 2) := by decide +kernel
theorem d3_stalkColour_117 : decode cX3_stalkColour 117 = .ok (.lload 10, 2) := by decide +kernel
theorem d3_stalkColour_119 : decode cX3_stalkColour 119 = .ok (.lload 5, 2) := by decide +kernel
theorem d3_stalkColour_121 : decode cX3_stalkColour 121 = .ok (.lcmp, 1) := by decide +kernel
theorem d3_stalkColour_122 : decode cX3_stalkColour 122 = .ok (.ifCond .ge 8, 3) := by decide +kernel
theorem d3_stalkColour_125 : decode cX3_stalkColour 125 = .ok (.lload 8, 2) := by decide +kernel
theorem d3_stalkColour_127 : decode cX3_stalkColour 127 = .ok (.goto 6, 3) := by decide +kernel
theorem d3_stalkColour_130 : decode cX3_stalkColour 130 = .ok (.lload 8, 2) := by decide +kernel
theorem d3_stalkColour_132 : decode cX3_stalkColour 132 = .ok (.lneg, 1) := by decide +kernel
theorem d3_stalkColour_133 : decode cX3_stalkColour 133 = .ok (.ladd, 1) := by decide +kernel
theorem d3_stalkColour_134 : decode cX3_stalkColour 134 = .ok (.lstore 10, 2) := by decide +kernel
theorem d3_stalkColour_136 : decode cX3_stalkColour 136 = .ok (.iinc 12 1, 3) := by decide +kernel
theorem d3_stalkColour_139 : decode cX3_stalkColour 139 = .ok (.goto (-36), 3) := by decide +kernel
theorem d3_stalkColour_142 : decode cX3_stalkColour 142 = .ok (.lload 10, 2) := by decide +kernel
theorem d3_stalkColour_144 : decode cX3_stalkColour 144 = .ok (.lload 5, 2) := by decide +kernel
theorem d3_stalkColour_146 : decode cX3_stalkColour 146 = .ok (.lcmp, 1) := by decide +kernel
theorem d3_stalkColour_147 : decode cX3_stalkColour 147 = .ok (.ifCond .ge 7, 3) := by decide +kernel
theorem d3_stalkColour_150 : decode cX3_stalkColour 150 = .ok (.iload_n 3, 1) := by decide +kernel
theorem d3_stalkColour_151 : decode cX3_stalkColour 151 = .ok (.goto 5, 3) := by decide +kernel
theorem d3_stalkColour_154 : decode cX3_stalkColour 154 = .ok (.iload 4, 2) := by decide +kernel
theorem d3_stalkColour_156 : decode cX3_stalkColour 156 = .ok (.ireturn, 1) := by decide +kernel
abbrev K3_stalkColour : CK Int32 := (enI, (some .int), 13, 4, none)
noncomputable def F3_stalkColour_b133 (N : Nat) (k103 : Int32 × Int32 × Int32 × Int64 × Int64 × Int64 × Int32 × Ms → Option (Int32 × Ms)) (l2 : Int32) (l3 : Int32) (l4 : Int32) (l5 : Int64) (l8 : Int64) (l12 : Int32) (s0 : Int64) (s1 : Int64) (σ : Ms) : Option (Int32 × Ms) :=
  lt (s0 + s1) (fun x1 => k103 (l2, l3, l4, l5, l8, x1, (l12 + (1 : Int32)), σ))
noncomputable def F3_stalkColour_b103B (N : Nat) (k103 : Int32 × Int32 × Int32 × Int64 × Int64 × Int64 × Int32 × Ms → Option (Int32 × Ms)) (l2 : Int32) (l3 : Int32) (l4 : Int32) (l5 : Int64) (l8 : Int64) (l10 : Int64) (l12 : Int32) (σ : Ms) : Option (Int32 × Ms) :=
  if l2 ≤ l12 then (if 0 ≤ (lg_cmp l10 l5) then (some (l4, σ))
  else (some (l3, σ)))
  else (lt (l8 >>> ((1 : Int32).toInt64 &&& 63)) (fun x2 => if 0 ≤ (lg_cmp l10 l5) then (F3_stalkColour_b133 N k103 l2 l3 l4 l5 x2 l12 l10 (-x2) σ)
  else (F3_stalkColour_b133 N k103 l2 l3 l4 l5 x2 l12 l10 x2 σ)))
noncomputable def F3_stalkColour_b103 (N : Nat) (l2 : Int32) (l3 : Int32) (l4 : Int32) (l5 : Int64) (l8 : Int64) (l10 : Int64) (l12 : Int32) (σ : Ms) : Option (Int32 × Ms) :=
  fx N (fun k x => F3_stalkColour_b103B N k x.1 x.2.1 x.2.2.1 x.2.2.2.1 x.2.2.2.2.1 x.2.2.2.2.2.1 x.2.2.2.2.2.2.1 x.2.2.2.2.2.2.2) (l2, l3, l4, l5, l8, l10, l12, σ)
noncomputable def F3_stalkColour_b37 (N : Nat) (l0 : Int64) (l2 : Int32) (l3 : Int32) (s0 : Int32) (σ : Ms) : Option (Int32 × Ms) :=
  bn (FJ9_abs_067f4 l0 σ) (fun r3 t4 => lt ((r3 >>> ((30 : Int32).toInt64 &&& 63)).toInt32) (fun x5 => bn (F3_isWhole r3 t4) (fun r6 t7 => if r6 ≠ 0 then (some (l3, t7))
  else (if x5 < l2 then (if l2 ≠ (x5 + (1 : Int32)) then (lt (((x5.toInt64) * (1073741824 : Int64)) + (536870912 : Int64)) (fun x8 => lt (x5 + (2 : Int32)) (fun x9 => F3_stalkColour_b103 N l2 l3 s0 r3 (536870912 : Int64) x8 x9 t7)))
  else (some (s0, t7)))
  else (some (l3, t7))))))
noncomputable def F3_stalkColour_b25 (N : Nat) (l0 : Int64) (l2 : Int32) (s0 : Int32) (σ : Ms) : Option (Int32 × Ms) :=
  if 0 ≤ (lg_cmp l0 (0 : Int64)) then (F3_stalkColour_b37 N l0 l2 s0 (1 : Int32) σ)
  else (F3_stalkColour_b37 N l0 l2 s0 (0 : Int32) σ)
noncomputable def F3_stalkColour (N : Nat) (p0 : Int64) (p1 : Int32) (σ : Ms) : Option (Int32 × Ms) :=
  if p1 < 0 then (some ((-1 : Int32), σ))
  else (bn (F3_age p0 σ) (fun r10 t11 => if p1 < r10 then (if 0 ≤ (lg_cmp p0 (0 : Int64)) then (F3_stalkColour_b25 N p0 p1 (0 : Int32) t11)
  else (F3_stalkColour_b25 N p0 p1 (1 : Int32) t11))
  else (some ((-1 : Int32), t11))))
set_option maxRecDepth 100000 in
theorem v3_stalkColour_b133 (N : Nat) (k103 : Int32 × Int32 × Int32 × Int64 × Int64 × Int64 × Int32 × Ms → Option (Int32 × Ms)) (hk103 : ∀ (l2 : Int32) (l3 : Int32) (l4 : Int32) (l5 : Int64) (l8 : Int64) (l10 : Int64) (l12 : Int32) (τ : Ms), VF (K3_stalkColour) cX3_stalkColour RX3 (k103 (l2, l3, l4, l5, l8, l10, l12, τ)) τ 103 [(2, .int l2), (3, .int l3), (4, .int l4), (5, .long l5), (8, .long l8), (10, .long l10), (12, .int l12)] []) (l2 : Int32) (l3 : Int32) (l4 : Int32) (l5 : Int64) (l8 : Int64) (l12 : Int32) (s0 : Int64) (s1 : Int64) (σ : Ms) : VF (K3_stalkColour) cX3_stalkColour RX3 (F3_stalkColour_b133 N k103 l2 l3 l4 l5 l8 l12 s0 s1 σ) σ 133 [(2, .int l2), (3, .int l3), (4, .int l4), (5, .long l5), (8, .long l8), (12, .int l12)] [.long s1, .long s0] := by
  unfold F3_stalkColour_b133
  refine v_ladd d3_stalkColour_133 ?_
  refine v_ltl fun x1 => ?_
  refine v_lstore (lv' := [(10, .long x1), (2, .int l2), (3, .int l3), (4, .int l4), (5, .long l5), (8, .long l8), (12, .int l12)]) d3_stalkColour_134 (by decide) rfl ?_
  refine v_iinc (lv' := [(12, .int (l12 + (1 : Int32))), (10, .long x1), (2, .int l2), (3, .int l3), (4, .int l4), (5, .long l5), (8, .long l8)]) d3_stalkColour_136 6 rfl (by rw [ki_1]) (by decide) rfl ?_
  refine v_goto (tgt := 103) d3_stalkColour_139 (by decide) ?_
  refine v_sub [2, 3, 4, 5, 6, 1, 0] rfl ?_
  exact hk103 l2 l3 l4 l5 l8 x1 (l12 + (1 : Int32)) σ
set_option maxRecDepth 100000 in
theorem v3_stalkColour_b103B (N : Nat) (k103 : Int32 × Int32 × Int32 × Int64 × Int64 × Int64 × Int32 × Ms → Option (Int32 × Ms)) (hk103 : ∀ (l2 : Int32) (l3 : Int32) (l4 : Int32) (l5 : Int64) (l8 : Int64) (l10 : Int64) (l12 : Int32) (τ : Ms), VF (K3_stalkColour) cX3_stalkColour RX3 (k103 (l2, l3, l4, l5, l8, l10, l12, τ)) τ 103 [(2, .int l2), (3, .int l3), (4, .int l4), (5, .long l5), (8, .long l8), (10, .long l10), (12, .int l12)] []) (l2 : Int32) (l3 : Int32) (l4 : Int32) (l5 : Int64) (l8 : Int64) (l10 : Int64) (l12 : Int32) (σ : Ms) : VF (K3_stalkColour) cX3_stalkColour RX3 (F3_stalkColour_b103B N k103 l2 l3 l4 l5 l8 l10 l12 σ) σ 103 [(2, .int l2), (3, .int l3), (4, .int l4), (5, .long l5), (8, .long l8), (10, .long l10), (12, .int l12)] [] := by
  unfold F3_stalkColour_b103B
  refine v_iload d3_stalkColour_103 6 rfl ?_
  refine v_iload_n d3_stalkColour_105 0 rfl rfl ?_
  refine v_icmp_ge (tgt := 142) d3_stalkColour_106 (by decide) ?_ ?_
  · refine v_lload d3_stalkColour_142 5 rfl ?_
    refine v_lload d3_stalkColour_144 3 rfl ?_
    refine v_lcmp d3_stalkColour_146 ?_
    refine v_if_ge (tgt := 154) d3_stalkColour_147 (by decide) ?_ ?_
    · refine v_iload d3_stalkColour_154 2 rfl ?_
      exact v_iret d3_stalkColour_156 rfl rfl rfl
    · refine v_iload_n d3_stalkColour_150 1 rfl rfl ?_
      refine v_goto (tgt := 156) d3_stalkColour_151 (by decide) ?_
      exact v_iret d3_stalkColour_156 rfl rfl rfl
  · refine v_lload d3_stalkColour_109 4 rfl ?_
    refine v_iconst d3_stalkColour_111 ki_1 ?_
    refine v_lshr d3_stalkColour_112 ?_
    refine v_ltl fun x2 => ?_
    refine v_lstore (lv' := [(8, .long x2), (2, .int l2), (3, .int l3), (4, .int l4), (5, .long l5), (10, .long l10), (12, .int l12)]) d3_stalkColour_113 (by decide) rfl ?_
    refine v_lload d3_stalkColour_115 5 rfl ?_
    refine v_lload d3_stalkColour_117 5 rfl ?_
    refine v_lload d3_stalkColour_119 4 rfl ?_
    refine v_lcmp d3_stalkColour_121 ?_
    refine v_if_ge (tgt := 130) d3_stalkColour_122 (by decide) ?_ ?_
    · refine v_lload d3_stalkColour_130 0 rfl ?_
      refine v_lneg d3_stalkColour_132 ?_
      refine v_sub [1, 2, 3, 4, 0, 6] rfl ?_
      exact v3_stalkColour_b133 N k103 hk103 l2 l3 l4 l5 x2 l12 l10 (-x2) σ
    · refine v_lload d3_stalkColour_125 0 rfl ?_
      refine v_goto (tgt := 133) d3_stalkColour_127 (by decide) ?_
      refine v_sub [1, 2, 3, 4, 0, 6] rfl ?_
      exact v3_stalkColour_b133 N k103 hk103 l2 l3 l4 l5 x2 l12 l10 x2 σ
theorem v3_stalkColour_b103 (N : Nat) (l2 : Int32) (l3 : Int32) (l4 : Int32) (l5 : Int64) (l8 : Int64) (l10 : Int64) (l12 : Int32) (σ : Ms) : VF (K3_stalkColour) cX3_stalkColour RX3 (F3_stalkColour_b103 N l2 l3 l4 l5 l8 l10 l12 σ) σ 103 [(2, .int l2), (3, .int l3), (4, .int l4), (5, .long l5), (8, .long l8), (10, .long l10), (12, .int l12)] [] := v_fx (σo := fun x => x.2.2.2.2.2.2.2) (lo := fun x => [(2, .int x.1), (3, .int x.2.1), (4, .int x.2.2.1), (5, .long x.2.2.2.1), (8, .long x.2.2.2.2.1), (10, .long x.2.2.2.2.2.1), (12, .int x.2.2.2.2.2.2.1)]) (fun k hk x => v3_stalkColour_b103B N k (fun l2 l3 l4 l5 l8 l10 l12 τ => hk (l2, l3, l4, l5, l8, l10, l12, τ)) x.1 x.2.1 x.2.2.1 x.2.2.2.1 x.2.2.2.2.1 x.2.2.2.2.2.1 x.2.2.2.2.2.2.1 x.2.2.2.2.2.2.2) N (l2, l3, l4, l5, l8, l10, l12, σ)
set_option maxRecDepth 100000 in
theorem v3_stalkColour_b37 (N : Nat) (l0 : Int64) (l2 : Int32) (l3 : Int32) (s0 : Int32) (σ : Ms) : VF (K3_stalkColour) cX3_stalkColour RX3 (F3_stalkColour_b37 N l0 l2 l3 s0 σ) σ 37 [(0, .long l0), (2, .int l2), (3, .int l3)] [.int s0] := by
  unfold F3_stalkColour_b37
  refine v_istore (lv' := [(4, .int s0), (0, .long l0), (2, .int l2), (3, .int l3)]) d3_stalkColour_37 (by decide) rfl ?_
  refine v_lload_n d3_stalkColour_39 1 rfl rfl ?_
  refine v_callS1l d3_stalkColour_40 (mcJ9_abs_067f4 l0 σ) ysJ9_abs_067f4 mlX3_29 (by decide) (Nat.le_of_ble_eq_true rfl) fun r3 t4 => ?_
  refine v_lstore (lv' := [(5, .long r3), (4, .int s0), (0, .long l0), (2, .int l2), (3, .int l3)]) d3_stalkColour_43 (by decide) rfl ?_
  refine v_lload d3_stalkColour_45 0 rfl ?_
  refine v_bipush d3_stalkColour_47 kb_30 ?_
  refine v_lshr d3_stalkColour_49 ?_
  refine v_l2i d3_stalkColour_50 ?_
  refine v_lti fun x5 => ?_
  refine v_istore (lv' := [(7, .int x5), (5, .long r3), (4, .int s0), (0, .long l0), (2, .int l2), (3, .int l3)]) d3_stalkColour_51 (by decide) rfl ?_
  refine v_lload d3_stalkColour_53 1 rfl ?_
  refine v_callS1i d3_stalkColour_55 (mc3_isWhole r3 t4) ys3_isWhole mlX3_35 (by decide) (Nat.le_of_ble_eq_true rfl) fun r6 t7 => ?_
  refine v_if_ne (tgt := 67) d3_stalkColour_58 (by decide) ?_ ?_
  · refine v_iload_n d3_stalkColour_67 5 rfl rfl ?_
    exact v_iret d3_stalkColour_68 rfl rfl rfl
  · refine v_iload_n d3_stalkColour_61 4 rfl rfl ?_
    refine v_iload d3_stalkColour_62 0 rfl ?_
    refine v_icmp_gt (tgt := 69) d3_stalkColour_64 (by decide) ?_ ?_
    · refine v_iload_n d3_stalkColour_69 4 rfl rfl ?_
      refine v_iload d3_stalkColour_70 0 rfl ?_
      refine v_iconst d3_stalkColour_72 ki_1 ?_
      refine v_iadd d3_stalkColour_73 ?_
      refine v_icmp_ne (tgt := 80) d3_stalkColour_74 (by decide) ?_ ?_
      · refine v_ldc2 d3_stalkColour_80 klX3_48 ?_
        refine v_lstore (lv' := [(8, .long (536870912 : Int64)), (7, .int x5), (5, .long r3), (4, .int s0), (0, .long l0), (2, .int l2), (3, .int l3)]) d3_stalkColour_83 (by decide) rfl ?_
        refine v_iload d3_stalkColour_85 1 rfl ?_
        refine v_i2l d3_stalkColour_87 ?_
        refine v_ldc2 d3_stalkColour_88 klX3_21 ?_
        refine v_lmul d3_stalkColour_91 ?_
        refine v_lload d3_stalkColour_92 0 rfl ?_
        refine v_ladd d3_stalkColour_94 ?_
        refine v_ltl fun x8 => ?_
        refine v_lstore (lv' := [(10, .long x8), (8, .long (536870912 : Int64)), (7, .int x5), (5, .long r3), (4, .int s0), (0, .long l0), (2, .int l2), (3, .int l3)]) d3_stalkColour_95 (by decide) rfl ?_
        refine v_iload d3_stalkColour_97 2 rfl ?_
        refine v_iconst d3_stalkColour_99 ki_2 ?_
        refine v_iadd d3_stalkColour_100 ?_
        refine v_lti fun x9 => ?_
        refine v_istore (lv' := [(12, .int x9), (10, .long x8), (8, .long (536870912 : Int64)), (7, .int x5), (5, .long r3), (4, .int s0), (0, .long l0), (2, .int l2), (3, .int l3)]) d3_stalkColour_101 (by decide) rfl ?_
        refine v_sub [7, 8, 5, 4, 2, 1, 0] rfl ?_
        exact v3_stalkColour_b103 N l2 l3 s0 r3 (536870912 : Int64) x8 x9 t7
      · refine v_iload d3_stalkColour_77 2 rfl ?_
        exact v_iret d3_stalkColour_79 rfl rfl rfl
    · refine v_iload_n d3_stalkColour_67 5 rfl rfl ?_
      exact v_iret d3_stalkColour_68 rfl rfl rfl
set_option maxRecDepth 100000 in
theorem v3_stalkColour_b25 (N : Nat) (l0 : Int64) (l2 : Int32) (s0 : Int32) (σ : Ms) : VF (K3_stalkColour) cX3_stalkColour RX3 (F3_stalkColour_b25 N l0 l2 s0 σ) σ 25 [(0, .long l0), (2, .int l2)] [.int s0] := by
  unfold F3_stalkColour_b25
  refine v_istore_n (lv' := [(3, .int s0), (0, .long l0), (2, .int l2)]) d3_stalkColour_25 rfl (by decide) rfl ?_
  refine v_lload_n d3_stalkColour_26 1 rfl rfl ?_
  refine v_lconst d3_stalkColour_27 kl_0 ?_
  refine v_lcmp d3_stalkColour_28 ?_
  refine v_if_ge (tgt := 36) d3_stalkColour_29 (by decide) ?_ ?_
  · refine v_iconst d3_stalkColour_36 ki_1 ?_
    refine v_sub [1, 2, 0] rfl ?_
    exact v3_stalkColour_b37 N l0 l2 s0 (1 : Int32) σ
  · refine v_iconst d3_stalkColour_32 ki_0 ?_
    refine v_goto (tgt := 37) d3_stalkColour_33 (by decide) ?_
    refine v_sub [1, 2, 0] rfl ?_
    exact v3_stalkColour_b37 N l0 l2 s0 (0 : Int32) σ
set_option maxRecDepth 100000 in
theorem mc3_stalkColour (N : Nat) (p0 : Int64) (p1 : Int32) (σ : Ms) : MC enI yX3_stalkColour cX3_stalkColour 13 (some .int) 4 (F3_stalkColour N p0 p1 σ) σ [.long p0, .int p1] := by
  refine MC.i (by decide +kernel) (Nat.le_of_ble_eq_true rfl) ?_
  show VF (K3_stalkColour) cX3_stalkColour RX3 (F3_stalkColour N p0 p1 σ) σ 0 [(0, .long p0), (2, .int p1)] []
  unfold F3_stalkColour
  refine v_iload_n d3_stalkColour_0 1 rfl rfl ?_
  refine v_if_lt (tgt := 12) d3_stalkColour_1 (by decide) ?_ ?_
  · refine v_iconst d3_stalkColour_12 ki_m1 ?_
    exact v_iret d3_stalkColour_13 rfl rfl rfl
  · refine v_iload_n d3_stalkColour_4 1 rfl rfl ?_
    refine v_lload_n d3_stalkColour_5 0 rfl rfl ?_
    refine v_callS1i d3_stalkColour_6 (mc3_age p0 σ) ys3_age mlX3_45 (by decide) (Nat.le_of_ble_eq_true rfl) fun r10 t11 => ?_
    refine v_icmp_lt (tgt := 14) d3_stalkColour_9 (by decide) ?_ ?_
    · refine v_lload_n d3_stalkColour_14 0 rfl rfl ?_
      refine v_lconst d3_stalkColour_15 kl_0 ?_
      refine v_lcmp d3_stalkColour_16 ?_
      refine v_if_ge (tgt := 24) d3_stalkColour_17 (by decide) ?_ ?_
      · refine v_iconst d3_stalkColour_24 ki_0 ?_
        exact v3_stalkColour_b25 N p0 p1 (0 : Int32) t11
      · refine v_iconst d3_stalkColour_20 ki_1 ?_
        refine v_goto (tgt := 25) d3_stalkColour_21 (by decide) ?_
        exact v3_stalkColour_b25 N p0 p1 (1 : Int32) t11
    · refine v_iconst d3_stalkColour_12 ki_m1 ?_
      exact v_iret d3_stalkColour_13 rfl rfl rfl
