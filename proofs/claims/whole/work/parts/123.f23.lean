theorem d12_readRest_0 : decode cX12_readRest 0 = .ok (.aload_n 0, 1) := by decide +kernel
theorem d12_readRest_1 : decode cX12_readRest 1 = .ok (.getfield 35, 3) := by decide +kernel
theorem d12_readRest_4 : decode cX12_readRest 4 = .ok (.iload_n 1, 1) := by decide +kernel
theorem d12_readRest_5 : decode cX12_readRest 5 = .ok (.iaload, 1) := by decide +kernel
theorem d12_readRest_6 : decode cX12_readRest 6 = .ok (.istore_n 2, 1) := by decide +kernel
theorem d12_readRest_7 : decode cX12_readRest 7 = .ok (.iload_n 2, 1) := by decide +kernel
theorem d12_readRest_8 : decode cX12_readRest 8 = .ok (.ifCond .eq 8, 3) := by decide +kernel
theorem d12_readRest_11 : decode cX12_readRest 11 = .ok (.iload_n 2, 1) := by decide +kernel
theorem d12_readRest_12 : decode cX12_readRest 12 = .ok (.iconst 1, 1) := by decide +kernel
theorem d12_readRest_13 : decode cX12_readRest 13 = .ok (.if_icmp .ne 41, 3) := by decide +kernel
theorem d12_readRest_16 : decode cX12_readRest 16 = .ok (.aload_n 0, 1) := by decide +kernel
theorem d12_readRest_17 : decode cX12_readRest 17 = .ok (.getfield 35, 3) := by decide +kernel
theorem d12_readRest_20 : decode cX12_readRest 20 = .ok (.iload_n 1, 1) := by decide +kernel
theorem d12_readRest_21 : decode cX12_readRest 21 = .ok (.iconst 1, 1) := by decide +kernel
theorem d12_readRest_22 : decode cX12_readRest 22 = .ok (.iadd, 1) := by decide +kernel
theorem d12_readRest_23 : decode cX12_readRest 23 = .ok (.aload_n 0, 1) := by decide +kernel
theorem d12_readRest_24 : decode cX12_readRest 24 = .ok (.invokevirtual 242, 3) := by decide +kernel
theorem d12_readRest_27 : decode cX12_readRest 27 = .ok (.iastore, 1) := by decide +kernel
theorem d12_readRest_28 : decode cX12_readRest 28 = .ok (.aload_n 0, 1) := by decide +kernel
theorem d12_readRest_29 : decode cX12_readRest 29 = .ok (.getfield 35, 3) := by decide +kernel
theorem d12_readRest_32 : decode cX12_readRest 32 = .ok (.iload_n 1, 1) := by decide +kernel
theorem d12_readRest_33 : decode cX12_readRest 33 = .ok (.iconst 2, 1) := by decide +kernel
theorem d12_readRest_34 : decode cX12_readRest 34 = .ok (.iadd, 1) := by decide +kernel
theorem d12_readRest_35 : decode cX12_readRest 35 = .ok (.aload_n 0, 1) := by decide +kernel
theorem d12_readRest_36 : decode cX12_readRest 36 = .ok (.iconst 0, 1) := by decide +kernel
theorem d12_readRest_37 : decode cX12_readRest 37 = .ok (.iload_n 2, 1) := by decide +kernel
theorem d12_readRest_38 : decode cX12_readRest 38 = .ok (.ifCond .ne 8, 3) := by decide +kernel
theorem d12_readRest_41 : decode cX12_readRest 41 = .ok (.bipush 19, 2) := by decide +kernel
theorem d12_readRest_43 : decode cX12_readRest 43 = .ok (.goto 4, 3) := by decide +kernel
theorem d12_readRest_46 : decode cX12_readRest 46 = .ok (.iconst 4, 1) := by decide +kernel
theorem d12_readRest_47 : decode cX12_readRest 47 = .ok (.invokevirtual 196, 3) := by decide +kernel
theorem d12_readRest_50 : decode cX12_readRest 50 = .ok (.iastore, 1) := by decide +kernel
theorem d12_readRest_51 : decode cX12_readRest 51 = .ok (.goto 124, 3) := by decide +kernel
theorem d12_readRest_54 : decode cX12_readRest 54 = .ok (.iload_n 2, 1) := by decide +kernel
theorem d12_readRest_55 : decode cX12_readRest 55 = .ok (.iconst 2, 1) := by decide +kernel
theorem d12_readRest_56 : decode cX12_readRest 56 = .ok (.if_icmp .ne 35, 3) := by decide +kernel
theorem d12_readRest_59 : decode cX12_readRest 59 = .ok (.aload_n 0, 1) := by decide +kernel
theorem d12_readRest_60 : decode cX12_readRest 60 = .ok (.getfield 35, 3) := by decide +kernel
theorem d12_readRest_63 : decode cX12_readRest 63 = .ok (.iload_n 1, 1) := by decide +kernel
theorem d12_readRest_64 : decode cX12_readRest 64 = .ok (.iconst 1, 1) := by decide +kernel
theorem d12_readRest_65 : decode cX12_readRest 65 = .ok (.iadd, 1) := by decide +kernel
theorem d12_readRest_66 : decode cX12_readRest 66 = .ok (.aload_n 0, 1) := by decide +kernel
theorem d12_readRest_67 : decode cX12_readRest 67 = .ok (.iconst 0, 1) := by decide +kernel
theorem d12_readRest_68 : decode cX12_readRest 68 = .ok (.iconst 3, 1) := by decide +kernel
theorem d12_readRest_69 : decode cX12_readRest 69 = .ok (.invokevirtual 196, 3) := by decide +kernel
theorem d12_readRest_72 : decode cX12_readRest 72 = .ok (.iastore, 1) := by decide +kernel
theorem d12_readRest_73 : decode cX12_readRest 73 = .ok (.aload_n 0, 1) := by decide +kernel
theorem d12_readRest_74 : decode cX12_readRest 74 = .ok (.getfield 35, 3) := by decide +kernel
theorem d12_readRest_77 : decode cX12_readRest 77 = .ok (.iload_n 1, 1) := by decide +kernel
theorem d12_readRest_78 : decode cX12_readRest 78 = .ok (.iconst 2, 1) := by decide +kernel
theorem d12_readRest_79 : decode cX12_readRest 79 = .ok (.iadd, 1) := by decide +kernel
theorem d12_readRest_80 : decode cX12_readRest 80 = .ok (.aload_n 0, 1) := by decide +kernel
theorem d12_readRest_81 : decode cX12_readRest 81 = .ok (.iconst 0, 1) := by decide +kernel
theorem d12_readRest_82 : decode cX12_readRest 82 = .ok (.bipush 15, 2) := by decide +kernel
theorem d12_readRest_84 : decode cX12_readRest 84 = .ok (.invokevirtual 196, 3) := by decide +kernel
theorem d12_readRest_87 : decode cX12_readRest 87 = .ok (.iastore, 1) := by decide +kernel
theorem d12_readRest_88 : decode cX12_readRest 88 = .ok (.goto 87, 3) := by decide +kernel
theorem d12_readRest_91 : decode cX12_readRest 91 = .ok (.iload_n 2, 1) := by decide +kernel
theorem d12_readRest_92 : decode cX12_readRest 92 = .ok (.iconst 3, 1) := by decide +kernel
theorem d12_readRest_93 : decode cX12_readRest 93 = .ok (.if_icmp .ne 48, 3) := by decide +kernel
theorem d12_readRest_96 : decode cX12_readRest 96 = .ok (.aload_n 0, 1) := by decide +kernel
theorem d12_readRest_97 : decode cX12_readRest 97 = .ok (.getfield 35, 3) := by decide +kernel
theorem d12_readRest_100 : decode cX12_readRest 100 = .ok (.iload_n 1, 1) := by decide +kernel
theorem d12_readRest_101 : decode cX12_readRest 101 = .ok (.iconst 1, 1) := by decide +kernel
theorem d12_readRest_102 : decode cX12_readRest 102 = .ok (.iadd, 1) := by decide +kernel
theorem d12_readRest_103 : decode cX12_readRest 103 = .ok (.aload_n 0, 1) := by decide +kernel
theorem d12_readRest_104 : decode cX12_readRest 104 = .ok (.invokevirtual 181, 3) := by decide +kernel
theorem d12_readRest_107 : decode cX12_readRest 107 = .ok (.iastore, 1) := by decide +kernel
theorem d12_readRest_108 : decode cX12_readRest 108 = .ok (.aload_n 0, 1) := by decide +kernel
theorem d12_readRest_109 : decode cX12_readRest 109 = .ok (.getfield 35, 3) := by decide +kernel
theorem d12_readRest_112 : decode cX12_readRest 112 = .ok (.iload_n 1, 1) := by decide +kernel
theorem d12_readRest_113 : decode cX12_readRest 113 = .ok (.iconst 2, 1) := by decide +kernel
theorem d12_readRest_114 : decode cX12_readRest 114 = .ok (.iadd, 1) := by decide +kernel
theorem d12_readRest_115 : decode cX12_readRest 115 = .ok (.aload_n 0, 1) := by decide +kernel
theorem d12_readRest_116 : decode cX12_readRest 116 = .ok (.aload_n 0, 1) := by decide +kernel
theorem d12_readRest_117 : decode cX12_readRest 117 = .ok (.invokevirtual 184, 3) := by decide +kernel
theorem d12_readRest_120 : decode cX12_readRest 120 = .ok (.invokevirtual 188, 3) := by decide +kernel
theorem d12_readRest_123 : decode cX12_readRest 123 = .ok (.ifCond .eq 13, 3) := by decide +kernel
theorem d12_readRest_126 : decode cX12_readRest 126 = .ok (.aload_n 0, 1) := by decide +kernel
theorem d12_readRest_127 : decode cX12_readRest 127 = .ok (.iconst 0, 1) := by decide +kernel
theorem d12_readRest_128 : decode cX12_readRest 128 = .ok (.bipush 19, 2) := by decide +kernel
theorem d12_readRest_130 : decode cX12_readRest 130 = .ok (.invokevirtual 196, 3) := by decide +kernel
theorem d12_readRest_133 : decode cX12_readRest 133 = .ok (.goto 4, 3) := by decide +kernel
theorem d12_readRest_136 : decode cX12_readRest 136 = .ok (.iconst (-1), 1) := by decide +kernel
theorem d12_readRest_137 : decode cX12_readRest 137 = .ok (.iastore, 1) := by decide +kernel
theorem d12_readRest_138 : decode cX12_readRest 138 = .ok (.goto 37, 3) := by decide +kernel
theorem d12_readRest_141 : decode cX12_readRest 141 = .ok (.iload_n 2, 1) := by decide +kernel
theorem d12_readRest_142 : decode cX12_readRest 142 = .ok (.bipush 6, 2) := by decide +kernel
theorem d12_readRest_144 : decode cX12_readRest 144 = .ok (.if_icmp .ne 21, 3) := by decide +kernel
theorem d12_readRest_147 : decode cX12_readRest 147 = .ok (.aload_n 0, 1) := by decide +kernel
theorem d12_readRest_148 : decode cX12_readRest 148 = .ok (.getfield 35, 3) := by decide +kernel
theorem d12_readRest_151 : decode cX12_readRest 151 = .ok (.iload_n 1, 1) := by decide +kernel
theorem d12_readRest_152 : decode cX12_readRest 152 = .ok (.iconst 1, 1) := by decide +kernel
theorem d12_readRest_153 : decode cX12_readRest 153 = .ok (.iadd, 1) := by decide +kernel
theorem d12_readRest_154 : decode cX12_readRest 154 = .ok (.aload_n 0, 1) := by decide +kernel
theorem d12_readRest_155 : decode cX12_readRest 155 = .ok (.iconst 1, 1) := by decide +kernel
theorem d12_readRest_156 : decode cX12_readRest 156 = .ok (.bipush 99, 2) := by decide +kernel
theorem d12_readRest_158 : decode cX12_readRest 158 = .ok (.invokevirtual 196, 3) := by decide +kernel
theorem d12_readRest_161 : decode cX12_readRest 161 = .ok (.iastore, 1) := by decide +kernel
theorem d12_readRest_162 : decode cX12_readRest 162 = .ok (.goto 13, 3) := by decide +kernel
theorem d12_readRest_165 : decode cX12_readRest 165 = .ok (.iload_n 2, 1) := by decide +kernel
theorem d12_readRest_166 : decode cX12_readRest 166 = .ok (.iconst 5, 1) := by decide +kernel
theorem d12_readRest_167 : decode cX12_readRest 167 = .ok (.if_icmp .ne 8, 3) := by decide +kernel
theorem d12_readRest_170 : decode cX12_readRest 170 = .ok (.aload_n 0, 1) := by decide +kernel
theorem d12_readRest_171 : decode cX12_readRest 171 = .ok (.iload_n 1, 1) := by decide +kernel
theorem d12_readRest_172 : decode cX12_readRest 172 = .ok (.invokevirtual 245, 3) := by decide +kernel
theorem d12_readRest_175 : decode cX12_readRest 175 = .ok (.return_, 1) := by decide +kernel
abbrev K12_readRest : CK Unit := (enV, none, 3, 6, none)
noncomputable def F12_readRest_b47 (N : Nat) (s1 : Int32) (s3 : Int32) (s4 : Int32) (σ : Ms) : Option (Unit × Ms) :=
  bn (F12_count N s3 s4 σ) (fun r1 t2 => ck (ixb s1 1780) (lt (sI t2 5 s1.toNatClampNeg r1) (fun t3 => some ((), t3))))
noncomputable def F12_readRest_b16 (N : Nat) (l1 : Int32) (l2 : Int32) (σ : Ms) : Option (Unit × Ms) :=
  bn (F12_readSide N σ) (fun r4 t5 => ck (ixb (l1 + (1 : Int32)) 1780) (lt (sI t5 5 (l1 + (1 : Int32)).toNatClampNeg r4) (fun t6 => if l2 ≠ 0 then (F12_readRest_b47 N (l1 + (2 : Int32)) (0 : Int32) (4 : Int32) t6)
  else (F12_readRest_b47 N (l1 + (2 : Int32)) (0 : Int32) (19 : Int32) t6))))
noncomputable def F12_readRest_b137 (N : Nat) (s1 : Int32) (s2 : Int32) (σ : Ms) : Option (Unit × Ms) :=
  ck (ixb s1 1780) (lt (sI σ 5 s1.toNatClampNeg s2) (fun t7 => some ((), t7)))
noncomputable def F12_readRest (N : Nat) (p0 : Int32) (σ : Ms) : Option (Unit × Ms) :=
  ck (ixb p0 1780) (lt (σ.1 5 p0.toNatClampNeg) (fun x8 => if x8 = 0 then (F12_readRest_b16 N p0 x8 σ)
  else (if x8 ≠ (1 : Int32) then (if x8 ≠ (2 : Int32) then (if x8 ≠ (3 : Int32) then (if x8 ≠ (6 : Int32) then (if x8 ≠ (5 : Int32) then (some ((), σ))
  else (bn (F12_readTest N p0 σ) (fun r9 t10 => some ((), t10))))
  else (bn (F12_count N (1 : Int32) (99 : Int32) σ) (fun r11 t12 => ck (ixb (p0 + (1 : Int32)) 1780) (lt (sI t12 5 (p0 + (1 : Int32)).toNatClampNeg r11) (fun t13 => some ((), t13))))))
  else (bn (F12_readColour N σ) (fun r14 t15 => ck (ixb (p0 + (1 : Int32)) 1780) (lt (sI t15 5 (p0 + (1 : Int32)).toNatClampNeg r14) (fun t16 => bn (F12_isOn t16) (fun r17 t18 => bn (F12_perhaps N r17 t18) (fun r19 t20 => if r19 = 0 then (F12_readRest_b137 N (p0 + (2 : Int32)) (-1 : Int32) t20)
  else (bn (F12_count N (0 : Int32) (19 : Int32) t20) (fun r21 t22 => F12_readRest_b137 N (p0 + (2 : Int32)) r21 t22)))))))))
  else (bn (F12_count N (0 : Int32) (3 : Int32) σ) (fun r23 t24 => ck (ixb (p0 + (1 : Int32)) 1780) (lt (sI t24 5 (p0 + (1 : Int32)).toNatClampNeg r23) (fun t25 => bn (F12_count N (0 : Int32) (15 : Int32) t25) (fun r26 t27 => ck (ixb (p0 + (2 : Int32)) 1780) (lt (sI t27 5 (p0 + (2 : Int32)).toNatClampNeg r26) (fun t28 => some ((), t28)))))))))
  else (F12_readRest_b16 N p0 x8 σ))))
set_option maxRecDepth 100000 in
theorem v12_readRest_b47 (N : Nat) (s1 : Int32) (s3 : Int32) (s4 : Int32) (σ : Ms) : VF (K12_readRest) cX12_readRest RX12 (F12_readRest_b47 N s1 s3 s4 σ) σ 47 [] [.int s4, .int s3, .ref 0, .int s1, .ref 5] := by
  unfold F12_readRest_b47
  refine v_callV2i d12_readRest_47 (mc12_count N s3 s4 σ) yv12_count mlX12_196 (Recv.obj ic_0 rfl) (by decide) (Nat.le_of_ble_eq_true rfl) fun r1 t2 => ?_
  refine v_iast d12_readRest_50 ic_5 ?_
  refine v_lts fun t3 => ?_
  refine v_goto (tgt := 175) d12_readRest_51 (by decide) ?_
  exact v_vret d12_readRest_175 rfl
set_option maxRecDepth 100000 in
theorem v12_readRest_b16 (N : Nat) (l1 : Int32) (l2 : Int32) (σ : Ms) : VF (K12_readRest) cX12_readRest RX12 (F12_readRest_b16 N l1 l2 σ) σ 16 [(0, .ref 0), (1, .int l1), (2, .int l2)] [] := by
  unfold F12_readRest_b16
  refine v_aload_n d12_readRest_16 0 rfl rfl ?_
  refine v_getR d12_readRest_17 faX12_35 ic_0 rfl ?_
  refine v_iload_n d12_readRest_20 1 rfl rfl ?_
  refine v_iconst d12_readRest_21 ki_1 ?_
  refine v_iadd d12_readRest_22 ?_
  refine v_aload_n d12_readRest_23 0 rfl rfl ?_
  refine v_callV0i d12_readRest_24 (mc12_readSide N σ) yv12_readSide mlX12_242 (Recv.obj ic_0 rfl) (by decide) (Nat.le_of_ble_eq_true rfl) fun r4 t5 => ?_
  refine v_iast d12_readRest_27 ic_5 ?_
  refine v_lts fun t6 => ?_
  refine v_aload_n d12_readRest_28 0 rfl rfl ?_
  refine v_getR d12_readRest_29 faX12_35 ic_0 rfl ?_
  refine v_iload_n d12_readRest_32 1 rfl rfl ?_
  refine v_iconst d12_readRest_33 ki_2 ?_
  refine v_iadd d12_readRest_34 ?_
  refine v_aload_n d12_readRest_35 0 rfl rfl ?_
  refine v_iconst d12_readRest_36 ki_0 ?_
  refine v_iload_n d12_readRest_37 2 rfl rfl ?_
  refine v_if_ne (tgt := 46) d12_readRest_38 (by decide) ?_ ?_
  · refine v_iconst d12_readRest_46 ki_4 ?_
    refine v_sub [] rfl ?_
    exact v12_readRest_b47 N (l1 + (2 : Int32)) (0 : Int32) (4 : Int32) t6
  · refine v_bipush d12_readRest_41 kb_19 ?_
    refine v_goto (tgt := 47) d12_readRest_43 (by decide) ?_
    refine v_sub [] rfl ?_
    exact v12_readRest_b47 N (l1 + (2 : Int32)) (0 : Int32) (19 : Int32) t6
set_option maxRecDepth 100000 in
theorem v12_readRest_b137 (N : Nat) (s1 : Int32) (s2 : Int32) (σ : Ms) : VF (K12_readRest) cX12_readRest RX12 (F12_readRest_b137 N s1 s2 σ) σ 137 [] [.int s2, .int s1, .ref 5] := by
  unfold F12_readRest_b137
  refine v_iast d12_readRest_137 ic_5 ?_
  refine v_lts fun t7 => ?_
  refine v_goto (tgt := 175) d12_readRest_138 (by decide) ?_
  exact v_vret d12_readRest_175 rfl
set_option maxRecDepth 100000 in
theorem mc12_readRest (N : Nat) (p0 : Int32) (σ : Ms) : MC enV yX12_readRest cX12_readRest 3 none 6 (F12_readRest N p0 σ) σ [.ref 0, .int p0] := by
  refine MC.v (by decide +kernel) (Nat.le_of_ble_eq_true rfl) ?_
  show VF (K12_readRest) cX12_readRest RX12 (F12_readRest N p0 σ) σ 0 [(0, .ref 0), (1, .int p0)] []
  unfold F12_readRest
  refine v_aload_n d12_readRest_0 0 rfl rfl ?_
  refine v_getR d12_readRest_1 faX12_35 ic_0 rfl ?_
  refine v_iload_n d12_readRest_4 1 rfl rfl ?_
  refine v_iald d12_readRest_5 ic_5 ?_
  refine v_lti fun x8 => ?_
  refine v_istore_n (lv' := [(2, .int x8), (0, .ref 0), (1, .int p0)]) d12_readRest_6 rfl (by decide) rfl ?_
  refine v_iload_n d12_readRest_7 0 rfl rfl ?_
  refine v_if_eq (tgt := 16) d12_readRest_8 (by decide) ?_ ?_
  · refine v_sub [1, 2, 0] rfl ?_
    exact v12_readRest_b16 N p0 x8 σ
  · refine v_iload_n d12_readRest_11 0 rfl rfl ?_
    refine v_iconst d12_readRest_12 ki_1 ?_
    refine v_icmp_ne (tgt := 54) d12_readRest_13 (by decide) ?_ ?_
    · refine v_iload_n d12_readRest_54 0 rfl rfl ?_
      refine v_iconst d12_readRest_55 ki_2 ?_
      refine v_icmp_ne (tgt := 91) d12_readRest_56 (by decide) ?_ ?_
      · refine v_iload_n d12_readRest_91 0 rfl rfl ?_
        refine v_iconst d12_readRest_92 ki_3 ?_
        refine v_icmp_ne (tgt := 141) d12_readRest_93 (by decide) ?_ ?_
        · refine v_iload_n d12_readRest_141 0 rfl rfl ?_
          refine v_bipush d12_readRest_142 kb_6 ?_
          refine v_icmp_ne (tgt := 165) d12_readRest_144 (by decide) ?_ ?_
          · refine v_iload_n d12_readRest_165 0 rfl rfl ?_
            refine v_iconst d12_readRest_166 ki_5 ?_
            refine v_icmp_ne (tgt := 175) d12_readRest_167 (by decide) ?_ ?_
            · exact v_vret d12_readRest_175 rfl
            · refine v_aload_n d12_readRest_170 1 rfl rfl ?_
              refine v_iload_n d12_readRest_171 2 rfl rfl ?_
              refine v_callV1v d12_readRest_172 (mc12_readTest N p0 σ) yv12_readTest mlX12_245 (Recv.obj ic_0 rfl) (by decide) (Nat.le_of_ble_eq_true rfl) fun r9 t10 => ?_
              exact v_vret d12_readRest_175 rfl
          · refine v_aload_n d12_readRest_147 1 rfl rfl ?_
            refine v_getR d12_readRest_148 faX12_35 ic_0 rfl ?_
            refine v_iload_n d12_readRest_151 2 rfl rfl ?_
            refine v_iconst d12_readRest_152 ki_1 ?_
            refine v_iadd d12_readRest_153 ?_
            refine v_aload_n d12_readRest_154 1 rfl rfl ?_
            refine v_iconst d12_readRest_155 ki_1 ?_
            refine v_bipush d12_readRest_156 kb_99 ?_
            refine v_callV2i d12_readRest_158 (mc12_count N (1 : Int32) (99 : Int32) σ) yv12_count mlX12_196 (Recv.obj ic_0 rfl) (by decide) (Nat.le_of_ble_eq_true rfl) fun r11 t12 => ?_
            refine v_iast d12_readRest_161 ic_5 ?_
            refine v_lts fun t13 => ?_
            refine v_goto (tgt := 175) d12_readRest_162 (by decide) ?_
            exact v_vret d12_readRest_175 rfl
        · refine v_aload_n d12_readRest_96 1 rfl rfl ?_
          refine v_getR d12_readRest_97 faX12_35 ic_0 rfl ?_
          refine v_iload_n d12_readRest_100 2 rfl rfl ?_
          refine v_iconst d12_readRest_101 ki_1 ?_
          refine v_iadd d12_readRest_102 ?_
          refine v_aload_n d12_readRest_103 1 rfl rfl ?_
          refine v_callV0i d12_readRest_104 (mc12_readColour N σ) yv12_readColour mlX12_181 (Recv.obj ic_0 rfl) (by decide) (Nat.le_of_ble_eq_true rfl) fun r14 t15 => ?_
          refine v_iast d12_readRest_107 ic_5 ?_
          refine v_lts fun t16 => ?_
          refine v_aload_n d12_readRest_108 1 rfl rfl ?_
          refine v_getR d12_readRest_109 faX12_35 ic_0 rfl ?_
          refine v_iload_n d12_readRest_112 2 rfl rfl ?_
          refine v_iconst d12_readRest_113 ki_2 ?_
          refine v_iadd d12_readRest_114 ?_
          refine v_aload_n d12_readRest_115 1 rfl rfl ?_
          refine v_aload_n d12_readRest_116 1 rfl rfl ?_
          refine v_callV0i d12_readRest_117 (mc12_isOn t16) yv12_isOn mlX12_184 (Recv.obj ic_0 rfl) (by decide) (Nat.le_of_ble_eq_true rfl) fun r17 t18 => ?_
          refine v_callV1i d12_readRest_120 (mc12_perhaps N r17 t18) yv12_perhaps mlX12_188 (Recv.obj ic_0 rfl) (by decide) (Nat.le_of_ble_eq_true rfl) fun r19 t20 => ?_
          refine v_if_eq (tgt := 136) d12_readRest_123 (by decide) ?_ ?_
          · refine v_iconst d12_readRest_136 ki_m1 ?_
            refine v_sub [] rfl ?_
            exact v12_readRest_b137 N (p0 + (2 : Int32)) (-1 : Int32) t20
          · refine v_aload_n d12_readRest_126 1 rfl rfl ?_
            refine v_iconst d12_readRest_127 ki_0 ?_
            refine v_bipush d12_readRest_128 kb_19 ?_
            refine v_callV2i d12_readRest_130 (mc12_count N (0 : Int32) (19 : Int32) t20) yv12_count mlX12_196 (Recv.obj ic_0 rfl) (by decide) (Nat.le_of_ble_eq_true rfl) fun r21 t22 => ?_
            refine v_goto (tgt := 137) d12_readRest_133 (by decide) ?_
            refine v_sub [] rfl ?_
            exact v12_readRest_b137 N (p0 + (2 : Int32)) r21 t22
      · refine v_aload_n d12_readRest_59 1 rfl rfl ?_
        refine v_getR d12_readRest_60 faX12_35 ic_0 rfl ?_
        refine v_iload_n d12_readRest_63 2 rfl rfl ?_
        refine v_iconst d12_readRest_64 ki_1 ?_
        refine v_iadd d12_readRest_65 ?_
        refine v_aload_n d12_readRest_66 1 rfl rfl ?_
        refine v_iconst d12_readRest_67 ki_0 ?_
        refine v_iconst d12_readRest_68 ki_3 ?_
        refine v_callV2i d12_readRest_69 (mc12_count N (0 : Int32) (3 : Int32) σ) yv12_count mlX12_196 (Recv.obj ic_0 rfl) (by decide) (Nat.le_of_ble_eq_true rfl) fun r23 t24 => ?_
        refine v_iast d12_readRest_72 ic_5 ?_
        refine v_lts fun t25 => ?_
        refine v_aload_n d12_readRest_73 1 rfl rfl ?_
        refine v_getR d12_readRest_74 faX12_35 ic_0 rfl ?_
        refine v_iload_n d12_readRest_77 2 rfl rfl ?_
        refine v_iconst d12_readRest_78 ki_2 ?_
        refine v_iadd d12_readRest_79 ?_
        refine v_aload_n d12_readRest_80 1 rfl rfl ?_
        refine v_iconst d12_readRest_81 ki_0 ?_
        refine v_bipush d12_readRest_82 kb_15 ?_
        refine v_callV2i d12_readRest_84 (mc12_count N (0 : Int32) (15 : Int32) t25) yv12_count mlX12_196 (Recv.obj ic_0 rfl) (by decide) (Nat.le_of_ble_eq_true rfl) fun r26 t27 => ?_
        refine v_iast d12_readRest_87 ic_5 ?_
        refine v_lts fun t28 => ?_
        refine v_goto (tgt := 175) d12_readRest_88 (by decide) ?_
        exact v_vret d12_readRest_175 rfl
    · refine v_sub [1, 2, 0] rfl ?_
      exact v12_readRest_b16 N p0 x8 σ
theorem d12_readStep_0 : decode cX12_readStep 0 = .ok (.aload_n 0, 1) := by decide +kernel
theorem d12_readStep_1 : decode cX12_readStep 1 = .ok (.invokevirtual 248, 3) := by decide +kernel
theorem d12_readStep_4 : decode cX12_readStep 4 = .ok (.istore_n 2, 1) := by decide +kernel
theorem d12_readStep_5 : decode cX12_readStep 5 = .ok (.iload_n 2, 1) := by decide +kernel
theorem d12_readStep_6 : decode cX12_readStep 6 = .ok (.iconst 5, 1) := by decide +kernel
theorem d12_readStep_7 : decode cX12_readStep 7 = .ok (.if_icmp .eq 9, 3) := by decide +kernel
theorem d12_readStep_10 : decode cX12_readStep 10 = .ok (.iload_n 2, 1) := by decide +kernel
theorem d12_readStep_11 : decode cX12_readStep 11 = .ok (.bipush 6, 2) := by decide +kernel
theorem d12_readStep_13 : decode cX12_readStep 13 = .ok (.if_icmp .ne 7, 3) := by decide +kernel
theorem d12_readStep_16 : decode cX12_readStep 16 = .ok (.iconst 1, 1) := by decide +kernel
theorem d12_readStep_17 : decode cX12_readStep 17 = .ok (.goto 4, 3) := by decide +kernel
theorem d12_readStep_20 : decode cX12_readStep 20 = .ok (.iconst 0, 1) := by decide +kernel
theorem d12_readStep_21 : decode cX12_readStep 21 = .ok (.istore_n 3, 1) := by decide +kernel
theorem d12_readStep_22 : decode cX12_readStep 22 = .ok (.iload_n 2, 1) := by decide +kernel
theorem d12_readStep_23 : decode cX12_readStep 23 = .ok (.ifCond .ge 7, 3) := by decide +kernel
theorem d12_readStep_26 : decode cX12_readStep 26 = .ok (.aload_n 0, 1) := by decide +kernel
theorem d12_readStep_27 : decode cX12_readStep 27 = .ok (.invokevirtual 151, 3) := by decide +kernel
theorem d12_readStep_30 : decode cX12_readStep 30 = .ok (.aload_n 0, 1) := by decide +kernel
theorem d12_readStep_31 : decode cX12_readStep 31 = .ok (.getfield 138, 3) := by decide +kernel
theorem d12_readStep_34 : decode cX12_readStep 34 = .ok (.ifCond .ne 22, 3) := by decide +kernel
theorem d12_readStep_37 : decode cX12_readStep 37 = .ok (.aload_n 0, 1) := by decide +kernel
theorem d12_readStep_38 : decode cX12_readStep 38 = .ok (.getfield 251, 3) := by decide +kernel
theorem d12_readStep_41 : decode cX12_readStep 41 = .ok (.bipush 30, 2) := by decide +kernel
theorem d12_readStep_43 : decode cX12_readStep 43 = .ok (.if_icmp .ne 13, 3) := by decide +kernel
theorem d12_readStep_46 : decode cX12_readStep 46 = .ok (.aload_n 0, 1) := by decide +kernel
theorem d12_readStep_47 : decode cX12_readStep 47 = .ok (.bipush 6, 2) := by decide +kernel
theorem d12_readStep_49 : decode cX12_readStep 49 = .ok (.aload_n 0, 1) := by decide +kernel
theorem d12_readStep_50 : decode cX12_readStep 50 = .ok (.getfield 102, 3) := by decide +kernel
theorem d12_readStep_53 : decode cX12_readStep 53 = .ok (.invokevirtual 144, 3) := by decide +kernel
theorem d12_readStep_56 : decode cX12_readStep 56 = .ok (.aload_n 0, 1) := by decide +kernel
theorem d12_readStep_57 : decode cX12_readStep 57 = .ok (.getfield 138, 3) := by decide +kernel
theorem d12_readStep_60 : decode cX12_readStep 60 = .ok (.ifCond .ne 22, 3) := by decide +kernel
theorem d12_readStep_63 : decode cX12_readStep 63 = .ok (.iload_n 3, 1) := by decide +kernel
theorem d12_readStep_64 : decode cX12_readStep 64 = .ok (.ifCond .eq 18, 3) := by decide +kernel
theorem d12_readStep_67 : decode cX12_readStep 67 = .ok (.iload_n 1, 1) := by decide +kernel
theorem d12_readStep_68 : decode cX12_readStep 68 = .ok (.iconst 3, 1) := by decide +kernel
theorem d12_readStep_69 : decode cX12_readStep 69 = .ok (.if_icmp .ne 13, 3) := by decide +kernel
theorem d12_readStep_72 : decode cX12_readStep 72 = .ok (.aload_n 0, 1) := by decide +kernel
theorem d12_readStep_73 : decode cX12_readStep 73 = .ok (.bipush 7, 2) := by decide +kernel
theorem d12_readStep_75 : decode cX12_readStep 75 = .ok (.aload_n 0, 1) := by decide +kernel
theorem d12_readStep_76 : decode cX12_readStep 76 = .ok (.getfield 102, 3) := by decide +kernel
theorem d12_readStep_79 : decode cX12_readStep 79 = .ok (.invokevirtual 144, 3) := by decide +kernel
theorem d12_readStep_82 : decode cX12_readStep 82 = .ok (.aload_n 0, 1) := by decide +kernel
theorem d12_readStep_83 : decode cX12_readStep 83 = .ok (.getfield 138, 3) := by decide +kernel
theorem d12_readStep_86 : decode cX12_readStep 86 = .ok (.ifCond .le 4, 3) := by decide +kernel
theorem d12_readStep_89 : decode cX12_readStep 89 = .ok (.return_, 1) := by decide +kernel
theorem d12_readStep_90 : decode cX12_readStep 90 = .ok (.sipush 1510, 3) := by decide +kernel
theorem d12_readStep_93 : decode cX12_readStep 93 = .ok (.bipush 9, 2) := by decide +kernel
theorem d12_readStep_95 : decode cX12_readStep 95 = .ok (.aload_n 0, 1) := by decide +kernel
theorem d12_readStep_96 : decode cX12_readStep 96 = .ok (.getfield 251, 3) := by decide +kernel
theorem d12_readStep_99 : decode cX12_readStep 99 = .ok (.imul, 1) := by decide +kernel
theorem d12_readStep_100 : decode cX12_readStep 100 = .ok (.iadd, 1) := by decide +kernel
theorem d12_readStep_101 : decode cX12_readStep 101 = .ok (.istore 4, 2) := by decide +kernel
theorem d12_readStep_103 : decode cX12_readStep 103 = .ok (.aload_n 0, 1) := by decide +kernel
theorem d12_readStep_104 : decode cX12_readStep 104 = .ok (.dup, 1) := by decide +kernel
theorem d12_readStep_105 : decode cX12_readStep 105 = .ok (.getfield 251, 3) := by decide +kernel
theorem d12_readStep_108 : decode cX12_readStep 108 = .ok (.iconst 1, 1) := by decide +kernel
theorem d12_readStep_109 : decode cX12_readStep 109 = .ok (.iadd, 1) := by decide +kernel
theorem d12_readStep_110 : decode cX12_readStep 110 = .ok (.putfield 251, 3) := by decide +kernel
theorem d12_readStep_113 : decode cX12_readStep 113 = .ok (.aload_n 0, 1) := by decide +kernel
theorem d12_readStep_114 : decode cX12_readStep 114 = .ok (.invokevirtual 148, 3) := by decide +kernel
theorem d12_readStep_117 : decode cX12_readStep 117 = .ok (.aload_n 0, 1) := by decide +kernel
theorem d12_readStep_118 : decode cX12_readStep 118 = .ok (.getfield 35, 3) := by decide +kernel
theorem d12_readStep_121 : decode cX12_readStep 121 = .ok (.iload 4, 2) := by decide +kernel
theorem d12_readStep_123 : decode cX12_readStep 123 = .ok (.iload_n 2, 1) := by decide +kernel
theorem d12_readStep_124 : decode cX12_readStep 124 = .ok (.iastore, 1) := by decide +kernel
theorem d12_readStep_125 : decode cX12_readStep 125 = .ok (.aload_n 0, 1) := by decide +kernel
theorem d12_readStep_126 : decode cX12_readStep 126 = .ok (.iload 4, 2) := by decide +kernel
theorem d12_readStep_128 : decode cX12_readStep 128 = .ok (.invokevirtual 254, 3) := by decide +kernel
theorem d12_readStep_131 : decode cX12_readStep 131 = .ok (.aload_n 0, 1) := by decide +kernel
theorem d12_readStep_132 : decode cX12_readStep 132 = .ok (.aload_n 0, 1) := by decide +kernel
theorem d12_readStep_133 : decode cX12_readStep 133 = .ok (.bipush 59, 2) := by decide +kernel
theorem d12_readStep_135 : decode cX12_readStep 135 = .ok (.invokevirtual 230, 3) := by decide +kernel
theorem d12_readStep_138 : decode cX12_readStep 138 = .ok (.invokevirtual 161, 3) := by decide +kernel
theorem d12_readStep_141 : decode cX12_readStep 141 = .ok (.iload_n 3, 1) := by decide +kernel
theorem d12_readStep_142 : decode cX12_readStep 142 = .ok (.ifCond .eq 27, 3) := by decide +kernel
theorem d12_readStep_145 : decode cX12_readStep 145 = .ok (.aload_n 0, 1) := by decide +kernel
theorem d12_readStep_146 : decode cX12_readStep 146 = .ok (.getfield 138, 3) := by decide +kernel
theorem d12_readStep_149 : decode cX12_readStep 149 = .ok (.ifCond .ne 20, 3) := by decide +kernel
theorem d12_readStep_152 : decode cX12_readStep 152 = .ok (.aload_n 0, 1) := by decide +kernel
theorem d12_readStep_153 : decode cX12_readStep 153 = .ok (.invokevirtual 257, 3) := by decide +kernel
theorem d12_readStep_156 : decode cX12_readStep 156 = .ok (.ifCond .ne 13, 3) := by decide +kernel
theorem d12_readStep_159 : decode cX12_readStep 159 = .ok (.aload_n 0, 1) := by decide +kernel
theorem d12_readStep_160 : decode cX12_readStep 160 = .ok (.iload_n 1, 1) := by decide +kernel
theorem d12_readStep_161 : decode cX12_readStep 161 = .ok (.iconst 1, 1) := by decide +kernel
theorem d12_readStep_162 : decode cX12_readStep 162 = .ok (.iadd, 1) := by decide +kernel
theorem d12_readStep_163 : decode cX12_readStep 163 = .ok (.invokevirtual 260, 3) := by decide +kernel
theorem d12_readStep_166 : decode cX12_readStep 166 = .ok (.goto (-25), 3) := by decide +kernel
theorem d12_readStep_169 : decode cX12_readStep 169 = .ok (.iload_n 3, 1) := by decide +kernel
theorem d12_readStep_170 : decode cX12_readStep 170 = .ok (.ifCond .eq 21, 3) := by decide +kernel
theorem d12_readStep_173 : decode cX12_readStep 173 = .ok (.aload_n 0, 1) := by decide +kernel
theorem d12_readStep_174 : decode cX12_readStep 174 = .ok (.aload_n 0, 1) := by decide +kernel
theorem d12_readStep_175 : decode cX12_readStep 175 = .ok (.invokevirtual 257, 3) := by decide +kernel
theorem d12_readStep_178 : decode cX12_readStep 178 = .ok (.invokevirtual 161, 3) := by decide +kernel
theorem d12_readStep_181 : decode cX12_readStep 181 = .ok (.aload_n 0, 1) := by decide +kernel
theorem d12_readStep_182 : decode cX12_readStep 182 = .ok (.aload_n 0, 1) := by decide +kernel
theorem d12_readStep_183 : decode cX12_readStep 183 = .ok (.bipush 59, 2) := by decide +kernel
theorem d12_readStep_185 : decode cX12_readStep 185 = .ok (.invokevirtual 230, 3) := by decide +kernel
theorem d12_readStep_188 : decode cX12_readStep 188 = .ok (.invokevirtual 161, 3) := by decide +kernel
theorem d12_readStep_191 : decode cX12_readStep 191 = .ok (.aload_n 0, 1) := by decide +kernel
theorem d12_readStep_192 : decode cX12_readStep 192 = .ok (.getfield 35, 3) := by decide +kernel
theorem d12_readStep_195 : decode cX12_readStep 195 = .ok (.iload 4, 2) := by decide +kernel
theorem d12_readStep_197 : decode cX12_readStep 197 = .ok (.bipush 8, 2) := by decide +kernel
theorem d12_readStep_199 : decode cX12_readStep 199 = .ok (.iadd, 1) := by decide +kernel
theorem d12_readStep_200 : decode cX12_readStep 200 = .ok (.aload_n 0, 1) := by decide +kernel
theorem d12_readStep_201 : decode cX12_readStep 201 = .ok (.getfield 251, 3) := by decide +kernel
theorem d12_readStep_204 : decode cX12_readStep 204 = .ok (.iastore, 1) := by decide +kernel
theorem d12_readStep_205 : decode cX12_readStep 205 = .ok (.return_, 1) := by decide +kernel
abbrev K12_readStep (d : Nat) : CK Unit := (enV, none, 5, d, none)
noncomputable def F12_readStep_b191 (N : Nat) (r12_readStep : Int32 → Ms → Option (Unit × Ms)) (l4 : Int32) (σ : Ms) : Option (Unit × Ms) :=
  ck (ixb (l4 + (8 : Int32)) 1780) (lt (sI σ 5 (l4 + (8 : Int32)).toNatClampNeg (σ.1 0 22)) (fun t1 => some ((), t1)))
noncomputable def F12_readStep_b169 (N : Nat) (r12_readStep : Int32 → Ms → Option (Unit × Ms)) (l3 : Int32) (l4 : Int32) (σ : Ms) : Option (Unit × Ms) :=
  if l3 = 0 then (F12_readStep_b191 N r12_readStep l4 σ)
  else (bn (F12_isEnd σ) (fun r2 t3 => bn (F12_must N r2 t3) (fun r4 t5 => bn (F12_isSign (59 : Int32) t5) (fun r6 t7 => bn (F12_must N r6 t7) (fun r8 t9 => F12_readStep_b191 N r12_readStep l4 t9)))))
noncomputable def F12_readStep_b141B (N : Nat) (r12_readStep : Int32 → Ms → Option (Unit × Ms)) (k141 : Int32 × Int32 × Int32 × Ms → Option (Unit × Ms)) (l1 : Int32) (l3 : Int32) (l4 : Int32) (σ : Ms) : Option (Unit × Ms) :=
  if l3 = 0 then (F12_readStep_b169 N r12_readStep l3 l4 σ)
  else (if (σ.1 0 12) ≠ 0 then (F12_readStep_b169 N r12_readStep l3 l4 σ)
  else (bn (F12_isEnd σ) (fun r10 t11 => if r10 ≠ 0 then (F12_readStep_b169 N r12_readStep l3 l4 t11)
  else (bn (r12_readStep (l1 + (1 : Int32)) t11) (fun r12 t13 => k141 (l1, l3, l4, t13))))))
noncomputable def F12_readStep_b141 (N : Nat) (r12_readStep : Int32 → Ms → Option (Unit × Ms)) (l1 : Int32) (l3 : Int32) (l4 : Int32) (σ : Ms) : Option (Unit × Ms) :=
  fx N (fun k x => F12_readStep_b141B N r12_readStep k x.1 x.2.1 x.2.2.1 x.2.2.2) (l1, l3, l4, σ)
noncomputable def F12_readStep_b82 (N : Nat) (r12_readStep : Int32 → Ms → Option (Unit × Ms)) (l1 : Int32) (l2 : Int32) (l3 : Int32) (σ : Ms) : Option (Unit × Ms) :=
  if (σ.1 0 12) ≤ 0 then (lt ((1510 : Int32) + ((9 : Int32) * (σ.1 0 22))) (fun x14 => lt (sI σ 0 22 ((σ.1 0 22) + (1 : Int32))) (fun t15 => bn (F12_advance N t15) (fun r16 t17 => ck (ixb x14 1780) (lt (sI t17 5 x14.toNatClampNeg l2) (fun t18 => bn (F12_readRest N x14 t18) (fun r19 t20 => bn (F12_isSign (59 : Int32) t20) (fun r21 t22 => bn (F12_must N r21 t22) (fun r23 t24 => F12_readStep_b141 N r12_readStep l1 l3 x14 t24)))))))))
  else (some ((), σ))
noncomputable def F12_readStep_b56 (N : Nat) (r12_readStep : Int32 → Ms → Option (Unit × Ms)) (l1 : Int32) (l2 : Int32) (l3 : Int32) (σ : Ms) : Option (Unit × Ms) :=
  if (σ.1 0 12) ≠ 0 then (F12_readStep_b82 N r12_readStep l1 l2 l3 σ)
  else (if l3 = 0 then (F12_readStep_b82 N r12_readStep l1 l2 l3 σ)
  else (if l1 ≠ (3 : Int32) then (F12_readStep_b82 N r12_readStep l1 l2 l3 σ)
  else (bn (F12_fail (7 : Int32) (σ.1 0 15) σ) (fun r25 t26 => F12_readStep_b82 N r12_readStep l1 l2 l3 t26))))
noncomputable def F12_readStep_b30 (N : Nat) (r12_readStep : Int32 → Ms → Option (Unit × Ms)) (l1 : Int32) (l2 : Int32) (l3 : Int32) (σ : Ms) : Option (Unit × Ms) :=
  if (σ.1 0 12) ≠ 0 then (F12_readStep_b56 N r12_readStep l1 l2 l3 σ)
  else (if (σ.1 0 22) ≠ (30 : Int32) then (F12_readStep_b56 N r12_readStep l1 l2 l3 σ)
  else (bn (F12_fail (6 : Int32) (σ.1 0 15) σ) (fun r27 t28 => F12_readStep_b56 N r12_readStep l1 l2 l3 t28)))
noncomputable def F12_readStep_b21 (N : Nat) (r12_readStep : Int32 → Ms → Option (Unit × Ms)) (l1 : Int32) (l2 : Int32) (s0 : Int32) (σ : Ms) : Option (Unit × Ms) :=
  if 0 ≤ l2 then (F12_readStep_b30 N r12_readStep l1 l2 s0 σ)
  else (bn (F12_amiss σ) (fun r29 t30 => F12_readStep_b30 N r12_readStep l1 l2 s0 t30))
noncomputable def F12_readStep_b16 (N : Nat) (r12_readStep : Int32 → Ms → Option (Unit × Ms)) (l1 : Int32) (l2 : Int32) (σ : Ms) : Option (Unit × Ms) :=
  F12_readStep_b21 N r12_readStep l1 l2 (1 : Int32) σ
noncomputable def F12_readStepB (N : Nat) (r12_readStep : Int32 → Ms → Option (Unit × Ms)) (p0 : Int32) (σ : Ms) : Option (Unit × Ms) :=
  bn (F12_stepWord σ) (fun r31 t32 => if r31 = (5 : Int32) then (F12_readStep_b16 N r12_readStep p0 r31 t32)
  else (if r31 ≠ (6 : Int32) then (F12_readStep_b21 N r12_readStep p0 r31 (0 : Int32) t32)
  else (F12_readStep_b16 N r12_readStep p0 r31 t32)))
set_option maxRecDepth 100000 in
theorem v12_readStep_b191 {d dreadStep : Nat} (hdreadStep : dreadStep + 1 ≤ d) (hd0 : 7 ≤ d) (N : Nat) (r12_readStep : Int32 → Ms → Option (Unit × Ms)) (hr12_readStep : ∀ (p0 : Int32) (σ : Ms), MC enV yX12_readStep cX12_readStep 5 none dreadStep (r12_readStep p0 σ) σ [.ref 0, .int p0]) (l4 : Int32) (σ : Ms) : VF (K12_readStep d) cX12_readStep RX12 (F12_readStep_b191 N r12_readStep l4 σ) σ 191 [(0, .ref 0), (4, .int l4)] [] := by
  unfold F12_readStep_b191
  refine v_aload_n d12_readStep_191 0 rfl rfl ?_
  refine v_getR d12_readStep_192 faX12_35 ic_0 rfl ?_
  refine v_iload d12_readStep_195 1 rfl ?_
  refine v_bipush d12_readStep_197 kb_8 ?_
  refine v_iadd d12_readStep_199 ?_
  refine v_aload_n d12_readStep_200 0 rfl rfl ?_
  refine v_getI d12_readStep_201 faX12_251 ic_0 ?_
  refine v_iast d12_readStep_204 ic_5 ?_
  refine v_lts fun t1 => ?_
  exact v_vret d12_readStep_205 rfl
set_option maxRecDepth 100000 in
theorem v12_readStep_b169 {d dreadStep : Nat} (hdreadStep : dreadStep + 1 ≤ d) (hd0 : 7 ≤ d) (N : Nat) (r12_readStep : Int32 → Ms → Option (Unit × Ms)) (hr12_readStep : ∀ (p0 : Int32) (σ : Ms), MC enV yX12_readStep cX12_readStep 5 none dreadStep (r12_readStep p0 σ) σ [.ref 0, .int p0]) (l3 : Int32) (l4 : Int32) (σ : Ms) : VF (K12_readStep d) cX12_readStep RX12 (F12_readStep_b169 N r12_readStep l3 l4 σ) σ 169 [(0, .ref 0), (3, .int l3), (4, .int l4)] [] := by
  unfold F12_readStep_b169
  refine v_iload_n d12_readStep_169 1 rfl rfl ?_
  refine v_if_eq (tgt := 191) d12_readStep_170 (by decide) ?_ ?_
  · refine v_sub [0, 2] rfl ?_
    exact v12_readStep_b191 hdreadStep hd0 N r12_readStep hr12_readStep l4 σ
  · refine v_aload_n d12_readStep_173 0 rfl rfl ?_
    refine v_aload_n d12_readStep_174 0 rfl rfl ?_
    refine v_callV0i d12_readStep_175 (mc12_isEnd σ) yv12_isEnd mlX12_257 (Recv.obj ic_0 rfl) (Nat.le_trans (by decide) hd0) (Nat.le_of_ble_eq_true rfl) fun r2 t3 => ?_
    refine v_callV1v d12_readStep_178 (mc12_must N r2 t3) yv12_must mlX12_161 (Recv.obj ic_0 rfl) (Nat.le_trans (by decide) hd0) (Nat.le_of_ble_eq_true rfl) fun r4 t5 => ?_
    refine v_aload_n d12_readStep_181 0 rfl rfl ?_
    refine v_aload_n d12_readStep_182 0 rfl rfl ?_
    refine v_bipush d12_readStep_183 kb_59 ?_
    refine v_callV1i d12_readStep_185 (mc12_isSign (59 : Int32) t5) yv12_isSign mlX12_230 (Recv.obj ic_0 rfl) (Nat.le_trans (by decide) hd0) (Nat.le_of_ble_eq_true rfl) fun r6 t7 => ?_
    refine v_callV1v d12_readStep_188 (mc12_must N r6 t7) yv12_must mlX12_161 (Recv.obj ic_0 rfl) (Nat.le_trans (by decide) hd0) (Nat.le_of_ble_eq_true rfl) fun r8 t9 => ?_
    refine v_sub [0, 2] rfl ?_
    exact v12_readStep_b191 hdreadStep hd0 N r12_readStep hr12_readStep l4 t9
set_option maxRecDepth 100000 in
theorem v12_readStep_b141B {d dreadStep : Nat} (hdreadStep : dreadStep + 1 ≤ d) (hd0 : 7 ≤ d) (N : Nat) (r12_readStep : Int32 → Ms → Option (Unit × Ms)) (hr12_readStep : ∀ (p0 : Int32) (σ : Ms), MC enV yX12_readStep cX12_readStep 5 none dreadStep (r12_readStep p0 σ) σ [.ref 0, .int p0]) (k141 : Int32 × Int32 × Int32 × Ms → Option (Unit × Ms)) (hk141 : ∀ (l1 : Int32) (l3 : Int32) (l4 : Int32) (τ : Ms), VF (K12_readStep d) cX12_readStep RX12 (k141 (l1, l3, l4, τ)) τ 141 [(0, .ref 0), (1, .int l1), (3, .int l3), (4, .int l4)] []) (l1 : Int32) (l3 : Int32) (l4 : Int32) (σ : Ms) : VF (K12_readStep d) cX12_readStep RX12 (F12_readStep_b141B N r12_readStep k141 l1 l3 l4 σ) σ 141 [(0, .ref 0), (1, .int l1), (3, .int l3), (4, .int l4)] [] := by
  unfold F12_readStep_b141B
  refine v_iload_n d12_readStep_141 2 rfl rfl ?_
  refine v_if_eq (tgt := 169) d12_readStep_142 (by decide) ?_ ?_
  · refine v_sub [0, 2, 3] rfl ?_
    exact v12_readStep_b169 hdreadStep hd0 N r12_readStep hr12_readStep l3 l4 σ
  · refine v_aload_n d12_readStep_145 0 rfl rfl ?_
    refine v_getI d12_readStep_146 faX12_138 ic_0 ?_
    refine v_if_ne (tgt := 169) d12_readStep_149 (by decide) ?_ ?_
    · refine v_sub [0, 2, 3] rfl ?_
      exact v12_readStep_b169 hdreadStep hd0 N r12_readStep hr12_readStep l3 l4 σ
    · refine v_aload_n d12_readStep_152 0 rfl rfl ?_
      refine v_callV0i d12_readStep_153 (mc12_isEnd σ) yv12_isEnd mlX12_257 (Recv.obj ic_0 rfl) (Nat.le_trans (by decide) hd0) (Nat.le_of_ble_eq_true rfl) fun r10 t11 => ?_
      refine v_if_ne (tgt := 169) d12_readStep_156 (by decide) ?_ ?_
      · refine v_sub [0, 2, 3] rfl ?_
        exact v12_readStep_b169 hdreadStep hd0 N r12_readStep hr12_readStep l3 l4 t11
      · refine v_aload_n d12_readStep_159 0 rfl rfl ?_
        refine v_iload_n d12_readStep_160 1 rfl rfl ?_
        refine v_iconst d12_readStep_161 ki_1 ?_
        refine v_iadd d12_readStep_162 ?_
        refine v_callV1v d12_readStep_163 (hr12_readStep (l1 + (1 : Int32)) t11) yv12_readStep mlX12_260 (Recv.obj ic_0 rfl) hdreadStep (Nat.le_of_ble_eq_true rfl) fun r12 t13 => ?_
        refine v_goto (tgt := 141) d12_readStep_166 (by decide) ?_
        exact hk141 l1 l3 l4 t13
theorem v12_readStep_b141 {d dreadStep : Nat} (hdreadStep : dreadStep + 1 ≤ d) (hd0 : 7 ≤ d) (N : Nat) (r12_readStep : Int32 → Ms → Option (Unit × Ms)) (hr12_readStep : ∀ (p0 : Int32) (σ : Ms), MC enV yX12_readStep cX12_readStep 5 none dreadStep (r12_readStep p0 σ) σ [.ref 0, .int p0]) (l1 : Int32) (l3 : Int32) (l4 : Int32) (σ : Ms) : VF (K12_readStep d) cX12_readStep RX12 (F12_readStep_b141 N r12_readStep l1 l3 l4 σ) σ 141 [(0, .ref 0), (1, .int l1), (3, .int l3), (4, .int l4)] [] := v_fx (σo := fun x => x.2.2.2) (lo := fun x => [(0, .ref 0), (1, .int x.1), (3, .int x.2.1), (4, .int x.2.2.1)]) (fun k hk x => v12_readStep_b141B hdreadStep hd0 N r12_readStep hr12_readStep k (fun l1 l3 l4 τ => hk (l1, l3, l4, τ)) x.1 x.2.1 x.2.2.1 x.2.2.2) N (l1, l3, l4, σ)
set_option maxRecDepth 100000 in
theorem v12_readStep_b82 {d dreadStep : Nat} (hdreadStep : dreadStep + 1 ≤ d) (hd0 : 7 ≤ d) (N : Nat) (r12_readStep : Int32 → Ms → Option (Unit × Ms)) (hr12_readStep : ∀ (p0 : Int32) (σ : Ms), MC enV yX12_readStep cX12_readStep 5 none dreadStep (r12_readStep p0 σ) σ [.ref 0, .int p0]) (l1 : Int32) (l2 : Int32) (l3 : Int32) (σ : Ms) : VF (K12_readStep d) cX12_readStep RX12 (F12_readStep_b82 N r12_readStep l1 l2 l3 σ) σ 82 [(0, .ref 0), (1, .int l1), (2, .int l2), (3, .int l3)] [] := by
  unfold F12_readStep_b82
  refine v_aload_n d12_readStep_82 0 rfl rfl ?_
  refine v_getI d12_readStep_83 faX12_138 ic_0 ?_
  refine v_if_le (tgt := 90) d12_readStep_86 (by decide) ?_ ?_
  · refine v_sipush d12_readStep_90 ks_1510 ?_
    refine v_bipush d12_readStep_93 kb_9 ?_
    refine v_aload_n d12_readStep_95 0 rfl rfl ?_
    refine v_getI d12_readStep_96 faX12_251 ic_0 ?_
    refine v_imul d12_readStep_99 ?_
    refine v_iadd d12_readStep_100 ?_
    refine v_lti fun x14 => ?_
    refine v_istore (lv' := [(4, .int x14), (0, .ref 0), (1, .int l1), (2, .int l2), (3, .int l3)]) d12_readStep_101 (show 4 < 5 by decide) rfl ?_
    refine v_aload_n d12_readStep_103 1 rfl rfl ?_
    refine v_dup d12_readStep_104 rfl ?_
    refine v_getI d12_readStep_105 faX12_251 ic_0 ?_
    refine v_iconst d12_readStep_108 ki_1 ?_
    refine v_iadd d12_readStep_109 ?_
    refine v_putI d12_readStep_110 faX12_251 fp9_22 ic_0 ?_
    refine v_lts fun t15 => ?_
    refine v_aload_n d12_readStep_113 1 rfl rfl ?_
    refine v_callV0v d12_readStep_114 (mc12_advance N t15) yv12_advance mlX12_148 (Recv.obj ic_0 rfl) (Nat.le_trans (by decide) hd0) (Nat.le_of_ble_eq_true rfl) fun r16 t17 => ?_
    refine v_aload_n d12_readStep_117 1 rfl rfl ?_
    refine v_getR d12_readStep_118 faX12_35 ic_0 rfl ?_
    refine v_iload d12_readStep_121 0 rfl ?_
    refine v_iload_n d12_readStep_123 3 rfl rfl ?_
    refine v_iast d12_readStep_124 ic_5 ?_
    refine v_lts fun t18 => ?_
    refine v_aload_n d12_readStep_125 1 rfl rfl ?_
    refine v_iload d12_readStep_126 0 rfl ?_
    refine v_callV1v d12_readStep_128 (mc12_readRest N x14 t18) yv12_readRest mlX12_254 (Recv.obj ic_0 rfl) (Nat.le_trans (by decide) hd0) (Nat.le_of_ble_eq_true rfl) fun r19 t20 => ?_
    refine v_aload_n d12_readStep_131 1 rfl rfl ?_
    refine v_aload_n d12_readStep_132 1 rfl rfl ?_
    refine v_bipush d12_readStep_133 kb_59 ?_
    refine v_callV1i d12_readStep_135 (mc12_isSign (59 : Int32) t20) yv12_isSign mlX12_230 (Recv.obj ic_0 rfl) (Nat.le_trans (by decide) hd0) (Nat.le_of_ble_eq_true rfl) fun r21 t22 => ?_
    refine v_callV1v d12_readStep_138 (mc12_must N r21 t22) yv12_must mlX12_161 (Recv.obj ic_0 rfl) (Nat.le_trans (by decide) hd0) (Nat.le_of_ble_eq_true rfl) fun r23 t24 => ?_
    refine v_sub [1, 2, 4, 0] rfl ?_
    exact v12_readStep_b141 hdreadStep hd0 N r12_readStep hr12_readStep l1 l3 x14 t24
  · exact v_vret d12_readStep_89 rfl
set_option maxRecDepth 100000 in
theorem v12_readStep_b56 {d dreadStep : Nat} (hdreadStep : dreadStep + 1 ≤ d) (hd0 : 7 ≤ d) (N : Nat) (r12_readStep : Int32 → Ms → Option (Unit × Ms)) (hr12_readStep : ∀ (p0 : Int32) (σ : Ms), MC enV yX12_readStep cX12_readStep 5 none dreadStep (r12_readStep p0 σ) σ [.ref 0, .int p0]) (l1 : Int32) (l2 : Int32) (l3 : Int32) (σ : Ms) : VF (K12_readStep d) cX12_readStep RX12 (F12_readStep_b56 N r12_readStep l1 l2 l3 σ) σ 56 [(0, .ref 0), (1, .int l1), (2, .int l2), (3, .int l3)] [] := by
  unfold F12_readStep_b56
  refine v_aload_n d12_readStep_56 0 rfl rfl ?_
  refine v_getI d12_readStep_57 faX12_138 ic_0 ?_
  refine v_if_ne (tgt := 82) d12_readStep_60 (by decide) ?_ ?_
  · exact v12_readStep_b82 hdreadStep hd0 N r12_readStep hr12_readStep l1 l2 l3 σ
  · refine v_iload_n d12_readStep_63 3 rfl rfl ?_
    refine v_if_eq (tgt := 82) d12_readStep_64 (by decide) ?_ ?_
    · exact v12_readStep_b82 hdreadStep hd0 N r12_readStep hr12_readStep l1 l2 l3 σ
    · refine v_iload_n d12_readStep_67 1 rfl rfl ?_
      refine v_iconst d12_readStep_68 ki_3 ?_
      refine v_icmp_ne (tgt := 82) d12_readStep_69 (by decide) ?_ ?_
      · exact v12_readStep_b82 hdreadStep hd0 N r12_readStep hr12_readStep l1 l2 l3 σ
      · refine v_aload_n d12_readStep_72 0 rfl rfl ?_
        refine v_bipush d12_readStep_73 kb_7 ?_
        refine v_aload_n d12_readStep_75 0 rfl rfl ?_
        refine v_getI d12_readStep_76 faX12_102 ic_0 ?_
        refine v_callV2v d12_readStep_79 (mc12_fail (7 : Int32) (σ.1 0 15) σ) yv12_fail mlX12_144 (Recv.obj ic_0 rfl) (Nat.le_trans (by decide) hd0) (Nat.le_of_ble_eq_true rfl) fun r25 t26 => ?_
        exact v12_readStep_b82 hdreadStep hd0 N r12_readStep hr12_readStep l1 l2 l3 t26
set_option maxRecDepth 100000 in
theorem v12_readStep_b30 {d dreadStep : Nat} (hdreadStep : dreadStep + 1 ≤ d) (hd0 : 7 ≤ d) (N : Nat) (r12_readStep : Int32 → Ms → Option (Unit × Ms)) (hr12_readStep : ∀ (p0 : Int32) (σ : Ms), MC enV yX12_readStep cX12_readStep 5 none dreadStep (r12_readStep p0 σ) σ [.ref 0, .int p0]) (l1 : Int32) (l2 : Int32) (l3 : Int32) (σ : Ms) : VF (K12_readStep d) cX12_readStep RX12 (F12_readStep_b30 N r12_readStep l1 l2 l3 σ) σ 30 [(0, .ref 0), (1, .int l1), (2, .int l2), (3, .int l3)] [] := by
  unfold F12_readStep_b30
  refine v_aload_n d12_readStep_30 0 rfl rfl ?_
  refine v_getI d12_readStep_31 faX12_138 ic_0 ?_
  refine v_if_ne (tgt := 56) d12_readStep_34 (by decide) ?_ ?_
  · exact v12_readStep_b56 hdreadStep hd0 N r12_readStep hr12_readStep l1 l2 l3 σ
  · refine v_aload_n d12_readStep_37 0 rfl rfl ?_
    refine v_getI d12_readStep_38 faX12_251 ic_0 ?_
    refine v_bipush d12_readStep_41 kb_30 ?_
    refine v_icmp_ne (tgt := 56) d12_readStep_43 (by decide) ?_ ?_
    · exact v12_readStep_b56 hdreadStep hd0 N r12_readStep hr12_readStep l1 l2 l3 σ
    · refine v_aload_n d12_readStep_46 0 rfl rfl ?_
      refine v_bipush d12_readStep_47 kb_6 ?_
      refine v_aload_n d12_readStep_49 0 rfl rfl ?_
      refine v_getI d12_readStep_50 faX12_102 ic_0 ?_
      refine v_callV2v d12_readStep_53 (mc12_fail (6 : Int32) (σ.1 0 15) σ) yv12_fail mlX12_144 (Recv.obj ic_0 rfl) (Nat.le_trans (by decide) hd0) (Nat.le_of_ble_eq_true rfl) fun r27 t28 => ?_
      exact v12_readStep_b56 hdreadStep hd0 N r12_readStep hr12_readStep l1 l2 l3 t28
set_option maxRecDepth 100000 in
theorem v12_readStep_b21 {d dreadStep : Nat} (hdreadStep : dreadStep + 1 ≤ d) (hd0 : 7 ≤ d) (N : Nat) (r12_readStep : Int32 → Ms → Option (Unit × Ms)) (hr12_readStep : ∀ (p0 : Int32) (σ : Ms), MC enV yX12_readStep cX12_readStep 5 none dreadStep (r12_readStep p0 σ) σ [.ref 0, .int p0]) (l1 : Int32) (l2 : Int32) (s0 : Int32) (σ : Ms) : VF (K12_readStep d) cX12_readStep RX12 (F12_readStep_b21 N r12_readStep l1 l2 s0 σ) σ 21 [(0, .ref 0), (1, .int l1), (2, .int l2)] [.int s0] := by
  unfold F12_readStep_b21
  refine v_istore_n (lv' := [(3, .int s0), (0, .ref 0), (1, .int l1), (2, .int l2)]) d12_readStep_21 rfl (show 3 < 5 by decide) rfl ?_
  refine v_iload_n d12_readStep_22 3 rfl rfl ?_
  refine v_if_ge (tgt := 30) d12_readStep_23 (by decide) ?_ ?_
  · refine v_sub [1, 2, 3, 0] rfl ?_
    exact v12_readStep_b30 hdreadStep hd0 N r12_readStep hr12_readStep l1 l2 s0 σ
  · refine v_aload_n d12_readStep_26 1 rfl rfl ?_
    refine v_callV0v d12_readStep_27 (mc12_amiss σ) yv12_amiss mlX12_151 (Recv.obj ic_0 rfl) (Nat.le_trans (by decide) hd0) (Nat.le_of_ble_eq_true rfl) fun r29 t30 => ?_
    refine v_sub [1, 2, 3, 0] rfl ?_
    exact v12_readStep_b30 hdreadStep hd0 N r12_readStep hr12_readStep l1 l2 s0 t30
set_option maxRecDepth 100000 in
theorem v12_readStep_b16 {d dreadStep : Nat} (hdreadStep : dreadStep + 1 ≤ d) (hd0 : 7 ≤ d) (N : Nat) (r12_readStep : Int32 → Ms → Option (Unit × Ms)) (hr12_readStep : ∀ (p0 : Int32) (σ : Ms), MC enV yX12_readStep cX12_readStep 5 none dreadStep (r12_readStep p0 σ) σ [.ref 0, .int p0]) (l1 : Int32) (l2 : Int32) (σ : Ms) : VF (K12_readStep d) cX12_readStep RX12 (F12_readStep_b16 N r12_readStep l1 l2 σ) σ 16 [(0, .ref 0), (1, .int l1), (2, .int l2)] [] := by
  unfold F12_readStep_b16
  refine v_iconst d12_readStep_16 ki_1 ?_
  refine v_goto (tgt := 21) d12_readStep_17 (by decide) ?_
  exact v12_readStep_b21 hdreadStep hd0 N r12_readStep hr12_readStep l1 l2 (1 : Int32) σ
set_option maxRecDepth 100000 in
theorem mc12_readStepB {d dreadStep : Nat} (hdreadStep : dreadStep + 1 ≤ d) (hd0 : 7 ≤ d)  (N : Nat) (r12_readStep : Int32 → Ms → Option (Unit × Ms)) (hr12_readStep : ∀ (p0 : Int32) (σ : Ms), MC enV yX12_readStep cX12_readStep 5 none dreadStep (r12_readStep p0 σ) σ [.ref 0, .int p0]) (p0 : Int32) (σ : Ms) : MC enV yX12_readStep cX12_readStep 5 none d (F12_readStepB N r12_readStep p0 σ) σ [.ref 0, .int p0] := by
  refine MC.v (by decide +kernel) (Nat.le_of_ble_eq_true rfl) ?_
  show VF (K12_readStep d) cX12_readStep RX12 (F12_readStepB N r12_readStep p0 σ) σ 0 [(0, .ref 0), (1, .int p0)] []
  unfold F12_readStepB
  refine v_aload_n d12_readStep_0 0 rfl rfl ?_
  refine v_callV0i d12_readStep_1 (mc12_stepWord σ) yv12_stepWord mlX12_248 (Recv.obj ic_0 rfl) (Nat.le_trans (by decide) hd0) (Nat.le_of_ble_eq_true rfl) fun r31 t32 => ?_
  refine v_istore_n (lv' := [(2, .int r31), (0, .ref 0), (1, .int p0)]) d12_readStep_4 rfl (show 2 < 5 by decide) rfl ?_
  refine v_iload_n d12_readStep_5 0 rfl rfl ?_
  refine v_iconst d12_readStep_6 ki_5 ?_
  refine v_icmp_eq (tgt := 16) d12_readStep_7 (by decide) ?_ ?_
  · refine v_sub [1, 2, 0] rfl ?_
    exact v12_readStep_b16 hdreadStep hd0 N r12_readStep hr12_readStep p0 r31 t32
  · refine v_iload_n d12_readStep_10 0 rfl rfl ?_
    refine v_bipush d12_readStep_11 kb_6 ?_
    refine v_icmp_ne (tgt := 20) d12_readStep_13 (by decide) ?_ ?_
    · refine v_iconst d12_readStep_20 ki_0 ?_
      refine v_sub [1, 2, 0] rfl ?_
      exact v12_readStep_b21 hdreadStep hd0 N r12_readStep hr12_readStep p0 r31 (0 : Int32) t32
    · refine v_sub [1, 2, 0] rfl ?_
      exact v12_readStep_b16 hdreadStep hd0 N r12_readStep hr12_readStep p0 r31 t32
noncomputable def F12_readStep (N : Nat) : Nat → Int32 → Ms → Option (Unit × Ms)
  | 0, _, _ => none
  | D + 1, p0, σ => F12_readStepB N (F12_readStep N D) p0 σ
theorem mc12_readStep (N : Nat) : ∀ (D : Nat) (p0 : Int32) (σ : Ms), MC enV yX12_readStep cX12_readStep 5 none (7 + D) (F12_readStep N D p0 σ) σ [.ref 0, .int p0]
  | 0, _, _ => MC_none
  | D + 1, p0, σ => mc12_readStepB (d := 7 + (D + 1)) (dreadStep := 7 + D) (Nat.le_refl _) (by omega) N (F12_readStep N D) (mc12_readStep N D) p0 σ
theorem d12_seasons_0 : decode cX12_seasons 0 = .ok (.aload_n 0, 1) := by decide +kernel
theorem d12_seasons_1 : decode cX12_seasons 1 = .ok (.iconst 0, 1) := by decide +kernel
theorem d12_seasons_2 : decode cX12_seasons 2 = .ok (.putfield 53, 3) := by decide +kernel
theorem d12_seasons_5 : decode cX12_seasons 5 = .ok (.aload_n 0, 1) := by decide +kernel
theorem d12_seasons_6 : decode cX12_seasons 6 = .ok (.iconst 0, 1) := by decide +kernel
theorem d12_seasons_7 : decode cX12_seasons 7 = .ok (.putfield 56, 3) := by decide +kernel
theorem d12_seasons_10 : decode cX12_seasons 10 = .ok (.aload_n 0, 1) := by decide +kernel
theorem d12_seasons_11 : decode cX12_seasons 11 = .ok (.iload_n 1, 1) := by decide +kernel
theorem d12_seasons_12 : decode cX12_seasons 12 = .ok (.sipush 300, 3) := by decide +kernel
theorem d12_seasons_15 : decode cX12_seasons 15 = .ok (.invokevirtual 224, 3) := by decide +kernel
theorem d12_seasons_18 : decode cX12_seasons 18 = .ok (.ifCond .ne 5, 3) := by decide +kernel
theorem d12_seasons_21 : decode cX12_seasons 21 = .ok (.iconst (-1), 1) := by decide +kernel
theorem d12_seasons_22 : decode cX12_seasons 22 = .ok (.ireturn, 1) := by decide +kernel
theorem d12_seasons_23 : decode cX12_seasons 23 = .ok (.aload_n 0, 1) := by decide +kernel
theorem d12_seasons_24 : decode cX12_seasons 24 = .ok (.iconst 0, 1) := by decide +kernel
theorem d12_seasons_25 : decode cX12_seasons 25 = .ok (.putfield 251, 3) := by decide +kernel
theorem d12_seasons_28 : decode cX12_seasons 28 = .ok (.aload_n 0, 1) := by decide +kernel
theorem d12_seasons_29 : decode cX12_seasons 29 = .ok (.getfield 138, 3) := by decide +kernel
theorem d12_seasons_32 : decode cX12_seasons 32 = .ok (.ifCond .ne 18, 3) := by decide +kernel
theorem d12_seasons_35 : decode cX12_seasons 35 = .ok (.aload_n 0, 1) := by decide +kernel
theorem d12_seasons_36 : decode cX12_seasons 36 = .ok (.getfield 108, 3) := by decide +kernel
theorem d12_seasons_39 : decode cX12_seasons 39 = .ok (.ifCond .eq 11, 3) := by decide +kernel
theorem d12_seasons_42 : decode cX12_seasons 42 = .ok (.aload_n 0, 1) := by decide +kernel
theorem d12_seasons_43 : decode cX12_seasons 43 = .ok (.iconst 0, 1) := by decide +kernel
theorem d12_seasons_44 : decode cX12_seasons 44 = .ok (.invokevirtual 260, 3) := by decide +kernel
theorem d12_seasons_47 : decode cX12_seasons 47 = .ok (.goto (-19), 3) := by decide +kernel
theorem d12_seasons_50 : decode cX12_seasons 50 = .ok (.aload_n 0, 1) := by decide +kernel
theorem d12_seasons_51 : decode cX12_seasons 51 = .ok (.invokevirtual 233, 3) := by decide +kernel
theorem d12_seasons_54 : decode cX12_seasons 54 = .ok (.ifCond .ne 5, 3) := by decide +kernel
theorem d12_seasons_57 : decode cX12_seasons 57 = .ok (.iconst (-1), 1) := by decide +kernel
theorem d12_seasons_58 : decode cX12_seasons 58 = .ok (.ireturn, 1) := by decide +kernel
theorem d12_seasons_59 : decode cX12_seasons 59 = .ok (.aload_n 0, 1) := by decide +kernel
theorem d12_seasons_60 : decode cX12_seasons 60 = .ok (.getfield 35, 3) := by decide +kernel
theorem d12_seasons_63 : decode cX12_seasons 63 = .ok (.bipush 84, 2) := by decide +kernel
theorem d12_seasons_65 : decode cX12_seasons 65 = .ok (.iconst 1, 1) := by decide +kernel
theorem d12_seasons_66 : decode cX12_seasons 66 = .ok (.iastore, 1) := by decide +kernel
theorem d12_seasons_67 : decode cX12_seasons 67 = .ok (.aload_n 0, 1) := by decide +kernel
theorem d12_seasons_68 : decode cX12_seasons 68 = .ok (.getfield 35, 3) := by decide +kernel
theorem d12_seasons_71 : decode cX12_seasons 71 = .ok (.bipush 85, 2) := by decide +kernel
theorem d12_seasons_73 : decode cX12_seasons 73 = .ok (.aload_n 0, 1) := by decide +kernel
theorem d12_seasons_74 : decode cX12_seasons 74 = .ok (.getfield 251, 3) := by decide +kernel
theorem d12_seasons_77 : decode cX12_seasons 77 = .ok (.iastore, 1) := by decide +kernel
theorem d12_seasons_78 : decode cX12_seasons 78 = .ok (.iconst 0, 1) := by decide +kernel
theorem d12_seasons_79 : decode cX12_seasons 79 = .ok (.istore_n 2, 1) := by decide +kernel
theorem d12_seasons_80 : decode cX12_seasons 80 = .ok (.iload_n 2, 1) := by decide +kernel
theorem d12_seasons_81 : decode cX12_seasons 81 = .ok (.bipush 9, 2) := by decide +kernel
theorem d12_seasons_83 : decode cX12_seasons 83 = .ok (.aload_n 0, 1) := by decide +kernel
theorem d12_seasons_84 : decode cX12_seasons 84 = .ok (.getfield 251, 3) := by decide +kernel
theorem d12_seasons_87 : decode cX12_seasons 87 = .ok (.imul, 1) := by decide +kernel
theorem d12_seasons_88 : decode cX12_seasons 88 = .ok (.if_icmp .ge 28, 3) := by decide +kernel
theorem d12_seasons_91 : decode cX12_seasons 91 = .ok (.aload_n 0, 1) := by decide +kernel
theorem d12_seasons_92 : decode cX12_seasons 92 = .ok (.getfield 35, 3) := by decide +kernel
theorem d12_seasons_95 : decode cX12_seasons 95 = .ok (.bipush 86, 2) := by decide +kernel
theorem d12_seasons_97 : decode cX12_seasons 97 = .ok (.iload_n 2, 1) := by decide +kernel
theorem d12_seasons_98 : decode cX12_seasons 98 = .ok (.iadd, 1) := by decide +kernel
theorem d12_seasons_99 : decode cX12_seasons 99 = .ok (.aload_n 0, 1) := by decide +kernel
theorem d12_seasons_100 : decode cX12_seasons 100 = .ok (.getfield 35, 3) := by decide +kernel
theorem d12_seasons_103 : decode cX12_seasons 103 = .ok (.sipush 1510, 3) := by decide +kernel
theorem d12_seasons_106 : decode cX12_seasons 106 = .ok (.iload_n 2, 1) := by decide +kernel
theorem d12_seasons_107 : decode cX12_seasons 107 = .ok (.iadd, 1) := by decide +kernel
theorem d12_seasons_108 : decode cX12_seasons 108 = .ok (.iaload, 1) := by decide +kernel
theorem d12_seasons_109 : decode cX12_seasons 109 = .ok (.iastore, 1) := by decide +kernel
theorem d12_seasons_110 : decode cX12_seasons 110 = .ok (.iinc 2 1, 3) := by decide +kernel
theorem d12_seasons_113 : decode cX12_seasons 113 = .ok (.goto (-33), 3) := by decide +kernel
theorem d12_seasons_116 : decode cX12_seasons 116 = .ok (.aload_n 0, 1) := by decide +kernel
theorem d12_seasons_117 : decode cX12_seasons 117 = .ok (.getfield 251, 3) := by decide +kernel
theorem d12_seasons_120 : decode cX12_seasons 120 = .ok (.ireturn, 1) := by decide +kernel
abbrev K12_seasons : CK Int32 := (enI, (some .int), 3, 13, none)
noncomputable def F12_seasons_b80B (N : Nat) (k80 : Int32 × Ms → Option (Int32 × Ms)) (l2 : Int32) (σ : Ms) : Option (Int32 × Ms) :=
  if ((9 : Int32) * (σ.1 0 22)) ≤ l2 then (some ((σ.1 0 22), σ))
  else (ck (ixb ((1510 : Int32) + l2) 1780) (ck (ixb ((86 : Int32) + l2) 1780) (lt (sI σ 5 ((86 : Int32) + l2).toNatClampNeg (σ.1 5 ((1510 : Int32) + l2).toNatClampNeg)) (fun t1 => k80 ((l2 + (1 : Int32)), t1)))))
noncomputable def F12_seasons_b80 (N : Nat) (l2 : Int32) (σ : Ms) : Option (Int32 × Ms) :=
  fx N (fun k x => F12_seasons_b80B N k x.1 x.2) (l2, σ)
noncomputable def F12_seasons_b50 (N : Nat) (σ : Ms) : Option (Int32 × Ms) :=
  bn (F12_isWell σ) (fun r2 t3 => if r2 ≠ 0 then (ck (ixb (84 : Int32) 1780) (lt (sI t3 5 (84 : Int32).toNatClampNeg (1 : Int32)) (fun t4 => ck (ixb (85 : Int32) 1780) (lt (sI t4 5 (85 : Int32).toNatClampNeg (t4.1 0 22)) (fun t5 => F12_seasons_b80 N (0 : Int32) t5)))))
  else (some ((-1 : Int32), t3)))
noncomputable def F12_seasons_b28B (N : Nat) (k28 : Ms → Option (Int32 × Ms)) (σ : Ms) : Option (Int32 × Ms) :=
  if (σ.1 0 12) ≠ 0 then (F12_seasons_b50 N σ)
  else (if (σ.1 0 14) = 0 then (F12_seasons_b50 N σ)
  else (bn (F12_readStep N 5 (0 : Int32) σ) (fun r6 t7 => k28 t7)))
noncomputable def F12_seasons_b28 (N : Nat) (σ : Ms) : Option (Int32 × Ms) :=
  fx N (fun k x => F12_seasons_b28B N k x) σ
noncomputable def F12_seasons (N : Nat) (p0 : Int32) (σ : Ms) : Option (Int32 × Ms) :=
  lt (sI σ 0 1 (0 : Int32)) (fun t8 => lt (sI t8 0 0 (0 : Int32)) (fun t9 => bn (F12_starts N p0 (300 : Int32) t9) (fun r10 t11 => if r10 ≠ 0 then (lt (sI t11 0 22 (0 : Int32)) (fun t12 => F12_seasons_b28 N t12))
  else (some ((-1 : Int32), t11)))))
set_option maxRecDepth 100000 in
theorem v12_seasons_b80B (N : Nat) (k80 : Int32 × Ms → Option (Int32 × Ms)) (hk80 : ∀ (l2 : Int32) (τ : Ms), VF (K12_seasons) cX12_seasons RX12 (k80 (l2, τ)) τ 80 [(0, .ref 0), (2, .int l2)] []) (l2 : Int32) (σ : Ms) : VF (K12_seasons) cX12_seasons RX12 (F12_seasons_b80B N k80 l2 σ) σ 80 [(0, .ref 0), (2, .int l2)] [] := by
  unfold F12_seasons_b80B
  refine v_iload_n d12_seasons_80 1 rfl rfl ?_
  refine v_bipush d12_seasons_81 kb_9 ?_
  refine v_aload_n d12_seasons_83 0 rfl rfl ?_
  refine v_getI d12_seasons_84 faX12_251 ic_0 ?_
  refine v_imul d12_seasons_87 ?_
  refine v_icmp_ge (tgt := 116) d12_seasons_88 (by decide) ?_ ?_
  · refine v_aload_n d12_seasons_116 0 rfl rfl ?_
    refine v_getI d12_seasons_117 faX12_251 ic_0 ?_
    exact v_iret d12_seasons_120 rfl rfl rfl
  · refine v_aload_n d12_seasons_91 0 rfl rfl ?_
    refine v_getR d12_seasons_92 faX12_35 ic_0 rfl ?_
    refine v_bipush d12_seasons_95 kb_86 ?_
    refine v_iload_n d12_seasons_97 1 rfl rfl ?_
    refine v_iadd d12_seasons_98 ?_
    refine v_aload_n d12_seasons_99 0 rfl rfl ?_
    refine v_getR d12_seasons_100 faX12_35 ic_0 rfl ?_
    refine v_sipush d12_seasons_103 ks_1510 ?_
    refine v_iload_n d12_seasons_106 1 rfl rfl ?_
    refine v_iadd d12_seasons_107 ?_
    refine v_iald d12_seasons_108 ic_5 ?_
    refine v_iast d12_seasons_109 ic_5 ?_
    refine v_lts fun t1 => ?_
    refine v_iinc (lv' := [(2, .int (l2 + (1 : Int32))), (0, .ref 0)]) d12_seasons_110 1 rfl (by rw [ki_1]) (by decide) rfl ?_
    refine v_goto (tgt := 80) d12_seasons_113 (by decide) ?_
    refine v_sub [1, 0] rfl ?_
    exact hk80 (l2 + (1 : Int32)) t1
theorem v12_seasons_b80 (N : Nat) (l2 : Int32) (σ : Ms) : VF (K12_seasons) cX12_seasons RX12 (F12_seasons_b80 N l2 σ) σ 80 [(0, .ref 0), (2, .int l2)] [] := v_fx (σo := fun x => x.2) (lo := fun x => [(0, .ref 0), (2, .int x.1)]) (fun k hk x => v12_seasons_b80B N k (fun l2 τ => hk (l2, τ)) x.1 x.2) N (l2, σ)
set_option maxRecDepth 100000 in
theorem v12_seasons_b50 (N : Nat) (σ : Ms) : VF (K12_seasons) cX12_seasons RX12 (F12_seasons_b50 N σ) σ 50 [(0, .ref 0)] [] := by
  unfold F12_seasons_b50
  refine v_aload_n d12_seasons_50 0 rfl rfl ?_
  refine v_callV0i d12_seasons_51 (mc12_isWell σ) yv12_isWell mlX12_233 (Recv.obj ic_0 rfl) (by decide) (Nat.le_of_ble_eq_true rfl) fun r2 t3 => ?_
  refine v_if_ne (tgt := 59) d12_seasons_54 (by decide) ?_ ?_
  · refine v_aload_n d12_seasons_59 0 rfl rfl ?_
    refine v_getR d12_seasons_60 faX12_35 ic_0 rfl ?_
    refine v_bipush d12_seasons_63 kb_84 ?_
    refine v_iconst d12_seasons_65 ki_1 ?_
    refine v_iast d12_seasons_66 ic_5 ?_
    refine v_lts fun t4 => ?_
    refine v_aload_n d12_seasons_67 0 rfl rfl ?_
    refine v_getR d12_seasons_68 faX12_35 ic_0 rfl ?_
    refine v_bipush d12_seasons_71 kb_85 ?_
    refine v_aload_n d12_seasons_73 0 rfl rfl ?_
    refine v_getI d12_seasons_74 faX12_251 ic_0 ?_
    refine v_iast d12_seasons_77 ic_5 ?_
    refine v_lts fun t5 => ?_
    refine v_iconst d12_seasons_78 ki_0 ?_
    refine v_istore_n (lv' := [(2, .int (0 : Int32)), (0, .ref 0)]) d12_seasons_79 rfl (by decide) rfl ?_
    refine v_sub [1, 0] rfl ?_
    exact v12_seasons_b80 N (0 : Int32) t5
  · refine v_iconst d12_seasons_57 ki_m1 ?_
    exact v_iret d12_seasons_58 rfl rfl rfl
set_option maxRecDepth 100000 in
theorem v12_seasons_b28B (N : Nat) (k28 : Ms → Option (Int32 × Ms)) (hk28 : ∀ (τ : Ms), VF (K12_seasons) cX12_seasons RX12 (k28 τ) τ 28 [(0, .ref 0)] []) (σ : Ms) : VF (K12_seasons) cX12_seasons RX12 (F12_seasons_b28B N k28 σ) σ 28 [(0, .ref 0)] [] := by
  unfold F12_seasons_b28B
  refine v_aload_n d12_seasons_28 0 rfl rfl ?_
  refine v_getI d12_seasons_29 faX12_138 ic_0 ?_
  refine v_if_ne (tgt := 50) d12_seasons_32 (by decide) ?_ ?_
  · exact v12_seasons_b50 N σ
  · refine v_aload_n d12_seasons_35 0 rfl rfl ?_
    refine v_getI d12_seasons_36 faX12_108 ic_0 ?_
    refine v_if_eq (tgt := 50) d12_seasons_39 (by decide) ?_ ?_
    · exact v12_seasons_b50 N σ
    · refine v_aload_n d12_seasons_42 0 rfl rfl ?_
      refine v_iconst d12_seasons_43 ki_0 ?_
      refine v_callV1v d12_seasons_44 (mc12_readStep N 5 (0 : Int32) σ) yv12_readStep mlX12_260 (Recv.obj ic_0 rfl) (by decide) (Nat.le_of_ble_eq_true rfl) fun r6 t7 => ?_
      refine v_goto (tgt := 28) d12_seasons_47 (by decide) ?_
      exact hk28 t7
theorem v12_seasons_b28 (N : Nat) (σ : Ms) : VF (K12_seasons) cX12_seasons RX12 (F12_seasons_b28 N σ) σ 28 [(0, .ref 0)] [] := v_fx (σo := fun x => x) (lo := fun x => [(0, .ref 0)]) (fun k hk x => v12_seasons_b28B N k (fun τ => hk τ) x) N σ
set_option maxRecDepth 100000 in
theorem mc12_seasons (N : Nat) (p0 : Int32) (σ : Ms) : MC enI yX12_seasons cX12_seasons 3 (some .int) 13 (F12_seasons N p0 σ) σ [.ref 0, .int p0] := by
  refine MC.i (by decide +kernel) (Nat.le_of_ble_eq_true rfl) ?_
  show VF (K12_seasons) cX12_seasons RX12 (F12_seasons N p0 σ) σ 0 [(0, .ref 0), (1, .int p0)] []
  unfold F12_seasons
  refine v_aload_n d12_seasons_0 0 rfl rfl ?_
  refine v_iconst d12_seasons_1 ki_0 ?_
  refine v_putI d12_seasons_2 faX12_53 fp9_1 ic_0 ?_
  refine v_lts fun t8 => ?_
  refine v_aload_n d12_seasons_5 0 rfl rfl ?_
  refine v_iconst d12_seasons_6 ki_0 ?_
  refine v_putI d12_seasons_7 faX12_56 fp9_0 ic_0 ?_
  refine v_lts fun t9 => ?_
  refine v_aload_n d12_seasons_10 0 rfl rfl ?_
  refine v_iload_n d12_seasons_11 1 rfl rfl ?_
  refine v_sipush d12_seasons_12 ks_300 ?_
  refine v_callV2i d12_seasons_15 (mc12_starts N p0 (300 : Int32) t9) yv12_starts mlX12_224 (Recv.obj ic_0 rfl) (by decide) (Nat.le_of_ble_eq_true rfl) fun r10 t11 => ?_
  refine v_if_ne (tgt := 23) d12_seasons_18 (by decide) ?_ ?_
  · refine v_aload_n d12_seasons_23 0 rfl rfl ?_
    refine v_iconst d12_seasons_24 ki_0 ?_
    refine v_putI d12_seasons_25 faX12_251 fp9_22 ic_0 ?_
    refine v_lts fun t12 => ?_
    refine v_sub [0] rfl ?_
    exact v12_seasons_b28 N t12
  · refine v_iconst d12_seasons_21 ki_m1 ?_
    exact v_iret d12_seasons_22 rfl rfl rfl
theorem d12_isSideAt_0 : decode cX12_isSideAt 0 = .ok (.iload_n 0, 1) := by decide +kernel
theorem d12_isSideAt_1 : decode cX12_isSideAt 1 = .ok (.ifCond .eq 8, 3) := by decide +kernel
theorem d12_isSideAt_4 : decode cX12_isSideAt 4 = .ok (.iload_n 0, 1) := by decide +kernel
theorem d12_isSideAt_5 : decode cX12_isSideAt 5 = .ok (.iconst 1, 1) := by decide +kernel
theorem d12_isSideAt_6 : decode cX12_isSideAt 6 = .ok (.if_icmp .ne 7, 3) := by decide +kernel
theorem d12_isSideAt_9 : decode cX12_isSideAt 9 = .ok (.iconst 1, 1) := by decide +kernel
theorem d12_isSideAt_10 : decode cX12_isSideAt 10 = .ok (.goto 4, 3) := by decide +kernel
theorem d12_isSideAt_13 : decode cX12_isSideAt 13 = .ok (.iconst 0, 1) := by decide +kernel
theorem d12_isSideAt_14 : decode cX12_isSideAt 14 = .ok (.ireturn, 1) := by decide +kernel
abbrev K12_isSideAt : CK Int32 := (enI, (some .boolean), 1, 1, none)
noncomputable def F12_isSideAt_b9 (σ : Ms) : Option (Int32 × Ms) :=
  some ((1 : Int32), σ)
noncomputable def F12_isSideAt (p0 : Int32) (σ : Ms) : Option (Int32 × Ms) :=
  if p0 = 0 then (F12_isSideAt_b9 σ)
  else (if p0 ≠ (1 : Int32) then (some ((0 : Int32), σ))
  else (F12_isSideAt_b9 σ))
set_option maxRecDepth 100000 in
theorem v12_isSideAt_b9 (σ : Ms) : VF (K12_isSideAt) cX12_isSideAt RX12 (F12_isSideAt_b9 σ) σ 9 [] [] := by
  unfold F12_isSideAt_b9
  refine v_iconst d12_isSideAt_9 ki_1 ?_
  refine v_goto (tgt := 14) d12_isSideAt_10 (by decide) ?_
  exact v_iret (ty := .boolean) d12_isSideAt_14 rfl rfl rfl
set_option maxRecDepth 100000 in
theorem mc12_isSideAt (p0 : Int32) (σ : Ms) : MC enI yX12_isSideAt cX12_isSideAt 1 (some .boolean) 1 (F12_isSideAt p0 σ) σ [.int p0] := by
  refine MC.i (by decide +kernel) (Nat.le_of_ble_eq_true rfl) ?_
  show VF (K12_isSideAt) cX12_isSideAt RX12 (F12_isSideAt p0 σ) σ 0 [(0, .int p0)] []
  unfold F12_isSideAt
  refine v_iload_n d12_isSideAt_0 0 rfl rfl ?_
  refine v_if_eq (tgt := 9) d12_isSideAt_1 (by decide) ?_ ?_
  · refine v_sub [] rfl ?_
    exact v12_isSideAt_b9 σ
  · refine v_iload_n d12_isSideAt_4 0 rfl rfl ?_
    refine v_iconst d12_isSideAt_5 ki_1 ?_
    refine v_icmp_ne (tgt := 13) d12_isSideAt_6 (by decide) ?_ ?_
    · refine v_iconst d12_isSideAt_13 ki_0 ?_
      exact v_iret (ty := .boolean) d12_isSideAt_14 rfl rfl rfl
    · refine v_sub [] rfl ?_
      exact v12_isSideAt_b9 σ
theorem d12_isSprigAt_0 : decode cX12_isSprigAt 0 = .ok (.iload_n 1, 1) := by decide +kernel
theorem d12_isSprigAt_1 : decode cX12_isSprigAt 1 = .ok (.i2l, 1) := by decide +kernel
theorem d12_isSprigAt_2 : decode cX12_isSprigAt 2 = .ok (.lconst 0, 1) := by decide +kernel
theorem d12_isSprigAt_3 : decode cX12_isSprigAt 3 = .ok (.aload_n 0, 1) := by decide +kernel
theorem d12_isSprigAt_4 : decode cX12_isSprigAt 4 = .ok (.getfield 35, 3) := by decide +kernel
theorem d12_isSprigAt_7 : decode cX12_isSprigAt 7 = .ok (.iconst 0, 1) := by decide +kernel
theorem d12_isSprigAt_8 : decode cX12_isSprigAt 8 = .ok (.iaload, 1) := by decide +kernel
theorem d12_isSprigAt_9 : decode cX12_isSprigAt 9 = .ok (.iconst 1, 1) := by decide +kernel
theorem d12_isSprigAt_10 : decode cX12_isSprigAt 10 = .ok (.isub, 1) := by decide +kernel
theorem d12_isSprigAt_11 : decode cX12_isSprigAt 11 = .ok (.i2l, 1) := by decide +kernel
theorem d12_isSprigAt_12 : decode cX12_isSprigAt 12 = .ok (.invokestatic 88, 3) := by decide +kernel
theorem d12_isSprigAt_15 : decode cX12_isSprigAt 15 = .ok (.ireturn, 1) := by decide +kernel
abbrev K12_isSprigAt : CK Int32 := (enI, (some .boolean), 2, 2, none)
noncomputable def F12_isSprigAt (p0 : Int32) (σ : Ms) : Option (Int32 × Ms) :=
  ck (ixb (0 : Int32) 1780) (bn (F12_isIn (p0.toInt64) (0 : Int64) (((σ.1 5 (0 : Int32).toNatClampNeg) - (1 : Int32)).toInt64) σ) (fun r1 t2 => ck (nkB r1) (some (r1, t2))))
set_option maxRecDepth 100000 in
theorem mc12_isSprigAt (p0 : Int32) (σ : Ms) : MC enI yX12_isSprigAt cX12_isSprigAt 2 (some .boolean) 2 (F12_isSprigAt p0 σ) σ [.ref 0, .int p0] := by
  refine MC.i (by decide +kernel) (Nat.le_of_ble_eq_true rfl) ?_
  show VF (K12_isSprigAt) cX12_isSprigAt RX12 (F12_isSprigAt p0 σ) σ 0 [(0, .ref 0), (1, .int p0)] []
  unfold F12_isSprigAt
  refine v_iload_n d12_isSprigAt_0 1 rfl rfl ?_
  refine v_i2l d12_isSprigAt_1 ?_
  refine v_lconst d12_isSprigAt_2 kl_0 ?_
  refine v_aload_n d12_isSprigAt_3 0 rfl rfl ?_
  refine v_getR d12_isSprigAt_4 faX12_35 ic_0 rfl ?_
  refine v_iconst d12_isSprigAt_7 ki_0 ?_
  refine v_iald d12_isSprigAt_8 ic_5 ?_
  refine v_iconst d12_isSprigAt_9 ki_1 ?_
  refine v_isub d12_isSprigAt_10 ?_
  refine v_i2l d12_isSprigAt_11 ?_
  refine v_callS3i d12_isSprigAt_12 (mc12_isIn (p0.toInt64) (0 : Int64) (((σ.1 5 (0 : Int32).toNatClampNeg) - (1 : Int32)).toInt64) σ) ys12_isIn mlX12_88 (by decide) (Nat.le_of_ble_eq_true rfl) fun r1 t2 => ?_
  exact v_iretB d12_isSprigAt_15 rfl rfl
