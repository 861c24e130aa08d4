theorem d12_laysWays_0 : decode cX12_laysWays 0 = .ok (.aload_n 0, 1) := by decide +kernel
theorem d12_laysWays_1 : decode cX12_laysWays 1 = .ok (.iconst 0, 1) := by decide +kernel
theorem d12_laysWays_2 : decode cX12_laysWays 2 = .ok (.putfield 426, 3) := by decide +kernel
theorem d12_laysWays_5 : decode cX12_laysWays 5 = .ok (.aload_n 0, 1) := by decide +kernel
theorem d12_laysWays_6 : decode cX12_laysWays 6 = .ok (.iconst (-1), 1) := by decide +kernel
theorem d12_laysWays_7 : decode cX12_laysWays 7 = .ok (.putfield 429, 3) := by decide +kernel
theorem d12_laysWays_10 : decode cX12_laysWays 10 = .ok (.iconst 0, 1) := by decide +kernel
theorem d12_laysWays_11 : decode cX12_laysWays 11 = .ok (.istore 4, 2) := by decide +kernel
theorem d12_laysWays_13 : decode cX12_laysWays 13 = .ok (.iload 4, 2) := by decide +kernel
theorem d12_laysWays_15 : decode cX12_laysWays 15 = .ok (.bipush 20, 2) := by decide +kernel
theorem d12_laysWays_17 : decode cX12_laysWays 17 = .ok (.if_icmp .ge 17, 3) := by decide +kernel
theorem d12_laysWays_20 : decode cX12_laysWays 20 = .ok (.aload_n 0, 1) := by decide +kernel
theorem d12_laysWays_21 : decode cX12_laysWays 21 = .ok (.getfield 47, 3) := by decide +kernel
theorem d12_laysWays_24 : decode cX12_laysWays 24 = .ok (.iload 4, 2) := by decide +kernel
theorem d12_laysWays_26 : decode cX12_laysWays 26 = .ok (.iconst 0, 1) := by decide +kernel
theorem d12_laysWays_27 : decode cX12_laysWays 27 = .ok (.iastore, 1) := by decide +kernel
theorem d12_laysWays_28 : decode cX12_laysWays 28 = .ok (.iinc 4 1, 3) := by decide +kernel
theorem d12_laysWays_31 : decode cX12_laysWays 31 = .ok (.goto (-18), 3) := by decide +kernel
theorem d12_laysWays_34 : decode cX12_laysWays 34 = .ok (.iconst 0, 1) := by decide +kernel
theorem d12_laysWays_35 : decode cX12_laysWays 35 = .ok (.istore 4, 2) := by decide +kernel
theorem d12_laysWays_37 : decode cX12_laysWays 37 = .ok (.iconst 0, 1) := by decide +kernel
theorem d12_laysWays_38 : decode cX12_laysWays 38 = .ok (.istore 5, 2) := by decide +kernel
theorem d12_laysWays_40 : decode cX12_laysWays 40 = .ok (.iload 5, 2) := by decide +kernel
theorem d12_laysWays_42 : decode cX12_laysWays 42 = .ok (.iconst 1, 1) := by decide +kernel
theorem d12_laysWays_43 : decode cX12_laysWays 43 = .ok (.iload_n 1, 1) := by decide +kernel
theorem d12_laysWays_44 : decode cX12_laysWays 44 = .ok (.invokestatic 277, 3) := by decide +kernel
theorem d12_laysWays_47 : decode cX12_laysWays 47 = .ok (.ishl, 1) := by decide +kernel
theorem d12_laysWays_48 : decode cX12_laysWays 48 = .ok (.if_icmp .ge 114, 3) := by decide +kernel
theorem d12_laysWays_51 : decode cX12_laysWays 51 = .ok (.aload_n 0, 1) := by decide +kernel
theorem d12_laysWays_52 : decode cX12_laysWays 52 = .ok (.aload_n 0, 1) := by decide +kernel
theorem d12_laysWays_53 : decode cX12_laysWays 53 = .ok (.invokevirtual 268, 3) := by decide +kernel
theorem d12_laysWays_56 : decode cX12_laysWays 56 = .ok (.iload_n 1, 1) := by decide +kernel
theorem d12_laysWays_57 : decode cX12_laysWays 57 = .ok (.iload 4, 2) := by decide +kernel
theorem d12_laysWays_59 : decode cX12_laysWays 59 = .ok (.invokevirtual 321, 3) := by decide +kernel
theorem d12_laysWays_62 : decode cX12_laysWays 62 = .ok (.aload_n 0, 1) := by decide +kernel
theorem d12_laysWays_63 : decode cX12_laysWays 63 = .ok (.getfield 312, 3) := by decide +kernel
theorem d12_laysWays_66 : decode cX12_laysWays 66 = .ok (.lload_n 2, 1) := by decide +kernel
theorem d12_laysWays_67 : decode cX12_laysWays 67 = .ok (.lcmp, 1) := by decide +kernel
theorem d12_laysWays_68 : decode cX12_laysWays 68 = .ok (.ifCond .ne 80, 3) := by decide +kernel
theorem d12_laysWays_71 : decode cX12_laysWays 71 = .ok (.aload_n 0, 1) := by decide +kernel
theorem d12_laysWays_72 : decode cX12_laysWays 72 = .ok (.getfield 426, 3) := by decide +kernel
theorem d12_laysWays_75 : decode cX12_laysWays 75 = .ok (.ifCond .ne 9, 3) := by decide +kernel
theorem d12_laysWays_78 : decode cX12_laysWays 78 = .ok (.aload_n 0, 1) := by decide +kernel
theorem d12_laysWays_79 : decode cX12_laysWays 79 = .ok (.iload 4, 2) := by decide +kernel
theorem d12_laysWays_81 : decode cX12_laysWays 81 = .ok (.putfield 429, 3) := by decide +kernel
theorem d12_laysWays_84 : decode cX12_laysWays 84 = .ok (.aload_n 0, 1) := by decide +kernel
theorem d12_laysWays_85 : decode cX12_laysWays 85 = .ok (.dup, 1) := by decide +kernel
theorem d12_laysWays_86 : decode cX12_laysWays 86 = .ok (.getfield 426, 3) := by decide +kernel
theorem d12_laysWays_89 : decode cX12_laysWays 89 = .ok (.iconst 1, 1) := by decide +kernel
theorem d12_laysWays_90 : decode cX12_laysWays 90 = .ok (.iadd, 1) := by decide +kernel
theorem d12_laysWays_91 : decode cX12_laysWays 91 = .ok (.putfield 426, 3) := by decide +kernel
theorem d12_laysWays_94 : decode cX12_laysWays 94 = .ok (.iconst 0, 1) := by decide +kernel
theorem d12_laysWays_95 : decode cX12_laysWays 95 = .ok (.istore 6, 2) := by decide +kernel
theorem d12_laysWays_97 : decode cX12_laysWays 97 = .ok (.iload 6, 2) := by decide +kernel
theorem d12_laysWays_99 : decode cX12_laysWays 99 = .ok (.aload_n 0, 1) := by decide +kernel
theorem d12_laysWays_100 : decode cX12_laysWays 100 = .ok (.getfield 35, 3) := by decide +kernel
theorem d12_laysWays_103 : decode cX12_laysWays 103 = .ok (.iconst 0, 1) := by decide +kernel
theorem d12_laysWays_104 : decode cX12_laysWays 104 = .ok (.iaload, 1) := by decide +kernel
theorem d12_laysWays_105 : decode cX12_laysWays 105 = .ok (.if_icmp .ge 43, 3) := by decide +kernel
theorem d12_laysWays_108 : decode cX12_laysWays 108 = .ok (.aload_n 0, 1) := by decide +kernel
theorem d12_laysWays_109 : decode cX12_laysWays 109 = .ok (.getfield 47, 3) := by decide +kernel
theorem d12_laysWays_112 : decode cX12_laysWays 112 = .ok (.iload 6, 2) := by decide +kernel
theorem d12_laysWays_114 : decode cX12_laysWays 114 = .ok (.dup2, 1) := by decide +kernel
theorem d12_laysWays_115 : decode cX12_laysWays 115 = .ok (.iaload, 1) := by decide +kernel
theorem d12_laysWays_116 : decode cX12_laysWays 116 = .ok (.iload_n 1, 1) := by decide +kernel
theorem d12_laysWays_117 : decode cX12_laysWays 117 = .ok (.iload 6, 2) := by decide +kernel
theorem d12_laysWays_119 : decode cX12_laysWays 119 = .ok (.invokestatic 92, 3) := by decide +kernel
theorem d12_laysWays_122 : decode cX12_laysWays 122 = .ok (.ifCond .eq 17, 3) := by decide +kernel
theorem d12_laysWays_125 : decode cX12_laysWays 125 = .ok (.iload 4, 2) := by decide +kernel
theorem d12_laysWays_127 : decode cX12_laysWays 127 = .ok (.iload 6, 2) := by decide +kernel
theorem d12_laysWays_129 : decode cX12_laysWays 129 = .ok (.invokestatic 92, 3) := by decide +kernel
theorem d12_laysWays_132 : decode cX12_laysWays 132 = .ok (.ifCond .ne 7, 3) := by decide +kernel
theorem d12_laysWays_135 : decode cX12_laysWays 135 = .ok (.iconst 1, 1) := by decide +kernel
theorem d12_laysWays_136 : decode cX12_laysWays 136 = .ok (.goto 4, 3) := by decide +kernel
theorem d12_laysWays_139 : decode cX12_laysWays 139 = .ok (.iconst 0, 1) := by decide +kernel
theorem d12_laysWays_140 : decode cX12_laysWays 140 = .ok (.iadd, 1) := by decide +kernel
theorem d12_laysWays_141 : decode cX12_laysWays 141 = .ok (.iastore, 1) := by decide +kernel
theorem d12_laysWays_142 : decode cX12_laysWays 142 = .ok (.iinc 6 1, 3) := by decide +kernel
theorem d12_laysWays_145 : decode cX12_laysWays 145 = .ok (.goto (-48), 3) := by decide +kernel
theorem d12_laysWays_148 : decode cX12_laysWays 148 = .ok (.iload 4, 2) := by decide +kernel
theorem d12_laysWays_150 : decode cX12_laysWays 150 = .ok (.iload_n 1, 1) := by decide +kernel
theorem d12_laysWays_151 : decode cX12_laysWays 151 = .ok (.isub, 1) := by decide +kernel
theorem d12_laysWays_152 : decode cX12_laysWays 152 = .ok (.iload_n 1, 1) := by decide +kernel
theorem d12_laysWays_153 : decode cX12_laysWays 153 = .ok (.iand, 1) := by decide +kernel
theorem d12_laysWays_154 : decode cX12_laysWays 154 = .ok (.istore 4, 2) := by decide +kernel
theorem d12_laysWays_156 : decode cX12_laysWays 156 = .ok (.iinc 5 1, 3) := by decide +kernel
theorem d12_laysWays_159 : decode cX12_laysWays 159 = .ok (.goto (-119), 3) := by decide +kernel
theorem d12_laysWays_162 : decode cX12_laysWays 162 = .ok (.return_, 1) := by decide +kernel
abbrev K12_laysWays : CK Unit := (enV, none, 7, 4, none)
noncomputable def F12_laysWays_b148 (N : Nat) (k40 : Int32 × Int64 × Int32 × Int32 × Ms → Option (Unit × Ms)) (l1 : Int32) (l2 : Int64) (l4 : Int32) (l5 : Int32) (σ : Ms) : Option (Unit × Ms) :=
  lt ((l4 - l1) &&& l1) (fun x1 => k40 (l1, l2, x1, (l5 + (1 : Int32)), σ))
noncomputable def F12_laysWays_b140 (N : Nat) (k40 : Int32 × Int64 × Int32 × Int32 × Ms → Option (Unit × Ms)) (k97 : Int32 × Int64 × Int32 × Int32 × Int32 × Ms → Option (Unit × Ms)) (l1 : Int32) (l2 : Int64) (l4 : Int32) (l5 : Int32) (l6 : Int32) (s1 : Int32) (s2 : Int32) (s3 : Int32) (σ : Ms) : Option (Unit × Ms) :=
  ck (ixb s1 20) (lt (sI σ 9 s1.toNatClampNeg (s2 + s3)) (fun t2 => k97 (l1, l2, l4, l5, (l6 + (1 : Int32)), t2)))
noncomputable def F12_laysWays_b139 (N : Nat) (k40 : Int32 × Int64 × Int32 × Int32 × Ms → Option (Unit × Ms)) (k97 : Int32 × Int64 × Int32 × Int32 × Int32 × Ms → Option (Unit × Ms)) (l1 : Int32) (l2 : Int64) (l4 : Int32) (l5 : Int32) (l6 : Int32) (s1 : Int32) (s2 : Int32) (σ : Ms) : Option (Unit × Ms) :=
  F12_laysWays_b140 N k40 k97 l1 l2 l4 l5 l6 s1 s2 (0 : Int32) σ
noncomputable def F12_laysWays_b97B (N : Nat) (k40 : Int32 × Int64 × Int32 × Int32 × Ms → Option (Unit × Ms)) (k97 : Int32 × Int64 × Int32 × Int32 × Int32 × Ms → Option (Unit × Ms)) (l1 : Int32) (l2 : Int64) (l4 : Int32) (l5 : Int32) (l6 : Int32) (σ : Ms) : Option (Unit × Ms) :=
  ck (ixb (0 : Int32) 1780) (if (σ.1 5 (0 : Int32).toNatClampNeg) ≤ l6 then (F12_laysWays_b148 N k40 l1 l2 l4 l5 σ)
  else (ck (ixb l6 20) (bn (F12_has l1 l6 σ) (fun r3 t4 => if r3 = 0 then (F12_laysWays_b139 N k40 k97 l1 l2 l4 l5 l6 l6 (σ.1 9 l6.toNatClampNeg) t4)
  else (bn (F12_has l4 l6 t4) (fun r5 t6 => if r5 ≠ 0 then (F12_laysWays_b139 N k40 k97 l1 l2 l4 l5 l6 l6 (σ.1 9 l6.toNatClampNeg) t6)
  else (F12_laysWays_b140 N k40 k97 l1 l2 l4 l5 l6 l6 (σ.1 9 l6.toNatClampNeg) (1 : Int32) t6)))))))
noncomputable def F12_laysWays_b97 (N : Nat) (k40 : Int32 × Int64 × Int32 × Int32 × Ms → Option (Unit × Ms)) (l1 : Int32) (l2 : Int64) (l4 : Int32) (l5 : Int32) (l6 : Int32) (σ : Ms) : Option (Unit × Ms) :=
  fx N (fun k x => F12_laysWays_b97B N k40 k x.1 x.2.1 x.2.2.1 x.2.2.2.1 x.2.2.2.2.1 x.2.2.2.2.2) (l1, l2, l4, l5, l6, σ)
noncomputable def F12_laysWays_b84 (N : Nat) (k40 : Int32 × Int64 × Int32 × Int32 × Ms → Option (Unit × Ms)) (l1 : Int32) (l2 : Int64) (l4 : Int32) (l5 : Int32) (σ : Ms) : Option (Unit × Ms) :=
  lt (sI σ 0 33 ((σ.1 0 33) + (1 : Int32))) (fun t7 => F12_laysWays_b97 N k40 l1 l2 l4 l5 (0 : Int32) t7)
noncomputable def F12_laysWays_b40B (N : Nat) (k40 : Int32 × Int64 × Int32 × Int32 × Ms → Option (Unit × Ms)) (l1 : Int32) (l2 : Int64) (l4 : Int32) (l5 : Int32) (σ : Ms) : Option (Unit × Ms) :=
  bn (F12_sizeOf N l1 σ) (fun r8 t9 => if ((1 : Int32) <<< (r8 &&& 31)) ≤ l5 then (some ((), t9))
  else (bn (F12_standing N t9) (fun r10 t11 => bn (F12_laysWorths N r10 l1 l4 t11) (fun r12 t13 => if (lg_cmp (t13.2 0 25) l2) ≠ 0 then (F12_laysWays_b148 N k40 l1 l2 l4 l5 t13)
  else (if (t13.1 0 33) ≠ 0 then (F12_laysWays_b84 N k40 l1 l2 l4 l5 t13)
  else (lt (sI t13 0 34 l4) (fun t14 => F12_laysWays_b84 N k40 l1 l2 l4 l5 t14)))))))
noncomputable def F12_laysWays_b40 (N : Nat) (l1 : Int32) (l2 : Int64) (l4 : Int32) (l5 : Int32) (σ : Ms) : Option (Unit × Ms) :=
  fx N (fun k x => F12_laysWays_b40B N k x.1 x.2.1 x.2.2.1 x.2.2.2.1 x.2.2.2.2) (l1, l2, l4, l5, σ)
noncomputable def F12_laysWays_b13B (N : Nat) (k13 : Int32 × Int64 × Int32 × Ms → Option (Unit × Ms)) (l1 : Int32) (l2 : Int64) (l4 : Int32) (σ : Ms) : Option (Unit × Ms) :=
  if (20 : Int32) ≤ l4 then (F12_laysWays_b40 N l1 l2 (0 : Int32) (0 : Int32) σ)
  else (ck (ixb l4 20) (lt (sI σ 9 l4.toNatClampNeg (0 : Int32)) (fun t15 => k13 (l1, l2, (l4 + (1 : Int32)), t15))))
noncomputable def F12_laysWays_b13 (N : Nat) (l1 : Int32) (l2 : Int64) (l4 : Int32) (σ : Ms) : Option (Unit × Ms) :=
  fx N (fun k x => F12_laysWays_b13B N k x.1 x.2.1 x.2.2.1 x.2.2.2) (l1, l2, l4, σ)
noncomputable def F12_laysWays (N : Nat) (p0 : Int32) (p1 : Int64) (σ : Ms) : Option (Unit × Ms) :=
  lt (sI σ 0 33 (0 : Int32)) (fun t16 => lt (sI t16 0 34 (-1 : Int32)) (fun t17 => F12_laysWays_b13 N p0 p1 (0 : Int32) t17))
set_option maxRecDepth 100000 in
theorem v12_laysWays_b148 (N : Nat) (k40 : Int32 × Int64 × Int32 × Int32 × Ms → Option (Unit × Ms)) (hk40 : ∀ (l1 : Int32) (l2 : Int64) (l4 : Int32) (l5 : Int32) (τ : Ms), VF (K12_laysWays) cX12_laysWays RX12 (k40 (l1, l2, l4, l5, τ)) τ 40 [(0, .ref 0), (1, .int l1), (2, .long l2), (4, .int l4), (5, .int l5)] []) (l1 : Int32) (l2 : Int64) (l4 : Int32) (l5 : Int32) (σ : Ms) : VF (K12_laysWays) cX12_laysWays RX12 (F12_laysWays_b148 N k40 l1 l2 l4 l5 σ) σ 148 [(0, .ref 0), (1, .int l1), (2, .long l2), (4, .int l4), (5, .int l5)] [] := by
  unfold F12_laysWays_b148
  refine v_iload d12_laysWays_148 3 rfl ?_
  refine v_iload_n d12_laysWays_150 1 rfl rfl ?_
  refine v_isub d12_laysWays_151 ?_
  refine v_iload_n d12_laysWays_152 1 rfl rfl ?_
  refine v_iand d12_laysWays_153 ?_
  refine v_lti fun x1 => ?_
  refine v_istore (lv' := [(4, .int x1), (0, .ref 0), (1, .int l1), (2, .long l2), (5, .int l5)]) d12_laysWays_154 (by decide) rfl ?_
  refine v_iinc (lv' := [(5, .int (l5 + (1 : Int32))), (4, .int x1), (0, .ref 0), (1, .int l1), (2, .long l2)]) d12_laysWays_156 4 rfl (by rw [ki_1]) (by decide) rfl ?_
  refine v_goto (tgt := 40) d12_laysWays_159 (by decide) ?_
  refine v_sub [2, 3, 4, 1, 0] rfl ?_
  exact hk40 l1 l2 x1 (l5 + (1 : Int32)) σ
set_option maxRecDepth 100000 in
theorem v12_laysWays_b140 (N : Nat) (k40 : Int32 × Int64 × Int32 × Int32 × Ms → Option (Unit × Ms)) (hk40 : ∀ (l1 : Int32) (l2 : Int64) (l4 : Int32) (l5 : Int32) (τ : Ms), VF (K12_laysWays) cX12_laysWays RX12 (k40 (l1, l2, l4, l5, τ)) τ 40 [(0, .ref 0), (1, .int l1), (2, .long l2), (4, .int l4), (5, .int l5)] []) (k97 : Int32 × Int64 × Int32 × Int32 × Int32 × Ms → Option (Unit × Ms)) (hk97 : ∀ (l1 : Int32) (l2 : Int64) (l4 : Int32) (l5 : Int32) (l6 : Int32) (τ : Ms), VF (K12_laysWays) cX12_laysWays RX12 (k97 (l1, l2, l4, l5, l6, τ)) τ 97 [(0, .ref 0), (1, .int l1), (2, .long l2), (4, .int l4), (5, .int l5), (6, .int l6)] []) (l1 : Int32) (l2 : Int64) (l4 : Int32) (l5 : Int32) (l6 : Int32) (s1 : Int32) (s2 : Int32) (s3 : Int32) (σ : Ms) : VF (K12_laysWays) cX12_laysWays RX12 (F12_laysWays_b140 N k40 k97 l1 l2 l4 l5 l6 s1 s2 s3 σ) σ 140 [(0, .ref 0), (1, .int l1), (2, .long l2), (4, .int l4), (5, .int l5), (6, .int l6)] [.int s3, .int s2, .int s1, .ref 9] := by
  unfold F12_laysWays_b140
  refine v_iadd d12_laysWays_140 ?_
  refine v_iast d12_laysWays_141 ic_9 ?_
  refine v_lts fun t2 => ?_
  refine v_iinc (lv' := [(6, .int (l6 + (1 : Int32))), (0, .ref 0), (1, .int l1), (2, .long l2), (4, .int l4), (5, .int l5)]) d12_laysWays_142 5 rfl (by rw [ki_1]) (by decide) rfl ?_
  refine v_goto (tgt := 97) d12_laysWays_145 (by decide) ?_
  refine v_sub [1, 2, 3, 4, 5, 0] rfl ?_
  exact hk97 l1 l2 l4 l5 (l6 + (1 : Int32)) t2
set_option maxRecDepth 100000 in
theorem v12_laysWays_b139 (N : Nat) (k40 : Int32 × Int64 × Int32 × Int32 × Ms → Option (Unit × Ms)) (hk40 : ∀ (l1 : Int32) (l2 : Int64) (l4 : Int32) (l5 : Int32) (τ : Ms), VF (K12_laysWays) cX12_laysWays RX12 (k40 (l1, l2, l4, l5, τ)) τ 40 [(0, .ref 0), (1, .int l1), (2, .long l2), (4, .int l4), (5, .int l5)] []) (k97 : Int32 × Int64 × Int32 × Int32 × Int32 × Ms → Option (Unit × Ms)) (hk97 : ∀ (l1 : Int32) (l2 : Int64) (l4 : Int32) (l5 : Int32) (l6 : Int32) (τ : Ms), VF (K12_laysWays) cX12_laysWays RX12 (k97 (l1, l2, l4, l5, l6, τ)) τ 97 [(0, .ref 0), (1, .int l1), (2, .long l2), (4, .int l4), (5, .int l5), (6, .int l6)] []) (l1 : Int32) (l2 : Int64) (l4 : Int32) (l5 : Int32) (l6 : Int32) (s1 : Int32) (s2 : Int32) (σ : Ms) : VF (K12_laysWays) cX12_laysWays RX12 (F12_laysWays_b139 N k40 k97 l1 l2 l4 l5 l6 s1 s2 σ) σ 139 [(0, .ref 0), (1, .int l1), (2, .long l2), (4, .int l4), (5, .int l5), (6, .int l6)] [.int s2, .int s1, .ref 9] := by
  unfold F12_laysWays_b139
  refine v_iconst d12_laysWays_139 ki_0 ?_
  exact v12_laysWays_b140 N k40 hk40 k97 hk97 l1 l2 l4 l5 l6 s1 s2 (0 : Int32) σ
set_option maxRecDepth 100000 in
theorem v12_laysWays_b97B (N : Nat) (k40 : Int32 × Int64 × Int32 × Int32 × Ms → Option (Unit × Ms)) (hk40 : ∀ (l1 : Int32) (l2 : Int64) (l4 : Int32) (l5 : Int32) (τ : Ms), VF (K12_laysWays) cX12_laysWays RX12 (k40 (l1, l2, l4, l5, τ)) τ 40 [(0, .ref 0), (1, .int l1), (2, .long l2), (4, .int l4), (5, .int l5)] []) (k97 : Int32 × Int64 × Int32 × Int32 × Int32 × Ms → Option (Unit × Ms)) (hk97 : ∀ (l1 : Int32) (l2 : Int64) (l4 : Int32) (l5 : Int32) (l6 : Int32) (τ : Ms), VF (K12_laysWays) cX12_laysWays RX12 (k97 (l1, l2, l4, l5, l6, τ)) τ 97 [(0, .ref 0), (1, .int l1), (2, .long l2), (4, .int l4), (5, .int l5), (6, .int l6)] []) (l1 : Int32) (l2 : Int64) (l4 : Int32) (l5 : Int32) (l6 : Int32) (σ : Ms) : VF (K12_laysWays) cX12_laysWays RX12 (F12_laysWays_b97B N k40 k97 l1 l2 l4 l5 l6 σ) σ 97 [(0, .ref 0), (1, .int l1), (2, .long l2), (4, .int l4), (5, .int l5), (6, .int l6)] [] := by
  unfold F12_laysWays_b97B
  refine v_iload d12_laysWays_97 5 rfl ?_
  refine v_aload_n d12_laysWays_99 0 rfl rfl ?_
  refine v_getR d12_laysWays_100 faX12_35 ic_0 rfl ?_
  refine v_iconst d12_laysWays_103 ki_0 ?_
  refine v_iald d12_laysWays_104 ic_5 ?_
  refine v_icmp_ge (tgt := 148) d12_laysWays_105 (by decide) ?_ ?_
  · refine v_sub [0, 1, 2, 3, 4] rfl ?_
    exact v12_laysWays_b148 N k40 hk40 l1 l2 l4 l5 σ
  · refine v_aload_n d12_laysWays_108 0 rfl rfl ?_
    refine v_getR d12_laysWays_109 faX12_47 ic_0 rfl ?_
    refine v_iload d12_laysWays_112 5 rfl ?_
    refine v_dup2_11 d12_laysWays_114 rfl rfl ?_
    refine v_iald d12_laysWays_115 ic_9 ?_
    refine v_iload_n d12_laysWays_116 1 rfl rfl ?_
    refine v_iload d12_laysWays_117 5 rfl ?_
    refine v_callS2i d12_laysWays_119 (mc12_has l1 l6 σ) ys12_has mlX12_92 (by decide) (Nat.le_of_ble_eq_true rfl) fun r3 t4 => ?_
    refine v_if_eq (tgt := 139) d12_laysWays_122 (by decide) ?_ ?_
    · exact v12_laysWays_b139 N k40 hk40 k97 hk97 l1 l2 l4 l5 l6 l6 (σ.1 9 l6.toNatClampNeg) t4
    · refine v_iload d12_laysWays_125 3 rfl ?_
      refine v_iload d12_laysWays_127 5 rfl ?_
      refine v_callS2i d12_laysWays_129 (mc12_has l4 l6 t4) ys12_has mlX12_92 (by decide) (Nat.le_of_ble_eq_true rfl) fun r5 t6 => ?_
      refine v_if_ne (tgt := 139) d12_laysWays_132 (by decide) ?_ ?_
      · exact v12_laysWays_b139 N k40 hk40 k97 hk97 l1 l2 l4 l5 l6 l6 (σ.1 9 l6.toNatClampNeg) t6
      · refine v_iconst d12_laysWays_135 ki_1 ?_
        refine v_goto (tgt := 140) d12_laysWays_136 (by decide) ?_
        exact v12_laysWays_b140 N k40 hk40 k97 hk97 l1 l2 l4 l5 l6 l6 (σ.1 9 l6.toNatClampNeg) (1 : Int32) t6
theorem v12_laysWays_b97 (N : Nat) (k40 : Int32 × Int64 × Int32 × Int32 × Ms → Option (Unit × Ms)) (hk40 : ∀ (l1 : Int32) (l2 : Int64) (l4 : Int32) (l5 : Int32) (τ : Ms), VF (K12_laysWays) cX12_laysWays RX12 (k40 (l1, l2, l4, l5, τ)) τ 40 [(0, .ref 0), (1, .int l1), (2, .long l2), (4, .int l4), (5, .int l5)] []) (l1 : Int32) (l2 : Int64) (l4 : Int32) (l5 : Int32) (l6 : Int32) (σ : Ms) : VF (K12_laysWays) cX12_laysWays RX12 (F12_laysWays_b97 N k40 l1 l2 l4 l5 l6 σ) σ 97 [(0, .ref 0), (1, .int l1), (2, .long l2), (4, .int l4), (5, .int l5), (6, .int l6)] [] := v_fx (σo := fun x => x.2.2.2.2.2) (lo := fun x => [(0, .ref 0), (1, .int x.1), (2, .long x.2.1), (4, .int x.2.2.1), (5, .int x.2.2.2.1), (6, .int x.2.2.2.2.1)]) (fun k hk x => v12_laysWays_b97B N k40 hk40 k (fun l1 l2 l4 l5 l6 τ => hk (l1, l2, l4, l5, l6, τ)) x.1 x.2.1 x.2.2.1 x.2.2.2.1 x.2.2.2.2.1 x.2.2.2.2.2) N (l1, l2, l4, l5, l6, σ)
set_option maxRecDepth 100000 in
theorem v12_laysWays_b84 (N : Nat) (k40 : Int32 × Int64 × Int32 × Int32 × Ms → Option (Unit × Ms)) (hk40 : ∀ (l1 : Int32) (l2 : Int64) (l4 : Int32) (l5 : Int32) (τ : Ms), VF (K12_laysWays) cX12_laysWays RX12 (k40 (l1, l2, l4, l5, τ)) τ 40 [(0, .ref 0), (1, .int l1), (2, .long l2), (4, .int l4), (5, .int l5)] []) (l1 : Int32) (l2 : Int64) (l4 : Int32) (l5 : Int32) (σ : Ms) : VF (K12_laysWays) cX12_laysWays RX12 (F12_laysWays_b84 N k40 l1 l2 l4 l5 σ) σ 84 [(0, .ref 0), (1, .int l1), (2, .long l2), (4, .int l4), (5, .int l5)] [] := by
  unfold F12_laysWays_b84
  refine v_aload_n d12_laysWays_84 0 rfl rfl ?_
  refine v_dup d12_laysWays_85 rfl ?_
  refine v_getI d12_laysWays_86 faX12_426 ic_0 ?_
  refine v_iconst d12_laysWays_89 ki_1 ?_
  refine v_iadd d12_laysWays_90 ?_
  refine v_putI d12_laysWays_91 faX12_426 fp9_33 ic_0 ?_
  refine v_lts fun t7 => ?_
  refine v_iconst d12_laysWays_94 ki_0 ?_
  refine v_istore (lv' := [(6, .int (0 : Int32)), (0, .ref 0), (1, .int l1), (2, .long l2), (4, .int l4), (5, .int l5)]) d12_laysWays_95 (by decide) rfl ?_
  refine v_sub [1, 2, 3, 4, 5, 0] rfl ?_
  exact v12_laysWays_b97 N k40 hk40 l1 l2 l4 l5 (0 : Int32) t7
set_option maxRecDepth 100000 in
theorem v12_laysWays_b40B (N : Nat) (k40 : Int32 × Int64 × Int32 × Int32 × Ms → Option (Unit × Ms)) (hk40 : ∀ (l1 : Int32) (l2 : Int64) (l4 : Int32) (l5 : Int32) (τ : Ms), VF (K12_laysWays) cX12_laysWays RX12 (k40 (l1, l2, l4, l5, τ)) τ 40 [(0, .ref 0), (1, .int l1), (2, .long l2), (4, .int l4), (5, .int l5)] []) (l1 : Int32) (l2 : Int64) (l4 : Int32) (l5 : Int32) (σ : Ms) : VF (K12_laysWays) cX12_laysWays RX12 (F12_laysWays_b40B N k40 l1 l2 l4 l5 σ) σ 40 [(0, .ref 0), (1, .int l1), (2, .long l2), (4, .int l4), (5, .int l5)] [] := by
  unfold F12_laysWays_b40B
  refine v_iload d12_laysWays_40 4 rfl ?_
  refine v_iconst d12_laysWays_42 ki_1 ?_
  refine v_iload_n d12_laysWays_43 1 rfl rfl ?_
  refine v_callS1i d12_laysWays_44 (mc12_sizeOf N l1 σ) ys12_sizeOf mlX12_277 (by decide) (Nat.le_of_ble_eq_true rfl) fun r8 t9 => ?_
  refine v_ishl d12_laysWays_47 ?_
  refine v_icmp_ge (tgt := 162) d12_laysWays_48 (by decide) ?_ ?_
  · exact v_vret d12_laysWays_162 rfl
  · refine v_aload_n d12_laysWays_51 0 rfl rfl ?_
    refine v_aload_n d12_laysWays_52 0 rfl rfl ?_
    refine v_callV0i d12_laysWays_53 (mc12_standing N t9) yv12_standing mlX12_268 (Recv.obj ic_0 rfl) (by decide) (Nat.le_of_ble_eq_true rfl) fun r10 t11 => ?_
    refine v_iload_n d12_laysWays_56 1 rfl rfl ?_
    refine v_iload d12_laysWays_57 3 rfl ?_
    refine v_callV3v d12_laysWays_59 (mc12_laysWorths N r10 l1 l4 t11) yv12_laysWorths mlX12_321 (Recv.obj ic_0 rfl) (by decide) (Nat.le_of_ble_eq_true rfl) fun r12 t13 => ?_
    refine v_aload_n d12_laysWays_62 0 rfl rfl ?_
    refine v_getL d12_laysWays_63 faX12_312 ic_0 ?_
    refine v_lload_n d12_laysWays_66 2 rfl rfl ?_
    refine v_lcmp d12_laysWays_67 ?_
    refine v_if_ne (tgt := 148) d12_laysWays_68 (by decide) ?_ ?_
    · exact v12_laysWays_b148 N k40 hk40 l1 l2 l4 l5 t13
    · refine v_aload_n d12_laysWays_71 0 rfl rfl ?_
      refine v_getI d12_laysWays_72 faX12_426 ic_0 ?_
      refine v_if_ne (tgt := 84) d12_laysWays_75 (by decide) ?_ ?_
      · exact v12_laysWays_b84 N k40 hk40 l1 l2 l4 l5 t13
      · refine v_aload_n d12_laysWays_78 0 rfl rfl ?_
        refine v_iload d12_laysWays_79 3 rfl ?_
        refine v_putI d12_laysWays_81 faX12_429 fp9_34 ic_0 ?_
        refine v_lts fun t14 => ?_
        exact v12_laysWays_b84 N k40 hk40 l1 l2 l4 l5 t14
theorem v12_laysWays_b40 (N : Nat) (l1 : Int32) (l2 : Int64) (l4 : Int32) (l5 : Int32) (σ : Ms) : VF (K12_laysWays) cX12_laysWays RX12 (F12_laysWays_b40 N l1 l2 l4 l5 σ) σ 40 [(0, .ref 0), (1, .int l1), (2, .long l2), (4, .int l4), (5, .int l5)] [] := v_fx (σo := fun x => x.2.2.2.2) (lo := fun x => [(0, .ref 0), (1, .int x.1), (2, .long x.2.1), (4, .int x.2.2.1), (5, .int x.2.2.2.1)]) (fun k hk x => v12_laysWays_b40B N k (fun l1 l2 l4 l5 τ => hk (l1, l2, l4, l5, τ)) x.1 x.2.1 x.2.2.1 x.2.2.2.1 x.2.2.2.2) N (l1, l2, l4, l5, σ)
set_option maxRecDepth 100000 in
theorem v12_laysWays_b13B (N : Nat) (k13 : Int32 × Int64 × Int32 × Ms → Option (Unit × Ms)) (hk13 : ∀ (l1 : Int32) (l2 : Int64) (l4 : Int32) (τ : Ms), VF (K12_laysWays) cX12_laysWays RX12 (k13 (l1, l2, l4, τ)) τ 13 [(0, .ref 0), (1, .int l1), (2, .long l2), (4, .int l4)] []) (l1 : Int32) (l2 : Int64) (l4 : Int32) (σ : Ms) : VF (K12_laysWays) cX12_laysWays RX12 (F12_laysWays_b13B N k13 l1 l2 l4 σ) σ 13 [(0, .ref 0), (1, .int l1), (2, .long l2), (4, .int l4)] [] := by
  unfold F12_laysWays_b13B
  refine v_iload d12_laysWays_13 3 rfl ?_
  refine v_bipush d12_laysWays_15 kb_20 ?_
  refine v_icmp_ge (tgt := 34) d12_laysWays_17 (by decide) ?_ ?_
  · refine v_iconst d12_laysWays_34 ki_0 ?_
    refine v_istore (lv' := [(4, .int (0 : Int32)), (0, .ref 0), (1, .int l1), (2, .long l2)]) d12_laysWays_35 (by decide) rfl ?_
    refine v_iconst d12_laysWays_37 ki_0 ?_
    refine v_istore (lv' := [(5, .int (0 : Int32)), (4, .int (0 : Int32)), (0, .ref 0), (1, .int l1), (2, .long l2)]) d12_laysWays_38 (by decide) rfl ?_
    refine v_sub [2, 3, 4, 1, 0] rfl ?_
    exact v12_laysWays_b40 N l1 l2 (0 : Int32) (0 : Int32) σ
  · refine v_aload_n d12_laysWays_20 0 rfl rfl ?_
    refine v_getR d12_laysWays_21 faX12_47 ic_0 rfl ?_
    refine v_iload d12_laysWays_24 3 rfl ?_
    refine v_iconst d12_laysWays_26 ki_0 ?_
    refine v_iast d12_laysWays_27 ic_9 ?_
    refine v_lts fun t15 => ?_
    refine v_iinc (lv' := [(4, .int (l4 + (1 : Int32))), (0, .ref 0), (1, .int l1), (2, .long l2)]) d12_laysWays_28 3 rfl (by rw [ki_1]) (by decide) rfl ?_
    refine v_goto (tgt := 13) d12_laysWays_31 (by decide) ?_
    refine v_sub [1, 2, 3, 0] rfl ?_
    exact hk13 l1 l2 (l4 + (1 : Int32)) t15
theorem v12_laysWays_b13 (N : Nat) (l1 : Int32) (l2 : Int64) (l4 : Int32) (σ : Ms) : VF (K12_laysWays) cX12_laysWays RX12 (F12_laysWays_b13 N l1 l2 l4 σ) σ 13 [(0, .ref 0), (1, .int l1), (2, .long l2), (4, .int l4)] [] := v_fx (σo := fun x => x.2.2.2) (lo := fun x => [(0, .ref 0), (1, .int x.1), (2, .long x.2.1), (4, .int x.2.2.1)]) (fun k hk x => v12_laysWays_b13B N k (fun l1 l2 l4 τ => hk (l1, l2, l4, τ)) x.1 x.2.1 x.2.2.1 x.2.2.2) N (l1, l2, l4, σ)
set_option maxRecDepth 100000 in
theorem mc12_laysWays (N : Nat) (p0 : Int32) (p1 : Int64) (σ : Ms) : MC enV yX12_laysWays cX12_laysWays 7 none 4 (F12_laysWays N p0 p1 σ) σ [.ref 0, .int p0, .long p1] := by
  refine MC.v (by decide +kernel) (Nat.le_of_ble_eq_true rfl) ?_
  show VF (K12_laysWays) cX12_laysWays RX12 (F12_laysWays N p0 p1 σ) σ 0 [(0, .ref 0), (1, .int p0), (2, .long p1)] []
  unfold F12_laysWays
  refine v_aload_n d12_laysWays_0 0 rfl rfl ?_
  refine v_iconst d12_laysWays_1 ki_0 ?_
  refine v_putI d12_laysWays_2 faX12_426 fp9_33 ic_0 ?_
  refine v_lts fun t16 => ?_
  refine v_aload_n d12_laysWays_5 0 rfl rfl ?_
  refine v_iconst d12_laysWays_6 ki_m1 ?_
  refine v_putI d12_laysWays_7 faX12_429 fp9_34 ic_0 ?_
  refine v_lts fun t17 => ?_
  refine v_iconst d12_laysWays_10 ki_0 ?_
  refine v_istore (lv' := [(4, .int (0 : Int32)), (0, .ref 0), (1, .int p0), (2, .long p1)]) d12_laysWays_11 (by decide) rfl ?_
  refine v_sub [1, 2, 3, 0] rfl ?_
  exact v12_laysWays_b13 N p0 p1 (0 : Int32) t17
theorem d12_isAsked_0 : decode cX12_isAsked 0 = .ok (.aload_n 0, 1) := by decide +kernel
theorem d12_isAsked_1 : decode cX12_isAsked 1 = .ok (.aload_n 0, 1) := by decide +kernel
theorem d12_isAsked_2 : decode cX12_isAsked 2 = .ok (.iload_n 1, 1) := by decide +kernel
theorem d12_isAsked_3 : decode cX12_isAsked 3 = .ok (.invokevirtual 432, 3) := by decide +kernel
theorem d12_isAsked_6 : decode cX12_isAsked 6 = .ok (.ifCond .eq 15, 3) := by decide +kernel
theorem d12_isAsked_9 : decode cX12_isAsked 9 = .ok (.iload_n 2, 1) := by decide +kernel
theorem d12_isAsked_10 : decode cX12_isAsked 10 = .ok (.iload_n 3, 1) := by decide +kernel
theorem d12_isAsked_11 : decode cX12_isAsked 11 = .ok (.invokestatic 404, 3) := by decide +kernel
theorem d12_isAsked_14 : decode cX12_isAsked 14 = .ok (.ifCond .eq 7, 3) := by decide +kernel
theorem d12_isAsked_17 : decode cX12_isAsked 17 = .ok (.iconst 0, 1) := by decide +kernel
theorem d12_isAsked_18 : decode cX12_isAsked 18 = .ok (.goto 4, 3) := by decide +kernel
theorem d12_isAsked_21 : decode cX12_isAsked 21 = .ok (.iconst 5, 1) := by decide +kernel
theorem d12_isAsked_22 : decode cX12_isAsked 22 = .ok (.putfield 56, 3) := by decide +kernel
theorem d12_isAsked_25 : decode cX12_isAsked 25 = .ok (.aload_n 0, 1) := by decide +kernel
theorem d12_isAsked_26 : decode cX12_isAsked 26 = .ok (.getfield 56, 3) := by decide +kernel
theorem d12_isAsked_29 : decode cX12_isAsked 29 = .ok (.ifCond .le 5, 3) := by decide +kernel
theorem d12_isAsked_32 : decode cX12_isAsked 32 = .ok (.iconst 0, 1) := by decide +kernel
theorem d12_isAsked_33 : decode cX12_isAsked 33 = .ok (.ireturn, 1) := by decide +kernel
theorem d12_isAsked_34 : decode cX12_isAsked 34 = .ok (.aload_n 0, 1) := by decide +kernel
theorem d12_isAsked_35 : decode cX12_isAsked 35 = .ok (.iload_n 1, 1) := by decide +kernel
theorem d12_isAsked_36 : decode cX12_isAsked 36 = .ok (.iload_n 2, 1) := by decide +kernel
theorem d12_isAsked_37 : decode cX12_isAsked 37 = .ok (.iload_n 3, 1) := by decide +kernel
theorem d12_isAsked_38 : decode cX12_isAsked 38 = .ok (.invokestatic 407, 3) := by decide +kernel
theorem d12_isAsked_41 : decode cX12_isAsked 41 = .ok (.invokevirtual 435, 3) := by decide +kernel
theorem d12_isAsked_44 : decode cX12_isAsked 44 = .ok (.iconst 1, 1) := by decide +kernel
theorem d12_isAsked_45 : decode cX12_isAsked 45 = .ok (.ireturn, 1) := by decide +kernel
abbrev K12_isAsked : CK Int32 := (enI, (some .boolean), 4, 5, none)
noncomputable def F12_isAsked_b22 (N : Nat) (l1 : Int32) (l2 : Int32) (l3 : Int32) (s1 : Int32) (σ : Ms) : Option (Int32 × Ms) :=
  lt (sI σ 0 0 s1) (fun t1 => if (t1.1 0 0) ≤ 0 then (bn (F12_partsOf l2 l3 t1) (fun r2 t3 => bn (F12_laysWays N l1 r2 t3) (fun r4 t5 => some ((1 : Int32), t5))))
  else (some ((0 : Int32), t1)))
noncomputable def F12_isAsked_b21 (N : Nat) (l1 : Int32) (l2 : Int32) (l3 : Int32) (σ : Ms) : Option (Int32 × Ms) :=
  F12_isAsked_b22 N l1 l2 l3 (5 : Int32) σ
noncomputable def F12_isAsked (N : Nat) (p0 : Int32) (p1 : Int32) (p2 : Int32) (σ : Ms) : Option (Int32 × Ms) :=
  bn (F12_isSet N p0 σ) (fun r6 t7 => if r6 = 0 then (F12_isAsked_b21 N p0 p1 p2 t7)
  else (bn (F12_isNumber p1 p2 t7) (fun r8 t9 => if r8 = 0 then (F12_isAsked_b21 N p0 p1 p2 t9)
  else (F12_isAsked_b22 N p0 p1 p2 (0 : Int32) t9))))
set_option maxRecDepth 100000 in
theorem v12_isAsked_b22 (N : Nat) (l1 : Int32) (l2 : Int32) (l3 : Int32) (s1 : Int32) (σ : Ms) : VF (K12_isAsked) cX12_isAsked RX12 (F12_isAsked_b22 N l1 l2 l3 s1 σ) σ 22 [(0, .ref 0), (1, .int l1), (2, .int l2), (3, .int l3)] [.int s1, .ref 0] := by
  unfold F12_isAsked_b22
  refine v_putI d12_isAsked_22 faX12_56 fp9_0 ic_0 ?_
  refine v_lts fun t1 => ?_
  refine v_aload_n d12_isAsked_25 0 rfl rfl ?_
  refine v_getI d12_isAsked_26 faX12_56 ic_0 ?_
  refine v_if_le (tgt := 34) d12_isAsked_29 (by decide) ?_ ?_
  · refine v_aload_n d12_isAsked_34 0 rfl rfl ?_
    refine v_iload_n d12_isAsked_35 1 rfl rfl ?_
    refine v_iload_n d12_isAsked_36 2 rfl rfl ?_
    refine v_iload_n d12_isAsked_37 3 rfl rfl ?_
    refine v_callS2l d12_isAsked_38 (mc12_partsOf l2 l3 t1) ys12_partsOf mlX12_407 (by decide) (Nat.le_of_ble_eq_true rfl) fun r2 t3 => ?_
    refine v_callV2v d12_isAsked_41 (mc12_laysWays N l1 r2 t3) yv12_laysWays mlX12_435 (Recv.obj ic_0 rfl) (by decide) (Nat.le_of_ble_eq_true rfl) fun r4 t5 => ?_
    refine v_iconst d12_isAsked_44 ki_1 ?_
    exact v_iret (ty := .boolean) d12_isAsked_45 rfl rfl rfl
  · refine v_iconst d12_isAsked_32 ki_0 ?_
    exact v_iret (ty := .boolean) d12_isAsked_33 rfl rfl rfl
set_option maxRecDepth 100000 in
theorem v12_isAsked_b21 (N : Nat) (l1 : Int32) (l2 : Int32) (l3 : Int32) (σ : Ms) : VF (K12_isAsked) cX12_isAsked RX12 (F12_isAsked_b21 N l1 l2 l3 σ) σ 21 [(0, .ref 0), (1, .int l1), (2, .int l2), (3, .int l3)] [.ref 0] := by
  unfold F12_isAsked_b21
  refine v_iconst d12_isAsked_21 ki_5 ?_
  exact v12_isAsked_b22 N l1 l2 l3 (5 : Int32) σ
set_option maxRecDepth 100000 in
theorem mc12_isAsked (N : Nat) (p0 : Int32) (p1 : Int32) (p2 : Int32) (σ : Ms) : MC enI yX12_isAsked cX12_isAsked 4 (some .boolean) 5 (F12_isAsked N p0 p1 p2 σ) σ [.ref 0, .int p0, .int p1, .int p2] := by
  refine MC.i (by decide +kernel) (Nat.le_of_ble_eq_true rfl) ?_
  show VF (K12_isAsked) cX12_isAsked RX12 (F12_isAsked N p0 p1 p2 σ) σ 0 [(0, .ref 0), (1, .int p0), (2, .int p1), (3, .int p2)] []
  unfold F12_isAsked
  refine v_aload_n d12_isAsked_0 0 rfl rfl ?_
  refine v_aload_n d12_isAsked_1 0 rfl rfl ?_
  refine v_iload_n d12_isAsked_2 1 rfl rfl ?_
  refine v_callV1i d12_isAsked_3 (mc12_isSet N p0 σ) yv12_isSet mlX12_432 (Recv.obj ic_0 rfl) (by decide) (Nat.le_of_ble_eq_true rfl) fun r6 t7 => ?_
  refine v_if_eq (tgt := 21) d12_isAsked_6 (by decide) ?_ ?_
  · exact v12_isAsked_b21 N p0 p1 p2 t7
  · refine v_iload_n d12_isAsked_9 2 rfl rfl ?_
    refine v_iload_n d12_isAsked_10 3 rfl rfl ?_
    refine v_callS2i d12_isAsked_11 (mc12_isNumber p1 p2 t7) ys12_isNumber mlX12_404 (by decide) (Nat.le_of_ble_eq_true rfl) fun r8 t9 => ?_
    refine v_if_eq (tgt := 21) d12_isAsked_14 (by decide) ?_ ?_
    · exact v12_isAsked_b21 N p0 p1 p2 t9
    · refine v_iconst d12_isAsked_17 ki_0 ?_
      refine v_goto (tgt := 22) d12_isAsked_18 (by decide) ?_
      exact v12_isAsked_b22 N p0 p1 p2 (0 : Int32) t9
theorem d12_colourings_0 : decode cX12_colourings 0 = .ok (.aload_n 0, 1) := by decide +kernel
theorem d12_colourings_1 : decode cX12_colourings 1 = .ok (.iconst 0, 1) := by decide +kernel
theorem d12_colourings_2 : decode cX12_colourings 2 = .ok (.putfield 53, 3) := by decide +kernel
theorem d12_colourings_5 : decode cX12_colourings 5 = .ok (.aload_n 0, 1) := by decide +kernel
theorem d12_colourings_6 : decode cX12_colourings 6 = .ok (.iload_n 1, 1) := by decide +kernel
theorem d12_colourings_7 : decode cX12_colourings 7 = .ok (.iload_n 2, 1) := by decide +kernel
theorem d12_colourings_8 : decode cX12_colourings 8 = .ok (.iload_n 3, 1) := by decide +kernel
theorem d12_colourings_9 : decode cX12_colourings 9 = .ok (.invokevirtual 439, 3) := by decide +kernel
theorem d12_colourings_12 : decode cX12_colourings 12 = .ok (.ifCond .eq 10, 3) := by decide +kernel
theorem d12_colourings_15 : decode cX12_colourings 15 = .ok (.aload_n 0, 1) := by decide +kernel
theorem d12_colourings_16 : decode cX12_colourings 16 = .ok (.getfield 426, 3) := by decide +kernel
theorem d12_colourings_19 : decode cX12_colourings 19 = .ok (.goto 4, 3) := by decide +kernel
theorem d12_colourings_22 : decode cX12_colourings 22 = .ok (.iconst (-1), 1) := by decide +kernel
theorem d12_colourings_23 : decode cX12_colourings 23 = .ok (.ireturn, 1) := by decide +kernel
abbrev K12_colourings : CK Int32 := (enI, (some .int), 4, 6, none)
noncomputable def F12_colourings (N : Nat) (p0 : Int32) (p1 : Int32) (p2 : Int32) (σ : Ms) : Option (Int32 × Ms) :=
  lt (sI σ 0 1 (0 : Int32)) (fun t1 => bn (F12_isAsked N p0 p1 p2 t1) (fun r2 t3 => if r2 = 0 then (some ((-1 : Int32), t3))
  else (some ((t3.1 0 33), t3))))
set_option maxRecDepth 100000 in
theorem mc12_colourings (N : Nat) (p0 : Int32) (p1 : Int32) (p2 : Int32) (σ : Ms) : MC enI yX12_colourings cX12_colourings 4 (some .int) 6 (F12_colourings N p0 p1 p2 σ) σ [.ref 0, .int p0, .int p1, .int p2] := by
  refine MC.i (by decide +kernel) (Nat.le_of_ble_eq_true rfl) ?_
  show VF (K12_colourings) cX12_colourings RX12 (F12_colourings N p0 p1 p2 σ) σ 0 [(0, .ref 0), (1, .int p0), (2, .int p1), (3, .int p2)] []
  unfold F12_colourings
  refine v_aload_n d12_colourings_0 0 rfl rfl ?_
  refine v_iconst d12_colourings_1 ki_0 ?_
  refine v_putI d12_colourings_2 faX12_53 fp9_1 ic_0 ?_
  refine v_lts fun t1 => ?_
  refine v_aload_n d12_colourings_5 0 rfl rfl ?_
  refine v_iload_n d12_colourings_6 1 rfl rfl ?_
  refine v_iload_n d12_colourings_7 2 rfl rfl ?_
  refine v_iload_n d12_colourings_8 3 rfl rfl ?_
  refine v_callV3i d12_colourings_9 (mc12_isAsked N p0 p1 p2 t1) yv12_isAsked mlX12_439 (Recv.obj ic_0 rfl) (by decide) (Nat.le_of_ble_eq_true rfl) fun r2 t3 => ?_
  refine v_if_eq (tgt := 22) d12_colourings_12 (by decide) ?_ ?_
  · refine v_iconst d12_colourings_22 ki_m1 ?_
    exact v_iret d12_colourings_23 rfl rfl rfl
  · refine v_aload_n d12_colourings_15 0 rfl rfl ?_
    refine v_getI d12_colourings_16 faX12_426 ic_0 ?_
    refine v_goto (tgt := 23) d12_colourings_19 (by decide) ?_
    exact v_iret d12_colourings_23 rfl rfl rfl
theorem d12_firstRed_0 : decode cX12_firstRed 0 = .ok (.aload_n 0, 1) := by decide +kernel
theorem d12_firstRed_1 : decode cX12_firstRed 1 = .ok (.iconst 0, 1) := by decide +kernel
theorem d12_firstRed_2 : decode cX12_firstRed 2 = .ok (.putfield 53, 3) := by decide +kernel
theorem d12_firstRed_5 : decode cX12_firstRed 5 = .ok (.aload_n 0, 1) := by decide +kernel
theorem d12_firstRed_6 : decode cX12_firstRed 6 = .ok (.iload_n 1, 1) := by decide +kernel
theorem d12_firstRed_7 : decode cX12_firstRed 7 = .ok (.iload_n 2, 1) := by decide +kernel
theorem d12_firstRed_8 : decode cX12_firstRed 8 = .ok (.iload_n 3, 1) := by decide +kernel
theorem d12_firstRed_9 : decode cX12_firstRed 9 = .ok (.invokevirtual 439, 3) := by decide +kernel
theorem d12_firstRed_12 : decode cX12_firstRed 12 = .ok (.ifCond .ne 5, 3) := by decide +kernel
theorem d12_firstRed_15 : decode cX12_firstRed 15 = .ok (.iconst (-1), 1) := by decide +kernel
theorem d12_firstRed_16 : decode cX12_firstRed 16 = .ok (.ireturn, 1) := by decide +kernel
theorem d12_firstRed_17 : decode cX12_firstRed 17 = .ok (.aload_n 0, 1) := by decide +kernel
theorem d12_firstRed_18 : decode cX12_firstRed 18 = .ok (.getfield 426, 3) := by decide +kernel
theorem d12_firstRed_21 : decode cX12_firstRed 21 = .ok (.ifCond .ne 12, 3) := by decide +kernel
theorem d12_firstRed_24 : decode cX12_firstRed 24 = .ok (.aload_n 0, 1) := by decide +kernel
theorem d12_firstRed_25 : decode cX12_firstRed 25 = .ok (.bipush 8, 2) := by decide +kernel
theorem d12_firstRed_27 : decode cX12_firstRed 27 = .ok (.invokevirtual 265, 3) := by decide +kernel
theorem d12_firstRed_30 : decode cX12_firstRed 30 = .ok (.goto 7, 3) := by decide +kernel
theorem d12_firstRed_33 : decode cX12_firstRed 33 = .ok (.aload_n 0, 1) := by decide +kernel
theorem d12_firstRed_34 : decode cX12_firstRed 34 = .ok (.getfield 429, 3) := by decide +kernel
theorem d12_firstRed_37 : decode cX12_firstRed 37 = .ok (.ireturn, 1) := by decide +kernel
abbrev K12_firstRed : CK Int32 := (enI, (some .int), 4, 6, none)
noncomputable def F12_firstRed (N : Nat) (p0 : Int32) (p1 : Int32) (p2 : Int32) (σ : Ms) : Option (Int32 × Ms) :=
  lt (sI σ 0 1 (0 : Int32)) (fun t1 => bn (F12_isAsked N p0 p1 p2 t1) (fun r2 t3 => if r2 ≠ 0 then (if (t3.1 0 33) ≠ 0 then (some ((t3.1 0 34), t3))
  else (bn (F12_refuse (8 : Int32) t3) (fun r4 t5 => some (r4, t5))))
  else (some ((-1 : Int32), t3))))
set_option maxRecDepth 100000 in
theorem mc12_firstRed (N : Nat) (p0 : Int32) (p1 : Int32) (p2 : Int32) (σ : Ms) : MC enI yX12_firstRed cX12_firstRed 4 (some .int) 6 (F12_firstRed N p0 p1 p2 σ) σ [.ref 0, .int p0, .int p1, .int p2] := by
  refine MC.i (by decide +kernel) (Nat.le_of_ble_eq_true rfl) ?_
  show VF (K12_firstRed) cX12_firstRed RX12 (F12_firstRed N p0 p1 p2 σ) σ 0 [(0, .ref 0), (1, .int p0), (2, .int p1), (3, .int p2)] []
  unfold F12_firstRed
  refine v_aload_n d12_firstRed_0 0 rfl rfl ?_
  refine v_iconst d12_firstRed_1 ki_0 ?_
  refine v_putI d12_firstRed_2 faX12_53 fp9_1 ic_0 ?_
  refine v_lts fun t1 => ?_
  refine v_aload_n d12_firstRed_5 0 rfl rfl ?_
  refine v_iload_n d12_firstRed_6 1 rfl rfl ?_
  refine v_iload_n d12_firstRed_7 2 rfl rfl ?_
  refine v_iload_n d12_firstRed_8 3 rfl rfl ?_
  refine v_callV3i d12_firstRed_9 (mc12_isAsked N p0 p1 p2 t1) yv12_isAsked mlX12_439 (Recv.obj ic_0 rfl) (by decide) (Nat.le_of_ble_eq_true rfl) fun r2 t3 => ?_
  refine v_if_ne (tgt := 17) d12_firstRed_12 (by decide) ?_ ?_
  · refine v_aload_n d12_firstRed_17 0 rfl rfl ?_
    refine v_getI d12_firstRed_18 faX12_426 ic_0 ?_
    refine v_if_ne (tgt := 33) d12_firstRed_21 (by decide) ?_ ?_
    · refine v_aload_n d12_firstRed_33 0 rfl rfl ?_
      refine v_getI d12_firstRed_34 faX12_429 ic_0 ?_
      exact v_iret d12_firstRed_37 rfl rfl rfl
    · refine v_aload_n d12_firstRed_24 0 rfl rfl ?_
      refine v_bipush d12_firstRed_25 kb_8 ?_
      refine v_callV1i d12_firstRed_27 (mc12_refuse (8 : Int32) t3) yv12_refuse mlX12_265 (Recv.obj ic_0 rfl) (by decide) (Nat.le_of_ble_eq_true rfl) fun r4 t5 => ?_
      refine v_goto (tgt := 37) d12_firstRed_30 (by decide) ?_
      exact v_iret d12_firstRed_37 rfl rfl rfl
  · refine v_iconst d12_firstRed_15 ki_m1 ?_
    exact v_iret d12_firstRed_16 rfl rfl rfl
theorem d12_oddsBlue_0 : decode cX12_oddsBlue 0 = .ok (.aload_n 0, 1) := by decide +kernel
theorem d12_oddsBlue_1 : decode cX12_oddsBlue 1 = .ok (.iconst 0, 1) := by decide +kernel
theorem d12_oddsBlue_2 : decode cX12_oddsBlue 2 = .ok (.putfield 53, 3) := by decide +kernel
theorem d12_oddsBlue_5 : decode cX12_oddsBlue 5 = .ok (.aload_n 0, 1) := by decide +kernel
theorem d12_oddsBlue_6 : decode cX12_oddsBlue 6 = .ok (.iload 4, 2) := by decide +kernel
theorem d12_oddsBlue_8 : decode cX12_oddsBlue 8 = .ok (.invokevirtual 280, 3) := by decide +kernel
theorem d12_oddsBlue_11 : decode cX12_oddsBlue 11 = .ok (.ifCond .ne 9, 3) := by decide +kernel
theorem d12_oddsBlue_14 : decode cX12_oddsBlue 14 = .ok (.aload_n 0, 1) := by decide +kernel
theorem d12_oddsBlue_15 : decode cX12_oddsBlue 15 = .ok (.iconst 2, 1) := by decide +kernel
theorem d12_oddsBlue_16 : decode cX12_oddsBlue 16 = .ok (.invokevirtual 68, 3) := by decide +kernel
theorem d12_oddsBlue_19 : decode cX12_oddsBlue 19 = .ok (.ireturn, 1) := by decide +kernel
theorem d12_oddsBlue_20 : decode cX12_oddsBlue 20 = .ok (.aload_n 0, 1) := by decide +kernel
theorem d12_oddsBlue_21 : decode cX12_oddsBlue 21 = .ok (.iload_n 1, 1) := by decide +kernel
theorem d12_oddsBlue_22 : decode cX12_oddsBlue 22 = .ok (.iload_n 2, 1) := by decide +kernel
theorem d12_oddsBlue_23 : decode cX12_oddsBlue 23 = .ok (.iload_n 3, 1) := by decide +kernel
theorem d12_oddsBlue_24 : decode cX12_oddsBlue 24 = .ok (.invokevirtual 439, 3) := by decide +kernel
theorem d12_oddsBlue_27 : decode cX12_oddsBlue 27 = .ok (.ifCond .ne 5, 3) := by decide +kernel
theorem d12_oddsBlue_30 : decode cX12_oddsBlue 30 = .ok (.iconst 0, 1) := by decide +kernel
theorem d12_oddsBlue_31 : decode cX12_oddsBlue 31 = .ok (.ireturn, 1) := by decide +kernel
theorem d12_oddsBlue_32 : decode cX12_oddsBlue 32 = .ok (.aload_n 0, 1) := by decide +kernel
theorem d12_oddsBlue_33 : decode cX12_oddsBlue 33 = .ok (.getfield 426, 3) := by decide +kernel
theorem d12_oddsBlue_36 : decode cX12_oddsBlue 36 = .ok (.ifCond .ne 10, 3) := by decide +kernel
theorem d12_oddsBlue_39 : decode cX12_oddsBlue 39 = .ok (.aload_n 0, 1) := by decide +kernel
theorem d12_oddsBlue_40 : decode cX12_oddsBlue 40 = .ok (.bipush 8, 2) := by decide +kernel
theorem d12_oddsBlue_42 : decode cX12_oddsBlue 42 = .ok (.invokevirtual 68, 3) := by decide +kernel
theorem d12_oddsBlue_45 : decode cX12_oddsBlue 45 = .ok (.ireturn, 1) := by decide +kernel
theorem d12_oddsBlue_46 : decode cX12_oddsBlue 46 = .ok (.iload_n 1, 1) := by decide +kernel
theorem d12_oddsBlue_47 : decode cX12_oddsBlue 47 = .ok (.iload 4, 2) := by decide +kernel
theorem d12_oddsBlue_49 : decode cX12_oddsBlue 49 = .ok (.invokestatic 92, 3) := by decide +kernel
theorem d12_oddsBlue_52 : decode cX12_oddsBlue 52 = .ok (.ifCond .eq 23, 3) := by decide +kernel
theorem d12_oddsBlue_55 : decode cX12_oddsBlue 55 = .ok (.aload_n 0, 1) := by decide +kernel
theorem d12_oddsBlue_56 : decode cX12_oddsBlue 56 = .ok (.aload_n 0, 1) := by decide +kernel
theorem d12_oddsBlue_57 : decode cX12_oddsBlue 57 = .ok (.getfield 47, 3) := by decide +kernel
theorem d12_oddsBlue_60 : decode cX12_oddsBlue 60 = .ok (.iload 4, 2) := by decide +kernel
theorem d12_oddsBlue_62 : decode cX12_oddsBlue 62 = .ok (.iaload, 1) := by decide +kernel
theorem d12_oddsBlue_63 : decode cX12_oddsBlue 63 = .ok (.i2l, 1) := by decide +kernel
theorem d12_oddsBlue_64 : decode cX12_oddsBlue 64 = .ok (.aload_n 0, 1) := by decide +kernel
theorem d12_oddsBlue_65 : decode cX12_oddsBlue 65 = .ok (.getfield 426, 3) := by decide +kernel
theorem d12_oddsBlue_68 : decode cX12_oddsBlue 68 = .ok (.i2l, 1) := by decide +kernel
theorem d12_oddsBlue_69 : decode cX12_oddsBlue 69 = .ok (.invokevirtual 327, 3) := by decide +kernel
theorem d12_oddsBlue_72 : decode cX12_oddsBlue 72 = .ok (.goto 9, 3) := by decide +kernel
theorem d12_oddsBlue_75 : decode cX12_oddsBlue 75 = .ok (.aload_n 0, 1) := by decide +kernel
theorem d12_oddsBlue_76 : decode cX12_oddsBlue 76 = .ok (.bipush 9, 2) := by decide +kernel
theorem d12_oddsBlue_78 : decode cX12_oddsBlue 78 = .ok (.invokevirtual 68, 3) := by decide +kernel
theorem d12_oddsBlue_81 : decode cX12_oddsBlue 81 = .ok (.ireturn, 1) := by decide +kernel
abbrev K12_oddsBlue : CK Int32 := (enI, (some .boolean), 5, 6, none)
noncomputable def F12_oddsBlue (N : Nat) (p0 : Int32) (p1 : Int32) (p2 : Int32) (p3 : Int32) (σ : Ms) : Option (Int32 × Ms) :=
  lt (sI σ 0 1 (0 : Int32)) (fun t1 => bn (F12_isSprigAt p3 t1) (fun r2 t3 => if r2 ≠ 0 then (bn (F12_isAsked N p0 p1 p2 t3) (fun r4 t5 => if r4 ≠ 0 then (if (t5.1 0 33) ≠ 0 then (bn (F12_has p0 p3 t5) (fun r6 t7 => if r6 = 0 then (bn (F12_no (9 : Int32) t7) (fun r8 t9 => ck (nkB r8) (some (r8, t9))))
  else (ck (ixb p3 20) (bn (F12_fraction N ((t7.1 9 p3.toNatClampNeg).toInt64) ((t7.1 0 33).toInt64) t7) (fun r10 t11 => ck (nkB r10) (some (r10, t11)))))))
  else (bn (F12_no (8 : Int32) t5) (fun r12 t13 => ck (nkB r12) (some (r12, t13)))))
  else (some ((0 : Int32), t5))))
  else (bn (F12_no (2 : Int32) t3) (fun r14 t15 => ck (nkB r14) (some (r14, t15))))))
set_option maxRecDepth 100000 in
theorem mc12_oddsBlue (N : Nat) (p0 : Int32) (p1 : Int32) (p2 : Int32) (p3 : Int32) (σ : Ms) : MC enI yX12_oddsBlue cX12_oddsBlue 5 (some .boolean) 6 (F12_oddsBlue N p0 p1 p2 p3 σ) σ [.ref 0, .int p0, .int p1, .int p2, .int p3] := by
  refine MC.i (by decide +kernel) (Nat.le_of_ble_eq_true rfl) ?_
  show VF (K12_oddsBlue) cX12_oddsBlue RX12 (F12_oddsBlue N p0 p1 p2 p3 σ) σ 0 [(0, .ref 0), (1, .int p0), (2, .int p1), (3, .int p2), (4, .int p3)] []
  unfold F12_oddsBlue
  refine v_aload_n d12_oddsBlue_0 0 rfl rfl ?_
  refine v_iconst d12_oddsBlue_1 ki_0 ?_
  refine v_putI d12_oddsBlue_2 faX12_53 fp9_1 ic_0 ?_
  refine v_lts fun t1 => ?_
  refine v_aload_n d12_oddsBlue_5 0 rfl rfl ?_
  refine v_iload d12_oddsBlue_6 4 rfl ?_
  refine v_callV1i d12_oddsBlue_8 (mc12_isSprigAt p3 t1) yv12_isSprigAt mlX12_280 (Recv.obj ic_0 rfl) (by decide) (Nat.le_of_ble_eq_true rfl) fun r2 t3 => ?_
  refine v_if_ne (tgt := 20) d12_oddsBlue_11 (by decide) ?_ ?_
  · refine v_aload_n d12_oddsBlue_20 0 rfl rfl ?_
    refine v_iload_n d12_oddsBlue_21 1 rfl rfl ?_
    refine v_iload_n d12_oddsBlue_22 2 rfl rfl ?_
    refine v_iload_n d12_oddsBlue_23 3 rfl rfl ?_
    refine v_callV3i d12_oddsBlue_24 (mc12_isAsked N p0 p1 p2 t3) yv12_isAsked mlX12_439 (Recv.obj ic_0 rfl) (by decide) (Nat.le_of_ble_eq_true rfl) fun r4 t5 => ?_
    refine v_if_ne (tgt := 32) d12_oddsBlue_27 (by decide) ?_ ?_
    · refine v_aload_n d12_oddsBlue_32 0 rfl rfl ?_
      refine v_getI d12_oddsBlue_33 faX12_426 ic_0 ?_
      refine v_if_ne (tgt := 46) d12_oddsBlue_36 (by decide) ?_ ?_
      · refine v_iload_n d12_oddsBlue_46 1 rfl rfl ?_
        refine v_iload d12_oddsBlue_47 4 rfl ?_
        refine v_callS2i d12_oddsBlue_49 (mc12_has p0 p3 t5) ys12_has mlX12_92 (by decide) (Nat.le_of_ble_eq_true rfl) fun r6 t7 => ?_
        refine v_if_eq (tgt := 75) d12_oddsBlue_52 (by decide) ?_ ?_
        · refine v_aload_n d12_oddsBlue_75 0 rfl rfl ?_
          refine v_bipush d12_oddsBlue_76 kb_9 ?_
          refine v_callV1i d12_oddsBlue_78 (mc12_no (9 : Int32) t7) yv12_no mlX12_68 (Recv.obj ic_0 rfl) (by decide) (Nat.le_of_ble_eq_true rfl) fun r8 t9 => ?_
          exact v_iretB d12_oddsBlue_81 rfl rfl
        · refine v_aload_n d12_oddsBlue_55 0 rfl rfl ?_
          refine v_aload_n d12_oddsBlue_56 0 rfl rfl ?_
          refine v_getR d12_oddsBlue_57 faX12_47 ic_0 rfl ?_
          refine v_iload d12_oddsBlue_60 4 rfl ?_
          refine v_iald d12_oddsBlue_62 ic_9 ?_
          refine v_i2l d12_oddsBlue_63 ?_
          refine v_aload_n d12_oddsBlue_64 0 rfl rfl ?_
          refine v_getI d12_oddsBlue_65 faX12_426 ic_0 ?_
          refine v_i2l d12_oddsBlue_68 ?_
          refine v_callV2i d12_oddsBlue_69 (mc12_fraction N ((t7.1 9 p3.toNatClampNeg).toInt64) ((t7.1 0 33).toInt64) t7) yv12_fraction mlX12_327 (Recv.obj ic_0 rfl) (by decide) (Nat.le_of_ble_eq_true rfl) fun r10 t11 => ?_
          refine v_goto (tgt := 81) d12_oddsBlue_72 (by decide) ?_
          exact v_iretB d12_oddsBlue_81 rfl rfl
      · refine v_aload_n d12_oddsBlue_39 0 rfl rfl ?_
        refine v_bipush d12_oddsBlue_40 kb_8 ?_
        refine v_callV1i d12_oddsBlue_42 (mc12_no (8 : Int32) t5) yv12_no mlX12_68 (Recv.obj ic_0 rfl) (by decide) (Nat.le_of_ble_eq_true rfl) fun r12 t13 => ?_
        exact v_iretB d12_oddsBlue_45 rfl rfl
    · refine v_iconst d12_oddsBlue_30 ki_0 ?_
      exact v_iret (ty := .boolean) d12_oddsBlue_31 rfl rfl rfl
  · refine v_aload_n d12_oddsBlue_14 0 rfl rfl ?_
    refine v_iconst d12_oddsBlue_15 ki_2 ?_
    refine v_callV1i d12_oddsBlue_16 (mc12_no (2 : Int32) t3) yv12_no mlX12_68 (Recv.obj ic_0 rfl) (by decide) (Nat.le_of_ble_eq_true rfl) fun r14 t15 => ?_
    exact v_iretB d12_oddsBlue_19 rfl rfl
theorem d12_ask_0 : decode cX12_ask 0 = .ok (.aload_n 0, 1) := by decide +kernel
theorem d12_ask_1 : decode cX12_ask 1 = .ok (.iconst 0, 1) := by decide +kernel
theorem d12_ask_2 : decode cX12_ask 2 = .ok (.putfield 53, 3) := by decide +kernel
theorem d12_ask_5 : decode cX12_ask 5 = .ok (.aload_n 0, 1) := by decide +kernel
theorem d12_ask_6 : decode cX12_ask 6 = .ok (.iload_n 1, 1) := by decide +kernel
theorem d12_ask_7 : decode cX12_ask 7 = .ok (.iload_n 2, 1) := by decide +kernel
theorem d12_ask_8 : decode cX12_ask 8 = .ok (.iload_n 3, 1) := by decide +kernel
theorem d12_ask_9 : decode cX12_ask 9 = .ok (.invokevirtual 439, 3) := by decide +kernel
theorem d12_ask_12 : decode cX12_ask 12 = .ok (.ifCond .ne 5, 3) := by decide +kernel
theorem d12_ask_15 : decode cX12_ask 15 = .ok (.iconst (-1), 1) := by decide +kernel
theorem d12_ask_16 : decode cX12_ask 16 = .ok (.ireturn, 1) := by decide +kernel
theorem d12_ask_17 : decode cX12_ask 17 = .ok (.aload_n 0, 1) := by decide +kernel
theorem d12_ask_18 : decode cX12_ask 18 = .ok (.getfield 426, 3) := by decide +kernel
theorem d12_ask_21 : decode cX12_ask 21 = .ok (.iconst 2, 1) := by decide +kernel
theorem d12_ask_22 : decode cX12_ask 22 = .ok (.if_icmp .ge 10, 3) := by decide +kernel
theorem d12_ask_25 : decode cX12_ask 25 = .ok (.aload_n 0, 1) := by decide +kernel
theorem d12_ask_26 : decode cX12_ask 26 = .ok (.bipush 8, 2) := by decide +kernel
theorem d12_ask_28 : decode cX12_ask 28 = .ok (.invokevirtual 265, 3) := by decide +kernel
theorem d12_ask_31 : decode cX12_ask 31 = .ok (.ireturn, 1) := by decide +kernel
theorem d12_ask_32 : decode cX12_ask 32 = .ok (.iconst (-1), 1) := by decide +kernel
theorem d12_ask_33 : decode cX12_ask 33 = .ok (.istore 4, 2) := by decide +kernel
theorem d12_ask_35 : decode cX12_ask 35 = .ok (.iconst 0, 1) := by decide +kernel
theorem d12_ask_36 : decode cX12_ask 36 = .ok (.istore 5, 2) := by decide +kernel
theorem d12_ask_38 : decode cX12_ask 38 = .ok (.iconst 0, 1) := by decide +kernel
theorem d12_ask_39 : decode cX12_ask 39 = .ok (.istore 6, 2) := by decide +kernel
theorem d12_ask_41 : decode cX12_ask 41 = .ok (.iload 6, 2) := by decide +kernel
theorem d12_ask_43 : decode cX12_ask 43 = .ok (.aload_n 0, 1) := by decide +kernel
theorem d12_ask_44 : decode cX12_ask 44 = .ok (.getfield 35, 3) := by decide +kernel
theorem d12_ask_47 : decode cX12_ask 47 = .ok (.iconst 0, 1) := by decide +kernel
theorem d12_ask_48 : decode cX12_ask 48 = .ok (.iaload, 1) := by decide +kernel
theorem d12_ask_49 : decode cX12_ask 49 = .ok (.if_icmp .ge 65, 3) := by decide +kernel
theorem d12_ask_52 : decode cX12_ask 52 = .ok (.aload_n 0, 1) := by decide +kernel
theorem d12_ask_53 : decode cX12_ask 53 = .ok (.getfield 47, 3) := by decide +kernel
theorem d12_ask_56 : decode cX12_ask 56 = .ok (.iload 6, 2) := by decide +kernel
theorem d12_ask_58 : decode cX12_ask 58 = .ok (.iaload, 1) := by decide +kernel
theorem d12_ask_59 : decode cX12_ask 59 = .ok (.aload_n 0, 1) := by decide +kernel
theorem d12_ask_60 : decode cX12_ask 60 = .ok (.getfield 426, 3) := by decide +kernel
theorem d12_ask_63 : decode cX12_ask 63 = .ok (.aload_n 0, 1) := by decide +kernel
theorem d12_ask_64 : decode cX12_ask 64 = .ok (.getfield 47, 3) := by decide +kernel
theorem d12_ask_67 : decode cX12_ask 67 = .ok (.iload 6, 2) := by decide +kernel
theorem d12_ask_69 : decode cX12_ask 69 = .ok (.iaload, 1) := by decide +kernel
theorem d12_ask_70 : decode cX12_ask 70 = .ok (.isub, 1) := by decide +kernel
theorem d12_ask_71 : decode cX12_ask 71 = .ok (.invokestatic 165, 3) := by decide +kernel
theorem d12_ask_74 : decode cX12_ask 74 = .ok (.istore 7, 2) := by decide +kernel
theorem d12_ask_76 : decode cX12_ask 76 = .ok (.iload_n 1, 1) := by decide +kernel
theorem d12_ask_77 : decode cX12_ask 77 = .ok (.iload 6, 2) := by decide +kernel
theorem d12_ask_79 : decode cX12_ask 79 = .ok (.invokestatic 92, 3) := by decide +kernel
theorem d12_ask_82 : decode cX12_ask 82 = .ok (.ifCond .eq 26, 3) := by decide +kernel
theorem d12_ask_85 : decode cX12_ask 85 = .ok (.iload 4, 2) := by decide +kernel
theorem d12_ask_87 : decode cX12_ask 87 = .ok (.ifCond .lt 13, 3) := by decide +kernel
theorem d12_ask_90 : decode cX12_ask 90 = .ok (.iload 7, 2) := by decide +kernel
theorem d12_ask_92 : decode cX12_ask 92 = .ok (.iload 5, 2) := by decide +kernel
theorem d12_ask_94 : decode cX12_ask 94 = .ok (.if_icmp .lt 6, 3) := by decide +kernel
theorem d12_ask_97 : decode cX12_ask 97 = .ok (.goto 11, 3) := by decide +kernel
theorem d12_ask_100 : decode cX12_ask 100 = .ok (.iload 6, 2) := by decide +kernel
theorem d12_ask_102 : decode cX12_ask 102 = .ok (.istore 4, 2) := by decide +kernel
theorem d12_ask_104 : decode cX12_ask 104 = .ok (.iload 7, 2) := by decide +kernel
theorem d12_ask_106 : decode cX12_ask 106 = .ok (.istore 5, 2) := by decide +kernel
theorem d12_ask_108 : decode cX12_ask 108 = .ok (.iinc 6 1, 3) := by decide +kernel
theorem d12_ask_111 : decode cX12_ask 111 = .ok (.goto (-70), 3) := by decide +kernel
theorem d12_ask_114 : decode cX12_ask 114 = .ok (.iload 4, 2) := by decide +kernel
theorem d12_ask_116 : decode cX12_ask 116 = .ok (.ireturn, 1) := by decide +kernel
abbrev K12_ask : CK Int32 := (enI, (some .int), 8, 6, none)
noncomputable def F12_ask_b108 (N : Nat) (k41 : Int32 × Int32 × Int32 × Int32 × Ms → Option (Int32 × Ms)) (l1 : Int32) (l4 : Int32) (l5 : Int32) (l6 : Int32) (σ : Ms) : Option (Int32 × Ms) :=
  k41 (l1, l4, l5, (l6 + (1 : Int32)), σ)
noncomputable def F12_ask_b100 (N : Nat) (k41 : Int32 × Int32 × Int32 × Int32 × Ms → Option (Int32 × Ms)) (l1 : Int32) (l6 : Int32) (l7 : Int32) (σ : Ms) : Option (Int32 × Ms) :=
  F12_ask_b108 N k41 l1 l6 l7 l6 σ
noncomputable def F12_ask_b41B (N : Nat) (k41 : Int32 × Int32 × Int32 × Int32 × Ms → Option (Int32 × Ms)) (l1 : Int32) (l4 : Int32) (l5 : Int32) (l6 : Int32) (σ : Ms) : Option (Int32 × Ms) :=
  ck (ixb (0 : Int32) 1780) (if (σ.1 5 (0 : Int32).toNatClampNeg) ≤ l6 then (some (l4, σ))
  else (ck (ixb l6 20) (ck (ixb l6 20) (bn (FJ9_max_7cf53 (σ.1 9 l6.toNatClampNeg) ((σ.1 0 33) - (σ.1 9 l6.toNatClampNeg)) σ) (fun r1 t2 => bn (F12_has l1 l6 t2) (fun r3 t4 => if r3 = 0 then (F12_ask_b108 N k41 l1 l4 l5 l6 t4)
  else (if l4 < 0 then (F12_ask_b100 N k41 l1 l6 r1 t4)
  else (if r1 < l5 then (F12_ask_b100 N k41 l1 l6 r1 t4)
  else (F12_ask_b108 N k41 l1 l4 l5 l6 t4)))))))))
noncomputable def F12_ask_b41 (N : Nat) (l1 : Int32) (l4 : Int32) (l5 : Int32) (l6 : Int32) (σ : Ms) : Option (Int32 × Ms) :=
  fx N (fun k x => F12_ask_b41B N k x.1 x.2.1 x.2.2.1 x.2.2.2.1 x.2.2.2.2) (l1, l4, l5, l6, σ)
noncomputable def F12_ask (N : Nat) (p0 : Int32) (p1 : Int32) (p2 : Int32) (σ : Ms) : Option (Int32 × Ms) :=
  lt (sI σ 0 1 (0 : Int32)) (fun t5 => bn (F12_isAsked N p0 p1 p2 t5) (fun r6 t7 => if r6 ≠ 0 then (if (2 : Int32) ≤ (t7.1 0 33) then (F12_ask_b41 N p0 (-1 : Int32) (0 : Int32) (0 : Int32) t7)
  else (bn (F12_refuse (8 : Int32) t7) (fun r8 t9 => some (r8, t9))))
  else (some ((-1 : Int32), t7))))
set_option maxRecDepth 100000 in
theorem v12_ask_b108 (N : Nat) (k41 : Int32 × Int32 × Int32 × Int32 × Ms → Option (Int32 × Ms)) (hk41 : ∀ (l1 : Int32) (l4 : Int32) (l5 : Int32) (l6 : Int32) (τ : Ms), VF (K12_ask) cX12_ask RX12 (k41 (l1, l4, l5, l6, τ)) τ 41 [(0, .ref 0), (1, .int l1), (4, .int l4), (5, .int l5), (6, .int l6)] []) (l1 : Int32) (l4 : Int32) (l5 : Int32) (l6 : Int32) (σ : Ms) : VF (K12_ask) cX12_ask RX12 (F12_ask_b108 N k41 l1 l4 l5 l6 σ) σ 108 [(0, .ref 0), (1, .int l1), (4, .int l4), (5, .int l5), (6, .int l6)] [] := by
  unfold F12_ask_b108
  refine v_iinc (lv' := [(6, .int (l6 + (1 : Int32))), (0, .ref 0), (1, .int l1), (4, .int l4), (5, .int l5)]) d12_ask_108 4 rfl (by rw [ki_1]) (by decide) rfl ?_
  refine v_goto (tgt := 41) d12_ask_111 (by decide) ?_
  refine v_sub [1, 2, 3, 4, 0] rfl ?_
  exact hk41 l1 l4 l5 (l6 + (1 : Int32)) σ
set_option maxRecDepth 100000 in
theorem v12_ask_b100 (N : Nat) (k41 : Int32 × Int32 × Int32 × Int32 × Ms → Option (Int32 × Ms)) (hk41 : ∀ (l1 : Int32) (l4 : Int32) (l5 : Int32) (l6 : Int32) (τ : Ms), VF (K12_ask) cX12_ask RX12 (k41 (l1, l4, l5, l6, τ)) τ 41 [(0, .ref 0), (1, .int l1), (4, .int l4), (5, .int l5), (6, .int l6)] []) (l1 : Int32) (l6 : Int32) (l7 : Int32) (σ : Ms) : VF (K12_ask) cX12_ask RX12 (F12_ask_b100 N k41 l1 l6 l7 σ) σ 100 [(0, .ref 0), (1, .int l1), (6, .int l6), (7, .int l7)] [] := by
  unfold F12_ask_b100
  refine v_iload d12_ask_100 2 rfl ?_
  refine v_istore (lv' := [(4, .int l6), (0, .ref 0), (1, .int l1), (6, .int l6), (7, .int l7)]) d12_ask_102 (by decide) rfl ?_
  refine v_iload d12_ask_104 4 rfl ?_
  refine v_istore (lv' := [(5, .int l7), (4, .int l6), (0, .ref 0), (1, .int l1), (6, .int l6), (7, .int l7)]) d12_ask_106 (by decide) rfl ?_
  refine v_sub [2, 3, 1, 0, 4] rfl ?_
  exact v12_ask_b108 N k41 hk41 l1 l6 l7 l6 σ
set_option maxRecDepth 100000 in
theorem v12_ask_b41B (N : Nat) (k41 : Int32 × Int32 × Int32 × Int32 × Ms → Option (Int32 × Ms)) (hk41 : ∀ (l1 : Int32) (l4 : Int32) (l5 : Int32) (l6 : Int32) (τ : Ms), VF (K12_ask) cX12_ask RX12 (k41 (l1, l4, l5, l6, τ)) τ 41 [(0, .ref 0), (1, .int l1), (4, .int l4), (5, .int l5), (6, .int l6)] []) (l1 : Int32) (l4 : Int32) (l5 : Int32) (l6 : Int32) (σ : Ms) : VF (K12_ask) cX12_ask RX12 (F12_ask_b41B N k41 l1 l4 l5 l6 σ) σ 41 [(0, .ref 0), (1, .int l1), (4, .int l4), (5, .int l5), (6, .int l6)] [] := by
  unfold F12_ask_b41B
  refine v_iload d12_ask_41 4 rfl ?_
  refine v_aload_n d12_ask_43 0 rfl rfl ?_
  refine v_getR d12_ask_44 faX12_35 ic_0 rfl ?_
  refine v_iconst d12_ask_47 ki_0 ?_
  refine v_iald d12_ask_48 ic_5 ?_
  refine v_icmp_ge (tgt := 114) d12_ask_49 (by decide) ?_ ?_
  · refine v_iload d12_ask_114 2 rfl ?_
    exact v_iret d12_ask_116 rfl rfl rfl
  · refine v_aload_n d12_ask_52 0 rfl rfl ?_
    refine v_getR d12_ask_53 faX12_47 ic_0 rfl ?_
    refine v_iload d12_ask_56 4 rfl ?_
    refine v_iald d12_ask_58 ic_9 ?_
    refine v_aload_n d12_ask_59 0 rfl rfl ?_
    refine v_getI d12_ask_60 faX12_426 ic_0 ?_
    refine v_aload_n d12_ask_63 0 rfl rfl ?_
    refine v_getR d12_ask_64 faX12_47 ic_0 rfl ?_
    refine v_iload d12_ask_67 4 rfl ?_
    refine v_iald d12_ask_69 ic_9 ?_
    refine v_isub d12_ask_70 ?_
    refine v_callS2i d12_ask_71 (mcJ9_max_7cf53 (σ.1 9 l6.toNatClampNeg) ((σ.1 0 33) - (σ.1 9 l6.toNatClampNeg)) σ) ysJ9_max_7cf53 mlX12_165 (by decide) (Nat.le_of_ble_eq_true rfl) fun r1 t2 => ?_
    refine v_istore (lv' := [(7, .int r1), (0, .ref 0), (1, .int l1), (4, .int l4), (5, .int l5), (6, .int l6)]) d12_ask_74 (by decide) rfl ?_
    refine v_iload_n d12_ask_76 2 rfl rfl ?_
    refine v_iload d12_ask_77 5 rfl ?_
    refine v_callS2i d12_ask_79 (mc12_has l1 l6 t2) ys12_has mlX12_92 (by decide) (Nat.le_of_ble_eq_true rfl) fun r3 t4 => ?_
    refine v_if_eq (tgt := 108) d12_ask_82 (by decide) ?_ ?_
    · refine v_sub [1, 2, 3, 4, 5] rfl ?_
      exact v12_ask_b108 N k41 hk41 l1 l4 l5 l6 t4
    · refine v_iload d12_ask_85 3 rfl ?_
      refine v_if_lt (tgt := 100) d12_ask_87 (by decide) ?_ ?_
      · refine v_sub [1, 2, 5, 0] rfl ?_
        exact v12_ask_b100 N k41 hk41 l1 l6 r1 t4
      · refine v_iload d12_ask_90 0 rfl ?_
        refine v_iload d12_ask_92 4 rfl ?_
        refine v_icmp_lt (tgt := 100) d12_ask_94 (by decide) ?_ ?_
        · refine v_sub [1, 2, 5, 0] rfl ?_
          exact v12_ask_b100 N k41 hk41 l1 l6 r1 t4
        · refine v_goto (tgt := 108) d12_ask_97 (by decide) ?_
          refine v_sub [1, 2, 3, 4, 5] rfl ?_
          exact v12_ask_b108 N k41 hk41 l1 l4 l5 l6 t4
theorem v12_ask_b41 (N : Nat) (l1 : Int32) (l4 : Int32) (l5 : Int32) (l6 : Int32) (σ : Ms) : VF (K12_ask) cX12_ask RX12 (F12_ask_b41 N l1 l4 l5 l6 σ) σ 41 [(0, .ref 0), (1, .int l1), (4, .int l4), (5, .int l5), (6, .int l6)] [] := v_fx (σo := fun x => x.2.2.2.2) (lo := fun x => [(0, .ref 0), (1, .int x.1), (4, .int x.2.1), (5, .int x.2.2.1), (6, .int x.2.2.2.1)]) (fun k hk x => v12_ask_b41B N k (fun l1 l4 l5 l6 τ => hk (l1, l4, l5, l6, τ)) x.1 x.2.1 x.2.2.1 x.2.2.2.1 x.2.2.2.2) N (l1, l4, l5, l6, σ)
set_option maxRecDepth 100000 in
theorem mc12_ask (N : Nat) (p0 : Int32) (p1 : Int32) (p2 : Int32) (σ : Ms) : MC enI yX12_ask cX12_ask 8 (some .int) 6 (F12_ask N p0 p1 p2 σ) σ [.ref 0, .int p0, .int p1, .int p2] := by
  refine MC.i (by decide +kernel) (Nat.le_of_ble_eq_true rfl) ?_
  show VF (K12_ask) cX12_ask RX12 (F12_ask N p0 p1 p2 σ) σ 0 [(0, .ref 0), (1, .int p0), (2, .int p1), (3, .int p2)] []
  unfold F12_ask
  refine v_aload_n d12_ask_0 0 rfl rfl ?_
  refine v_iconst d12_ask_1 ki_0 ?_
  refine v_putI d12_ask_2 faX12_53 fp9_1 ic_0 ?_
  refine v_lts fun t5 => ?_
  refine v_aload_n d12_ask_5 0 rfl rfl ?_
  refine v_iload_n d12_ask_6 1 rfl rfl ?_
  refine v_iload_n d12_ask_7 2 rfl rfl ?_
  refine v_iload_n d12_ask_8 3 rfl rfl ?_
  refine v_callV3i d12_ask_9 (mc12_isAsked N p0 p1 p2 t5) yv12_isAsked mlX12_439 (Recv.obj ic_0 rfl) (by decide) (Nat.le_of_ble_eq_true rfl) fun r6 t7 => ?_
  refine v_if_ne (tgt := 17) d12_ask_12 (by decide) ?_ ?_
  · refine v_aload_n d12_ask_17 0 rfl rfl ?_
    refine v_getI d12_ask_18 faX12_426 ic_0 ?_
    refine v_iconst d12_ask_21 ki_2 ?_
    refine v_icmp_ge (tgt := 32) d12_ask_22 (by decide) ?_ ?_
    · refine v_iconst d12_ask_32 ki_m1 ?_
      refine v_istore (lv' := [(4, .int (-1 : Int32)), (0, .ref 0), (1, .int p0), (2, .int p1), (3, .int p2)]) d12_ask_33 (by decide) rfl ?_
      refine v_iconst d12_ask_35 ki_0 ?_
      refine v_istore (lv' := [(5, .int (0 : Int32)), (4, .int (-1 : Int32)), (0, .ref 0), (1, .int p0), (2, .int p1), (3, .int p2)]) d12_ask_36 (by decide) rfl ?_
      refine v_iconst d12_ask_38 ki_0 ?_
      refine v_istore (lv' := [(6, .int (0 : Int32)), (5, .int (0 : Int32)), (4, .int (-1 : Int32)), (0, .ref 0), (1, .int p0), (2, .int p1), (3, .int p2)]) d12_ask_39 (by decide) rfl ?_
      refine v_sub [3, 4, 2, 1, 0] rfl ?_
      exact v12_ask_b41 N p0 (-1 : Int32) (0 : Int32) (0 : Int32) t7
    · refine v_aload_n d12_ask_25 0 rfl rfl ?_
      refine v_bipush d12_ask_26 kb_8 ?_
      refine v_callV1i d12_ask_28 (mc12_refuse (8 : Int32) t7) yv12_refuse mlX12_265 (Recv.obj ic_0 rfl) (by decide) (Nat.le_of_ble_eq_true rfl) fun r8 t9 => ?_
      exact v_iret d12_ask_31 rfl rfl rfl
  · refine v_iconst d12_ask_15 ki_m1 ?_
    exact v_iret d12_ask_16 rfl rfl rfl
theorem d12_isBalanced_0 : decode cX12_isBalanced 0 = .ok (.iload_n 1, 1) := by decide +kernel
theorem d12_isBalanced_1 : decode cX12_isBalanced 1 = .ok (.aload_n 0, 1) := by decide +kernel
theorem d12_isBalanced_2 : decode cX12_isBalanced 2 = .ok (.invokevirtual 268, 3) := by decide +kernel
theorem d12_isBalanced_5 : decode cX12_isBalanced 5 = .ok (.iconst (-1), 1) := by decide +kernel
theorem d12_isBalanced_6 : decode cX12_isBalanced 6 = .ok (.ixor, 1) := by decide +kernel
theorem d12_isBalanced_7 : decode cX12_isBalanced 7 = .ok (.iand, 1) := by decide +kernel
theorem d12_isBalanced_8 : decode cX12_isBalanced 8 = .ok (.ifCond .eq 5, 3) := by decide +kernel
theorem d12_isBalanced_11 : decode cX12_isBalanced 11 = .ok (.iconst 0, 1) := by decide +kernel
theorem d12_isBalanced_12 : decode cX12_isBalanced 12 = .ok (.ireturn, 1) := by decide +kernel
theorem d12_isBalanced_13 : decode cX12_isBalanced 13 = .ok (.aload_n 0, 1) := by decide +kernel
theorem d12_isBalanced_14 : decode cX12_isBalanced 14 = .ok (.aload_n 0, 1) := by decide +kernel
theorem d12_isBalanced_15 : decode cX12_isBalanced 15 = .ok (.aload_n 0, 1) := by decide +kernel
theorem d12_isBalanced_16 : decode cX12_isBalanced 16 = .ok (.invokevirtual 268, 3) := by decide +kernel
theorem d12_isBalanced_19 : decode cX12_isBalanced 19 = .ok (.iload_n 1, 1) := by decide +kernel
theorem d12_isBalanced_20 : decode cX12_isBalanced 20 = .ok (.invokevirtual 274, 3) := by decide +kernel
theorem d12_isBalanced_23 : decode cX12_isBalanced 23 = .ok (.iconst 0, 1) := by decide +kernel
theorem d12_isBalanced_24 : decode cX12_isBalanced 24 = .ok (.iconst 0, 1) := by decide +kernel
theorem d12_isBalanced_25 : decode cX12_isBalanced 25 = .ok (.invokevirtual 321, 3) := by decide +kernel
theorem d12_isBalanced_28 : decode cX12_isBalanced 28 = .ok (.aload_n 0, 1) := by decide +kernel
theorem d12_isBalanced_29 : decode cX12_isBalanced 29 = .ok (.getfield 312, 3) := by decide +kernel
theorem d12_isBalanced_32 : decode cX12_isBalanced 32 = .ok (.lconst 0, 1) := by decide +kernel
theorem d12_isBalanced_33 : decode cX12_isBalanced 33 = .ok (.lcmp, 1) := by decide +kernel
theorem d12_isBalanced_34 : decode cX12_isBalanced 34 = .ok (.ifCond .ne 14, 3) := by decide +kernel
theorem d12_isBalanced_37 : decode cX12_isBalanced 37 = .ok (.aload_n 0, 1) := by decide +kernel
theorem d12_isBalanced_38 : decode cX12_isBalanced 38 = .ok (.getfield 315, 3) := by decide +kernel
theorem d12_isBalanced_41 : decode cX12_isBalanced 41 = .ok (.ifCond .ne 7, 3) := by decide +kernel
theorem d12_isBalanced_44 : decode cX12_isBalanced 44 = .ok (.iconst 1, 1) := by decide +kernel
theorem d12_isBalanced_45 : decode cX12_isBalanced 45 = .ok (.goto 4, 3) := by decide +kernel
theorem d12_isBalanced_48 : decode cX12_isBalanced 48 = .ok (.iconst 0, 1) := by decide +kernel
theorem d12_isBalanced_49 : decode cX12_isBalanced 49 = .ok (.ireturn, 1) := by decide +kernel
abbrev K12_isBalanced : CK Int32 := (enI, (some .boolean), 2, 4, none)
noncomputable def F12_isBalanced (N : Nat) (p0 : Int32) (σ : Ms) : Option (Int32 × Ms) :=
  bn (F12_standing N σ) (fun r1 t2 => if (p0 &&& (r1 ^^^ (-1 : Int32))) = 0 then (bn (F12_standing N t2) (fun r3 t4 => bn (F12_standsBut N r3 p0 t4) (fun r5 t6 => bn (F12_laysWorths N r5 (0 : Int32) (0 : Int32) t6) (fun r7 t8 => if (lg_cmp (t8.2 0 25) (0 : Int64)) ≠ 0 then (some ((0 : Int32), t8))
  else (if (t8.1 0 26) ≠ 0 then (some ((0 : Int32), t8))
  else (some ((1 : Int32), t8)))))))
  else (some ((0 : Int32), t2)))
set_option maxRecDepth 100000 in
theorem mc12_isBalanced (N : Nat) (p0 : Int32) (σ : Ms) : MC enI yX12_isBalanced cX12_isBalanced 2 (some .boolean) 4 (F12_isBalanced N p0 σ) σ [.ref 0, .int p0] := by
  refine MC.i (by decide +kernel) (Nat.le_of_ble_eq_true rfl) ?_
  show VF (K12_isBalanced) cX12_isBalanced RX12 (F12_isBalanced N p0 σ) σ 0 [(0, .ref 0), (1, .int p0)] []
  unfold F12_isBalanced
  refine v_iload_n d12_isBalanced_0 1 rfl rfl ?_
  refine v_aload_n d12_isBalanced_1 0 rfl rfl ?_
  refine v_callV0i d12_isBalanced_2 (mc12_standing N σ) yv12_standing mlX12_268 (Recv.obj ic_0 rfl) (by decide) (Nat.le_of_ble_eq_true rfl) fun r1 t2 => ?_
  refine v_iconst d12_isBalanced_5 ki_m1 ?_
  refine v_ixor d12_isBalanced_6 ?_
  refine v_iand d12_isBalanced_7 ?_
  refine v_if_eq (tgt := 13) d12_isBalanced_8 (by decide) ?_ ?_
  · refine v_aload_n d12_isBalanced_13 0 rfl rfl ?_
    refine v_aload_n d12_isBalanced_14 0 rfl rfl ?_
    refine v_aload_n d12_isBalanced_15 0 rfl rfl ?_
    refine v_callV0i d12_isBalanced_16 (mc12_standing N t2) yv12_standing mlX12_268 (Recv.obj ic_0 rfl) (by decide) (Nat.le_of_ble_eq_true rfl) fun r3 t4 => ?_
    refine v_iload_n d12_isBalanced_19 1 rfl rfl ?_
    refine v_callV2i d12_isBalanced_20 (mc12_standsBut N r3 p0 t4) yv12_standsBut mlX12_274 (Recv.obj ic_0 rfl) (by decide) (Nat.le_of_ble_eq_true rfl) fun r5 t6 => ?_
    refine v_iconst d12_isBalanced_23 ki_0 ?_
    refine v_iconst d12_isBalanced_24 ki_0 ?_
    refine v_callV3v d12_isBalanced_25 (mc12_laysWorths N r5 (0 : Int32) (0 : Int32) t6) yv12_laysWorths mlX12_321 (Recv.obj ic_0 rfl) (by decide) (Nat.le_of_ble_eq_true rfl) fun r7 t8 => ?_
    refine v_aload_n d12_isBalanced_28 0 rfl rfl ?_
    refine v_getL d12_isBalanced_29 faX12_312 ic_0 ?_
    refine v_lconst d12_isBalanced_32 kl_0 ?_
    refine v_lcmp d12_isBalanced_33 ?_
    refine v_if_ne (tgt := 48) d12_isBalanced_34 (by decide) ?_ ?_
    · refine v_iconst d12_isBalanced_48 ki_0 ?_
      exact v_iret (ty := .boolean) d12_isBalanced_49 rfl rfl rfl
    · refine v_aload_n d12_isBalanced_37 0 rfl rfl ?_
      refine v_getI d12_isBalanced_38 faX12_315 ic_0 ?_
      refine v_if_ne (tgt := 48) d12_isBalanced_41 (by decide) ?_ ?_
      · refine v_iconst d12_isBalanced_48 ki_0 ?_
        exact v_iret (ty := .boolean) d12_isBalanced_49 rfl rfl rfl
      · refine v_iconst d12_isBalanced_44 ki_1 ?_
        refine v_goto (tgt := 49) d12_isBalanced_45 (by decide) ?_
        exact v_iret (ty := .boolean) d12_isBalanced_49 rfl rfl rfl
  · refine v_iconst d12_isBalanced_11 ki_0 ?_
    exact v_iret (ty := .boolean) d12_isBalanced_12 rfl rfl rfl
theorem d12_balances_0 : decode cX12_balances 0 = .ok (.aload_n 0, 1) := by decide +kernel
theorem d12_balances_1 : decode cX12_balances 1 = .ok (.iconst 0, 1) := by decide +kernel
theorem d12_balances_2 : decode cX12_balances 2 = .ok (.invokevirtual 442, 3) := by decide +kernel
theorem d12_balances_5 : decode cX12_balances 5 = .ok (.ifCond .eq 5, 3) := by decide +kernel
theorem d12_balances_8 : decode cX12_balances 8 = .ok (.iconst 0, 1) := by decide +kernel
theorem d12_balances_9 : decode cX12_balances 9 = .ok (.ireturn, 1) := by decide +kernel
theorem d12_balances_10 : decode cX12_balances 10 = .ok (.iconst 0, 1) := by decide +kernel
theorem d12_balances_11 : decode cX12_balances 11 = .ok (.istore_n 1, 1) := by decide +kernel
theorem d12_balances_12 : decode cX12_balances 12 = .ok (.iload_n 1, 1) := by decide +kernel
theorem d12_balances_13 : decode cX12_balances 13 = .ok (.aload_n 0, 1) := by decide +kernel
theorem d12_balances_14 : decode cX12_balances 14 = .ok (.getfield 35, 3) := by decide +kernel
theorem d12_balances_17 : decode cX12_balances 17 = .ok (.iconst 0, 1) := by decide +kernel
theorem d12_balances_18 : decode cX12_balances 18 = .ok (.iaload, 1) := by decide +kernel
theorem d12_balances_19 : decode cX12_balances 19 = .ok (.if_icmp .ge 23, 3) := by decide +kernel
theorem d12_balances_22 : decode cX12_balances 22 = .ok (.aload_n 0, 1) := by decide +kernel
theorem d12_balances_23 : decode cX12_balances 23 = .ok (.iconst 1, 1) := by decide +kernel
theorem d12_balances_24 : decode cX12_balances 24 = .ok (.iload_n 1, 1) := by decide +kernel
theorem d12_balances_25 : decode cX12_balances 25 = .ok (.ishl, 1) := by decide +kernel
theorem d12_balances_26 : decode cX12_balances 26 = .ok (.invokevirtual 442, 3) := by decide +kernel
theorem d12_balances_29 : decode cX12_balances 29 = .ok (.ifCond .eq 7, 3) := by decide +kernel
theorem d12_balances_32 : decode cX12_balances 32 = .ok (.iconst 1, 1) := by decide +kernel
theorem d12_balances_33 : decode cX12_balances 33 = .ok (.iload_n 1, 1) := by decide +kernel
theorem d12_balances_34 : decode cX12_balances 34 = .ok (.ishl, 1) := by decide +kernel
theorem d12_balances_35 : decode cX12_balances 35 = .ok (.ireturn, 1) := by decide +kernel
theorem d12_balances_36 : decode cX12_balances 36 = .ok (.iinc 1 1, 3) := by decide +kernel
theorem d12_balances_39 : decode cX12_balances 39 = .ok (.goto (-27), 3) := by decide +kernel
theorem d12_balances_42 : decode cX12_balances 42 = .ok (.iconst 0, 1) := by decide +kernel
theorem d12_balances_43 : decode cX12_balances 43 = .ok (.istore_n 1, 1) := by decide +kernel
theorem d12_balances_44 : decode cX12_balances 44 = .ok (.iload_n 1, 1) := by decide +kernel
theorem d12_balances_45 : decode cX12_balances 45 = .ok (.aload_n 0, 1) := by decide +kernel
theorem d12_balances_46 : decode cX12_balances 46 = .ok (.getfield 35, 3) := by decide +kernel
theorem d12_balances_49 : decode cX12_balances 49 = .ok (.iconst 0, 1) := by decide +kernel
theorem d12_balances_50 : decode cX12_balances 50 = .ok (.iaload, 1) := by decide +kernel
theorem d12_balances_51 : decode cX12_balances 51 = .ok (.if_icmp .ge 44, 3) := by decide +kernel
theorem d12_balances_54 : decode cX12_balances 54 = .ok (.iconst 0, 1) := by decide +kernel
theorem d12_balances_55 : decode cX12_balances 55 = .ok (.istore_n 2, 1) := by decide +kernel
theorem d12_balances_56 : decode cX12_balances 56 = .ok (.iload_n 2, 1) := by decide +kernel
theorem d12_balances_57 : decode cX12_balances 57 = .ok (.iload_n 1, 1) := by decide +kernel
theorem d12_balances_58 : decode cX12_balances 58 = .ok (.if_icmp .ge 31, 3) := by decide +kernel
theorem d12_balances_61 : decode cX12_balances 61 = .ok (.aload_n 0, 1) := by decide +kernel
theorem d12_balances_62 : decode cX12_balances 62 = .ok (.iconst 1, 1) := by decide +kernel
theorem d12_balances_63 : decode cX12_balances 63 = .ok (.iload_n 1, 1) := by decide +kernel
theorem d12_balances_64 : decode cX12_balances 64 = .ok (.ishl, 1) := by decide +kernel
theorem d12_balances_65 : decode cX12_balances 65 = .ok (.iconst 1, 1) := by decide +kernel
theorem d12_balances_66 : decode cX12_balances 66 = .ok (.iload_n 2, 1) := by decide +kernel
theorem d12_balances_67 : decode cX12_balances 67 = .ok (.ishl, 1) := by decide +kernel
theorem d12_balances_68 : decode cX12_balances 68 = .ok (.ior, 1) := by decide +kernel
theorem d12_balances_69 : decode cX12_balances 69 = .ok (.invokevirtual 442, 3) := by decide +kernel
theorem d12_balances_72 : decode cX12_balances 72 = .ok (.ifCond .eq 11, 3) := by decide +kernel
theorem d12_balances_75 : decode cX12_balances 75 = .ok (.iconst 1, 1) := by decide +kernel
theorem d12_balances_76 : decode cX12_balances 76 = .ok (.iload_n 1, 1) := by decide +kernel
theorem d12_balances_77 : decode cX12_balances 77 = .ok (.ishl, 1) := by decide +kernel
theorem d12_balances_78 : decode cX12_balances 78 = .ok (.iconst 1, 1) := by decide +kernel
theorem d12_balances_79 : decode cX12_balances 79 = .ok (.iload_n 2, 1) := by decide +kernel
theorem d12_balances_80 : decode cX12_balances 80 = .ok (.ishl, 1) := by decide +kernel
theorem d12_balances_81 : decode cX12_balances 81 = .ok (.ior, 1) := by decide +kernel
theorem d12_balances_82 : decode cX12_balances 82 = .ok (.ireturn, 1) := by decide +kernel
theorem d12_balances_83 : decode cX12_balances 83 = .ok (.iinc 2 1, 3) := by decide +kernel
theorem d12_balances_86 : decode cX12_balances 86 = .ok (.goto (-30), 3) := by decide +kernel
theorem d12_balances_89 : decode cX12_balances 89 = .ok (.iinc 1 1, 3) := by decide +kernel
theorem d12_balances_92 : decode cX12_balances 92 = .ok (.goto (-48), 3) := by decide +kernel
theorem d12_balances_95 : decode cX12_balances 95 = .ok (.iconst 0, 1) := by decide +kernel
theorem d12_balances_96 : decode cX12_balances 96 = .ok (.istore_n 1, 1) := by decide +kernel
theorem d12_balances_97 : decode cX12_balances 97 = .ok (.iload_n 1, 1) := by decide +kernel
theorem d12_balances_98 : decode cX12_balances 98 = .ok (.aload_n 0, 1) := by decide +kernel
theorem d12_balances_99 : decode cX12_balances 99 = .ok (.getfield 35, 3) := by decide +kernel
theorem d12_balances_102 : decode cX12_balances 102 = .ok (.iconst 0, 1) := by decide +kernel
theorem d12_balances_103 : decode cX12_balances 103 = .ok (.iaload, 1) := by decide +kernel
theorem d12_balances_104 : decode cX12_balances 104 = .ok (.if_icmp .ge 65, 3) := by decide +kernel
theorem d12_balances_107 : decode cX12_balances 107 = .ok (.iconst 0, 1) := by decide +kernel
theorem d12_balances_108 : decode cX12_balances 108 = .ok (.istore_n 2, 1) := by decide +kernel
theorem d12_balances_109 : decode cX12_balances 109 = .ok (.iload_n 2, 1) := by decide +kernel
theorem d12_balances_110 : decode cX12_balances 110 = .ok (.iload_n 1, 1) := by decide +kernel
theorem d12_balances_111 : decode cX12_balances 111 = .ok (.if_icmp .ge 52, 3) := by decide +kernel
theorem d12_balances_114 : decode cX12_balances 114 = .ok (.iconst 0, 1) := by decide +kernel
theorem d12_balances_115 : decode cX12_balances 115 = .ok (.istore_n 3, 1) := by decide +kernel
theorem d12_balances_116 : decode cX12_balances 116 = .ok (.iload_n 3, 1) := by decide +kernel
theorem d12_balances_117 : decode cX12_balances 117 = .ok (.iload_n 2, 1) := by decide +kernel
theorem d12_balances_118 : decode cX12_balances 118 = .ok (.if_icmp .ge 39, 3) := by decide +kernel
theorem d12_balances_121 : decode cX12_balances 121 = .ok (.aload_n 0, 1) := by decide +kernel
theorem d12_balances_122 : decode cX12_balances 122 = .ok (.iconst 1, 1) := by decide +kernel
theorem d12_balances_123 : decode cX12_balances 123 = .ok (.iload_n 1, 1) := by decide +kernel
theorem d12_balances_124 : decode cX12_balances 124 = .ok (.ishl, 1) := by decide +kernel
theorem d12_balances_125 : decode cX12_balances 125 = .ok (.iconst 1, 1) := by decide +kernel
theorem d12_balances_126 : decode cX12_balances 126 = .ok (.iload_n 2, 1) := by decide +kernel
theorem d12_balances_127 : decode cX12_balances 127 = .ok (.ishl, 1) := by decide +kernel
theorem d12_balances_128 : decode cX12_balances 128 = .ok (.ior, 1) := by decide +kernel
theorem d12_balances_129 : decode cX12_balances 129 = .ok (.iconst 1, 1) := by decide +kernel
theorem d12_balances_130 : decode cX12_balances 130 = .ok (.iload_n 3, 1) := by decide +kernel
theorem d12_balances_131 : decode cX12_balances 131 = .ok (.ishl, 1) := by decide +kernel
theorem d12_balances_132 : decode cX12_balances 132 = .ok (.ior, 1) := by decide +kernel
theorem d12_balances_133 : decode cX12_balances 133 = .ok (.invokevirtual 442, 3) := by decide +kernel
theorem d12_balances_136 : decode cX12_balances 136 = .ok (.ifCond .eq 15, 3) := by decide +kernel
theorem d12_balances_139 : decode cX12_balances 139 = .ok (.iconst 1, 1) := by decide +kernel
theorem d12_balances_140 : decode cX12_balances 140 = .ok (.iload_n 1, 1) := by decide +kernel
theorem d12_balances_141 : decode cX12_balances 141 = .ok (.ishl, 1) := by decide +kernel
theorem d12_balances_142 : decode cX12_balances 142 = .ok (.iconst 1, 1) := by decide +kernel
theorem d12_balances_143 : decode cX12_balances 143 = .ok (.iload_n 2, 1) := by decide +kernel
theorem d12_balances_144 : decode cX12_balances 144 = .ok (.ishl, 1) := by decide +kernel
theorem d12_balances_145 : decode cX12_balances 145 = .ok (.ior, 1) := by decide +kernel
theorem d12_balances_146 : decode cX12_balances 146 = .ok (.iconst 1, 1) := by decide +kernel
theorem d12_balances_147 : decode cX12_balances 147 = .ok (.iload_n 3, 1) := by decide +kernel
theorem d12_balances_148 : decode cX12_balances 148 = .ok (.ishl, 1) := by decide +kernel
theorem d12_balances_149 : decode cX12_balances 149 = .ok (.ior, 1) := by decide +kernel
theorem d12_balances_150 : decode cX12_balances 150 = .ok (.ireturn, 1) := by decide +kernel
theorem d12_balances_151 : decode cX12_balances 151 = .ok (.iinc 3 1, 3) := by decide +kernel
theorem d12_balances_154 : decode cX12_balances 154 = .ok (.goto (-38), 3) := by decide +kernel
theorem d12_balances_157 : decode cX12_balances 157 = .ok (.iinc 2 1, 3) := by decide +kernel
theorem d12_balances_160 : decode cX12_balances 160 = .ok (.goto (-51), 3) := by decide +kernel
theorem d12_balances_163 : decode cX12_balances 163 = .ok (.iinc 1 1, 3) := by decide +kernel
theorem d12_balances_166 : decode cX12_balances 166 = .ok (.goto (-69), 3) := by decide +kernel
theorem d12_balances_169 : decode cX12_balances 169 = .ok (.iconst (-1), 1) := by decide +kernel
theorem d12_balances_170 : decode cX12_balances 170 = .ok (.ireturn, 1) := by decide +kernel
abbrev K12_balances : CK Int32 := (enI, (some .int), 4, 5, none)
noncomputable def F12_balances_b116B (N : Nat) (k97 : Int32 × Ms → Option (Int32 × Ms)) (k109 : Int32 × Int32 × Ms → Option (Int32 × Ms)) (k116 : Int32 × Int32 × Int32 × Ms → Option (Int32 × Ms)) (l1 : Int32) (l2 : Int32) (l3 : Int32) (σ : Ms) : Option (Int32 × Ms) :=
  if l2 ≤ l3 then (k109 (l1, (l2 + (1 : Int32)), σ))
  else (bn (F12_isBalanced N ((((1 : Int32) <<< (l1 &&& 31)) ||| ((1 : Int32) <<< (l2 &&& 31))) ||| ((1 : Int32) <<< (l3 &&& 31))) σ) (fun r1 t2 => if r1 = 0 then (k116 (l1, l2, (l3 + (1 : Int32)), t2))
  else (some (((((1 : Int32) <<< (l1 &&& 31)) ||| ((1 : Int32) <<< (l2 &&& 31))) ||| ((1 : Int32) <<< (l3 &&& 31))), t2))))
noncomputable def F12_balances_b116 (N : Nat) (k97 : Int32 × Ms → Option (Int32 × Ms)) (k109 : Int32 × Int32 × Ms → Option (Int32 × Ms)) (l1 : Int32) (l2 : Int32) (l3 : Int32) (σ : Ms) : Option (Int32 × Ms) :=
  fx N (fun k x => F12_balances_b116B N k97 k109 k x.1 x.2.1 x.2.2.1 x.2.2.2) (l1, l2, l3, σ)
noncomputable def F12_balances_b109B (N : Nat) (k97 : Int32 × Ms → Option (Int32 × Ms)) (k109 : Int32 × Int32 × Ms → Option (Int32 × Ms)) (l1 : Int32) (l2 : Int32) (σ : Ms) : Option (Int32 × Ms) :=
  if l1 ≤ l2 then (k97 ((l1 + (1 : Int32)), σ))
  else (F12_balances_b116 N k97 k109 l1 l2 (0 : Int32) σ)
noncomputable def F12_balances_b109 (N : Nat) (k97 : Int32 × Ms → Option (Int32 × Ms)) (l1 : Int32) (l2 : Int32) (σ : Ms) : Option (Int32 × Ms) :=
  fx N (fun k x => F12_balances_b109B N k97 k x.1 x.2.1 x.2.2) (l1, l2, σ)
noncomputable def F12_balances_b97B (N : Nat) (k97 : Int32 × Ms → Option (Int32 × Ms)) (l1 : Int32) (σ : Ms) : Option (Int32 × Ms) :=
  ck (ixb (0 : Int32) 1780) (if (σ.1 5 (0 : Int32).toNatClampNeg) ≤ l1 then (some ((-1 : Int32), σ))
  else (F12_balances_b109 N k97 l1 (0 : Int32) σ))
noncomputable def F12_balances_b97 (N : Nat) (l1 : Int32) (σ : Ms) : Option (Int32 × Ms) :=
  fx N (fun k x => F12_balances_b97B N k x.1 x.2) (l1, σ)
noncomputable def F12_balances_b56B (N : Nat) (k44 : Int32 × Ms → Option (Int32 × Ms)) (k56 : Int32 × Int32 × Ms → Option (Int32 × Ms)) (l1 : Int32) (l2 : Int32) (σ : Ms) : Option (Int32 × Ms) :=
  if l1 ≤ l2 then (k44 ((l1 + (1 : Int32)), σ))
  else (bn (F12_isBalanced N (((1 : Int32) <<< (l1 &&& 31)) ||| ((1 : Int32) <<< (l2 &&& 31))) σ) (fun r3 t4 => if r3 = 0 then (k56 (l1, (l2 + (1 : Int32)), t4))
  else (some ((((1 : Int32) <<< (l1 &&& 31)) ||| ((1 : Int32) <<< (l2 &&& 31))), t4))))
noncomputable def F12_balances_b56 (N : Nat) (k44 : Int32 × Ms → Option (Int32 × Ms)) (l1 : Int32) (l2 : Int32) (σ : Ms) : Option (Int32 × Ms) :=
  fx N (fun k x => F12_balances_b56B N k44 k x.1 x.2.1 x.2.2) (l1, l2, σ)
noncomputable def F12_balances_b44B (N : Nat) (k44 : Int32 × Ms → Option (Int32 × Ms)) (l1 : Int32) (σ : Ms) : Option (Int32 × Ms) :=
  ck (ixb (0 : Int32) 1780) (if (σ.1 5 (0 : Int32).toNatClampNeg) ≤ l1 then (F12_balances_b97 N (0 : Int32) σ)
  else (F12_balances_b56 N k44 l1 (0 : Int32) σ))
noncomputable def F12_balances_b44 (N : Nat) (l1 : Int32) (σ : Ms) : Option (Int32 × Ms) :=
  fx N (fun k x => F12_balances_b44B N k x.1 x.2) (l1, σ)
noncomputable def F12_balances_b12B (N : Nat) (k12 : Int32 × Ms → Option (Int32 × Ms)) (l1 : Int32) (σ : Ms) : Option (Int32 × Ms) :=
  ck (ixb (0 : Int32) 1780) (if (σ.1 5 (0 : Int32).toNatClampNeg) ≤ l1 then (F12_balances_b44 N (0 : Int32) σ)
  else (bn (F12_isBalanced N ((1 : Int32) <<< (l1 &&& 31)) σ) (fun r5 t6 => if r5 = 0 then (k12 ((l1 + (1 : Int32)), t6))
  else (some (((1 : Int32) <<< (l1 &&& 31)), t6)))))
noncomputable def F12_balances_b12 (N : Nat) (l1 : Int32) (σ : Ms) : Option (Int32 × Ms) :=
  fx N (fun k x => F12_balances_b12B N k x.1 x.2) (l1, σ)
noncomputable def F12_balances (N : Nat) (σ : Ms) : Option (Int32 × Ms) :=
  bn (F12_isBalanced N (0 : Int32) σ) (fun r7 t8 => if r7 = 0 then (F12_balances_b12 N (0 : Int32) t8)
  else (some ((0 : Int32), t8)))
set_option maxRecDepth 100000 in
theorem v12_balances_b116B (N : Nat) (k97 : Int32 × Ms → Option (Int32 × Ms)) (hk97 : ∀ (l1 : Int32) (τ : Ms), VF (K12_balances) cX12_balances RX12 (k97 (l1, τ)) τ 97 [(0, .ref 0), (1, .int l1)] []) (k109 : Int32 × Int32 × Ms → Option (Int32 × Ms)) (hk109 : ∀ (l1 : Int32) (l2 : Int32) (τ : Ms), VF (K12_balances) cX12_balances RX12 (k109 (l1, l2, τ)) τ 109 [(0, .ref 0), (1, .int l1), (2, .int l2)] []) (k116 : Int32 × Int32 × Int32 × Ms → Option (Int32 × Ms)) (hk116 : ∀ (l1 : Int32) (l2 : Int32) (l3 : Int32) (τ : Ms), VF (K12_balances) cX12_balances RX12 (k116 (l1, l2, l3, τ)) τ 116 [(0, .ref 0), (1, .int l1), (2, .int l2), (3, .int l3)] []) (l1 : Int32) (l2 : Int32) (l3 : Int32) (σ : Ms) : VF (K12_balances) cX12_balances RX12 (F12_balances_b116B N k97 k109 k116 l1 l2 l3 σ) σ 116 [(0, .ref 0), (1, .int l1), (2, .int l2), (3, .int l3)] [] := by
  unfold F12_balances_b116B
  refine v_iload_n d12_balances_116 3 rfl rfl ?_
  refine v_iload_n d12_balances_117 2 rfl rfl ?_
  refine v_icmp_ge (tgt := 157) d12_balances_118 (by decide) ?_ ?_
  · refine v_iinc (lv' := [(2, .int (l2 + (1 : Int32))), (0, .ref 0), (1, .int l1), (3, .int l3)]) d12_balances_157 2 rfl (by rw [ki_1]) (by decide) rfl ?_
    refine v_goto (tgt := 109) d12_balances_160 (by decide) ?_
    refine v_sub [1, 2, 0] rfl ?_
    exact hk109 l1 (l2 + (1 : Int32)) σ
  · refine v_aload_n d12_balances_121 0 rfl rfl ?_
    refine v_iconst d12_balances_122 ki_1 ?_
    refine v_iload_n d12_balances_123 1 rfl rfl ?_
    refine v_ishl d12_balances_124 ?_
    refine v_iconst d12_balances_125 ki_1 ?_
    refine v_iload_n d12_balances_126 2 rfl rfl ?_
    refine v_ishl d12_balances_127 ?_
    refine v_ior d12_balances_128 ?_
    refine v_iconst d12_balances_129 ki_1 ?_
    refine v_iload_n d12_balances_130 3 rfl rfl ?_
    refine v_ishl d12_balances_131 ?_
    refine v_ior d12_balances_132 ?_
    refine v_callV1i d12_balances_133 (mc12_isBalanced N ((((1 : Int32) <<< (l1 &&& 31)) ||| ((1 : Int32) <<< (l2 &&& 31))) ||| ((1 : Int32) <<< (l3 &&& 31))) σ) yv12_isBalanced mlX12_442 (Recv.obj ic_0 rfl) (by decide) (Nat.le_of_ble_eq_true rfl) fun r1 t2 => ?_
    refine v_if_eq (tgt := 151) d12_balances_136 (by decide) ?_ ?_
    · refine v_iinc (lv' := [(3, .int (l3 + (1 : Int32))), (0, .ref 0), (1, .int l1), (2, .int l2)]) d12_balances_151 3 rfl (by rw [ki_1]) (by decide) rfl ?_
      refine v_goto (tgt := 116) d12_balances_154 (by decide) ?_
      refine v_sub [1, 2, 3, 0] rfl ?_
      exact hk116 l1 l2 (l3 + (1 : Int32)) t2
    · refine v_iconst d12_balances_139 ki_1 ?_
      refine v_iload_n d12_balances_140 1 rfl rfl ?_
      refine v_ishl d12_balances_141 ?_
      refine v_iconst d12_balances_142 ki_1 ?_
      refine v_iload_n d12_balances_143 2 rfl rfl ?_
      refine v_ishl d12_balances_144 ?_
      refine v_ior d12_balances_145 ?_
      refine v_iconst d12_balances_146 ki_1 ?_
      refine v_iload_n d12_balances_147 3 rfl rfl ?_
      refine v_ishl d12_balances_148 ?_
      refine v_ior d12_balances_149 ?_
      exact v_iret d12_balances_150 rfl rfl rfl
theorem v12_balances_b116 (N : Nat) (k97 : Int32 × Ms → Option (Int32 × Ms)) (hk97 : ∀ (l1 : Int32) (τ : Ms), VF (K12_balances) cX12_balances RX12 (k97 (l1, τ)) τ 97 [(0, .ref 0), (1, .int l1)] []) (k109 : Int32 × Int32 × Ms → Option (Int32 × Ms)) (hk109 : ∀ (l1 : Int32) (l2 : Int32) (τ : Ms), VF (K12_balances) cX12_balances RX12 (k109 (l1, l2, τ)) τ 109 [(0, .ref 0), (1, .int l1), (2, .int l2)] []) (l1 : Int32) (l2 : Int32) (l3 : Int32) (σ : Ms) : VF (K12_balances) cX12_balances RX12 (F12_balances_b116 N k97 k109 l1 l2 l3 σ) σ 116 [(0, .ref 0), (1, .int l1), (2, .int l2), (3, .int l3)] [] := v_fx (σo := fun x => x.2.2.2) (lo := fun x => [(0, .ref 0), (1, .int x.1), (2, .int x.2.1), (3, .int x.2.2.1)]) (fun k hk x => v12_balances_b116B N k97 hk97 k109 hk109 k (fun l1 l2 l3 τ => hk (l1, l2, l3, τ)) x.1 x.2.1 x.2.2.1 x.2.2.2) N (l1, l2, l3, σ)
set_option maxRecDepth 100000 in
theorem v12_balances_b109B (N : Nat) (k97 : Int32 × Ms → Option (Int32 × Ms)) (hk97 : ∀ (l1 : Int32) (τ : Ms), VF (K12_balances) cX12_balances RX12 (k97 (l1, τ)) τ 97 [(0, .ref 0), (1, .int l1)] []) (k109 : Int32 × Int32 × Ms → Option (Int32 × Ms)) (hk109 : ∀ (l1 : Int32) (l2 : Int32) (τ : Ms), VF (K12_balances) cX12_balances RX12 (k109 (l1, l2, τ)) τ 109 [(0, .ref 0), (1, .int l1), (2, .int l2)] []) (l1 : Int32) (l2 : Int32) (σ : Ms) : VF (K12_balances) cX12_balances RX12 (F12_balances_b109B N k97 k109 l1 l2 σ) σ 109 [(0, .ref 0), (1, .int l1), (2, .int l2)] [] := by
  unfold F12_balances_b109B
  refine v_iload_n d12_balances_109 2 rfl rfl ?_
  refine v_iload_n d12_balances_110 1 rfl rfl ?_
  refine v_icmp_ge (tgt := 163) d12_balances_111 (by decide) ?_ ?_
  · refine v_iinc (lv' := [(1, .int (l1 + (1 : Int32))), (0, .ref 0), (2, .int l2)]) d12_balances_163 1 rfl (by rw [ki_1]) (by decide) rfl ?_
    refine v_goto (tgt := 97) d12_balances_166 (by decide) ?_
    refine v_sub [1, 0] rfl ?_
    exact hk97 (l1 + (1 : Int32)) σ
  · refine v_iconst d12_balances_114 ki_0 ?_
    refine v_istore_n (lv' := [(3, .int (0 : Int32)), (0, .ref 0), (1, .int l1), (2, .int l2)]) d12_balances_115 rfl (by decide) rfl ?_
    refine v_sub [1, 2, 3, 0] rfl ?_
    exact v12_balances_b116 N k97 hk97 k109 hk109 l1 l2 (0 : Int32) σ
theorem v12_balances_b109 (N : Nat) (k97 : Int32 × Ms → Option (Int32 × Ms)) (hk97 : ∀ (l1 : Int32) (τ : Ms), VF (K12_balances) cX12_balances RX12 (k97 (l1, τ)) τ 97 [(0, .ref 0), (1, .int l1)] []) (l1 : Int32) (l2 : Int32) (σ : Ms) : VF (K12_balances) cX12_balances RX12 (F12_balances_b109 N k97 l1 l2 σ) σ 109 [(0, .ref 0), (1, .int l1), (2, .int l2)] [] := v_fx (σo := fun x => x.2.2) (lo := fun x => [(0, .ref 0), (1, .int x.1), (2, .int x.2.1)]) (fun k hk x => v12_balances_b109B N k97 hk97 k (fun l1 l2 τ => hk (l1, l2, τ)) x.1 x.2.1 x.2.2) N (l1, l2, σ)
set_option maxRecDepth 100000 in
theorem v12_balances_b97B (N : Nat) (k97 : Int32 × Ms → Option (Int32 × Ms)) (hk97 : ∀ (l1 : Int32) (τ : Ms), VF (K12_balances) cX12_balances RX12 (k97 (l1, τ)) τ 97 [(0, .ref 0), (1, .int l1)] []) (l1 : Int32) (σ : Ms) : VF (K12_balances) cX12_balances RX12 (F12_balances_b97B N k97 l1 σ) σ 97 [(0, .ref 0), (1, .int l1)] [] := by
  unfold F12_balances_b97B
  refine v_iload_n d12_balances_97 1 rfl rfl ?_
  refine v_aload_n d12_balances_98 0 rfl rfl ?_
  refine v_getR d12_balances_99 faX12_35 ic_0 rfl ?_
  refine v_iconst d12_balances_102 ki_0 ?_
  refine v_iald d12_balances_103 ic_5 ?_
  refine v_icmp_ge (tgt := 169) d12_balances_104 (by decide) ?_ ?_
  · refine v_iconst d12_balances_169 ki_m1 ?_
    exact v_iret d12_balances_170 rfl rfl rfl
  · refine v_iconst d12_balances_107 ki_0 ?_
    refine v_istore_n (lv' := [(2, .int (0 : Int32)), (0, .ref 0), (1, .int l1)]) d12_balances_108 rfl (by decide) rfl ?_
    refine v_sub [1, 2, 0] rfl ?_
    exact v12_balances_b109 N k97 hk97 l1 (0 : Int32) σ
theorem v12_balances_b97 (N : Nat) (l1 : Int32) (σ : Ms) : VF (K12_balances) cX12_balances RX12 (F12_balances_b97 N l1 σ) σ 97 [(0, .ref 0), (1, .int l1)] [] := v_fx (σo := fun x => x.2) (lo := fun x => [(0, .ref 0), (1, .int x.1)]) (fun k hk x => v12_balances_b97B N k (fun l1 τ => hk (l1, τ)) x.1 x.2) N (l1, σ)
set_option maxRecDepth 100000 in
theorem v12_balances_b56B (N : Nat) (k44 : Int32 × Ms → Option (Int32 × Ms)) (hk44 : ∀ (l1 : Int32) (τ : Ms), VF (K12_balances) cX12_balances RX12 (k44 (l1, τ)) τ 44 [(0, .ref 0), (1, .int l1)] []) (k56 : Int32 × Int32 × Ms → Option (Int32 × Ms)) (hk56 : ∀ (l1 : Int32) (l2 : Int32) (τ : Ms), VF (K12_balances) cX12_balances RX12 (k56 (l1, l2, τ)) τ 56 [(0, .ref 0), (1, .int l1), (2, .int l2)] []) (l1 : Int32) (l2 : Int32) (σ : Ms) : VF (K12_balances) cX12_balances RX12 (F12_balances_b56B N k44 k56 l1 l2 σ) σ 56 [(0, .ref 0), (1, .int l1), (2, .int l2)] [] := by
  unfold F12_balances_b56B
  refine v_iload_n d12_balances_56 2 rfl rfl ?_
  refine v_iload_n d12_balances_57 1 rfl rfl ?_
  refine v_icmp_ge (tgt := 89) d12_balances_58 (by decide) ?_ ?_
  · refine v_iinc (lv' := [(1, .int (l1 + (1 : Int32))), (0, .ref 0), (2, .int l2)]) d12_balances_89 1 rfl (by rw [ki_1]) (by decide) rfl ?_
    refine v_goto (tgt := 44) d12_balances_92 (by decide) ?_
    refine v_sub [1, 0] rfl ?_
    exact hk44 (l1 + (1 : Int32)) σ
  · refine v_aload_n d12_balances_61 0 rfl rfl ?_
    refine v_iconst d12_balances_62 ki_1 ?_
    refine v_iload_n d12_balances_63 1 rfl rfl ?_
    refine v_ishl d12_balances_64 ?_
    refine v_iconst d12_balances_65 ki_1 ?_
    refine v_iload_n d12_balances_66 2 rfl rfl ?_
    refine v_ishl d12_balances_67 ?_
    refine v_ior d12_balances_68 ?_
    refine v_callV1i d12_balances_69 (mc12_isBalanced N (((1 : Int32) <<< (l1 &&& 31)) ||| ((1 : Int32) <<< (l2 &&& 31))) σ) yv12_isBalanced mlX12_442 (Recv.obj ic_0 rfl) (by decide) (Nat.le_of_ble_eq_true rfl) fun r3 t4 => ?_
    refine v_if_eq (tgt := 83) d12_balances_72 (by decide) ?_ ?_
    · refine v_iinc (lv' := [(2, .int (l2 + (1 : Int32))), (0, .ref 0), (1, .int l1)]) d12_balances_83 2 rfl (by rw [ki_1]) (by decide) rfl ?_
      refine v_goto (tgt := 56) d12_balances_86 (by decide) ?_
      refine v_sub [1, 2, 0] rfl ?_
      exact hk56 l1 (l2 + (1 : Int32)) t4
    · refine v_iconst d12_balances_75 ki_1 ?_
      refine v_iload_n d12_balances_76 1 rfl rfl ?_
      refine v_ishl d12_balances_77 ?_
      refine v_iconst d12_balances_78 ki_1 ?_
      refine v_iload_n d12_balances_79 2 rfl rfl ?_
      refine v_ishl d12_balances_80 ?_
      refine v_ior d12_balances_81 ?_
      exact v_iret d12_balances_82 rfl rfl rfl
theorem v12_balances_b56 (N : Nat) (k44 : Int32 × Ms → Option (Int32 × Ms)) (hk44 : ∀ (l1 : Int32) (τ : Ms), VF (K12_balances) cX12_balances RX12 (k44 (l1, τ)) τ 44 [(0, .ref 0), (1, .int l1)] []) (l1 : Int32) (l2 : Int32) (σ : Ms) : VF (K12_balances) cX12_balances RX12 (F12_balances_b56 N k44 l1 l2 σ) σ 56 [(0, .ref 0), (1, .int l1), (2, .int l2)] [] := v_fx (σo := fun x => x.2.2) (lo := fun x => [(0, .ref 0), (1, .int x.1), (2, .int x.2.1)]) (fun k hk x => v12_balances_b56B N k44 hk44 k (fun l1 l2 τ => hk (l1, l2, τ)) x.1 x.2.1 x.2.2) N (l1, l2, σ)
set_option maxRecDepth 100000 in
theorem v12_balances_b44B (N : Nat) (k44 : Int32 × Ms → Option (Int32 × Ms)) (hk44 : ∀ (l1 : Int32) (τ : Ms), VF (K12_balances) cX12_balances RX12 (k44 (l1, τ)) τ 44 [(0, .ref 0), (1, .int l1)] []) (l1 : Int32) (σ : Ms) : VF (K12_balances) cX12_balances RX12 (F12_balances_b44B N k44 l1 σ) σ 44 [(0, .ref 0), (1, .int l1)] [] := by
  unfold F12_balances_b44B
  refine v_iload_n d12_balances_44 1 rfl rfl ?_
  refine v_aload_n d12_balances_45 0 rfl rfl ?_
  refine v_getR d12_balances_46 faX12_35 ic_0 rfl ?_
  refine v_iconst d12_balances_49 ki_0 ?_
  refine v_iald d12_balances_50 ic_5 ?_
  refine v_icmp_ge (tgt := 95) d12_balances_51 (by decide) ?_ ?_
  · refine v_iconst d12_balances_95 ki_0 ?_
    refine v_istore_n (lv' := [(1, .int (0 : Int32)), (0, .ref 0)]) d12_balances_96 rfl (by decide) rfl ?_
    refine v_sub [1, 0] rfl ?_
    exact v12_balances_b97 N (0 : Int32) σ
  · refine v_iconst d12_balances_54 ki_0 ?_
    refine v_istore_n (lv' := [(2, .int (0 : Int32)), (0, .ref 0), (1, .int l1)]) d12_balances_55 rfl (by decide) rfl ?_
    refine v_sub [1, 2, 0] rfl ?_
    exact v12_balances_b56 N k44 hk44 l1 (0 : Int32) σ
theorem v12_balances_b44 (N : Nat) (l1 : Int32) (σ : Ms) : VF (K12_balances) cX12_balances RX12 (F12_balances_b44 N l1 σ) σ 44 [(0, .ref 0), (1, .int l1)] [] := v_fx (σo := fun x => x.2) (lo := fun x => [(0, .ref 0), (1, .int x.1)]) (fun k hk x => v12_balances_b44B N k (fun l1 τ => hk (l1, τ)) x.1 x.2) N (l1, σ)
set_option maxRecDepth 100000 in
theorem v12_balances_b12B (N : Nat) (k12 : Int32 × Ms → Option (Int32 × Ms)) (hk12 : ∀ (l1 : Int32) (τ : Ms), VF (K12_balances) cX12_balances RX12 (k12 (l1, τ)) τ 12 [(0, .ref 0), (1, .int l1)] []) (l1 : Int32) (σ : Ms) : VF (K12_balances) cX12_balances RX12 (F12_balances_b12B N k12 l1 σ) σ 12 [(0, .ref 0), (1, .int l1)] [] := by
  unfold F12_balances_b12B
  refine v_iload_n d12_balances_12 1 rfl rfl ?_
  refine v_aload_n d12_balances_13 0 rfl rfl ?_
  refine v_getR d12_balances_14 faX12_35 ic_0 rfl ?_
  refine v_iconst d12_balances_17 ki_0 ?_
  refine v_iald d12_balances_18 ic_5 ?_
  refine v_icmp_ge (tgt := 42) d12_balances_19 (by decide) ?_ ?_
  · refine v_iconst d12_balances_42 ki_0 ?_
    refine v_istore_n (lv' := [(1, .int (0 : Int32)), (0, .ref 0)]) d12_balances_43 rfl (by decide) rfl ?_
    refine v_sub [1, 0] rfl ?_
    exact v12_balances_b44 N (0 : Int32) σ
  · refine v_aload_n d12_balances_22 0 rfl rfl ?_
    refine v_iconst d12_balances_23 ki_1 ?_
    refine v_iload_n d12_balances_24 1 rfl rfl ?_
    refine v_ishl d12_balances_25 ?_
    refine v_callV1i d12_balances_26 (mc12_isBalanced N ((1 : Int32) <<< (l1 &&& 31)) σ) yv12_isBalanced mlX12_442 (Recv.obj ic_0 rfl) (by decide) (Nat.le_of_ble_eq_true rfl) fun r5 t6 => ?_
    refine v_if_eq (tgt := 36) d12_balances_29 (by decide) ?_ ?_
    · refine v_iinc (lv' := [(1, .int (l1 + (1 : Int32))), (0, .ref 0)]) d12_balances_36 1 rfl (by rw [ki_1]) (by decide) rfl ?_
      refine v_goto (tgt := 12) d12_balances_39 (by decide) ?_
      refine v_sub [1, 0] rfl ?_
      exact hk12 (l1 + (1 : Int32)) t6
    · refine v_iconst d12_balances_32 ki_1 ?_
      refine v_iload_n d12_balances_33 1 rfl rfl ?_
      refine v_ishl d12_balances_34 ?_
      exact v_iret d12_balances_35 rfl rfl rfl
theorem v12_balances_b12 (N : Nat) (l1 : Int32) (σ : Ms) : VF (K12_balances) cX12_balances RX12 (F12_balances_b12 N l1 σ) σ 12 [(0, .ref 0), (1, .int l1)] [] := v_fx (σo := fun x => x.2) (lo := fun x => [(0, .ref 0), (1, .int x.1)]) (fun k hk x => v12_balances_b12B N k (fun l1 τ => hk (l1, τ)) x.1 x.2) N (l1, σ)
set_option maxRecDepth 100000 in
theorem mc12_balances (N : Nat) (σ : Ms) : MC enI yX12_balances cX12_balances 4 (some .int) 5 (F12_balances N σ) σ [.ref 0] := by
  refine MC.i (by decide +kernel) (Nat.le_of_ble_eq_true rfl) ?_
  show VF (K12_balances) cX12_balances RX12 (F12_balances N σ) σ 0 [(0, .ref 0)] []
  unfold F12_balances
  refine v_aload_n d12_balances_0 0 rfl rfl ?_
  refine v_iconst d12_balances_1 ki_0 ?_
  refine v_callV1i d12_balances_2 (mc12_isBalanced N (0 : Int32) σ) yv12_isBalanced mlX12_442 (Recv.obj ic_0 rfl) (by decide) (Nat.le_of_ble_eq_true rfl) fun r7 t8 => ?_
  refine v_if_eq (tgt := 10) d12_balances_5 (by decide) ?_ ?_
  · refine v_iconst d12_balances_10 ki_0 ?_
    refine v_istore_n (lv' := [(1, .int (0 : Int32)), (0, .ref 0)]) d12_balances_11 rfl (by decide) rfl ?_
    refine v_sub [1, 0] rfl ?_
    exact v12_balances_b12 N (0 : Int32) t8
  · refine v_iconst d12_balances_8 ki_0 ?_
    exact v_iret d12_balances_9 rfl rfl rfl
