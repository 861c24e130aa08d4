theorem d0_copy_0 : decode cX0_copy 0 = .ok (.aload_n 0, 1) := by decide +kernel
theorem d0_copy_1 : decode cX0_copy 1 = .ok (.ifnull 7, 3) := by decide +kernel
theorem d0_copy_4 : decode cX0_copy 4 = .ok (.aload_n 1, 1) := by decide +kernel
theorem d0_copy_5 : decode cX0_copy 5 = .ok (.ifnonnull 4, 3) := by decide +kernel
theorem d0_copy_9 : decode cX0_copy 9 = .ok (.iconst 0, 1) := by decide +kernel
theorem d0_copy_10 : decode cX0_copy 10 = .ok (.istore_n 2, 1) := by decide +kernel
theorem d0_copy_11 : decode cX0_copy 11 = .ok (.iload_n 2, 1) := by decide +kernel
theorem d0_copy_12 : decode cX0_copy 12 = .ok (.bipush 20, 2) := by decide +kernel
theorem d0_copy_14 : decode cX0_copy 14 = .ok (.if_icmp .ge 33, 3) := by decide +kernel
theorem d0_copy_17 : decode cX0_copy 17 = .ok (.aload_n 1, 1) := by decide +kernel
theorem d0_copy_18 : decode cX0_copy 18 = .ok (.getfield 9, 3) := by decide +kernel
theorem d0_copy_21 : decode cX0_copy 21 = .ok (.iload_n 2, 1) := by decide +kernel
theorem d0_copy_22 : decode cX0_copy 22 = .ok (.aload_n 0, 1) := by decide +kernel
theorem d0_copy_23 : decode cX0_copy 23 = .ok (.getfield 9, 3) := by decide +kernel
theorem d0_copy_26 : decode cX0_copy 26 = .ok (.iload_n 2, 1) := by decide +kernel
theorem d0_copy_27 : decode cX0_copy 27 = .ok (.iaload, 1) := by decide +kernel
theorem d0_copy_28 : decode cX0_copy 28 = .ok (.iastore, 1) := by decide +kernel
theorem d0_copy_29 : decode cX0_copy 29 = .ok (.aload_n 1, 1) := by decide +kernel
theorem d0_copy_30 : decode cX0_copy 30 = .ok (.getfield 15, 3) := by decide +kernel
theorem d0_copy_33 : decode cX0_copy 33 = .ok (.iload_n 2, 1) := by decide +kernel
theorem d0_copy_34 : decode cX0_copy 34 = .ok (.aload_n 0, 1) := by decide +kernel
theorem d0_copy_35 : decode cX0_copy 35 = .ok (.getfield 15, 3) := by decide +kernel
theorem d0_copy_38 : decode cX0_copy 38 = .ok (.iload_n 2, 1) := by decide +kernel
theorem d0_copy_39 : decode cX0_copy 39 = .ok (.iaload, 1) := by decide +kernel
theorem d0_copy_40 : decode cX0_copy 40 = .ok (.iastore, 1) := by decide +kernel
theorem d0_copy_41 : decode cX0_copy 41 = .ok (.iinc 2 1, 3) := by decide +kernel
theorem d0_copy_44 : decode cX0_copy 44 = .ok (.goto (-33), 3) := by decide +kernel
theorem d0_copy_47 : decode cX0_copy 47 = .ok (.iconst 0, 1) := by decide +kernel
theorem d0_copy_48 : decode cX0_copy 48 = .ok (.istore_n 2, 1) := by decide +kernel
theorem d0_copy_49 : decode cX0_copy 49 = .ok (.iload_n 2, 1) := by decide +kernel
theorem d0_copy_50 : decode cX0_copy 50 = .ok (.iconst 4, 1) := by decide +kernel
theorem d0_copy_51 : decode cX0_copy 51 = .ok (.if_icmp .ge 21, 3) := by decide +kernel
theorem d0_copy_54 : decode cX0_copy 54 = .ok (.aload_n 1, 1) := by decide +kernel
theorem d0_copy_55 : decode cX0_copy 55 = .ok (.getfield 18, 3) := by decide +kernel
theorem d0_copy_58 : decode cX0_copy 58 = .ok (.iload_n 2, 1) := by decide +kernel
theorem d0_copy_59 : decode cX0_copy 59 = .ok (.aload_n 0, 1) := by decide +kernel
theorem d0_copy_60 : decode cX0_copy 60 = .ok (.getfield 18, 3) := by decide +kernel
theorem d0_copy_63 : decode cX0_copy 63 = .ok (.iload_n 2, 1) := by decide +kernel
theorem d0_copy_64 : decode cX0_copy 64 = .ok (.iaload, 1) := by decide +kernel
theorem d0_copy_65 : decode cX0_copy 65 = .ok (.iastore, 1) := by decide +kernel
theorem d0_copy_66 : decode cX0_copy 66 = .ok (.iinc 2 1, 3) := by decide +kernel
theorem d0_copy_69 : decode cX0_copy 69 = .ok (.goto (-20), 3) := by decide +kernel
theorem d0_copy_72 : decode cX0_copy 72 = .ok (.iconst 0, 1) := by decide +kernel
theorem d0_copy_73 : decode cX0_copy 73 = .ok (.istore_n 2, 1) := by decide +kernel
theorem d0_copy_74 : decode cX0_copy 74 = .ok (.iload_n 2, 1) := by decide +kernel
theorem d0_copy_75 : decode cX0_copy 75 = .ok (.iconst 5, 1) := by decide +kernel
theorem d0_copy_76 : decode cX0_copy 76 = .ok (.if_icmp .ge 33, 3) := by decide +kernel
theorem d0_copy_79 : decode cX0_copy 79 = .ok (.aload_n 1, 1) := by decide +kernel
theorem d0_copy_80 : decode cX0_copy 80 = .ok (.getfield 21, 3) := by decide +kernel
theorem d0_copy_83 : decode cX0_copy 83 = .ok (.iload_n 2, 1) := by decide +kernel
theorem d0_copy_84 : decode cX0_copy 84 = .ok (.aload_n 0, 1) := by decide +kernel
theorem d0_copy_85 : decode cX0_copy 85 = .ok (.getfield 21, 3) := by decide +kernel
theorem d0_copy_88 : decode cX0_copy 88 = .ok (.iload_n 2, 1) := by decide +kernel
theorem d0_copy_89 : decode cX0_copy 89 = .ok (.iaload, 1) := by decide +kernel
theorem d0_copy_90 : decode cX0_copy 90 = .ok (.iastore, 1) := by decide +kernel
theorem d0_copy_91 : decode cX0_copy 91 = .ok (.aload_n 1, 1) := by decide +kernel
theorem d0_copy_92 : decode cX0_copy 92 = .ok (.getfield 24, 3) := by decide +kernel
theorem d0_copy_95 : decode cX0_copy 95 = .ok (.iload_n 2, 1) := by decide +kernel
theorem d0_copy_96 : decode cX0_copy 96 = .ok (.aload_n 0, 1) := by decide +kernel
theorem d0_copy_97 : decode cX0_copy 97 = .ok (.getfield 24, 3) := by decide +kernel
theorem d0_copy_100 : decode cX0_copy 100 = .ok (.iload_n 2, 1) := by decide +kernel
theorem d0_copy_101 : decode cX0_copy 101 = .ok (.iaload, 1) := by decide +kernel
theorem d0_copy_102 : decode cX0_copy 102 = .ok (.iastore, 1) := by decide +kernel
theorem d0_copy_103 : decode cX0_copy 103 = .ok (.iinc 2 1, 3) := by decide +kernel
theorem d0_copy_106 : decode cX0_copy 106 = .ok (.goto (-32), 3) := by decide +kernel
theorem d0_copy_109 : decode cX0_copy 109 = .ok (.aload_n 1, 1) := by decide +kernel
theorem d0_copy_110 : decode cX0_copy 110 = .ok (.aload_n 0, 1) := by decide +kernel
theorem d0_copy_111 : decode cX0_copy 111 = .ok (.getfield 27, 3) := by decide +kernel
theorem d0_copy_114 : decode cX0_copy 114 = .ok (.putfield 27, 3) := by decide +kernel
theorem d0_copy_117 : decode cX0_copy 117 = .ok (.aload_n 1, 1) := by decide +kernel
theorem d0_copy_118 : decode cX0_copy 118 = .ok (.aload_n 0, 1) := by decide +kernel
theorem d0_copy_119 : decode cX0_copy 119 = .ok (.getfield 31, 3) := by decide +kernel
theorem d0_copy_122 : decode cX0_copy 122 = .ok (.putfield 31, 3) := by decide +kernel
theorem d0_copy_125 : decode cX0_copy 125 = .ok (.aload_n 1, 1) := by decide +kernel
theorem d0_copy_126 : decode cX0_copy 126 = .ok (.aload_n 0, 1) := by decide +kernel
theorem d0_copy_127 : decode cX0_copy 127 = .ok (.getfield 34, 3) := by decide +kernel
theorem d0_copy_130 : decode cX0_copy 130 = .ok (.putfield 34, 3) := by decide +kernel
theorem d0_copy_133 : decode cX0_copy 133 = .ok (.aload_n 1, 1) := by decide +kernel
theorem d0_copy_134 : decode cX0_copy 134 = .ok (.aload_n 0, 1) := by decide +kernel
theorem d0_copy_135 : decode cX0_copy 135 = .ok (.getfield 37, 3) := by decide +kernel
theorem d0_copy_138 : decode cX0_copy 138 = .ok (.putfield 37, 3) := by decide +kernel
theorem d0_copy_141 : decode cX0_copy 141 = .ok (.aload_n 1, 1) := by decide +kernel
theorem d0_copy_142 : decode cX0_copy 142 = .ok (.aload_n 0, 1) := by decide +kernel
theorem d0_copy_143 : decode cX0_copy 143 = .ok (.getfield 40, 3) := by decide +kernel
theorem d0_copy_146 : decode cX0_copy 146 = .ok (.putfield 40, 3) := by decide +kernel
theorem d0_copy_149 : decode cX0_copy 149 = .ok (.aload_n 1, 1) := by decide +kernel
theorem d0_copy_150 : decode cX0_copy 150 = .ok (.aload_n 0, 1) := by decide +kernel
theorem d0_copy_151 : decode cX0_copy 151 = .ok (.getfield 43, 3) := by decide +kernel
theorem d0_copy_154 : decode cX0_copy 154 = .ok (.putfield 43, 3) := by decide +kernel
theorem d0_copy_157 : decode cX0_copy 157 = .ok (.aload_n 1, 1) := by decide +kernel
theorem d0_copy_158 : decode cX0_copy 158 = .ok (.aload_n 0, 1) := by decide +kernel
theorem d0_copy_159 : decode cX0_copy 159 = .ok (.getfield 46, 3) := by decide +kernel
theorem d0_copy_162 : decode cX0_copy 162 = .ok (.putfield 46, 3) := by decide +kernel
theorem d0_copy_165 : decode cX0_copy 165 = .ok (.return_, 1) := by decide +kernel
abbrev K0_copy : CK Unit := (enV, none, 3, 1, none)
noncomputable def F0_copy_b74B (N : Nat) (q0 : Nat) (q1 : Nat) (k74 : Int32 × Ms → Option (Unit × Ms)) (l2 : Int32) (σ : Ms) : Option (Unit × Ms) :=
  if (5 : Int32) ≤ l2 then (lt (sI σ q1 5 (σ.1 q0 5)) (fun t1 => lt (sI t1 q1 6 (t1.1 q0 6)) (fun t2 => lt (sI t2 q1 7 (t2.1 q0 7)) (fun t3 => lt (sI t3 q1 8 (t3.1 q0 8)) (fun t4 => lt (sI t4 q1 9 (t4.1 q0 9)) (fun t5 => lt (sI t5 q1 10 (t5.1 q0 10)) (fun t6 => lt (sI t6 q1 11 (t6.1 q0 11)) (fun t7 => some ((), t7)))))))))
  else (ck (ixb l2 5) (ck (ixb l2 5) (lt (sI σ (q1 + 4) l2.toNatClampNeg (σ.1 (q0 + 4) l2.toNatClampNeg)) (fun t8 => ck (ixb l2 5) (ck (ixb l2 5) (lt (sI t8 (q1 + 5) l2.toNatClampNeg (t8.1 (q0 + 5) l2.toNatClampNeg)) (fun t9 => k74 ((l2 + (1 : Int32)), t9))))))))
noncomputable def F0_copy_b74 (N : Nat) (q0 : Nat) (q1 : Nat) (l2 : Int32) (σ : Ms) : Option (Unit × Ms) :=
  fx N (fun k x => F0_copy_b74B N q0 q1 k x.1 x.2) (l2, σ)
noncomputable def F0_copy_b49B (N : Nat) (q0 : Nat) (q1 : Nat) (k49 : Int32 × Ms → Option (Unit × Ms)) (l2 : Int32) (σ : Ms) : Option (Unit × Ms) :=
  if (4 : Int32) ≤ l2 then (F0_copy_b74 N q0 q1 (0 : Int32) σ)
  else (ck (ixb l2 4) (ck (ixb l2 4) (lt (sI σ (q1 + 3) l2.toNatClampNeg (σ.1 (q0 + 3) l2.toNatClampNeg)) (fun t10 => k49 ((l2 + (1 : Int32)), t10)))))
noncomputable def F0_copy_b49 (N : Nat) (q0 : Nat) (q1 : Nat) (l2 : Int32) (σ : Ms) : Option (Unit × Ms) :=
  fx N (fun k x => F0_copy_b49B N q0 q1 k x.1 x.2) (l2, σ)
noncomputable def F0_copy_b11B (N : Nat) (q0 : Nat) (q1 : Nat) (k11 : Int32 × Ms → Option (Unit × Ms)) (l2 : Int32) (σ : Ms) : Option (Unit × Ms) :=
  if (20 : Int32) ≤ l2 then (F0_copy_b49 N q0 q1 (0 : Int32) σ)
  else (ck (ixb l2 20) (ck (ixb l2 20) (lt (sI σ (q1 + 1) l2.toNatClampNeg (σ.1 (q0 + 1) l2.toNatClampNeg)) (fun t11 => ck (ixb l2 20) (ck (ixb l2 20) (lt (sI t11 (q1 + 2) l2.toNatClampNeg (t11.1 (q0 + 2) l2.toNatClampNeg)) (fun t12 => k11 ((l2 + (1 : Int32)), t12))))))))
noncomputable def F0_copy_b11 (N : Nat) (q0 : Nat) (q1 : Nat) (l2 : Int32) (σ : Ms) : Option (Unit × Ms) :=
  fx N (fun k x => F0_copy_b11B N q0 q1 k x.1 x.2) (l2, σ)
noncomputable def F0_copy (N : Nat) (q0 : Nat) (q1 : Nat) (σ : Ms) : Option (Unit × Ms) :=
  F0_copy_b11 N q0 q1 (0 : Int32) σ
set_option maxRecDepth 100000 in
theorem v0_copy_b74B (N : Nat) (q0 : Nat) (hq0 : IsC q0 (0, 0, 0)) (q1 : Nat) (hq1 : IsC q1 (0, 0, 0)) (k74 : Int32 × Ms → Option (Unit × Ms)) (hk74 : ∀ (l2 : Int32) (τ : Ms), VF (K0_copy) cX0_copy RX0 (k74 (l2, τ)) τ 74 [(0, .ref q0), (1, .ref q1), (2, .int l2)] []) (l2 : Int32) (σ : Ms) : VF (K0_copy) cX0_copy RX0 (F0_copy_b74B N q0 q1 k74 l2 σ) σ 74 [(0, .ref q0), (1, .ref q1), (2, .int l2)] [] := by
  unfold F0_copy_b74B
  refine v_iload_n d0_copy_74 2 rfl rfl ?_
  refine v_iconst d0_copy_75 ki_5 ?_
  refine v_icmp_ge (tgt := 109) d0_copy_76 (by decide) ?_ ?_
  · refine v_aload_n d0_copy_109 1 rfl rfl ?_
    refine v_aload_n d0_copy_110 0 rfl rfl ?_
    refine v_getI d0_copy_111 faX0_27 hq0 ?_
    refine v_putI d0_copy_114 faX0_27 fp0_5 hq1 ?_
    refine v_lts fun t1 => ?_
    refine v_aload_n d0_copy_117 1 rfl rfl ?_
    refine v_aload_n d0_copy_118 0 rfl rfl ?_
    refine v_getI d0_copy_119 faX0_31 hq0 ?_
    refine v_putI d0_copy_122 faX0_31 fp0_6 hq1 ?_
    refine v_lts fun t2 => ?_
    refine v_aload_n d0_copy_125 1 rfl rfl ?_
    refine v_aload_n d0_copy_126 0 rfl rfl ?_
    refine v_getI d0_copy_127 faX0_34 hq0 ?_
    refine v_putI d0_copy_130 faX0_34 fp0_7 hq1 ?_
    refine v_lts fun t3 => ?_
    refine v_aload_n d0_copy_133 1 rfl rfl ?_
    refine v_aload_n d0_copy_134 0 rfl rfl ?_
    refine v_getI d0_copy_135 faX0_37 hq0 ?_
    refine v_putI d0_copy_138 faX0_37 fp0_8 hq1 ?_
    refine v_lts fun t4 => ?_
    refine v_aload_n d0_copy_141 1 rfl rfl ?_
    refine v_aload_n d0_copy_142 0 rfl rfl ?_
    refine v_getI d0_copy_143 faX0_40 hq0 ?_
    refine v_putI d0_copy_146 faX0_40 fp0_9 hq1 ?_
    refine v_lts fun t5 => ?_
    refine v_aload_n d0_copy_149 1 rfl rfl ?_
    refine v_aload_n d0_copy_150 0 rfl rfl ?_
    refine v_getI d0_copy_151 faX0_43 hq0 ?_
    refine v_putI d0_copy_154 faX0_43 fp0_10 hq1 ?_
    refine v_lts fun t6 => ?_
    refine v_aload_n d0_copy_157 1 rfl rfl ?_
    refine v_aload_n d0_copy_158 0 rfl rfl ?_
    refine v_getI d0_copy_159 faX0_46 hq0 ?_
    refine v_putI d0_copy_162 faX0_46 fp0_11 hq1 ?_
    refine v_lts fun t7 => ?_
    exact v_vret d0_copy_165 rfl
  · refine v_aload_n d0_copy_79 1 rfl rfl ?_
    refine v_getR d0_copy_80 faX0_21 hq1 rfl ?_
    refine v_iload_n d0_copy_83 2 rfl rfl ?_
    refine v_aload_n d0_copy_84 0 rfl rfl ?_
    refine v_getR d0_copy_85 faX0_21 hq0 rfl ?_
    refine v_iload_n d0_copy_88 2 rfl rfl ?_
    refine v_iald d0_copy_89 (ih0_4 hq0) ?_
    refine v_iast d0_copy_90 (ih0_4 hq1) ?_
    refine v_lts fun t8 => ?_
    refine v_aload_n d0_copy_91 1 rfl rfl ?_
    refine v_getR d0_copy_92 faX0_24 hq1 rfl ?_
    refine v_iload_n d0_copy_95 2 rfl rfl ?_
    refine v_aload_n d0_copy_96 0 rfl rfl ?_
    refine v_getR d0_copy_97 faX0_24 hq0 rfl ?_
    refine v_iload_n d0_copy_100 2 rfl rfl ?_
    refine v_iald d0_copy_101 (ih0_5 hq0) ?_
    refine v_iast d0_copy_102 (ih0_5 hq1) ?_
    refine v_lts fun t9 => ?_
    refine v_iinc (lv' := [(2, .int (l2 + (1 : Int32))), (0, .ref q0), (1, .ref q1)]) d0_copy_103 2 rfl (by rw [ki_1]) (by decide) rfl ?_
    refine v_goto (tgt := 74) d0_copy_106 (by decide) ?_
    refine v_sub [1, 2, 0] rfl ?_
    exact hk74 (l2 + (1 : Int32)) t9
theorem v0_copy_b74 (N : Nat) (q0 : Nat) (hq0 : IsC q0 (0, 0, 0)) (q1 : Nat) (hq1 : IsC q1 (0, 0, 0)) (l2 : Int32) (σ : Ms) : VF (K0_copy) cX0_copy RX0 (F0_copy_b74 N q0 q1 l2 σ) σ 74 [(0, .ref q0), (1, .ref q1), (2, .int l2)] [] := v_fx (σo := fun x => x.2) (lo := fun x => [(0, .ref q0), (1, .ref q1), (2, .int x.1)]) (fun k hk x => v0_copy_b74B N q0 hq0 q1 hq1 k (fun l2 τ => hk (l2, τ)) x.1 x.2) N (l2, σ)
set_option maxRecDepth 100000 in
theorem v0_copy_b49B (N : Nat) (q0 : Nat) (hq0 : IsC q0 (0, 0, 0)) (q1 : Nat) (hq1 : IsC q1 (0, 0, 0)) (k49 : Int32 × Ms → Option (Unit × Ms)) (hk49 : ∀ (l2 : Int32) (τ : Ms), VF (K0_copy) cX0_copy RX0 (k49 (l2, τ)) τ 49 [(0, .ref q0), (1, .ref q1), (2, .int l2)] []) (l2 : Int32) (σ : Ms) : VF (K0_copy) cX0_copy RX0 (F0_copy_b49B N q0 q1 k49 l2 σ) σ 49 [(0, .ref q0), (1, .ref q1), (2, .int l2)] [] := by
  unfold F0_copy_b49B
  refine v_iload_n d0_copy_49 2 rfl rfl ?_
  refine v_iconst d0_copy_50 ki_4 ?_
  refine v_icmp_ge (tgt := 72) d0_copy_51 (by decide) ?_ ?_
  · refine v_iconst d0_copy_72 ki_0 ?_
    refine v_istore_n (lv' := [(2, .int (0 : Int32)), (0, .ref q0), (1, .ref q1)]) d0_copy_73 rfl (by decide) rfl ?_
    refine v_sub [1, 2, 0] rfl ?_
    exact v0_copy_b74 N q0 hq0 q1 hq1 (0 : Int32) σ
  · refine v_aload_n d0_copy_54 1 rfl rfl ?_
    refine v_getR d0_copy_55 faX0_18 hq1 rfl ?_
    refine v_iload_n d0_copy_58 2 rfl rfl ?_
    refine v_aload_n d0_copy_59 0 rfl rfl ?_
    refine v_getR d0_copy_60 faX0_18 hq0 rfl ?_
    refine v_iload_n d0_copy_63 2 rfl rfl ?_
    refine v_iald d0_copy_64 (ih0_3 hq0) ?_
    refine v_iast d0_copy_65 (ih0_3 hq1) ?_
    refine v_lts fun t10 => ?_
    refine v_iinc (lv' := [(2, .int (l2 + (1 : Int32))), (0, .ref q0), (1, .ref q1)]) d0_copy_66 2 rfl (by rw [ki_1]) (by decide) rfl ?_
    refine v_goto (tgt := 49) d0_copy_69 (by decide) ?_
    refine v_sub [1, 2, 0] rfl ?_
    exact hk49 (l2 + (1 : Int32)) t10
theorem v0_copy_b49 (N : Nat) (q0 : Nat) (hq0 : IsC q0 (0, 0, 0)) (q1 : Nat) (hq1 : IsC q1 (0, 0, 0)) (l2 : Int32) (σ : Ms) : VF (K0_copy) cX0_copy RX0 (F0_copy_b49 N q0 q1 l2 σ) σ 49 [(0, .ref q0), (1, .ref q1), (2, .int l2)] [] := v_fx (σo := fun x => x.2) (lo := fun x => [(0, .ref q0), (1, .ref q1), (2, .int x.1)]) (fun k hk x => v0_copy_b49B N q0 hq0 q1 hq1 k (fun l2 τ => hk (l2, τ)) x.1 x.2) N (l2, σ)
set_option maxRecDepth 100000 in
theorem v0_copy_b11B (N : Nat) (q0 : Nat) (hq0 : IsC q0 (0, 0, 0)) (q1 : Nat) (hq1 : IsC q1 (0, 0, 0)) (k11 : Int32 × Ms → Option (Unit × Ms)) (hk11 : ∀ (l2 : Int32) (τ : Ms), VF (K0_copy) cX0_copy RX0 (k11 (l2, τ)) τ 11 [(0, .ref q0), (1, .ref q1), (2, .int l2)] []) (l2 : Int32) (σ : Ms) : VF (K0_copy) cX0_copy RX0 (F0_copy_b11B N q0 q1 k11 l2 σ) σ 11 [(0, .ref q0), (1, .ref q1), (2, .int l2)] [] := by
  unfold F0_copy_b11B
  refine v_iload_n d0_copy_11 2 rfl rfl ?_
  refine v_bipush d0_copy_12 kb_20 ?_
  refine v_icmp_ge (tgt := 47) d0_copy_14 (by decide) ?_ ?_
  · refine v_iconst d0_copy_47 ki_0 ?_
    refine v_istore_n (lv' := [(2, .int (0 : Int32)), (0, .ref q0), (1, .ref q1)]) d0_copy_48 rfl (by decide) rfl ?_
    refine v_sub [1, 2, 0] rfl ?_
    exact v0_copy_b49 N q0 hq0 q1 hq1 (0 : Int32) σ
  · refine v_aload_n d0_copy_17 1 rfl rfl ?_
    refine v_getR d0_copy_18 faX0_9 hq1 rfl ?_
    refine v_iload_n d0_copy_21 2 rfl rfl ?_
    refine v_aload_n d0_copy_22 0 rfl rfl ?_
    refine v_getR d0_copy_23 faX0_9 hq0 rfl ?_
    refine v_iload_n d0_copy_26 2 rfl rfl ?_
    refine v_iald d0_copy_27 (ih0_1 hq0) ?_
    refine v_iast d0_copy_28 (ih0_1 hq1) ?_
    refine v_lts fun t11 => ?_
    refine v_aload_n d0_copy_29 1 rfl rfl ?_
    refine v_getR d0_copy_30 faX0_15 hq1 rfl ?_
    refine v_iload_n d0_copy_33 2 rfl rfl ?_
    refine v_aload_n d0_copy_34 0 rfl rfl ?_
    refine v_getR d0_copy_35 faX0_15 hq0 rfl ?_
    refine v_iload_n d0_copy_38 2 rfl rfl ?_
    refine v_iald d0_copy_39 (ih0_2 hq0) ?_
    refine v_iast d0_copy_40 (ih0_2 hq1) ?_
    refine v_lts fun t12 => ?_
    refine v_iinc (lv' := [(2, .int (l2 + (1 : Int32))), (0, .ref q0), (1, .ref q1)]) d0_copy_41 2 rfl (by rw [ki_1]) (by decide) rfl ?_
    refine v_goto (tgt := 11) d0_copy_44 (by decide) ?_
    refine v_sub [1, 2, 0] rfl ?_
    exact hk11 (l2 + (1 : Int32)) t12
theorem v0_copy_b11 (N : Nat) (q0 : Nat) (hq0 : IsC q0 (0, 0, 0)) (q1 : Nat) (hq1 : IsC q1 (0, 0, 0)) (l2 : Int32) (σ : Ms) : VF (K0_copy) cX0_copy RX0 (F0_copy_b11 N q0 q1 l2 σ) σ 11 [(0, .ref q0), (1, .ref q1), (2, .int l2)] [] := v_fx (σo := fun x => x.2) (lo := fun x => [(0, .ref q0), (1, .ref q1), (2, .int x.1)]) (fun k hk x => v0_copy_b11B N q0 hq0 q1 hq1 k (fun l2 τ => hk (l2, τ)) x.1 x.2) N (l2, σ)
set_option maxRecDepth 100000 in
theorem mc0_copy (N : Nat) (q0 : Nat) (hq0 : IsC q0 (0, 0, 0)) (q1 : Nat) (hq1 : IsC q1 (0, 0, 0)) (σ : Ms) : MC enV yX0_copy cX0_copy 3 none 1 (F0_copy N q0 q1 σ) σ [.ref q0, .ref q1] := by
  refine MC.v (by decide +kernel) (Nat.le_of_ble_eq_true rfl) ?_
  show VF (K0_copy) cX0_copy RX0 (F0_copy N q0 q1 σ) σ 0 [(0, .ref q0), (1, .ref q1)] []
  unfold F0_copy
  refine v_aload_n d0_copy_0 0 rfl rfl ?_
  refine v_ifnull d0_copy_1 ?_
  refine v_aload_n d0_copy_4 1 rfl rfl ?_
  refine v_ifnonnull (tgt := 9) d0_copy_5 (by decide) ?_
  refine v_iconst d0_copy_9 ki_0 ?_
  refine v_istore_n (lv' := [(2, .int (0 : Int32)), (0, .ref q0), (1, .ref q1)]) d0_copy_10 rfl (by decide) rfl ?_
  refine v_sub [1, 2, 0] rfl ?_
  exact v0_copy_b11 N q0 hq0 q1 hq1 (0 : Int32) σ
theorem d0_clear_0 : decode cX0_clear 0 = .ok (.aload_n 0, 1) := by decide +kernel
theorem d0_clear_1 : decode cX0_clear 1 = .ok (.iconst 0, 1) := by decide +kernel
theorem d0_clear_2 : decode cX0_clear 2 = .ok (.putfield 27, 3) := by decide +kernel
theorem d0_clear_5 : decode cX0_clear 5 = .ok (.aload_n 0, 1) := by decide +kernel
theorem d0_clear_6 : decode cX0_clear 6 = .ok (.iconst 0, 1) := by decide +kernel
theorem d0_clear_7 : decode cX0_clear 7 = .ok (.putfield 31, 3) := by decide +kernel
theorem d0_clear_10 : decode cX0_clear 10 = .ok (.aload_n 0, 1) := by decide +kernel
theorem d0_clear_11 : decode cX0_clear 11 = .ok (.iconst 0, 1) := by decide +kernel
theorem d0_clear_12 : decode cX0_clear 12 = .ok (.putfield 34, 3) := by decide +kernel
theorem d0_clear_15 : decode cX0_clear 15 = .ok (.aload_n 0, 1) := by decide +kernel
theorem d0_clear_16 : decode cX0_clear 16 = .ok (.iconst 0, 1) := by decide +kernel
theorem d0_clear_17 : decode cX0_clear 17 = .ok (.putfield 37, 3) := by decide +kernel
theorem d0_clear_20 : decode cX0_clear 20 = .ok (.aload_n 0, 1) := by decide +kernel
theorem d0_clear_21 : decode cX0_clear 21 = .ok (.iconst 0, 1) := by decide +kernel
theorem d0_clear_22 : decode cX0_clear 22 = .ok (.putfield 40, 3) := by decide +kernel
theorem d0_clear_25 : decode cX0_clear 25 = .ok (.aload_n 0, 1) := by decide +kernel
theorem d0_clear_26 : decode cX0_clear 26 = .ok (.iconst 0, 1) := by decide +kernel
theorem d0_clear_27 : decode cX0_clear 27 = .ok (.putfield 43, 3) := by decide +kernel
theorem d0_clear_30 : decode cX0_clear 30 = .ok (.aload_n 0, 1) := by decide +kernel
theorem d0_clear_31 : decode cX0_clear 31 = .ok (.iconst 0, 1) := by decide +kernel
theorem d0_clear_32 : decode cX0_clear 32 = .ok (.putfield 46, 3) := by decide +kernel
theorem d0_clear_35 : decode cX0_clear 35 = .ok (.return_, 1) := by decide +kernel
abbrev K0_clear : CK Unit := (enV, none, 1, 1, none)
noncomputable def F0_clear (h : Nat) (σ : Ms) : Option (Unit × Ms) :=
  lt (sI σ h 5 (0 : Int32)) (fun t1 => lt (sI t1 h 6 (0 : Int32)) (fun t2 => lt (sI t2 h 7 (0 : Int32)) (fun t3 => lt (sI t3 h 8 (0 : Int32)) (fun t4 => lt (sI t4 h 9 (0 : Int32)) (fun t5 => lt (sI t5 h 10 (0 : Int32)) (fun t6 => lt (sI t6 h 11 (0 : Int32)) (fun t7 => some ((), t7))))))))
set_option maxRecDepth 100000 in
theorem mc0_clear (h : Nat) (hh : IsC h (0, 0, 0)) (σ : Ms) : MC enV yX0_clear cX0_clear 1 none 1 (F0_clear h σ) σ [.ref h] := by
  refine MC.v (by decide +kernel) (Nat.le_of_ble_eq_true rfl) ?_
  show VF (K0_clear) cX0_clear RX0 (F0_clear h σ) σ 0 [(0, .ref h)] []
  unfold F0_clear
  refine v_aload_n d0_clear_0 0 rfl rfl ?_
  refine v_iconst d0_clear_1 ki_0 ?_
  refine v_putI d0_clear_2 faX0_27 fp0_5 hh ?_
  refine v_lts fun t1 => ?_
  refine v_aload_n d0_clear_5 0 rfl rfl ?_
  refine v_iconst d0_clear_6 ki_0 ?_
  refine v_putI d0_clear_7 faX0_31 fp0_6 hh ?_
  refine v_lts fun t2 => ?_
  refine v_aload_n d0_clear_10 0 rfl rfl ?_
  refine v_iconst d0_clear_11 ki_0 ?_
  refine v_putI d0_clear_12 faX0_34 fp0_7 hh ?_
  refine v_lts fun t3 => ?_
  refine v_aload_n d0_clear_15 0 rfl rfl ?_
  refine v_iconst d0_clear_16 ki_0 ?_
  refine v_putI d0_clear_17 faX0_37 fp0_8 hh ?_
  refine v_lts fun t4 => ?_
  refine v_aload_n d0_clear_20 0 rfl rfl ?_
  refine v_iconst d0_clear_21 ki_0 ?_
  refine v_putI d0_clear_22 faX0_40 fp0_9 hh ?_
  refine v_lts fun t5 => ?_
  refine v_aload_n d0_clear_25 0 rfl rfl ?_
  refine v_iconst d0_clear_26 ki_0 ?_
  refine v_putI d0_clear_27 faX0_43 fp0_10 hh ?_
  refine v_lts fun t6 => ?_
  refine v_aload_n d0_clear_30 0 rfl rfl ?_
  refine v_iconst d0_clear_31 ki_0 ?_
  refine v_putI d0_clear_32 faX0_46 fp0_11 hh ?_
  refine v_lts fun t7 => ?_
  exact v_vret d0_clear_35 rfl
theorem d0_hasSprig_0 : decode cX0_hasSprig 0 = .ok (.iload_n 1, 1) := by decide +kernel
theorem d0_hasSprig_1 : decode cX0_hasSprig 1 = .ok (.ifCond .lt 21, 3) := by decide +kernel
theorem d0_hasSprig_4 : decode cX0_hasSprig 4 = .ok (.iload_n 1, 1) := by decide +kernel
theorem d0_hasSprig_5 : decode cX0_hasSprig 5 = .ok (.aload_n 0, 1) := by decide +kernel
theorem d0_hasSprig_6 : decode cX0_hasSprig 6 = .ok (.getfield 27, 3) := by decide +kernel
theorem d0_hasSprig_9 : decode cX0_hasSprig 9 = .ok (.if_icmp .ge 13, 3) := by decide +kernel
theorem d0_hasSprig_12 : decode cX0_hasSprig 12 = .ok (.iload_n 1, 1) := by decide +kernel
theorem d0_hasSprig_13 : decode cX0_hasSprig 13 = .ok (.bipush 20, 2) := by decide +kernel
theorem d0_hasSprig_15 : decode cX0_hasSprig 15 = .ok (.if_icmp .ge 7, 3) := by decide +kernel
theorem d0_hasSprig_18 : decode cX0_hasSprig 18 = .ok (.iconst 1, 1) := by decide +kernel
theorem d0_hasSprig_19 : decode cX0_hasSprig 19 = .ok (.goto 4, 3) := by decide +kernel
theorem d0_hasSprig_22 : decode cX0_hasSprig 22 = .ok (.iconst 0, 1) := by decide +kernel
theorem d0_hasSprig_23 : decode cX0_hasSprig 23 = .ok (.ireturn, 1) := by decide +kernel
abbrev K0_hasSprig : CK Int32 := (enI, (some .boolean), 2, 1, none)
noncomputable def F0_hasSprig (h : Nat) (p0 : Int32) (σ : Ms) : Option (Int32 × Ms) :=
  if p0 < 0 then (some ((0 : Int32), σ))
  else (if (σ.1 h 5) ≤ p0 then (some ((0 : Int32), σ))
  else (if (20 : Int32) ≤ p0 then (some ((0 : Int32), σ))
  else (some ((1 : Int32), σ))))
set_option maxRecDepth 100000 in
theorem mc0_hasSprig (h : Nat) (hh : IsC h (0, 0, 0)) (p0 : Int32) (σ : Ms) : MC enI yX0_hasSprig cX0_hasSprig 2 (some .boolean) 1 (F0_hasSprig h p0 σ) σ [.ref h, .int p0] := by
  refine MC.i (by decide +kernel) (Nat.le_of_ble_eq_true rfl) ?_
  show VF (K0_hasSprig) cX0_hasSprig RX0 (F0_hasSprig h p0 σ) σ 0 [(0, .ref h), (1, .int p0)] []
  unfold F0_hasSprig
  refine v_iload_n d0_hasSprig_0 1 rfl rfl ?_
  refine v_if_lt (tgt := 22) d0_hasSprig_1 (by decide) ?_ ?_
  · refine v_iconst d0_hasSprig_22 ki_0 ?_
    exact v_iret (ty := .boolean) d0_hasSprig_23 rfl rfl rfl
  · refine v_iload_n d0_hasSprig_4 1 rfl rfl ?_
    refine v_aload_n d0_hasSprig_5 0 rfl rfl ?_
    refine v_getI d0_hasSprig_6 faX0_27 hh ?_
    refine v_icmp_ge (tgt := 22) d0_hasSprig_9 (by decide) ?_ ?_
    · refine v_iconst d0_hasSprig_22 ki_0 ?_
      exact v_iret (ty := .boolean) d0_hasSprig_23 rfl rfl rfl
    · refine v_iload_n d0_hasSprig_12 1 rfl rfl ?_
      refine v_bipush d0_hasSprig_13 kb_20 ?_
      refine v_icmp_ge (tgt := 22) d0_hasSprig_15 (by decide) ?_ ?_
      · refine v_iconst d0_hasSprig_22 ki_0 ?_
        exact v_iret (ty := .boolean) d0_hasSprig_23 rfl rfl rfl
      · refine v_iconst d0_hasSprig_18 ki_1 ?_
        refine v_goto (tgt := 23) d0_hasSprig_19 (by decide) ?_
        exact v_iret (ty := .boolean) d0_hasSprig_23 rfl rfl rfl
theorem d0_hasHeap_0 : decode cX0_hasHeap 0 = .ok (.iload_n 1, 1) := by decide +kernel
theorem d0_hasHeap_1 : decode cX0_hasHeap 1 = .ok (.ifCond .lt 20, 3) := by decide +kernel
theorem d0_hasHeap_4 : decode cX0_hasHeap 4 = .ok (.iload_n 1, 1) := by decide +kernel
theorem d0_hasHeap_5 : decode cX0_hasHeap 5 = .ok (.aload_n 0, 1) := by decide +kernel
theorem d0_hasHeap_6 : decode cX0_hasHeap 6 = .ok (.getfield 34, 3) := by decide +kernel
theorem d0_hasHeap_9 : decode cX0_hasHeap 9 = .ok (.if_icmp .ge 12, 3) := by decide +kernel
theorem d0_hasHeap_12 : decode cX0_hasHeap 12 = .ok (.iload_n 1, 1) := by decide +kernel
theorem d0_hasHeap_13 : decode cX0_hasHeap 13 = .ok (.iconst 4, 1) := by decide +kernel
theorem d0_hasHeap_14 : decode cX0_hasHeap 14 = .ok (.if_icmp .ge 7, 3) := by decide +kernel
theorem d0_hasHeap_17 : decode cX0_hasHeap 17 = .ok (.iconst 1, 1) := by decide +kernel
theorem d0_hasHeap_18 : decode cX0_hasHeap 18 = .ok (.goto 4, 3) := by decide +kernel
theorem d0_hasHeap_21 : decode cX0_hasHeap 21 = .ok (.iconst 0, 1) := by decide +kernel
theorem d0_hasHeap_22 : decode cX0_hasHeap 22 = .ok (.ireturn, 1) := by decide +kernel
abbrev K0_hasHeap : CK Int32 := (enI, (some .boolean), 2, 1, none)
noncomputable def F0_hasHeap (h : Nat) (p0 : Int32) (σ : Ms) : Option (Int32 × Ms) :=
  if p0 < 0 then (some ((0 : Int32), σ))
  else (if (σ.1 h 7) ≤ p0 then (some ((0 : Int32), σ))
  else (if (4 : Int32) ≤ p0 then (some ((0 : Int32), σ))
  else (some ((1 : Int32), σ))))
set_option maxRecDepth 100000 in
theorem mc0_hasHeap (h : Nat) (hh : IsC h (0, 0, 0)) (p0 : Int32) (σ : Ms) : MC enI yX0_hasHeap cX0_hasHeap 2 (some .boolean) 1 (F0_hasHeap h p0 σ) σ [.ref h, .int p0] := by
  refine MC.i (by decide +kernel) (Nat.le_of_ble_eq_true rfl) ?_
  show VF (K0_hasHeap) cX0_hasHeap RX0 (F0_hasHeap h p0 σ) σ 0 [(0, .ref h), (1, .int p0)] []
  unfold F0_hasHeap
  refine v_iload_n d0_hasHeap_0 1 rfl rfl ?_
  refine v_if_lt (tgt := 21) d0_hasHeap_1 (by decide) ?_ ?_
  · refine v_iconst d0_hasHeap_21 ki_0 ?_
    exact v_iret (ty := .boolean) d0_hasHeap_22 rfl rfl rfl
  · refine v_iload_n d0_hasHeap_4 1 rfl rfl ?_
    refine v_aload_n d0_hasHeap_5 0 rfl rfl ?_
    refine v_getI d0_hasHeap_6 faX0_34 hh ?_
    refine v_icmp_ge (tgt := 21) d0_hasHeap_9 (by decide) ?_ ?_
    · refine v_iconst d0_hasHeap_21 ki_0 ?_
      exact v_iret (ty := .boolean) d0_hasHeap_22 rfl rfl rfl
    · refine v_iload_n d0_hasHeap_12 1 rfl rfl ?_
      refine v_iconst d0_hasHeap_13 ki_4 ?_
      refine v_icmp_ge (tgt := 21) d0_hasHeap_14 (by decide) ?_ ?_
      · refine v_iconst d0_hasHeap_21 ki_0 ?_
        exact v_iret (ty := .boolean) d0_hasHeap_22 rfl rfl rfl
      · refine v_iconst d0_hasHeap_17 ki_1 ?_
        refine v_goto (tgt := 22) d0_hasHeap_18 (by decide) ?_
        exact v_iret (ty := .boolean) d0_hasHeap_22 rfl rfl rfl
theorem d0_hasBet_0 : decode cX0_hasBet 0 = .ok (.iload_n 1, 1) := by decide +kernel
theorem d0_hasBet_1 : decode cX0_hasBet 1 = .ok (.ifCond .lt 20, 3) := by decide +kernel
theorem d0_hasBet_4 : decode cX0_hasBet 4 = .ok (.iload_n 1, 1) := by decide +kernel
theorem d0_hasBet_5 : decode cX0_hasBet 5 = .ok (.aload_n 0, 1) := by decide +kernel
theorem d0_hasBet_6 : decode cX0_hasBet 6 = .ok (.getfield 37, 3) := by decide +kernel
theorem d0_hasBet_9 : decode cX0_hasBet 9 = .ok (.if_icmp .ge 12, 3) := by decide +kernel
theorem d0_hasBet_12 : decode cX0_hasBet 12 = .ok (.iload_n 1, 1) := by decide +kernel
theorem d0_hasBet_13 : decode cX0_hasBet 13 = .ok (.iconst 5, 1) := by decide +kernel
theorem d0_hasBet_14 : decode cX0_hasBet 14 = .ok (.if_icmp .ge 7, 3) := by decide +kernel
theorem d0_hasBet_17 : decode cX0_hasBet 17 = .ok (.iconst 1, 1) := by decide +kernel
theorem d0_hasBet_18 : decode cX0_hasBet 18 = .ok (.goto 4, 3) := by decide +kernel
theorem d0_hasBet_21 : decode cX0_hasBet 21 = .ok (.iconst 0, 1) := by decide +kernel
theorem d0_hasBet_22 : decode cX0_hasBet 22 = .ok (.ireturn, 1) := by decide +kernel
abbrev K0_hasBet : CK Int32 := (enI, (some .boolean), 2, 1, none)
noncomputable def F0_hasBet (h : Nat) (p0 : Int32) (σ : Ms) : Option (Int32 × Ms) :=
  if p0 < 0 then (some ((0 : Int32), σ))
  else (if (σ.1 h 8) ≤ p0 then (some ((0 : Int32), σ))
  else (if (5 : Int32) ≤ p0 then (some ((0 : Int32), σ))
  else (some ((1 : Int32), σ))))
set_option maxRecDepth 100000 in
theorem mc0_hasBet (h : Nat) (hh : IsC h (0, 0, 0)) (p0 : Int32) (σ : Ms) : MC enI yX0_hasBet cX0_hasBet 2 (some .boolean) 1 (F0_hasBet h p0 σ) σ [.ref h, .int p0] := by
  refine MC.i (by decide +kernel) (Nat.le_of_ble_eq_true rfl) ?_
  show VF (K0_hasBet) cX0_hasBet RX0 (F0_hasBet h p0 σ) σ 0 [(0, .ref h), (1, .int p0)] []
  unfold F0_hasBet
  refine v_iload_n d0_hasBet_0 1 rfl rfl ?_
  refine v_if_lt (tgt := 21) d0_hasBet_1 (by decide) ?_ ?_
  · refine v_iconst d0_hasBet_21 ki_0 ?_
    exact v_iret (ty := .boolean) d0_hasBet_22 rfl rfl rfl
  · refine v_iload_n d0_hasBet_4 1 rfl rfl ?_
    refine v_aload_n d0_hasBet_5 0 rfl rfl ?_
    refine v_getI d0_hasBet_6 faX0_37 hh ?_
    refine v_icmp_ge (tgt := 21) d0_hasBet_9 (by decide) ?_ ?_
    · refine v_iconst d0_hasBet_21 ki_0 ?_
      exact v_iret (ty := .boolean) d0_hasBet_22 rfl rfl rfl
    · refine v_iload_n d0_hasBet_12 1 rfl rfl ?_
      refine v_iconst d0_hasBet_13 ki_5 ?_
      refine v_icmp_ge (tgt := 21) d0_hasBet_14 (by decide) ?_ ?_
      · refine v_iconst d0_hasBet_21 ki_0 ?_
        exact v_iret (ty := .boolean) d0_hasBet_22 rfl rfl rfl
      · refine v_iconst d0_hasBet_17 ki_1 ?_
        refine v_goto (tgt := 22) d0_hasBet_18 (by decide) ?_
        exact v_iret (ty := .boolean) d0_hasBet_22 rfl rfl rfl
theorem d11_isIn_0 : decode cX11_isIn 0 = .ok (.iload_n 0, 1) := by decide +kernel
theorem d11_isIn_1 : decode cX11_isIn 1 = .ok (.iload_n 1, 1) := by decide +kernel
theorem d11_isIn_2 : decode cX11_isIn 2 = .ok (.ishr, 1) := by decide +kernel
theorem d11_isIn_3 : decode cX11_isIn 3 = .ok (.iconst 1, 1) := by decide +kernel
theorem d11_isIn_4 : decode cX11_isIn 4 = .ok (.iand, 1) := by decide +kernel
theorem d11_isIn_5 : decode cX11_isIn 5 = .ok (.ifCond .eq 7, 3) := by decide +kernel
theorem d11_isIn_8 : decode cX11_isIn 8 = .ok (.iconst 1, 1) := by decide +kernel
theorem d11_isIn_9 : decode cX11_isIn 9 = .ok (.goto 4, 3) := by decide +kernel
theorem d11_isIn_12 : decode cX11_isIn 12 = .ok (.iconst 0, 1) := by decide +kernel
theorem d11_isIn_13 : decode cX11_isIn 13 = .ok (.ireturn, 1) := by decide +kernel
abbrev K11_isIn : CK Int32 := (enI, (some .boolean), 2, 1, none)
noncomputable def F11_isIn (p0 : Int32) (p1 : Int32) (σ : Ms) : Option (Int32 × Ms) :=
  if ((p0 >>> (p1 &&& 31)) &&& (1 : Int32)) = 0 then (some ((0 : Int32), σ))
  else (some ((1 : Int32), σ))
set_option maxRecDepth 100000 in
theorem mc11_isIn (p0 : Int32) (p1 : Int32) (σ : Ms) : MC enI yX11_isIn cX11_isIn 2 (some .boolean) 1 (F11_isIn p0 p1 σ) σ [.int p0, .int p1] := by
  refine MC.i (by decide +kernel) (Nat.le_of_ble_eq_true rfl) ?_
  show VF (K11_isIn) cX11_isIn RX11 (F11_isIn p0 p1 σ) σ 0 [(0, .int p0), (1, .int p1)] []
  unfold F11_isIn
  refine v_iload_n d11_isIn_0 0 rfl rfl ?_
  refine v_iload_n d11_isIn_1 1 rfl rfl ?_
  refine v_ishr d11_isIn_2 ?_
  refine v_iconst d11_isIn_3 ki_1 ?_
  refine v_iand d11_isIn_4 ?_
  refine v_if_eq (tgt := 12) d11_isIn_5 (by decide) ?_ ?_
  · refine v_iconst d11_isIn_12 ki_0 ?_
    exact v_iret (ty := .boolean) d11_isIn_13 rfl rfl rfl
  · refine v_iconst d11_isIn_8 ki_1 ?_
    refine v_goto (tgt := 13) d11_isIn_9 (by decide) ?_
    exact v_iret (ty := .boolean) d11_isIn_13 rfl rfl rfl
theorem d0_isStanding_0 : decode cX0_isStanding 0 = .ok (.aload_n 0, 1) := by decide +kernel
theorem d0_isStanding_1 : decode cX0_isStanding 1 = .ok (.iload_n 1, 1) := by decide +kernel
theorem d0_isStanding_2 : decode cX0_isStanding 2 = .ok (.invokevirtual 56, 3) := by decide +kernel
theorem d0_isStanding_5 : decode cX0_isStanding 5 = .ok (.ifCond .eq 18, 3) := by decide +kernel
theorem d0_isStanding_8 : decode cX0_isStanding 8 = .ok (.aload_n 0, 1) := by decide +kernel
theorem d0_isStanding_9 : decode cX0_isStanding 9 = .ok (.getfield 31, 3) := by decide +kernel
theorem d0_isStanding_12 : decode cX0_isStanding 12 = .ok (.iload_n 1, 1) := by decide +kernel
theorem d0_isStanding_13 : decode cX0_isStanding 13 = .ok (.invokestatic 60, 3) := by decide +kernel
theorem d0_isStanding_16 : decode cX0_isStanding 16 = .ok (.ifCond .eq 7, 3) := by decide +kernel
theorem d0_isStanding_19 : decode cX0_isStanding 19 = .ok (.iconst 1, 1) := by decide +kernel
theorem d0_isStanding_20 : decode cX0_isStanding 20 = .ok (.goto 4, 3) := by decide +kernel
theorem d0_isStanding_23 : decode cX0_isStanding 23 = .ok (.iconst 0, 1) := by decide +kernel
theorem d0_isStanding_24 : decode cX0_isStanding 24 = .ok (.ireturn, 1) := by decide +kernel
abbrev K0_isStanding : CK Int32 := (enI, (some .boolean), 2, 2, none)
noncomputable def F0_isStanding (h : Nat) (p0 : Int32) (σ : Ms) : Option (Int32 × Ms) :=
  bn (F0_hasSprig h p0 σ) (fun r1 t2 => if r1 = 0 then (some ((0 : Int32), t2))
  else (bn (F11_isIn (t2.1 h 6) p0 t2) (fun r3 t4 => if r3 = 0 then (some ((0 : Int32), t4))
  else (some ((1 : Int32), t4)))))
set_option maxRecDepth 100000 in
theorem mc0_isStanding (h : Nat) (hh : IsC h (0, 0, 0)) (p0 : Int32) (σ : Ms) : MC enI yX0_isStanding cX0_isStanding 2 (some .boolean) 2 (F0_isStanding h p0 σ) σ [.ref h, .int p0] := by
  refine MC.i (by decide +kernel) (Nat.le_of_ble_eq_true rfl) ?_
  show VF (K0_isStanding) cX0_isStanding RX0 (F0_isStanding h p0 σ) σ 0 [(0, .ref h), (1, .int p0)] []
  unfold F0_isStanding
  refine v_aload_n d0_isStanding_0 0 rfl rfl ?_
  refine v_iload_n d0_isStanding_1 1 rfl rfl ?_
  refine v_callV1i d0_isStanding_2 (mc0_hasSprig h hh p0 σ) yv0_hasSprig mlX0_56 (Recv.obj hh rfl) (by decide) (Nat.le_of_ble_eq_true rfl) fun r1 t2 => ?_
  refine v_if_eq (tgt := 23) d0_isStanding_5 (by decide) ?_ ?_
  · refine v_iconst d0_isStanding_23 ki_0 ?_
    exact v_iret (ty := .boolean) d0_isStanding_24 rfl rfl rfl
  · refine v_aload_n d0_isStanding_8 0 rfl rfl ?_
    refine v_getI d0_isStanding_9 faX0_31 hh ?_
    refine v_iload_n d0_isStanding_12 1 rfl rfl ?_
    refine v_callN2i d0_isStanding_13 (mc11_isIn (t2.1 h 6) p0 t2) ys11_isIn neX0_60 (by decide) (Nat.le_of_ble_eq_true rfl) fun r3 t4 => ?_
    refine v_if_eq (tgt := 23) d0_isStanding_16 (by decide) ?_ ?_
    · refine v_iconst d0_isStanding_23 ki_0 ?_
      exact v_iret (ty := .boolean) d0_isStanding_24 rfl rfl rfl
    · refine v_iconst d0_isStanding_19 ki_1 ?_
      refine v_goto (tgt := 24) d0_isStanding_20 (by decide) ?_
      exact v_iret (ty := .boolean) d0_isStanding_24 rfl rfl rfl
theorem d0_hasWorth_0 : decode cX0_hasWorth 0 = .ok (.aload_n 0, 1) := by decide +kernel
theorem d0_hasWorth_1 : decode cX0_hasWorth 1 = .ok (.iload_n 1, 1) := by decide +kernel
theorem d0_hasWorth_2 : decode cX0_hasWorth 2 = .ok (.invokevirtual 64, 3) := by decide +kernel
theorem d0_hasWorth_5 : decode cX0_hasWorth 5 = .ok (.ifCond .eq 17, 3) := by decide +kernel
theorem d0_hasWorth_8 : decode cX0_hasWorth 8 = .ok (.aload_n 0, 1) := by decide +kernel
theorem d0_hasWorth_9 : decode cX0_hasWorth 9 = .ok (.getfield 9, 3) := by decide +kernel
theorem d0_hasWorth_12 : decode cX0_hasWorth 12 = .ok (.iload_n 1, 1) := by decide +kernel
theorem d0_hasWorth_13 : decode cX0_hasWorth 13 = .ok (.iaload, 1) := by decide +kernel
theorem d0_hasWorth_14 : decode cX0_hasWorth 14 = .ok (.iconst 2, 1) := by decide +kernel
theorem d0_hasWorth_15 : decode cX0_hasWorth 15 = .ok (.if_icmp .eq 7, 3) := by decide +kernel
theorem d0_hasWorth_18 : decode cX0_hasWorth 18 = .ok (.iconst 1, 1) := by decide +kernel
theorem d0_hasWorth_19 : decode cX0_hasWorth 19 = .ok (.goto 4, 3) := by decide +kernel
theorem d0_hasWorth_22 : decode cX0_hasWorth 22 = .ok (.iconst 0, 1) := by decide +kernel
theorem d0_hasWorth_23 : decode cX0_hasWorth 23 = .ok (.ireturn, 1) := by decide +kernel
abbrev K0_hasWorth : CK Int32 := (enI, (some .boolean), 2, 3, none)
noncomputable def F0_hasWorth (h : Nat) (p0 : Int32) (σ : Ms) : Option (Int32 × Ms) :=
  bn (F0_isStanding h p0 σ) (fun r1 t2 => if r1 = 0 then (some ((0 : Int32), t2))
  else (ck (ixb p0 20) (if (t2.1 (h + 1) p0.toNatClampNeg) = (2 : Int32) then (some ((0 : Int32), t2))
  else (some ((1 : Int32), t2)))))
set_option maxRecDepth 100000 in
theorem mc0_hasWorth (h : Nat) (hh : IsC h (0, 0, 0)) (p0 : Int32) (σ : Ms) : MC enI yX0_hasWorth cX0_hasWorth 2 (some .boolean) 3 (F0_hasWorth h p0 σ) σ [.ref h, .int p0] := by
  refine MC.i (by decide +kernel) (Nat.le_of_ble_eq_true rfl) ?_
  show VF (K0_hasWorth) cX0_hasWorth RX0 (F0_hasWorth h p0 σ) σ 0 [(0, .ref h), (1, .int p0)] []
  unfold F0_hasWorth
  refine v_aload_n d0_hasWorth_0 0 rfl rfl ?_
  refine v_iload_n d0_hasWorth_1 1 rfl rfl ?_
  refine v_callV1i d0_hasWorth_2 (mc0_isStanding h hh p0 σ) yv0_isStanding mlX0_64 (Recv.obj hh rfl) (by decide) (Nat.le_of_ble_eq_true rfl) fun r1 t2 => ?_
  refine v_if_eq (tgt := 22) d0_hasWorth_5 (by decide) ?_ ?_
  · refine v_iconst d0_hasWorth_22 ki_0 ?_
    exact v_iret (ty := .boolean) d0_hasWorth_23 rfl rfl rfl
  · refine v_aload_n d0_hasWorth_8 0 rfl rfl ?_
    refine v_getR d0_hasWorth_9 faX0_9 hh rfl ?_
    refine v_iload_n d0_hasWorth_12 1 rfl rfl ?_
    refine v_iald d0_hasWorth_13 (ih0_1 hh) ?_
    refine v_iconst d0_hasWorth_14 ki_2 ?_
    refine v_icmp_eq (tgt := 22) d0_hasWorth_15 (by decide) ?_ ?_
    · refine v_iconst d0_hasWorth_22 ki_0 ?_
      exact v_iret (ty := .boolean) d0_hasWorth_23 rfl rfl rfl
    · refine v_iconst d0_hasWorth_18 ki_1 ?_
      refine v_goto (tgt := 23) d0_hasWorth_19 (by decide) ?_
      exact v_iret (ty := .boolean) d0_hasWorth_23 rfl rfl rfl
theorem d0_mayCut_0 : decode cX0_mayCut 0 = .ok (.aload_n 0, 1) := by decide +kernel
theorem d0_mayCut_1 : decode cX0_mayCut 1 = .ok (.iload_n 2, 1) := by decide +kernel
theorem d0_mayCut_2 : decode cX0_mayCut 2 = .ok (.invokevirtual 64, 3) := by decide +kernel
theorem d0_mayCut_5 : decode cX0_mayCut 5 = .ok (.ifCond .eq 25, 3) := by decide +kernel
theorem d0_mayCut_8 : decode cX0_mayCut 8 = .ok (.aload_n 0, 1) := by decide +kernel
theorem d0_mayCut_9 : decode cX0_mayCut 9 = .ok (.getfield 9, 3) := by decide +kernel
theorem d0_mayCut_12 : decode cX0_mayCut 12 = .ok (.iload_n 2, 1) := by decide +kernel
theorem d0_mayCut_13 : decode cX0_mayCut 13 = .ok (.iaload, 1) := by decide +kernel
theorem d0_mayCut_14 : decode cX0_mayCut 14 = .ok (.iload_n 1, 1) := by decide +kernel
theorem d0_mayCut_15 : decode cX0_mayCut 15 = .ok (.ifCond .ne 7, 3) := by decide +kernel
theorem d0_mayCut_18 : decode cX0_mayCut 18 = .ok (.iconst 1, 1) := by decide +kernel
theorem d0_mayCut_19 : decode cX0_mayCut 19 = .ok (.goto 4, 3) := by decide +kernel
theorem d0_mayCut_22 : decode cX0_mayCut 22 = .ok (.iconst 0, 1) := by decide +kernel
theorem d0_mayCut_23 : decode cX0_mayCut 23 = .ok (.if_icmp .eq 7, 3) := by decide +kernel
theorem d0_mayCut_26 : decode cX0_mayCut 26 = .ok (.iconst 1, 1) := by decide +kernel
theorem d0_mayCut_27 : decode cX0_mayCut 27 = .ok (.goto 4, 3) := by decide +kernel
theorem d0_mayCut_30 : decode cX0_mayCut 30 = .ok (.iconst 0, 1) := by decide +kernel
theorem d0_mayCut_31 : decode cX0_mayCut 31 = .ok (.ireturn, 1) := by decide +kernel
abbrev K0_mayCut : CK Int32 := (enI, (some .boolean), 3, 3, none)
noncomputable def F0_mayCut_b23 (h : Nat) (s0 : Int32) (s1 : Int32) (σ : Ms) : Option (Int32 × Ms) :=
  if s0 = s1 then (some ((0 : Int32), σ))
  else (some ((1 : Int32), σ))
noncomputable def F0_mayCut (h : Nat) (p0 : Int32) (p1 : Int32) (σ : Ms) : Option (Int32 × Ms) :=
  bn (F0_isStanding h p1 σ) (fun r1 t2 => if r1 = 0 then (some ((0 : Int32), t2))
  else (ck (ixb p1 20) (if p0 ≠ 0 then (F0_mayCut_b23 h (t2.1 (h + 1) p1.toNatClampNeg) (0 : Int32) t2)
  else (F0_mayCut_b23 h (t2.1 (h + 1) p1.toNatClampNeg) (1 : Int32) t2))))
set_option maxRecDepth 100000 in
theorem v0_mayCut_b23 (h : Nat) (hh : IsC h (0, 0, 0)) (s0 : Int32) (s1 : Int32) (σ : Ms) : VF (K0_mayCut) cX0_mayCut RX0 (F0_mayCut_b23 h s0 s1 σ) σ 23 [] [.int s1, .int s0] := by
  unfold F0_mayCut_b23
  refine v_icmp_eq (tgt := 30) d0_mayCut_23 (by decide) ?_ ?_
  · refine v_iconst d0_mayCut_30 ki_0 ?_
    exact v_iret (ty := .boolean) d0_mayCut_31 rfl rfl rfl
  · refine v_iconst d0_mayCut_26 ki_1 ?_
    refine v_goto (tgt := 31) d0_mayCut_27 (by decide) ?_
    exact v_iret (ty := .boolean) d0_mayCut_31 rfl rfl rfl
set_option maxRecDepth 100000 in
theorem mc0_mayCut (h : Nat) (hh : IsC h (0, 0, 0)) (p0 : Int32) (p1 : Int32) (σ : Ms) : MC enI yX0_mayCut cX0_mayCut 3 (some .boolean) 3 (F0_mayCut h p0 p1 σ) σ [.ref h, .int p0, .int p1] := by
  refine MC.i (by decide +kernel) (Nat.le_of_ble_eq_true rfl) ?_
  show VF (K0_mayCut) cX0_mayCut RX0 (F0_mayCut h p0 p1 σ) σ 0 [(0, .ref h), (1, .int p0), (2, .int p1)] []
  unfold F0_mayCut
  refine v_aload_n d0_mayCut_0 0 rfl rfl ?_
  refine v_iload_n d0_mayCut_1 2 rfl rfl ?_
  refine v_callV1i d0_mayCut_2 (mc0_isStanding h hh p1 σ) yv0_isStanding mlX0_64 (Recv.obj hh rfl) (by decide) (Nat.le_of_ble_eq_true rfl) fun r1 t2 => ?_
  refine v_if_eq (tgt := 30) d0_mayCut_5 (by decide) ?_ ?_
  · refine v_iconst d0_mayCut_30 ki_0 ?_
    exact v_iret (ty := .boolean) d0_mayCut_31 rfl rfl rfl
  · refine v_aload_n d0_mayCut_8 0 rfl rfl ?_
    refine v_getR d0_mayCut_9 faX0_9 hh rfl ?_
    refine v_iload_n d0_mayCut_12 2 rfl rfl ?_
    refine v_iald d0_mayCut_13 (ih0_1 hh) ?_
    refine v_iload_n d0_mayCut_14 1 rfl rfl ?_
    refine v_if_ne (tgt := 22) d0_mayCut_15 (by decide) ?_ ?_
    · refine v_iconst d0_mayCut_22 ki_0 ?_
      refine v_sub [] rfl ?_
      exact v0_mayCut_b23 h hh (t2.1 (h + 1) p1.toNatClampNeg) (0 : Int32) t2
    · refine v_iconst d0_mayCut_18 ki_1 ?_
      refine v_goto (tgt := 23) d0_mayCut_19 (by decide) ?_
      refine v_sub [] rfl ?_
      exact v0_mayCut_b23 h hh (t2.1 (h + 1) p1.toNatClampNeg) (1 : Int32) t2
theorem d0_mayTake_0 : decode cX0_mayTake 0 = .ok (.aload_n 0, 1) := by decide +kernel
theorem d0_mayTake_1 : decode cX0_mayTake 1 = .ok (.iload_n 1, 1) := by decide +kernel
theorem d0_mayTake_2 : decode cX0_mayTake 2 = .ok (.invokevirtual 67, 3) := by decide +kernel
theorem d0_mayTake_5 : decode cX0_mayTake 5 = .ok (.ifCond .eq 18, 3) := by decide +kernel
theorem d0_mayTake_8 : decode cX0_mayTake 8 = .ok (.aload_n 0, 1) := by decide +kernel
theorem d0_mayTake_9 : decode cX0_mayTake 9 = .ok (.getfield 40, 3) := by decide +kernel
theorem d0_mayTake_12 : decode cX0_mayTake 12 = .ok (.iload_n 1, 1) := by decide +kernel
theorem d0_mayTake_13 : decode cX0_mayTake 13 = .ok (.invokestatic 60, 3) := by decide +kernel
theorem d0_mayTake_16 : decode cX0_mayTake 16 = .ok (.ifCond .ne 7, 3) := by decide +kernel
theorem d0_mayTake_19 : decode cX0_mayTake 19 = .ok (.iconst 1, 1) := by decide +kernel
theorem d0_mayTake_20 : decode cX0_mayTake 20 = .ok (.goto 4, 3) := by decide +kernel
theorem d0_mayTake_23 : decode cX0_mayTake 23 = .ok (.iconst 0, 1) := by decide +kernel
theorem d0_mayTake_24 : decode cX0_mayTake 24 = .ok (.ireturn, 1) := by decide +kernel
abbrev K0_mayTake : CK Int32 := (enI, (some .boolean), 2, 2, none)
noncomputable def F0_mayTake (h : Nat) (p0 : Int32) (σ : Ms) : Option (Int32 × Ms) :=
  bn (F0_hasBet h p0 σ) (fun r1 t2 => if r1 = 0 then (some ((0 : Int32), t2))
  else (bn (F11_isIn (t2.1 h 9) p0 t2) (fun r3 t4 => if r3 ≠ 0 then (some ((0 : Int32), t4))
  else (some ((1 : Int32), t4)))))
set_option maxRecDepth 100000 in
theorem mc0_mayTake (h : Nat) (hh : IsC h (0, 0, 0)) (p0 : Int32) (σ : Ms) : MC enI yX0_mayTake cX0_mayTake 2 (some .boolean) 2 (F0_mayTake h p0 σ) σ [.ref h, .int p0] := by
  refine MC.i (by decide +kernel) (Nat.le_of_ble_eq_true rfl) ?_
  show VF (K0_mayTake) cX0_mayTake RX0 (F0_mayTake h p0 σ) σ 0 [(0, .ref h), (1, .int p0)] []
  unfold F0_mayTake
  refine v_aload_n d0_mayTake_0 0 rfl rfl ?_
  refine v_iload_n d0_mayTake_1 1 rfl rfl ?_
  refine v_callV1i d0_mayTake_2 (mc0_hasBet h hh p0 σ) yv0_hasBet mlX0_67 (Recv.obj hh rfl) (by decide) (Nat.le_of_ble_eq_true rfl) fun r1 t2 => ?_
  refine v_if_eq (tgt := 23) d0_mayTake_5 (by decide) ?_ ?_
  · refine v_iconst d0_mayTake_23 ki_0 ?_
    exact v_iret (ty := .boolean) d0_mayTake_24 rfl rfl rfl
  · refine v_aload_n d0_mayTake_8 0 rfl rfl ?_
    refine v_getI d0_mayTake_9 faX0_40 hh ?_
    refine v_iload_n d0_mayTake_12 1 rfl rfl ?_
    refine v_callN2i d0_mayTake_13 (mc11_isIn (t2.1 h 9) p0 t2) ys11_isIn neX0_60 (by decide) (Nat.le_of_ble_eq_true rfl) fun r3 t4 => ?_
    refine v_if_ne (tgt := 23) d0_mayTake_16 (by decide) ?_ ?_
    · refine v_iconst d0_mayTake_23 ki_0 ?_
      exact v_iret (ty := .boolean) d0_mayTake_24 rfl rfl rfl
    · refine v_iconst d0_mayTake_19 ki_1 ?_
      refine v_goto (tgt := 24) d0_mayTake_20 (by decide) ?_
      exact v_iret (ty := .boolean) d0_mayTake_24 rfl rfl rfl
theorem d0_mayLessen_0 : decode cX0_mayLessen 0 = .ok (.aload_n 0, 1) := by decide +kernel
theorem d0_mayLessen_1 : decode cX0_mayLessen 1 = .ok (.iload_n 1, 1) := by decide +kernel
theorem d0_mayLessen_2 : decode cX0_mayLessen 2 = .ok (.invokevirtual 70, 3) := by decide +kernel
theorem d0_mayLessen_5 : decode cX0_mayLessen 5 = .ok (.ifCond .eq 21, 3) := by decide +kernel
theorem d0_mayLessen_8 : decode cX0_mayLessen 8 = .ok (.iload_n 2, 1) := by decide +kernel
theorem d0_mayLessen_9 : decode cX0_mayLessen 9 = .ok (.ifCond .lt 17, 3) := by decide +kernel
theorem d0_mayLessen_12 : decode cX0_mayLessen 12 = .ok (.iload_n 2, 1) := by decide +kernel
theorem d0_mayLessen_13 : decode cX0_mayLessen 13 = .ok (.aload_n 0, 1) := by decide +kernel
theorem d0_mayLessen_14 : decode cX0_mayLessen 14 = .ok (.getfield 18, 3) := by decide +kernel
theorem d0_mayLessen_17 : decode cX0_mayLessen 17 = .ok (.iload_n 1, 1) := by decide +kernel
theorem d0_mayLessen_18 : decode cX0_mayLessen 18 = .ok (.iaload, 1) := by decide +kernel
theorem d0_mayLessen_19 : decode cX0_mayLessen 19 = .ok (.if_icmp .ge 7, 3) := by decide +kernel
theorem d0_mayLessen_22 : decode cX0_mayLessen 22 = .ok (.iconst 1, 1) := by decide +kernel
theorem d0_mayLessen_23 : decode cX0_mayLessen 23 = .ok (.goto 4, 3) := by decide +kernel
theorem d0_mayLessen_26 : decode cX0_mayLessen 26 = .ok (.iconst 0, 1) := by decide +kernel
theorem d0_mayLessen_27 : decode cX0_mayLessen 27 = .ok (.ireturn, 1) := by decide +kernel
abbrev K0_mayLessen : CK Int32 := (enI, (some .boolean), 3, 2, none)
noncomputable def F0_mayLessen (h : Nat) (p0 : Int32) (p1 : Int32) (σ : Ms) : Option (Int32 × Ms) :=
  bn (F0_hasHeap h p0 σ) (fun r1 t2 => if r1 = 0 then (some ((0 : Int32), t2))
  else (if p1 < 0 then (some ((0 : Int32), t2))
  else (ck (ixb p0 4) (if (t2.1 (h + 3) p0.toNatClampNeg) ≤ p1 then (some ((0 : Int32), t2))
  else (some ((1 : Int32), t2))))))
set_option maxRecDepth 100000 in
theorem mc0_mayLessen (h : Nat) (hh : IsC h (0, 0, 0)) (p0 : Int32) (p1 : Int32) (σ : Ms) : MC enI yX0_mayLessen cX0_mayLessen 3 (some .boolean) 2 (F0_mayLessen h p0 p1 σ) σ [.ref h, .int p0, .int p1] := by
  refine MC.i (by decide +kernel) (Nat.le_of_ble_eq_true rfl) ?_
  show VF (K0_mayLessen) cX0_mayLessen RX0 (F0_mayLessen h p0 p1 σ) σ 0 [(0, .ref h), (1, .int p0), (2, .int p1)] []
  unfold F0_mayLessen
  refine v_aload_n d0_mayLessen_0 0 rfl rfl ?_
  refine v_iload_n d0_mayLessen_1 1 rfl rfl ?_
  refine v_callV1i d0_mayLessen_2 (mc0_hasHeap h hh p0 σ) yv0_hasHeap mlX0_70 (Recv.obj hh rfl) (by decide) (Nat.le_of_ble_eq_true rfl) fun r1 t2 => ?_
  refine v_if_eq (tgt := 26) d0_mayLessen_5 (by decide) ?_ ?_
  · refine v_iconst d0_mayLessen_26 ki_0 ?_
    exact v_iret (ty := .boolean) d0_mayLessen_27 rfl rfl rfl
  · refine v_iload_n d0_mayLessen_8 2 rfl rfl ?_
    refine v_if_lt (tgt := 26) d0_mayLessen_9 (by decide) ?_ ?_
    · refine v_iconst d0_mayLessen_26 ki_0 ?_
      exact v_iret (ty := .boolean) d0_mayLessen_27 rfl rfl rfl
    · refine v_iload_n d0_mayLessen_12 2 rfl rfl ?_
      refine v_aload_n d0_mayLessen_13 0 rfl rfl ?_
      refine v_getR d0_mayLessen_14 faX0_18 hh rfl ?_
      refine v_iload_n d0_mayLessen_17 1 rfl rfl ?_
      refine v_iald d0_mayLessen_18 (ih0_3 hh) ?_
      refine v_icmp_ge (tgt := 26) d0_mayLessen_19 (by decide) ?_ ?_
      · refine v_iconst d0_mayLessen_26 ki_0 ?_
        exact v_iret (ty := .boolean) d0_mayLessen_27 rfl rfl rfl
      · refine v_iconst d0_mayLessen_22 ki_1 ?_
        refine v_goto (tgt := 27) d0_mayLessen_23 (by decide) ?_
        exact v_iret (ty := .boolean) d0_mayLessen_27 rfl rfl rfl
theorem d0_maySpend_0 : decode cX0_maySpend 0 = .ok (.iload_n 1, 1) := by decide +kernel
theorem d0_maySpend_1 : decode cX0_maySpend 1 = .ok (.ifCond .ne 18, 3) := by decide +kernel
theorem d0_maySpend_4 : decode cX0_maySpend 4 = .ok (.aload_n 0, 1) := by decide +kernel
theorem d0_maySpend_5 : decode cX0_maySpend 5 = .ok (.getfield 43, 3) := by decide +kernel
theorem d0_maySpend_8 : decode cX0_maySpend 8 = .ok (.ifCond .le 7, 3) := by decide +kernel
theorem d0_maySpend_11 : decode cX0_maySpend 11 = .ok (.iconst 1, 1) := by decide +kernel
theorem d0_maySpend_12 : decode cX0_maySpend 12 = .ok (.goto 19, 3) := by decide +kernel
theorem d0_maySpend_15 : decode cX0_maySpend 15 = .ok (.iconst 0, 1) := by decide +kernel
theorem d0_maySpend_16 : decode cX0_maySpend 16 = .ok (.goto 15, 3) := by decide +kernel
theorem d0_maySpend_19 : decode cX0_maySpend 19 = .ok (.aload_n 0, 1) := by decide +kernel
theorem d0_maySpend_20 : decode cX0_maySpend 20 = .ok (.getfield 43, 3) := by decide +kernel
theorem d0_maySpend_23 : decode cX0_maySpend 23 = .ok (.ifCond .ge 7, 3) := by decide +kernel
theorem d0_maySpend_26 : decode cX0_maySpend 26 = .ok (.iconst 1, 1) := by decide +kernel
theorem d0_maySpend_27 : decode cX0_maySpend 27 = .ok (.goto 4, 3) := by decide +kernel
theorem d0_maySpend_30 : decode cX0_maySpend 30 = .ok (.iconst 0, 1) := by decide +kernel
theorem d0_maySpend_31 : decode cX0_maySpend 31 = .ok (.ireturn, 1) := by decide +kernel
abbrev K0_maySpend : CK Int32 := (enI, (some .boolean), 2, 1, none)
noncomputable def F0_maySpend (h : Nat) (p0 : Int32) (σ : Ms) : Option (Int32 × Ms) :=
  if p0 ≠ 0 then (if 0 ≤ (σ.1 h 10) then (some ((0 : Int32), σ))
  else (some ((1 : Int32), σ)))
  else (if (σ.1 h 10) ≤ 0 then (some ((0 : Int32), σ))
  else (some ((1 : Int32), σ)))
set_option maxRecDepth 100000 in
theorem mc0_maySpend (h : Nat) (hh : IsC h (0, 0, 0)) (p0 : Int32) (σ : Ms) : MC enI yX0_maySpend cX0_maySpend 2 (some .boolean) 1 (F0_maySpend h p0 σ) σ [.ref h, .int p0] := by
  refine MC.i (by decide +kernel) (Nat.le_of_ble_eq_true rfl) ?_
  show VF (K0_maySpend) cX0_maySpend RX0 (F0_maySpend h p0 σ) σ 0 [(0, .ref h), (1, .int p0)] []
  unfold F0_maySpend
  refine v_iload_n d0_maySpend_0 1 rfl rfl ?_
  refine v_if_ne (tgt := 19) d0_maySpend_1 (by decide) ?_ ?_
  · refine v_aload_n d0_maySpend_19 0 rfl rfl ?_
    refine v_getI d0_maySpend_20 faX0_43 hh ?_
    refine v_if_ge (tgt := 30) d0_maySpend_23 (by decide) ?_ ?_
    · refine v_iconst d0_maySpend_30 ki_0 ?_
      exact v_iret (ty := .boolean) d0_maySpend_31 rfl rfl rfl
    · refine v_iconst d0_maySpend_26 ki_1 ?_
      refine v_goto (tgt := 31) d0_maySpend_27 (by decide) ?_
      exact v_iret (ty := .boolean) d0_maySpend_31 rfl rfl rfl
  · refine v_aload_n d0_maySpend_4 0 rfl rfl ?_
    refine v_getI d0_maySpend_5 faX0_43 hh ?_
    refine v_if_le (tgt := 15) d0_maySpend_8 (by decide) ?_ ?_
    · refine v_iconst d0_maySpend_15 ki_0 ?_
      refine v_goto (tgt := 31) d0_maySpend_16 (by decide) ?_
      exact v_iret (ty := .boolean) d0_maySpend_31 rfl rfl rfl
    · refine v_iconst d0_maySpend_11 ki_1 ?_
      refine v_goto (tgt := 31) d0_maySpend_12 (by decide) ?_
      exact v_iret (ty := .boolean) d0_maySpend_31 rfl rfl rfl
theorem d0_fits_0 : decode cX0_fits 0 = .ok (.iload_n 2, 1) := by decide +kernel
theorem d0_fits_1 : decode cX0_fits 1 = .ok (.iconst (-1), 1) := by decide +kernel
theorem d0_fits_2 : decode cX0_fits 2 = .ok (.if_icmp .ne 5, 3) := by decide +kernel
theorem d0_fits_5 : decode cX0_fits 5 = .ok (.iconst 1, 1) := by decide +kernel
theorem d0_fits_6 : decode cX0_fits 6 = .ok (.ireturn, 1) := by decide +kernel
theorem d0_fits_7 : decode cX0_fits 7 = .ok (.aload_n 0, 1) := by decide +kernel
theorem d0_fits_8 : decode cX0_fits 8 = .ok (.iload_n 2, 1) := by decide +kernel
theorem d0_fits_9 : decode cX0_fits 9 = .ok (.invokevirtual 56, 3) := by decide +kernel
theorem d0_fits_12 : decode cX0_fits 12 = .ok (.ifCond .eq 35, 3) := by decide +kernel
theorem d0_fits_15 : decode cX0_fits 15 = .ok (.iload_n 1, 1) := by decide +kernel
theorem d0_fits_16 : decode cX0_fits 16 = .ok (.iconst 2, 1) := by decide +kernel
theorem d0_fits_17 : decode cX0_fits 17 = .ok (.if_icmp .ne 7, 3) := by decide +kernel
theorem d0_fits_20 : decode cX0_fits 20 = .ok (.iconst 1, 1) := by decide +kernel
theorem d0_fits_21 : decode cX0_fits 21 = .ok (.goto 4, 3) := by decide +kernel
theorem d0_fits_24 : decode cX0_fits 24 = .ok (.iconst 0, 1) := by decide +kernel
theorem d0_fits_25 : decode cX0_fits 25 = .ok (.aload_n 0, 1) := by decide +kernel
theorem d0_fits_26 : decode cX0_fits 26 = .ok (.getfield 9, 3) := by decide +kernel
theorem d0_fits_29 : decode cX0_fits 29 = .ok (.iload_n 2, 1) := by decide +kernel
theorem d0_fits_30 : decode cX0_fits 30 = .ok (.iaload, 1) := by decide +kernel
theorem d0_fits_31 : decode cX0_fits 31 = .ok (.iconst 2, 1) := by decide +kernel
theorem d0_fits_32 : decode cX0_fits 32 = .ok (.if_icmp .ne 7, 3) := by decide +kernel
theorem d0_fits_35 : decode cX0_fits 35 = .ok (.iconst 1, 1) := by decide +kernel
theorem d0_fits_36 : decode cX0_fits 36 = .ok (.goto 4, 3) := by decide +kernel
theorem d0_fits_39 : decode cX0_fits 39 = .ok (.iconst 0, 1) := by decide +kernel
theorem d0_fits_40 : decode cX0_fits 40 = .ok (.if_icmp .ne 7, 3) := by decide +kernel
theorem d0_fits_43 : decode cX0_fits 43 = .ok (.iconst 1, 1) := by decide +kernel
theorem d0_fits_44 : decode cX0_fits 44 = .ok (.goto 4, 3) := by decide +kernel
theorem d0_fits_47 : decode cX0_fits 47 = .ok (.iconst 0, 1) := by decide +kernel
theorem d0_fits_48 : decode cX0_fits 48 = .ok (.ireturn, 1) := by decide +kernel
abbrev K0_fits : CK Int32 := (enI, (some .boolean), 3, 2, none)
noncomputable def F0_fits_b40 (h : Nat) (s0 : Int32) (s1 : Int32) (σ : Ms) : Option (Int32 × Ms) :=
  if s0 ≠ s1 then (some ((0 : Int32), σ))
  else (some ((1 : Int32), σ))
noncomputable def F0_fits_b25 (h : Nat) (l2 : Int32) (s0 : Int32) (σ : Ms) : Option (Int32 × Ms) :=
  ck (ixb l2 20) (if (σ.1 (h + 1) l2.toNatClampNeg) ≠ (2 : Int32) then (F0_fits_b40 h s0 (0 : Int32) σ)
  else (F0_fits_b40 h s0 (1 : Int32) σ))
noncomputable def F0_fits (h : Nat) (p0 : Int32) (p1 : Int32) (σ : Ms) : Option (Int32 × Ms) :=
  if p1 ≠ (-1 : Int32) then (bn (F0_hasSprig h p1 σ) (fun r1 t2 => if r1 = 0 then (some ((0 : Int32), t2))
  else (if p0 ≠ (2 : Int32) then (F0_fits_b25 h p1 (0 : Int32) t2)
  else (F0_fits_b25 h p1 (1 : Int32) t2))))
  else (some ((1 : Int32), σ))
set_option maxRecDepth 100000 in
theorem v0_fits_b40 (h : Nat) (hh : IsC h (0, 0, 0)) (s0 : Int32) (s1 : Int32) (σ : Ms) : VF (K0_fits) cX0_fits RX0 (F0_fits_b40 h s0 s1 σ) σ 40 [] [.int s1, .int s0] := by
  unfold F0_fits_b40
  refine v_icmp_ne (tgt := 47) d0_fits_40 (by decide) ?_ ?_
  · refine v_iconst d0_fits_47 ki_0 ?_
    exact v_iret (ty := .boolean) d0_fits_48 rfl rfl rfl
  · refine v_iconst d0_fits_43 ki_1 ?_
    refine v_goto (tgt := 48) d0_fits_44 (by decide) ?_
    exact v_iret (ty := .boolean) d0_fits_48 rfl rfl rfl
set_option maxRecDepth 100000 in
theorem v0_fits_b25 (h : Nat) (hh : IsC h (0, 0, 0)) (l2 : Int32) (s0 : Int32) (σ : Ms) : VF (K0_fits) cX0_fits RX0 (F0_fits_b25 h l2 s0 σ) σ 25 [(0, .ref h), (2, .int l2)] [.int s0] := by
  unfold F0_fits_b25
  refine v_aload_n d0_fits_25 0 rfl rfl ?_
  refine v_getR d0_fits_26 faX0_9 hh rfl ?_
  refine v_iload_n d0_fits_29 1 rfl rfl ?_
  refine v_iald d0_fits_30 (ih0_1 hh) ?_
  refine v_iconst d0_fits_31 ki_2 ?_
  refine v_icmp_ne (tgt := 39) d0_fits_32 (by decide) ?_ ?_
  · refine v_iconst d0_fits_39 ki_0 ?_
    refine v_sub [] rfl ?_
    exact v0_fits_b40 h hh s0 (0 : Int32) σ
  · refine v_iconst d0_fits_35 ki_1 ?_
    refine v_goto (tgt := 40) d0_fits_36 (by decide) ?_
    refine v_sub [] rfl ?_
    exact v0_fits_b40 h hh s0 (1 : Int32) σ
set_option maxRecDepth 100000 in
theorem mc0_fits (h : Nat) (hh : IsC h (0, 0, 0)) (p0 : Int32) (p1 : Int32) (σ : Ms) : MC enI yX0_fits cX0_fits 3 (some .boolean) 2 (F0_fits h p0 p1 σ) σ [.ref h, .int p0, .int p1] := by
  refine MC.i (by decide +kernel) (Nat.le_of_ble_eq_true rfl) ?_
  show VF (K0_fits) cX0_fits RX0 (F0_fits h p0 p1 σ) σ 0 [(0, .ref h), (1, .int p0), (2, .int p1)] []
  unfold F0_fits
  refine v_iload_n d0_fits_0 2 rfl rfl ?_
  refine v_iconst d0_fits_1 ki_m1 ?_
  refine v_icmp_ne (tgt := 7) d0_fits_2 (by decide) ?_ ?_
  · refine v_aload_n d0_fits_7 0 rfl rfl ?_
    refine v_iload_n d0_fits_8 2 rfl rfl ?_
    refine v_callV1i d0_fits_9 (mc0_hasSprig h hh p1 σ) yv0_hasSprig mlX0_56 (Recv.obj hh rfl) (by decide) (Nat.le_of_ble_eq_true rfl) fun r1 t2 => ?_
    refine v_if_eq (tgt := 47) d0_fits_12 (by decide) ?_ ?_
    · refine v_iconst d0_fits_47 ki_0 ?_
      exact v_iret (ty := .boolean) d0_fits_48 rfl rfl rfl
    · refine v_iload_n d0_fits_15 1 rfl rfl ?_
      refine v_iconst d0_fits_16 ki_2 ?_
      refine v_icmp_ne (tgt := 24) d0_fits_17 (by decide) ?_ ?_
      · refine v_iconst d0_fits_24 ki_0 ?_
        refine v_sub [0, 2] rfl ?_
        exact v0_fits_b25 h hh p1 (0 : Int32) t2
      · refine v_iconst d0_fits_20 ki_1 ?_
        refine v_goto (tgt := 25) d0_fits_21 (by decide) ?_
        refine v_sub [0, 2] rfl ?_
        exact v0_fits_b25 h hh p1 (1 : Int32) t2
  · refine v_iconst d0_fits_5 ki_1 ?_
    exact v_iret (ty := .boolean) d0_fits_6 rfl rfl rfl
theorem d0_mayGrow_0 : decode cX0_mayGrow 0 = .ok (.aload_n 0, 1) := by decide +kernel
theorem d0_mayGrow_1 : decode cX0_mayGrow 1 = .ok (.getfield 27, 3) := by decide +kernel
theorem d0_mayGrow_4 : decode cX0_mayGrow 4 = .ok (.bipush 20, 2) := by decide +kernel
theorem d0_mayGrow_6 : decode cX0_mayGrow 6 = .ok (.if_icmp .ge 29, 3) := by decide +kernel
theorem d0_mayGrow_9 : decode cX0_mayGrow 9 = .ok (.iload_n 2, 1) := by decide +kernel
theorem d0_mayGrow_10 : decode cX0_mayGrow 10 = .ok (.iconst (-1), 1) := by decide +kernel
theorem d0_mayGrow_11 : decode cX0_mayGrow 11 = .ok (.if_icmp .eq 11, 3) := by decide +kernel
theorem d0_mayGrow_14 : decode cX0_mayGrow 14 = .ok (.aload_n 0, 1) := by decide +kernel
theorem d0_mayGrow_15 : decode cX0_mayGrow 15 = .ok (.iload_n 2, 1) := by decide +kernel
theorem d0_mayGrow_16 : decode cX0_mayGrow 16 = .ok (.invokevirtual 64, 3) := by decide +kernel
theorem d0_mayGrow_19 : decode cX0_mayGrow 19 = .ok (.ifCond .eq 16, 3) := by decide +kernel
theorem d0_mayGrow_22 : decode cX0_mayGrow 22 = .ok (.aload_n 0, 1) := by decide +kernel
theorem d0_mayGrow_23 : decode cX0_mayGrow 23 = .ok (.iload_n 1, 1) := by decide +kernel
theorem d0_mayGrow_24 : decode cX0_mayGrow 24 = .ok (.iload_n 2, 1) := by decide +kernel
theorem d0_mayGrow_25 : decode cX0_mayGrow 25 = .ok (.invokevirtual 73, 3) := by decide +kernel
theorem d0_mayGrow_28 : decode cX0_mayGrow 28 = .ok (.ifCond .eq 7, 3) := by decide +kernel
theorem d0_mayGrow_31 : decode cX0_mayGrow 31 = .ok (.iconst 1, 1) := by decide +kernel
theorem d0_mayGrow_32 : decode cX0_mayGrow 32 = .ok (.goto 4, 3) := by decide +kernel
theorem d0_mayGrow_35 : decode cX0_mayGrow 35 = .ok (.iconst 0, 1) := by decide +kernel
theorem d0_mayGrow_36 : decode cX0_mayGrow 36 = .ok (.ireturn, 1) := by decide +kernel
abbrev K0_mayGrow : CK Int32 := (enI, (some .boolean), 3, 3, none)
noncomputable def F0_mayGrow_b22 (h : Nat) (l1 : Int32) (l2 : Int32) (σ : Ms) : Option (Int32 × Ms) :=
  bn (F0_fits h l1 l2 σ) (fun r1 t2 => if r1 = 0 then (some ((0 : Int32), t2))
  else (some ((1 : Int32), t2)))
noncomputable def F0_mayGrow (h : Nat) (p0 : Int32) (p1 : Int32) (σ : Ms) : Option (Int32 × Ms) :=
  if (20 : Int32) ≤ (σ.1 h 5) then (some ((0 : Int32), σ))
  else (if p1 = (-1 : Int32) then (F0_mayGrow_b22 h p0 p1 σ)
  else (bn (F0_isStanding h p1 σ) (fun r3 t4 => if r3 = 0 then (some ((0 : Int32), t4))
  else (F0_mayGrow_b22 h p0 p1 t4))))
set_option maxRecDepth 100000 in
theorem v0_mayGrow_b22 (h : Nat) (hh : IsC h (0, 0, 0)) (l1 : Int32) (l2 : Int32) (σ : Ms) : VF (K0_mayGrow) cX0_mayGrow RX0 (F0_mayGrow_b22 h l1 l2 σ) σ 22 [(0, .ref h), (1, .int l1), (2, .int l2)] [] := by
  unfold F0_mayGrow_b22
  refine v_aload_n d0_mayGrow_22 0 rfl rfl ?_
  refine v_iload_n d0_mayGrow_23 1 rfl rfl ?_
  refine v_iload_n d0_mayGrow_24 2 rfl rfl ?_
  refine v_callV2i d0_mayGrow_25 (mc0_fits h hh l1 l2 σ) yv0_fits mlX0_73 (Recv.obj hh rfl) (by decide) (Nat.le_of_ble_eq_true rfl) fun r1 t2 => ?_
  refine v_if_eq (tgt := 35) d0_mayGrow_28 (by decide) ?_ ?_
  · refine v_iconst d0_mayGrow_35 ki_0 ?_
    exact v_iret (ty := .boolean) d0_mayGrow_36 rfl rfl rfl
  · refine v_iconst d0_mayGrow_31 ki_1 ?_
    refine v_goto (tgt := 36) d0_mayGrow_32 (by decide) ?_
    exact v_iret (ty := .boolean) d0_mayGrow_36 rfl rfl rfl
set_option maxRecDepth 100000 in
theorem mc0_mayGrow (h : Nat) (hh : IsC h (0, 0, 0)) (p0 : Int32) (p1 : Int32) (σ : Ms) : MC enI yX0_mayGrow cX0_mayGrow 3 (some .boolean) 3 (F0_mayGrow h p0 p1 σ) σ [.ref h, .int p0, .int p1] := by
  refine MC.i (by decide +kernel) (Nat.le_of_ble_eq_true rfl) ?_
  show VF (K0_mayGrow) cX0_mayGrow RX0 (F0_mayGrow h p0 p1 σ) σ 0 [(0, .ref h), (1, .int p0), (2, .int p1)] []
  unfold F0_mayGrow
  refine v_aload_n d0_mayGrow_0 0 rfl rfl ?_
  refine v_getI d0_mayGrow_1 faX0_27 hh ?_
  refine v_bipush d0_mayGrow_4 kb_20 ?_
  refine v_icmp_ge (tgt := 35) d0_mayGrow_6 (by decide) ?_ ?_
  · refine v_iconst d0_mayGrow_35 ki_0 ?_
    exact v_iret (ty := .boolean) d0_mayGrow_36 rfl rfl rfl
  · refine v_iload_n d0_mayGrow_9 2 rfl rfl ?_
    refine v_iconst d0_mayGrow_10 ki_m1 ?_
    refine v_icmp_eq (tgt := 22) d0_mayGrow_11 (by decide) ?_ ?_
    · exact v0_mayGrow_b22 h hh p0 p1 σ
    · refine v_aload_n d0_mayGrow_14 0 rfl rfl ?_
      refine v_iload_n d0_mayGrow_15 2 rfl rfl ?_
      refine v_callV1i d0_mayGrow_16 (mc0_isStanding h hh p1 σ) yv0_isStanding mlX0_64 (Recv.obj hh rfl) (by decide) (Nat.le_of_ble_eq_true rfl) fun r3 t4 => ?_
      refine v_if_eq (tgt := 35) d0_mayGrow_19 (by decide) ?_ ?_
      · refine v_iconst d0_mayGrow_35 ki_0 ?_
        exact v_iret (ty := .boolean) d0_mayGrow_36 rfl rfl rfl
      · exact v0_mayGrow_b22 h hh p0 p1 t4
