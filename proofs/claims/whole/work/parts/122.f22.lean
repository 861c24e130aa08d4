theorem d12_readSprig_0 : decode cX12_readSprig 0 = .ok (.aload_n 0, 1) := by decide +kernel
theorem d12_readSprig_1 : decode cX12_readSprig 1 = .ok (.iconst 0, 1) := by decide +kernel
theorem d12_readSprig_2 : decode cX12_readSprig 2 = .ok (.bipush 20, 2) := by decide +kernel
theorem d12_readSprig_4 : decode cX12_readSprig 4 = .ok (.invokevirtual 178, 3) := by decide +kernel
theorem d12_readSprig_7 : decode cX12_readSprig 7 = .ok (.aload_n 0, 1) := by decide +kernel
theorem d12_readSprig_8 : decode cX12_readSprig 8 = .ok (.invokevirtual 181, 3) := by decide +kernel
theorem d12_readSprig_11 : decode cX12_readSprig 11 = .ok (.istore_n 1, 1) := by decide +kernel
theorem d12_readSprig_12 : decode cX12_readSprig 12 = .ok (.iconst (-1), 1) := by decide +kernel
theorem d12_readSprig_13 : decode cX12_readSprig 13 = .ok (.istore_n 2, 1) := by decide +kernel
theorem d12_readSprig_14 : decode cX12_readSprig 14 = .ok (.aload_n 0, 1) := by decide +kernel
theorem d12_readSprig_15 : decode cX12_readSprig 15 = .ok (.aload_n 0, 1) := by decide +kernel
theorem d12_readSprig_16 : decode cX12_readSprig 16 = .ok (.invokevirtual 184, 3) := by decide +kernel
theorem d12_readSprig_19 : decode cX12_readSprig 19 = .ok (.invokevirtual 188, 3) := by decide +kernel
theorem d12_readSprig_22 : decode cX12_readSprig 22 = .ok (.ifCond .eq 63, 3) := by decide +kernel
theorem d12_readSprig_25 : decode cX12_readSprig 25 = .ok (.aload_n 0, 1) := by decide +kernel
theorem d12_readSprig_26 : decode cX12_readSprig 26 = .ok (.iconst 0, 1) := by decide +kernel
theorem d12_readSprig_27 : decode cX12_readSprig 27 = .ok (.aload_n 0, 1) := by decide +kernel
theorem d12_readSprig_28 : decode cX12_readSprig 28 = .ok (.getfield 35, 3) := by decide +kernel
theorem d12_readSprig_31 : decode cX12_readSprig 31 = .ok (.sipush 1424, 3) := by decide +kernel
theorem d12_readSprig_34 : decode cX12_readSprig 34 = .ok (.iaload, 1) := by decide +kernel
theorem d12_readSprig_35 : decode cX12_readSprig 35 = .ok (.iconst 1, 1) := by decide +kernel
theorem d12_readSprig_36 : decode cX12_readSprig 36 = .ok (.isub, 1) := by decide +kernel
theorem d12_readSprig_37 : decode cX12_readSprig 37 = .ok (.invokevirtual 154, 3) := by decide +kernel
theorem d12_readSprig_40 : decode cX12_readSprig 40 = .ok (.aload_n 0, 1) := by decide +kernel
theorem d12_readSprig_41 : decode cX12_readSprig 41 = .ok (.getfield 138, 3) := by decide +kernel
theorem d12_readSprig_44 : decode cX12_readSprig 44 = .ok (.ifCond .ne 25, 3) := by decide +kernel
theorem d12_readSprig_47 : decode cX12_readSprig 47 = .ok (.aload_n 0, 1) := by decide +kernel
theorem d12_readSprig_48 : decode cX12_readSprig 48 = .ok (.iconst 4, 1) := by decide +kernel
theorem d12_readSprig_49 : decode cX12_readSprig 49 = .ok (.iload_n 1, 1) := by decide +kernel
theorem d12_readSprig_50 : decode cX12_readSprig 50 = .ok (.aload_n 0, 1) := by decide +kernel
theorem d12_readSprig_51 : decode cX12_readSprig 51 = .ok (.getfield 124, 3) := by decide +kernel
theorem d12_readSprig_54 : decode cX12_readSprig 54 = .ok (.invokevirtual 192, 3) := by decide +kernel
theorem d12_readSprig_57 : decode cX12_readSprig 57 = .ok (.ifCond .ne 12, 3) := by decide +kernel
theorem d12_readSprig_60 : decode cX12_readSprig 60 = .ok (.aload_n 0, 1) := by decide +kernel
theorem d12_readSprig_61 : decode cX12_readSprig 61 = .ok (.iconst 5, 1) := by decide +kernel
theorem d12_readSprig_62 : decode cX12_readSprig 62 = .ok (.aload_n 0, 1) := by decide +kernel
theorem d12_readSprig_63 : decode cX12_readSprig 63 = .ok (.getfield 102, 3) := by decide +kernel
theorem d12_readSprig_66 : decode cX12_readSprig 66 = .ok (.invokevirtual 144, 3) := by decide +kernel
theorem d12_readSprig_69 : decode cX12_readSprig 69 = .ok (.aload_n 0, 1) := by decide +kernel
theorem d12_readSprig_70 : decode cX12_readSprig 70 = .ok (.iconst 0, 1) := by decide +kernel
theorem d12_readSprig_71 : decode cX12_readSprig 71 = .ok (.aload_n 0, 1) := by decide +kernel
theorem d12_readSprig_72 : decode cX12_readSprig 72 = .ok (.getfield 35, 3) := by decide +kernel
theorem d12_readSprig_75 : decode cX12_readSprig 75 = .ok (.sipush 1424, 3) := by decide +kernel
theorem d12_readSprig_78 : decode cX12_readSprig 78 = .ok (.iaload, 1) := by decide +kernel
theorem d12_readSprig_79 : decode cX12_readSprig 79 = .ok (.iconst 1, 1) := by decide +kernel
theorem d12_readSprig_80 : decode cX12_readSprig 80 = .ok (.isub, 1) := by decide +kernel
theorem d12_readSprig_81 : decode cX12_readSprig 81 = .ok (.invokevirtual 196, 3) := by decide +kernel
theorem d12_readSprig_84 : decode cX12_readSprig 84 = .ok (.istore_n 2, 1) := by decide +kernel
theorem d12_readSprig_85 : decode cX12_readSprig 85 = .ok (.aload_n 0, 1) := by decide +kernel
theorem d12_readSprig_86 : decode cX12_readSprig 86 = .ok (.getfield 138, 3) := by decide +kernel
theorem d12_readSprig_89 : decode cX12_readSprig 89 = .ok (.ifCond .ne 10, 3) := by decide +kernel
theorem d12_readSprig_92 : decode cX12_readSprig 92 = .ok (.aload_n 0, 1) := by decide +kernel
theorem d12_readSprig_93 : decode cX12_readSprig 93 = .ok (.iconst 4, 1) := by decide +kernel
theorem d12_readSprig_94 : decode cX12_readSprig 94 = .ok (.iload_n 1, 1) := by decide +kernel
theorem d12_readSprig_95 : decode cX12_readSprig 95 = .ok (.iload_n 2, 1) := by decide +kernel
theorem d12_readSprig_96 : decode cX12_readSprig 96 = .ok (.invokevirtual 199, 3) := by decide +kernel
theorem d12_readSprig_99 : decode cX12_readSprig 99 = .ok (.return_, 1) := by decide +kernel
abbrev K12_readSprig : CK Unit := (enV, none, 3, 5, none)
noncomputable def F12_readSprig_b85 (N : Nat) (l1 : Int32) (l2 : Int32) (σ : Ms) : Option (Unit × Ms) :=
  if (σ.1 0 12) ≠ 0 then (some ((), σ))
  else (bn (F12_grows (4 : Int32) l1 l2 σ) (fun r1 t2 => some ((), t2)))
noncomputable def F12_readSprig_b69 (N : Nat) (l1 : Int32) (σ : Ms) : Option (Unit × Ms) :=
  ck (ixb (1424 : Int32) 1780) (bn (F12_count N (0 : Int32) ((σ.1 5 (1424 : Int32).toNatClampNeg) - (1 : Int32)) σ) (fun r3 t4 => F12_readSprig_b85 N l1 r3 t4))
noncomputable def F12_readSprig (N : Nat) (σ : Ms) : Option (Unit × Ms) :=
  bn (F12_another N (0 : Int32) (20 : Int32) σ) (fun r5 t6 => bn (F12_readColour N t6) (fun r7 t8 => bn (F12_isOn t8) (fun r9 t10 => bn (F12_perhaps N r9 t10) (fun r11 t12 => if r11 = 0 then (F12_readSprig_b85 N r7 (-1 : Int32) t12)
  else (ck (ixb (1424 : Int32) 1780) (bn (F12_mayBe (0 : Int32) ((t12.1 5 (1424 : Int32).toNatClampNeg) - (1 : Int32)) t12) (fun r13 t14 => if (t14.1 0 12) ≠ 0 then (F12_readSprig_b69 N r7 t14)
  else (bn (F12_mayGrow (4 : Int32) r7 (t14.1 0 17) t14) (fun r15 t16 => if r15 ≠ 0 then (F12_readSprig_b69 N r7 t16)
  else (bn (F12_fail (5 : Int32) (t16.1 0 15) t16) (fun r17 t18 => F12_readSprig_b69 N r7 t18)))))))))))
set_option maxRecDepth 100000 in
theorem v12_readSprig_b85 (N : Nat) (l1 : Int32) (l2 : Int32) (σ : Ms) : VF (K12_readSprig) cX12_readSprig RX12 (F12_readSprig_b85 N l1 l2 σ) σ 85 [(0, .ref 0), (1, .int l1), (2, .int l2)] [] := by
  unfold F12_readSprig_b85
  refine v_aload_n d12_readSprig_85 0 rfl rfl ?_
  refine v_getI d12_readSprig_86 faX12_138 ic_0 ?_
  refine v_if_ne (tgt := 99) d12_readSprig_89 (by decide) ?_ ?_
  · exact v_vret d12_readSprig_99 rfl
  · refine v_aload_n d12_readSprig_92 0 rfl rfl ?_
    refine v_iconst d12_readSprig_93 ki_4 ?_
    refine v_iload_n d12_readSprig_94 1 rfl rfl ?_
    refine v_iload_n d12_readSprig_95 2 rfl rfl ?_
    refine v_callV3v d12_readSprig_96 (mc12_grows (4 : Int32) l1 l2 σ) yv12_grows mlX12_199 (Recv.obj ic_0 rfl) (by decide) (Nat.le_of_ble_eq_true rfl) fun r1 t2 => ?_
    exact v_vret d12_readSprig_99 rfl
set_option maxRecDepth 100000 in
theorem v12_readSprig_b69 (N : Nat) (l1 : Int32) (σ : Ms) : VF (K12_readSprig) cX12_readSprig RX12 (F12_readSprig_b69 N l1 σ) σ 69 [(0, .ref 0), (1, .int l1)] [] := by
  unfold F12_readSprig_b69
  refine v_aload_n d12_readSprig_69 0 rfl rfl ?_
  refine v_iconst d12_readSprig_70 ki_0 ?_
  refine v_aload_n d12_readSprig_71 0 rfl rfl ?_
  refine v_getR d12_readSprig_72 faX12_35 ic_0 rfl ?_
  refine v_sipush d12_readSprig_75 ks_1424 ?_
  refine v_iald d12_readSprig_78 ic_5 ?_
  refine v_iconst d12_readSprig_79 ki_1 ?_
  refine v_isub d12_readSprig_80 ?_
  refine v_callV2i d12_readSprig_81 (mc12_count N (0 : Int32) ((σ.1 5 (1424 : Int32).toNatClampNeg) - (1 : Int32)) σ) yv12_count mlX12_196 (Recv.obj ic_0 rfl) (by decide) (Nat.le_of_ble_eq_true rfl) fun r3 t4 => ?_
  refine v_istore_n (lv' := [(2, .int r3), (0, .ref 0), (1, .int l1)]) d12_readSprig_84 rfl (by decide) rfl ?_
  refine v_sub [1, 2, 0] rfl ?_
  exact v12_readSprig_b85 N l1 r3 t4
set_option maxRecDepth 100000 in
theorem mc12_readSprig (N : Nat) (σ : Ms) : MC enV yX12_readSprig cX12_readSprig 3 none 5 (F12_readSprig N σ) σ [.ref 0] := by
  refine MC.v (by decide +kernel) (Nat.le_of_ble_eq_true rfl) ?_
  show VF (K12_readSprig) cX12_readSprig RX12 (F12_readSprig N σ) σ 0 [(0, .ref 0)] []
  unfold F12_readSprig
  refine v_aload_n d12_readSprig_0 0 rfl rfl ?_
  refine v_iconst d12_readSprig_1 ki_0 ?_
  refine v_bipush d12_readSprig_2 kb_20 ?_
  refine v_callV2v d12_readSprig_4 (mc12_another N (0 : Int32) (20 : Int32) σ) yv12_another mlX12_178 (Recv.obj ic_0 rfl) (by decide) (Nat.le_of_ble_eq_true rfl) fun r5 t6 => ?_
  refine v_aload_n d12_readSprig_7 0 rfl rfl ?_
  refine v_callV0i d12_readSprig_8 (mc12_readColour N t6) yv12_readColour mlX12_181 (Recv.obj ic_0 rfl) (by decide) (Nat.le_of_ble_eq_true rfl) fun r7 t8 => ?_
  refine v_istore_n (lv' := [(1, .int r7), (0, .ref 0)]) d12_readSprig_11 rfl (by decide) rfl ?_
  refine v_iconst d12_readSprig_12 ki_m1 ?_
  refine v_istore_n (lv' := [(2, .int (-1 : Int32)), (1, .int r7), (0, .ref 0)]) d12_readSprig_13 rfl (by decide) rfl ?_
  refine v_aload_n d12_readSprig_14 2 rfl rfl ?_
  refine v_aload_n d12_readSprig_15 2 rfl rfl ?_
  refine v_callV0i d12_readSprig_16 (mc12_isOn t8) yv12_isOn mlX12_184 (Recv.obj ic_0 rfl) (by decide) (Nat.le_of_ble_eq_true rfl) fun r9 t10 => ?_
  refine v_callV1i d12_readSprig_19 (mc12_perhaps N r9 t10) yv12_perhaps mlX12_188 (Recv.obj ic_0 rfl) (by decide) (Nat.le_of_ble_eq_true rfl) fun r11 t12 => ?_
  refine v_if_eq (tgt := 85) d12_readSprig_22 (by decide) ?_ ?_
  · refine v_sub [2, 1, 0] rfl ?_
    exact v12_readSprig_b85 N r7 (-1 : Int32) t12
  · refine v_aload_n d12_readSprig_25 2 rfl rfl ?_
    refine v_iconst d12_readSprig_26 ki_0 ?_
    refine v_aload_n d12_readSprig_27 2 rfl rfl ?_
    refine v_getR d12_readSprig_28 faX12_35 ic_0 rfl ?_
    refine v_sipush d12_readSprig_31 ks_1424 ?_
    refine v_iald d12_readSprig_34 ic_5 ?_
    refine v_iconst d12_readSprig_35 ki_1 ?_
    refine v_isub d12_readSprig_36 ?_
    refine v_callV2v d12_readSprig_37 (mc12_mayBe (0 : Int32) ((t12.1 5 (1424 : Int32).toNatClampNeg) - (1 : Int32)) t12) yv12_mayBe mlX12_154 (Recv.obj ic_0 rfl) (by decide) (Nat.le_of_ble_eq_true rfl) fun r13 t14 => ?_
    refine v_aload_n d12_readSprig_40 2 rfl rfl ?_
    refine v_getI d12_readSprig_41 faX12_138 ic_0 ?_
    refine v_if_ne (tgt := 69) d12_readSprig_44 (by decide) ?_ ?_
    · refine v_sub [2, 1] rfl ?_
      exact v12_readSprig_b69 N r7 t14
    · refine v_aload_n d12_readSprig_47 2 rfl rfl ?_
      refine v_iconst d12_readSprig_48 ki_4 ?_
      refine v_iload_n d12_readSprig_49 1 rfl rfl ?_
      refine v_aload_n d12_readSprig_50 2 rfl rfl ?_
      refine v_getI d12_readSprig_51 faX12_124 ic_0 ?_
      refine v_callV3i d12_readSprig_54 (mc12_mayGrow (4 : Int32) r7 (t14.1 0 17) t14) yv12_mayGrow mlX12_192 (Recv.obj ic_0 rfl) (by decide) (Nat.le_of_ble_eq_true rfl) fun r15 t16 => ?_
      refine v_if_ne (tgt := 69) d12_readSprig_57 (by decide) ?_ ?_
      · refine v_sub [2, 1] rfl ?_
        exact v12_readSprig_b69 N r7 t16
      · refine v_aload_n d12_readSprig_60 2 rfl rfl ?_
        refine v_iconst d12_readSprig_61 ki_5 ?_
        refine v_aload_n d12_readSprig_62 2 rfl rfl ?_
        refine v_getI d12_readSprig_63 faX12_102 ic_0 ?_
        refine v_callV2v d12_readSprig_66 (mc12_fail (5 : Int32) (t16.1 0 15) t16) yv12_fail mlX12_144 (Recv.obj ic_0 rfl) (by decide) (Nat.le_of_ble_eq_true rfl) fun r17 t18 => ?_
        refine v_sub [2, 1] rfl ?_
        exact v12_readSprig_b69 N r7 t18
theorem d12_readHeap_0 : decode cX12_readHeap 0 = .ok (.aload_n 0, 1) := by decide +kernel
theorem d12_readHeap_1 : decode cX12_readHeap 1 = .ok (.iconst 1, 1) := by decide +kernel
theorem d12_readHeap_2 : decode cX12_readHeap 2 = .ok (.iconst 4, 1) := by decide +kernel
theorem d12_readHeap_3 : decode cX12_readHeap 3 = .ok (.invokevirtual 178, 3) := by decide +kernel
theorem d12_readHeap_6 : decode cX12_readHeap 6 = .ok (.aload_n 0, 1) := by decide +kernel
theorem d12_readHeap_7 : decode cX12_readHeap 7 = .ok (.iconst 0, 1) := by decide +kernel
theorem d12_readHeap_8 : decode cX12_readHeap 8 = .ok (.bipush 15, 2) := by decide +kernel
theorem d12_readHeap_10 : decode cX12_readHeap 10 = .ok (.invokevirtual 196, 3) := by decide +kernel
theorem d12_readHeap_13 : decode cX12_readHeap 13 = .ok (.istore_n 1, 1) := by decide +kernel
theorem d12_readHeap_14 : decode cX12_readHeap 14 = .ok (.aload_n 0, 1) := by decide +kernel
theorem d12_readHeap_15 : decode cX12_readHeap 15 = .ok (.getfield 138, 3) := by decide +kernel
theorem d12_readHeap_18 : decode cX12_readHeap 18 = .ok (.ifCond .le 4, 3) := by decide +kernel
theorem d12_readHeap_21 : decode cX12_readHeap 21 = .ok (.return_, 1) := by decide +kernel
theorem d12_readHeap_22 : decode cX12_readHeap 22 = .ok (.aload_n 0, 1) := by decide +kernel
theorem d12_readHeap_23 : decode cX12_readHeap 23 = .ok (.getfield 35, 3) := by decide +kernel
theorem d12_readHeap_26 : decode cX12_readHeap 26 = .ok (.sipush 1489, 3) := by decide +kernel
theorem d12_readHeap_29 : decode cX12_readHeap 29 = .ok (.aload_n 0, 1) := by decide +kernel
theorem d12_readHeap_30 : decode cX12_readHeap 30 = .ok (.getfield 35, 3) := by decide +kernel
theorem d12_readHeap_33 : decode cX12_readHeap 33 = .ok (.sipush 1425, 3) := by decide +kernel
theorem d12_readHeap_36 : decode cX12_readHeap 36 = .ok (.iaload, 1) := by decide +kernel
theorem d12_readHeap_37 : decode cX12_readHeap 37 = .ok (.iadd, 1) := by decide +kernel
theorem d12_readHeap_38 : decode cX12_readHeap 38 = .ok (.iload_n 1, 1) := by decide +kernel
theorem d12_readHeap_39 : decode cX12_readHeap 39 = .ok (.iastore, 1) := by decide +kernel
theorem d12_readHeap_40 : decode cX12_readHeap 40 = .ok (.aload_n 0, 1) := by decide +kernel
theorem d12_readHeap_41 : decode cX12_readHeap 41 = .ok (.getfield 35, 3) := by decide +kernel
theorem d12_readHeap_44 : decode cX12_readHeap 44 = .ok (.sipush 1425, 3) := by decide +kernel
theorem d12_readHeap_47 : decode cX12_readHeap 47 = .ok (.dup2, 1) := by decide +kernel
theorem d12_readHeap_48 : decode cX12_readHeap 48 = .ok (.iaload, 1) := by decide +kernel
theorem d12_readHeap_49 : decode cX12_readHeap 49 = .ok (.iconst 1, 1) := by decide +kernel
theorem d12_readHeap_50 : decode cX12_readHeap 50 = .ok (.iadd, 1) := by decide +kernel
theorem d12_readHeap_51 : decode cX12_readHeap 51 = .ok (.iastore, 1) := by decide +kernel
theorem d12_readHeap_52 : decode cX12_readHeap 52 = .ok (.return_, 1) := by decide +kernel
abbrev K12_readHeap : CK Unit := (enV, none, 2, 5, none)
noncomputable def F12_readHeap (N : Nat) (σ : Ms) : Option (Unit × Ms) :=
  bn (F12_another N (1 : Int32) (4 : Int32) σ) (fun r1 t2 => bn (F12_count N (0 : Int32) (15 : Int32) t2) (fun r3 t4 => if (t4.1 0 12) ≤ 0 then (ck (ixb (1425 : Int32) 1780) (ck (ixb ((1489 : Int32) + (t4.1 5 (1425 : Int32).toNatClampNeg)) 1780) (lt (sI t4 5 ((1489 : Int32) + (t4.1 5 (1425 : Int32).toNatClampNeg)).toNatClampNeg r3) (fun t5 => ck (ixb (1425 : Int32) 1780) (ck (ixb (1425 : Int32) 1780) (lt (sI t5 5 (1425 : Int32).toNatClampNeg ((t5.1 5 (1425 : Int32).toNatClampNeg) + (1 : Int32))) (fun t6 => some ((), t6))))))))
  else (some ((), t4))))
set_option maxRecDepth 100000 in
theorem mc12_readHeap (N : Nat) (σ : Ms) : MC enV yX12_readHeap cX12_readHeap 2 none 5 (F12_readHeap N σ) σ [.ref 0] := by
  refine MC.v (by decide +kernel) (Nat.le_of_ble_eq_true rfl) ?_
  show VF (K12_readHeap) cX12_readHeap RX12 (F12_readHeap N σ) σ 0 [(0, .ref 0)] []
  unfold F12_readHeap
  refine v_aload_n d12_readHeap_0 0 rfl rfl ?_
  refine v_iconst d12_readHeap_1 ki_1 ?_
  refine v_iconst d12_readHeap_2 ki_4 ?_
  refine v_callV2v d12_readHeap_3 (mc12_another N (1 : Int32) (4 : Int32) σ) yv12_another mlX12_178 (Recv.obj ic_0 rfl) (by decide) (Nat.le_of_ble_eq_true rfl) fun r1 t2 => ?_
  refine v_aload_n d12_readHeap_6 0 rfl rfl ?_
  refine v_iconst d12_readHeap_7 ki_0 ?_
  refine v_bipush d12_readHeap_8 kb_15 ?_
  refine v_callV2i d12_readHeap_10 (mc12_count N (0 : Int32) (15 : Int32) t2) yv12_count mlX12_196 (Recv.obj ic_0 rfl) (by decide) (Nat.le_of_ble_eq_true rfl) fun r3 t4 => ?_
  refine v_istore_n (lv' := [(1, .int r3), (0, .ref 0)]) d12_readHeap_13 rfl (by decide) rfl ?_
  refine v_aload_n d12_readHeap_14 1 rfl rfl ?_
  refine v_getI d12_readHeap_15 faX12_138 ic_0 ?_
  refine v_if_le (tgt := 22) d12_readHeap_18 (by decide) ?_ ?_
  · refine v_aload_n d12_readHeap_22 1 rfl rfl ?_
    refine v_getR d12_readHeap_23 faX12_35 ic_0 rfl ?_
    refine v_sipush d12_readHeap_26 ks_1489 ?_
    refine v_aload_n d12_readHeap_29 1 rfl rfl ?_
    refine v_getR d12_readHeap_30 faX12_35 ic_0 rfl ?_
    refine v_sipush d12_readHeap_33 ks_1425 ?_
    refine v_iald d12_readHeap_36 ic_5 ?_
    refine v_iadd d12_readHeap_37 ?_
    refine v_iload_n d12_readHeap_38 0 rfl rfl ?_
    refine v_iast d12_readHeap_39 ic_5 ?_
    refine v_lts fun t5 => ?_
    refine v_aload_n d12_readHeap_40 1 rfl rfl ?_
    refine v_getR d12_readHeap_41 faX12_35 ic_0 rfl ?_
    refine v_sipush d12_readHeap_44 ks_1425 ?_
    refine v_dup2_11 d12_readHeap_47 rfl rfl ?_
    refine v_iald d12_readHeap_48 ic_5 ?_
    refine v_iconst d12_readHeap_49 ki_1 ?_
    refine v_iadd d12_readHeap_50 ?_
    refine v_iast d12_readHeap_51 ic_5 ?_
    refine v_lts fun t6 => ?_
    exact v_vret d12_readHeap_52 rfl
  · exact v_vret d12_readHeap_21 rfl
theorem d12_offers_0 : decode cX12_offers 0 = .ok (.sipush 356, 3) := by decide +kernel
theorem d12_offers_3 : decode cX12_offers 3 = .ok (.iload_n 1, 1) := by decide +kernel
theorem d12_offers_4 : decode cX12_offers 4 = .ok (.imul, 1) := by decide +kernel
theorem d12_offers_5 : decode cX12_offers 5 = .ok (.istore 4, 2) := by decide +kernel
theorem d12_offers_7 : decode cX12_offers 7 = .ok (.aload_n 0, 1) := by decide +kernel
theorem d12_offers_8 : decode cX12_offers 8 = .ok (.getfield 35, 3) := by decide +kernel
theorem d12_offers_11 : decode cX12_offers 11 = .ok (.iload 4, 2) := by decide +kernel
theorem d12_offers_13 : decode cX12_offers 13 = .ok (.iconst 2, 1) := by decide +kernel
theorem d12_offers_14 : decode cX12_offers 14 = .ok (.iadd, 1) := by decide +kernel
theorem d12_offers_15 : decode cX12_offers 15 = .ok (.iaload, 1) := by decide +kernel
theorem d12_offers_16 : decode cX12_offers 16 = .ok (.istore 5, 2) := by decide +kernel
theorem d12_offers_18 : decode cX12_offers 18 = .ok (.aload_n 0, 1) := by decide +kernel
theorem d12_offers_19 : decode cX12_offers 19 = .ok (.getfield 35, 3) := by decide +kernel
theorem d12_offers_22 : decode cX12_offers 22 = .ok (.iload 4, 2) := by decide +kernel
theorem d12_offers_24 : decode cX12_offers 24 = .ok (.bipush 69, 2) := by decide +kernel
theorem d12_offers_26 : decode cX12_offers 26 = .ok (.iadd, 1) := by decide +kernel
theorem d12_offers_27 : decode cX12_offers 27 = .ok (.iload 5, 2) := by decide +kernel
theorem d12_offers_29 : decode cX12_offers 29 = .ok (.iadd, 1) := by decide +kernel
theorem d12_offers_30 : decode cX12_offers 30 = .ok (.iload_n 2, 1) := by decide +kernel
theorem d12_offers_31 : decode cX12_offers 31 = .ok (.iastore, 1) := by decide +kernel
theorem d12_offers_32 : decode cX12_offers 32 = .ok (.aload_n 0, 1) := by decide +kernel
theorem d12_offers_33 : decode cX12_offers 33 = .ok (.getfield 35, 3) := by decide +kernel
theorem d12_offers_36 : decode cX12_offers 36 = .ok (.iload 4, 2) := by decide +kernel
theorem d12_offers_38 : decode cX12_offers 38 = .ok (.bipush 69, 2) := by decide +kernel
theorem d12_offers_40 : decode cX12_offers 40 = .ok (.iadd, 1) := by decide +kernel
theorem d12_offers_41 : decode cX12_offers 41 = .ok (.iconst 5, 1) := by decide +kernel
theorem d12_offers_42 : decode cX12_offers 42 = .ok (.iadd, 1) := by decide +kernel
theorem d12_offers_43 : decode cX12_offers 43 = .ok (.iload 5, 2) := by decide +kernel
theorem d12_offers_45 : decode cX12_offers 45 = .ok (.iadd, 1) := by decide +kernel
theorem d12_offers_46 : decode cX12_offers 46 = .ok (.iload_n 3, 1) := by decide +kernel
theorem d12_offers_47 : decode cX12_offers 47 = .ok (.iastore, 1) := by decide +kernel
theorem d12_offers_48 : decode cX12_offers 48 = .ok (.aload_n 0, 1) := by decide +kernel
theorem d12_offers_49 : decode cX12_offers 49 = .ok (.getfield 35, 3) := by decide +kernel
theorem d12_offers_52 : decode cX12_offers 52 = .ok (.iload 4, 2) := by decide +kernel
theorem d12_offers_54 : decode cX12_offers 54 = .ok (.bipush 79, 2) := by decide +kernel
theorem d12_offers_56 : decode cX12_offers 56 = .ok (.iadd, 1) := by decide +kernel
theorem d12_offers_57 : decode cX12_offers 57 = .ok (.iload 5, 2) := by decide +kernel
theorem d12_offers_59 : decode cX12_offers 59 = .ok (.iadd, 1) := by decide +kernel
theorem d12_offers_60 : decode cX12_offers 60 = .ok (.iconst 0, 1) := by decide +kernel
theorem d12_offers_61 : decode cX12_offers 61 = .ok (.iastore, 1) := by decide +kernel
theorem d12_offers_62 : decode cX12_offers 62 = .ok (.aload_n 0, 1) := by decide +kernel
theorem d12_offers_63 : decode cX12_offers 63 = .ok (.getfield 35, 3) := by decide +kernel
theorem d12_offers_66 : decode cX12_offers 66 = .ok (.iload 4, 2) := by decide +kernel
theorem d12_offers_68 : decode cX12_offers 68 = .ok (.iconst 2, 1) := by decide +kernel
theorem d12_offers_69 : decode cX12_offers 69 = .ok (.iadd, 1) := by decide +kernel
theorem d12_offers_70 : decode cX12_offers 70 = .ok (.dup2, 1) := by decide +kernel
theorem d12_offers_71 : decode cX12_offers 71 = .ok (.iaload, 1) := by decide +kernel
theorem d12_offers_72 : decode cX12_offers 72 = .ok (.iconst 1, 1) := by decide +kernel
theorem d12_offers_73 : decode cX12_offers 73 = .ok (.iadd, 1) := by decide +kernel
theorem d12_offers_74 : decode cX12_offers 74 = .ok (.iastore, 1) := by decide +kernel
theorem d12_offers_75 : decode cX12_offers 75 = .ok (.return_, 1) := by decide +kernel
abbrev K12_offers : CK Unit := (enV, none, 6, 1, none)
noncomputable def F12_offers (p0 : Int32) (p1 : Int32) (p2 : Int32) (σ : Ms) : Option (Unit × Ms) :=
  lt ((356 : Int32) * p0) (fun x1 => ck (ixb (x1 + (2 : Int32)) 1780) (lt (σ.1 5 (x1 + (2 : Int32)).toNatClampNeg) (fun x2 => ck (ixb ((x1 + (69 : Int32)) + x2) 1780) (lt (sI σ 5 ((x1 + (69 : Int32)) + x2).toNatClampNeg p1) (fun t3 => ck (ixb (((x1 + (69 : Int32)) + (5 : Int32)) + x2) 1780) (lt (sI t3 5 (((x1 + (69 : Int32)) + (5 : Int32)) + x2).toNatClampNeg p2) (fun t4 => ck (ixb ((x1 + (79 : Int32)) + x2) 1780) (lt (sI t4 5 ((x1 + (79 : Int32)) + x2).toNatClampNeg (0 : Int32)) (fun t5 => ck (ixb (x1 + (2 : Int32)) 1780) (ck (ixb (x1 + (2 : Int32)) 1780) (lt (sI t5 5 (x1 + (2 : Int32)).toNatClampNeg ((t5.1 5 (x1 + (2 : Int32)).toNatClampNeg) + (1 : Int32))) (fun t6 => some ((), t6)))))))))))))
set_option maxRecDepth 100000 in
theorem mc12_offers (p0 : Int32) (p1 : Int32) (p2 : Int32) (σ : Ms) : MC enV yX12_offers cX12_offers 6 none 1 (F12_offers p0 p1 p2 σ) σ [.ref 0, .int p0, .int p1, .int p2] := by
  refine MC.v (by decide +kernel) (Nat.le_of_ble_eq_true rfl) ?_
  show VF (K12_offers) cX12_offers RX12 (F12_offers p0 p1 p2 σ) σ 0 [(0, .ref 0), (1, .int p0), (2, .int p1), (3, .int p2)] []
  unfold F12_offers
  refine v_sipush d12_offers_0 ks_356 ?_
  refine v_iload_n d12_offers_3 1 rfl rfl ?_
  refine v_imul d12_offers_4 ?_
  refine v_lti fun x1 => ?_
  refine v_istore (lv' := [(4, .int x1), (0, .ref 0), (1, .int p0), (2, .int p1), (3, .int p2)]) d12_offers_5 (by decide) rfl ?_
  refine v_aload_n d12_offers_7 1 rfl rfl ?_
  refine v_getR d12_offers_8 faX12_35 ic_0 rfl ?_
  refine v_iload d12_offers_11 0 rfl ?_
  refine v_iconst d12_offers_13 ki_2 ?_
  refine v_iadd d12_offers_14 ?_
  refine v_iald d12_offers_15 ic_5 ?_
  refine v_lti fun x2 => ?_
  refine v_istore (lv' := [(5, .int x2), (4, .int x1), (0, .ref 0), (1, .int p0), (2, .int p1), (3, .int p2)]) d12_offers_16 (by decide) rfl ?_
  refine v_aload_n d12_offers_18 2 rfl rfl ?_
  refine v_getR d12_offers_19 faX12_35 ic_0 rfl ?_
  refine v_iload d12_offers_22 1 rfl ?_
  refine v_bipush d12_offers_24 kb_69 ?_
  refine v_iadd d12_offers_26 ?_
  refine v_iload d12_offers_27 0 rfl ?_
  refine v_iadd d12_offers_29 ?_
  refine v_iload_n d12_offers_30 4 rfl rfl ?_
  refine v_iast d12_offers_31 ic_5 ?_
  refine v_lts fun t3 => ?_
  refine v_aload_n d12_offers_32 2 rfl rfl ?_
  refine v_getR d12_offers_33 faX12_35 ic_0 rfl ?_
  refine v_iload d12_offers_36 1 rfl ?_
  refine v_bipush d12_offers_38 kb_69 ?_
  refine v_iadd d12_offers_40 ?_
  refine v_iconst d12_offers_41 ki_5 ?_
  refine v_iadd d12_offers_42 ?_
  refine v_iload d12_offers_43 0 rfl ?_
  refine v_iadd d12_offers_45 ?_
  refine v_iload_n d12_offers_46 5 rfl rfl ?_
  refine v_iast d12_offers_47 ic_5 ?_
  refine v_lts fun t4 => ?_
  refine v_aload_n d12_offers_48 2 rfl rfl ?_
  refine v_getR d12_offers_49 faX12_35 ic_0 rfl ?_
  refine v_iload d12_offers_52 1 rfl ?_
  refine v_bipush d12_offers_54 kb_79 ?_
  refine v_iadd d12_offers_56 ?_
  refine v_iload d12_offers_57 0 rfl ?_
  refine v_iadd d12_offers_59 ?_
  refine v_iconst d12_offers_60 ki_0 ?_
  refine v_iast d12_offers_61 ic_5 ?_
  refine v_lts fun t5 => ?_
  refine v_aload_n d12_offers_62 2 rfl rfl ?_
  refine v_getR d12_offers_63 faX12_35 ic_0 rfl ?_
  refine v_iload d12_offers_66 1 rfl ?_
  refine v_iconst d12_offers_68 ki_2 ?_
  refine v_iadd d12_offers_69 ?_
  refine v_dup2_11 d12_offers_70 rfl rfl ?_
  refine v_iald d12_offers_71 ic_5 ?_
  refine v_iconst d12_offers_72 ki_1 ?_
  refine v_iadd d12_offers_73 ?_
  refine v_iast d12_offers_74 ic_5 ?_
  refine v_lts fun t6 => ?_
  exact v_vret d12_offers_75 rfl
theorem d12_readBet_0 : decode cX12_readBet 0 = .ok (.aload_n 0, 1) := by decide +kernel
theorem d12_readBet_1 : decode cX12_readBet 1 = .ok (.iconst 2, 1) := by decide +kernel
theorem d12_readBet_2 : decode cX12_readBet 2 = .ok (.iconst 5, 1) := by decide +kernel
theorem d12_readBet_3 : decode cX12_readBet 3 = .ok (.invokevirtual 178, 3) := by decide +kernel
theorem d12_readBet_6 : decode cX12_readBet 6 = .ok (.aload_n 0, 1) := by decide +kernel
theorem d12_readBet_7 : decode cX12_readBet 7 = .ok (.iconst 0, 1) := by decide +kernel
theorem d12_readBet_8 : decode cX12_readBet 8 = .ok (.bipush 20, 2) := by decide +kernel
theorem d12_readBet_10 : decode cX12_readBet 10 = .ok (.invokevirtual 196, 3) := by decide +kernel
theorem d12_readBet_13 : decode cX12_readBet 13 = .ok (.istore_n 1, 1) := by decide +kernel
theorem d12_readBet_14 : decode cX12_readBet 14 = .ok (.aload_n 0, 1) := by decide +kernel
theorem d12_readBet_15 : decode cX12_readBet 15 = .ok (.iload_n 1, 1) := by decide +kernel
theorem d12_readBet_16 : decode cX12_readBet 16 = .ok (.ifCond .ne 7, 3) := by decide +kernel
theorem d12_readBet_19 : decode cX12_readBet 19 = .ok (.iconst 1, 1) := by decide +kernel
theorem d12_readBet_20 : decode cX12_readBet 20 = .ok (.goto 4, 3) := by decide +kernel
theorem d12_readBet_23 : decode cX12_readBet 23 = .ok (.iconst 0, 1) := by decide +kernel
theorem d12_readBet_24 : decode cX12_readBet 24 = .ok (.bipush 20, 2) := by decide +kernel
theorem d12_readBet_26 : decode cX12_readBet 26 = .ok (.invokevirtual 196, 3) := by decide +kernel
theorem d12_readBet_29 : decode cX12_readBet 29 = .ok (.istore_n 2, 1) := by decide +kernel
theorem d12_readBet_30 : decode cX12_readBet 30 = .ok (.aload_n 0, 1) := by decide +kernel
theorem d12_readBet_31 : decode cX12_readBet 31 = .ok (.getfield 138, 3) := by decide +kernel
theorem d12_readBet_34 : decode cX12_readBet 34 = .ok (.ifCond .ne 10, 3) := by decide +kernel
theorem d12_readBet_37 : decode cX12_readBet 37 = .ok (.aload_n 0, 1) := by decide +kernel
theorem d12_readBet_38 : decode cX12_readBet 38 = .ok (.iconst 4, 1) := by decide +kernel
theorem d12_readBet_39 : decode cX12_readBet 39 = .ok (.iload_n 1, 1) := by decide +kernel
theorem d12_readBet_40 : decode cX12_readBet 40 = .ok (.iload_n 2, 1) := by decide +kernel
theorem d12_readBet_41 : decode cX12_readBet 41 = .ok (.invokevirtual 203, 3) := by decide +kernel
theorem d12_readBet_44 : decode cX12_readBet 44 = .ok (.return_, 1) := by decide +kernel
abbrev K12_readBet : CK Unit := (enV, none, 3, 5, none)
noncomputable def F12_readBet_b24 (N : Nat) (l1 : Int32) (s1 : Int32) (σ : Ms) : Option (Unit × Ms) :=
  bn (F12_count N s1 (20 : Int32) σ) (fun r1 t2 => if (t2.1 0 12) ≠ 0 then (some ((), t2))
  else (bn (F12_offers (4 : Int32) l1 r1 t2) (fun r3 t4 => some ((), t4))))
noncomputable def F12_readBet (N : Nat) (σ : Ms) : Option (Unit × Ms) :=
  bn (F12_another N (2 : Int32) (5 : Int32) σ) (fun r5 t6 => bn (F12_count N (0 : Int32) (20 : Int32) t6) (fun r7 t8 => if r7 ≠ 0 then (F12_readBet_b24 N r7 (0 : Int32) t8)
  else (F12_readBet_b24 N r7 (1 : Int32) t8)))
set_option maxRecDepth 100000 in
theorem v12_readBet_b24 (N : Nat) (l1 : Int32) (s1 : Int32) (σ : Ms) : VF (K12_readBet) cX12_readBet RX12 (F12_readBet_b24 N l1 s1 σ) σ 24 [(0, .ref 0), (1, .int l1)] [.int s1, .ref 0] := by
  unfold F12_readBet_b24
  refine v_bipush d12_readBet_24 kb_20 ?_
  refine v_callV2i d12_readBet_26 (mc12_count N s1 (20 : Int32) σ) yv12_count mlX12_196 (Recv.obj ic_0 rfl) (by decide) (Nat.le_of_ble_eq_true rfl) fun r1 t2 => ?_
  refine v_istore_n (lv' := [(2, .int r1), (0, .ref 0), (1, .int l1)]) d12_readBet_29 rfl (by decide) rfl ?_
  refine v_aload_n d12_readBet_30 1 rfl rfl ?_
  refine v_getI d12_readBet_31 faX12_138 ic_0 ?_
  refine v_if_ne (tgt := 44) d12_readBet_34 (by decide) ?_ ?_
  · exact v_vret d12_readBet_44 rfl
  · refine v_aload_n d12_readBet_37 1 rfl rfl ?_
    refine v_iconst d12_readBet_38 ki_4 ?_
    refine v_iload_n d12_readBet_39 2 rfl rfl ?_
    refine v_iload_n d12_readBet_40 0 rfl rfl ?_
    refine v_callV3v d12_readBet_41 (mc12_offers (4 : Int32) l1 r1 t2) yv12_offers mlX12_203 (Recv.obj ic_0 rfl) (by decide) (Nat.le_of_ble_eq_true rfl) fun r3 t4 => ?_
    exact v_vret d12_readBet_44 rfl
set_option maxRecDepth 100000 in
theorem mc12_readBet (N : Nat) (σ : Ms) : MC enV yX12_readBet cX12_readBet 3 none 5 (F12_readBet N σ) σ [.ref 0] := by
  refine MC.v (by decide +kernel) (Nat.le_of_ble_eq_true rfl) ?_
  show VF (K12_readBet) cX12_readBet RX12 (F12_readBet N σ) σ 0 [(0, .ref 0)] []
  unfold F12_readBet
  refine v_aload_n d12_readBet_0 0 rfl rfl ?_
  refine v_iconst d12_readBet_1 ki_2 ?_
  refine v_iconst d12_readBet_2 ki_5 ?_
  refine v_callV2v d12_readBet_3 (mc12_another N (2 : Int32) (5 : Int32) σ) yv12_another mlX12_178 (Recv.obj ic_0 rfl) (by decide) (Nat.le_of_ble_eq_true rfl) fun r5 t6 => ?_
  refine v_aload_n d12_readBet_6 0 rfl rfl ?_
  refine v_iconst d12_readBet_7 ki_0 ?_
  refine v_bipush d12_readBet_8 kb_20 ?_
  refine v_callV2i d12_readBet_10 (mc12_count N (0 : Int32) (20 : Int32) t6) yv12_count mlX12_196 (Recv.obj ic_0 rfl) (by decide) (Nat.le_of_ble_eq_true rfl) fun r7 t8 => ?_
  refine v_istore_n (lv' := [(1, .int r7), (0, .ref 0)]) d12_readBet_13 rfl (by decide) rfl ?_
  refine v_aload_n d12_readBet_14 1 rfl rfl ?_
  refine v_iload_n d12_readBet_15 0 rfl rfl ?_
  refine v_if_ne (tgt := 23) d12_readBet_16 (by decide) ?_ ?_
  · refine v_iconst d12_readBet_23 ki_0 ?_
    refine v_sub [1, 0] rfl ?_
    exact v12_readBet_b24 N r7 (0 : Int32) t8
  · refine v_iconst d12_readBet_19 ki_1 ?_
    refine v_goto (tgt := 24) d12_readBet_20 (by decide) ?_
    refine v_sub [1, 0] rfl ?_
    exact v12_readBet_b24 N r7 (1 : Int32) t8
theorem d12_readPart_0 : decode cX12_readPart 0 = .ok (.aload_n 0, 1) := by decide +kernel
theorem d12_readPart_1 : decode cX12_readPart 1 = .ok (.invokevirtual 206, 3) := by decide +kernel
theorem d12_readPart_4 : decode cX12_readPart 4 = .ok (.ifCond .eq 10, 3) := by decide +kernel
theorem d12_readPart_7 : decode cX12_readPart 7 = .ok (.aload_n 0, 1) := by decide +kernel
theorem d12_readPart_8 : decode cX12_readPart 8 = .ok (.invokevirtual 209, 3) := by decide +kernel
theorem d12_readPart_11 : decode cX12_readPart 11 = .ok (.goto 35, 3) := by decide +kernel
theorem d12_readPart_14 : decode cX12_readPart 14 = .ok (.aload_n 0, 1) := by decide +kernel
theorem d12_readPart_15 : decode cX12_readPart 15 = .ok (.invokevirtual 212, 3) := by decide +kernel
theorem d12_readPart_18 : decode cX12_readPart 18 = .ok (.ifCond .eq 10, 3) := by decide +kernel
theorem d12_readPart_21 : decode cX12_readPart 21 = .ok (.aload_n 0, 1) := by decide +kernel
theorem d12_readPart_22 : decode cX12_readPart 22 = .ok (.invokevirtual 215, 3) := by decide +kernel
theorem d12_readPart_25 : decode cX12_readPart 25 = .ok (.goto 21, 3) := by decide +kernel
theorem d12_readPart_28 : decode cX12_readPart 28 = .ok (.aload_n 0, 1) := by decide +kernel
theorem d12_readPart_29 : decode cX12_readPart 29 = .ok (.invokevirtual 218, 3) := by decide +kernel
theorem d12_readPart_32 : decode cX12_readPart 32 = .ok (.ifCond .eq 10, 3) := by decide +kernel
theorem d12_readPart_35 : decode cX12_readPart 35 = .ok (.aload_n 0, 1) := by decide +kernel
theorem d12_readPart_36 : decode cX12_readPart 36 = .ok (.invokevirtual 221, 3) := by decide +kernel
theorem d12_readPart_39 : decode cX12_readPart 39 = .ok (.goto 7, 3) := by decide +kernel
theorem d12_readPart_42 : decode cX12_readPart 42 = .ok (.aload_n 0, 1) := by decide +kernel
theorem d12_readPart_43 : decode cX12_readPart 43 = .ok (.invokevirtual 151, 3) := by decide +kernel
theorem d12_readPart_46 : decode cX12_readPart 46 = .ok (.return_, 1) := by decide +kernel
abbrev K12_readPart : CK Unit := (enV, none, 1, 6, none)
noncomputable def F12_readPart (N : Nat) (σ : Ms) : Option (Unit × Ms) :=
  bn (F12_isSprig σ) (fun r1 t2 => if r1 = 0 then (bn (F12_isHeap t2) (fun r3 t4 => if r3 = 0 then (bn (F12_isBet t4) (fun r5 t6 => if r5 = 0 then (bn (F12_amiss t6) (fun r7 t8 => some ((), t8)))
  else (bn (F12_readBet N t6) (fun r9 t10 => some ((), t10)))))
  else (bn (F12_readHeap N t4) (fun r11 t12 => some ((), t12)))))
  else (bn (F12_readSprig N t2) (fun r13 t14 => some ((), t14))))
set_option maxRecDepth 100000 in
theorem mc12_readPart (N : Nat) (σ : Ms) : MC enV yX12_readPart cX12_readPart 1 none 6 (F12_readPart N σ) σ [.ref 0] := by
  refine MC.v (by decide +kernel) (Nat.le_of_ble_eq_true rfl) ?_
  show VF (K12_readPart) cX12_readPart RX12 (F12_readPart N σ) σ 0 [(0, .ref 0)] []
  unfold F12_readPart
  refine v_aload_n d12_readPart_0 0 rfl rfl ?_
  refine v_callV0i d12_readPart_1 (mc12_isSprig σ) yv12_isSprig mlX12_206 (Recv.obj ic_0 rfl) (by decide) (Nat.le_of_ble_eq_true rfl) fun r1 t2 => ?_
  refine v_if_eq (tgt := 14) d12_readPart_4 (by decide) ?_ ?_
  · refine v_aload_n d12_readPart_14 0 rfl rfl ?_
    refine v_callV0i d12_readPart_15 (mc12_isHeap t2) yv12_isHeap mlX12_212 (Recv.obj ic_0 rfl) (by decide) (Nat.le_of_ble_eq_true rfl) fun r3 t4 => ?_
    refine v_if_eq (tgt := 28) d12_readPart_18 (by decide) ?_ ?_
    · refine v_aload_n d12_readPart_28 0 rfl rfl ?_
      refine v_callV0i d12_readPart_29 (mc12_isBet t4) yv12_isBet mlX12_218 (Recv.obj ic_0 rfl) (by decide) (Nat.le_of_ble_eq_true rfl) fun r5 t6 => ?_
      refine v_if_eq (tgt := 42) d12_readPart_32 (by decide) ?_ ?_
      · refine v_aload_n d12_readPart_42 0 rfl rfl ?_
        refine v_callV0v d12_readPart_43 (mc12_amiss t6) yv12_amiss mlX12_151 (Recv.obj ic_0 rfl) (by decide) (Nat.le_of_ble_eq_true rfl) fun r7 t8 => ?_
        exact v_vret d12_readPart_46 rfl
      · refine v_aload_n d12_readPart_35 0 rfl rfl ?_
        refine v_callV0v d12_readPart_36 (mc12_readBet N t6) yv12_readBet mlX12_221 (Recv.obj ic_0 rfl) (by decide) (Nat.le_of_ble_eq_true rfl) fun r9 t10 => ?_
        refine v_goto (tgt := 46) d12_readPart_39 (by decide) ?_
        exact v_vret d12_readPart_46 rfl
    · refine v_aload_n d12_readPart_21 0 rfl rfl ?_
      refine v_callV0v d12_readPart_22 (mc12_readHeap N t4) yv12_readHeap mlX12_215 (Recv.obj ic_0 rfl) (by decide) (Nat.le_of_ble_eq_true rfl) fun r11 t12 => ?_
      refine v_goto (tgt := 46) d12_readPart_25 (by decide) ?_
      exact v_vret d12_readPart_46 rfl
  · refine v_aload_n d12_readPart_7 0 rfl rfl ?_
    refine v_callV0v d12_readPart_8 (mc12_readSprig N t2) yv12_readSprig mlX12_209 (Recv.obj ic_0 rfl) (by decide) (Nat.le_of_ble_eq_true rfl) fun r13 t14 => ?_
    refine v_goto (tgt := 46) d12_readPart_11 (by decide) ?_
    exact v_vret d12_readPart_46 rfl
theorem d12_copy_0 : decode cX12_copy 0 = .ok (.iconst 0, 1) := by decide +kernel
theorem d12_copy_1 : decode cX12_copy 1 = .ok (.istore_n 3, 1) := by decide +kernel
theorem d12_copy_2 : decode cX12_copy 2 = .ok (.iload_n 3, 1) := by decide +kernel
theorem d12_copy_3 : decode cX12_copy 3 = .ok (.sipush 356, 3) := by decide +kernel
theorem d12_copy_6 : decode cX12_copy 6 = .ok (.if_icmp .ge 33, 3) := by decide +kernel
theorem d12_copy_9 : decode cX12_copy 9 = .ok (.aload_n 0, 1) := by decide +kernel
theorem d12_copy_10 : decode cX12_copy 10 = .ok (.getfield 35, 3) := by decide +kernel
theorem d12_copy_13 : decode cX12_copy 13 = .ok (.sipush 356, 3) := by decide +kernel
theorem d12_copy_16 : decode cX12_copy 16 = .ok (.iload_n 2, 1) := by decide +kernel
theorem d12_copy_17 : decode cX12_copy 17 = .ok (.imul, 1) := by decide +kernel
theorem d12_copy_18 : decode cX12_copy 18 = .ok (.iload_n 3, 1) := by decide +kernel
theorem d12_copy_19 : decode cX12_copy 19 = .ok (.iadd, 1) := by decide +kernel
theorem d12_copy_20 : decode cX12_copy 20 = .ok (.aload_n 0, 1) := by decide +kernel
theorem d12_copy_21 : decode cX12_copy 21 = .ok (.getfield 35, 3) := by decide +kernel
theorem d12_copy_24 : decode cX12_copy 24 = .ok (.sipush 356, 3) := by decide +kernel
theorem d12_copy_27 : decode cX12_copy 27 = .ok (.iload_n 1, 1) := by decide +kernel
theorem d12_copy_28 : decode cX12_copy 28 = .ok (.imul, 1) := by decide +kernel
theorem d12_copy_29 : decode cX12_copy 29 = .ok (.iload_n 3, 1) := by decide +kernel
theorem d12_copy_30 : decode cX12_copy 30 = .ok (.iadd, 1) := by decide +kernel
theorem d12_copy_31 : decode cX12_copy 31 = .ok (.iaload, 1) := by decide +kernel
theorem d12_copy_32 : decode cX12_copy 32 = .ok (.iastore, 1) := by decide +kernel
theorem d12_copy_33 : decode cX12_copy 33 = .ok (.iinc 3 1, 3) := by decide +kernel
theorem d12_copy_36 : decode cX12_copy 36 = .ok (.goto (-34), 3) := by decide +kernel
theorem d12_copy_39 : decode cX12_copy 39 = .ok (.return_, 1) := by decide +kernel
abbrev K12_copy : CK Unit := (enV, none, 4, 1, none)
noncomputable def F12_copy_b2B (N : Nat) (k2 : Int32 × Int32 × Int32 × Ms → Option (Unit × Ms)) (l1 : Int32) (l2 : Int32) (l3 : Int32) (σ : Ms) : Option (Unit × Ms) :=
  if (356 : Int32) ≤ l3 then (some ((), σ))
  else (ck (ixb (((356 : Int32) * l1) + l3) 1780) (ck (ixb (((356 : Int32) * l2) + l3) 1780) (lt (sI σ 5 (((356 : Int32) * l2) + l3).toNatClampNeg (σ.1 5 (((356 : Int32) * l1) + l3).toNatClampNeg)) (fun t1 => k2 (l1, l2, (l3 + (1 : Int32)), t1)))))
noncomputable def F12_copy_b2 (N : Nat) (l1 : Int32) (l2 : Int32) (l3 : Int32) (σ : Ms) : Option (Unit × Ms) :=
  fx N (fun k x => F12_copy_b2B N k x.1 x.2.1 x.2.2.1 x.2.2.2) (l1, l2, l3, σ)
noncomputable def F12_copy (N : Nat) (p0 : Int32) (p1 : Int32) (σ : Ms) : Option (Unit × Ms) :=
  F12_copy_b2 N p0 p1 (0 : Int32) σ
set_option maxRecDepth 100000 in
theorem v12_copy_b2B (N : Nat) (k2 : Int32 × Int32 × Int32 × Ms → Option (Unit × Ms)) (hk2 : ∀ (l1 : Int32) (l2 : Int32) (l3 : Int32) (τ : Ms), VF (K12_copy) cX12_copy RX12 (k2 (l1, l2, l3, τ)) τ 2 [(0, .ref 0), (1, .int l1), (2, .int l2), (3, .int l3)] []) (l1 : Int32) (l2 : Int32) (l3 : Int32) (σ : Ms) : VF (K12_copy) cX12_copy RX12 (F12_copy_b2B N k2 l1 l2 l3 σ) σ 2 [(0, .ref 0), (1, .int l1), (2, .int l2), (3, .int l3)] [] := by
  unfold F12_copy_b2B
  refine v_iload_n d12_copy_2 3 rfl rfl ?_
  refine v_sipush d12_copy_3 ks_356 ?_
  refine v_icmp_ge (tgt := 39) d12_copy_6 (by decide) ?_ ?_
  · exact v_vret d12_copy_39 rfl
  · refine v_aload_n d12_copy_9 0 rfl rfl ?_
    refine v_getR d12_copy_10 faX12_35 ic_0 rfl ?_
    refine v_sipush d12_copy_13 ks_356 ?_
    refine v_iload_n d12_copy_16 2 rfl rfl ?_
    refine v_imul d12_copy_17 ?_
    refine v_iload_n d12_copy_18 3 rfl rfl ?_
    refine v_iadd d12_copy_19 ?_
    refine v_aload_n d12_copy_20 0 rfl rfl ?_
    refine v_getR d12_copy_21 faX12_35 ic_0 rfl ?_
    refine v_sipush d12_copy_24 ks_356 ?_
    refine v_iload_n d12_copy_27 1 rfl rfl ?_
    refine v_imul d12_copy_28 ?_
    refine v_iload_n d12_copy_29 3 rfl rfl ?_
    refine v_iadd d12_copy_30 ?_
    refine v_iald d12_copy_31 ic_5 ?_
    refine v_iast d12_copy_32 ic_5 ?_
    refine v_lts fun t1 => ?_
    refine v_iinc (lv' := [(3, .int (l3 + (1 : Int32))), (0, .ref 0), (1, .int l1), (2, .int l2)]) d12_copy_33 3 rfl (by rw [ki_1]) (by decide) rfl ?_
    refine v_goto (tgt := 2) d12_copy_36 (by decide) ?_
    refine v_sub [1, 2, 3, 0] rfl ?_
    exact hk2 l1 l2 (l3 + (1 : Int32)) t1
theorem v12_copy_b2 (N : Nat) (l1 : Int32) (l2 : Int32) (l3 : Int32) (σ : Ms) : VF (K12_copy) cX12_copy RX12 (F12_copy_b2 N l1 l2 l3 σ) σ 2 [(0, .ref 0), (1, .int l1), (2, .int l2), (3, .int l3)] [] := v_fx (σo := fun x => x.2.2.2) (lo := fun x => [(0, .ref 0), (1, .int x.1), (2, .int x.2.1), (3, .int x.2.2.1)]) (fun k hk x => v12_copy_b2B N k (fun l1 l2 l3 τ => hk (l1, l2, l3, τ)) x.1 x.2.1 x.2.2.1 x.2.2.2) N (l1, l2, l3, σ)
set_option maxRecDepth 100000 in
theorem mc12_copy (N : Nat) (p0 : Int32) (p1 : Int32) (σ : Ms) : MC enV yX12_copy cX12_copy 4 none 1 (F12_copy N p0 p1 σ) σ [.ref 0, .int p0, .int p1] := by
  refine MC.v (by decide +kernel) (Nat.le_of_ble_eq_true rfl) ?_
  show VF (K12_copy) cX12_copy RX12 (F12_copy N p0 p1 σ) σ 0 [(0, .ref 0), (1, .int p0), (2, .int p1)] []
  unfold F12_copy
  refine v_iconst d12_copy_0 ki_0 ?_
  refine v_istore_n (lv' := [(3, .int (0 : Int32)), (0, .ref 0), (1, .int p0), (2, .int p1)]) d12_copy_1 rfl (by decide) rfl ?_
  refine v_sub [1, 2, 3, 0] rfl ?_
  exact v12_copy_b2 N p0 p1 (0 : Int32) σ
theorem d12_hedge_0 : decode cX12_hedge 0 = .ok (.aload_n 0, 1) := by decide +kernel
theorem d12_hedge_1 : decode cX12_hedge 1 = .ok (.iconst 0, 1) := by decide +kernel
theorem d12_hedge_2 : decode cX12_hedge 2 = .ok (.putfield 53, 3) := by decide +kernel
theorem d12_hedge_5 : decode cX12_hedge 5 = .ok (.aload_n 0, 1) := by decide +kernel
theorem d12_hedge_6 : decode cX12_hedge 6 = .ok (.iconst 0, 1) := by decide +kernel
theorem d12_hedge_7 : decode cX12_hedge 7 = .ok (.putfield 56, 3) := by decide +kernel
theorem d12_hedge_10 : decode cX12_hedge 10 = .ok (.aload_n 0, 1) := by decide +kernel
theorem d12_hedge_11 : decode cX12_hedge 11 = .ok (.iload_n 1, 1) := by decide +kernel
theorem d12_hedge_12 : decode cX12_hedge 12 = .ok (.sipush 900, 3) := by decide +kernel
theorem d12_hedge_15 : decode cX12_hedge 15 = .ok (.invokevirtual 224, 3) := by decide +kernel
theorem d12_hedge_18 : decode cX12_hedge 18 = .ok (.ifCond .ne 5, 3) := by decide +kernel
theorem d12_hedge_21 : decode cX12_hedge 21 = .ok (.iconst (-1), 1) := by decide +kernel
theorem d12_hedge_22 : decode cX12_hedge 22 = .ok (.ireturn, 1) := by decide +kernel
theorem d12_hedge_23 : decode cX12_hedge 23 = .ok (.iconst 0, 1) := by decide +kernel
theorem d12_hedge_24 : decode cX12_hedge 24 = .ok (.istore_n 2, 1) := by decide +kernel
theorem d12_hedge_25 : decode cX12_hedge 25 = .ok (.iload_n 2, 1) := by decide +kernel
theorem d12_hedge_26 : decode cX12_hedge 26 = .ok (.sipush 356, 3) := by decide +kernel
theorem d12_hedge_29 : decode cX12_hedge 29 = .ok (.if_icmp .ge 20, 3) := by decide +kernel
theorem d12_hedge_32 : decode cX12_hedge 32 = .ok (.aload_n 0, 1) := by decide +kernel
theorem d12_hedge_33 : decode cX12_hedge 33 = .ok (.getfield 35, 3) := by decide +kernel
theorem d12_hedge_36 : decode cX12_hedge 36 = .ok (.sipush 1424, 3) := by decide +kernel
theorem d12_hedge_39 : decode cX12_hedge 39 = .ok (.iload_n 2, 1) := by decide +kernel
theorem d12_hedge_40 : decode cX12_hedge 40 = .ok (.iadd, 1) := by decide +kernel
theorem d12_hedge_41 : decode cX12_hedge 41 = .ok (.iconst 0, 1) := by decide +kernel
theorem d12_hedge_42 : decode cX12_hedge 42 = .ok (.iastore, 1) := by decide +kernel
theorem d12_hedge_43 : decode cX12_hedge 43 = .ok (.iinc 2 1, 3) := by decide +kernel
theorem d12_hedge_46 : decode cX12_hedge 46 = .ok (.goto (-21), 3) := by decide +kernel
theorem d12_hedge_49 : decode cX12_hedge 49 = .ok (.aload_n 0, 1) := by decide +kernel
theorem d12_hedge_50 : decode cX12_hedge 50 = .ok (.getfield 138, 3) := by decide +kernel
theorem d12_hedge_53 : decode cX12_hedge 53 = .ok (.ifCond .ne 27, 3) := by decide +kernel
theorem d12_hedge_56 : decode cX12_hedge 56 = .ok (.aload_n 0, 1) := by decide +kernel
theorem d12_hedge_57 : decode cX12_hedge 57 = .ok (.getfield 108, 3) := by decide +kernel
theorem d12_hedge_60 : decode cX12_hedge 60 = .ok (.ifCond .eq 20, 3) := by decide +kernel
theorem d12_hedge_63 : decode cX12_hedge 63 = .ok (.aload_n 0, 1) := by decide +kernel
theorem d12_hedge_64 : decode cX12_hedge 64 = .ok (.invokevirtual 227, 3) := by decide +kernel
theorem d12_hedge_67 : decode cX12_hedge 67 = .ok (.aload_n 0, 1) := by decide +kernel
theorem d12_hedge_68 : decode cX12_hedge 68 = .ok (.aload_n 0, 1) := by decide +kernel
theorem d12_hedge_69 : decode cX12_hedge 69 = .ok (.bipush 59, 2) := by decide +kernel
theorem d12_hedge_71 : decode cX12_hedge 71 = .ok (.invokevirtual 230, 3) := by decide +kernel
theorem d12_hedge_74 : decode cX12_hedge 74 = .ok (.invokevirtual 161, 3) := by decide +kernel
theorem d12_hedge_77 : decode cX12_hedge 77 = .ok (.goto (-28), 3) := by decide +kernel
theorem d12_hedge_80 : decode cX12_hedge 80 = .ok (.aload_n 0, 1) := by decide +kernel
theorem d12_hedge_81 : decode cX12_hedge 81 = .ok (.invokevirtual 233, 3) := by decide +kernel
theorem d12_hedge_84 : decode cX12_hedge 84 = .ok (.ifCond .ne 5, 3) := by decide +kernel
theorem d12_hedge_87 : decode cX12_hedge 87 = .ok (.iconst (-1), 1) := by decide +kernel
theorem d12_hedge_88 : decode cX12_hedge 88 = .ok (.ireturn, 1) := by decide +kernel
theorem d12_hedge_89 : decode cX12_hedge 89 = .ok (.aload_n 0, 1) := by decide +kernel
theorem d12_hedge_90 : decode cX12_hedge 90 = .ok (.iconst 4, 1) := by decide +kernel
theorem d12_hedge_91 : decode cX12_hedge 91 = .ok (.iconst 0, 1) := by decide +kernel
theorem d12_hedge_92 : decode cX12_hedge 92 = .ok (.invokevirtual 236, 3) := by decide +kernel
theorem d12_hedge_95 : decode cX12_hedge 95 = .ok (.aload_n 0, 1) := by decide +kernel
theorem d12_hedge_96 : decode cX12_hedge 96 = .ok (.getfield 35, 3) := by decide +kernel
theorem d12_hedge_99 : decode cX12_hedge 99 = .ok (.iconst 0, 1) := by decide +kernel
theorem d12_hedge_100 : decode cX12_hedge 100 = .ok (.iaload, 1) := by decide +kernel
theorem d12_hedge_101 : decode cX12_hedge 101 = .ok (.ireturn, 1) := by decide +kernel
abbrev K12_hedge : CK Int32 := (enI, (some .int), 3, 7, none)
noncomputable def F12_hedge_b80 (N : Nat) (σ : Ms) : Option (Int32 × Ms) :=
  bn (F12_isWell σ) (fun r1 t2 => if r1 ≠ 0 then (bn (F12_copy N (4 : Int32) (0 : Int32) t2) (fun r3 t4 => ck (ixb (0 : Int32) 1780) (some ((t4.1 5 (0 : Int32).toNatClampNeg), t4))))
  else (some ((-1 : Int32), t2)))
noncomputable def F12_hedge_b49B (N : Nat) (k49 : Ms → Option (Int32 × Ms)) (σ : Ms) : Option (Int32 × Ms) :=
  if (σ.1 0 12) ≠ 0 then (F12_hedge_b80 N σ)
  else (if (σ.1 0 14) = 0 then (F12_hedge_b80 N σ)
  else (bn (F12_readPart N σ) (fun r5 t6 => bn (F12_isSign (59 : Int32) t6) (fun r7 t8 => bn (F12_must N r7 t8) (fun r9 t10 => k49 t10)))))
noncomputable def F12_hedge_b49 (N : Nat) (σ : Ms) : Option (Int32 × Ms) :=
  fx N (fun k x => F12_hedge_b49B N k x) σ
noncomputable def F12_hedge_b25B (N : Nat) (k25 : Int32 × Ms → Option (Int32 × Ms)) (l2 : Int32) (σ : Ms) : Option (Int32 × Ms) :=
  if (356 : Int32) ≤ l2 then (F12_hedge_b49 N σ)
  else (ck (ixb ((1424 : Int32) + l2) 1780) (lt (sI σ 5 ((1424 : Int32) + l2).toNatClampNeg (0 : Int32)) (fun t11 => k25 ((l2 + (1 : Int32)), t11))))
noncomputable def F12_hedge_b25 (N : Nat) (l2 : Int32) (σ : Ms) : Option (Int32 × Ms) :=
  fx N (fun k x => F12_hedge_b25B N k x.1 x.2) (l2, σ)
noncomputable def F12_hedge (N : Nat) (p0 : Int32) (σ : Ms) : Option (Int32 × Ms) :=
  lt (sI σ 0 1 (0 : Int32)) (fun t12 => lt (sI t12 0 0 (0 : Int32)) (fun t13 => bn (F12_starts N p0 (900 : Int32) t13) (fun r14 t15 => if r14 ≠ 0 then (F12_hedge_b25 N (0 : Int32) t15)
  else (some ((-1 : Int32), t15)))))
set_option maxRecDepth 100000 in
theorem v12_hedge_b80 (N : Nat) (σ : Ms) : VF (K12_hedge) cX12_hedge RX12 (F12_hedge_b80 N σ) σ 80 [(0, .ref 0)] [] := by
  unfold F12_hedge_b80
  refine v_aload_n d12_hedge_80 0 rfl rfl ?_
  refine v_callV0i d12_hedge_81 (mc12_isWell σ) yv12_isWell mlX12_233 (Recv.obj ic_0 rfl) (by decide) (Nat.le_of_ble_eq_true rfl) fun r1 t2 => ?_
  refine v_if_ne (tgt := 89) d12_hedge_84 (by decide) ?_ ?_
  · refine v_aload_n d12_hedge_89 0 rfl rfl ?_
    refine v_iconst d12_hedge_90 ki_4 ?_
    refine v_iconst d12_hedge_91 ki_0 ?_
    refine v_callV2v d12_hedge_92 (mc12_copy N (4 : Int32) (0 : Int32) t2) yv12_copy mlX12_236 (Recv.obj ic_0 rfl) (by decide) (Nat.le_of_ble_eq_true rfl) fun r3 t4 => ?_
    refine v_aload_n d12_hedge_95 0 rfl rfl ?_
    refine v_getR d12_hedge_96 faX12_35 ic_0 rfl ?_
    refine v_iconst d12_hedge_99 ki_0 ?_
    refine v_iald d12_hedge_100 ic_5 ?_
    exact v_iret d12_hedge_101 rfl rfl rfl
  · refine v_iconst d12_hedge_87 ki_m1 ?_
    exact v_iret d12_hedge_88 rfl rfl rfl
set_option maxRecDepth 100000 in
theorem v12_hedge_b49B (N : Nat) (k49 : Ms → Option (Int32 × Ms)) (hk49 : ∀ (τ : Ms), VF (K12_hedge) cX12_hedge RX12 (k49 τ) τ 49 [(0, .ref 0)] []) (σ : Ms) : VF (K12_hedge) cX12_hedge RX12 (F12_hedge_b49B N k49 σ) σ 49 [(0, .ref 0)] [] := by
  unfold F12_hedge_b49B
  refine v_aload_n d12_hedge_49 0 rfl rfl ?_
  refine v_getI d12_hedge_50 faX12_138 ic_0 ?_
  refine v_if_ne (tgt := 80) d12_hedge_53 (by decide) ?_ ?_
  · exact v12_hedge_b80 N σ
  · refine v_aload_n d12_hedge_56 0 rfl rfl ?_
    refine v_getI d12_hedge_57 faX12_108 ic_0 ?_
    refine v_if_eq (tgt := 80) d12_hedge_60 (by decide) ?_ ?_
    · exact v12_hedge_b80 N σ
    · refine v_aload_n d12_hedge_63 0 rfl rfl ?_
      refine v_callV0v d12_hedge_64 (mc12_readPart N σ) yv12_readPart mlX12_227 (Recv.obj ic_0 rfl) (by decide) (Nat.le_of_ble_eq_true rfl) fun r5 t6 => ?_
      refine v_aload_n d12_hedge_67 0 rfl rfl ?_
      refine v_aload_n d12_hedge_68 0 rfl rfl ?_
      refine v_bipush d12_hedge_69 kb_59 ?_
      refine v_callV1i d12_hedge_71 (mc12_isSign (59 : Int32) t6) yv12_isSign mlX12_230 (Recv.obj ic_0 rfl) (by decide) (Nat.le_of_ble_eq_true rfl) fun r7 t8 => ?_
      refine v_callV1v d12_hedge_74 (mc12_must N r7 t8) yv12_must mlX12_161 (Recv.obj ic_0 rfl) (by decide) (Nat.le_of_ble_eq_true rfl) fun r9 t10 => ?_
      refine v_goto (tgt := 49) d12_hedge_77 (by decide) ?_
      exact hk49 t10
theorem v12_hedge_b49 (N : Nat) (σ : Ms) : VF (K12_hedge) cX12_hedge RX12 (F12_hedge_b49 N σ) σ 49 [(0, .ref 0)] [] := v_fx (σo := fun x => x) (lo := fun x => [(0, .ref 0)]) (fun k hk x => v12_hedge_b49B N k (fun τ => hk τ) x) N σ
set_option maxRecDepth 100000 in
theorem v12_hedge_b25B (N : Nat) (k25 : Int32 × Ms → Option (Int32 × Ms)) (hk25 : ∀ (l2 : Int32) (τ : Ms), VF (K12_hedge) cX12_hedge RX12 (k25 (l2, τ)) τ 25 [(0, .ref 0), (2, .int l2)] []) (l2 : Int32) (σ : Ms) : VF (K12_hedge) cX12_hedge RX12 (F12_hedge_b25B N k25 l2 σ) σ 25 [(0, .ref 0), (2, .int l2)] [] := by
  unfold F12_hedge_b25B
  refine v_iload_n d12_hedge_25 1 rfl rfl ?_
  refine v_sipush d12_hedge_26 ks_356 ?_
  refine v_icmp_ge (tgt := 49) d12_hedge_29 (by decide) ?_ ?_
  · refine v_sub [0] rfl ?_
    exact v12_hedge_b49 N σ
  · refine v_aload_n d12_hedge_32 0 rfl rfl ?_
    refine v_getR d12_hedge_33 faX12_35 ic_0 rfl ?_
    refine v_sipush d12_hedge_36 ks_1424 ?_
    refine v_iload_n d12_hedge_39 1 rfl rfl ?_
    refine v_iadd d12_hedge_40 ?_
    refine v_iconst d12_hedge_41 ki_0 ?_
    refine v_iast d12_hedge_42 ic_5 ?_
    refine v_lts fun t11 => ?_
    refine v_iinc (lv' := [(2, .int (l2 + (1 : Int32))), (0, .ref 0)]) d12_hedge_43 1 rfl (by rw [ki_1]) (by decide) rfl ?_
    refine v_goto (tgt := 25) d12_hedge_46 (by decide) ?_
    refine v_sub [1, 0] rfl ?_
    exact hk25 (l2 + (1 : Int32)) t11
theorem v12_hedge_b25 (N : Nat) (l2 : Int32) (σ : Ms) : VF (K12_hedge) cX12_hedge RX12 (F12_hedge_b25 N l2 σ) σ 25 [(0, .ref 0), (2, .int l2)] [] := v_fx (σo := fun x => x.2) (lo := fun x => [(0, .ref 0), (2, .int x.1)]) (fun k hk x => v12_hedge_b25B N k (fun l2 τ => hk (l2, τ)) x.1 x.2) N (l2, σ)
set_option maxRecDepth 100000 in
theorem mc12_hedge (N : Nat) (p0 : Int32) (σ : Ms) : MC enI yX12_hedge cX12_hedge 3 (some .int) 7 (F12_hedge N p0 σ) σ [.ref 0, .int p0] := by
  refine MC.i (by decide +kernel) (Nat.le_of_ble_eq_true rfl) ?_
  show VF (K12_hedge) cX12_hedge RX12 (F12_hedge N p0 σ) σ 0 [(0, .ref 0), (1, .int p0)] []
  unfold F12_hedge
  refine v_aload_n d12_hedge_0 0 rfl rfl ?_
  refine v_iconst d12_hedge_1 ki_0 ?_
  refine v_putI d12_hedge_2 faX12_53 fp9_1 ic_0 ?_
  refine v_lts fun t12 => ?_
  refine v_aload_n d12_hedge_5 0 rfl rfl ?_
  refine v_iconst d12_hedge_6 ki_0 ?_
  refine v_putI d12_hedge_7 faX12_56 fp9_0 ic_0 ?_
  refine v_lts fun t13 => ?_
  refine v_aload_n d12_hedge_10 0 rfl rfl ?_
  refine v_iload_n d12_hedge_11 1 rfl rfl ?_
  refine v_sipush d12_hedge_12 ks_900 ?_
  refine v_callV2i d12_hedge_15 (mc12_starts N p0 (900 : Int32) t13) yv12_starts mlX12_224 (Recv.obj ic_0 rfl) (by decide) (Nat.le_of_ble_eq_true rfl) fun r14 t15 => ?_
  refine v_if_ne (tgt := 23) d12_hedge_18 (by decide) ?_ ?_
  · refine v_iconst d12_hedge_23 ki_0 ?_
    refine v_istore_n (lv' := [(2, .int (0 : Int32)), (0, .ref 0), (1, .int p0)]) d12_hedge_24 rfl (by decide) rfl ?_
    refine v_sub [1, 0] rfl ?_
    exact v12_hedge_b25 N (0 : Int32) t15
  · refine v_iconst d12_hedge_21 ki_m1 ?_
    exact v_iret d12_hedge_22 rfl rfl rfl
theorem d12_readTest_0 : decode cX12_readTest 0 = .ok (.aload_n 0, 1) := by decide +kernel
theorem d12_readTest_1 : decode cX12_readTest 1 = .ok (.invokevirtual 239, 3) := by decide +kernel
theorem d12_readTest_4 : decode cX12_readTest 4 = .ok (.istore_n 2, 1) := by decide +kernel
theorem d12_readTest_5 : decode cX12_readTest 5 = .ok (.aload_n 0, 1) := by decide +kernel
theorem d12_readTest_6 : decode cX12_readTest 6 = .ok (.iload_n 2, 1) := by decide +kernel
theorem d12_readTest_7 : decode cX12_readTest 7 = .ok (.ifCond .lt 7, 3) := by decide +kernel
theorem d12_readTest_10 : decode cX12_readTest 10 = .ok (.iconst 1, 1) := by decide +kernel
theorem d12_readTest_11 : decode cX12_readTest 11 = .ok (.goto 4, 3) := by decide +kernel
theorem d12_readTest_14 : decode cX12_readTest 14 = .ok (.iconst 0, 1) := by decide +kernel
theorem d12_readTest_15 : decode cX12_readTest 15 = .ok (.invokevirtual 161, 3) := by decide +kernel
theorem d12_readTest_18 : decode cX12_readTest 18 = .ok (.aload_n 0, 1) := by decide +kernel
theorem d12_readTest_19 : decode cX12_readTest 19 = .ok (.getfield 35, 3) := by decide +kernel
theorem d12_readTest_22 : decode cX12_readTest 22 = .ok (.iload_n 1, 1) := by decide +kernel
theorem d12_readTest_23 : decode cX12_readTest 23 = .ok (.iconst 5, 1) := by decide +kernel
theorem d12_readTest_24 : decode cX12_readTest 24 = .ok (.iadd, 1) := by decide +kernel
theorem d12_readTest_25 : decode cX12_readTest 25 = .ok (.iload_n 2, 1) := by decide +kernel
theorem d12_readTest_26 : decode cX12_readTest 26 = .ok (.iastore, 1) := by decide +kernel
theorem d12_readTest_27 : decode cX12_readTest 27 = .ok (.iload_n 2, 1) := by decide +kernel
theorem d12_readTest_28 : decode cX12_readTest 28 = .ok (.ifCond .ne 21, 3) := by decide +kernel
theorem d12_readTest_31 : decode cX12_readTest 31 = .ok (.aload_n 0, 1) := by decide +kernel
theorem d12_readTest_32 : decode cX12_readTest 32 = .ok (.getfield 35, 3) := by decide +kernel
theorem d12_readTest_35 : decode cX12_readTest 35 = .ok (.iload_n 1, 1) := by decide +kernel
theorem d12_readTest_36 : decode cX12_readTest 36 = .ok (.iconst 1, 1) := by decide +kernel
theorem d12_readTest_37 : decode cX12_readTest 37 = .ok (.iadd, 1) := by decide +kernel
theorem d12_readTest_38 : decode cX12_readTest 38 = .ok (.aload_n 0, 1) := by decide +kernel
theorem d12_readTest_39 : decode cX12_readTest 39 = .ok (.iconst 0, 1) := by decide +kernel
theorem d12_readTest_40 : decode cX12_readTest 40 = .ok (.bipush 19, 2) := by decide +kernel
theorem d12_readTest_42 : decode cX12_readTest 42 = .ok (.invokevirtual 196, 3) := by decide +kernel
theorem d12_readTest_45 : decode cX12_readTest 45 = .ok (.iastore, 1) := by decide +kernel
theorem d12_readTest_46 : decode cX12_readTest 46 = .ok (.goto 20, 3) := by decide +kernel
theorem d12_readTest_49 : decode cX12_readTest 49 = .ok (.iload_n 2, 1) := by decide +kernel
theorem d12_readTest_50 : decode cX12_readTest 50 = .ok (.iconst 3, 1) := by decide +kernel
theorem d12_readTest_51 : decode cX12_readTest 51 = .ok (.if_icmp .ne 15, 3) := by decide +kernel
theorem d12_readTest_54 : decode cX12_readTest 54 = .ok (.aload_n 0, 1) := by decide +kernel
theorem d12_readTest_55 : decode cX12_readTest 55 = .ok (.getfield 35, 3) := by decide +kernel
theorem d12_readTest_58 : decode cX12_readTest 58 = .ok (.iload_n 1, 1) := by decide +kernel
theorem d12_readTest_59 : decode cX12_readTest 59 = .ok (.iconst 1, 1) := by decide +kernel
theorem d12_readTest_60 : decode cX12_readTest 60 = .ok (.iadd, 1) := by decide +kernel
theorem d12_readTest_61 : decode cX12_readTest 61 = .ok (.aload_n 0, 1) := by decide +kernel
theorem d12_readTest_62 : decode cX12_readTest 62 = .ok (.invokevirtual 242, 3) := by decide +kernel
theorem d12_readTest_65 : decode cX12_readTest 65 = .ok (.iastore, 1) := by decide +kernel
theorem d12_readTest_66 : decode cX12_readTest 66 = .ok (.aload_n 0, 1) := by decide +kernel
theorem d12_readTest_67 : decode cX12_readTest 67 = .ok (.getfield 138, 3) := by decide +kernel
theorem d12_readTest_70 : decode cX12_readTest 70 = .ok (.ifCond .gt 12, 3) := by decide +kernel
theorem d12_readTest_73 : decode cX12_readTest 73 = .ok (.iload_n 2, 1) := by decide +kernel
theorem d12_readTest_74 : decode cX12_readTest 74 = .ok (.ifCond .eq 8, 3) := by decide +kernel
theorem d12_readTest_77 : decode cX12_readTest 77 = .ok (.iload_n 2, 1) := by decide +kernel
theorem d12_readTest_78 : decode cX12_readTest 78 = .ok (.iconst 3, 1) := by decide +kernel
theorem d12_readTest_79 : decode cX12_readTest 79 = .ok (.if_icmp .ne 4, 3) := by decide +kernel
theorem d12_readTest_82 : decode cX12_readTest 82 = .ok (.return_, 1) := by decide +kernel
theorem d12_readTest_83 : decode cX12_readTest 83 = .ok (.aload_n 0, 1) := by decide +kernel
theorem d12_readTest_84 : decode cX12_readTest 84 = .ok (.getfield 35, 3) := by decide +kernel
theorem d12_readTest_87 : decode cX12_readTest 87 = .ok (.iload_n 1, 1) := by decide +kernel
theorem d12_readTest_88 : decode cX12_readTest 88 = .ok (.bipush 7, 2) := by decide +kernel
theorem d12_readTest_90 : decode cX12_readTest 90 = .ok (.iadd, 1) := by decide +kernel
theorem d12_readTest_91 : decode cX12_readTest 91 = .ok (.aload_n 0, 1) := by decide +kernel
theorem d12_readTest_92 : decode cX12_readTest 92 = .ok (.getfield 108, 3) := by decide +kernel
theorem d12_readTest_95 : decode cX12_readTest 95 = .ok (.iconst 3, 1) := by decide +kernel
theorem d12_readTest_96 : decode cX12_readTest 96 = .ok (.if_icmp .ne 10, 3) := by decide +kernel
theorem d12_readTest_99 : decode cX12_readTest 99 = .ok (.aload_n 0, 1) := by decide +kernel
theorem d12_readTest_100 : decode cX12_readTest 100 = .ok (.getfield 124, 3) := by decide +kernel
theorem d12_readTest_103 : decode cX12_readTest 103 = .ok (.goto 4, 3) := by decide +kernel
theorem d12_readTest_106 : decode cX12_readTest 106 = .ok (.iconst 0, 1) := by decide +kernel
theorem d12_readTest_107 : decode cX12_readTest 107 = .ok (.iastore, 1) := by decide +kernel
theorem d12_readTest_108 : decode cX12_readTest 108 = .ok (.aload_n 0, 1) := by decide +kernel
theorem d12_readTest_109 : decode cX12_readTest 109 = .ok (.aload_n 0, 1) := by decide +kernel
theorem d12_readTest_110 : decode cX12_readTest 110 = .ok (.bipush 60, 2) := by decide +kernel
theorem d12_readTest_112 : decode cX12_readTest 112 = .ok (.invokevirtual 230, 3) := by decide +kernel
theorem d12_readTest_115 : decode cX12_readTest 115 = .ok (.ifCond .ne 21, 3) := by decide +kernel
theorem d12_readTest_118 : decode cX12_readTest 118 = .ok (.aload_n 0, 1) := by decide +kernel
theorem d12_readTest_119 : decode cX12_readTest 119 = .ok (.bipush 62, 2) := by decide +kernel
theorem d12_readTest_121 : decode cX12_readTest 121 = .ok (.invokevirtual 230, 3) := by decide +kernel
theorem d12_readTest_124 : decode cX12_readTest 124 = .ok (.ifCond .ne 12, 3) := by decide +kernel
theorem d12_readTest_127 : decode cX12_readTest 127 = .ok (.aload_n 0, 1) := by decide +kernel
theorem d12_readTest_128 : decode cX12_readTest 128 = .ok (.bipush 61, 2) := by decide +kernel
theorem d12_readTest_130 : decode cX12_readTest 130 = .ok (.invokevirtual 230, 3) := by decide +kernel
theorem d12_readTest_133 : decode cX12_readTest 133 = .ok (.ifCond .eq 7, 3) := by decide +kernel
theorem d12_readTest_136 : decode cX12_readTest 136 = .ok (.iconst 1, 1) := by decide +kernel
theorem d12_readTest_137 : decode cX12_readTest 137 = .ok (.goto 4, 3) := by decide +kernel
theorem d12_readTest_140 : decode cX12_readTest 140 = .ok (.iconst 0, 1) := by decide +kernel
theorem d12_readTest_141 : decode cX12_readTest 141 = .ok (.invokevirtual 161, 3) := by decide +kernel
theorem d12_readTest_144 : decode cX12_readTest 144 = .ok (.aload_n 0, 1) := by decide +kernel
theorem d12_readTest_145 : decode cX12_readTest 145 = .ok (.getfield 35, 3) := by decide +kernel
theorem d12_readTest_148 : decode cX12_readTest 148 = .ok (.iload_n 1, 1) := by decide +kernel
theorem d12_readTest_149 : decode cX12_readTest 149 = .ok (.bipush 6, 2) := by decide +kernel
theorem d12_readTest_151 : decode cX12_readTest 151 = .ok (.iadd, 1) := by decide +kernel
theorem d12_readTest_152 : decode cX12_readTest 152 = .ok (.aload_n 0, 1) := by decide +kernel
theorem d12_readTest_153 : decode cX12_readTest 153 = .ok (.iconst 0, 1) := by decide +kernel
theorem d12_readTest_154 : decode cX12_readTest 154 = .ok (.iload_n 2, 1) := by decide +kernel
theorem d12_readTest_155 : decode cX12_readTest 155 = .ok (.iconst 1, 1) := by decide +kernel
theorem d12_readTest_156 : decode cX12_readTest 156 = .ok (.if_icmp .ne 8, 3) := by decide +kernel
theorem d12_readTest_159 : decode cX12_readTest 159 = .ok (.bipush 20, 2) := by decide +kernel
theorem d12_readTest_161 : decode cX12_readTest 161 = .ok (.goto 5, 3) := by decide +kernel
theorem d12_readTest_164 : decode cX12_readTest 164 = .ok (.bipush 31, 2) := by decide +kernel
theorem d12_readTest_166 : decode cX12_readTest 166 = .ok (.invokevirtual 196, 3) := by decide +kernel
theorem d12_readTest_169 : decode cX12_readTest 169 = .ok (.iastore, 1) := by decide +kernel
theorem d12_readTest_170 : decode cX12_readTest 170 = .ok (.return_, 1) := by decide +kernel
abbrev K12_readTest : CK Unit := (enV, none, 3, 5, none)
noncomputable def F12_readTest_b166 (N : Nat) (s1 : Int32) (s3 : Int32) (s4 : Int32) (σ : Ms) : Option (Unit × Ms) :=
  bn (F12_count N s3 s4 σ) (fun r1 t2 => ck (ixb s1 1780) (lt (sI t2 5 s1.toNatClampNeg r1) (fun t3 => some ((), t3))))
noncomputable def F12_readTest_b141 (N : Nat) (l1 : Int32) (l2 : Int32) (s1 : Int32) (σ : Ms) : Option (Unit × Ms) :=
  bn (F12_must N s1 σ) (fun r4 t5 => if l2 ≠ (1 : Int32) then (F12_readTest_b166 N (l1 + (6 : Int32)) (0 : Int32) (31 : Int32) t5)
  else (F12_readTest_b166 N (l1 + (6 : Int32)) (0 : Int32) (20 : Int32) t5))
noncomputable def F12_readTest_b136 (N : Nat) (l1 : Int32) (l2 : Int32) (σ : Ms) : Option (Unit × Ms) :=
  F12_readTest_b141 N l1 l2 (1 : Int32) σ
noncomputable def F12_readTest_b107 (N : Nat) (l1 : Int32) (l2 : Int32) (s1 : Int32) (s2 : Int32) (σ : Ms) : Option (Unit × Ms) :=
  ck (ixb s1 1780) (lt (sI σ 5 s1.toNatClampNeg s2) (fun t6 => bn (F12_isSign (60 : Int32) t6) (fun r7 t8 => if r7 ≠ 0 then (F12_readTest_b136 N l1 l2 t8)
  else (bn (F12_isSign (62 : Int32) t8) (fun r9 t10 => if r9 ≠ 0 then (F12_readTest_b136 N l1 l2 t10)
  else (bn (F12_isSign (61 : Int32) t10) (fun r11 t12 => if r11 = 0 then (F12_readTest_b141 N l1 l2 (0 : Int32) t12)
  else (F12_readTest_b136 N l1 l2 t12))))))))
noncomputable def F12_readTest_b66 (N : Nat) (l1 : Int32) (l2 : Int32) (σ : Ms) : Option (Unit × Ms) :=
  if 0 < (σ.1 0 12) then (some ((), σ))
  else (if l2 = 0 then (some ((), σ))
  else (if l2 ≠ (3 : Int32) then (if (σ.1 0 14) ≠ (3 : Int32) then (F12_readTest_b107 N l1 l2 (l1 + (7 : Int32)) (0 : Int32) σ)
  else (F12_readTest_b107 N l1 l2 (l1 + (7 : Int32)) (σ.1 0 17) σ))
  else (some ((), σ))))
noncomputable def F12_readTest_b15 (N : Nat) (l1 : Int32) (l2 : Int32) (s1 : Int32) (σ : Ms) : Option (Unit × Ms) :=
  bn (F12_must N s1 σ) (fun r13 t14 => ck (ixb (l1 + (5 : Int32)) 1780) (lt (sI t14 5 (l1 + (5 : Int32)).toNatClampNeg l2) (fun t15 => if l2 ≠ 0 then (if l2 ≠ (3 : Int32) then (F12_readTest_b66 N l1 l2 t15)
  else (bn (F12_readSide N t15) (fun r16 t17 => ck (ixb (l1 + (1 : Int32)) 1780) (lt (sI t17 5 (l1 + (1 : Int32)).toNatClampNeg r16) (fun t18 => F12_readTest_b66 N l1 l2 t18)))))
  else (bn (F12_count N (0 : Int32) (19 : Int32) t15) (fun r19 t20 => ck (ixb (l1 + (1 : Int32)) 1780) (lt (sI t20 5 (l1 + (1 : Int32)).toNatClampNeg r19) (fun t21 => F12_readTest_b66 N l1 l2 t21)))))))
noncomputable def F12_readTest (N : Nat) (p0 : Int32) (σ : Ms) : Option (Unit × Ms) :=
  bn (F12_testWord σ) (fun r22 t23 => if r22 < 0 then (F12_readTest_b15 N p0 r22 (0 : Int32) t23)
  else (F12_readTest_b15 N p0 r22 (1 : Int32) t23))
set_option maxRecDepth 100000 in
theorem v12_readTest_b166 (N : Nat) (s1 : Int32) (s3 : Int32) (s4 : Int32) (σ : Ms) : VF (K12_readTest) cX12_readTest RX12 (F12_readTest_b166 N s1 s3 s4 σ) σ 166 [] [.int s4, .int s3, .ref 0, .int s1, .ref 5] := by
  unfold F12_readTest_b166
  refine v_callV2i d12_readTest_166 (mc12_count N s3 s4 σ) yv12_count mlX12_196 (Recv.obj ic_0 rfl) (by decide) (Nat.le_of_ble_eq_true rfl) fun r1 t2 => ?_
  refine v_iast d12_readTest_169 ic_5 ?_
  refine v_lts fun t3 => ?_
  exact v_vret d12_readTest_170 rfl
set_option maxRecDepth 100000 in
theorem v12_readTest_b141 (N : Nat) (l1 : Int32) (l2 : Int32) (s1 : Int32) (σ : Ms) : VF (K12_readTest) cX12_readTest RX12 (F12_readTest_b141 N l1 l2 s1 σ) σ 141 [(0, .ref 0), (1, .int l1), (2, .int l2)] [.int s1, .ref 0] := by
  unfold F12_readTest_b141
  refine v_callV1v d12_readTest_141 (mc12_must N s1 σ) yv12_must mlX12_161 (Recv.obj ic_0 rfl) (by decide) (Nat.le_of_ble_eq_true rfl) fun r4 t5 => ?_
  refine v_aload_n d12_readTest_144 0 rfl rfl ?_
  refine v_getR d12_readTest_145 faX12_35 ic_0 rfl ?_
  refine v_iload_n d12_readTest_148 1 rfl rfl ?_
  refine v_bipush d12_readTest_149 kb_6 ?_
  refine v_iadd d12_readTest_151 ?_
  refine v_aload_n d12_readTest_152 0 rfl rfl ?_
  refine v_iconst d12_readTest_153 ki_0 ?_
  refine v_iload_n d12_readTest_154 2 rfl rfl ?_
  refine v_iconst d12_readTest_155 ki_1 ?_
  refine v_icmp_ne (tgt := 164) d12_readTest_156 (by decide) ?_ ?_
  · refine v_bipush d12_readTest_164 kb_31 ?_
    refine v_sub [] rfl ?_
    exact v12_readTest_b166 N (l1 + (6 : Int32)) (0 : Int32) (31 : Int32) t5
  · refine v_bipush d12_readTest_159 kb_20 ?_
    refine v_goto (tgt := 166) d12_readTest_161 (by decide) ?_
    refine v_sub [] rfl ?_
    exact v12_readTest_b166 N (l1 + (6 : Int32)) (0 : Int32) (20 : Int32) t5
set_option maxRecDepth 100000 in
theorem v12_readTest_b136 (N : Nat) (l1 : Int32) (l2 : Int32) (σ : Ms) : VF (K12_readTest) cX12_readTest RX12 (F12_readTest_b136 N l1 l2 σ) σ 136 [(0, .ref 0), (1, .int l1), (2, .int l2)] [.ref 0] := by
  unfold F12_readTest_b136
  refine v_iconst d12_readTest_136 ki_1 ?_
  refine v_goto (tgt := 141) d12_readTest_137 (by decide) ?_
  exact v12_readTest_b141 N l1 l2 (1 : Int32) σ
set_option maxRecDepth 100000 in
theorem v12_readTest_b107 (N : Nat) (l1 : Int32) (l2 : Int32) (s1 : Int32) (s2 : Int32) (σ : Ms) : VF (K12_readTest) cX12_readTest RX12 (F12_readTest_b107 N l1 l2 s1 s2 σ) σ 107 [(0, .ref 0), (1, .int l1), (2, .int l2)] [.int s2, .int s1, .ref 5] := by
  unfold F12_readTest_b107
  refine v_iast d12_readTest_107 ic_5 ?_
  refine v_lts fun t6 => ?_
  refine v_aload_n d12_readTest_108 0 rfl rfl ?_
  refine v_aload_n d12_readTest_109 0 rfl rfl ?_
  refine v_bipush d12_readTest_110 kb_60 ?_
  refine v_callV1i d12_readTest_112 (mc12_isSign (60 : Int32) t6) yv12_isSign mlX12_230 (Recv.obj ic_0 rfl) (by decide) (Nat.le_of_ble_eq_true rfl) fun r7 t8 => ?_
  refine v_if_ne (tgt := 136) d12_readTest_115 (by decide) ?_ ?_
  · exact v12_readTest_b136 N l1 l2 t8
  · refine v_aload_n d12_readTest_118 0 rfl rfl ?_
    refine v_bipush d12_readTest_119 kb_62 ?_
    refine v_callV1i d12_readTest_121 (mc12_isSign (62 : Int32) t8) yv12_isSign mlX12_230 (Recv.obj ic_0 rfl) (by decide) (Nat.le_of_ble_eq_true rfl) fun r9 t10 => ?_
    refine v_if_ne (tgt := 136) d12_readTest_124 (by decide) ?_ ?_
    · exact v12_readTest_b136 N l1 l2 t10
    · refine v_aload_n d12_readTest_127 0 rfl rfl ?_
      refine v_bipush d12_readTest_128 kb_61 ?_
      refine v_callV1i d12_readTest_130 (mc12_isSign (61 : Int32) t10) yv12_isSign mlX12_230 (Recv.obj ic_0 rfl) (by decide) (Nat.le_of_ble_eq_true rfl) fun r11 t12 => ?_
      refine v_if_eq (tgt := 140) d12_readTest_133 (by decide) ?_ ?_
      · refine v_iconst d12_readTest_140 ki_0 ?_
        exact v12_readTest_b141 N l1 l2 (0 : Int32) t12
      · exact v12_readTest_b136 N l1 l2 t12
set_option maxRecDepth 100000 in
theorem v12_readTest_b66 (N : Nat) (l1 : Int32) (l2 : Int32) (σ : Ms) : VF (K12_readTest) cX12_readTest RX12 (F12_readTest_b66 N l1 l2 σ) σ 66 [(0, .ref 0), (1, .int l1), (2, .int l2)] [] := by
  unfold F12_readTest_b66
  refine v_aload_n d12_readTest_66 0 rfl rfl ?_
  refine v_getI d12_readTest_67 faX12_138 ic_0 ?_
  refine v_if_gt (tgt := 82) d12_readTest_70 (by decide) ?_ ?_
  · exact v_vret d12_readTest_82 rfl
  · refine v_iload_n d12_readTest_73 2 rfl rfl ?_
    refine v_if_eq (tgt := 82) d12_readTest_74 (by decide) ?_ ?_
    · exact v_vret d12_readTest_82 rfl
    · refine v_iload_n d12_readTest_77 2 rfl rfl ?_
      refine v_iconst d12_readTest_78 ki_3 ?_
      refine v_icmp_ne (tgt := 83) d12_readTest_79 (by decide) ?_ ?_
      · refine v_aload_n d12_readTest_83 0 rfl rfl ?_
        refine v_getR d12_readTest_84 faX12_35 ic_0 rfl ?_
        refine v_iload_n d12_readTest_87 1 rfl rfl ?_
        refine v_bipush d12_readTest_88 kb_7 ?_
        refine v_iadd d12_readTest_90 ?_
        refine v_aload_n d12_readTest_91 0 rfl rfl ?_
        refine v_getI d12_readTest_92 faX12_108 ic_0 ?_
        refine v_iconst d12_readTest_95 ki_3 ?_
        refine v_icmp_ne (tgt := 106) d12_readTest_96 (by decide) ?_ ?_
        · refine v_iconst d12_readTest_106 ki_0 ?_
          exact v12_readTest_b107 N l1 l2 (l1 + (7 : Int32)) (0 : Int32) σ
        · refine v_aload_n d12_readTest_99 0 rfl rfl ?_
          refine v_getI d12_readTest_100 faX12_124 ic_0 ?_
          refine v_goto (tgt := 107) d12_readTest_103 (by decide) ?_
          exact v12_readTest_b107 N l1 l2 (l1 + (7 : Int32)) (σ.1 0 17) σ
      · exact v_vret d12_readTest_82 rfl
set_option maxRecDepth 100000 in
theorem v12_readTest_b15 (N : Nat) (l1 : Int32) (l2 : Int32) (s1 : Int32) (σ : Ms) : VF (K12_readTest) cX12_readTest RX12 (F12_readTest_b15 N l1 l2 s1 σ) σ 15 [(0, .ref 0), (1, .int l1), (2, .int l2)] [.int s1, .ref 0] := by
  unfold F12_readTest_b15
  refine v_callV1v d12_readTest_15 (mc12_must N s1 σ) yv12_must mlX12_161 (Recv.obj ic_0 rfl) (by decide) (Nat.le_of_ble_eq_true rfl) fun r13 t14 => ?_
  refine v_aload_n d12_readTest_18 0 rfl rfl ?_
  refine v_getR d12_readTest_19 faX12_35 ic_0 rfl ?_
  refine v_iload_n d12_readTest_22 1 rfl rfl ?_
  refine v_iconst d12_readTest_23 ki_5 ?_
  refine v_iadd d12_readTest_24 ?_
  refine v_iload_n d12_readTest_25 2 rfl rfl ?_
  refine v_iast d12_readTest_26 ic_5 ?_
  refine v_lts fun t15 => ?_
  refine v_iload_n d12_readTest_27 2 rfl rfl ?_
  refine v_if_ne (tgt := 49) d12_readTest_28 (by decide) ?_ ?_
  · refine v_iload_n d12_readTest_49 2 rfl rfl ?_
    refine v_iconst d12_readTest_50 ki_3 ?_
    refine v_icmp_ne (tgt := 66) d12_readTest_51 (by decide) ?_ ?_
    · exact v12_readTest_b66 N l1 l2 t15
    · refine v_aload_n d12_readTest_54 0 rfl rfl ?_
      refine v_getR d12_readTest_55 faX12_35 ic_0 rfl ?_
      refine v_iload_n d12_readTest_58 1 rfl rfl ?_
      refine v_iconst d12_readTest_59 ki_1 ?_
      refine v_iadd d12_readTest_60 ?_
      refine v_aload_n d12_readTest_61 0 rfl rfl ?_
      refine v_callV0i d12_readTest_62 (mc12_readSide N t15) yv12_readSide mlX12_242 (Recv.obj ic_0 rfl) (by decide) (Nat.le_of_ble_eq_true rfl) fun r16 t17 => ?_
      refine v_iast d12_readTest_65 ic_5 ?_
      refine v_lts fun t18 => ?_
      exact v12_readTest_b66 N l1 l2 t18
  · refine v_aload_n d12_readTest_31 0 rfl rfl ?_
    refine v_getR d12_readTest_32 faX12_35 ic_0 rfl ?_
    refine v_iload_n d12_readTest_35 1 rfl rfl ?_
    refine v_iconst d12_readTest_36 ki_1 ?_
    refine v_iadd d12_readTest_37 ?_
    refine v_aload_n d12_readTest_38 0 rfl rfl ?_
    refine v_iconst d12_readTest_39 ki_0 ?_
    refine v_bipush d12_readTest_40 kb_19 ?_
    refine v_callV2i d12_readTest_42 (mc12_count N (0 : Int32) (19 : Int32) t15) yv12_count mlX12_196 (Recv.obj ic_0 rfl) (by decide) (Nat.le_of_ble_eq_true rfl) fun r19 t20 => ?_
    refine v_iast d12_readTest_45 ic_5 ?_
    refine v_lts fun t21 => ?_
    refine v_goto (tgt := 66) d12_readTest_46 (by decide) ?_
    exact v12_readTest_b66 N l1 l2 t21
set_option maxRecDepth 100000 in
theorem mc12_readTest (N : Nat) (p0 : Int32) (σ : Ms) : MC enV yX12_readTest cX12_readTest 3 none 5 (F12_readTest N p0 σ) σ [.ref 0, .int p0] := by
  refine MC.v (by decide +kernel) (Nat.le_of_ble_eq_true rfl) ?_
  show VF (K12_readTest) cX12_readTest RX12 (F12_readTest N p0 σ) σ 0 [(0, .ref 0), (1, .int p0)] []
  unfold F12_readTest
  refine v_aload_n d12_readTest_0 0 rfl rfl ?_
  refine v_callV0i d12_readTest_1 (mc12_testWord σ) yv12_testWord mlX12_239 (Recv.obj ic_0 rfl) (by decide) (Nat.le_of_ble_eq_true rfl) fun r22 t23 => ?_
  refine v_istore_n (lv' := [(2, .int r22), (0, .ref 0), (1, .int p0)]) d12_readTest_4 rfl (by decide) rfl ?_
  refine v_aload_n d12_readTest_5 1 rfl rfl ?_
  refine v_iload_n d12_readTest_6 0 rfl rfl ?_
  refine v_if_lt (tgt := 14) d12_readTest_7 (by decide) ?_ ?_
  · refine v_iconst d12_readTest_14 ki_0 ?_
    refine v_sub [1, 2, 0] rfl ?_
    exact v12_readTest_b15 N p0 r22 (0 : Int32) t23
  · refine v_iconst d12_readTest_10 ki_1 ?_
    refine v_goto (tgt := 15) d12_readTest_11 (by decide) ?_
    refine v_sub [1, 2, 0] rfl ?_
    exact v12_readTest_b15 N p0 r22 (1 : Int32) t23
