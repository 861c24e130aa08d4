theorem d12_offer_0 : decode cX12_offer 0 = .ok (.aload_n 0, 1) := by decide +kernel
theorem d12_offer_1 : decode cX12_offer 1 = .ok (.iconst 0, 1) := by decide +kernel
theorem d12_offer_2 : decode cX12_offer 2 = .ok (.putfield 53, 3) := by decide +kernel
theorem d12_offer_5 : decode cX12_offer 5 = .ok (.aload_n 0, 1) := by decide +kernel
theorem d12_offer_6 : decode cX12_offer 6 = .ok (.iconst 0, 1) := by decide +kernel
theorem d12_offer_7 : decode cX12_offer 7 = .ok (.putfield 56, 3) := by decide +kernel
theorem d12_offer_10 : decode cX12_offer 10 = .ok (.iload_n 1, 1) := by decide +kernel
theorem d12_offer_11 : decode cX12_offer 11 = .ok (.i2l, 1) := by decide +kernel
theorem d12_offer_12 : decode cX12_offer 12 = .ok (.lconst 0, 1) := by decide +kernel
theorem d12_offer_13 : decode cX12_offer 13 = .ok (.ldc2_w 360, 3) := by decide +kernel
theorem d12_offer_16 : decode cX12_offer 16 = .ok (.invokestatic 88, 3) := by decide +kernel
theorem d12_offer_19 : decode cX12_offer 19 = .ok (.ifCond .eq 21, 3) := by decide +kernel
theorem d12_offer_22 : decode cX12_offer 22 = .ok (.iload_n 2, 1) := by decide +kernel
theorem d12_offer_23 : decode cX12_offer 23 = .ok (.i2l, 1) := by decide +kernel
theorem d12_offer_24 : decode cX12_offer 24 = .ok (.lconst 0, 1) := by decide +kernel
theorem d12_offer_25 : decode cX12_offer 25 = .ok (.ldc2_w 360, 3) := by decide +kernel
theorem d12_offer_28 : decode cX12_offer 28 = .ok (.invokestatic 88, 3) := by decide +kernel
theorem d12_offer_31 : decode cX12_offer 31 = .ok (.ifCond .eq 9, 3) := by decide +kernel
theorem d12_offer_34 : decode cX12_offer 34 = .ok (.iload_n 1, 1) := by decide +kernel
theorem d12_offer_35 : decode cX12_offer 35 = .ok (.iload_n 2, 1) := by decide +kernel
theorem d12_offer_36 : decode cX12_offer 36 = .ok (.iadd, 1) := by decide +kernel
theorem d12_offer_37 : decode cX12_offer 37 = .ok (.ifCond .ne 9, 3) := by decide +kernel
theorem d12_offer_40 : decode cX12_offer 40 = .ok (.aload_n 0, 1) := by decide +kernel
theorem d12_offer_41 : decode cX12_offer 41 = .ok (.iconst 5, 1) := by decide +kernel
theorem d12_offer_42 : decode cX12_offer 42 = .ok (.invokevirtual 265, 3) := by decide +kernel
theorem d12_offer_45 : decode cX12_offer 45 = .ok (.ireturn, 1) := by decide +kernel
theorem d12_offer_46 : decode cX12_offer 46 = .ok (.aload_n 0, 1) := by decide +kernel
theorem d12_offer_47 : decode cX12_offer 47 = .ok (.getfield 35, 3) := by decide +kernel
theorem d12_offer_50 : decode cX12_offer 50 = .ok (.iconst 2, 1) := by decide +kernel
theorem d12_offer_51 : decode cX12_offer 51 = .ok (.iaload, 1) := by decide +kernel
theorem d12_offer_52 : decode cX12_offer 52 = .ok (.iconst 5, 1) := by decide +kernel
theorem d12_offer_53 : decode cX12_offer 53 = .ok (.if_icmp .ne 10, 3) := by decide +kernel
theorem d12_offer_56 : decode cX12_offer 56 = .ok (.aload_n 0, 1) := by decide +kernel
theorem d12_offer_57 : decode cX12_offer 57 = .ok (.bipush 7, 2) := by decide +kernel
theorem d12_offer_59 : decode cX12_offer 59 = .ok (.invokevirtual 265, 3) := by decide +kernel
theorem d12_offer_62 : decode cX12_offer 62 = .ok (.ireturn, 1) := by decide +kernel
theorem d12_offer_63 : decode cX12_offer 63 = .ok (.aload_n 0, 1) := by decide +kernel
theorem d12_offer_64 : decode cX12_offer 64 = .ok (.iconst 0, 1) := by decide +kernel
theorem d12_offer_65 : decode cX12_offer 65 = .ok (.iload_n 1, 1) := by decide +kernel
theorem d12_offer_66 : decode cX12_offer 66 = .ok (.iload_n 2, 1) := by decide +kernel
theorem d12_offer_67 : decode cX12_offer 67 = .ok (.invokevirtual 203, 3) := by decide +kernel
theorem d12_offer_70 : decode cX12_offer 70 = .ok (.aload_n 0, 1) := by decide +kernel
theorem d12_offer_71 : decode cX12_offer 71 = .ok (.getfield 35, 3) := by decide +kernel
theorem d12_offer_74 : decode cX12_offer 74 = .ok (.iconst 2, 1) := by decide +kernel
theorem d12_offer_75 : decode cX12_offer 75 = .ok (.iaload, 1) := by decide +kernel
theorem d12_offer_76 : decode cX12_offer 76 = .ok (.iconst 1, 1) := by decide +kernel
theorem d12_offer_77 : decode cX12_offer 77 = .ok (.isub, 1) := by decide +kernel
theorem d12_offer_78 : decode cX12_offer 78 = .ok (.ireturn, 1) := by decide +kernel
abbrev K12_offer : CK Int32 := (enI, (some .int), 3, 2, none)
noncomputable def F12_offer_b40 (σ : Ms) : Option (Int32 × Ms) :=
  bn (F12_refuse (5 : Int32) σ) (fun r1 t2 => some (r1, t2))
noncomputable def F12_offer (p0 : Int32) (p1 : Int32) (σ : Ms) : Option (Int32 × Ms) :=
  lt (sI σ 0 1 (0 : Int32)) (fun t3 => lt (sI t3 0 0 (0 : Int32)) (fun t4 => bn (F12_isIn (p0.toInt64) (0 : Int64) (20 : Int64) t4) (fun r5 t6 => if r5 = 0 then (F12_offer_b40 t6)
  else (bn (F12_isIn (p1.toInt64) (0 : Int64) (20 : Int64) t6) (fun r7 t8 => if r7 = 0 then (F12_offer_b40 t8)
  else (if (p0 + p1) ≠ 0 then (ck (ixb (2 : Int32) 1780) (if (t8.1 5 (2 : Int32).toNatClampNeg) ≠ (5 : Int32) then (bn (F12_offers (0 : Int32) p0 p1 t8) (fun r9 t10 => ck (ixb (2 : Int32) 1780) (some (((t10.1 5 (2 : Int32).toNatClampNeg) - (1 : Int32)), t10))))
  else (bn (F12_refuse (7 : Int32) t8) (fun r11 t12 => some (r11, t12)))))
  else (F12_offer_b40 t8)))))))
set_option maxRecDepth 100000 in
theorem v12_offer_b40 (σ : Ms) : VF (K12_offer) cX12_offer RX12 (F12_offer_b40 σ) σ 40 [(0, .ref 0)] [] := by
  unfold F12_offer_b40
  refine v_aload_n d12_offer_40 0 rfl rfl ?_
  refine v_iconst d12_offer_41 ki_5 ?_
  refine v_callV1i d12_offer_42 (mc12_refuse (5 : Int32) σ) yv12_refuse mlX12_265 (Recv.obj ic_0 rfl) (by decide) (Nat.le_of_ble_eq_true rfl) fun r1 t2 => ?_
  exact v_iret d12_offer_45 rfl rfl rfl
set_option maxRecDepth 100000 in
theorem mc12_offer (p0 : Int32) (p1 : Int32) (σ : Ms) : MC enI yX12_offer cX12_offer 3 (some .int) 2 (F12_offer p0 p1 σ) σ [.ref 0, .int p0, .int p1] := by
  refine MC.i (by decide +kernel) (Nat.le_of_ble_eq_true rfl) ?_
  show VF (K12_offer) cX12_offer RX12 (F12_offer p0 p1 σ) σ 0 [(0, .ref 0), (1, .int p0), (2, .int p1)] []
  unfold F12_offer
  refine v_aload_n d12_offer_0 0 rfl rfl ?_
  refine v_iconst d12_offer_1 ki_0 ?_
  refine v_putI d12_offer_2 faX12_53 fp9_1 ic_0 ?_
  refine v_lts fun t3 => ?_
  refine v_aload_n d12_offer_5 0 rfl rfl ?_
  refine v_iconst d12_offer_6 ki_0 ?_
  refine v_putI d12_offer_7 faX12_56 fp9_0 ic_0 ?_
  refine v_lts fun t4 => ?_
  refine v_iload_n d12_offer_10 1 rfl rfl ?_
  refine v_i2l d12_offer_11 ?_
  refine v_lconst d12_offer_12 kl_0 ?_
  refine v_ldc2 d12_offer_13 klX12_360 ?_
  refine v_callS3i d12_offer_16 (mc12_isIn (p0.toInt64) (0 : Int64) (20 : Int64) t4) ys12_isIn mlX12_88 (by decide) (Nat.le_of_ble_eq_true rfl) fun r5 t6 => ?_
  refine v_if_eq (tgt := 40) d12_offer_19 (by decide) ?_ ?_
  · refine v_sub [0] rfl ?_
    exact v12_offer_b40 t6
  · refine v_iload_n d12_offer_22 2 rfl rfl ?_
    refine v_i2l d12_offer_23 ?_
    refine v_lconst d12_offer_24 kl_0 ?_
    refine v_ldc2 d12_offer_25 klX12_360 ?_
    refine v_callS3i d12_offer_28 (mc12_isIn (p1.toInt64) (0 : Int64) (20 : Int64) t6) ys12_isIn mlX12_88 (by decide) (Nat.le_of_ble_eq_true rfl) fun r7 t8 => ?_
    refine v_if_eq (tgt := 40) d12_offer_31 (by decide) ?_ ?_
    · refine v_sub [0] rfl ?_
      exact v12_offer_b40 t8
    · refine v_iload_n d12_offer_34 1 rfl rfl ?_
      refine v_iload_n d12_offer_35 2 rfl rfl ?_
      refine v_iadd d12_offer_36 ?_
      refine v_if_ne (tgt := 46) d12_offer_37 (by decide) ?_ ?_
      · refine v_aload_n d12_offer_46 0 rfl rfl ?_
        refine v_getR d12_offer_47 faX12_35 ic_0 rfl ?_
        refine v_iconst d12_offer_50 ki_2 ?_
        refine v_iald d12_offer_51 ic_5 ?_
        refine v_iconst d12_offer_52 ki_5 ?_
        refine v_icmp_ne (tgt := 63) d12_offer_53 (by decide) ?_ ?_
        · refine v_aload_n d12_offer_63 0 rfl rfl ?_
          refine v_iconst d12_offer_64 ki_0 ?_
          refine v_iload_n d12_offer_65 1 rfl rfl ?_
          refine v_iload_n d12_offer_66 2 rfl rfl ?_
          refine v_callV3v d12_offer_67 (mc12_offers (0 : Int32) p0 p1 t8) yv12_offers mlX12_203 (Recv.obj ic_0 rfl) (by decide) (Nat.le_of_ble_eq_true rfl) fun r9 t10 => ?_
          refine v_aload_n d12_offer_70 0 rfl rfl ?_
          refine v_getR d12_offer_71 faX12_35 ic_0 rfl ?_
          refine v_iconst d12_offer_74 ki_2 ?_
          refine v_iald d12_offer_75 ic_5 ?_
          refine v_iconst d12_offer_76 ki_1 ?_
          refine v_isub d12_offer_77 ?_
          exact v_iret d12_offer_78 rfl rfl rfl
        · refine v_aload_n d12_offer_56 0 rfl rfl ?_
          refine v_bipush d12_offer_57 kb_7 ?_
          refine v_callV1i d12_offer_59 (mc12_refuse (7 : Int32) t8) yv12_refuse mlX12_265 (Recv.obj ic_0 rfl) (by decide) (Nat.le_of_ble_eq_true rfl) fun r11 t12 => ?_
          exact v_iret d12_offer_62 rfl rfl rfl
      · refine v_sub [0] rfl ?_
        exact v12_offer_b40 t8
theorem d12_heatOf_0 : decode cX12_heatOf 0 = .ok (.aload_n 0, 1) := by decide +kernel
theorem d12_heatOf_1 : decode cX12_heatOf 1 = .ok (.getfield 35, 3) := by decide +kernel
theorem d12_heatOf_4 : decode cX12_heatOf 4 = .ok (.bipush 69, 2) := by decide +kernel
theorem d12_heatOf_6 : decode cX12_heatOf 6 = .ok (.iload_n 1, 1) := by decide +kernel
theorem d12_heatOf_7 : decode cX12_heatOf 7 = .ok (.iadd, 1) := by decide +kernel
theorem d12_heatOf_8 : decode cX12_heatOf 8 = .ok (.iaload, 1) := by decide +kernel
theorem d12_heatOf_9 : decode cX12_heatOf 9 = .ok (.aload_n 0, 1) := by decide +kernel
theorem d12_heatOf_10 : decode cX12_heatOf 10 = .ok (.getfield 35, 3) := by decide +kernel
theorem d12_heatOf_13 : decode cX12_heatOf 13 = .ok (.bipush 74, 2) := by decide +kernel
theorem d12_heatOf_15 : decode cX12_heatOf 15 = .ok (.iload_n 1, 1) := by decide +kernel
theorem d12_heatOf_16 : decode cX12_heatOf 16 = .ok (.iadd, 1) := by decide +kernel
theorem d12_heatOf_17 : decode cX12_heatOf 17 = .ok (.iaload, 1) := by decide +kernel
theorem d12_heatOf_18 : decode cX12_heatOf 18 = .ok (.iadd, 1) := by decide +kernel
theorem d12_heatOf_19 : decode cX12_heatOf 19 = .ok (.ireturn, 1) := by decide +kernel
abbrev K12_heatOf : CK Int32 := (enI, (some .int), 2, 1, none)
noncomputable def F12_heatOf (p0 : Int32) (σ : Ms) : Option (Int32 × Ms) :=
  ck (ixb ((69 : Int32) + p0) 1780) (ck (ixb ((74 : Int32) + p0) 1780) (some (((σ.1 5 ((69 : Int32) + p0).toNatClampNeg) + (σ.1 5 ((74 : Int32) + p0).toNatClampNeg)), σ)))
set_option maxRecDepth 100000 in
theorem mc12_heatOf (p0 : Int32) (σ : Ms) : MC enI yX12_heatOf cX12_heatOf 2 (some .int) 1 (F12_heatOf p0 σ) σ [.ref 0, .int p0] := by
  refine MC.i (by decide +kernel) (Nat.le_of_ble_eq_true rfl) ?_
  show VF (K12_heatOf) cX12_heatOf RX12 (F12_heatOf p0 σ) σ 0 [(0, .ref 0), (1, .int p0)] []
  unfold F12_heatOf
  refine v_aload_n d12_heatOf_0 0 rfl rfl ?_
  refine v_getR d12_heatOf_1 faX12_35 ic_0 rfl ?_
  refine v_bipush d12_heatOf_4 kb_69 ?_
  refine v_iload_n d12_heatOf_6 1 rfl rfl ?_
  refine v_iadd d12_heatOf_7 ?_
  refine v_iald d12_heatOf_8 ic_5 ?_
  refine v_aload_n d12_heatOf_9 0 rfl rfl ?_
  refine v_getR d12_heatOf_10 faX12_35 ic_0 rfl ?_
  refine v_bipush d12_heatOf_13 kb_74 ?_
  refine v_iload_n d12_heatOf_15 1 rfl rfl ?_
  refine v_iadd d12_heatOf_16 ?_
  refine v_iald d12_heatOf_17 ic_5 ?_
  refine v_iadd d12_heatOf_18 ?_
  exact v_iret d12_heatOf_19 rfl rfl rfl
theorem d12_hottestBut_0 : decode cX12_hottestBut 0 = .ok (.iconst (-1), 1) := by decide +kernel
theorem d12_hottestBut_1 : decode cX12_hottestBut 1 = .ok (.istore_n 2, 1) := by decide +kernel
theorem d12_hottestBut_2 : decode cX12_hottestBut 2 = .ok (.iconst 0, 1) := by decide +kernel
theorem d12_hottestBut_3 : decode cX12_hottestBut 3 = .ok (.istore_n 3, 1) := by decide +kernel
theorem d12_hottestBut_4 : decode cX12_hottestBut 4 = .ok (.iload_n 3, 1) := by decide +kernel
theorem d12_hottestBut_5 : decode cX12_hottestBut 5 = .ok (.aload_n 0, 1) := by decide +kernel
theorem d12_hottestBut_6 : decode cX12_hottestBut 6 = .ok (.getfield 35, 3) := by decide +kernel
theorem d12_hottestBut_9 : decode cX12_hottestBut 9 = .ok (.iconst 2, 1) := by decide +kernel
theorem d12_hottestBut_10 : decode cX12_hottestBut 10 = .ok (.iaload, 1) := by decide +kernel
theorem d12_hottestBut_11 : decode cX12_hottestBut 11 = .ok (.if_icmp .ge 36, 3) := by decide +kernel
theorem d12_hottestBut_14 : decode cX12_hottestBut 14 = .ok (.iload_n 1, 1) := by decide +kernel
theorem d12_hottestBut_15 : decode cX12_hottestBut 15 = .ok (.iload_n 3, 1) := by decide +kernel
theorem d12_hottestBut_16 : decode cX12_hottestBut 16 = .ok (.invokestatic 92, 3) := by decide +kernel
theorem d12_hottestBut_19 : decode cX12_hottestBut 19 = .ok (.ifCond .ne 22, 3) := by decide +kernel
theorem d12_hottestBut_22 : decode cX12_hottestBut 22 = .ok (.iload_n 2, 1) := by decide +kernel
theorem d12_hottestBut_23 : decode cX12_hottestBut 23 = .ok (.ifCond .lt 16, 3) := by decide +kernel
theorem d12_hottestBut_26 : decode cX12_hottestBut 26 = .ok (.aload_n 0, 1) := by decide +kernel
theorem d12_hottestBut_27 : decode cX12_hottestBut 27 = .ok (.iload_n 3, 1) := by decide +kernel
theorem d12_hottestBut_28 : decode cX12_hottestBut 28 = .ok (.invokevirtual 362, 3) := by decide +kernel
theorem d12_hottestBut_31 : decode cX12_hottestBut 31 = .ok (.aload_n 0, 1) := by decide +kernel
theorem d12_hottestBut_32 : decode cX12_hottestBut 32 = .ok (.iload_n 2, 1) := by decide +kernel
theorem d12_hottestBut_33 : decode cX12_hottestBut 33 = .ok (.invokevirtual 362, 3) := by decide +kernel
theorem d12_hottestBut_36 : decode cX12_hottestBut 36 = .ok (.if_icmp .le 5, 3) := by decide +kernel
theorem d12_hottestBut_39 : decode cX12_hottestBut 39 = .ok (.iload_n 3, 1) := by decide +kernel
theorem d12_hottestBut_40 : decode cX12_hottestBut 40 = .ok (.istore_n 2, 1) := by decide +kernel
theorem d12_hottestBut_41 : decode cX12_hottestBut 41 = .ok (.iinc 3 1, 3) := by decide +kernel
theorem d12_hottestBut_44 : decode cX12_hottestBut 44 = .ok (.goto (-40), 3) := by decide +kernel
theorem d12_hottestBut_47 : decode cX12_hottestBut 47 = .ok (.iload_n 2, 1) := by decide +kernel
theorem d12_hottestBut_48 : decode cX12_hottestBut 48 = .ok (.ireturn, 1) := by decide +kernel
abbrev K12_hottestBut : CK Int32 := (enI, (some .int), 4, 2, none)
noncomputable def F12_hottestBut_b41 (N : Nat) (k4 : Int32 × Int32 × Int32 × Ms → Option (Int32 × Ms)) (l1 : Int32) (l2 : Int32) (l3 : Int32) (σ : Ms) : Option (Int32 × Ms) :=
  k4 (l1, l2, (l3 + (1 : Int32)), σ)
noncomputable def F12_hottestBut_b39 (N : Nat) (k4 : Int32 × Int32 × Int32 × Ms → Option (Int32 × Ms)) (l1 : Int32) (l3 : Int32) (σ : Ms) : Option (Int32 × Ms) :=
  F12_hottestBut_b41 N k4 l1 l3 l3 σ
noncomputable def F12_hottestBut_b4B (N : Nat) (k4 : Int32 × Int32 × Int32 × Ms → Option (Int32 × Ms)) (l1 : Int32) (l2 : Int32) (l3 : Int32) (σ : Ms) : Option (Int32 × Ms) :=
  ck (ixb (2 : Int32) 1780) (if (σ.1 5 (2 : Int32).toNatClampNeg) ≤ l3 then (some (l2, σ))
  else (bn (F12_has l1 l3 σ) (fun r1 t2 => if r1 ≠ 0 then (F12_hottestBut_b41 N k4 l1 l2 l3 t2)
  else (if l2 < 0 then (F12_hottestBut_b39 N k4 l1 l3 t2)
  else (bn (F12_heatOf l3 t2) (fun r3 t4 => bn (F12_heatOf l2 t4) (fun r5 t6 => if r3 ≤ r5 then (F12_hottestBut_b41 N k4 l1 l2 l3 t6)
  else (F12_hottestBut_b39 N k4 l1 l3 t6))))))))
noncomputable def F12_hottestBut_b4 (N : Nat) (l1 : Int32) (l2 : Int32) (l3 : Int32) (σ : Ms) : Option (Int32 × Ms) :=
  fx N (fun k x => F12_hottestBut_b4B N k x.1 x.2.1 x.2.2.1 x.2.2.2) (l1, l2, l3, σ)
noncomputable def F12_hottestBut (N : Nat) (p0 : Int32) (σ : Ms) : Option (Int32 × Ms) :=
  F12_hottestBut_b4 N p0 (-1 : Int32) (0 : Int32) σ
set_option maxRecDepth 100000 in
theorem v12_hottestBut_b41 (N : Nat) (k4 : Int32 × Int32 × Int32 × Ms → Option (Int32 × Ms)) (hk4 : ∀ (l1 : Int32) (l2 : Int32) (l3 : Int32) (τ : Ms), VF (K12_hottestBut) cX12_hottestBut RX12 (k4 (l1, l2, l3, τ)) τ 4 [(0, .ref 0), (1, .int l1), (2, .int l2), (3, .int l3)] []) (l1 : Int32) (l2 : Int32) (l3 : Int32) (σ : Ms) : VF (K12_hottestBut) cX12_hottestBut RX12 (F12_hottestBut_b41 N k4 l1 l2 l3 σ) σ 41 [(0, .ref 0), (1, .int l1), (2, .int l2), (3, .int l3)] [] := by
  unfold F12_hottestBut_b41
  refine v_iinc (lv' := [(3, .int (l3 + (1 : Int32))), (0, .ref 0), (1, .int l1), (2, .int l2)]) d12_hottestBut_41 3 rfl (by rw [ki_1]) (by decide) rfl ?_
  refine v_goto (tgt := 4) d12_hottestBut_44 (by decide) ?_
  refine v_sub [1, 2, 3, 0] rfl ?_
  exact hk4 l1 l2 (l3 + (1 : Int32)) σ
set_option maxRecDepth 100000 in
theorem v12_hottestBut_b39 (N : Nat) (k4 : Int32 × Int32 × Int32 × Ms → Option (Int32 × Ms)) (hk4 : ∀ (l1 : Int32) (l2 : Int32) (l3 : Int32) (τ : Ms), VF (K12_hottestBut) cX12_hottestBut RX12 (k4 (l1, l2, l3, τ)) τ 4 [(0, .ref 0), (1, .int l1), (2, .int l2), (3, .int l3)] []) (l1 : Int32) (l3 : Int32) (σ : Ms) : VF (K12_hottestBut) cX12_hottestBut RX12 (F12_hottestBut_b39 N k4 l1 l3 σ) σ 39 [(0, .ref 0), (1, .int l1), (3, .int l3)] [] := by
  unfold F12_hottestBut_b39
  refine v_iload_n d12_hottestBut_39 2 rfl rfl ?_
  refine v_istore_n (lv' := [(2, .int l3), (0, .ref 0), (1, .int l1), (3, .int l3)]) d12_hottestBut_40 rfl (by decide) rfl ?_
  refine v_sub [1, 2, 0, 3] rfl ?_
  exact v12_hottestBut_b41 N k4 hk4 l1 l3 l3 σ
set_option maxRecDepth 100000 in
theorem v12_hottestBut_b4B (N : Nat) (k4 : Int32 × Int32 × Int32 × Ms → Option (Int32 × Ms)) (hk4 : ∀ (l1 : Int32) (l2 : Int32) (l3 : Int32) (τ : Ms), VF (K12_hottestBut) cX12_hottestBut RX12 (k4 (l1, l2, l3, τ)) τ 4 [(0, .ref 0), (1, .int l1), (2, .int l2), (3, .int l3)] []) (l1 : Int32) (l2 : Int32) (l3 : Int32) (σ : Ms) : VF (K12_hottestBut) cX12_hottestBut RX12 (F12_hottestBut_b4B N k4 l1 l2 l3 σ) σ 4 [(0, .ref 0), (1, .int l1), (2, .int l2), (3, .int l3)] [] := by
  unfold F12_hottestBut_b4B
  refine v_iload_n d12_hottestBut_4 3 rfl rfl ?_
  refine v_aload_n d12_hottestBut_5 0 rfl rfl ?_
  refine v_getR d12_hottestBut_6 faX12_35 ic_0 rfl ?_
  refine v_iconst d12_hottestBut_9 ki_2 ?_
  refine v_iald d12_hottestBut_10 ic_5 ?_
  refine v_icmp_ge (tgt := 47) d12_hottestBut_11 (by decide) ?_ ?_
  · refine v_iload_n d12_hottestBut_47 2 rfl rfl ?_
    exact v_iret d12_hottestBut_48 rfl rfl rfl
  · refine v_iload_n d12_hottestBut_14 1 rfl rfl ?_
    refine v_iload_n d12_hottestBut_15 3 rfl rfl ?_
    refine v_callS2i d12_hottestBut_16 (mc12_has l1 l3 σ) ys12_has mlX12_92 (by decide) (Nat.le_of_ble_eq_true rfl) fun r1 t2 => ?_
    refine v_if_ne (tgt := 41) d12_hottestBut_19 (by decide) ?_ ?_
    · exact v12_hottestBut_b41 N k4 hk4 l1 l2 l3 t2
    · refine v_iload_n d12_hottestBut_22 2 rfl rfl ?_
      refine v_if_lt (tgt := 39) d12_hottestBut_23 (by decide) ?_ ?_
      · refine v_sub [0, 1, 3] rfl ?_
        exact v12_hottestBut_b39 N k4 hk4 l1 l3 t2
      · refine v_aload_n d12_hottestBut_26 0 rfl rfl ?_
        refine v_iload_n d12_hottestBut_27 3 rfl rfl ?_
        refine v_callV1i d12_hottestBut_28 (mc12_heatOf l3 t2) yv12_heatOf mlX12_362 (Recv.obj ic_0 rfl) (by decide) (Nat.le_of_ble_eq_true rfl) fun r3 t4 => ?_
        refine v_aload_n d12_hottestBut_31 0 rfl rfl ?_
        refine v_iload_n d12_hottestBut_32 2 rfl rfl ?_
        refine v_callV1i d12_hottestBut_33 (mc12_heatOf l2 t4) yv12_heatOf mlX12_362 (Recv.obj ic_0 rfl) (by decide) (Nat.le_of_ble_eq_true rfl) fun r5 t6 => ?_
        refine v_icmp_le (tgt := 41) d12_hottestBut_36 (by decide) ?_ ?_
        · exact v12_hottestBut_b41 N k4 hk4 l1 l2 l3 t6
        · refine v_sub [0, 1, 3] rfl ?_
          exact v12_hottestBut_b39 N k4 hk4 l1 l3 t6
theorem v12_hottestBut_b4 (N : Nat) (l1 : Int32) (l2 : Int32) (l3 : Int32) (σ : Ms) : VF (K12_hottestBut) cX12_hottestBut RX12 (F12_hottestBut_b4 N l1 l2 l3 σ) σ 4 [(0, .ref 0), (1, .int l1), (2, .int l2), (3, .int l3)] [] := v_fx (σo := fun x => x.2.2.2) (lo := fun x => [(0, .ref 0), (1, .int x.1), (2, .int x.2.1), (3, .int x.2.2.1)]) (fun k hk x => v12_hottestBut_b4B N k (fun l1 l2 l3 τ => hk (l1, l2, l3, τ)) x.1 x.2.1 x.2.2.1 x.2.2.2) N (l1, l2, l3, σ)
set_option maxRecDepth 100000 in
theorem mc12_hottestBut (N : Nat) (p0 : Int32) (σ : Ms) : MC enI yX12_hottestBut cX12_hottestBut 4 (some .int) 2 (F12_hottestBut N p0 σ) σ [.ref 0, .int p0] := by
  refine MC.i (by decide +kernel) (Nat.le_of_ble_eq_true rfl) ?_
  show VF (K12_hottestBut) cX12_hottestBut RX12 (F12_hottestBut N p0 σ) σ 0 [(0, .ref 0), (1, .int p0)] []
  unfold F12_hottestBut
  refine v_iconst d12_hottestBut_0 ki_m1 ?_
  refine v_istore_n (lv' := [(2, .int (-1 : Int32)), (0, .ref 0), (1, .int p0)]) d12_hottestBut_1 rfl (by decide) rfl ?_
  refine v_iconst d12_hottestBut_2 ki_0 ?_
  refine v_istore_n (lv' := [(3, .int (0 : Int32)), (2, .int (-1 : Int32)), (0, .ref 0), (1, .int p0)]) d12_hottestBut_3 rfl (by decide) rfl ?_
  refine v_sub [2, 3, 1, 0] rfl ?_
  exact v12_hottestBut_b4 N p0 (-1 : Int32) (0 : Int32) σ
theorem d12_endsWith_0 : decode cX12_endsWith 0 = .ok (.iload_n 3, 1) := by decide +kernel
theorem d12_endsWith_1 : decode cX12_endsWith 1 = .ok (.istore 5, 2) := by decide +kernel
theorem d12_endsWith_3 : decode cX12_endsWith 3 = .ok (.iload 4, 2) := by decide +kernel
theorem d12_endsWith_5 : decode cX12_endsWith 5 = .ok (.istore 6, 2) := by decide +kernel
theorem d12_endsWith_7 : decode cX12_endsWith 7 = .ok (.aload_n 0, 1) := by decide +kernel
theorem d12_endsWith_8 : decode cX12_endsWith 8 = .ok (.lload_n 1, 1) := by decide +kernel
theorem d12_endsWith_9 : decode cX12_endsWith 9 = .ok (.putfield 365, 3) := by decide +kernel
theorem d12_endsWith_12 : decode cX12_endsWith 12 = .ok (.iconst 0, 1) := by decide +kernel
theorem d12_endsWith_13 : decode cX12_endsWith 13 = .ok (.istore 7, 2) := by decide +kernel
theorem d12_endsWith_15 : decode cX12_endsWith 15 = .ok (.iload 7, 2) := by decide +kernel
theorem d12_endsWith_17 : decode cX12_endsWith 17 = .ok (.iconst 5, 1) := by decide +kernel
theorem d12_endsWith_18 : decode cX12_endsWith 18 = .ok (.if_icmp .ge 62, 3) := by decide +kernel
theorem d12_endsWith_21 : decode cX12_endsWith 21 = .ok (.aload_n 0, 1) := by decide +kernel
theorem d12_endsWith_22 : decode cX12_endsWith 22 = .ok (.iload 5, 2) := by decide +kernel
theorem d12_endsWith_24 : decode cX12_endsWith 24 = .ok (.invokevirtual 368, 3) := by decide +kernel
theorem d12_endsWith_27 : decode cX12_endsWith 27 = .ok (.istore 8, 2) := by decide +kernel
theorem d12_endsWith_29 : decode cX12_endsWith 29 = .ok (.iload 8, 2) := by decide +kernel
theorem d12_endsWith_31 : decode cX12_endsWith 31 = .ok (.ifCond .ge 6, 3) := by decide +kernel
theorem d12_endsWith_34 : decode cX12_endsWith 34 = .ok (.goto 40, 3) := by decide +kernel
theorem d12_endsWith_37 : decode cX12_endsWith 37 = .ok (.aload_n 0, 1) := by decide +kernel
theorem d12_endsWith_38 : decode cX12_endsWith 38 = .ok (.dup, 1) := by decide +kernel
theorem d12_endsWith_39 : decode cX12_endsWith 39 = .ok (.getfield 365, 3) := by decide +kernel
theorem d12_endsWith_42 : decode cX12_endsWith 42 = .ok (.aload_n 0, 1) := by decide +kernel
theorem d12_endsWith_43 : decode cX12_endsWith 43 = .ok (.iload 6, 2) := by decide +kernel
theorem d12_endsWith_45 : decode cX12_endsWith 45 = .ok (.iload 8, 2) := by decide +kernel
theorem d12_endsWith_47 : decode cX12_endsWith 47 = .ok (.invokevirtual 341, 3) := by decide +kernel
theorem d12_endsWith_50 : decode cX12_endsWith 50 = .ok (.i2l, 1) := by decide +kernel
theorem d12_endsWith_51 : decode cX12_endsWith 51 = .ok (.ldc2_w 307, 3) := by decide +kernel
theorem d12_endsWith_54 : decode cX12_endsWith 54 = .ok (.lmul, 1) := by decide +kernel
theorem d12_endsWith_55 : decode cX12_endsWith 55 = .ok (.ladd, 1) := by decide +kernel
theorem d12_endsWith_56 : decode cX12_endsWith 56 = .ok (.putfield 365, 3) := by decide +kernel
theorem d12_endsWith_59 : decode cX12_endsWith 59 = .ok (.iload 5, 2) := by decide +kernel
theorem d12_endsWith_61 : decode cX12_endsWith 61 = .ok (.iconst 1, 1) := by decide +kernel
theorem d12_endsWith_62 : decode cX12_endsWith 62 = .ok (.iload 8, 2) := by decide +kernel
theorem d12_endsWith_64 : decode cX12_endsWith 64 = .ok (.ishl, 1) := by decide +kernel
theorem d12_endsWith_65 : decode cX12_endsWith 65 = .ok (.ior, 1) := by decide +kernel
theorem d12_endsWith_66 : decode cX12_endsWith 66 = .ok (.istore 5, 2) := by decide +kernel
theorem d12_endsWith_68 : decode cX12_endsWith 68 = .ok (.iconst 1, 1) := by decide +kernel
theorem d12_endsWith_69 : decode cX12_endsWith 69 = .ok (.iload 6, 2) := by decide +kernel
theorem d12_endsWith_71 : decode cX12_endsWith 71 = .ok (.isub, 1) := by decide +kernel
theorem d12_endsWith_72 : decode cX12_endsWith 72 = .ok (.istore 6, 2) := by decide +kernel
theorem d12_endsWith_74 : decode cX12_endsWith 74 = .ok (.iinc 7 1, 3) := by decide +kernel
theorem d12_endsWith_77 : decode cX12_endsWith 77 = .ok (.goto (-62), 3) := by decide +kernel
theorem d12_endsWith_80 : decode cX12_endsWith 80 = .ok (.iload 6, 2) := by decide +kernel
theorem d12_endsWith_82 : decode cX12_endsWith 82 = .ok (.ireturn, 1) := by decide +kernel
abbrev K12_endsWith : CK Int32 := (enI, (some .int), 9, 3, none)
noncomputable def F12_endsWith_b74 (N : Nat) (k15 : Int32 × Int32 × Int32 × Ms → Option (Int32 × Ms)) (l5 : Int32) (l6 : Int32) (l7 : Int32) (σ : Ms) : Option (Int32 × Ms) :=
  k15 (l5, l6, (l7 + (1 : Int32)), σ)
noncomputable def F12_endsWith_b15B (N : Nat) (k15 : Int32 × Int32 × Int32 × Ms → Option (Int32 × Ms)) (l5 : Int32) (l6 : Int32) (l7 : Int32) (σ : Ms) : Option (Int32 × Ms) :=
  if (5 : Int32) ≤ l7 then (some (l6, σ))
  else (bn (F12_hottestBut N l5 σ) (fun r1 t2 => if 0 ≤ r1 then (bn (F12_gainBy l6 r1 t2) (fun r3 t4 => lt (sL t4 0 27 ((t2.2 0 27) + ((r3.toInt64) * (1048576 : Int64)))) (fun t5 => lt (l5 ||| ((1 : Int32) <<< (r1 &&& 31))) (fun x6 => lt ((1 : Int32) - l6) (fun x7 => F12_endsWith_b74 N k15 x6 x7 l7 t5)))))
  else (F12_endsWith_b74 N k15 l5 l6 l7 t2)))
noncomputable def F12_endsWith_b15 (N : Nat) (l5 : Int32) (l6 : Int32) (l7 : Int32) (σ : Ms) : Option (Int32 × Ms) :=
  fx N (fun k x => F12_endsWith_b15B N k x.1 x.2.1 x.2.2.1 x.2.2.2) (l5, l6, l7, σ)
noncomputable def F12_endsWith (N : Nat) (p0 : Int64) (p1 : Int32) (p2 : Int32) (σ : Ms) : Option (Int32 × Ms) :=
  lt (sL σ 0 27 p0) (fun t8 => F12_endsWith_b15 N p1 p2 (0 : Int32) t8)
set_option maxRecDepth 100000 in
theorem v12_endsWith_b74 (N : Nat) (k15 : Int32 × Int32 × Int32 × Ms → Option (Int32 × Ms)) (hk15 : ∀ (l5 : Int32) (l6 : Int32) (l7 : Int32) (τ : Ms), VF (K12_endsWith) cX12_endsWith RX12 (k15 (l5, l6, l7, τ)) τ 15 [(0, .ref 0), (5, .int l5), (6, .int l6), (7, .int l7)] []) (l5 : Int32) (l6 : Int32) (l7 : Int32) (σ : Ms) : VF (K12_endsWith) cX12_endsWith RX12 (F12_endsWith_b74 N k15 l5 l6 l7 σ) σ 74 [(0, .ref 0), (5, .int l5), (6, .int l6), (7, .int l7)] [] := by
  unfold F12_endsWith_b74
  refine v_iinc (lv' := [(7, .int (l7 + (1 : Int32))), (0, .ref 0), (5, .int l5), (6, .int l6)]) d12_endsWith_74 3 rfl (by rw [ki_1]) (by decide) rfl ?_
  refine v_goto (tgt := 15) d12_endsWith_77 (by decide) ?_
  refine v_sub [1, 2, 3, 0] rfl ?_
  exact hk15 l5 l6 (l7 + (1 : Int32)) σ
set_option maxRecDepth 100000 in
theorem v12_endsWith_b15B (N : Nat) (k15 : Int32 × Int32 × Int32 × Ms → Option (Int32 × Ms)) (hk15 : ∀ (l5 : Int32) (l6 : Int32) (l7 : Int32) (τ : Ms), VF (K12_endsWith) cX12_endsWith RX12 (k15 (l5, l6, l7, τ)) τ 15 [(0, .ref 0), (5, .int l5), (6, .int l6), (7, .int l7)] []) (l5 : Int32) (l6 : Int32) (l7 : Int32) (σ : Ms) : VF (K12_endsWith) cX12_endsWith RX12 (F12_endsWith_b15B N k15 l5 l6 l7 σ) σ 15 [(0, .ref 0), (5, .int l5), (6, .int l6), (7, .int l7)] [] := by
  unfold F12_endsWith_b15B
  refine v_iload d12_endsWith_15 3 rfl ?_
  refine v_iconst d12_endsWith_17 ki_5 ?_
  refine v_icmp_ge (tgt := 80) d12_endsWith_18 (by decide) ?_ ?_
  · refine v_iload d12_endsWith_80 2 rfl ?_
    exact v_iret d12_endsWith_82 rfl rfl rfl
  · refine v_aload_n d12_endsWith_21 0 rfl rfl ?_
    refine v_iload d12_endsWith_22 1 rfl ?_
    refine v_callV1i d12_endsWith_24 (mc12_hottestBut N l5 σ) yv12_hottestBut mlX12_368 (Recv.obj ic_0 rfl) (by decide) (Nat.le_of_ble_eq_true rfl) fun r1 t2 => ?_
    refine v_istore (lv' := [(8, .int r1), (0, .ref 0), (5, .int l5), (6, .int l6), (7, .int l7)]) d12_endsWith_27 (by decide) rfl ?_
    refine v_iload d12_endsWith_29 0 rfl ?_
    refine v_if_ge (tgt := 37) d12_endsWith_31 (by decide) ?_ ?_
    · refine v_aload_n d12_endsWith_37 1 rfl rfl ?_
      refine v_dup d12_endsWith_38 rfl ?_
      refine v_getL d12_endsWith_39 faX12_365 ic_0 ?_
      refine v_aload_n d12_endsWith_42 1 rfl rfl ?_
      refine v_iload d12_endsWith_43 3 rfl ?_
      refine v_iload d12_endsWith_45 0 rfl ?_
      refine v_callV2i d12_endsWith_47 (mc12_gainBy l6 r1 t2) yv12_gainBy mlX12_341 (Recv.obj ic_0 rfl) (by decide) (Nat.le_of_ble_eq_true rfl) fun r3 t4 => ?_
      refine v_i2l d12_endsWith_50 ?_
      refine v_ldc2 d12_endsWith_51 klX12_307 ?_
      refine v_lmul d12_endsWith_54 ?_
      refine v_ladd d12_endsWith_55 ?_
      refine v_putL d12_endsWith_56 faX12_365 fp9_27 ic_0 ?_
      refine v_lts fun t5 => ?_
      refine v_iload d12_endsWith_59 2 rfl ?_
      refine v_iconst d12_endsWith_61 ki_1 ?_
      refine v_iload d12_endsWith_62 0 rfl ?_
      refine v_ishl d12_endsWith_64 ?_
      refine v_ior d12_endsWith_65 ?_
      refine v_lti fun x6 => ?_
      refine v_istore (lv' := [(5, .int x6), (8, .int r1), (0, .ref 0), (6, .int l6), (7, .int l7)]) d12_endsWith_66 (by decide) rfl ?_
      refine v_iconst d12_endsWith_68 ki_1 ?_
      refine v_iload d12_endsWith_69 3 rfl ?_
      refine v_isub d12_endsWith_71 ?_
      refine v_lti fun x7 => ?_
      refine v_istore (lv' := [(6, .int x7), (5, .int x6), (8, .int r1), (0, .ref 0), (7, .int l7)]) d12_endsWith_72 (by decide) rfl ?_
      refine v_sub [3, 1, 0, 4] rfl ?_
      exact v12_endsWith_b74 N k15 hk15 x6 x7 l7 t5
    · refine v_goto (tgt := 74) d12_endsWith_34 (by decide) ?_
      refine v_sub [1, 2, 3, 4] rfl ?_
      exact v12_endsWith_b74 N k15 hk15 l5 l6 l7 t2
theorem v12_endsWith_b15 (N : Nat) (l5 : Int32) (l6 : Int32) (l7 : Int32) (σ : Ms) : VF (K12_endsWith) cX12_endsWith RX12 (F12_endsWith_b15 N l5 l6 l7 σ) σ 15 [(0, .ref 0), (5, .int l5), (6, .int l6), (7, .int l7)] [] := v_fx (σo := fun x => x.2.2.2) (lo := fun x => [(0, .ref 0), (5, .int x.1), (6, .int x.2.1), (7, .int x.2.2.1)]) (fun k hk x => v12_endsWith_b15B N k (fun l5 l6 l7 τ => hk (l5, l6, l7, τ)) x.1 x.2.1 x.2.2.1 x.2.2.2) N (l5, l6, l7, σ)
set_option maxRecDepth 100000 in
theorem mc12_endsWith (N : Nat) (p0 : Int64) (p1 : Int32) (p2 : Int32) (σ : Ms) : MC enI yX12_endsWith cX12_endsWith 9 (some .int) 3 (F12_endsWith N p0 p1 p2 σ) σ [.ref 0, .long p0, .int p1, .int p2] := by
  refine MC.i (by decide +kernel) (Nat.le_of_ble_eq_true rfl) ?_
  show VF (K12_endsWith) cX12_endsWith RX12 (F12_endsWith N p0 p1 p2 σ) σ 0 [(0, .ref 0), (1, .long p0), (3, .int p1), (4, .int p2)] []
  unfold F12_endsWith
  refine v_iload_n d12_endsWith_0 2 rfl rfl ?_
  refine v_istore (lv' := [(5, .int p1), (0, .ref 0), (1, .long p0), (3, .int p1), (4, .int p2)]) d12_endsWith_1 (by decide) rfl ?_
  refine v_iload d12_endsWith_3 4 rfl ?_
  refine v_istore (lv' := [(6, .int p2), (5, .int p1), (0, .ref 0), (1, .long p0), (3, .int p1), (4, .int p2)]) d12_endsWith_5 (by decide) rfl ?_
  refine v_aload_n d12_endsWith_7 2 rfl rfl ?_
  refine v_lload_n d12_endsWith_8 3 rfl rfl ?_
  refine v_putL d12_endsWith_9 faX12_365 fp9_27 ic_0 ?_
  refine v_lts fun t8 => ?_
  refine v_iconst d12_endsWith_12 ki_0 ?_
  refine v_istore (lv' := [(7, .int (0 : Int32)), (6, .int p2), (5, .int p1), (0, .ref 0), (1, .long p0), (3, .int p1), (4, .int p2)]) d12_endsWith_13 (by decide) rfl ?_
  refine v_sub [3, 2, 1, 0] rfl ?_
  exact v12_endsWith_b15 N p1 p2 (0 : Int32) t8
theorem d12_winnerOf_0 : decode cX12_winnerOf 0 = .ok (.aload_n 0, 1) := by decide +kernel
theorem d12_winnerOf_1 : decode cX12_winnerOf 1 = .ok (.lload_n 1, 1) := by decide +kernel
theorem d12_winnerOf_2 : decode cX12_winnerOf 2 = .ok (.iload 4, 2) := by decide +kernel
theorem d12_winnerOf_4 : decode cX12_winnerOf 4 = .ok (.iload 5, 2) := by decide +kernel
theorem d12_winnerOf_6 : decode cX12_winnerOf 6 = .ok (.invokevirtual 371, 3) := by decide +kernel
theorem d12_winnerOf_9 : decode cX12_winnerOf 9 = .ok (.istore 6, 2) := by decide +kernel
theorem d12_winnerOf_11 : decode cX12_winnerOf 11 = .ok (.aload_n 0, 1) := by decide +kernel
theorem d12_winnerOf_12 : decode cX12_winnerOf 12 = .ok (.getfield 365, 3) := by decide +kernel
theorem d12_winnerOf_15 : decode cX12_winnerOf 15 = .ok (.lconst 0, 1) := by decide +kernel
theorem d12_winnerOf_16 : decode cX12_winnerOf 16 = .ok (.lcmp, 1) := by decide +kernel
theorem d12_winnerOf_17 : decode cX12_winnerOf 17 = .ok (.ifCond .eq 18, 3) := by decide +kernel
theorem d12_winnerOf_20 : decode cX12_winnerOf 20 = .ok (.aload_n 0, 1) := by decide +kernel
theorem d12_winnerOf_21 : decode cX12_winnerOf 21 = .ok (.getfield 365, 3) := by decide +kernel
theorem d12_winnerOf_24 : decode cX12_winnerOf 24 = .ok (.lconst 0, 1) := by decide +kernel
theorem d12_winnerOf_25 : decode cX12_winnerOf 25 = .ok (.lcmp, 1) := by decide +kernel
theorem d12_winnerOf_26 : decode cX12_winnerOf 26 = .ok (.ifCond .le 7, 3) := by decide +kernel
theorem d12_winnerOf_29 : decode cX12_winnerOf 29 = .ok (.iconst 0, 1) := by decide +kernel
theorem d12_winnerOf_30 : decode cX12_winnerOf 30 = .ok (.goto 4, 3) := by decide +kernel
theorem d12_winnerOf_33 : decode cX12_winnerOf 33 = .ok (.iconst 1, 1) := by decide +kernel
theorem d12_winnerOf_34 : decode cX12_winnerOf 34 = .ok (.ireturn, 1) := by decide +kernel
theorem d12_winnerOf_35 : decode cX12_winnerOf 35 = .ok (.iload_n 3, 1) := by decide +kernel
theorem d12_winnerOf_36 : decode cX12_winnerOf 36 = .ok (.ifCond .eq 8, 3) := by decide +kernel
theorem d12_winnerOf_39 : decode cX12_winnerOf 39 = .ok (.iload 6, 2) := by decide +kernel
theorem d12_winnerOf_41 : decode cX12_winnerOf 41 = .ok (.goto 7, 3) := by decide +kernel
theorem d12_winnerOf_44 : decode cX12_winnerOf 44 = .ok (.iconst 1, 1) := by decide +kernel
theorem d12_winnerOf_45 : decode cX12_winnerOf 45 = .ok (.iload 6, 2) := by decide +kernel
theorem d12_winnerOf_47 : decode cX12_winnerOf 47 = .ok (.isub, 1) := by decide +kernel
theorem d12_winnerOf_48 : decode cX12_winnerOf 48 = .ok (.ireturn, 1) := by decide +kernel
abbrev K12_winnerOf : CK Int32 := (enI, (some .int), 7, 4, none)
noncomputable def F12_winnerOf (N : Nat) (p0 : Int64) (p1 : Int32) (p2 : Int32) (p3 : Int32) (σ : Ms) : Option (Int32 × Ms) :=
  bn (F12_endsWith N p0 p2 p3 σ) (fun r1 t2 => if (lg_cmp (t2.2 0 27) (0 : Int64)) = 0 then (if p1 = 0 then (some (((1 : Int32) - r1), t2))
  else (some (r1, t2)))
  else (if (lg_cmp (t2.2 0 27) (0 : Int64)) ≤ 0 then (some ((1 : Int32), t2))
  else (some ((0 : Int32), t2))))
set_option maxRecDepth 100000 in
theorem mc12_winnerOf (N : Nat) (p0 : Int64) (p1 : Int32) (p2 : Int32) (p3 : Int32) (σ : Ms) : MC enI yX12_winnerOf cX12_winnerOf 7 (some .int) 4 (F12_winnerOf N p0 p1 p2 p3 σ) σ [.ref 0, .long p0, .int p1, .int p2, .int p3] := by
  refine MC.i (by decide +kernel) (Nat.le_of_ble_eq_true rfl) ?_
  show VF (K12_winnerOf) cX12_winnerOf RX12 (F12_winnerOf N p0 p1 p2 p3 σ) σ 0 [(0, .ref 0), (1, .long p0), (3, .int p1), (4, .int p2), (5, .int p3)] []
  unfold F12_winnerOf
  refine v_aload_n d12_winnerOf_0 0 rfl rfl ?_
  refine v_lload_n d12_winnerOf_1 1 rfl rfl ?_
  refine v_iload d12_winnerOf_2 3 rfl ?_
  refine v_iload d12_winnerOf_4 4 rfl ?_
  refine v_callV3i d12_winnerOf_6 (mc12_endsWith N p0 p2 p3 σ) yv12_endsWith mlX12_371 (Recv.obj ic_0 rfl) (by decide) (Nat.le_of_ble_eq_true rfl) fun r1 t2 => ?_
  refine v_istore (lv' := [(6, .int r1), (0, .ref 0), (1, .long p0), (3, .int p1), (4, .int p2), (5, .int p3)]) d12_winnerOf_9 (by decide) rfl ?_
  refine v_aload_n d12_winnerOf_11 1 rfl rfl ?_
  refine v_getL d12_winnerOf_12 faX12_365 ic_0 ?_
  refine v_lconst d12_winnerOf_15 kl_0 ?_
  refine v_lcmp d12_winnerOf_16 ?_
  refine v_if_eq (tgt := 35) d12_winnerOf_17 (by decide) ?_ ?_
  · refine v_iload_n d12_winnerOf_35 3 rfl rfl ?_
    refine v_if_eq (tgt := 44) d12_winnerOf_36 (by decide) ?_ ?_
    · refine v_iconst d12_winnerOf_44 ki_1 ?_
      refine v_iload d12_winnerOf_45 0 rfl ?_
      refine v_isub d12_winnerOf_47 ?_
      exact v_iret d12_winnerOf_48 rfl rfl rfl
    · refine v_iload d12_winnerOf_39 0 rfl ?_
      refine v_goto (tgt := 48) d12_winnerOf_41 (by decide) ?_
      exact v_iret d12_winnerOf_48 rfl rfl rfl
  · refine v_aload_n d12_winnerOf_20 1 rfl rfl ?_
    refine v_getL d12_winnerOf_21 faX12_365 ic_0 ?_
    refine v_lconst d12_winnerOf_24 kl_0 ?_
    refine v_lcmp d12_winnerOf_25 ?_
    refine v_if_le (tgt := 33) d12_winnerOf_26 (by decide) ?_ ?_
    · refine v_iconst d12_winnerOf_33 ki_1 ?_
      exact v_iret d12_winnerOf_34 rfl rfl rfl
    · refine v_iconst d12_winnerOf_29 ki_0 ?_
      refine v_goto (tgt := 34) d12_winnerOf_30 (by decide) ?_
      exact v_iret d12_winnerOf_34 rfl rfl rfl
theorem d12_winnerNow_0 : decode cX12_winnerNow 0 = .ok (.aload_n 0, 1) := by decide +kernel
theorem d12_winnerNow_1 : decode cX12_winnerNow 1 = .ok (.invokevirtual 324, 3) := by decide +kernel
theorem d12_winnerNow_4 : decode cX12_winnerNow 4 = .ok (.aload_n 0, 1) := by decide +kernel
theorem d12_winnerNow_5 : decode cX12_winnerNow 5 = .ok (.aload_n 0, 1) := by decide +kernel
theorem d12_winnerNow_6 : decode cX12_winnerNow 6 = .ok (.getfield 312, 3) := by decide +kernel
theorem d12_winnerNow_9 : decode cX12_winnerNow 9 = .ok (.aload_n 0, 1) := by decide +kernel
theorem d12_winnerNow_10 : decode cX12_winnerNow 10 = .ok (.getfield 315, 3) := by decide +kernel
theorem d12_winnerNow_13 : decode cX12_winnerNow 13 = .ok (.aload_n 0, 1) := by decide +kernel
theorem d12_winnerNow_14 : decode cX12_winnerNow 14 = .ok (.invokevirtual 271, 3) := by decide +kernel
theorem d12_winnerNow_17 : decode cX12_winnerNow 17 = .ok (.iload_n 1, 1) := by decide +kernel
theorem d12_winnerNow_18 : decode cX12_winnerNow 18 = .ok (.invokevirtual 375, 3) := by decide +kernel
theorem d12_winnerNow_21 : decode cX12_winnerNow 21 = .ok (.ireturn, 1) := by decide +kernel
abbrev K12_winnerNow : CK Int32 := (enI, (some .int), 2, 5, none)
noncomputable def F12_winnerNow (N : Nat) (p0 : Int32) (σ : Ms) : Option (Int32 × Ms) :=
  bn (F12_laysNow N σ) (fun r1 t2 => bn (F12_taken N t2) (fun r3 t4 => bn (F12_winnerOf N (t2.2 0 25) (t2.1 0 26) r3 p0 t4) (fun r5 t6 => some (r5, t6))))
set_option maxRecDepth 100000 in
theorem mc12_winnerNow (N : Nat) (p0 : Int32) (σ : Ms) : MC enI yX12_winnerNow cX12_winnerNow 2 (some .int) 5 (F12_winnerNow N p0 σ) σ [.ref 0, .int p0] := by
  refine MC.i (by decide +kernel) (Nat.le_of_ble_eq_true rfl) ?_
  show VF (K12_winnerNow) cX12_winnerNow RX12 (F12_winnerNow N p0 σ) σ 0 [(0, .ref 0), (1, .int p0)] []
  unfold F12_winnerNow
  refine v_aload_n d12_winnerNow_0 0 rfl rfl ?_
  refine v_callV0v d12_winnerNow_1 (mc12_laysNow N σ) yv12_laysNow mlX12_324 (Recv.obj ic_0 rfl) (by decide) (Nat.le_of_ble_eq_true rfl) fun r1 t2 => ?_
  refine v_aload_n d12_winnerNow_4 0 rfl rfl ?_
  refine v_aload_n d12_winnerNow_5 0 rfl rfl ?_
  refine v_getL d12_winnerNow_6 faX12_312 ic_0 ?_
  refine v_aload_n d12_winnerNow_9 0 rfl rfl ?_
  refine v_getI d12_winnerNow_10 faX12_315 ic_0 ?_
  refine v_aload_n d12_winnerNow_13 0 rfl rfl ?_
  refine v_callV0i d12_winnerNow_14 (mc12_taken N t2) yv12_taken mlX12_271 (Recv.obj ic_0 rfl) (by decide) (Nat.le_of_ble_eq_true rfl) fun r3 t4 => ?_
  refine v_iload_n d12_winnerNow_17 1 rfl rfl ?_
  refine v_callV4i d12_winnerNow_18 (mc12_winnerOf N (t2.2 0 25) (t2.1 0 26) r3 p0 t4) yv12_winnerOf mlX12_375 (Recv.obj ic_0 rfl) (by decide) (Nat.le_of_ble_eq_true rfl) fun r5 t6 => ?_
  exact v_iret d12_winnerNow_21 rfl rfl rfl
theorem d12_outcome_0 : decode cX12_outcome 0 = .ok (.aload_n 0, 1) := by decide +kernel
theorem d12_outcome_1 : decode cX12_outcome 1 = .ok (.iconst 0, 1) := by decide +kernel
theorem d12_outcome_2 : decode cX12_outcome 2 = .ok (.putfield 53, 3) := by decide +kernel
theorem d12_outcome_5 : decode cX12_outcome 5 = .ok (.aload_n 0, 1) := by decide +kernel
theorem d12_outcome_6 : decode cX12_outcome 6 = .ok (.iconst 0, 1) := by decide +kernel
theorem d12_outcome_7 : decode cX12_outcome 7 = .ok (.putfield 56, 3) := by decide +kernel
theorem d12_outcome_10 : decode cX12_outcome 10 = .ok (.aload_n 0, 1) := by decide +kernel
theorem d12_outcome_11 : decode cX12_outcome 11 = .ok (.iconst 0, 1) := by decide +kernel
theorem d12_outcome_12 : decode cX12_outcome 12 = .ok (.invokevirtual 379, 3) := by decide +kernel
theorem d12_outcome_15 : decode cX12_outcome 15 = .ok (.istore_n 1, 1) := by decide +kernel
theorem d12_outcome_16 : decode cX12_outcome 16 = .ok (.aload_n 0, 1) := by decide +kernel
theorem d12_outcome_17 : decode cX12_outcome 17 = .ok (.iconst 1, 1) := by decide +kernel
theorem d12_outcome_18 : decode cX12_outcome 18 = .ok (.invokevirtual 379, 3) := by decide +kernel
theorem d12_outcome_21 : decode cX12_outcome 21 = .ok (.istore_n 2, 1) := by decide +kernel
theorem d12_outcome_22 : decode cX12_outcome 22 = .ok (.iload_n 1, 1) := by decide +kernel
theorem d12_outcome_23 : decode cX12_outcome 23 = .ok (.iload_n 2, 1) := by decide +kernel
theorem d12_outcome_24 : decode cX12_outcome 24 = .ok (.if_icmp .ne 5, 3) := by decide +kernel
theorem d12_outcome_27 : decode cX12_outcome 27 = .ok (.iload_n 1, 1) := by decide +kernel
theorem d12_outcome_28 : decode cX12_outcome 28 = .ok (.ireturn, 1) := by decide +kernel
theorem d12_outcome_29 : decode cX12_outcome 29 = .ok (.iload_n 1, 1) := by decide +kernel
theorem d12_outcome_30 : decode cX12_outcome 30 = .ok (.ifCond .ne 7, 3) := by decide +kernel
theorem d12_outcome_33 : decode cX12_outcome 33 = .ok (.iconst 2, 1) := by decide +kernel
theorem d12_outcome_34 : decode cX12_outcome 34 = .ok (.goto 4, 3) := by decide +kernel
theorem d12_outcome_37 : decode cX12_outcome 37 = .ok (.iconst 3, 1) := by decide +kernel
theorem d12_outcome_38 : decode cX12_outcome 38 = .ok (.ireturn, 1) := by decide +kernel
abbrev K12_outcome : CK Int32 := (enI, (some .int), 3, 6, none)
noncomputable def F12_outcome (N : Nat) (σ : Ms) : Option (Int32 × Ms) :=
  lt (sI σ 0 1 (0 : Int32)) (fun t1 => lt (sI t1 0 0 (0 : Int32)) (fun t2 => bn (F12_winnerNow N (0 : Int32) t2) (fun r3 t4 => bn (F12_winnerNow N (1 : Int32) t4) (fun r5 t6 => if r3 ≠ r5 then (if r3 ≠ 0 then (some ((3 : Int32), t6))
  else (some ((2 : Int32), t6)))
  else (some (r3, t6))))))
set_option maxRecDepth 100000 in
theorem mc12_outcome (N : Nat) (σ : Ms) : MC enI yX12_outcome cX12_outcome 3 (some .int) 6 (F12_outcome N σ) σ [.ref 0] := by
  refine MC.i (by decide +kernel) (Nat.le_of_ble_eq_true rfl) ?_
  show VF (K12_outcome) cX12_outcome RX12 (F12_outcome N σ) σ 0 [(0, .ref 0)] []
  unfold F12_outcome
  refine v_aload_n d12_outcome_0 0 rfl rfl ?_
  refine v_iconst d12_outcome_1 ki_0 ?_
  refine v_putI d12_outcome_2 faX12_53 fp9_1 ic_0 ?_
  refine v_lts fun t1 => ?_
  refine v_aload_n d12_outcome_5 0 rfl rfl ?_
  refine v_iconst d12_outcome_6 ki_0 ?_
  refine v_putI d12_outcome_7 faX12_56 fp9_0 ic_0 ?_
  refine v_lts fun t2 => ?_
  refine v_aload_n d12_outcome_10 0 rfl rfl ?_
  refine v_iconst d12_outcome_11 ki_0 ?_
  refine v_callV1i d12_outcome_12 (mc12_winnerNow N (0 : Int32) t2) yv12_winnerNow mlX12_379 (Recv.obj ic_0 rfl) (by decide) (Nat.le_of_ble_eq_true rfl) fun r3 t4 => ?_
  refine v_istore_n (lv' := [(1, .int r3), (0, .ref 0)]) d12_outcome_15 rfl (by decide) rfl ?_
  refine v_aload_n d12_outcome_16 1 rfl rfl ?_
  refine v_iconst d12_outcome_17 ki_1 ?_
  refine v_callV1i d12_outcome_18 (mc12_winnerNow N (1 : Int32) t4) yv12_winnerNow mlX12_379 (Recv.obj ic_0 rfl) (by decide) (Nat.le_of_ble_eq_true rfl) fun r5 t6 => ?_
  refine v_istore_n (lv' := [(2, .int r5), (1, .int r3), (0, .ref 0)]) d12_outcome_21 rfl (by decide) rfl ?_
  refine v_iload_n d12_outcome_22 1 rfl rfl ?_
  refine v_iload_n d12_outcome_23 0 rfl rfl ?_
  refine v_icmp_ne (tgt := 29) d12_outcome_24 (by decide) ?_ ?_
  · refine v_iload_n d12_outcome_29 1 rfl rfl ?_
    refine v_if_ne (tgt := 37) d12_outcome_30 (by decide) ?_ ?_
    · refine v_iconst d12_outcome_37 ki_3 ?_
      exact v_iret d12_outcome_38 rfl rfl rfl
    · refine v_iconst d12_outcome_33 ki_2 ?_
      refine v_goto (tgt := 38) d12_outcome_34 (by decide) ?_
      exact v_iret d12_outcome_38 rfl rfl rfl
  · refine v_iload_n d12_outcome_27 1 rfl rfl ?_
    exact v_iret d12_outcome_28 rfl rfl rfl
theorem d12_winner_0 : decode cX12_winner 0 = .ok (.aload_n 0, 1) := by decide +kernel
theorem d12_winner_1 : decode cX12_winner 1 = .ok (.iconst 0, 1) := by decide +kernel
theorem d12_winner_2 : decode cX12_winner 2 = .ok (.putfield 53, 3) := by decide +kernel
theorem d12_winner_5 : decode cX12_winner 5 = .ok (.aload_n 0, 1) := by decide +kernel
theorem d12_winner_6 : decode cX12_winner 6 = .ok (.iconst 0, 1) := by decide +kernel
theorem d12_winner_7 : decode cX12_winner 7 = .ok (.putfield 56, 3) := by decide +kernel
theorem d12_winner_10 : decode cX12_winner 10 = .ok (.iload_n 1, 1) := by decide +kernel
theorem d12_winner_11 : decode cX12_winner 11 = .ok (.invokestatic 297, 3) := by decide +kernel
theorem d12_winner_14 : decode cX12_winner 14 = .ok (.ifCond .eq 11, 3) := by decide +kernel
theorem d12_winner_17 : decode cX12_winner 17 = .ok (.aload_n 0, 1) := by decide +kernel
theorem d12_winner_18 : decode cX12_winner 18 = .ok (.iload_n 1, 1) := by decide +kernel
theorem d12_winner_19 : decode cX12_winner 19 = .ok (.invokevirtual 379, 3) := by decide +kernel
theorem d12_winner_22 : decode cX12_winner 22 = .ok (.goto 8, 3) := by decide +kernel
theorem d12_winner_25 : decode cX12_winner 25 = .ok (.aload_n 0, 1) := by decide +kernel
theorem d12_winner_26 : decode cX12_winner 26 = .ok (.iconst 2, 1) := by decide +kernel
theorem d12_winner_27 : decode cX12_winner 27 = .ok (.invokevirtual 265, 3) := by decide +kernel
theorem d12_winner_30 : decode cX12_winner 30 = .ok (.ireturn, 1) := by decide +kernel
abbrev K12_winner : CK Int32 := (enI, (some .int), 2, 6, none)
noncomputable def F12_winner (N : Nat) (p0 : Int32) (σ : Ms) : Option (Int32 × Ms) :=
  lt (sI σ 0 1 (0 : Int32)) (fun t1 => lt (sI t1 0 0 (0 : Int32)) (fun t2 => bn (F12_isSideAt p0 t2) (fun r3 t4 => if r3 = 0 then (bn (F12_refuse (2 : Int32) t4) (fun r5 t6 => some (r5, t6)))
  else (bn (F12_winnerNow N p0 t4) (fun r7 t8 => some (r7, t8))))))
set_option maxRecDepth 100000 in
theorem mc12_winner (N : Nat) (p0 : Int32) (σ : Ms) : MC enI yX12_winner cX12_winner 2 (some .int) 6 (F12_winner N p0 σ) σ [.ref 0, .int p0] := by
  refine MC.i (by decide +kernel) (Nat.le_of_ble_eq_true rfl) ?_
  show VF (K12_winner) cX12_winner RX12 (F12_winner N p0 σ) σ 0 [(0, .ref 0), (1, .int p0)] []
  unfold F12_winner
  refine v_aload_n d12_winner_0 0 rfl rfl ?_
  refine v_iconst d12_winner_1 ki_0 ?_
  refine v_putI d12_winner_2 faX12_53 fp9_1 ic_0 ?_
  refine v_lts fun t1 => ?_
  refine v_aload_n d12_winner_5 0 rfl rfl ?_
  refine v_iconst d12_winner_6 ki_0 ?_
  refine v_putI d12_winner_7 faX12_56 fp9_0 ic_0 ?_
  refine v_lts fun t2 => ?_
  refine v_iload_n d12_winner_10 1 rfl rfl ?_
  refine v_callS1i d12_winner_11 (mc12_isSideAt p0 t2) ys12_isSideAt mlX12_297 (by decide) (Nat.le_of_ble_eq_true rfl) fun r3 t4 => ?_
  refine v_if_eq (tgt := 25) d12_winner_14 (by decide) ?_ ?_
  · refine v_aload_n d12_winner_25 0 rfl rfl ?_
    refine v_iconst d12_winner_26 ki_2 ?_
    refine v_callV1i d12_winner_27 (mc12_refuse (2 : Int32) t4) yv12_refuse mlX12_265 (Recv.obj ic_0 rfl) (by decide) (Nat.le_of_ble_eq_true rfl) fun r5 t6 => ?_
    exact v_iret d12_winner_30 rfl rfl rfl
  · refine v_aload_n d12_winner_17 0 rfl rfl ?_
    refine v_iload_n d12_winner_18 1 rfl rfl ?_
    refine v_callV1i d12_winner_19 (mc12_winnerNow N p0 t4) yv12_winnerNow mlX12_379 (Recv.obj ic_0 rfl) (by decide) (Nat.le_of_ble_eq_true rfl) fun r7 t8 => ?_
    refine v_goto (tgt := 30) d12_winner_22 (by decide) ?_
    exact v_iret d12_winner_30 rfl rfl rfl
theorem d12_counts_0 : decode cX12_counts 0 = .ok (.aload_n 0, 1) := by decide +kernel
theorem d12_counts_1 : decode cX12_counts 1 = .ok (.dup, 1) := by decide +kernel
theorem d12_counts_2 : decode cX12_counts 2 = .ok (.getfield 382, 3) := by decide +kernel
theorem d12_counts_5 : decode cX12_counts 5 = .ok (.iconst 1, 1) := by decide +kernel
theorem d12_counts_6 : decode cX12_counts 6 = .ok (.iadd, 1) := by decide +kernel
theorem d12_counts_7 : decode cX12_counts 7 = .ok (.putfield 382, 3) := by decide +kernel
theorem d12_counts_10 : decode cX12_counts 10 = .ok (.aload_n 0, 1) := by decide +kernel
theorem d12_counts_11 : decode cX12_counts 11 = .ok (.lload 5, 2) := by decide +kernel
theorem d12_counts_13 : decode cX12_counts 13 = .ok (.iload 7, 2) := by decide +kernel
theorem d12_counts_15 : decode cX12_counts 15 = .ok (.iload 8, 2) := by decide +kernel
theorem d12_counts_17 : decode cX12_counts 17 = .ok (.iconst 1, 1) := by decide +kernel
theorem d12_counts_18 : decode cX12_counts 18 = .ok (.iload_n 1, 1) := by decide +kernel
theorem d12_counts_19 : decode cX12_counts 19 = .ok (.isub, 1) := by decide +kernel
theorem d12_counts_20 : decode cX12_counts 20 = .ok (.invokevirtual 375, 3) := by decide +kernel
theorem d12_counts_23 : decode cX12_counts 23 = .ok (.iload_n 1, 1) := by decide +kernel
theorem d12_counts_24 : decode cX12_counts 24 = .ok (.if_icmp .eq 4, 3) := by decide +kernel
theorem d12_counts_27 : decode cX12_counts 27 = .ok (.return_, 1) := by decide +kernel
theorem d12_counts_28 : decode cX12_counts 28 = .ok (.aload_n 0, 1) := by decide +kernel
theorem d12_counts_29 : decode cX12_counts 29 = .ok (.getfield 385, 3) := by decide +kernel
theorem d12_counts_32 : decode cX12_counts 32 = .ok (.ifCond .ne 19, 3) := by decide +kernel
theorem d12_counts_35 : decode cX12_counts 35 = .ok (.aload_n 0, 1) := by decide +kernel
theorem d12_counts_36 : decode cX12_counts 36 = .ok (.iload_n 2, 1) := by decide +kernel
theorem d12_counts_37 : decode cX12_counts 37 = .ok (.putfield 388, 3) := by decide +kernel
theorem d12_counts_40 : decode cX12_counts 40 = .ok (.aload_n 0, 1) := by decide +kernel
theorem d12_counts_41 : decode cX12_counts 41 = .ok (.iload_n 3, 1) := by decide +kernel
theorem d12_counts_42 : decode cX12_counts 42 = .ok (.putfield 391, 3) := by decide +kernel
theorem d12_counts_45 : decode cX12_counts 45 = .ok (.aload_n 0, 1) := by decide +kernel
theorem d12_counts_46 : decode cX12_counts 46 = .ok (.iload 4, 2) := by decide +kernel
theorem d12_counts_48 : decode cX12_counts 48 = .ok (.putfield 394, 3) := by decide +kernel
theorem d12_counts_51 : decode cX12_counts 51 = .ok (.aload_n 0, 1) := by decide +kernel
theorem d12_counts_52 : decode cX12_counts 52 = .ok (.dup, 1) := by decide +kernel
theorem d12_counts_53 : decode cX12_counts 53 = .ok (.getfield 385, 3) := by decide +kernel
theorem d12_counts_56 : decode cX12_counts 56 = .ok (.iconst 1, 1) := by decide +kernel
theorem d12_counts_57 : decode cX12_counts 57 = .ok (.iadd, 1) := by decide +kernel
theorem d12_counts_58 : decode cX12_counts 58 = .ok (.putfield 385, 3) := by decide +kernel
theorem d12_counts_61 : decode cX12_counts 61 = .ok (.return_, 1) := by decide +kernel
abbrev K12_counts : CK Unit := (enV, none, 9, 5, none)
noncomputable def F12_counts_b51 (N : Nat) (σ : Ms) : Option (Unit × Ms) :=
  lt (sI σ 0 29 ((σ.1 0 29) + (1 : Int32))) (fun t1 => some ((), t1))
noncomputable def F12_counts (N : Nat) (p0 : Int32) (p1 : Int32) (p2 : Int32) (p3 : Int32) (p4 : Int64) (p5 : Int32) (p6 : Int32) (σ : Ms) : Option (Unit × Ms) :=
  lt (sI σ 0 28 ((σ.1 0 28) + (1 : Int32))) (fun t2 => bn (F12_winnerOf N p4 p5 p6 ((1 : Int32) - p0) t2) (fun r3 t4 => if r3 = p0 then (if (t4.1 0 29) ≠ 0 then (F12_counts_b51 N t4)
  else (lt (sI t4 0 30 p1) (fun t5 => lt (sI t5 0 31 p2) (fun t6 => lt (sI t6 0 32 p3) (fun t7 => F12_counts_b51 N t7)))))
  else (some ((), t4))))
set_option maxRecDepth 100000 in
theorem v12_counts_b51 (N : Nat) (σ : Ms) : VF (K12_counts) cX12_counts RX12 (F12_counts_b51 N σ) σ 51 [(0, .ref 0)] [] := by
  unfold F12_counts_b51
  refine v_aload_n d12_counts_51 0 rfl rfl ?_
  refine v_dup d12_counts_52 rfl ?_
  refine v_getI d12_counts_53 faX12_385 ic_0 ?_
  refine v_iconst d12_counts_56 ki_1 ?_
  refine v_iadd d12_counts_57 ?_
  refine v_putI d12_counts_58 faX12_385 fp9_29 ic_0 ?_
  refine v_lts fun t1 => ?_
  exact v_vret d12_counts_61 rfl
set_option maxRecDepth 100000 in
theorem mc12_counts (N : Nat) (p0 : Int32) (p1 : Int32) (p2 : Int32) (p3 : Int32) (p4 : Int64) (p5 : Int32) (p6 : Int32) (σ : Ms) : MC enV yX12_counts cX12_counts 9 none 5 (F12_counts N p0 p1 p2 p3 p4 p5 p6 σ) σ [.ref 0, .int p0, .int p1, .int p2, .int p3, .long p4, .int p5, .int p6] := by
  refine MC.v (by decide +kernel) (Nat.le_of_ble_eq_true rfl) ?_
  show VF (K12_counts) cX12_counts RX12 (F12_counts N p0 p1 p2 p3 p4 p5 p6 σ) σ 0 [(0, .ref 0), (1, .int p0), (2, .int p1), (3, .int p2), (4, .int p3), (5, .long p4), (7, .int p5), (8, .int p6)] []
  unfold F12_counts
  refine v_aload_n d12_counts_0 0 rfl rfl ?_
  refine v_dup d12_counts_1 rfl ?_
  refine v_getI d12_counts_2 faX12_382 ic_0 ?_
  refine v_iconst d12_counts_5 ki_1 ?_
  refine v_iadd d12_counts_6 ?_
  refine v_putI d12_counts_7 faX12_382 fp9_28 ic_0 ?_
  refine v_lts fun t2 => ?_
  refine v_aload_n d12_counts_10 0 rfl rfl ?_
  refine v_lload d12_counts_11 5 rfl ?_
  refine v_iload d12_counts_13 6 rfl ?_
  refine v_iload d12_counts_15 7 rfl ?_
  refine v_iconst d12_counts_17 ki_1 ?_
  refine v_iload_n d12_counts_18 1 rfl rfl ?_
  refine v_isub d12_counts_19 ?_
  refine v_callV4i d12_counts_20 (mc12_winnerOf N p4 p5 p6 ((1 : Int32) - p0) t2) yv12_winnerOf mlX12_375 (Recv.obj ic_0 rfl) (by decide) (Nat.le_of_ble_eq_true rfl) fun r3 t4 => ?_
  refine v_iload_n d12_counts_23 1 rfl rfl ?_
  refine v_icmp_eq (tgt := 28) d12_counts_24 (by decide) ?_ ?_
  · refine v_aload_n d12_counts_28 0 rfl rfl ?_
    refine v_getI d12_counts_29 faX12_385 ic_0 ?_
    refine v_if_ne (tgt := 51) d12_counts_32 (by decide) ?_ ?_
    · refine v_sub [0] rfl ?_
      exact v12_counts_b51 N t4
    · refine v_aload_n d12_counts_35 0 rfl rfl ?_
      refine v_iload_n d12_counts_36 2 rfl rfl ?_
      refine v_putI d12_counts_37 faX12_388 fp9_30 ic_0 ?_
      refine v_lts fun t5 => ?_
      refine v_aload_n d12_counts_40 0 rfl rfl ?_
      refine v_iload_n d12_counts_41 3 rfl rfl ?_
      refine v_putI d12_counts_42 faX12_391 fp9_31 ic_0 ?_
      refine v_lts fun t6 => ?_
      refine v_aload_n d12_counts_45 0 rfl rfl ?_
      refine v_iload d12_counts_46 4 rfl ?_
      refine v_putI d12_counts_48 faX12_394 fp9_32 ic_0 ?_
      refine v_lts fun t7 => ?_
      refine v_sub [0] rfl ?_
      exact v12_counts_b51 N t7
  · exact v_vret d12_counts_27 rfl
theorem d12_laysMoves_0 : decode cX12_laysMoves 0 = .ok (.aload_n 0, 1) := by decide +kernel
theorem d12_laysMoves_1 : decode cX12_laysMoves 1 = .ok (.iconst 0, 1) := by decide +kernel
theorem d12_laysMoves_2 : decode cX12_laysMoves 2 = .ok (.putfield 382, 3) := by decide +kernel
theorem d12_laysMoves_5 : decode cX12_laysMoves 5 = .ok (.aload_n 0, 1) := by decide +kernel
theorem d12_laysMoves_6 : decode cX12_laysMoves 6 = .ok (.iconst 0, 1) := by decide +kernel
theorem d12_laysMoves_7 : decode cX12_laysMoves 7 = .ok (.putfield 385, 3) := by decide +kernel
theorem d12_laysMoves_10 : decode cX12_laysMoves 10 = .ok (.iconst 0, 1) := by decide +kernel
theorem d12_laysMoves_11 : decode cX12_laysMoves 11 = .ok (.istore_n 2, 1) := by decide +kernel
theorem d12_laysMoves_12 : decode cX12_laysMoves 12 = .ok (.iload_n 2, 1) := by decide +kernel
theorem d12_laysMoves_13 : decode cX12_laysMoves 13 = .ok (.aload_n 0, 1) := by decide +kernel
theorem d12_laysMoves_14 : decode cX12_laysMoves 14 = .ok (.getfield 35, 3) := by decide +kernel
theorem d12_laysMoves_17 : decode cX12_laysMoves 17 = .ok (.iconst 0, 1) := by decide +kernel
theorem d12_laysMoves_18 : decode cX12_laysMoves 18 = .ok (.iaload, 1) := by decide +kernel
theorem d12_laysMoves_19 : decode cX12_laysMoves 19 = .ok (.if_icmp .ge 70, 3) := by decide +kernel
theorem d12_laysMoves_22 : decode cX12_laysMoves 22 = .ok (.aload_n 0, 1) := by decide +kernel
theorem d12_laysMoves_23 : decode cX12_laysMoves 23 = .ok (.getfield 35, 3) := by decide +kernel
theorem d12_laysMoves_26 : decode cX12_laysMoves 26 = .ok (.bipush 45, 2) := by decide +kernel
theorem d12_laysMoves_28 : decode cX12_laysMoves 28 = .ok (.iload_n 2, 1) := by decide +kernel
theorem d12_laysMoves_29 : decode cX12_laysMoves 29 = .ok (.iadd, 1) := by decide +kernel
theorem d12_laysMoves_30 : decode cX12_laysMoves 30 = .ok (.iaload, 1) := by decide +kernel
theorem d12_laysMoves_31 : decode cX12_laysMoves 31 = .ok (.ifCond .eq 52, 3) := by decide +kernel
theorem d12_laysMoves_34 : decode cX12_laysMoves 34 = .ok (.aload_n 0, 1) := by decide +kernel
theorem d12_laysMoves_35 : decode cX12_laysMoves 35 = .ok (.iload_n 1, 1) := by decide +kernel
theorem d12_laysMoves_36 : decode cX12_laysMoves 36 = .ok (.iload_n 2, 1) := by decide +kernel
theorem d12_laysMoves_37 : decode cX12_laysMoves 37 = .ok (.invokevirtual 335, 3) := by decide +kernel
theorem d12_laysMoves_40 : decode cX12_laysMoves 40 = .ok (.ifCond .ne 6, 3) := by decide +kernel
theorem d12_laysMoves_43 : decode cX12_laysMoves 43 = .ok (.goto 40, 3) := by decide +kernel
theorem d12_laysMoves_46 : decode cX12_laysMoves 46 = .ok (.aload_n 0, 1) := by decide +kernel
theorem d12_laysMoves_47 : decode cX12_laysMoves 47 = .ok (.aload_n 0, 1) := by decide +kernel
theorem d12_laysMoves_48 : decode cX12_laysMoves 48 = .ok (.aload_n 0, 1) := by decide +kernel
theorem d12_laysMoves_49 : decode cX12_laysMoves 49 = .ok (.invokevirtual 268, 3) := by decide +kernel
theorem d12_laysMoves_52 : decode cX12_laysMoves 52 = .ok (.iconst 1, 1) := by decide +kernel
theorem d12_laysMoves_53 : decode cX12_laysMoves 53 = .ok (.iload_n 2, 1) := by decide +kernel
theorem d12_laysMoves_54 : decode cX12_laysMoves 54 = .ok (.ishl, 1) := by decide +kernel
theorem d12_laysMoves_55 : decode cX12_laysMoves 55 = .ok (.invokevirtual 274, 3) := by decide +kernel
theorem d12_laysMoves_58 : decode cX12_laysMoves 58 = .ok (.iconst 0, 1) := by decide +kernel
theorem d12_laysMoves_59 : decode cX12_laysMoves 59 = .ok (.iconst 0, 1) := by decide +kernel
theorem d12_laysMoves_60 : decode cX12_laysMoves 60 = .ok (.invokevirtual 321, 3) := by decide +kernel
theorem d12_laysMoves_63 : decode cX12_laysMoves 63 = .ok (.aload_n 0, 1) := by decide +kernel
theorem d12_laysMoves_64 : decode cX12_laysMoves 64 = .ok (.iload_n 1, 1) := by decide +kernel
theorem d12_laysMoves_65 : decode cX12_laysMoves 65 = .ok (.iconst 0, 1) := by decide +kernel
theorem d12_laysMoves_66 : decode cX12_laysMoves 66 = .ok (.iload_n 2, 1) := by decide +kernel
theorem d12_laysMoves_67 : decode cX12_laysMoves 67 = .ok (.iconst 0, 1) := by decide +kernel
theorem d12_laysMoves_68 : decode cX12_laysMoves 68 = .ok (.aload_n 0, 1) := by decide +kernel
theorem d12_laysMoves_69 : decode cX12_laysMoves 69 = .ok (.getfield 312, 3) := by decide +kernel
theorem d12_laysMoves_72 : decode cX12_laysMoves 72 = .ok (.aload_n 0, 1) := by decide +kernel
theorem d12_laysMoves_73 : decode cX12_laysMoves 73 = .ok (.getfield 315, 3) := by decide +kernel
theorem d12_laysMoves_76 : decode cX12_laysMoves 76 = .ok (.aload_n 0, 1) := by decide +kernel
theorem d12_laysMoves_77 : decode cX12_laysMoves 77 = .ok (.invokevirtual 271, 3) := by decide +kernel
theorem d12_laysMoves_80 : decode cX12_laysMoves 80 = .ok (.invokevirtual 397, 3) := by decide +kernel
theorem d12_laysMoves_83 : decode cX12_laysMoves 83 = .ok (.iinc 2 1, 3) := by decide +kernel
theorem d12_laysMoves_86 : decode cX12_laysMoves 86 = .ok (.goto (-74), 3) := by decide +kernel
theorem d12_laysMoves_89 : decode cX12_laysMoves 89 = .ok (.aload_n 0, 1) := by decide +kernel
theorem d12_laysMoves_90 : decode cX12_laysMoves 90 = .ok (.invokevirtual 324, 3) := by decide +kernel
theorem d12_laysMoves_93 : decode cX12_laysMoves 93 = .ok (.aload_n 0, 1) := by decide +kernel
theorem d12_laysMoves_94 : decode cX12_laysMoves 94 = .ok (.getfield 312, 3) := by decide +kernel
theorem d12_laysMoves_97 : decode cX12_laysMoves 97 = .ok (.lstore_n 2, 1) := by decide +kernel
theorem d12_laysMoves_98 : decode cX12_laysMoves 98 = .ok (.aload_n 0, 1) := by decide +kernel
theorem d12_laysMoves_99 : decode cX12_laysMoves 99 = .ok (.getfield 315, 3) := by decide +kernel
theorem d12_laysMoves_102 : decode cX12_laysMoves 102 = .ok (.istore 4, 2) := by decide +kernel
theorem d12_laysMoves_104 : decode cX12_laysMoves 104 = .ok (.iconst 0, 1) := by decide +kernel
theorem d12_laysMoves_105 : decode cX12_laysMoves 105 = .ok (.istore 5, 2) := by decide +kernel
theorem d12_laysMoves_107 : decode cX12_laysMoves 107 = .ok (.iload 5, 2) := by decide +kernel
theorem d12_laysMoves_109 : decode cX12_laysMoves 109 = .ok (.aload_n 0, 1) := by decide +kernel
theorem d12_laysMoves_110 : decode cX12_laysMoves 110 = .ok (.getfield 35, 3) := by decide +kernel
theorem d12_laysMoves_113 : decode cX12_laysMoves 113 = .ok (.iconst 2, 1) := by decide +kernel
theorem d12_laysMoves_114 : decode cX12_laysMoves 114 = .ok (.iaload, 1) := by decide +kernel
theorem d12_laysMoves_115 : decode cX12_laysMoves 115 = .ok (.if_icmp .ge 56, 3) := by decide +kernel
theorem d12_laysMoves_118 : decode cX12_laysMoves 118 = .ok (.aload_n 0, 1) := by decide +kernel
theorem d12_laysMoves_119 : decode cX12_laysMoves 119 = .ok (.getfield 35, 3) := by decide +kernel
theorem d12_laysMoves_122 : decode cX12_laysMoves 122 = .ok (.bipush 79, 2) := by decide +kernel
theorem d12_laysMoves_124 : decode cX12_laysMoves 124 = .ok (.iload 5, 2) := by decide +kernel
theorem d12_laysMoves_126 : decode cX12_laysMoves 126 = .ok (.iadd, 1) := by decide +kernel
theorem d12_laysMoves_127 : decode cX12_laysMoves 127 = .ok (.iaload, 1) := by decide +kernel
theorem d12_laysMoves_128 : decode cX12_laysMoves 128 = .ok (.ifCond .ne 37, 3) := by decide +kernel
theorem d12_laysMoves_131 : decode cX12_laysMoves 131 = .ok (.aload_n 0, 1) := by decide +kernel
theorem d12_laysMoves_132 : decode cX12_laysMoves 132 = .ok (.iload_n 1, 1) := by decide +kernel
theorem d12_laysMoves_133 : decode cX12_laysMoves 133 = .ok (.iconst 1, 1) := by decide +kernel
theorem d12_laysMoves_134 : decode cX12_laysMoves 134 = .ok (.iload 5, 2) := by decide +kernel
theorem d12_laysMoves_136 : decode cX12_laysMoves 136 = .ok (.iconst 0, 1) := by decide +kernel
theorem d12_laysMoves_137 : decode cX12_laysMoves 137 = .ok (.lload_n 2, 1) := by decide +kernel
theorem d12_laysMoves_138 : decode cX12_laysMoves 138 = .ok (.aload_n 0, 1) := by decide +kernel
theorem d12_laysMoves_139 : decode cX12_laysMoves 139 = .ok (.iload_n 1, 1) := by decide +kernel
theorem d12_laysMoves_140 : decode cX12_laysMoves 140 = .ok (.iload 5, 2) := by decide +kernel
theorem d12_laysMoves_142 : decode cX12_laysMoves 142 = .ok (.invokevirtual 341, 3) := by decide +kernel
theorem d12_laysMoves_145 : decode cX12_laysMoves 145 = .ok (.i2l, 1) := by decide +kernel
theorem d12_laysMoves_146 : decode cX12_laysMoves 146 = .ok (.ldc2_w 307, 3) := by decide +kernel
theorem d12_laysMoves_149 : decode cX12_laysMoves 149 = .ok (.lmul, 1) := by decide +kernel
theorem d12_laysMoves_150 : decode cX12_laysMoves 150 = .ok (.ladd, 1) := by decide +kernel
theorem d12_laysMoves_151 : decode cX12_laysMoves 151 = .ok (.iload 4, 2) := by decide +kernel
theorem d12_laysMoves_153 : decode cX12_laysMoves 153 = .ok (.aload_n 0, 1) := by decide +kernel
theorem d12_laysMoves_154 : decode cX12_laysMoves 154 = .ok (.invokevirtual 271, 3) := by decide +kernel
theorem d12_laysMoves_157 : decode cX12_laysMoves 157 = .ok (.iconst 1, 1) := by decide +kernel
theorem d12_laysMoves_158 : decode cX12_laysMoves 158 = .ok (.iload 5, 2) := by decide +kernel
theorem d12_laysMoves_160 : decode cX12_laysMoves 160 = .ok (.ishl, 1) := by decide +kernel
theorem d12_laysMoves_161 : decode cX12_laysMoves 161 = .ok (.ior, 1) := by decide +kernel
theorem d12_laysMoves_162 : decode cX12_laysMoves 162 = .ok (.invokevirtual 397, 3) := by decide +kernel
theorem d12_laysMoves_165 : decode cX12_laysMoves 165 = .ok (.iinc 5 1, 3) := by decide +kernel
theorem d12_laysMoves_168 : decode cX12_laysMoves 168 = .ok (.goto (-61), 3) := by decide +kernel
theorem d12_laysMoves_171 : decode cX12_laysMoves 171 = .ok (.iconst 0, 1) := by decide +kernel
theorem d12_laysMoves_172 : decode cX12_laysMoves 172 = .ok (.istore 5, 2) := by decide +kernel
theorem d12_laysMoves_174 : decode cX12_laysMoves 174 = .ok (.iload 5, 2) := by decide +kernel
theorem d12_laysMoves_176 : decode cX12_laysMoves 176 = .ok (.aload_n 0, 1) := by decide +kernel
theorem d12_laysMoves_177 : decode cX12_laysMoves 177 = .ok (.getfield 35, 3) := by decide +kernel
theorem d12_laysMoves_180 : decode cX12_laysMoves 180 = .ok (.iconst 1, 1) := by decide +kernel
theorem d12_laysMoves_181 : decode cX12_laysMoves 181 = .ok (.iaload, 1) := by decide +kernel
theorem d12_laysMoves_182 : decode cX12_laysMoves 182 = .ok (.if_icmp .ge 64, 3) := by decide +kernel
theorem d12_laysMoves_185 : decode cX12_laysMoves 185 = .ok (.iconst 0, 1) := by decide +kernel
theorem d12_laysMoves_186 : decode cX12_laysMoves 186 = .ok (.istore 6, 2) := by decide +kernel
theorem d12_laysMoves_188 : decode cX12_laysMoves 188 = .ok (.iload 6, 2) := by decide +kernel
theorem d12_laysMoves_190 : decode cX12_laysMoves 190 = .ok (.aload_n 0, 1) := by decide +kernel
theorem d12_laysMoves_191 : decode cX12_laysMoves 191 = .ok (.getfield 35, 3) := by decide +kernel
theorem d12_laysMoves_194 : decode cX12_laysMoves 194 = .ok (.bipush 65, 2) := by decide +kernel
theorem d12_laysMoves_196 : decode cX12_laysMoves 196 = .ok (.iload 5, 2) := by decide +kernel
theorem d12_laysMoves_198 : decode cX12_laysMoves 198 = .ok (.iadd, 1) := by decide +kernel
theorem d12_laysMoves_199 : decode cX12_laysMoves 199 = .ok (.iaload, 1) := by decide +kernel
theorem d12_laysMoves_200 : decode cX12_laysMoves 200 = .ok (.if_icmp .ge 40, 3) := by decide +kernel
theorem d12_laysMoves_203 : decode cX12_laysMoves 203 = .ok (.aload_n 0, 1) := by decide +kernel
theorem d12_laysMoves_204 : decode cX12_laysMoves 204 = .ok (.iload_n 1, 1) := by decide +kernel
theorem d12_laysMoves_205 : decode cX12_laysMoves 205 = .ok (.iconst 2, 1) := by decide +kernel
theorem d12_laysMoves_206 : decode cX12_laysMoves 206 = .ok (.iload 5, 2) := by decide +kernel
theorem d12_laysMoves_208 : decode cX12_laysMoves 208 = .ok (.iload 6, 2) := by decide +kernel
theorem d12_laysMoves_210 : decode cX12_laysMoves 210 = .ok (.lload_n 2, 1) := by decide +kernel
theorem d12_laysMoves_211 : decode cX12_laysMoves 211 = .ok (.iload 4, 2) := by decide +kernel
theorem d12_laysMoves_213 : decode cX12_laysMoves 213 = .ok (.aload_n 0, 1) := by decide +kernel
theorem d12_laysMoves_214 : decode cX12_laysMoves 214 = .ok (.getfield 35, 3) := by decide +kernel
theorem d12_laysMoves_217 : decode cX12_laysMoves 217 = .ok (.bipush 65, 2) := by decide +kernel
theorem d12_laysMoves_219 : decode cX12_laysMoves 219 = .ok (.iload 5, 2) := by decide +kernel
theorem d12_laysMoves_221 : decode cX12_laysMoves 221 = .ok (.iadd, 1) := by decide +kernel
theorem d12_laysMoves_222 : decode cX12_laysMoves 222 = .ok (.iaload, 1) := by decide +kernel
theorem d12_laysMoves_223 : decode cX12_laysMoves 223 = .ok (.ixor, 1) := by decide +kernel
theorem d12_laysMoves_224 : decode cX12_laysMoves 224 = .ok (.iload 6, 2) := by decide +kernel
theorem d12_laysMoves_226 : decode cX12_laysMoves 226 = .ok (.ixor, 1) := by decide +kernel
theorem d12_laysMoves_227 : decode cX12_laysMoves 227 = .ok (.aload_n 0, 1) := by decide +kernel
theorem d12_laysMoves_228 : decode cX12_laysMoves 228 = .ok (.invokevirtual 271, 3) := by decide +kernel
theorem d12_laysMoves_231 : decode cX12_laysMoves 231 = .ok (.invokevirtual 397, 3) := by decide +kernel
theorem d12_laysMoves_234 : decode cX12_laysMoves 234 = .ok (.iinc 6 1, 3) := by decide +kernel
theorem d12_laysMoves_237 : decode cX12_laysMoves 237 = .ok (.goto (-49), 3) := by decide +kernel
theorem d12_laysMoves_240 : decode cX12_laysMoves 240 = .ok (.iinc 5 1, 3) := by decide +kernel
theorem d12_laysMoves_243 : decode cX12_laysMoves 243 = .ok (.goto (-69), 3) := by decide +kernel
theorem d12_laysMoves_246 : decode cX12_laysMoves 246 = .ok (.aload_n 0, 1) := by decide +kernel
theorem d12_laysMoves_247 : decode cX12_laysMoves 247 = .ok (.iload_n 1, 1) := by decide +kernel
theorem d12_laysMoves_248 : decode cX12_laysMoves 248 = .ok (.invokevirtual 352, 3) := by decide +kernel
theorem d12_laysMoves_251 : decode cX12_laysMoves 251 = .ok (.ifCond .eq 29, 3) := by decide +kernel
theorem d12_laysMoves_254 : decode cX12_laysMoves 254 = .ok (.aload_n 0, 1) := by decide +kernel
theorem d12_laysMoves_255 : decode cX12_laysMoves 255 = .ok (.iload_n 1, 1) := by decide +kernel
theorem d12_laysMoves_256 : decode cX12_laysMoves 256 = .ok (.iconst 3, 1) := by decide +kernel
theorem d12_laysMoves_257 : decode cX12_laysMoves 257 = .ok (.iconst 0, 1) := by decide +kernel
theorem d12_laysMoves_258 : decode cX12_laysMoves 258 = .ok (.iconst 0, 1) := by decide +kernel
theorem d12_laysMoves_259 : decode cX12_laysMoves 259 = .ok (.lload_n 2, 1) := by decide +kernel
theorem d12_laysMoves_260 : decode cX12_laysMoves 260 = .ok (.aload_n 0, 1) := by decide +kernel
theorem d12_laysMoves_261 : decode cX12_laysMoves 261 = .ok (.iload_n 1, 1) := by decide +kernel
theorem d12_laysMoves_262 : decode cX12_laysMoves 262 = .ok (.invokevirtual 352, 3) := by decide +kernel
theorem d12_laysMoves_265 : decode cX12_laysMoves 265 = .ok (.i2l, 1) := by decide +kernel
theorem d12_laysMoves_266 : decode cX12_laysMoves 266 = .ok (.ldc2_w 307, 3) := by decide +kernel
theorem d12_laysMoves_269 : decode cX12_laysMoves 269 = .ok (.lmul, 1) := by decide +kernel
theorem d12_laysMoves_270 : decode cX12_laysMoves 270 = .ok (.ladd, 1) := by decide +kernel
theorem d12_laysMoves_271 : decode cX12_laysMoves 271 = .ok (.iload 4, 2) := by decide +kernel
theorem d12_laysMoves_273 : decode cX12_laysMoves 273 = .ok (.aload_n 0, 1) := by decide +kernel
theorem d12_laysMoves_274 : decode cX12_laysMoves 274 = .ok (.invokevirtual 271, 3) := by decide +kernel
theorem d12_laysMoves_277 : decode cX12_laysMoves 277 = .ok (.invokevirtual 397, 3) := by decide +kernel
theorem d12_laysMoves_280 : decode cX12_laysMoves 280 = .ok (.return_, 1) := by decide +kernel
abbrev K12_laysMoves : CK Unit := (enV, none, 7, 6, none)
noncomputable def F12_laysMoves_b188B (N : Nat) (k174 : Int32 × Int64 × Int32 × Int32 × Ms → Option (Unit × Ms)) (k188 : Int32 × Int64 × Int32 × Int32 × Int32 × Ms → Option (Unit × Ms)) (l1 : Int32) (l2 : Int64) (l4 : Int32) (l5 : Int32) (l6 : Int32) (σ : Ms) : Option (Unit × Ms) :=
  ck (ixb ((65 : Int32) + l5) 1780) (if (σ.1 5 ((65 : Int32) + l5).toNatClampNeg) ≤ l6 then (k174 (l1, l2, l4, (l5 + (1 : Int32)), σ))
  else (ck (ixb ((65 : Int32) + l5) 1780) (bn (F12_taken N σ) (fun r1 t2 => bn (F12_counts N l1 (2 : Int32) l5 l6 l2 ((l4 ^^^ (σ.1 5 ((65 : Int32) + l5).toNatClampNeg)) ^^^ l6) r1 t2) (fun r3 t4 => k188 (l1, l2, l4, l5, (l6 + (1 : Int32)), t4))))))
noncomputable def F12_laysMoves_b188 (N : Nat) (k174 : Int32 × Int64 × Int32 × Int32 × Ms → Option (Unit × Ms)) (l1 : Int32) (l2 : Int64) (l4 : Int32) (l5 : Int32) (l6 : Int32) (σ : Ms) : Option (Unit × Ms) :=
  fx N (fun k x => F12_laysMoves_b188B N k174 k x.1 x.2.1 x.2.2.1 x.2.2.2.1 x.2.2.2.2.1 x.2.2.2.2.2) (l1, l2, l4, l5, l6, σ)
noncomputable def F12_laysMoves_b174B (N : Nat) (k174 : Int32 × Int64 × Int32 × Int32 × Ms → Option (Unit × Ms)) (l1 : Int32) (l2 : Int64) (l4 : Int32) (l5 : Int32) (σ : Ms) : Option (Unit × Ms) :=
  ck (ixb (1 : Int32) 1780) (if (σ.1 5 (1 : Int32).toNatClampNeg) ≤ l5 then (bn (F12_spending l1 σ) (fun r5 t6 => if r5 = 0 then (some ((), t6))
  else (bn (F12_spending l1 t6) (fun r7 t8 => bn (F12_taken N t8) (fun r9 t10 => bn (F12_counts N l1 (3 : Int32) (0 : Int32) (0 : Int32) (l2 + ((r7.toInt64) * (1048576 : Int64))) l4 r9 t10) (fun r11 t12 => some ((), t12)))))))
  else (F12_laysMoves_b188 N k174 l1 l2 l4 l5 (0 : Int32) σ))
noncomputable def F12_laysMoves_b174 (N : Nat) (l1 : Int32) (l2 : Int64) (l4 : Int32) (l5 : Int32) (σ : Ms) : Option (Unit × Ms) :=
  fx N (fun k x => F12_laysMoves_b174B N k x.1 x.2.1 x.2.2.1 x.2.2.2.1 x.2.2.2.2) (l1, l2, l4, l5, σ)
noncomputable def F12_laysMoves_b165 (N : Nat) (k107 : Int32 × Int64 × Int32 × Int32 × Ms → Option (Unit × Ms)) (l1 : Int32) (l2 : Int64) (l4 : Int32) (l5 : Int32) (σ : Ms) : Option (Unit × Ms) :=
  k107 (l1, l2, l4, (l5 + (1 : Int32)), σ)
noncomputable def F12_laysMoves_b107B (N : Nat) (k107 : Int32 × Int64 × Int32 × Int32 × Ms → Option (Unit × Ms)) (l1 : Int32) (l2 : Int64) (l4 : Int32) (l5 : Int32) (σ : Ms) : Option (Unit × Ms) :=
  ck (ixb (2 : Int32) 1780) (if (σ.1 5 (2 : Int32).toNatClampNeg) ≤ l5 then (F12_laysMoves_b174 N l1 l2 l4 (0 : Int32) σ)
  else (ck (ixb ((79 : Int32) + l5) 1780) (if (σ.1 5 ((79 : Int32) + l5).toNatClampNeg) ≠ 0 then (F12_laysMoves_b165 N k107 l1 l2 l4 l5 σ)
  else (bn (F12_gainBy l1 l5 σ) (fun r13 t14 => bn (F12_taken N t14) (fun r15 t16 => bn (F12_counts N l1 (1 : Int32) l5 (0 : Int32) (l2 + ((r13.toInt64) * (1048576 : Int64))) l4 (r15 ||| ((1 : Int32) <<< (l5 &&& 31))) t16) (fun r17 t18 => F12_laysMoves_b165 N k107 l1 l2 l4 l5 t18)))))))
noncomputable def F12_laysMoves_b107 (N : Nat) (l1 : Int32) (l2 : Int64) (l4 : Int32) (l5 : Int32) (σ : Ms) : Option (Unit × Ms) :=
  fx N (fun k x => F12_laysMoves_b107B N k x.1 x.2.1 x.2.2.1 x.2.2.2.1 x.2.2.2.2) (l1, l2, l4, l5, σ)
noncomputable def F12_laysMoves_b83 (N : Nat) (k12 : Int32 × Int32 × Ms → Option (Unit × Ms)) (l1 : Int32) (l2 : Int32) (σ : Ms) : Option (Unit × Ms) :=
  k12 (l1, (l2 + (1 : Int32)), σ)
noncomputable def F12_laysMoves_b12B (N : Nat) (k12 : Int32 × Int32 × Ms → Option (Unit × Ms)) (l1 : Int32) (l2 : Int32) (σ : Ms) : Option (Unit × Ms) :=
  ck (ixb (0 : Int32) 1780) (if (σ.1 5 (0 : Int32).toNatClampNeg) ≤ l2 then (bn (F12_laysNow N σ) (fun r19 t20 => lt (t20.2 0 25) (fun x21 => lt (t20.1 0 26) (fun x22 => F12_laysMoves_b107 N l1 x21 x22 (0 : Int32) t20))))
  else (ck (ixb ((45 : Int32) + l2) 1780) (if (σ.1 5 ((45 : Int32) + l2).toNatClampNeg) = 0 then (F12_laysMoves_b83 N k12 l1 l2 σ)
  else (bn (F12_may l1 l2 σ) (fun r23 t24 => if r23 ≠ 0 then (bn (F12_standing N t24) (fun r25 t26 => bn (F12_standsBut N r25 ((1 : Int32) <<< (l2 &&& 31)) t26) (fun r27 t28 => bn (F12_laysWorths N r27 (0 : Int32) (0 : Int32) t28) (fun r29 t30 => bn (F12_taken N t30) (fun r31 t32 => bn (F12_counts N l1 (0 : Int32) l2 (0 : Int32) (t30.2 0 25) (t30.1 0 26) r31 t32) (fun r33 t34 => F12_laysMoves_b83 N k12 l1 l2 t34))))))
  else (F12_laysMoves_b83 N k12 l1 l2 t24))))))
noncomputable def F12_laysMoves_b12 (N : Nat) (l1 : Int32) (l2 : Int32) (σ : Ms) : Option (Unit × Ms) :=
  fx N (fun k x => F12_laysMoves_b12B N k x.1 x.2.1 x.2.2) (l1, l2, σ)
noncomputable def F12_laysMoves (N : Nat) (p0 : Int32) (σ : Ms) : Option (Unit × Ms) :=
  lt (sI σ 0 28 (0 : Int32)) (fun t35 => lt (sI t35 0 29 (0 : Int32)) (fun t36 => F12_laysMoves_b12 N p0 (0 : Int32) t36))
set_option maxRecDepth 100000 in
theorem v12_laysMoves_b188B (N : Nat) (k174 : Int32 × Int64 × Int32 × Int32 × Ms → Option (Unit × Ms)) (hk174 : ∀ (l1 : Int32) (l2 : Int64) (l4 : Int32) (l5 : Int32) (τ : Ms), VF (K12_laysMoves) cX12_laysMoves RX12 (k174 (l1, l2, l4, l5, τ)) τ 174 [(0, .ref 0), (1, .int l1), (2, .long l2), (4, .int l4), (5, .int l5)] []) (k188 : Int32 × Int64 × Int32 × Int32 × Int32 × Ms → Option (Unit × Ms)) (hk188 : ∀ (l1 : Int32) (l2 : Int64) (l4 : Int32) (l5 : Int32) (l6 : Int32) (τ : Ms), VF (K12_laysMoves) cX12_laysMoves RX12 (k188 (l1, l2, l4, l5, l6, τ)) τ 188 [(0, .ref 0), (1, .int l1), (2, .long l2), (4, .int l4), (5, .int l5), (6, .int l6)] []) (l1 : Int32) (l2 : Int64) (l4 : Int32) (l5 : Int32) (l6 : Int32) (σ : Ms) : VF (K12_laysMoves) cX12_laysMoves RX12 (F12_laysMoves_b188B N k174 k188 l1 l2 l4 l5 l6 σ) σ 188 [(0, .ref 0), (1, .int l1), (2, .long l2), (4, .int l4), (5, .int l5), (6, .int l6)] [] := by
  unfold F12_laysMoves_b188B
  refine v_iload d12_laysMoves_188 5 rfl ?_
  refine v_aload_n d12_laysMoves_190 0 rfl rfl ?_
  refine v_getR d12_laysMoves_191 faX12_35 ic_0 rfl ?_
  refine v_bipush d12_laysMoves_194 kb_65 ?_
  refine v_iload d12_laysMoves_196 4 rfl ?_
  refine v_iadd d12_laysMoves_198 ?_
  refine v_iald d12_laysMoves_199 ic_5 ?_
  refine v_icmp_ge (tgt := 240) d12_laysMoves_200 (by decide) ?_ ?_
  · refine v_iinc (lv' := [(5, .int (l5 + (1 : Int32))), (0, .ref 0), (1, .int l1), (2, .long l2), (4, .int l4), (6, .int l6)]) d12_laysMoves_240 4 rfl (by rw [ki_1]) (by decide) rfl ?_
    refine v_goto (tgt := 174) d12_laysMoves_243 (by decide) ?_
    refine v_sub [1, 2, 3, 4, 0] rfl ?_
    exact hk174 l1 l2 l4 (l5 + (1 : Int32)) σ
  · refine v_aload_n d12_laysMoves_203 0 rfl rfl ?_
    refine v_iload_n d12_laysMoves_204 1 rfl rfl ?_
    refine v_iconst d12_laysMoves_205 ki_2 ?_
    refine v_iload d12_laysMoves_206 4 rfl ?_
    refine v_iload d12_laysMoves_208 5 rfl ?_
    refine v_lload_n d12_laysMoves_210 2 rfl rfl ?_
    refine v_iload d12_laysMoves_211 3 rfl ?_
    refine v_aload_n d12_laysMoves_213 0 rfl rfl ?_
    refine v_getR d12_laysMoves_214 faX12_35 ic_0 rfl ?_
    refine v_bipush d12_laysMoves_217 kb_65 ?_
    refine v_iload d12_laysMoves_219 4 rfl ?_
    refine v_iadd d12_laysMoves_221 ?_
    refine v_iald d12_laysMoves_222 ic_5 ?_
    refine v_ixor d12_laysMoves_223 ?_
    refine v_iload d12_laysMoves_224 5 rfl ?_
    refine v_ixor d12_laysMoves_226 ?_
    refine v_aload_n d12_laysMoves_227 0 rfl rfl ?_
    refine v_callV0i d12_laysMoves_228 (mc12_taken N σ) yv12_taken mlX12_271 (Recv.obj ic_0 rfl) (by decide) (Nat.le_of_ble_eq_true rfl) fun r1 t2 => ?_
    refine v_callV7v d12_laysMoves_231 (mc12_counts N l1 (2 : Int32) l5 l6 l2 ((l4 ^^^ (σ.1 5 ((65 : Int32) + l5).toNatClampNeg)) ^^^ l6) r1 t2) yv12_counts mlX12_397 (Recv.obj ic_0 rfl) (by decide) (Nat.le_of_ble_eq_true rfl) fun r3 t4 => ?_
    refine v_iinc (lv' := [(6, .int (l6 + (1 : Int32))), (0, .ref 0), (1, .int l1), (2, .long l2), (4, .int l4), (5, .int l5)]) d12_laysMoves_234 5 rfl (by rw [ki_1]) (by decide) rfl ?_
    refine v_goto (tgt := 188) d12_laysMoves_237 (by decide) ?_
    refine v_sub [1, 2, 3, 4, 5, 0] rfl ?_
    exact hk188 l1 l2 l4 l5 (l6 + (1 : Int32)) t4
theorem v12_laysMoves_b188 (N : Nat) (k174 : Int32 × Int64 × Int32 × Int32 × Ms → Option (Unit × Ms)) (hk174 : ∀ (l1 : Int32) (l2 : Int64) (l4 : Int32) (l5 : Int32) (τ : Ms), VF (K12_laysMoves) cX12_laysMoves RX12 (k174 (l1, l2, l4, l5, τ)) τ 174 [(0, .ref 0), (1, .int l1), (2, .long l2), (4, .int l4), (5, .int l5)] []) (l1 : Int32) (l2 : Int64) (l4 : Int32) (l5 : Int32) (l6 : Int32) (σ : Ms) : VF (K12_laysMoves) cX12_laysMoves RX12 (F12_laysMoves_b188 N k174 l1 l2 l4 l5 l6 σ) σ 188 [(0, .ref 0), (1, .int l1), (2, .long l2), (4, .int l4), (5, .int l5), (6, .int l6)] [] := v_fx (σo := fun x => x.2.2.2.2.2) (lo := fun x => [(0, .ref 0), (1, .int x.1), (2, .long x.2.1), (4, .int x.2.2.1), (5, .int x.2.2.2.1), (6, .int x.2.2.2.2.1)]) (fun k hk x => v12_laysMoves_b188B N k174 hk174 k (fun l1 l2 l4 l5 l6 τ => hk (l1, l2, l4, l5, l6, τ)) x.1 x.2.1 x.2.2.1 x.2.2.2.1 x.2.2.2.2.1 x.2.2.2.2.2) N (l1, l2, l4, l5, l6, σ)
set_option maxRecDepth 100000 in
theorem v12_laysMoves_b174B (N : Nat) (k174 : Int32 × Int64 × Int32 × Int32 × Ms → Option (Unit × Ms)) (hk174 : ∀ (l1 : Int32) (l2 : Int64) (l4 : Int32) (l5 : Int32) (τ : Ms), VF (K12_laysMoves) cX12_laysMoves RX12 (k174 (l1, l2, l4, l5, τ)) τ 174 [(0, .ref 0), (1, .int l1), (2, .long l2), (4, .int l4), (5, .int l5)] []) (l1 : Int32) (l2 : Int64) (l4 : Int32) (l5 : Int32) (σ : Ms) : VF (K12_laysMoves) cX12_laysMoves RX12 (F12_laysMoves_b174B N k174 l1 l2 l4 l5 σ) σ 174 [(0, .ref 0), (1, .int l1), (2, .long l2), (4, .int l4), (5, .int l5)] [] := by
  unfold F12_laysMoves_b174B
  refine v_iload d12_laysMoves_174 4 rfl ?_
  refine v_aload_n d12_laysMoves_176 0 rfl rfl ?_
  refine v_getR d12_laysMoves_177 faX12_35 ic_0 rfl ?_
  refine v_iconst d12_laysMoves_180 ki_1 ?_
  refine v_iald d12_laysMoves_181 ic_5 ?_
  refine v_icmp_ge (tgt := 246) d12_laysMoves_182 (by decide) ?_ ?_
  · refine v_aload_n d12_laysMoves_246 0 rfl rfl ?_
    refine v_iload_n d12_laysMoves_247 1 rfl rfl ?_
    refine v_callV1i d12_laysMoves_248 (mc12_spending l1 σ) yv12_spending mlX12_352 (Recv.obj ic_0 rfl) (by decide) (Nat.le_of_ble_eq_true rfl) fun r5 t6 => ?_
    refine v_if_eq (tgt := 280) d12_laysMoves_251 (by decide) ?_ ?_
    · exact v_vret d12_laysMoves_280 rfl
    · refine v_aload_n d12_laysMoves_254 0 rfl rfl ?_
      refine v_iload_n d12_laysMoves_255 1 rfl rfl ?_
      refine v_iconst d12_laysMoves_256 ki_3 ?_
      refine v_iconst d12_laysMoves_257 ki_0 ?_
      refine v_iconst d12_laysMoves_258 ki_0 ?_
      refine v_lload_n d12_laysMoves_259 2 rfl rfl ?_
      refine v_aload_n d12_laysMoves_260 0 rfl rfl ?_
      refine v_iload_n d12_laysMoves_261 1 rfl rfl ?_
      refine v_callV1i d12_laysMoves_262 (mc12_spending l1 t6) yv12_spending mlX12_352 (Recv.obj ic_0 rfl) (by decide) (Nat.le_of_ble_eq_true rfl) fun r7 t8 => ?_
      refine v_i2l d12_laysMoves_265 ?_
      refine v_ldc2 d12_laysMoves_266 klX12_307 ?_
      refine v_lmul d12_laysMoves_269 ?_
      refine v_ladd d12_laysMoves_270 ?_
      refine v_iload d12_laysMoves_271 3 rfl ?_
      refine v_aload_n d12_laysMoves_273 0 rfl rfl ?_
      refine v_callV0i d12_laysMoves_274 (mc12_taken N t8) yv12_taken mlX12_271 (Recv.obj ic_0 rfl) (by decide) (Nat.le_of_ble_eq_true rfl) fun r9 t10 => ?_
      refine v_callV7v d12_laysMoves_277 (mc12_counts N l1 (3 : Int32) (0 : Int32) (0 : Int32) (l2 + ((r7.toInt64) * (1048576 : Int64))) l4 r9 t10) yv12_counts mlX12_397 (Recv.obj ic_0 rfl) (by decide) (Nat.le_of_ble_eq_true rfl) fun r11 t12 => ?_
      exact v_vret d12_laysMoves_280 rfl
  · refine v_iconst d12_laysMoves_185 ki_0 ?_
    refine v_istore (lv' := [(6, .int (0 : Int32)), (0, .ref 0), (1, .int l1), (2, .long l2), (4, .int l4), (5, .int l5)]) d12_laysMoves_186 (by decide) rfl ?_
    refine v_sub [1, 2, 3, 4, 5, 0] rfl ?_
    exact v12_laysMoves_b188 N k174 hk174 l1 l2 l4 l5 (0 : Int32) σ
theorem v12_laysMoves_b174 (N : Nat) (l1 : Int32) (l2 : Int64) (l4 : Int32) (l5 : Int32) (σ : Ms) : VF (K12_laysMoves) cX12_laysMoves RX12 (F12_laysMoves_b174 N l1 l2 l4 l5 σ) σ 174 [(0, .ref 0), (1, .int l1), (2, .long l2), (4, .int l4), (5, .int l5)] [] := v_fx (σo := fun x => x.2.2.2.2) (lo := fun x => [(0, .ref 0), (1, .int x.1), (2, .long x.2.1), (4, .int x.2.2.1), (5, .int x.2.2.2.1)]) (fun k hk x => v12_laysMoves_b174B N k (fun l1 l2 l4 l5 τ => hk (l1, l2, l4, l5, τ)) x.1 x.2.1 x.2.2.1 x.2.2.2.1 x.2.2.2.2) N (l1, l2, l4, l5, σ)
set_option maxRecDepth 100000 in
theorem v12_laysMoves_b165 (N : Nat) (k107 : Int32 × Int64 × Int32 × Int32 × Ms → Option (Unit × Ms)) (hk107 : ∀ (l1 : Int32) (l2 : Int64) (l4 : Int32) (l5 : Int32) (τ : Ms), VF (K12_laysMoves) cX12_laysMoves RX12 (k107 (l1, l2, l4, l5, τ)) τ 107 [(0, .ref 0), (1, .int l1), (2, .long l2), (4, .int l4), (5, .int l5)] []) (l1 : Int32) (l2 : Int64) (l4 : Int32) (l5 : Int32) (σ : Ms) : VF (K12_laysMoves) cX12_laysMoves RX12 (F12_laysMoves_b165 N k107 l1 l2 l4 l5 σ) σ 165 [(0, .ref 0), (1, .int l1), (2, .long l2), (4, .int l4), (5, .int l5)] [] := by
  unfold F12_laysMoves_b165
  refine v_iinc (lv' := [(5, .int (l5 + (1 : Int32))), (0, .ref 0), (1, .int l1), (2, .long l2), (4, .int l4)]) d12_laysMoves_165 4 rfl (by rw [ki_1]) (by decide) rfl ?_
  refine v_goto (tgt := 107) d12_laysMoves_168 (by decide) ?_
  refine v_sub [1, 2, 3, 4, 0] rfl ?_
  exact hk107 l1 l2 l4 (l5 + (1 : Int32)) σ
set_option maxRecDepth 100000 in
theorem v12_laysMoves_b107B (N : Nat) (k107 : Int32 × Int64 × Int32 × Int32 × Ms → Option (Unit × Ms)) (hk107 : ∀ (l1 : Int32) (l2 : Int64) (l4 : Int32) (l5 : Int32) (τ : Ms), VF (K12_laysMoves) cX12_laysMoves RX12 (k107 (l1, l2, l4, l5, τ)) τ 107 [(0, .ref 0), (1, .int l1), (2, .long l2), (4, .int l4), (5, .int l5)] []) (l1 : Int32) (l2 : Int64) (l4 : Int32) (l5 : Int32) (σ : Ms) : VF (K12_laysMoves) cX12_laysMoves RX12 (F12_laysMoves_b107B N k107 l1 l2 l4 l5 σ) σ 107 [(0, .ref 0), (1, .int l1), (2, .long l2), (4, .int l4), (5, .int l5)] [] := by
  unfold F12_laysMoves_b107B
  refine v_iload d12_laysMoves_107 4 rfl ?_
  refine v_aload_n d12_laysMoves_109 0 rfl rfl ?_
  refine v_getR d12_laysMoves_110 faX12_35 ic_0 rfl ?_
  refine v_iconst d12_laysMoves_113 ki_2 ?_
  refine v_iald d12_laysMoves_114 ic_5 ?_
  refine v_icmp_ge (tgt := 171) d12_laysMoves_115 (by decide) ?_ ?_
  · refine v_iconst d12_laysMoves_171 ki_0 ?_
    refine v_istore (lv' := [(5, .int (0 : Int32)), (0, .ref 0), (1, .int l1), (2, .long l2), (4, .int l4)]) d12_laysMoves_172 (by decide) rfl ?_
    refine v_sub [1, 2, 3, 4, 0] rfl ?_
    exact v12_laysMoves_b174 N l1 l2 l4 (0 : Int32) σ
  · refine v_aload_n d12_laysMoves_118 0 rfl rfl ?_
    refine v_getR d12_laysMoves_119 faX12_35 ic_0 rfl ?_
    refine v_bipush d12_laysMoves_122 kb_79 ?_
    refine v_iload d12_laysMoves_124 4 rfl ?_
    refine v_iadd d12_laysMoves_126 ?_
    refine v_iald d12_laysMoves_127 ic_5 ?_
    refine v_if_ne (tgt := 165) d12_laysMoves_128 (by decide) ?_ ?_
    · exact v12_laysMoves_b165 N k107 hk107 l1 l2 l4 l5 σ
    · refine v_aload_n d12_laysMoves_131 0 rfl rfl ?_
      refine v_iload_n d12_laysMoves_132 1 rfl rfl ?_
      refine v_iconst d12_laysMoves_133 ki_1 ?_
      refine v_iload d12_laysMoves_134 4 rfl ?_
      refine v_iconst d12_laysMoves_136 ki_0 ?_
      refine v_lload_n d12_laysMoves_137 2 rfl rfl ?_
      refine v_aload_n d12_laysMoves_138 0 rfl rfl ?_
      refine v_iload_n d12_laysMoves_139 1 rfl rfl ?_
      refine v_iload d12_laysMoves_140 4 rfl ?_
      refine v_callV2i d12_laysMoves_142 (mc12_gainBy l1 l5 σ) yv12_gainBy mlX12_341 (Recv.obj ic_0 rfl) (by decide) (Nat.le_of_ble_eq_true rfl) fun r13 t14 => ?_
      refine v_i2l d12_laysMoves_145 ?_
      refine v_ldc2 d12_laysMoves_146 klX12_307 ?_
      refine v_lmul d12_laysMoves_149 ?_
      refine v_ladd d12_laysMoves_150 ?_
      refine v_iload d12_laysMoves_151 3 rfl ?_
      refine v_aload_n d12_laysMoves_153 0 rfl rfl ?_
      refine v_callV0i d12_laysMoves_154 (mc12_taken N t14) yv12_taken mlX12_271 (Recv.obj ic_0 rfl) (by decide) (Nat.le_of_ble_eq_true rfl) fun r15 t16 => ?_
      refine v_iconst d12_laysMoves_157 ki_1 ?_
      refine v_iload d12_laysMoves_158 4 rfl ?_
      refine v_ishl d12_laysMoves_160 ?_
      refine v_ior d12_laysMoves_161 ?_
      refine v_callV7v d12_laysMoves_162 (mc12_counts N l1 (1 : Int32) l5 (0 : Int32) (l2 + ((r13.toInt64) * (1048576 : Int64))) l4 (r15 ||| ((1 : Int32) <<< (l5 &&& 31))) t16) yv12_counts mlX12_397 (Recv.obj ic_0 rfl) (by decide) (Nat.le_of_ble_eq_true rfl) fun r17 t18 => ?_
      exact v12_laysMoves_b165 N k107 hk107 l1 l2 l4 l5 t18
theorem v12_laysMoves_b107 (N : Nat) (l1 : Int32) (l2 : Int64) (l4 : Int32) (l5 : Int32) (σ : Ms) : VF (K12_laysMoves) cX12_laysMoves RX12 (F12_laysMoves_b107 N l1 l2 l4 l5 σ) σ 107 [(0, .ref 0), (1, .int l1), (2, .long l2), (4, .int l4), (5, .int l5)] [] := v_fx (σo := fun x => x.2.2.2.2) (lo := fun x => [(0, .ref 0), (1, .int x.1), (2, .long x.2.1), (4, .int x.2.2.1), (5, .int x.2.2.2.1)]) (fun k hk x => v12_laysMoves_b107B N k (fun l1 l2 l4 l5 τ => hk (l1, l2, l4, l5, τ)) x.1 x.2.1 x.2.2.1 x.2.2.2.1 x.2.2.2.2) N (l1, l2, l4, l5, σ)
set_option maxRecDepth 100000 in
theorem v12_laysMoves_b83 (N : Nat) (k12 : Int32 × Int32 × Ms → Option (Unit × Ms)) (hk12 : ∀ (l1 : Int32) (l2 : Int32) (τ : Ms), VF (K12_laysMoves) cX12_laysMoves RX12 (k12 (l1, l2, τ)) τ 12 [(0, .ref 0), (1, .int l1), (2, .int l2)] []) (l1 : Int32) (l2 : Int32) (σ : Ms) : VF (K12_laysMoves) cX12_laysMoves RX12 (F12_laysMoves_b83 N k12 l1 l2 σ) σ 83 [(0, .ref 0), (1, .int l1), (2, .int l2)] [] := by
  unfold F12_laysMoves_b83
  refine v_iinc (lv' := [(2, .int (l2 + (1 : Int32))), (0, .ref 0), (1, .int l1)]) d12_laysMoves_83 2 rfl (by rw [ki_1]) (by decide) rfl ?_
  refine v_goto (tgt := 12) d12_laysMoves_86 (by decide) ?_
  refine v_sub [1, 2, 0] rfl ?_
  exact hk12 l1 (l2 + (1 : Int32)) σ
set_option maxRecDepth 100000 in
theorem v12_laysMoves_b12B (N : Nat) (k12 : Int32 × Int32 × Ms → Option (Unit × Ms)) (hk12 : ∀ (l1 : Int32) (l2 : Int32) (τ : Ms), VF (K12_laysMoves) cX12_laysMoves RX12 (k12 (l1, l2, τ)) τ 12 [(0, .ref 0), (1, .int l1), (2, .int l2)] []) (l1 : Int32) (l2 : Int32) (σ : Ms) : VF (K12_laysMoves) cX12_laysMoves RX12 (F12_laysMoves_b12B N k12 l1 l2 σ) σ 12 [(0, .ref 0), (1, .int l1), (2, .int l2)] [] := by
  unfold F12_laysMoves_b12B
  refine v_iload_n d12_laysMoves_12 2 rfl rfl ?_
  refine v_aload_n d12_laysMoves_13 0 rfl rfl ?_
  refine v_getR d12_laysMoves_14 faX12_35 ic_0 rfl ?_
  refine v_iconst d12_laysMoves_17 ki_0 ?_
  refine v_iald d12_laysMoves_18 ic_5 ?_
  refine v_icmp_ge (tgt := 89) d12_laysMoves_19 (by decide) ?_ ?_
  · refine v_aload_n d12_laysMoves_89 0 rfl rfl ?_
    refine v_callV0v d12_laysMoves_90 (mc12_laysNow N σ) yv12_laysNow mlX12_324 (Recv.obj ic_0 rfl) (by decide) (Nat.le_of_ble_eq_true rfl) fun r19 t20 => ?_
    refine v_aload_n d12_laysMoves_93 0 rfl rfl ?_
    refine v_getL d12_laysMoves_94 faX12_312 ic_0 ?_
    refine v_ltl fun x21 => ?_
    refine v_lstore_n (lv' := [(2, .long x21), (0, .ref 0), (1, .int l1)]) d12_laysMoves_97 rfl (by decide) rfl ?_
    refine v_aload_n d12_laysMoves_98 1 rfl rfl ?_
    refine v_getI d12_laysMoves_99 faX12_315 ic_0 ?_
    refine v_lti fun x22 => ?_
    refine v_istore (lv' := [(4, .int x22), (2, .long x21), (0, .ref 0), (1, .int l1)]) d12_laysMoves_102 (by decide) rfl ?_
    refine v_iconst d12_laysMoves_104 ki_0 ?_
    refine v_istore (lv' := [(5, .int (0 : Int32)), (4, .int x22), (2, .long x21), (0, .ref 0), (1, .int l1)]) d12_laysMoves_105 (by decide) rfl ?_
    refine v_sub [3, 4, 2, 1, 0] rfl ?_
    exact v12_laysMoves_b107 N l1 x21 x22 (0 : Int32) t20
  · refine v_aload_n d12_laysMoves_22 0 rfl rfl ?_
    refine v_getR d12_laysMoves_23 faX12_35 ic_0 rfl ?_
    refine v_bipush d12_laysMoves_26 kb_45 ?_
    refine v_iload_n d12_laysMoves_28 2 rfl rfl ?_
    refine v_iadd d12_laysMoves_29 ?_
    refine v_iald d12_laysMoves_30 ic_5 ?_
    refine v_if_eq (tgt := 83) d12_laysMoves_31 (by decide) ?_ ?_
    · exact v12_laysMoves_b83 N k12 hk12 l1 l2 σ
    · refine v_aload_n d12_laysMoves_34 0 rfl rfl ?_
      refine v_iload_n d12_laysMoves_35 1 rfl rfl ?_
      refine v_iload_n d12_laysMoves_36 2 rfl rfl ?_
      refine v_callV2i d12_laysMoves_37 (mc12_may l1 l2 σ) yv12_may mlX12_335 (Recv.obj ic_0 rfl) (by decide) (Nat.le_of_ble_eq_true rfl) fun r23 t24 => ?_
      refine v_if_ne (tgt := 46) d12_laysMoves_40 (by decide) ?_ ?_
      · refine v_aload_n d12_laysMoves_46 0 rfl rfl ?_
        refine v_aload_n d12_laysMoves_47 0 rfl rfl ?_
        refine v_aload_n d12_laysMoves_48 0 rfl rfl ?_
        refine v_callV0i d12_laysMoves_49 (mc12_standing N t24) yv12_standing mlX12_268 (Recv.obj ic_0 rfl) (by decide) (Nat.le_of_ble_eq_true rfl) fun r25 t26 => ?_
        refine v_iconst d12_laysMoves_52 ki_1 ?_
        refine v_iload_n d12_laysMoves_53 2 rfl rfl ?_
        refine v_ishl d12_laysMoves_54 ?_
        refine v_callV2i d12_laysMoves_55 (mc12_standsBut N r25 ((1 : Int32) <<< (l2 &&& 31)) t26) yv12_standsBut mlX12_274 (Recv.obj ic_0 rfl) (by decide) (Nat.le_of_ble_eq_true rfl) fun r27 t28 => ?_
        refine v_iconst d12_laysMoves_58 ki_0 ?_
        refine v_iconst d12_laysMoves_59 ki_0 ?_
        refine v_callV3v d12_laysMoves_60 (mc12_laysWorths N r27 (0 : Int32) (0 : Int32) t28) yv12_laysWorths mlX12_321 (Recv.obj ic_0 rfl) (by decide) (Nat.le_of_ble_eq_true rfl) fun r29 t30 => ?_
        refine v_aload_n d12_laysMoves_63 0 rfl rfl ?_
        refine v_iload_n d12_laysMoves_64 1 rfl rfl ?_
        refine v_iconst d12_laysMoves_65 ki_0 ?_
        refine v_iload_n d12_laysMoves_66 2 rfl rfl ?_
        refine v_iconst d12_laysMoves_67 ki_0 ?_
        refine v_aload_n d12_laysMoves_68 0 rfl rfl ?_
        refine v_getL d12_laysMoves_69 faX12_312 ic_0 ?_
        refine v_aload_n d12_laysMoves_72 0 rfl rfl ?_
        refine v_getI d12_laysMoves_73 faX12_315 ic_0 ?_
        refine v_aload_n d12_laysMoves_76 0 rfl rfl ?_
        refine v_callV0i d12_laysMoves_77 (mc12_taken N t30) yv12_taken mlX12_271 (Recv.obj ic_0 rfl) (by decide) (Nat.le_of_ble_eq_true rfl) fun r31 t32 => ?_
        refine v_callV7v d12_laysMoves_80 (mc12_counts N l1 (0 : Int32) l2 (0 : Int32) (t30.2 0 25) (t30.1 0 26) r31 t32) yv12_counts mlX12_397 (Recv.obj ic_0 rfl) (by decide) (Nat.le_of_ble_eq_true rfl) fun r33 t34 => ?_
        exact v12_laysMoves_b83 N k12 hk12 l1 l2 t34
      · refine v_goto (tgt := 83) d12_laysMoves_43 (by decide) ?_
        exact v12_laysMoves_b83 N k12 hk12 l1 l2 t24
theorem v12_laysMoves_b12 (N : Nat) (l1 : Int32) (l2 : Int32) (σ : Ms) : VF (K12_laysMoves) cX12_laysMoves RX12 (F12_laysMoves_b12 N l1 l2 σ) σ 12 [(0, .ref 0), (1, .int l1), (2, .int l2)] [] := v_fx (σo := fun x => x.2.2) (lo := fun x => [(0, .ref 0), (1, .int x.1), (2, .int x.2.1)]) (fun k hk x => v12_laysMoves_b12B N k (fun l1 l2 τ => hk (l1, l2, τ)) x.1 x.2.1 x.2.2) N (l1, l2, σ)
set_option maxRecDepth 100000 in
theorem mc12_laysMoves (N : Nat) (p0 : Int32) (σ : Ms) : MC enV yX12_laysMoves cX12_laysMoves 7 none 6 (F12_laysMoves N p0 σ) σ [.ref 0, .int p0] := by
  refine MC.v (by decide +kernel) (Nat.le_of_ble_eq_true rfl) ?_
  show VF (K12_laysMoves) cX12_laysMoves RX12 (F12_laysMoves N p0 σ) σ 0 [(0, .ref 0), (1, .int p0)] []
  unfold F12_laysMoves
  refine v_aload_n d12_laysMoves_0 0 rfl rfl ?_
  refine v_iconst d12_laysMoves_1 ki_0 ?_
  refine v_putI d12_laysMoves_2 faX12_382 fp9_28 ic_0 ?_
  refine v_lts fun t35 => ?_
  refine v_aload_n d12_laysMoves_5 0 rfl rfl ?_
  refine v_iconst d12_laysMoves_6 ki_0 ?_
  refine v_putI d12_laysMoves_7 faX12_385 fp9_29 ic_0 ?_
  refine v_lts fun t36 => ?_
  refine v_iconst d12_laysMoves_10 ki_0 ?_
  refine v_istore_n (lv' := [(2, .int (0 : Int32)), (0, .ref 0), (1, .int p0)]) d12_laysMoves_11 rfl (by decide) rfl ?_
  refine v_sub [1, 2, 0] rfl ?_
  exact v12_laysMoves_b12 N p0 (0 : Int32) t36
