theorem d12_laysNow_0 : decode cX12_laysNow 0 = .ok (.aload_n 0, 1) := by decide +kernel
theorem d12_laysNow_1 : decode cX12_laysNow 1 = .ok (.aload_n 0, 1) := by decide +kernel
theorem d12_laysNow_2 : decode cX12_laysNow 2 = .ok (.invokevirtual 268, 3) := by decide +kernel
theorem d12_laysNow_5 : decode cX12_laysNow 5 = .ok (.iconst 0, 1) := by decide +kernel
theorem d12_laysNow_6 : decode cX12_laysNow 6 = .ok (.iconst 0, 1) := by decide +kernel
theorem d12_laysNow_7 : decode cX12_laysNow 7 = .ok (.invokevirtual 321, 3) := by decide +kernel
theorem d12_laysNow_10 : decode cX12_laysNow 10 = .ok (.return_, 1) := by decide +kernel
abbrev K12_laysNow : CK Unit := (enV, none, 1, 4, none)
noncomputable def F12_laysNow (N : Nat) (σ : Ms) : Option (Unit × Ms) :=
  bn (F12_standing N σ) (fun r1 t2 => bn (F12_laysWorths N r1 (0 : Int32) (0 : Int32) t2) (fun r3 t4 => some ((), t4)))
set_option maxRecDepth 100000 in
theorem mc12_laysNow (N : Nat) (σ : Ms) : MC enV yX12_laysNow cX12_laysNow 1 none 4 (F12_laysNow N σ) σ [.ref 0] := by
  refine MC.v (by decide +kernel) (Nat.le_of_ble_eq_true rfl) ?_
  show VF (K12_laysNow) cX12_laysNow RX12 (F12_laysNow N σ) σ 0 [(0, .ref 0)] []
  unfold F12_laysNow
  refine v_aload_n d12_laysNow_0 0 rfl rfl ?_
  refine v_aload_n d12_laysNow_1 0 rfl rfl ?_
  refine v_callV0i d12_laysNow_2 (mc12_standing N σ) yv12_standing mlX12_268 (Recv.obj ic_0 rfl) (by decide) (Nat.le_of_ble_eq_true rfl) fun r1 t2 => ?_
  refine v_iconst d12_laysNow_5 ki_0 ?_
  refine v_iconst d12_laysNow_6 ki_0 ?_
  refine v_callV3v d12_laysNow_7 (mc12_laysWorths N r1 (0 : Int32) (0 : Int32) t2) yv12_laysWorths mlX12_321 (Recv.obj ic_0 rfl) (by decide) (Nat.le_of_ble_eq_true rfl) fun r3 t4 => ?_
  exact v_vret d12_laysNow_10 rfl
theorem d12_worth_0 : decode cX12_worth 0 = .ok (.aload_n 0, 1) := by decide +kernel
theorem d12_worth_1 : decode cX12_worth 1 = .ok (.iconst 0, 1) := by decide +kernel
theorem d12_worth_2 : decode cX12_worth 2 = .ok (.putfield 53, 3) := by decide +kernel
theorem d12_worth_5 : decode cX12_worth 5 = .ok (.aload_n 0, 1) := by decide +kernel
theorem d12_worth_6 : decode cX12_worth 6 = .ok (.iconst 0, 1) := by decide +kernel
theorem d12_worth_7 : decode cX12_worth 7 = .ok (.putfield 56, 3) := by decide +kernel
theorem d12_worth_10 : decode cX12_worth 10 = .ok (.aload_n 0, 1) := by decide +kernel
theorem d12_worth_11 : decode cX12_worth 11 = .ok (.invokevirtual 324, 3) := by decide +kernel
theorem d12_worth_14 : decode cX12_worth 14 = .ok (.aload_n 0, 1) := by decide +kernel
theorem d12_worth_15 : decode cX12_worth 15 = .ok (.aload_n 0, 1) := by decide +kernel
theorem d12_worth_16 : decode cX12_worth 16 = .ok (.getfield 312, 3) := by decide +kernel
theorem d12_worth_19 : decode cX12_worth 19 = .ok (.ldc2_w 307, 3) := by decide +kernel
theorem d12_worth_22 : decode cX12_worth 22 = .ok (.invokevirtual 327, 3) := by decide +kernel
theorem d12_worth_25 : decode cX12_worth 25 = .ok (.ireturn, 1) := by decide +kernel
abbrev K12_worth : CK Int32 := (enI, (some .boolean), 1, 5, none)
noncomputable def F12_worth (N : Nat) (σ : Ms) : Option (Int32 × Ms) :=
  lt (sI σ 0 1 (0 : Int32)) (fun t1 => lt (sI t1 0 0 (0 : Int32)) (fun t2 => bn (F12_laysNow N t2) (fun r3 t4 => bn (F12_fraction N (t4.2 0 25) (1048576 : Int64) t4) (fun r5 t6 => ck (nkB r5) (some (r5, t6))))))
set_option maxRecDepth 100000 in
theorem mc12_worth (N : Nat) (σ : Ms) : MC enI yX12_worth cX12_worth 1 (some .boolean) 5 (F12_worth N σ) σ [.ref 0] := by
  refine MC.i (by decide +kernel) (Nat.le_of_ble_eq_true rfl) ?_
  show VF (K12_worth) cX12_worth RX12 (F12_worth N σ) σ 0 [(0, .ref 0)] []
  unfold F12_worth
  refine v_aload_n d12_worth_0 0 rfl rfl ?_
  refine v_iconst d12_worth_1 ki_0 ?_
  refine v_putI d12_worth_2 faX12_53 fp9_1 ic_0 ?_
  refine v_lts fun t1 => ?_
  refine v_aload_n d12_worth_5 0 rfl rfl ?_
  refine v_iconst d12_worth_6 ki_0 ?_
  refine v_putI d12_worth_7 faX12_56 fp9_0 ic_0 ?_
  refine v_lts fun t2 => ?_
  refine v_aload_n d12_worth_10 0 rfl rfl ?_
  refine v_callV0v d12_worth_11 (mc12_laysNow N t2) yv12_laysNow mlX12_324 (Recv.obj ic_0 rfl) (by decide) (Nat.le_of_ble_eq_true rfl) fun r3 t4 => ?_
  refine v_aload_n d12_worth_14 0 rfl rfl ?_
  refine v_aload_n d12_worth_15 0 rfl rfl ?_
  refine v_getL d12_worth_16 faX12_312 ic_0 ?_
  refine v_ldc2 d12_worth_19 klX12_307 ?_
  refine v_callV2i d12_worth_22 (mc12_fraction N (t4.2 0 25) (1048576 : Int64) t4) yv12_fraction mlX12_327 (Recv.obj ic_0 rfl) (by decide) (Nat.le_of_ble_eq_true rfl) fun r5 t6 => ?_
  exact v_iretB d12_worth_25 rfl rfl
theorem d12_whyNoBranch_0 : decode cX12_whyNoBranch 0 = .ok (.aload_n 0, 1) := by decide +kernel
theorem d12_whyNoBranch_1 : decode cX12_whyNoBranch 1 = .ok (.iload_n 1, 1) := by decide +kernel
theorem d12_whyNoBranch_2 : decode cX12_whyNoBranch 2 = .ok (.invokevirtual 280, 3) := by decide +kernel
theorem d12_whyNoBranch_5 : decode cX12_whyNoBranch 5 = .ok (.ifCond .ne 5, 3) := by decide +kernel
theorem d12_whyNoBranch_8 : decode cX12_whyNoBranch 8 = .ok (.iconst 2, 1) := by decide +kernel
theorem d12_whyNoBranch_9 : decode cX12_whyNoBranch 9 = .ok (.ireturn, 1) := by decide +kernel
theorem d12_whyNoBranch_10 : decode cX12_whyNoBranch 10 = .ok (.aload_n 0, 1) := by decide +kernel
theorem d12_whyNoBranch_11 : decode cX12_whyNoBranch 11 = .ok (.getfield 35, 3) := by decide +kernel
theorem d12_whyNoBranch_14 : decode cX12_whyNoBranch 14 = .ok (.bipush 45, 2) := by decide +kernel
theorem d12_whyNoBranch_16 : decode cX12_whyNoBranch 16 = .ok (.iload_n 1, 1) := by decide +kernel
theorem d12_whyNoBranch_17 : decode cX12_whyNoBranch 17 = .ok (.iadd, 1) := by decide +kernel
theorem d12_whyNoBranch_18 : decode cX12_whyNoBranch 18 = .ok (.iaload, 1) := by decide +kernel
theorem d12_whyNoBranch_19 : decode cX12_whyNoBranch 19 = .ok (.iconst 1, 1) := by decide +kernel
theorem d12_whyNoBranch_20 : decode cX12_whyNoBranch 20 = .ok (.if_icmp .ne 28, 3) := by decide +kernel
theorem d12_whyNoBranch_23 : decode cX12_whyNoBranch 23 = .ok (.aload_n 0, 1) := by decide +kernel
theorem d12_whyNoBranch_24 : decode cX12_whyNoBranch 24 = .ok (.getfield 35, 3) := by decide +kernel
theorem d12_whyNoBranch_27 : decode cX12_whyNoBranch 27 = .ok (.iconst 5, 1) := by decide +kernel
theorem d12_whyNoBranch_28 : decode cX12_whyNoBranch 28 = .ok (.iload_n 1, 1) := by decide +kernel
theorem d12_whyNoBranch_29 : decode cX12_whyNoBranch 29 = .ok (.iadd, 1) := by decide +kernel
theorem d12_whyNoBranch_30 : decode cX12_whyNoBranch 30 = .ok (.iaload, 1) := by decide +kernel
theorem d12_whyNoBranch_31 : decode cX12_whyNoBranch 31 = .ok (.iconst 2, 1) := by decide +kernel
theorem d12_whyNoBranch_32 : decode cX12_whyNoBranch 32 = .ok (.if_icmp .ne 7, 3) := by decide +kernel
theorem d12_whyNoBranch_35 : decode cX12_whyNoBranch 35 = .ok (.iconst 1, 1) := by decide +kernel
theorem d12_whyNoBranch_36 : decode cX12_whyNoBranch 36 = .ok (.goto 4, 3) := by decide +kernel
theorem d12_whyNoBranch_39 : decode cX12_whyNoBranch 39 = .ok (.iconst 0, 1) := by decide +kernel
theorem d12_whyNoBranch_40 : decode cX12_whyNoBranch 40 = .ok (.iload_n 2, 1) := by decide +kernel
theorem d12_whyNoBranch_41 : decode cX12_whyNoBranch 41 = .ok (.if_icmp .ne 7, 3) := by decide +kernel
theorem d12_whyNoBranch_44 : decode cX12_whyNoBranch 44 = .ok (.iconst 0, 1) := by decide +kernel
theorem d12_whyNoBranch_45 : decode cX12_whyNoBranch 45 = .ok (.goto 5, 3) := by decide +kernel
theorem d12_whyNoBranch_48 : decode cX12_whyNoBranch 48 = .ok (.bipush 9, 2) := by decide +kernel
theorem d12_whyNoBranch_50 : decode cX12_whyNoBranch 50 = .ok (.ireturn, 1) := by decide +kernel
abbrev K12_whyNoBranch : CK Int32 := (enI, (some .int), 3, 3, none)
noncomputable def F12_whyNoBranch_b40 (l2 : Int32) (s0 : Int32) (σ : Ms) : Option (Int32 × Ms) :=
  if s0 ≠ l2 then (some ((9 : Int32), σ))
  else (some ((0 : Int32), σ))
noncomputable def F12_whyNoBranch (p0 : Int32) (p1 : Int32) (σ : Ms) : Option (Int32 × Ms) :=
  bn (F12_isSprigAt p0 σ) (fun r1 t2 => if r1 ≠ 0 then (ck (ixb ((45 : Int32) + p0) 1780) (if (t2.1 5 ((45 : Int32) + p0).toNatClampNeg) ≠ (1 : Int32) then (some ((9 : Int32), t2))
  else (ck (ixb ((5 : Int32) + p0) 1780) (if (t2.1 5 ((5 : Int32) + p0).toNatClampNeg) ≠ (2 : Int32) then (F12_whyNoBranch_b40 p1 (0 : Int32) t2)
  else (F12_whyNoBranch_b40 p1 (1 : Int32) t2)))))
  else (some ((2 : Int32), t2)))
set_option maxRecDepth 100000 in
theorem v12_whyNoBranch_b40 (l2 : Int32) (s0 : Int32) (σ : Ms) : VF (K12_whyNoBranch) cX12_whyNoBranch RX12 (F12_whyNoBranch_b40 l2 s0 σ) σ 40 [(2, .int l2)] [.int s0] := by
  unfold F12_whyNoBranch_b40
  refine v_iload_n d12_whyNoBranch_40 0 rfl rfl ?_
  refine v_icmp_ne (tgt := 48) d12_whyNoBranch_41 (by decide) ?_ ?_
  · refine v_bipush d12_whyNoBranch_48 kb_9 ?_
    exact v_iret d12_whyNoBranch_50 rfl rfl rfl
  · refine v_iconst d12_whyNoBranch_44 ki_0 ?_
    refine v_goto (tgt := 50) d12_whyNoBranch_45 (by decide) ?_
    exact v_iret d12_whyNoBranch_50 rfl rfl rfl
set_option maxRecDepth 100000 in
theorem mc12_whyNoBranch (p0 : Int32) (p1 : Int32) (σ : Ms) : MC enI yX12_whyNoBranch cX12_whyNoBranch 3 (some .int) 3 (F12_whyNoBranch p0 p1 σ) σ [.ref 0, .int p0, .int p1] := by
  refine MC.i (by decide +kernel) (Nat.le_of_ble_eq_true rfl) ?_
  show VF (K12_whyNoBranch) cX12_whyNoBranch RX12 (F12_whyNoBranch p0 p1 σ) σ 0 [(0, .ref 0), (1, .int p0), (2, .int p1)] []
  unfold F12_whyNoBranch
  refine v_aload_n d12_whyNoBranch_0 0 rfl rfl ?_
  refine v_iload_n d12_whyNoBranch_1 1 rfl rfl ?_
  refine v_callV1i d12_whyNoBranch_2 (mc12_isSprigAt p0 σ) yv12_isSprigAt mlX12_280 (Recv.obj ic_0 rfl) (by decide) (Nat.le_of_ble_eq_true rfl) fun r1 t2 => ?_
  refine v_if_ne (tgt := 10) d12_whyNoBranch_5 (by decide) ?_ ?_
  · refine v_aload_n d12_whyNoBranch_10 0 rfl rfl ?_
    refine v_getR d12_whyNoBranch_11 faX12_35 ic_0 rfl ?_
    refine v_bipush d12_whyNoBranch_14 kb_45 ?_
    refine v_iload_n d12_whyNoBranch_16 1 rfl rfl ?_
    refine v_iadd d12_whyNoBranch_17 ?_
    refine v_iald d12_whyNoBranch_18 ic_5 ?_
    refine v_iconst d12_whyNoBranch_19 ki_1 ?_
    refine v_icmp_ne (tgt := 48) d12_whyNoBranch_20 (by decide) ?_ ?_
    · refine v_bipush d12_whyNoBranch_48 kb_9 ?_
      exact v_iret d12_whyNoBranch_50 rfl rfl rfl
    · refine v_aload_n d12_whyNoBranch_23 0 rfl rfl ?_
      refine v_getR d12_whyNoBranch_24 faX12_35 ic_0 rfl ?_
      refine v_iconst d12_whyNoBranch_27 ki_5 ?_
      refine v_iload_n d12_whyNoBranch_28 1 rfl rfl ?_
      refine v_iadd d12_whyNoBranch_29 ?_
      refine v_iald d12_whyNoBranch_30 ic_5 ?_
      refine v_iconst d12_whyNoBranch_31 ki_2 ?_
      refine v_icmp_ne (tgt := 39) d12_whyNoBranch_32 (by decide) ?_ ?_
      · refine v_iconst d12_whyNoBranch_39 ki_0 ?_
        refine v_sub [2] rfl ?_
        exact v12_whyNoBranch_b40 p1 (0 : Int32) t2
      · refine v_iconst d12_whyNoBranch_35 ki_1 ?_
        refine v_goto (tgt := 40) d12_whyNoBranch_36 (by decide) ?_
        refine v_sub [2] rfl ?_
        exact v12_whyNoBranch_b40 p1 (1 : Int32) t2
  · refine v_iconst d12_whyNoBranch_8 ki_2 ?_
    exact v_iret d12_whyNoBranch_9 rfl rfl rfl
theorem d12_worthOf_0 : decode cX12_worthOf 0 = .ok (.aload_n 0, 1) := by decide +kernel
theorem d12_worthOf_1 : decode cX12_worthOf 1 = .ok (.iconst 0, 1) := by decide +kernel
theorem d12_worthOf_2 : decode cX12_worthOf 2 = .ok (.putfield 53, 3) := by decide +kernel
theorem d12_worthOf_5 : decode cX12_worthOf 5 = .ok (.aload_n 0, 1) := by decide +kernel
theorem d12_worthOf_6 : decode cX12_worthOf 6 = .ok (.aload_n 0, 1) := by decide +kernel
theorem d12_worthOf_7 : decode cX12_worthOf 7 = .ok (.iload_n 1, 1) := by decide +kernel
theorem d12_worthOf_8 : decode cX12_worthOf 8 = .ok (.iconst 0, 1) := by decide +kernel
theorem d12_worthOf_9 : decode cX12_worthOf 9 = .ok (.invokevirtual 331, 3) := by decide +kernel
theorem d12_worthOf_12 : decode cX12_worthOf 12 = .ok (.putfield 56, 3) := by decide +kernel
theorem d12_worthOf_15 : decode cX12_worthOf 15 = .ok (.aload_n 0, 1) := by decide +kernel
theorem d12_worthOf_16 : decode cX12_worthOf 16 = .ok (.getfield 56, 3) := by decide +kernel
theorem d12_worthOf_19 : decode cX12_worthOf 19 = .ok (.ifCond .le 5, 3) := by decide +kernel
theorem d12_worthOf_22 : decode cX12_worthOf 22 = .ok (.iconst 0, 1) := by decide +kernel
theorem d12_worthOf_23 : decode cX12_worthOf 23 = .ok (.ireturn, 1) := by decide +kernel
theorem d12_worthOf_24 : decode cX12_worthOf 24 = .ok (.aload_n 0, 1) := by decide +kernel
theorem d12_worthOf_25 : decode cX12_worthOf 25 = .ok (.invokevirtual 324, 3) := by decide +kernel
theorem d12_worthOf_28 : decode cX12_worthOf 28 = .ok (.aload_n 0, 1) := by decide +kernel
theorem d12_worthOf_29 : decode cX12_worthOf 29 = .ok (.aload_n 0, 1) := by decide +kernel
theorem d12_worthOf_30 : decode cX12_worthOf 30 = .ok (.getfield 41, 3) := by decide +kernel
theorem d12_worthOf_33 : decode cX12_worthOf 33 = .ok (.iload_n 1, 1) := by decide +kernel
theorem d12_worthOf_34 : decode cX12_worthOf 34 = .ok (.laload, 1) := by decide +kernel
theorem d12_worthOf_35 : decode cX12_worthOf 35 = .ok (.ldc2_w 307, 3) := by decide +kernel
theorem d12_worthOf_38 : decode cX12_worthOf 38 = .ok (.invokevirtual 327, 3) := by decide +kernel
theorem d12_worthOf_41 : decode cX12_worthOf 41 = .ok (.ireturn, 1) := by decide +kernel
abbrev K12_worthOf : CK Int32 := (enI, (some .boolean), 2, 5, none)
noncomputable def F12_worthOf (N : Nat) (p0 : Int32) (σ : Ms) : Option (Int32 × Ms) :=
  lt (sI σ 0 1 (0 : Int32)) (fun t1 => bn (F12_whyNoBranch p0 (0 : Int32) t1) (fun r2 t3 => lt (sI t3 0 0 r2) (fun t4 => if (t4.1 0 0) ≤ 0 then (bn (F12_laysNow N t4) (fun r5 t6 => ck (ixb p0 20) (bn (F12_fraction N (t6.2 7 p0.toNatClampNeg) (1048576 : Int64) t6) (fun r7 t8 => ck (nkB r7) (some (r7, t8))))))
  else (some ((0 : Int32), t4)))))
set_option maxRecDepth 100000 in
theorem mc12_worthOf (N : Nat) (p0 : Int32) (σ : Ms) : MC enI yX12_worthOf cX12_worthOf 2 (some .boolean) 5 (F12_worthOf N p0 σ) σ [.ref 0, .int p0] := by
  refine MC.i (by decide +kernel) (Nat.le_of_ble_eq_true rfl) ?_
  show VF (K12_worthOf) cX12_worthOf RX12 (F12_worthOf N p0 σ) σ 0 [(0, .ref 0), (1, .int p0)] []
  unfold F12_worthOf
  refine v_aload_n d12_worthOf_0 0 rfl rfl ?_
  refine v_iconst d12_worthOf_1 ki_0 ?_
  refine v_putI d12_worthOf_2 faX12_53 fp9_1 ic_0 ?_
  refine v_lts fun t1 => ?_
  refine v_aload_n d12_worthOf_5 0 rfl rfl ?_
  refine v_aload_n d12_worthOf_6 0 rfl rfl ?_
  refine v_iload_n d12_worthOf_7 1 rfl rfl ?_
  refine v_iconst d12_worthOf_8 ki_0 ?_
  refine v_callV2i d12_worthOf_9 (mc12_whyNoBranch p0 (0 : Int32) t1) yv12_whyNoBranch mlX12_331 (Recv.obj ic_0 rfl) (by decide) (Nat.le_of_ble_eq_true rfl) fun r2 t3 => ?_
  refine v_putI d12_worthOf_12 faX12_56 fp9_0 ic_0 ?_
  refine v_lts fun t4 => ?_
  refine v_aload_n d12_worthOf_15 0 rfl rfl ?_
  refine v_getI d12_worthOf_16 faX12_56 ic_0 ?_
  refine v_if_le (tgt := 24) d12_worthOf_19 (by decide) ?_ ?_
  · refine v_aload_n d12_worthOf_24 0 rfl rfl ?_
    refine v_callV0v d12_worthOf_25 (mc12_laysNow N t4) yv12_laysNow mlX12_324 (Recv.obj ic_0 rfl) (by decide) (Nat.le_of_ble_eq_true rfl) fun r5 t6 => ?_
    refine v_aload_n d12_worthOf_28 0 rfl rfl ?_
    refine v_aload_n d12_worthOf_29 0 rfl rfl ?_
    refine v_getR d12_worthOf_30 faX12_41 ic_0 rfl ?_
    refine v_iload_n d12_worthOf_33 1 rfl rfl ?_
    refine v_lald d12_worthOf_34 ic_7 ?_
    refine v_ldc2 d12_worthOf_35 klX12_307 ?_
    refine v_callV2i d12_worthOf_38 (mc12_fraction N (t6.2 7 p0.toNatClampNeg) (1048576 : Int64) t6) yv12_fraction mlX12_327 (Recv.obj ic_0 rfl) (by decide) (Nat.le_of_ble_eq_true rfl) fun r7 t8 => ?_
    exact v_iretB d12_worthOf_41 rfl rfl
  · refine v_iconst d12_worthOf_22 ki_0 ?_
    exact v_iret (ty := .boolean) d12_worthOf_23 rfl rfl rfl
theorem d12_nimber_0 : decode cX12_nimber 0 = .ok (.aload_n 0, 1) := by decide +kernel
theorem d12_nimber_1 : decode cX12_nimber 1 = .ok (.iconst 0, 1) := by decide +kernel
theorem d12_nimber_2 : decode cX12_nimber 2 = .ok (.putfield 53, 3) := by decide +kernel
theorem d12_nimber_5 : decode cX12_nimber 5 = .ok (.aload_n 0, 1) := by decide +kernel
theorem d12_nimber_6 : decode cX12_nimber 6 = .ok (.iconst 0, 1) := by decide +kernel
theorem d12_nimber_7 : decode cX12_nimber 7 = .ok (.putfield 56, 3) := by decide +kernel
theorem d12_nimber_10 : decode cX12_nimber 10 = .ok (.aload_n 0, 1) := by decide +kernel
theorem d12_nimber_11 : decode cX12_nimber 11 = .ok (.invokevirtual 324, 3) := by decide +kernel
theorem d12_nimber_14 : decode cX12_nimber 14 = .ok (.aload_n 0, 1) := by decide +kernel
theorem d12_nimber_15 : decode cX12_nimber 15 = .ok (.getfield 315, 3) := by decide +kernel
theorem d12_nimber_18 : decode cX12_nimber 18 = .ok (.ireturn, 1) := by decide +kernel
abbrev K12_nimber : CK Int32 := (enI, (some .int), 1, 5, none)
noncomputable def F12_nimber (N : Nat) (σ : Ms) : Option (Int32 × Ms) :=
  lt (sI σ 0 1 (0 : Int32)) (fun t1 => lt (sI t1 0 0 (0 : Int32)) (fun t2 => bn (F12_laysNow N t2) (fun r3 t4 => some ((t4.1 0 26), t4))))
set_option maxRecDepth 100000 in
theorem mc12_nimber (N : Nat) (σ : Ms) : MC enI yX12_nimber cX12_nimber 1 (some .int) 5 (F12_nimber N σ) σ [.ref 0] := by
  refine MC.i (by decide +kernel) (Nat.le_of_ble_eq_true rfl) ?_
  show VF (K12_nimber) cX12_nimber RX12 (F12_nimber N σ) σ 0 [(0, .ref 0)] []
  unfold F12_nimber
  refine v_aload_n d12_nimber_0 0 rfl rfl ?_
  refine v_iconst d12_nimber_1 ki_0 ?_
  refine v_putI d12_nimber_2 faX12_53 fp9_1 ic_0 ?_
  refine v_lts fun t1 => ?_
  refine v_aload_n d12_nimber_5 0 rfl rfl ?_
  refine v_iconst d12_nimber_6 ki_0 ?_
  refine v_putI d12_nimber_7 faX12_56 fp9_0 ic_0 ?_
  refine v_lts fun t2 => ?_
  refine v_aload_n d12_nimber_10 0 rfl rfl ?_
  refine v_callV0v d12_nimber_11 (mc12_laysNow N t2) yv12_laysNow mlX12_324 (Recv.obj ic_0 rfl) (by decide) (Nat.le_of_ble_eq_true rfl) fun r3 t4 => ?_
  refine v_aload_n d12_nimber_14 0 rfl rfl ?_
  refine v_getI d12_nimber_15 faX12_315 ic_0 ?_
  exact v_iret d12_nimber_18 rfl rfl rfl
theorem d12_nimOf_0 : decode cX12_nimOf 0 = .ok (.aload_n 0, 1) := by decide +kernel
theorem d12_nimOf_1 : decode cX12_nimOf 1 = .ok (.iconst 0, 1) := by decide +kernel
theorem d12_nimOf_2 : decode cX12_nimOf 2 = .ok (.putfield 53, 3) := by decide +kernel
theorem d12_nimOf_5 : decode cX12_nimOf 5 = .ok (.aload_n 0, 1) := by decide +kernel
theorem d12_nimOf_6 : decode cX12_nimOf 6 = .ok (.aload_n 0, 1) := by decide +kernel
theorem d12_nimOf_7 : decode cX12_nimOf 7 = .ok (.iload_n 1, 1) := by decide +kernel
theorem d12_nimOf_8 : decode cX12_nimOf 8 = .ok (.iconst 1, 1) := by decide +kernel
theorem d12_nimOf_9 : decode cX12_nimOf 9 = .ok (.invokevirtual 331, 3) := by decide +kernel
theorem d12_nimOf_12 : decode cX12_nimOf 12 = .ok (.putfield 56, 3) := by decide +kernel
theorem d12_nimOf_15 : decode cX12_nimOf 15 = .ok (.aload_n 0, 1) := by decide +kernel
theorem d12_nimOf_16 : decode cX12_nimOf 16 = .ok (.getfield 56, 3) := by decide +kernel
theorem d12_nimOf_19 : decode cX12_nimOf 19 = .ok (.ifCond .le 5, 3) := by decide +kernel
theorem d12_nimOf_22 : decode cX12_nimOf 22 = .ok (.iconst (-1), 1) := by decide +kernel
theorem d12_nimOf_23 : decode cX12_nimOf 23 = .ok (.ireturn, 1) := by decide +kernel
theorem d12_nimOf_24 : decode cX12_nimOf 24 = .ok (.aload_n 0, 1) := by decide +kernel
theorem d12_nimOf_25 : decode cX12_nimOf 25 = .ok (.invokevirtual 324, 3) := by decide +kernel
theorem d12_nimOf_28 : decode cX12_nimOf 28 = .ok (.aload_n 0, 1) := by decide +kernel
theorem d12_nimOf_29 : decode cX12_nimOf 29 = .ok (.getfield 44, 3) := by decide +kernel
theorem d12_nimOf_32 : decode cX12_nimOf 32 = .ok (.iload_n 1, 1) := by decide +kernel
theorem d12_nimOf_33 : decode cX12_nimOf 33 = .ok (.iaload, 1) := by decide +kernel
theorem d12_nimOf_34 : decode cX12_nimOf 34 = .ok (.ireturn, 1) := by decide +kernel
abbrev K12_nimOf : CK Int32 := (enI, (some .int), 2, 5, none)
noncomputable def F12_nimOf (N : Nat) (p0 : Int32) (σ : Ms) : Option (Int32 × Ms) :=
  lt (sI σ 0 1 (0 : Int32)) (fun t1 => bn (F12_whyNoBranch p0 (1 : Int32) t1) (fun r2 t3 => lt (sI t3 0 0 r2) (fun t4 => if (t4.1 0 0) ≤ 0 then (bn (F12_laysNow N t4) (fun r5 t6 => ck (ixb p0 20) (some ((t6.1 8 p0.toNatClampNeg), t6))))
  else (some ((-1 : Int32), t4)))))
set_option maxRecDepth 100000 in
theorem mc12_nimOf (N : Nat) (p0 : Int32) (σ : Ms) : MC enI yX12_nimOf cX12_nimOf 2 (some .int) 5 (F12_nimOf N p0 σ) σ [.ref 0, .int p0] := by
  refine MC.i (by decide +kernel) (Nat.le_of_ble_eq_true rfl) ?_
  show VF (K12_nimOf) cX12_nimOf RX12 (F12_nimOf N p0 σ) σ 0 [(0, .ref 0), (1, .int p0)] []
  unfold F12_nimOf
  refine v_aload_n d12_nimOf_0 0 rfl rfl ?_
  refine v_iconst d12_nimOf_1 ki_0 ?_
  refine v_putI d12_nimOf_2 faX12_53 fp9_1 ic_0 ?_
  refine v_lts fun t1 => ?_
  refine v_aload_n d12_nimOf_5 0 rfl rfl ?_
  refine v_aload_n d12_nimOf_6 0 rfl rfl ?_
  refine v_iload_n d12_nimOf_7 1 rfl rfl ?_
  refine v_iconst d12_nimOf_8 ki_1 ?_
  refine v_callV2i d12_nimOf_9 (mc12_whyNoBranch p0 (1 : Int32) t1) yv12_whyNoBranch mlX12_331 (Recv.obj ic_0 rfl) (by decide) (Nat.le_of_ble_eq_true rfl) fun r2 t3 => ?_
  refine v_putI d12_nimOf_12 faX12_56 fp9_0 ic_0 ?_
  refine v_lts fun t4 => ?_
  refine v_aload_n d12_nimOf_15 0 rfl rfl ?_
  refine v_getI d12_nimOf_16 faX12_56 ic_0 ?_
  refine v_if_le (tgt := 24) d12_nimOf_19 (by decide) ?_ ?_
  · refine v_aload_n d12_nimOf_24 0 rfl rfl ?_
    refine v_callV0v d12_nimOf_25 (mc12_laysNow N t4) yv12_laysNow mlX12_324 (Recv.obj ic_0 rfl) (by decide) (Nat.le_of_ble_eq_true rfl) fun r5 t6 => ?_
    refine v_aload_n d12_nimOf_28 0 rfl rfl ?_
    refine v_getR d12_nimOf_29 faX12_44 ic_0 rfl ?_
    refine v_iload_n d12_nimOf_32 1 rfl rfl ?_
    refine v_iald d12_nimOf_33 ic_8 ?_
    exact v_iret d12_nimOf_34 rfl rfl rfl
  · refine v_iconst d12_nimOf_22 ki_m1 ?_
    exact v_iret d12_nimOf_23 rfl rfl rfl
theorem d12_compare_0 : decode cX12_compare 0 = .ok (.aload_n 0, 1) := by decide +kernel
theorem d12_compare_1 : decode cX12_compare 1 = .ok (.iconst 0, 1) := by decide +kernel
theorem d12_compare_2 : decode cX12_compare 2 = .ok (.putfield 53, 3) := by decide +kernel
theorem d12_compare_5 : decode cX12_compare 5 = .ok (.aload_n 0, 1) := by decide +kernel
theorem d12_compare_6 : decode cX12_compare 6 = .ok (.aload_n 0, 1) := by decide +kernel
theorem d12_compare_7 : decode cX12_compare 7 = .ok (.iload_n 1, 1) := by decide +kernel
theorem d12_compare_8 : decode cX12_compare 8 = .ok (.invokevirtual 280, 3) := by decide +kernel
theorem d12_compare_11 : decode cX12_compare 11 = .ok (.ifCond .eq 11, 3) := by decide +kernel
theorem d12_compare_14 : decode cX12_compare 14 = .ok (.aload_n 0, 1) := by decide +kernel
theorem d12_compare_15 : decode cX12_compare 15 = .ok (.iload_n 2, 1) := by decide +kernel
theorem d12_compare_16 : decode cX12_compare 16 = .ok (.invokevirtual 280, 3) := by decide +kernel
theorem d12_compare_19 : decode cX12_compare 19 = .ok (.ifCond .ne 7, 3) := by decide +kernel
theorem d12_compare_22 : decode cX12_compare 22 = .ok (.iconst 2, 1) := by decide +kernel
theorem d12_compare_23 : decode cX12_compare 23 = .ok (.goto 18, 3) := by decide +kernel
theorem d12_compare_26 : decode cX12_compare 26 = .ok (.aload_n 0, 1) := by decide +kernel
theorem d12_compare_27 : decode cX12_compare 27 = .ok (.iload_n 1, 1) := by decide +kernel
theorem d12_compare_28 : decode cX12_compare 28 = .ok (.iconst 0, 1) := by decide +kernel
theorem d12_compare_29 : decode cX12_compare 29 = .ok (.invokevirtual 331, 3) := by decide +kernel
theorem d12_compare_32 : decode cX12_compare 32 = .ok (.aload_n 0, 1) := by decide +kernel
theorem d12_compare_33 : decode cX12_compare 33 = .ok (.iload_n 2, 1) := by decide +kernel
theorem d12_compare_34 : decode cX12_compare 34 = .ok (.iconst 0, 1) := by decide +kernel
theorem d12_compare_35 : decode cX12_compare 35 = .ok (.invokevirtual 331, 3) := by decide +kernel
theorem d12_compare_38 : decode cX12_compare 38 = .ok (.invokestatic 165, 3) := by decide +kernel
theorem d12_compare_41 : decode cX12_compare 41 = .ok (.putfield 56, 3) := by decide +kernel
theorem d12_compare_44 : decode cX12_compare 44 = .ok (.aload_n 0, 1) := by decide +kernel
theorem d12_compare_45 : decode cX12_compare 45 = .ok (.getfield 56, 3) := by decide +kernel
theorem d12_compare_48 : decode cX12_compare 48 = .ok (.ifCond .le 5, 3) := by decide +kernel
theorem d12_compare_51 : decode cX12_compare 51 = .ok (.iconst (-1), 1) := by decide +kernel
theorem d12_compare_52 : decode cX12_compare 52 = .ok (.ireturn, 1) := by decide +kernel
theorem d12_compare_53 : decode cX12_compare 53 = .ok (.aload_n 0, 1) := by decide +kernel
theorem d12_compare_54 : decode cX12_compare 54 = .ok (.invokevirtual 324, 3) := by decide +kernel
theorem d12_compare_57 : decode cX12_compare 57 = .ok (.aload_n 0, 1) := by decide +kernel
theorem d12_compare_58 : decode cX12_compare 58 = .ok (.getfield 41, 3) := by decide +kernel
theorem d12_compare_61 : decode cX12_compare 61 = .ok (.iload_n 1, 1) := by decide +kernel
theorem d12_compare_62 : decode cX12_compare 62 = .ok (.laload, 1) := by decide +kernel
theorem d12_compare_63 : decode cX12_compare 63 = .ok (.aload_n 0, 1) := by decide +kernel
theorem d12_compare_64 : decode cX12_compare 64 = .ok (.getfield 41, 3) := by decide +kernel
theorem d12_compare_67 : decode cX12_compare 67 = .ok (.iload_n 2, 1) := by decide +kernel
theorem d12_compare_68 : decode cX12_compare 68 = .ok (.laload, 1) := by decide +kernel
theorem d12_compare_69 : decode cX12_compare 69 = .ok (.lcmp, 1) := by decide +kernel
theorem d12_compare_70 : decode cX12_compare 70 = .ok (.ifCond .ge 7, 3) := by decide +kernel
theorem d12_compare_73 : decode cX12_compare 73 = .ok (.iconst 0, 1) := by decide +kernel
theorem d12_compare_74 : decode cX12_compare 74 = .ok (.goto 24, 3) := by decide +kernel
theorem d12_compare_77 : decode cX12_compare 77 = .ok (.aload_n 0, 1) := by decide +kernel
theorem d12_compare_78 : decode cX12_compare 78 = .ok (.getfield 41, 3) := by decide +kernel
theorem d12_compare_81 : decode cX12_compare 81 = .ok (.iload_n 1, 1) := by decide +kernel
theorem d12_compare_82 : decode cX12_compare 82 = .ok (.laload, 1) := by decide +kernel
theorem d12_compare_83 : decode cX12_compare 83 = .ok (.aload_n 0, 1) := by decide +kernel
theorem d12_compare_84 : decode cX12_compare 84 = .ok (.getfield 41, 3) := by decide +kernel
theorem d12_compare_87 : decode cX12_compare 87 = .ok (.iload_n 2, 1) := by decide +kernel
theorem d12_compare_88 : decode cX12_compare 88 = .ok (.laload, 1) := by decide +kernel
theorem d12_compare_89 : decode cX12_compare 89 = .ok (.lcmp, 1) := by decide +kernel
theorem d12_compare_90 : decode cX12_compare 90 = .ok (.ifCond .ne 7, 3) := by decide +kernel
theorem d12_compare_93 : decode cX12_compare 93 = .ok (.iconst 1, 1) := by decide +kernel
theorem d12_compare_94 : decode cX12_compare 94 = .ok (.goto 4, 3) := by decide +kernel
theorem d12_compare_97 : decode cX12_compare 97 = .ok (.iconst 2, 1) := by decide +kernel
theorem d12_compare_98 : decode cX12_compare 98 = .ok (.ireturn, 1) := by decide +kernel
abbrev K12_compare : CK Int32 := (enI, (some .int), 3, 5, none)
noncomputable def F12_compare_b41 (N : Nat) (l1 : Int32) (l2 : Int32) (s1 : Int32) (σ : Ms) : Option (Int32 × Ms) :=
  lt (sI σ 0 0 s1) (fun t1 => if (t1.1 0 0) ≤ 0 then (bn (F12_laysNow N t1) (fun r2 t3 => ck (ixb l1 20) (ck (ixb l2 20) (if 0 ≤ (lg_cmp (t3.2 7 l1.toNatClampNeg) (t3.2 7 l2.toNatClampNeg)) then (ck (ixb l1 20) (ck (ixb l2 20) (if (lg_cmp (t3.2 7 l1.toNatClampNeg) (t3.2 7 l2.toNatClampNeg)) ≠ 0 then (some ((2 : Int32), t3))
  else (some ((1 : Int32), t3)))))
  else (some ((0 : Int32), t3))))))
  else (some ((-1 : Int32), t1)))
noncomputable def F12_compare_b22 (N : Nat) (l1 : Int32) (l2 : Int32) (σ : Ms) : Option (Int32 × Ms) :=
  F12_compare_b41 N l1 l2 (2 : Int32) σ
noncomputable def F12_compare (N : Nat) (p0 : Int32) (p1 : Int32) (σ : Ms) : Option (Int32 × Ms) :=
  lt (sI σ 0 1 (0 : Int32)) (fun t4 => bn (F12_isSprigAt p0 t4) (fun r5 t6 => if r5 = 0 then (F12_compare_b22 N p0 p1 t6)
  else (bn (F12_isSprigAt p1 t6) (fun r7 t8 => if r7 ≠ 0 then (bn (F12_whyNoBranch p0 (0 : Int32) t8) (fun r9 t10 => bn (F12_whyNoBranch p1 (0 : Int32) t10) (fun r11 t12 => bn (FJ9_max_7cf53 r9 r11 t12) (fun r13 t14 => F12_compare_b41 N p0 p1 r13 t14))))
  else (F12_compare_b22 N p0 p1 t8)))))
set_option maxRecDepth 100000 in
theorem v12_compare_b41 (N : Nat) (l1 : Int32) (l2 : Int32) (s1 : Int32) (σ : Ms) : VF (K12_compare) cX12_compare RX12 (F12_compare_b41 N l1 l2 s1 σ) σ 41 [(0, .ref 0), (1, .int l1), (2, .int l2)] [.int s1, .ref 0] := by
  unfold F12_compare_b41
  refine v_putI d12_compare_41 faX12_56 fp9_0 ic_0 ?_
  refine v_lts fun t1 => ?_
  refine v_aload_n d12_compare_44 0 rfl rfl ?_
  refine v_getI d12_compare_45 faX12_56 ic_0 ?_
  refine v_if_le (tgt := 53) d12_compare_48 (by decide) ?_ ?_
  · refine v_aload_n d12_compare_53 0 rfl rfl ?_
    refine v_callV0v d12_compare_54 (mc12_laysNow N t1) yv12_laysNow mlX12_324 (Recv.obj ic_0 rfl) (by decide) (Nat.le_of_ble_eq_true rfl) fun r2 t3 => ?_
    refine v_aload_n d12_compare_57 0 rfl rfl ?_
    refine v_getR d12_compare_58 faX12_41 ic_0 rfl ?_
    refine v_iload_n d12_compare_61 1 rfl rfl ?_
    refine v_lald d12_compare_62 ic_7 ?_
    refine v_aload_n d12_compare_63 0 rfl rfl ?_
    refine v_getR d12_compare_64 faX12_41 ic_0 rfl ?_
    refine v_iload_n d12_compare_67 2 rfl rfl ?_
    refine v_lald d12_compare_68 ic_7 ?_
    refine v_lcmp d12_compare_69 ?_
    refine v_if_ge (tgt := 77) d12_compare_70 (by decide) ?_ ?_
    · refine v_aload_n d12_compare_77 0 rfl rfl ?_
      refine v_getR d12_compare_78 faX12_41 ic_0 rfl ?_
      refine v_iload_n d12_compare_81 1 rfl rfl ?_
      refine v_lald d12_compare_82 ic_7 ?_
      refine v_aload_n d12_compare_83 0 rfl rfl ?_
      refine v_getR d12_compare_84 faX12_41 ic_0 rfl ?_
      refine v_iload_n d12_compare_87 2 rfl rfl ?_
      refine v_lald d12_compare_88 ic_7 ?_
      refine v_lcmp d12_compare_89 ?_
      refine v_if_ne (tgt := 97) d12_compare_90 (by decide) ?_ ?_
      · refine v_iconst d12_compare_97 ki_2 ?_
        exact v_iret d12_compare_98 rfl rfl rfl
      · refine v_iconst d12_compare_93 ki_1 ?_
        refine v_goto (tgt := 98) d12_compare_94 (by decide) ?_
        exact v_iret d12_compare_98 rfl rfl rfl
    · refine v_iconst d12_compare_73 ki_0 ?_
      refine v_goto (tgt := 98) d12_compare_74 (by decide) ?_
      exact v_iret d12_compare_98 rfl rfl rfl
  · refine v_iconst d12_compare_51 ki_m1 ?_
    exact v_iret d12_compare_52 rfl rfl rfl
set_option maxRecDepth 100000 in
theorem v12_compare_b22 (N : Nat) (l1 : Int32) (l2 : Int32) (σ : Ms) : VF (K12_compare) cX12_compare RX12 (F12_compare_b22 N l1 l2 σ) σ 22 [(0, .ref 0), (1, .int l1), (2, .int l2)] [.ref 0] := by
  unfold F12_compare_b22
  refine v_iconst d12_compare_22 ki_2 ?_
  refine v_goto (tgt := 41) d12_compare_23 (by decide) ?_
  exact v12_compare_b41 N l1 l2 (2 : Int32) σ
set_option maxRecDepth 100000 in
theorem mc12_compare (N : Nat) (p0 : Int32) (p1 : Int32) (σ : Ms) : MC enI yX12_compare cX12_compare 3 (some .int) 5 (F12_compare N p0 p1 σ) σ [.ref 0, .int p0, .int p1] := by
  refine MC.i (by decide +kernel) (Nat.le_of_ble_eq_true rfl) ?_
  show VF (K12_compare) cX12_compare RX12 (F12_compare N p0 p1 σ) σ 0 [(0, .ref 0), (1, .int p0), (2, .int p1)] []
  unfold F12_compare
  refine v_aload_n d12_compare_0 0 rfl rfl ?_
  refine v_iconst d12_compare_1 ki_0 ?_
  refine v_putI d12_compare_2 faX12_53 fp9_1 ic_0 ?_
  refine v_lts fun t4 => ?_
  refine v_aload_n d12_compare_5 0 rfl rfl ?_
  refine v_aload_n d12_compare_6 0 rfl rfl ?_
  refine v_iload_n d12_compare_7 1 rfl rfl ?_
  refine v_callV1i d12_compare_8 (mc12_isSprigAt p0 t4) yv12_isSprigAt mlX12_280 (Recv.obj ic_0 rfl) (by decide) (Nat.le_of_ble_eq_true rfl) fun r5 t6 => ?_
  refine v_if_eq (tgt := 22) d12_compare_11 (by decide) ?_ ?_
  · exact v12_compare_b22 N p0 p1 t6
  · refine v_aload_n d12_compare_14 0 rfl rfl ?_
    refine v_iload_n d12_compare_15 2 rfl rfl ?_
    refine v_callV1i d12_compare_16 (mc12_isSprigAt p1 t6) yv12_isSprigAt mlX12_280 (Recv.obj ic_0 rfl) (by decide) (Nat.le_of_ble_eq_true rfl) fun r7 t8 => ?_
    refine v_if_ne (tgt := 26) d12_compare_19 (by decide) ?_ ?_
    · refine v_aload_n d12_compare_26 0 rfl rfl ?_
      refine v_iload_n d12_compare_27 1 rfl rfl ?_
      refine v_iconst d12_compare_28 ki_0 ?_
      refine v_callV2i d12_compare_29 (mc12_whyNoBranch p0 (0 : Int32) t8) yv12_whyNoBranch mlX12_331 (Recv.obj ic_0 rfl) (by decide) (Nat.le_of_ble_eq_true rfl) fun r9 t10 => ?_
      refine v_aload_n d12_compare_32 0 rfl rfl ?_
      refine v_iload_n d12_compare_33 2 rfl rfl ?_
      refine v_iconst d12_compare_34 ki_0 ?_
      refine v_callV2i d12_compare_35 (mc12_whyNoBranch p1 (0 : Int32) t10) yv12_whyNoBranch mlX12_331 (Recv.obj ic_0 rfl) (by decide) (Nat.le_of_ble_eq_true rfl) fun r11 t12 => ?_
      refine v_callS2i d12_compare_38 (mcJ9_max_7cf53 r9 r11 t12) ysJ9_max_7cf53 mlX12_165 (by decide) (Nat.le_of_ble_eq_true rfl) fun r13 t14 => ?_
      exact v12_compare_b41 N p0 p1 r13 t14
    · exact v12_compare_b22 N p0 p1 t8
theorem d12_cuts_0 : decode cX12_cuts 0 = .ok (.aload_n 0, 1) := by decide +kernel
theorem d12_cuts_1 : decode cX12_cuts 1 = .ok (.iload_n 2, 1) := by decide +kernel
theorem d12_cuts_2 : decode cX12_cuts 2 = .ok (.invokevirtual 280, 3) := by decide +kernel
theorem d12_cuts_5 : decode cX12_cuts 5 = .ok (.ifCond .eq 24, 3) := by decide +kernel
theorem d12_cuts_8 : decode cX12_cuts 8 = .ok (.aload_n 0, 1) := by decide +kernel
theorem d12_cuts_9 : decode cX12_cuts 9 = .ok (.getfield 35, 3) := by decide +kernel
theorem d12_cuts_12 : decode cX12_cuts 12 = .ok (.bipush 45, 2) := by decide +kernel
theorem d12_cuts_14 : decode cX12_cuts 14 = .ok (.iload_n 2, 1) := by decide +kernel
theorem d12_cuts_15 : decode cX12_cuts 15 = .ok (.iadd, 1) := by decide +kernel
theorem d12_cuts_16 : decode cX12_cuts 16 = .ok (.iaload, 1) := by decide +kernel
theorem d12_cuts_17 : decode cX12_cuts 17 = .ok (.ifCond .eq 12, 3) := by decide +kernel
theorem d12_cuts_20 : decode cX12_cuts 20 = .ok (.aload_n 0, 1) := by decide +kernel
theorem d12_cuts_21 : decode cX12_cuts 21 = .ok (.iload_n 1, 1) := by decide +kernel
theorem d12_cuts_22 : decode cX12_cuts 22 = .ok (.iload_n 2, 1) := by decide +kernel
theorem d12_cuts_23 : decode cX12_cuts 23 = .ok (.invokevirtual 335, 3) := by decide +kernel
theorem d12_cuts_26 : decode cX12_cuts 26 = .ok (.ifCond .ne 5, 3) := by decide +kernel
theorem d12_cuts_29 : decode cX12_cuts 29 = .ok (.iconst (-1), 1) := by decide +kernel
theorem d12_cuts_30 : decode cX12_cuts 30 = .ok (.ireturn, 1) := by decide +kernel
theorem d12_cuts_31 : decode cX12_cuts 31 = .ok (.aload_n 0, 1) := by decide +kernel
theorem d12_cuts_32 : decode cX12_cuts 32 = .ok (.aload_n 0, 1) := by decide +kernel
theorem d12_cuts_33 : decode cX12_cuts 33 = .ok (.invokevirtual 268, 3) := by decide +kernel
theorem d12_cuts_36 : decode cX12_cuts 36 = .ok (.iconst 1, 1) := by decide +kernel
theorem d12_cuts_37 : decode cX12_cuts 37 = .ok (.iload_n 2, 1) := by decide +kernel
theorem d12_cuts_38 : decode cX12_cuts 38 = .ok (.ishl, 1) := by decide +kernel
theorem d12_cuts_39 : decode cX12_cuts 39 = .ok (.invokevirtual 274, 3) := by decide +kernel
theorem d12_cuts_42 : decode cX12_cuts 42 = .ok (.istore_n 3, 1) := by decide +kernel
theorem d12_cuts_43 : decode cX12_cuts 43 = .ok (.aload_n 0, 1) := by decide +kernel
theorem d12_cuts_44 : decode cX12_cuts 44 = .ok (.invokevirtual 268, 3) := by decide +kernel
theorem d12_cuts_47 : decode cX12_cuts 47 = .ok (.invokestatic 277, 3) := by decide +kernel
theorem d12_cuts_50 : decode cX12_cuts 50 = .ok (.iload_n 3, 1) := by decide +kernel
theorem d12_cuts_51 : decode cX12_cuts 51 = .ok (.invokestatic 277, 3) := by decide +kernel
theorem d12_cuts_54 : decode cX12_cuts 54 = .ok (.isub, 1) := by decide +kernel
theorem d12_cuts_55 : decode cX12_cuts 55 = .ok (.istore 4, 2) := by decide +kernel
theorem d12_cuts_57 : decode cX12_cuts 57 = .ok (.iconst 0, 1) := by decide +kernel
theorem d12_cuts_58 : decode cX12_cuts 58 = .ok (.istore 5, 2) := by decide +kernel
theorem d12_cuts_60 : decode cX12_cuts 60 = .ok (.iload 5, 2) := by decide +kernel
theorem d12_cuts_62 : decode cX12_cuts 62 = .ok (.aload_n 0, 1) := by decide +kernel
theorem d12_cuts_63 : decode cX12_cuts 63 = .ok (.getfield 35, 3) := by decide +kernel
theorem d12_cuts_66 : decode cX12_cuts 66 = .ok (.iconst 0, 1) := by decide +kernel
theorem d12_cuts_67 : decode cX12_cuts 67 = .ok (.iaload, 1) := by decide +kernel
theorem d12_cuts_68 : decode cX12_cuts 68 = .ok (.if_icmp .ge 33, 3) := by decide +kernel
theorem d12_cuts_71 : decode cX12_cuts 71 = .ok (.aload_n 0, 1) := by decide +kernel
theorem d12_cuts_72 : decode cX12_cuts 72 = .ok (.getfield 35, 3) := by decide +kernel
theorem d12_cuts_75 : decode cX12_cuts 75 = .ok (.bipush 45, 2) := by decide +kernel
theorem d12_cuts_77 : decode cX12_cuts 77 = .ok (.iload 5, 2) := by decide +kernel
theorem d12_cuts_79 : decode cX12_cuts 79 = .ok (.iadd, 1) := by decide +kernel
theorem d12_cuts_80 : decode cX12_cuts 80 = .ok (.iload_n 3, 1) := by decide +kernel
theorem d12_cuts_81 : decode cX12_cuts 81 = .ok (.iload 5, 2) := by decide +kernel
theorem d12_cuts_83 : decode cX12_cuts 83 = .ok (.invokestatic 92, 3) := by decide +kernel
theorem d12_cuts_86 : decode cX12_cuts 86 = .ok (.ifCond .eq 7, 3) := by decide +kernel
theorem d12_cuts_89 : decode cX12_cuts 89 = .ok (.iconst 1, 1) := by decide +kernel
theorem d12_cuts_90 : decode cX12_cuts 90 = .ok (.goto 4, 3) := by decide +kernel
theorem d12_cuts_93 : decode cX12_cuts 93 = .ok (.iconst 0, 1) := by decide +kernel
theorem d12_cuts_94 : decode cX12_cuts 94 = .ok (.iastore, 1) := by decide +kernel
theorem d12_cuts_95 : decode cX12_cuts 95 = .ok (.iinc 5 1, 3) := by decide +kernel
theorem d12_cuts_98 : decode cX12_cuts 98 = .ok (.goto (-38), 3) := by decide +kernel
theorem d12_cuts_101 : decode cX12_cuts 101 = .ok (.aload_n 0, 1) := by decide +kernel
theorem d12_cuts_102 : decode cX12_cuts 102 = .ok (.getfield 35, 3) := by decide +kernel
theorem d12_cuts_105 : decode cX12_cuts 105 = .ok (.iconst 4, 1) := by decide +kernel
theorem d12_cuts_106 : decode cX12_cuts 106 = .ok (.dup2, 1) := by decide +kernel
theorem d12_cuts_107 : decode cX12_cuts 107 = .ok (.iaload, 1) := by decide +kernel
theorem d12_cuts_108 : decode cX12_cuts 108 = .ok (.iconst 1, 1) := by decide +kernel
theorem d12_cuts_109 : decode cX12_cuts 109 = .ok (.iadd, 1) := by decide +kernel
theorem d12_cuts_110 : decode cX12_cuts 110 = .ok (.iastore, 1) := by decide +kernel
theorem d12_cuts_111 : decode cX12_cuts 111 = .ok (.iload 4, 2) := by decide +kernel
theorem d12_cuts_113 : decode cX12_cuts 113 = .ok (.ireturn, 1) := by decide +kernel
abbrev K12_cuts : CK Int32 := (enI, (some .int), 6, 3, none)
noncomputable def F12_cuts_b94 (N : Nat) (k60 : Int32 × Int32 × Int32 × Ms → Option (Int32 × Ms)) (l3 : Int32) (l4 : Int32) (l5 : Int32) (s1 : Int32) (s2 : Int32) (σ : Ms) : Option (Int32 × Ms) :=
  ck (ixb s1 1780) (lt (sI σ 5 s1.toNatClampNeg s2) (fun t1 => k60 (l3, l4, (l5 + (1 : Int32)), t1)))
noncomputable def F12_cuts_b60B (N : Nat) (k60 : Int32 × Int32 × Int32 × Ms → Option (Int32 × Ms)) (l3 : Int32) (l4 : Int32) (l5 : Int32) (σ : Ms) : Option (Int32 × Ms) :=
  ck (ixb (0 : Int32) 1780) (if (σ.1 5 (0 : Int32).toNatClampNeg) ≤ l5 then (ck (ixb (4 : Int32) 1780) (ck (ixb (4 : Int32) 1780) (lt (sI σ 5 (4 : Int32).toNatClampNeg ((σ.1 5 (4 : Int32).toNatClampNeg) + (1 : Int32))) (fun t2 => some (l4, t2)))))
  else (bn (F12_has l3 l5 σ) (fun r3 t4 => if r3 = 0 then (F12_cuts_b94 N k60 l3 l4 l5 ((45 : Int32) + l5) (0 : Int32) t4)
  else (F12_cuts_b94 N k60 l3 l4 l5 ((45 : Int32) + l5) (1 : Int32) t4))))
noncomputable def F12_cuts_b60 (N : Nat) (l3 : Int32) (l4 : Int32) (l5 : Int32) (σ : Ms) : Option (Int32 × Ms) :=
  fx N (fun k x => F12_cuts_b60B N k x.1 x.2.1 x.2.2.1 x.2.2.2) (l3, l4, l5, σ)
noncomputable def F12_cuts (N : Nat) (p0 : Int32) (p1 : Int32) (σ : Ms) : Option (Int32 × Ms) :=
  bn (F12_isSprigAt p1 σ) (fun r5 t6 => if r5 = 0 then (some ((-1 : Int32), t6))
  else (ck (ixb ((45 : Int32) + p1) 1780) (if (t6.1 5 ((45 : Int32) + p1).toNatClampNeg) = 0 then (some ((-1 : Int32), t6))
  else (bn (F12_may p0 p1 t6) (fun r7 t8 => if r7 ≠ 0 then (bn (F12_standing N t8) (fun r9 t10 => bn (F12_standsBut N r9 ((1 : Int32) <<< (p1 &&& 31)) t10) (fun r11 t12 => bn (F12_standing N t12) (fun r13 t14 => bn (F12_sizeOf N r13 t14) (fun r15 t16 => bn (F12_sizeOf N r11 t16) (fun r17 t18 => lt (r15 - r17) (fun x19 => F12_cuts_b60 N r11 x19 (0 : Int32) t18)))))))
  else (some ((-1 : Int32), t8)))))))
set_option maxRecDepth 100000 in
theorem v12_cuts_b94 (N : Nat) (k60 : Int32 × Int32 × Int32 × Ms → Option (Int32 × Ms)) (hk60 : ∀ (l3 : Int32) (l4 : Int32) (l5 : Int32) (τ : Ms), VF (K12_cuts) cX12_cuts RX12 (k60 (l3, l4, l5, τ)) τ 60 [(0, .ref 0), (3, .int l3), (4, .int l4), (5, .int l5)] []) (l3 : Int32) (l4 : Int32) (l5 : Int32) (s1 : Int32) (s2 : Int32) (σ : Ms) : VF (K12_cuts) cX12_cuts RX12 (F12_cuts_b94 N k60 l3 l4 l5 s1 s2 σ) σ 94 [(0, .ref 0), (3, .int l3), (4, .int l4), (5, .int l5)] [.int s2, .int s1, .ref 5] := by
  unfold F12_cuts_b94
  refine v_iast d12_cuts_94 ic_5 ?_
  refine v_lts fun t1 => ?_
  refine v_iinc (lv' := [(5, .int (l5 + (1 : Int32))), (0, .ref 0), (3, .int l3), (4, .int l4)]) d12_cuts_95 3 rfl (by rw [ki_1]) (by decide) rfl ?_
  refine v_goto (tgt := 60) d12_cuts_98 (by decide) ?_
  refine v_sub [1, 2, 3, 0] rfl ?_
  exact hk60 l3 l4 (l5 + (1 : Int32)) t1
set_option maxRecDepth 100000 in
theorem v12_cuts_b60B (N : Nat) (k60 : Int32 × Int32 × Int32 × Ms → Option (Int32 × Ms)) (hk60 : ∀ (l3 : Int32) (l4 : Int32) (l5 : Int32) (τ : Ms), VF (K12_cuts) cX12_cuts RX12 (k60 (l3, l4, l5, τ)) τ 60 [(0, .ref 0), (3, .int l3), (4, .int l4), (5, .int l5)] []) (l3 : Int32) (l4 : Int32) (l5 : Int32) (σ : Ms) : VF (K12_cuts) cX12_cuts RX12 (F12_cuts_b60B N k60 l3 l4 l5 σ) σ 60 [(0, .ref 0), (3, .int l3), (4, .int l4), (5, .int l5)] [] := by
  unfold F12_cuts_b60B
  refine v_iload d12_cuts_60 3 rfl ?_
  refine v_aload_n d12_cuts_62 0 rfl rfl ?_
  refine v_getR d12_cuts_63 faX12_35 ic_0 rfl ?_
  refine v_iconst d12_cuts_66 ki_0 ?_
  refine v_iald d12_cuts_67 ic_5 ?_
  refine v_icmp_ge (tgt := 101) d12_cuts_68 (by decide) ?_ ?_
  · refine v_aload_n d12_cuts_101 0 rfl rfl ?_
    refine v_getR d12_cuts_102 faX12_35 ic_0 rfl ?_
    refine v_iconst d12_cuts_105 ki_4 ?_
    refine v_dup2_11 d12_cuts_106 rfl rfl ?_
    refine v_iald d12_cuts_107 ic_5 ?_
    refine v_iconst d12_cuts_108 ki_1 ?_
    refine v_iadd d12_cuts_109 ?_
    refine v_iast d12_cuts_110 ic_5 ?_
    refine v_lts fun t2 => ?_
    refine v_iload d12_cuts_111 2 rfl ?_
    exact v_iret d12_cuts_113 rfl rfl rfl
  · refine v_aload_n d12_cuts_71 0 rfl rfl ?_
    refine v_getR d12_cuts_72 faX12_35 ic_0 rfl ?_
    refine v_bipush d12_cuts_75 kb_45 ?_
    refine v_iload d12_cuts_77 3 rfl ?_
    refine v_iadd d12_cuts_79 ?_
    refine v_iload_n d12_cuts_80 1 rfl rfl ?_
    refine v_iload d12_cuts_81 3 rfl ?_
    refine v_callS2i d12_cuts_83 (mc12_has l3 l5 σ) ys12_has mlX12_92 (by decide) (Nat.le_of_ble_eq_true rfl) fun r3 t4 => ?_
    refine v_if_eq (tgt := 93) d12_cuts_86 (by decide) ?_ ?_
    · refine v_iconst d12_cuts_93 ki_0 ?_
      exact v12_cuts_b94 N k60 hk60 l3 l4 l5 ((45 : Int32) + l5) (0 : Int32) t4
    · refine v_iconst d12_cuts_89 ki_1 ?_
      refine v_goto (tgt := 94) d12_cuts_90 (by decide) ?_
      exact v12_cuts_b94 N k60 hk60 l3 l4 l5 ((45 : Int32) + l5) (1 : Int32) t4
theorem v12_cuts_b60 (N : Nat) (l3 : Int32) (l4 : Int32) (l5 : Int32) (σ : Ms) : VF (K12_cuts) cX12_cuts RX12 (F12_cuts_b60 N l3 l4 l5 σ) σ 60 [(0, .ref 0), (3, .int l3), (4, .int l4), (5, .int l5)] [] := v_fx (σo := fun x => x.2.2.2) (lo := fun x => [(0, .ref 0), (3, .int x.1), (4, .int x.2.1), (5, .int x.2.2.1)]) (fun k hk x => v12_cuts_b60B N k (fun l3 l4 l5 τ => hk (l3, l4, l5, τ)) x.1 x.2.1 x.2.2.1 x.2.2.2) N (l3, l4, l5, σ)
set_option maxRecDepth 100000 in
theorem mc12_cuts (N : Nat) (p0 : Int32) (p1 : Int32) (σ : Ms) : MC enI yX12_cuts cX12_cuts 6 (some .int) 3 (F12_cuts N p0 p1 σ) σ [.ref 0, .int p0, .int p1] := by
  refine MC.i (by decide +kernel) (Nat.le_of_ble_eq_true rfl) ?_
  show VF (K12_cuts) cX12_cuts RX12 (F12_cuts N p0 p1 σ) σ 0 [(0, .ref 0), (1, .int p0), (2, .int p1)] []
  unfold F12_cuts
  refine v_aload_n d12_cuts_0 0 rfl rfl ?_
  refine v_iload_n d12_cuts_1 2 rfl rfl ?_
  refine v_callV1i d12_cuts_2 (mc12_isSprigAt p1 σ) yv12_isSprigAt mlX12_280 (Recv.obj ic_0 rfl) (by decide) (Nat.le_of_ble_eq_true rfl) fun r5 t6 => ?_
  refine v_if_eq (tgt := 29) d12_cuts_5 (by decide) ?_ ?_
  · refine v_iconst d12_cuts_29 ki_m1 ?_
    exact v_iret d12_cuts_30 rfl rfl rfl
  · refine v_aload_n d12_cuts_8 0 rfl rfl ?_
    refine v_getR d12_cuts_9 faX12_35 ic_0 rfl ?_
    refine v_bipush d12_cuts_12 kb_45 ?_
    refine v_iload_n d12_cuts_14 2 rfl rfl ?_
    refine v_iadd d12_cuts_15 ?_
    refine v_iald d12_cuts_16 ic_5 ?_
    refine v_if_eq (tgt := 29) d12_cuts_17 (by decide) ?_ ?_
    · refine v_iconst d12_cuts_29 ki_m1 ?_
      exact v_iret d12_cuts_30 rfl rfl rfl
    · refine v_aload_n d12_cuts_20 0 rfl rfl ?_
      refine v_iload_n d12_cuts_21 1 rfl rfl ?_
      refine v_iload_n d12_cuts_22 2 rfl rfl ?_
      refine v_callV2i d12_cuts_23 (mc12_may p0 p1 t6) yv12_may mlX12_335 (Recv.obj ic_0 rfl) (by decide) (Nat.le_of_ble_eq_true rfl) fun r7 t8 => ?_
      refine v_if_ne (tgt := 31) d12_cuts_26 (by decide) ?_ ?_
      · refine v_aload_n d12_cuts_31 0 rfl rfl ?_
        refine v_aload_n d12_cuts_32 0 rfl rfl ?_
        refine v_callV0i d12_cuts_33 (mc12_standing N t8) yv12_standing mlX12_268 (Recv.obj ic_0 rfl) (by decide) (Nat.le_of_ble_eq_true rfl) fun r9 t10 => ?_
        refine v_iconst d12_cuts_36 ki_1 ?_
        refine v_iload_n d12_cuts_37 2 rfl rfl ?_
        refine v_ishl d12_cuts_38 ?_
        refine v_callV2i d12_cuts_39 (mc12_standsBut N r9 ((1 : Int32) <<< (p1 &&& 31)) t10) yv12_standsBut mlX12_274 (Recv.obj ic_0 rfl) (by decide) (Nat.le_of_ble_eq_true rfl) fun r11 t12 => ?_
        refine v_istore_n (lv' := [(3, .int r11), (0, .ref 0), (1, .int p0), (2, .int p1)]) d12_cuts_42 rfl (by decide) rfl ?_
        refine v_aload_n d12_cuts_43 1 rfl rfl ?_
        refine v_callV0i d12_cuts_44 (mc12_standing N t12) yv12_standing mlX12_268 (Recv.obj ic_0 rfl) (by decide) (Nat.le_of_ble_eq_true rfl) fun r13 t14 => ?_
        refine v_callS1i d12_cuts_47 (mc12_sizeOf N r13 t14) ys12_sizeOf mlX12_277 (by decide) (Nat.le_of_ble_eq_true rfl) fun r15 t16 => ?_
        refine v_iload_n d12_cuts_50 0 rfl rfl ?_
        refine v_callS1i d12_cuts_51 (mc12_sizeOf N r11 t16) ys12_sizeOf mlX12_277 (by decide) (Nat.le_of_ble_eq_true rfl) fun r17 t18 => ?_
        refine v_isub d12_cuts_54 ?_
        refine v_lti fun x19 => ?_
        refine v_istore (lv' := [(4, .int x19), (3, .int r11), (0, .ref 0), (1, .int p0), (2, .int p1)]) d12_cuts_55 (by decide) rfl ?_
        refine v_iconst d12_cuts_57 ki_0 ?_
        refine v_istore (lv' := [(5, .int (0 : Int32)), (4, .int x19), (3, .int r11), (0, .ref 0), (1, .int p0), (2, .int p1)]) d12_cuts_58 (by decide) rfl ?_
        refine v_sub [3, 2, 1, 0] rfl ?_
        exact v12_cuts_b60 N r11 x19 (0 : Int32) t18
      · refine v_iconst d12_cuts_29 ki_m1 ?_
        exact v_iret d12_cuts_30 rfl rfl rfl
theorem d12_cut_0 : decode cX12_cut 0 = .ok (.aload_n 0, 1) := by decide +kernel
theorem d12_cut_1 : decode cX12_cut 1 = .ok (.iconst 0, 1) := by decide +kernel
theorem d12_cut_2 : decode cX12_cut 2 = .ok (.putfield 53, 3) := by decide +kernel
theorem d12_cut_5 : decode cX12_cut 5 = .ok (.aload_n 0, 1) := by decide +kernel
theorem d12_cut_6 : decode cX12_cut 6 = .ok (.iconst 0, 1) := by decide +kernel
theorem d12_cut_7 : decode cX12_cut 7 = .ok (.putfield 56, 3) := by decide +kernel
theorem d12_cut_10 : decode cX12_cut 10 = .ok (.iload_n 1, 1) := by decide +kernel
theorem d12_cut_11 : decode cX12_cut 11 = .ok (.invokestatic 297, 3) := by decide +kernel
theorem d12_cut_14 : decode cX12_cut 14 = .ok (.ifCond .eq 11, 3) := by decide +kernel
theorem d12_cut_17 : decode cX12_cut 17 = .ok (.aload_n 0, 1) := by decide +kernel
theorem d12_cut_18 : decode cX12_cut 18 = .ok (.iload_n 2, 1) := by decide +kernel
theorem d12_cut_19 : decode cX12_cut 19 = .ok (.invokevirtual 280, 3) := by decide +kernel
theorem d12_cut_22 : decode cX12_cut 22 = .ok (.ifCond .ne 9, 3) := by decide +kernel
theorem d12_cut_25 : decode cX12_cut 25 = .ok (.aload_n 0, 1) := by decide +kernel
theorem d12_cut_26 : decode cX12_cut 26 = .ok (.iconst 2, 1) := by decide +kernel
theorem d12_cut_27 : decode cX12_cut 27 = .ok (.invokevirtual 265, 3) := by decide +kernel
theorem d12_cut_30 : decode cX12_cut 30 = .ok (.ireturn, 1) := by decide +kernel
theorem d12_cut_31 : decode cX12_cut 31 = .ok (.aload_n 0, 1) := by decide +kernel
theorem d12_cut_32 : decode cX12_cut 32 = .ok (.iload_n 1, 1) := by decide +kernel
theorem d12_cut_33 : decode cX12_cut 33 = .ok (.iload_n 2, 1) := by decide +kernel
theorem d12_cut_34 : decode cX12_cut 34 = .ok (.invokevirtual 338, 3) := by decide +kernel
theorem d12_cut_37 : decode cX12_cut 37 = .ok (.istore_n 3, 1) := by decide +kernel
theorem d12_cut_38 : decode cX12_cut 38 = .ok (.iload_n 3, 1) := by decide +kernel
theorem d12_cut_39 : decode cX12_cut 39 = .ok (.ifCond .ge 12, 3) := by decide +kernel
theorem d12_cut_42 : decode cX12_cut 42 = .ok (.aload_n 0, 1) := by decide +kernel
theorem d12_cut_43 : decode cX12_cut 43 = .ok (.bipush 9, 2) := by decide +kernel
theorem d12_cut_45 : decode cX12_cut 45 = .ok (.invokevirtual 265, 3) := by decide +kernel
theorem d12_cut_48 : decode cX12_cut 48 = .ok (.goto 4, 3) := by decide +kernel
theorem d12_cut_51 : decode cX12_cut 51 = .ok (.iload_n 3, 1) := by decide +kernel
theorem d12_cut_52 : decode cX12_cut 52 = .ok (.ireturn, 1) := by decide +kernel
abbrev K12_cut : CK Int32 := (enI, (some .int), 4, 4, none)
noncomputable def F12_cut_b25 (N : Nat) (σ : Ms) : Option (Int32 × Ms) :=
  bn (F12_refuse (2 : Int32) σ) (fun r1 t2 => some (r1, t2))
noncomputable def F12_cut (N : Nat) (p0 : Int32) (p1 : Int32) (σ : Ms) : Option (Int32 × Ms) :=
  lt (sI σ 0 1 (0 : Int32)) (fun t3 => lt (sI t3 0 0 (0 : Int32)) (fun t4 => bn (F12_isSideAt p0 t4) (fun r5 t6 => if r5 = 0 then (F12_cut_b25 N t6)
  else (bn (F12_isSprigAt p1 t6) (fun r7 t8 => if r7 ≠ 0 then (bn (F12_cuts N p0 p1 t8) (fun r9 t10 => if 0 ≤ r9 then (some (r9, t10))
  else (bn (F12_refuse (9 : Int32) t10) (fun r11 t12 => some (r11, t12)))))
  else (F12_cut_b25 N t8))))))
set_option maxRecDepth 100000 in
theorem v12_cut_b25 (N : Nat) (σ : Ms) : VF (K12_cut) cX12_cut RX12 (F12_cut_b25 N σ) σ 25 [(0, .ref 0)] [] := by
  unfold F12_cut_b25
  refine v_aload_n d12_cut_25 0 rfl rfl ?_
  refine v_iconst d12_cut_26 ki_2 ?_
  refine v_callV1i d12_cut_27 (mc12_refuse (2 : Int32) σ) yv12_refuse mlX12_265 (Recv.obj ic_0 rfl) (by decide) (Nat.le_of_ble_eq_true rfl) fun r1 t2 => ?_
  exact v_iret d12_cut_30 rfl rfl rfl
set_option maxRecDepth 100000 in
theorem mc12_cut (N : Nat) (p0 : Int32) (p1 : Int32) (σ : Ms) : MC enI yX12_cut cX12_cut 4 (some .int) 4 (F12_cut N p0 p1 σ) σ [.ref 0, .int p0, .int p1] := by
  refine MC.i (by decide +kernel) (Nat.le_of_ble_eq_true rfl) ?_
  show VF (K12_cut) cX12_cut RX12 (F12_cut N p0 p1 σ) σ 0 [(0, .ref 0), (1, .int p0), (2, .int p1)] []
  unfold F12_cut
  refine v_aload_n d12_cut_0 0 rfl rfl ?_
  refine v_iconst d12_cut_1 ki_0 ?_
  refine v_putI d12_cut_2 faX12_53 fp9_1 ic_0 ?_
  refine v_lts fun t3 => ?_
  refine v_aload_n d12_cut_5 0 rfl rfl ?_
  refine v_iconst d12_cut_6 ki_0 ?_
  refine v_putI d12_cut_7 faX12_56 fp9_0 ic_0 ?_
  refine v_lts fun t4 => ?_
  refine v_iload_n d12_cut_10 1 rfl rfl ?_
  refine v_callS1i d12_cut_11 (mc12_isSideAt p0 t4) ys12_isSideAt mlX12_297 (by decide) (Nat.le_of_ble_eq_true rfl) fun r5 t6 => ?_
  refine v_if_eq (tgt := 25) d12_cut_14 (by decide) ?_ ?_
  · refine v_sub [0] rfl ?_
    exact v12_cut_b25 N t6
  · refine v_aload_n d12_cut_17 0 rfl rfl ?_
    refine v_iload_n d12_cut_18 2 rfl rfl ?_
    refine v_callV1i d12_cut_19 (mc12_isSprigAt p1 t6) yv12_isSprigAt mlX12_280 (Recv.obj ic_0 rfl) (by decide) (Nat.le_of_ble_eq_true rfl) fun r7 t8 => ?_
    refine v_if_ne (tgt := 31) d12_cut_22 (by decide) ?_ ?_
    · refine v_aload_n d12_cut_31 0 rfl rfl ?_
      refine v_iload_n d12_cut_32 1 rfl rfl ?_
      refine v_iload_n d12_cut_33 2 rfl rfl ?_
      refine v_callV2i d12_cut_34 (mc12_cuts N p0 p1 t8) yv12_cuts mlX12_338 (Recv.obj ic_0 rfl) (by decide) (Nat.le_of_ble_eq_true rfl) fun r9 t10 => ?_
      refine v_istore_n (lv' := [(3, .int r9), (0, .ref 0), (1, .int p0), (2, .int p1)]) d12_cut_37 rfl (by decide) rfl ?_
      refine v_iload_n d12_cut_38 0 rfl rfl ?_
      refine v_if_ge (tgt := 51) d12_cut_39 (by decide) ?_ ?_
      · refine v_iload_n d12_cut_51 0 rfl rfl ?_
        exact v_iret d12_cut_52 rfl rfl rfl
      · refine v_aload_n d12_cut_42 1 rfl rfl ?_
        refine v_bipush d12_cut_43 kb_9 ?_
        refine v_callV1i d12_cut_45 (mc12_refuse (9 : Int32) t10) yv12_refuse mlX12_265 (Recv.obj ic_0 rfl) (by decide) (Nat.le_of_ble_eq_true rfl) fun r11 t12 => ?_
        refine v_goto (tgt := 52) d12_cut_48 (by decide) ?_
        exact v_iret d12_cut_52 rfl rfl rfl
    · refine v_sub [0] rfl ?_
      exact v12_cut_b25 N t8
theorem d12_gainBy_0 : decode cX12_gainBy 0 = .ok (.iload_n 1, 1) := by decide +kernel
theorem d12_gainBy_1 : decode cX12_gainBy 1 = .ok (.ifCond .ne 15, 3) := by decide +kernel
theorem d12_gainBy_4 : decode cX12_gainBy 4 = .ok (.aload_n 0, 1) := by decide +kernel
theorem d12_gainBy_5 : decode cX12_gainBy 5 = .ok (.getfield 35, 3) := by decide +kernel
theorem d12_gainBy_8 : decode cX12_gainBy 8 = .ok (.bipush 69, 2) := by decide +kernel
theorem d12_gainBy_10 : decode cX12_gainBy 10 = .ok (.iload_n 2, 1) := by decide +kernel
theorem d12_gainBy_11 : decode cX12_gainBy 11 = .ok (.iadd, 1) := by decide +kernel
theorem d12_gainBy_12 : decode cX12_gainBy 12 = .ok (.iaload, 1) := by decide +kernel
theorem d12_gainBy_13 : decode cX12_gainBy 13 = .ok (.goto 13, 3) := by decide +kernel
theorem d12_gainBy_16 : decode cX12_gainBy 16 = .ok (.aload_n 0, 1) := by decide +kernel
theorem d12_gainBy_17 : decode cX12_gainBy 17 = .ok (.getfield 35, 3) := by decide +kernel
theorem d12_gainBy_20 : decode cX12_gainBy 20 = .ok (.bipush 74, 2) := by decide +kernel
theorem d12_gainBy_22 : decode cX12_gainBy 22 = .ok (.iload_n 2, 1) := by decide +kernel
theorem d12_gainBy_23 : decode cX12_gainBy 23 = .ok (.iadd, 1) := by decide +kernel
theorem d12_gainBy_24 : decode cX12_gainBy 24 = .ok (.iaload, 1) := by decide +kernel
theorem d12_gainBy_25 : decode cX12_gainBy 25 = .ok (.ineg, 1) := by decide +kernel
theorem d12_gainBy_26 : decode cX12_gainBy 26 = .ok (.ireturn, 1) := by decide +kernel
abbrev K12_gainBy : CK Int32 := (enI, (some .int), 3, 1, none)
noncomputable def F12_gainBy (p0 : Int32) (p1 : Int32) (σ : Ms) : Option (Int32 × Ms) :=
  if p0 ≠ 0 then (ck (ixb ((74 : Int32) + p1) 1780) (some ((-(σ.1 5 ((74 : Int32) + p1).toNatClampNeg)), σ)))
  else (ck (ixb ((69 : Int32) + p1) 1780) (some ((σ.1 5 ((69 : Int32) + p1).toNatClampNeg), σ)))
set_option maxRecDepth 100000 in
theorem mc12_gainBy (p0 : Int32) (p1 : Int32) (σ : Ms) : MC enI yX12_gainBy cX12_gainBy 3 (some .int) 1 (F12_gainBy p0 p1 σ) σ [.ref 0, .int p0, .int p1] := by
  refine MC.i (by decide +kernel) (Nat.le_of_ble_eq_true rfl) ?_
  show VF (K12_gainBy) cX12_gainBy RX12 (F12_gainBy p0 p1 σ) σ 0 [(0, .ref 0), (1, .int p0), (2, .int p1)] []
  unfold F12_gainBy
  refine v_iload_n d12_gainBy_0 1 rfl rfl ?_
  refine v_if_ne (tgt := 16) d12_gainBy_1 (by decide) ?_ ?_
  · refine v_aload_n d12_gainBy_16 0 rfl rfl ?_
    refine v_getR d12_gainBy_17 faX12_35 ic_0 rfl ?_
    refine v_bipush d12_gainBy_20 kb_74 ?_
    refine v_iload_n d12_gainBy_22 2 rfl rfl ?_
    refine v_iadd d12_gainBy_23 ?_
    refine v_iald d12_gainBy_24 ic_5 ?_
    refine v_ineg d12_gainBy_25 ?_
    exact v_iret d12_gainBy_26 rfl rfl rfl
  · refine v_aload_n d12_gainBy_4 0 rfl rfl ?_
    refine v_getR d12_gainBy_5 faX12_35 ic_0 rfl ?_
    refine v_bipush d12_gainBy_8 kb_69 ?_
    refine v_iload_n d12_gainBy_10 2 rfl rfl ?_
    refine v_iadd d12_gainBy_11 ?_
    refine v_iald d12_gainBy_12 ic_5 ?_
    refine v_goto (tgt := 26) d12_gainBy_13 (by decide) ?_
    exact v_iret d12_gainBy_26 rfl rfl rfl
theorem d12_takes_0 : decode cX12_takes 0 = .ok (.aload_n 0, 1) := by decide +kernel
theorem d12_takes_1 : decode cX12_takes 1 = .ok (.iload_n 2, 1) := by decide +kernel
theorem d12_takes_2 : decode cX12_takes 2 = .ok (.invokevirtual 294, 3) := by decide +kernel
theorem d12_takes_5 : decode cX12_takes 5 = .ok (.ifCond .eq 16, 3) := by decide +kernel
theorem d12_takes_8 : decode cX12_takes 8 = .ok (.aload_n 0, 1) := by decide +kernel
theorem d12_takes_9 : decode cX12_takes 9 = .ok (.getfield 35, 3) := by decide +kernel
theorem d12_takes_12 : decode cX12_takes 12 = .ok (.bipush 79, 2) := by decide +kernel
theorem d12_takes_14 : decode cX12_takes 14 = .ok (.iload_n 2, 1) := by decide +kernel
theorem d12_takes_15 : decode cX12_takes 15 = .ok (.iadd, 1) := by decide +kernel
theorem d12_takes_16 : decode cX12_takes 16 = .ok (.iaload, 1) := by decide +kernel
theorem d12_takes_17 : decode cX12_takes 17 = .ok (.iconst 1, 1) := by decide +kernel
theorem d12_takes_18 : decode cX12_takes 18 = .ok (.if_icmp .ne 5, 3) := by decide +kernel
theorem d12_takes_21 : decode cX12_takes 21 = .ok (.iconst 0, 1) := by decide +kernel
theorem d12_takes_22 : decode cX12_takes 22 = .ok (.ireturn, 1) := by decide +kernel
theorem d12_takes_23 : decode cX12_takes 23 = .ok (.aload_n 0, 1) := by decide +kernel
theorem d12_takes_24 : decode cX12_takes 24 = .ok (.getfield 35, 3) := by decide +kernel
theorem d12_takes_27 : decode cX12_takes 27 = .ok (.bipush 79, 2) := by decide +kernel
theorem d12_takes_29 : decode cX12_takes 29 = .ok (.iload_n 2, 1) := by decide +kernel
theorem d12_takes_30 : decode cX12_takes 30 = .ok (.iadd, 1) := by decide +kernel
theorem d12_takes_31 : decode cX12_takes 31 = .ok (.iconst 1, 1) := by decide +kernel
theorem d12_takes_32 : decode cX12_takes 32 = .ok (.iastore, 1) := by decide +kernel
theorem d12_takes_33 : decode cX12_takes 33 = .ok (.aload_n 0, 1) := by decide +kernel
theorem d12_takes_34 : decode cX12_takes 34 = .ok (.getfield 35, 3) := by decide +kernel
theorem d12_takes_37 : decode cX12_takes 37 = .ok (.iconst 3, 1) := by decide +kernel
theorem d12_takes_38 : decode cX12_takes 38 = .ok (.dup2, 1) := by decide +kernel
theorem d12_takes_39 : decode cX12_takes 39 = .ok (.iaload, 1) := by decide +kernel
theorem d12_takes_40 : decode cX12_takes 40 = .ok (.aload_n 0, 1) := by decide +kernel
theorem d12_takes_41 : decode cX12_takes 41 = .ok (.iload_n 1, 1) := by decide +kernel
theorem d12_takes_42 : decode cX12_takes 42 = .ok (.iload_n 2, 1) := by decide +kernel
theorem d12_takes_43 : decode cX12_takes 43 = .ok (.invokevirtual 341, 3) := by decide +kernel
theorem d12_takes_46 : decode cX12_takes 46 = .ok (.iadd, 1) := by decide +kernel
theorem d12_takes_47 : decode cX12_takes 47 = .ok (.iastore, 1) := by decide +kernel
theorem d12_takes_48 : decode cX12_takes 48 = .ok (.iconst 1, 1) := by decide +kernel
theorem d12_takes_49 : decode cX12_takes 49 = .ok (.ireturn, 1) := by decide +kernel
abbrev K12_takes : CK Int32 := (enI, (some .boolean), 3, 3, none)
noncomputable def F12_takes (p0 : Int32) (p1 : Int32) (σ : Ms) : Option (Int32 × Ms) :=
  bn (F12_isBetAt p1 σ) (fun r1 t2 => if r1 = 0 then (some ((0 : Int32), t2))
  else (ck (ixb ((79 : Int32) + p1) 1780) (if (t2.1 5 ((79 : Int32) + p1).toNatClampNeg) ≠ (1 : Int32) then (ck (ixb ((79 : Int32) + p1) 1780) (lt (sI t2 5 ((79 : Int32) + p1).toNatClampNeg (1 : Int32)) (fun t3 => ck (ixb (3 : Int32) 1780) (bn (F12_gainBy p0 p1 t3) (fun r4 t5 => ck (ixb (3 : Int32) 1780) (lt (sI t5 5 (3 : Int32).toNatClampNeg ((t3.1 5 (3 : Int32).toNatClampNeg) + r4)) (fun t6 => some ((1 : Int32), t6))))))))
  else (some ((0 : Int32), t2)))))
set_option maxRecDepth 100000 in
theorem mc12_takes (p0 : Int32) (p1 : Int32) (σ : Ms) : MC enI yX12_takes cX12_takes 3 (some .boolean) 3 (F12_takes p0 p1 σ) σ [.ref 0, .int p0, .int p1] := by
  refine MC.i (by decide +kernel) (Nat.le_of_ble_eq_true rfl) ?_
  show VF (K12_takes) cX12_takes RX12 (F12_takes p0 p1 σ) σ 0 [(0, .ref 0), (1, .int p0), (2, .int p1)] []
  unfold F12_takes
  refine v_aload_n d12_takes_0 0 rfl rfl ?_
  refine v_iload_n d12_takes_1 2 rfl rfl ?_
  refine v_callV1i d12_takes_2 (mc12_isBetAt p1 σ) yv12_isBetAt mlX12_294 (Recv.obj ic_0 rfl) (by decide) (Nat.le_of_ble_eq_true rfl) fun r1 t2 => ?_
  refine v_if_eq (tgt := 21) d12_takes_5 (by decide) ?_ ?_
  · refine v_iconst d12_takes_21 ki_0 ?_
    exact v_iret (ty := .boolean) d12_takes_22 rfl rfl rfl
  · refine v_aload_n d12_takes_8 0 rfl rfl ?_
    refine v_getR d12_takes_9 faX12_35 ic_0 rfl ?_
    refine v_bipush d12_takes_12 kb_79 ?_
    refine v_iload_n d12_takes_14 2 rfl rfl ?_
    refine v_iadd d12_takes_15 ?_
    refine v_iald d12_takes_16 ic_5 ?_
    refine v_iconst d12_takes_17 ki_1 ?_
    refine v_icmp_ne (tgt := 23) d12_takes_18 (by decide) ?_ ?_
    · refine v_aload_n d12_takes_23 0 rfl rfl ?_
      refine v_getR d12_takes_24 faX12_35 ic_0 rfl ?_
      refine v_bipush d12_takes_27 kb_79 ?_
      refine v_iload_n d12_takes_29 2 rfl rfl ?_
      refine v_iadd d12_takes_30 ?_
      refine v_iconst d12_takes_31 ki_1 ?_
      refine v_iast d12_takes_32 ic_5 ?_
      refine v_lts fun t3 => ?_
      refine v_aload_n d12_takes_33 0 rfl rfl ?_
      refine v_getR d12_takes_34 faX12_35 ic_0 rfl ?_
      refine v_iconst d12_takes_37 ki_3 ?_
      refine v_dup2_11 d12_takes_38 rfl rfl ?_
      refine v_iald d12_takes_39 ic_5 ?_
      refine v_aload_n d12_takes_40 0 rfl rfl ?_
      refine v_iload_n d12_takes_41 1 rfl rfl ?_
      refine v_iload_n d12_takes_42 2 rfl rfl ?_
      refine v_callV2i d12_takes_43 (mc12_gainBy p0 p1 t3) yv12_gainBy mlX12_341 (Recv.obj ic_0 rfl) (by decide) (Nat.le_of_ble_eq_true rfl) fun r4 t5 => ?_
      refine v_iadd d12_takes_46 ?_
      refine v_iast d12_takes_47 ic_5 ?_
      refine v_lts fun t6 => ?_
      refine v_iconst d12_takes_48 ki_1 ?_
      exact v_iret (ty := .boolean) d12_takes_49 rfl rfl rfl
    · refine v_iconst d12_takes_21 ki_0 ?_
      exact v_iret (ty := .boolean) d12_takes_22 rfl rfl rfl
