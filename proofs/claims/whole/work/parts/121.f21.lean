theorem d12_mayBe_0 : decode cX12_mayBe 0 = .ok (.aload_n 0, 1) := by decide +kernel
theorem d12_mayBe_1 : decode cX12_mayBe 1 = .ok (.getfield 138, 3) := by decide +kernel
theorem d12_mayBe_4 : decode cX12_mayBe 4 = .ok (.ifCond .ne 15, 3) := by decide +kernel
theorem d12_mayBe_7 : decode cX12_mayBe 7 = .ok (.aload_n 0, 1) := by decide +kernel
theorem d12_mayBe_8 : decode cX12_mayBe 8 = .ok (.getfield 108, 3) := by decide +kernel
theorem d12_mayBe_11 : decode cX12_mayBe 11 = .ok (.iconst 2, 1) := by decide +kernel
theorem d12_mayBe_12 : decode cX12_mayBe 12 = .ok (.if_icmp .eq 7, 3) := by decide +kernel
theorem d12_mayBe_15 : decode cX12_mayBe 15 = .ok (.aload_n 0, 1) := by decide +kernel
theorem d12_mayBe_16 : decode cX12_mayBe 16 = .ok (.invokevirtual 151, 3) := by decide +kernel
theorem d12_mayBe_19 : decode cX12_mayBe 19 = .ok (.aload_n 0, 1) := by decide +kernel
theorem d12_mayBe_20 : decode cX12_mayBe 20 = .ok (.getfield 138, 3) := by decide +kernel
theorem d12_mayBe_23 : decode cX12_mayBe 23 = .ok (.ifCond .ne 27, 3) := by decide +kernel
theorem d12_mayBe_26 : decode cX12_mayBe 26 = .ok (.aload_n 0, 1) := by decide +kernel
theorem d12_mayBe_27 : decode cX12_mayBe 27 = .ok (.getfield 124, 3) := by decide +kernel
theorem d12_mayBe_30 : decode cX12_mayBe 30 = .ok (.i2l, 1) := by decide +kernel
theorem d12_mayBe_31 : decode cX12_mayBe 31 = .ok (.iload_n 1, 1) := by decide +kernel
theorem d12_mayBe_32 : decode cX12_mayBe 32 = .ok (.i2l, 1) := by decide +kernel
theorem d12_mayBe_33 : decode cX12_mayBe 33 = .ok (.iload_n 2, 1) := by decide +kernel
theorem d12_mayBe_34 : decode cX12_mayBe 34 = .ok (.i2l, 1) := by decide +kernel
theorem d12_mayBe_35 : decode cX12_mayBe 35 = .ok (.invokestatic 88, 3) := by decide +kernel
theorem d12_mayBe_38 : decode cX12_mayBe 38 = .ok (.ifCond .ne 12, 3) := by decide +kernel
theorem d12_mayBe_41 : decode cX12_mayBe 41 = .ok (.aload_n 0, 1) := by decide +kernel
theorem d12_mayBe_42 : decode cX12_mayBe 42 = .ok (.iconst 4, 1) := by decide +kernel
theorem d12_mayBe_43 : decode cX12_mayBe 43 = .ok (.aload_n 0, 1) := by decide +kernel
theorem d12_mayBe_44 : decode cX12_mayBe 44 = .ok (.getfield 102, 3) := by decide +kernel
theorem d12_mayBe_47 : decode cX12_mayBe 47 = .ok (.invokevirtual 144, 3) := by decide +kernel
theorem d12_mayBe_50 : decode cX12_mayBe 50 = .ok (.return_, 1) := by decide +kernel
abbrev K12_mayBe : CK Unit := (enV, none, 3, 3, none)
noncomputable def F12_mayBe_b19 (l1 : Int32) (l2 : Int32) (σ : Ms) : Option (Unit × Ms) :=
  if (σ.1 0 12) ≠ 0 then (some ((), σ))
  else (bn (F12_isIn ((σ.1 0 17).toInt64) (l1.toInt64) (l2.toInt64) σ) (fun r1 t2 => if r1 ≠ 0 then (some ((), t2))
  else (bn (F12_fail (4 : Int32) (t2.1 0 15) t2) (fun r3 t4 => some ((), t4)))))
noncomputable def F12_mayBe (p0 : Int32) (p1 : Int32) (σ : Ms) : Option (Unit × Ms) :=
  if (σ.1 0 12) ≠ 0 then (F12_mayBe_b19 p0 p1 σ)
  else (if (σ.1 0 14) = (2 : Int32) then (F12_mayBe_b19 p0 p1 σ)
  else (bn (F12_amiss σ) (fun r5 t6 => F12_mayBe_b19 p0 p1 t6)))
set_option maxRecDepth 100000 in
theorem v12_mayBe_b19 (l1 : Int32) (l2 : Int32) (σ : Ms) : VF (K12_mayBe) cX12_mayBe RX12 (F12_mayBe_b19 l1 l2 σ) σ 19 [(0, .ref 0), (1, .int l1), (2, .int l2)] [] := by
  unfold F12_mayBe_b19
  refine v_aload_n d12_mayBe_19 0 rfl rfl ?_
  refine v_getI d12_mayBe_20 faX12_138 ic_0 ?_
  refine v_if_ne (tgt := 50) d12_mayBe_23 (by decide) ?_ ?_
  · exact v_vret d12_mayBe_50 rfl
  · refine v_aload_n d12_mayBe_26 0 rfl rfl ?_
    refine v_getI d12_mayBe_27 faX12_124 ic_0 ?_
    refine v_i2l d12_mayBe_30 ?_
    refine v_iload_n d12_mayBe_31 1 rfl rfl ?_
    refine v_i2l d12_mayBe_32 ?_
    refine v_iload_n d12_mayBe_33 2 rfl rfl ?_
    refine v_i2l d12_mayBe_34 ?_
    refine v_callS3i d12_mayBe_35 (mc12_isIn ((σ.1 0 17).toInt64) (l1.toInt64) (l2.toInt64) σ) ys12_isIn mlX12_88 (by decide) (Nat.le_of_ble_eq_true rfl) fun r1 t2 => ?_
    refine v_if_ne (tgt := 50) d12_mayBe_38 (by decide) ?_ ?_
    · exact v_vret d12_mayBe_50 rfl
    · refine v_aload_n d12_mayBe_41 0 rfl rfl ?_
      refine v_iconst d12_mayBe_42 ki_4 ?_
      refine v_aload_n d12_mayBe_43 0 rfl rfl ?_
      refine v_getI d12_mayBe_44 faX12_102 ic_0 ?_
      refine v_callV2v d12_mayBe_47 (mc12_fail (4 : Int32) (t2.1 0 15) t2) yv12_fail mlX12_144 (Recv.obj ic_0 rfl) (by decide) (Nat.le_of_ble_eq_true rfl) fun r3 t4 => ?_
      exact v_vret d12_mayBe_50 rfl
set_option maxRecDepth 100000 in
theorem mc12_mayBe (p0 : Int32) (p1 : Int32) (σ : Ms) : MC enV yX12_mayBe cX12_mayBe 3 none 3 (F12_mayBe p0 p1 σ) σ [.ref 0, .int p0, .int p1] := by
  refine MC.v (by decide +kernel) (Nat.le_of_ble_eq_true rfl) ?_
  show VF (K12_mayBe) cX12_mayBe RX12 (F12_mayBe p0 p1 σ) σ 0 [(0, .ref 0), (1, .int p0), (2, .int p1)] []
  unfold F12_mayBe
  refine v_aload_n d12_mayBe_0 0 rfl rfl ?_
  refine v_getI d12_mayBe_1 faX12_138 ic_0 ?_
  refine v_if_ne (tgt := 19) d12_mayBe_4 (by decide) ?_ ?_
  · exact v12_mayBe_b19 p0 p1 σ
  · refine v_aload_n d12_mayBe_7 0 rfl rfl ?_
    refine v_getI d12_mayBe_8 faX12_108 ic_0 ?_
    refine v_iconst d12_mayBe_11 ki_2 ?_
    refine v_icmp_eq (tgt := 19) d12_mayBe_12 (by decide) ?_ ?_
    · exact v12_mayBe_b19 p0 p1 σ
    · refine v_aload_n d12_mayBe_15 0 rfl rfl ?_
      refine v_callV0v d12_mayBe_16 (mc12_amiss σ) yv12_amiss mlX12_151 (Recv.obj ic_0 rfl) (by decide) (Nat.le_of_ble_eq_true rfl) fun r5 t6 => ?_
      exact v12_mayBe_b19 p0 p1 t6
theorem d12_count_0 : decode cX12_count 0 = .ok (.aload_n 0, 1) := by decide +kernel
theorem d12_count_1 : decode cX12_count 1 = .ok (.iload_n 1, 1) := by decide +kernel
theorem d12_count_2 : decode cX12_count 2 = .ok (.iload_n 2, 1) := by decide +kernel
theorem d12_count_3 : decode cX12_count 3 = .ok (.invokevirtual 154, 3) := by decide +kernel
theorem d12_count_6 : decode cX12_count 6 = .ok (.aload_n 0, 1) := by decide +kernel
theorem d12_count_7 : decode cX12_count 7 = .ok (.getfield 138, 3) := by decide +kernel
theorem d12_count_10 : decode cX12_count 10 = .ok (.ifCond .le 5, 3) := by decide +kernel
theorem d12_count_13 : decode cX12_count 13 = .ok (.iconst 0, 1) := by decide +kernel
theorem d12_count_14 : decode cX12_count 14 = .ok (.ireturn, 1) := by decide +kernel
theorem d12_count_15 : decode cX12_count 15 = .ok (.aload_n 0, 1) := by decide +kernel
theorem d12_count_16 : decode cX12_count 16 = .ok (.getfield 124, 3) := by decide +kernel
theorem d12_count_19 : decode cX12_count 19 = .ok (.istore_n 3, 1) := by decide +kernel
theorem d12_count_20 : decode cX12_count 20 = .ok (.aload_n 0, 1) := by decide +kernel
theorem d12_count_21 : decode cX12_count 21 = .ok (.invokevirtual 148, 3) := by decide +kernel
theorem d12_count_24 : decode cX12_count 24 = .ok (.iload_n 3, 1) := by decide +kernel
theorem d12_count_25 : decode cX12_count 25 = .ok (.ireturn, 1) := by decide +kernel
abbrev K12_count : CK Int32 := (enI, (some .int), 4, 4, none)
noncomputable def F12_count (N : Nat) (p0 : Int32) (p1 : Int32) (σ : Ms) : Option (Int32 × Ms) :=
  bn (F12_mayBe p0 p1 σ) (fun r1 t2 => if (t2.1 0 12) ≤ 0 then (lt (t2.1 0 17) (fun x3 => bn (F12_advance N t2) (fun r4 t5 => some (x3, t5))))
  else (some ((0 : Int32), t2)))
set_option maxRecDepth 100000 in
theorem mc12_count (N : Nat) (p0 : Int32) (p1 : Int32) (σ : Ms) : MC enI yX12_count cX12_count 4 (some .int) 4 (F12_count N p0 p1 σ) σ [.ref 0, .int p0, .int p1] := by
  refine MC.i (by decide +kernel) (Nat.le_of_ble_eq_true rfl) ?_
  show VF (K12_count) cX12_count RX12 (F12_count N p0 p1 σ) σ 0 [(0, .ref 0), (1, .int p0), (2, .int p1)] []
  unfold F12_count
  refine v_aload_n d12_count_0 0 rfl rfl ?_
  refine v_iload_n d12_count_1 1 rfl rfl ?_
  refine v_iload_n d12_count_2 2 rfl rfl ?_
  refine v_callV2v d12_count_3 (mc12_mayBe p0 p1 σ) yv12_mayBe mlX12_154 (Recv.obj ic_0 rfl) (by decide) (Nat.le_of_ble_eq_true rfl) fun r1 t2 => ?_
  refine v_aload_n d12_count_6 0 rfl rfl ?_
  refine v_getI d12_count_7 faX12_138 ic_0 ?_
  refine v_if_le (tgt := 15) d12_count_10 (by decide) ?_ ?_
  · refine v_aload_n d12_count_15 0 rfl rfl ?_
    refine v_getI d12_count_16 faX12_124 ic_0 ?_
    refine v_lti fun x3 => ?_
    refine v_istore_n (lv' := [(3, .int x3), (0, .ref 0), (1, .int p0), (2, .int p1)]) d12_count_19 rfl (by decide) rfl ?_
    refine v_aload_n d12_count_20 1 rfl rfl ?_
    refine v_callV0v d12_count_21 (mc12_advance N t2) yv12_advance mlX12_148 (Recv.obj ic_0 rfl) (by decide) (Nat.le_of_ble_eq_true rfl) fun r4 t5 => ?_
    refine v_iload_n d12_count_24 0 rfl rfl ?_
    exact v_iret d12_count_25 rfl rfl rfl
  · refine v_iconst d12_count_13 ki_0 ?_
    exact v_iret d12_count_14 rfl rfl rfl
theorem d12_perhaps_0 : decode cX12_perhaps 0 = .ok (.aload_n 0, 1) := by decide +kernel
theorem d12_perhaps_1 : decode cX12_perhaps 1 = .ok (.getfield 138, 3) := by decide +kernel
theorem d12_perhaps_4 : decode cX12_perhaps 4 = .ok (.ifCond .gt 7, 3) := by decide +kernel
theorem d12_perhaps_7 : decode cX12_perhaps 7 = .ok (.iload_n 1, 1) := by decide +kernel
theorem d12_perhaps_8 : decode cX12_perhaps 8 = .ok (.ifCond .ne 5, 3) := by decide +kernel
theorem d12_perhaps_11 : decode cX12_perhaps 11 = .ok (.iconst 0, 1) := by decide +kernel
theorem d12_perhaps_12 : decode cX12_perhaps 12 = .ok (.ireturn, 1) := by decide +kernel
theorem d12_perhaps_13 : decode cX12_perhaps 13 = .ok (.aload_n 0, 1) := by decide +kernel
theorem d12_perhaps_14 : decode cX12_perhaps 14 = .ok (.invokevirtual 148, 3) := by decide +kernel
theorem d12_perhaps_17 : decode cX12_perhaps 17 = .ok (.iconst 1, 1) := by decide +kernel
theorem d12_perhaps_18 : decode cX12_perhaps 18 = .ok (.ireturn, 1) := by decide +kernel
abbrev K12_perhaps : CK Int32 := (enI, (some .boolean), 2, 3, none)
noncomputable def F12_perhaps (N : Nat) (p0 : Int32) (σ : Ms) : Option (Int32 × Ms) :=
  if 0 < (σ.1 0 12) then (some ((0 : Int32), σ))
  else (if p0 ≠ 0 then (bn (F12_advance N σ) (fun r1 t2 => some ((1 : Int32), t2)))
  else (some ((0 : Int32), σ)))
set_option maxRecDepth 100000 in
theorem mc12_perhaps (N : Nat) (p0 : Int32) (σ : Ms) : MC enI yX12_perhaps cX12_perhaps 2 (some .boolean) 3 (F12_perhaps N p0 σ) σ [.ref 0, .int p0] := by
  refine MC.i (by decide +kernel) (Nat.le_of_ble_eq_true rfl) ?_
  show VF (K12_perhaps) cX12_perhaps RX12 (F12_perhaps N p0 σ) σ 0 [(0, .ref 0), (1, .int p0)] []
  unfold F12_perhaps
  refine v_aload_n d12_perhaps_0 0 rfl rfl ?_
  refine v_getI d12_perhaps_1 faX12_138 ic_0 ?_
  refine v_if_gt (tgt := 11) d12_perhaps_4 (by decide) ?_ ?_
  · refine v_iconst d12_perhaps_11 ki_0 ?_
    exact v_iret (ty := .boolean) d12_perhaps_12 rfl rfl rfl
  · refine v_iload_n d12_perhaps_7 1 rfl rfl ?_
    refine v_if_ne (tgt := 13) d12_perhaps_8 (by decide) ?_ ?_
    · refine v_aload_n d12_perhaps_13 0 rfl rfl ?_
      refine v_callV0v d12_perhaps_14 (mc12_advance N σ) yv12_advance mlX12_148 (Recv.obj ic_0 rfl) (by decide) (Nat.le_of_ble_eq_true rfl) fun r1 t2 => ?_
      refine v_iconst d12_perhaps_17 ki_1 ?_
      exact v_iret (ty := .boolean) d12_perhaps_18 rfl rfl rfl
    · refine v_iconst d12_perhaps_11 ki_0 ?_
      exact v_iret (ty := .boolean) d12_perhaps_12 rfl rfl rfl
theorem d12_readColour_0 : decode cX12_readColour 0 = .ok (.aload_n 0, 1) := by decide +kernel
theorem d12_readColour_1 : decode cX12_readColour 1 = .ok (.getfield 138, 3) := by decide +kernel
theorem d12_readColour_4 : decode cX12_readColour 4 = .ok (.ifCond .le 7, 3) := by decide +kernel
theorem d12_readColour_7 : decode cX12_readColour 7 = .ok (.iconst 0, 1) := by decide +kernel
theorem d12_readColour_8 : decode cX12_readColour 8 = .ok (.goto 7, 3) := by decide +kernel
theorem d12_readColour_11 : decode cX12_readColour 11 = .ok (.aload_n 0, 1) := by decide +kernel
theorem d12_readColour_12 : decode cX12_readColour 12 = .ok (.invokevirtual 157, 3) := by decide +kernel
theorem d12_readColour_15 : decode cX12_readColour 15 = .ok (.istore_n 1, 1) := by decide +kernel
theorem d12_readColour_16 : decode cX12_readColour 16 = .ok (.aload_n 0, 1) := by decide +kernel
theorem d12_readColour_17 : decode cX12_readColour 17 = .ok (.iload_n 1, 1) := by decide +kernel
theorem d12_readColour_18 : decode cX12_readColour 18 = .ok (.ifCond .lt 7, 3) := by decide +kernel
theorem d12_readColour_21 : decode cX12_readColour 21 = .ok (.iconst 1, 1) := by decide +kernel
theorem d12_readColour_22 : decode cX12_readColour 22 = .ok (.goto 4, 3) := by decide +kernel
theorem d12_readColour_25 : decode cX12_readColour 25 = .ok (.iconst 0, 1) := by decide +kernel
theorem d12_readColour_26 : decode cX12_readColour 26 = .ok (.invokevirtual 161, 3) := by decide +kernel
theorem d12_readColour_29 : decode cX12_readColour 29 = .ok (.iconst 0, 1) := by decide +kernel
theorem d12_readColour_30 : decode cX12_readColour 30 = .ok (.iload_n 1, 1) := by decide +kernel
theorem d12_readColour_31 : decode cX12_readColour 31 = .ok (.invokestatic 165, 3) := by decide +kernel
theorem d12_readColour_34 : decode cX12_readColour 34 = .ok (.ireturn, 1) := by decide +kernel
abbrev K12_readColour : CK Int32 := (enI, (some .int), 2, 4, none)
noncomputable def F12_readColour_b26 (N : Nat) (l1 : Int32) (s1 : Int32) (σ : Ms) : Option (Int32 × Ms) :=
  bn (F12_must N s1 σ) (fun r1 t2 => bn (FJ9_max_7cf53 (0 : Int32) l1 t2) (fun r3 t4 => some (r3, t4)))
noncomputable def F12_readColour_b15 (N : Nat) (s0 : Int32) (σ : Ms) : Option (Int32 × Ms) :=
  if s0 < 0 then (F12_readColour_b26 N s0 (0 : Int32) σ)
  else (F12_readColour_b26 N s0 (1 : Int32) σ)
noncomputable def F12_readColour (N : Nat) (σ : Ms) : Option (Int32 × Ms) :=
  if (σ.1 0 12) ≤ 0 then (bn (F12_colourWord σ) (fun r5 t6 => F12_readColour_b15 N r5 t6))
  else (F12_readColour_b15 N (0 : Int32) σ)
set_option maxRecDepth 100000 in
theorem v12_readColour_b26 (N : Nat) (l1 : Int32) (s1 : Int32) (σ : Ms) : VF (K12_readColour) cX12_readColour RX12 (F12_readColour_b26 N l1 s1 σ) σ 26 [(1, .int l1)] [.int s1, .ref 0] := by
  unfold F12_readColour_b26
  refine v_callV1v d12_readColour_26 (mc12_must N s1 σ) yv12_must mlX12_161 (Recv.obj ic_0 rfl) (by decide) (Nat.le_of_ble_eq_true rfl) fun r1 t2 => ?_
  refine v_iconst d12_readColour_29 ki_0 ?_
  refine v_iload_n d12_readColour_30 0 rfl rfl ?_
  refine v_callS2i d12_readColour_31 (mcJ9_max_7cf53 (0 : Int32) l1 t2) ysJ9_max_7cf53 mlX12_165 (by decide) (Nat.le_of_ble_eq_true rfl) fun r3 t4 => ?_
  exact v_iret d12_readColour_34 rfl rfl rfl
set_option maxRecDepth 100000 in
theorem v12_readColour_b15 (N : Nat) (s0 : Int32) (σ : Ms) : VF (K12_readColour) cX12_readColour RX12 (F12_readColour_b15 N s0 σ) σ 15 [(0, .ref 0)] [.int s0] := by
  unfold F12_readColour_b15
  refine v_istore_n (lv' := [(1, .int s0), (0, .ref 0)]) d12_readColour_15 rfl (by decide) rfl ?_
  refine v_aload_n d12_readColour_16 1 rfl rfl ?_
  refine v_iload_n d12_readColour_17 0 rfl rfl ?_
  refine v_if_lt (tgt := 25) d12_readColour_18 (by decide) ?_ ?_
  · refine v_iconst d12_readColour_25 ki_0 ?_
    refine v_sub [0] rfl ?_
    exact v12_readColour_b26 N s0 (0 : Int32) σ
  · refine v_iconst d12_readColour_21 ki_1 ?_
    refine v_goto (tgt := 26) d12_readColour_22 (by decide) ?_
    refine v_sub [0] rfl ?_
    exact v12_readColour_b26 N s0 (1 : Int32) σ
set_option maxRecDepth 100000 in
theorem mc12_readColour (N : Nat) (σ : Ms) : MC enI yX12_readColour cX12_readColour 2 (some .int) 4 (F12_readColour N σ) σ [.ref 0] := by
  refine MC.i (by decide +kernel) (Nat.le_of_ble_eq_true rfl) ?_
  show VF (K12_readColour) cX12_readColour RX12 (F12_readColour N σ) σ 0 [(0, .ref 0)] []
  unfold F12_readColour
  refine v_aload_n d12_readColour_0 0 rfl rfl ?_
  refine v_getI d12_readColour_1 faX12_138 ic_0 ?_
  refine v_if_le (tgt := 11) d12_readColour_4 (by decide) ?_ ?_
  · refine v_aload_n d12_readColour_11 0 rfl rfl ?_
    refine v_callV0i d12_readColour_12 (mc12_colourWord σ) yv12_colourWord mlX12_157 (Recv.obj ic_0 rfl) (by decide) (Nat.le_of_ble_eq_true rfl) fun r5 t6 => ?_
    exact v12_readColour_b15 N r5 t6
  · refine v_iconst d12_readColour_7 ki_0 ?_
    refine v_goto (tgt := 15) d12_readColour_8 (by decide) ?_
    exact v12_readColour_b15 N (0 : Int32) σ
theorem d12_readSide_0 : decode cX12_readSide 0 = .ok (.aload_n 0, 1) := by decide +kernel
theorem d12_readSide_1 : decode cX12_readSide 1 = .ok (.getfield 138, 3) := by decide +kernel
theorem d12_readSide_4 : decode cX12_readSide 4 = .ok (.ifCond .le 7, 3) := by decide +kernel
theorem d12_readSide_7 : decode cX12_readSide 7 = .ok (.iconst 0, 1) := by decide +kernel
theorem d12_readSide_8 : decode cX12_readSide 8 = .ok (.goto 7, 3) := by decide +kernel
theorem d12_readSide_11 : decode cX12_readSide 11 = .ok (.aload_n 0, 1) := by decide +kernel
theorem d12_readSide_12 : decode cX12_readSide 12 = .ok (.invokevirtual 168, 3) := by decide +kernel
theorem d12_readSide_15 : decode cX12_readSide 15 = .ok (.istore_n 1, 1) := by decide +kernel
theorem d12_readSide_16 : decode cX12_readSide 16 = .ok (.aload_n 0, 1) := by decide +kernel
theorem d12_readSide_17 : decode cX12_readSide 17 = .ok (.iload_n 1, 1) := by decide +kernel
theorem d12_readSide_18 : decode cX12_readSide 18 = .ok (.ifCond .lt 7, 3) := by decide +kernel
theorem d12_readSide_21 : decode cX12_readSide 21 = .ok (.iconst 1, 1) := by decide +kernel
theorem d12_readSide_22 : decode cX12_readSide 22 = .ok (.goto 4, 3) := by decide +kernel
theorem d12_readSide_25 : decode cX12_readSide 25 = .ok (.iconst 0, 1) := by decide +kernel
theorem d12_readSide_26 : decode cX12_readSide 26 = .ok (.invokevirtual 161, 3) := by decide +kernel
theorem d12_readSide_29 : decode cX12_readSide 29 = .ok (.iconst 0, 1) := by decide +kernel
theorem d12_readSide_30 : decode cX12_readSide 30 = .ok (.iload_n 1, 1) := by decide +kernel
theorem d12_readSide_31 : decode cX12_readSide 31 = .ok (.invokestatic 165, 3) := by decide +kernel
theorem d12_readSide_34 : decode cX12_readSide 34 = .ok (.ireturn, 1) := by decide +kernel
abbrev K12_readSide : CK Int32 := (enI, (some .int), 2, 4, none)
noncomputable def F12_readSide_b26 (N : Nat) (l1 : Int32) (s1 : Int32) (σ : Ms) : Option (Int32 × Ms) :=
  bn (F12_must N s1 σ) (fun r1 t2 => bn (FJ9_max_7cf53 (0 : Int32) l1 t2) (fun r3 t4 => some (r3, t4)))
noncomputable def F12_readSide_b15 (N : Nat) (s0 : Int32) (σ : Ms) : Option (Int32 × Ms) :=
  if s0 < 0 then (F12_readSide_b26 N s0 (0 : Int32) σ)
  else (F12_readSide_b26 N s0 (1 : Int32) σ)
noncomputable def F12_readSide (N : Nat) (σ : Ms) : Option (Int32 × Ms) :=
  if (σ.1 0 12) ≤ 0 then (bn (F12_sideWord σ) (fun r5 t6 => F12_readSide_b15 N r5 t6))
  else (F12_readSide_b15 N (0 : Int32) σ)
set_option maxRecDepth 100000 in
theorem v12_readSide_b26 (N : Nat) (l1 : Int32) (s1 : Int32) (σ : Ms) : VF (K12_readSide) cX12_readSide RX12 (F12_readSide_b26 N l1 s1 σ) σ 26 [(1, .int l1)] [.int s1, .ref 0] := by
  unfold F12_readSide_b26
  refine v_callV1v d12_readSide_26 (mc12_must N s1 σ) yv12_must mlX12_161 (Recv.obj ic_0 rfl) (by decide) (Nat.le_of_ble_eq_true rfl) fun r1 t2 => ?_
  refine v_iconst d12_readSide_29 ki_0 ?_
  refine v_iload_n d12_readSide_30 0 rfl rfl ?_
  refine v_callS2i d12_readSide_31 (mcJ9_max_7cf53 (0 : Int32) l1 t2) ysJ9_max_7cf53 mlX12_165 (by decide) (Nat.le_of_ble_eq_true rfl) fun r3 t4 => ?_
  exact v_iret d12_readSide_34 rfl rfl rfl
set_option maxRecDepth 100000 in
theorem v12_readSide_b15 (N : Nat) (s0 : Int32) (σ : Ms) : VF (K12_readSide) cX12_readSide RX12 (F12_readSide_b15 N s0 σ) σ 15 [(0, .ref 0)] [.int s0] := by
  unfold F12_readSide_b15
  refine v_istore_n (lv' := [(1, .int s0), (0, .ref 0)]) d12_readSide_15 rfl (by decide) rfl ?_
  refine v_aload_n d12_readSide_16 1 rfl rfl ?_
  refine v_iload_n d12_readSide_17 0 rfl rfl ?_
  refine v_if_lt (tgt := 25) d12_readSide_18 (by decide) ?_ ?_
  · refine v_iconst d12_readSide_25 ki_0 ?_
    refine v_sub [0] rfl ?_
    exact v12_readSide_b26 N s0 (0 : Int32) σ
  · refine v_iconst d12_readSide_21 ki_1 ?_
    refine v_goto (tgt := 26) d12_readSide_22 (by decide) ?_
    refine v_sub [0] rfl ?_
    exact v12_readSide_b26 N s0 (1 : Int32) σ
set_option maxRecDepth 100000 in
theorem mc12_readSide (N : Nat) (σ : Ms) : MC enI yX12_readSide cX12_readSide 2 (some .int) 4 (F12_readSide N σ) σ [.ref 0] := by
  refine MC.i (by decide +kernel) (Nat.le_of_ble_eq_true rfl) ?_
  show VF (K12_readSide) cX12_readSide RX12 (F12_readSide N σ) σ 0 [(0, .ref 0)] []
  unfold F12_readSide
  refine v_aload_n d12_readSide_0 0 rfl rfl ?_
  refine v_getI d12_readSide_1 faX12_138 ic_0 ?_
  refine v_if_le (tgt := 11) d12_readSide_4 (by decide) ?_ ?_
  · refine v_aload_n d12_readSide_11 0 rfl rfl ?_
    refine v_callV0i d12_readSide_12 (mc12_sideWord σ) yv12_sideWord mlX12_168 (Recv.obj ic_0 rfl) (by decide) (Nat.le_of_ble_eq_true rfl) fun r5 t6 => ?_
    exact v12_readSide_b15 N r5 t6
  · refine v_iconst d12_readSide_7 ki_0 ?_
    refine v_goto (tgt := 15) d12_readSide_8 (by decide) ?_
    exact v12_readSide_b15 N (0 : Int32) σ
theorem d12_lay_0 : decode cX12_lay 0 = .ok (.iconst 3, 1) := by decide +kernel
theorem d12_lay_1 : decode cX12_lay 1 = .ok (.istore_n 2, 1) := by decide +kernel
theorem d12_lay_2 : decode cX12_lay 2 = .ok (.iload_n 2, 1) := by decide +kernel
theorem d12_lay_3 : decode cX12_lay 3 = .ok (.ifCond .lt 35, 3) := by decide +kernel
theorem d12_lay_6 : decode cX12_lay 6 = .ok (.aload_n 0, 1) := by decide +kernel
theorem d12_lay_7 : decode cX12_lay 7 = .ok (.getfield 24, 3) := by decide +kernel
theorem d12_lay_10 : decode cX12_lay 10 = .ok (.aload_n 0, 1) := by decide +kernel
theorem d12_lay_11 : decode cX12_lay 11 = .ok (.getfield 171, 3) := by decide +kernel
theorem d12_lay_14 : decode cX12_lay 14 = .ok (.iload_n 1, 1) := by decide +kernel
theorem d12_lay_15 : decode cX12_lay 15 = .ok (.bipush 8, 2) := by decide +kernel
theorem d12_lay_17 : decode cX12_lay 17 = .ok (.iload_n 2, 1) := by decide +kernel
theorem d12_lay_18 : decode cX12_lay 18 = .ok (.imul, 1) := by decide +kernel
theorem d12_lay_19 : decode cX12_lay 19 = .ok (.ishr, 1) := by decide +kernel
theorem d12_lay_20 : decode cX12_lay 20 = .ok (.i2b, 1) := by decide +kernel
theorem d12_lay_21 : decode cX12_lay 21 = .ok (.bastore, 1) := by decide +kernel
theorem d12_lay_22 : decode cX12_lay 22 = .ok (.aload_n 0, 1) := by decide +kernel
theorem d12_lay_23 : decode cX12_lay 23 = .ok (.dup, 1) := by decide +kernel
theorem d12_lay_24 : decode cX12_lay 24 = .ok (.getfield 171, 3) := by decide +kernel
theorem d12_lay_27 : decode cX12_lay 27 = .ok (.iconst 1, 1) := by decide +kernel
theorem d12_lay_28 : decode cX12_lay 28 = .ok (.iadd, 1) := by decide +kernel
theorem d12_lay_29 : decode cX12_lay 29 = .ok (.putfield 171, 3) := by decide +kernel
theorem d12_lay_32 : decode cX12_lay 32 = .ok (.iinc 2 (-1), 3) := by decide +kernel
theorem d12_lay_35 : decode cX12_lay 35 = .ok (.goto (-33), 3) := by decide +kernel
theorem d12_lay_38 : decode cX12_lay 38 = .ok (.return_, 1) := by decide +kernel
abbrev K12_lay : CK Unit := (enV, none, 3, 1, none)
noncomputable def F12_lay_b2B (N : Nat) (k2 : Int32 × Int32 × Ms → Option (Unit × Ms)) (l1 : Int32) (l2 : Int32) (σ : Ms) : Option (Unit × Ms) :=
  if l2 < 0 then (some ((), σ))
  else (ck (ixb (σ.1 0 8) 900) (lt (sI σ 4 (σ.1 0 8).toNatClampNeg (((l1 >>> (((8 : Int32) * l2) &&& 31)).toInt8.toInt32).toInt8.toInt32)) (fun t1 => lt (sI t1 0 8 ((t1.1 0 8) + (1 : Int32))) (fun t2 => k2 (l1, (l2 + (-1 : Int32)), t2)))))
noncomputable def F12_lay_b2 (N : Nat) (l1 : Int32) (l2 : Int32) (σ : Ms) : Option (Unit × Ms) :=
  fx N (fun k x => F12_lay_b2B N k x.1 x.2.1 x.2.2) (l1, l2, σ)
noncomputable def F12_lay (N : Nat) (p0 : Int32) (σ : Ms) : Option (Unit × Ms) :=
  F12_lay_b2 N p0 (3 : Int32) σ
set_option maxRecDepth 100000 in
theorem v12_lay_b2B (N : Nat) (k2 : Int32 × Int32 × Ms → Option (Unit × Ms)) (hk2 : ∀ (l1 : Int32) (l2 : Int32) (τ : Ms), VF (K12_lay) cX12_lay RX12 (k2 (l1, l2, τ)) τ 2 [(0, .ref 0), (1, .int l1), (2, .int l2)] []) (l1 : Int32) (l2 : Int32) (σ : Ms) : VF (K12_lay) cX12_lay RX12 (F12_lay_b2B N k2 l1 l2 σ) σ 2 [(0, .ref 0), (1, .int l1), (2, .int l2)] [] := by
  unfold F12_lay_b2B
  refine v_iload_n d12_lay_2 2 rfl rfl ?_
  refine v_if_lt (tgt := 38) d12_lay_3 (by decide) ?_ ?_
  · exact v_vret d12_lay_38 rfl
  · refine v_aload_n d12_lay_6 0 rfl rfl ?_
    refine v_getR d12_lay_7 faX12_24 ic_0 rfl ?_
    refine v_aload_n d12_lay_10 0 rfl rfl ?_
    refine v_getI d12_lay_11 faX12_171 ic_0 ?_
    refine v_iload_n d12_lay_14 1 rfl rfl ?_
    refine v_bipush d12_lay_15 kb_8 ?_
    refine v_iload_n d12_lay_17 2 rfl rfl ?_
    refine v_imul d12_lay_18 ?_
    refine v_ishr d12_lay_19 ?_
    refine v_i2b d12_lay_20 ?_
    refine v_bast d12_lay_21 ic_4 ?_
    refine v_lts fun t1 => ?_
    refine v_aload_n d12_lay_22 0 rfl rfl ?_
    refine v_dup d12_lay_23 rfl ?_
    refine v_getI d12_lay_24 faX12_171 ic_0 ?_
    refine v_iconst d12_lay_27 ki_1 ?_
    refine v_iadd d12_lay_28 ?_
    refine v_putI d12_lay_29 faX12_171 fp9_8 ic_0 ?_
    refine v_lts fun t2 => ?_
    refine v_iinc (lv' := [(2, .int (l2 + (-1 : Int32))), (0, .ref 0), (1, .int l1)]) d12_lay_32 2 rfl (by rw [ki_m1]) (by decide) rfl ?_
    refine v_goto (tgt := 2) d12_lay_35 (by decide) ?_
    refine v_sub [1, 2, 0] rfl ?_
    exact hk2 l1 (l2 + (-1 : Int32)) t2
theorem v12_lay_b2 (N : Nat) (l1 : Int32) (l2 : Int32) (σ : Ms) : VF (K12_lay) cX12_lay RX12 (F12_lay_b2 N l1 l2 σ) σ 2 [(0, .ref 0), (1, .int l1), (2, .int l2)] [] := v_fx (σo := fun x => x.2.2) (lo := fun x => [(0, .ref 0), (1, .int x.1), (2, .int x.2.1)]) (fun k hk x => v12_lay_b2B N k (fun l1 l2 τ => hk (l1, l2, τ)) x.1 x.2.1 x.2.2) N (l1, l2, σ)
set_option maxRecDepth 100000 in
theorem mc12_lay (N : Nat) (p0 : Int32) (σ : Ms) : MC enV yX12_lay cX12_lay 3 none 1 (F12_lay N p0 σ) σ [.ref 0, .int p0] := by
  refine MC.v (by decide +kernel) (Nat.le_of_ble_eq_true rfl) ?_
  show VF (K12_lay) cX12_lay RX12 (F12_lay N p0 σ) σ 0 [(0, .ref 0), (1, .int p0)] []
  unfold F12_lay
  refine v_iconst d12_lay_0 ki_3 ?_
  refine v_istore_n (lv' := [(2, .int (3 : Int32)), (0, .ref 0), (1, .int p0)]) d12_lay_1 rfl (by decide) rfl ?_
  refine v_sub [1, 2, 0] rfl ?_
  exact v12_lay_b2 N p0 (3 : Int32) σ
theorem d12_feed_0 : decode cX12_feed 0 = .ok (.aload_n 0, 1) := by decide +kernel
theorem d12_feed_1 : decode cX12_feed 1 = .ok (.iconst 0, 1) := by decide +kernel
theorem d12_feed_2 : decode cX12_feed 2 = .ok (.putfield 53, 3) := by decide +kernel
theorem d12_feed_5 : decode cX12_feed 5 = .ok (.aload_n 0, 1) := by decide +kernel
theorem d12_feed_6 : decode cX12_feed 6 = .ok (.getfield 171, 3) := by decide +kernel
theorem d12_feed_9 : decode cX12_feed 9 = .ok (.bipush 20, 2) := by decide +kernel
theorem d12_feed_11 : decode cX12_feed 11 = .ok (.iadd, 1) := by decide +kernel
theorem d12_feed_12 : decode cX12_feed 12 = .ok (.sipush 900, 3) := by decide +kernel
theorem d12_feed_15 : decode cX12_feed 15 = .ok (.if_icmp .le 5, 3) := by decide +kernel
theorem d12_feed_18 : decode cX12_feed 18 = .ok (.iconst (-1), 1) := by decide +kernel
theorem d12_feed_19 : decode cX12_feed 19 = .ok (.ireturn, 1) := by decide +kernel
theorem d12_feed_20 : decode cX12_feed 20 = .ok (.aload_n 0, 1) := by decide +kernel
theorem d12_feed_21 : decode cX12_feed 21 = .ok (.iload_n 1, 1) := by decide +kernel
theorem d12_feed_22 : decode cX12_feed 22 = .ok (.invokevirtual 174, 3) := by decide +kernel
theorem d12_feed_25 : decode cX12_feed 25 = .ok (.aload_n 0, 1) := by decide +kernel
theorem d12_feed_26 : decode cX12_feed 26 = .ok (.iload_n 2, 1) := by decide +kernel
theorem d12_feed_27 : decode cX12_feed 27 = .ok (.invokevirtual 174, 3) := by decide +kernel
theorem d12_feed_30 : decode cX12_feed 30 = .ok (.aload_n 0, 1) := by decide +kernel
theorem d12_feed_31 : decode cX12_feed 31 = .ok (.iload_n 3, 1) := by decide +kernel
theorem d12_feed_32 : decode cX12_feed 32 = .ok (.invokevirtual 174, 3) := by decide +kernel
theorem d12_feed_35 : decode cX12_feed 35 = .ok (.aload_n 0, 1) := by decide +kernel
theorem d12_feed_36 : decode cX12_feed 36 = .ok (.iload 4, 2) := by decide +kernel
theorem d12_feed_38 : decode cX12_feed 38 = .ok (.invokevirtual 174, 3) := by decide +kernel
theorem d12_feed_41 : decode cX12_feed 41 = .ok (.aload_n 0, 1) := by decide +kernel
theorem d12_feed_42 : decode cX12_feed 42 = .ok (.iload 5, 2) := by decide +kernel
theorem d12_feed_44 : decode cX12_feed 44 = .ok (.invokevirtual 174, 3) := by decide +kernel
theorem d12_feed_47 : decode cX12_feed 47 = .ok (.aload_n 0, 1) := by decide +kernel
theorem d12_feed_48 : decode cX12_feed 48 = .ok (.getfield 171, 3) := by decide +kernel
theorem d12_feed_51 : decode cX12_feed 51 = .ok (.ireturn, 1) := by decide +kernel
abbrev K12_feed : CK Int32 := (enI, (some .int), 6, 2, none)
noncomputable def F12_feed (N : Nat) (p0 : Int32) (p1 : Int32) (p2 : Int32) (p3 : Int32) (p4 : Int32) (σ : Ms) : Option (Int32 × Ms) :=
  lt (sI σ 0 1 (0 : Int32)) (fun t1 => if ((t1.1 0 8) + (20 : Int32)) ≤ (900 : Int32) then (bn (F12_lay N p0 t1) (fun r2 t3 => bn (F12_lay N p1 t3) (fun r4 t5 => bn (F12_lay N p2 t5) (fun r6 t7 => bn (F12_lay N p3 t7) (fun r8 t9 => bn (F12_lay N p4 t9) (fun r10 t11 => some ((t11.1 0 8), t11)))))))
  else (some ((-1 : Int32), t1)))
set_option maxRecDepth 100000 in
theorem mc12_feed (N : Nat) (p0 : Int32) (p1 : Int32) (p2 : Int32) (p3 : Int32) (p4 : Int32) (σ : Ms) : MC enI yX12_feed cX12_feed 6 (some .int) 2 (F12_feed N p0 p1 p2 p3 p4 σ) σ [.ref 0, .int p0, .int p1, .int p2, .int p3, .int p4] := by
  refine MC.i (by decide +kernel) (Nat.le_of_ble_eq_true rfl) ?_
  show VF (K12_feed) cX12_feed RX12 (F12_feed N p0 p1 p2 p3 p4 σ) σ 0 [(0, .ref 0), (1, .int p0), (2, .int p1), (3, .int p2), (4, .int p3), (5, .int p4)] []
  unfold F12_feed
  refine v_aload_n d12_feed_0 0 rfl rfl ?_
  refine v_iconst d12_feed_1 ki_0 ?_
  refine v_putI d12_feed_2 faX12_53 fp9_1 ic_0 ?_
  refine v_lts fun t1 => ?_
  refine v_aload_n d12_feed_5 0 rfl rfl ?_
  refine v_getI d12_feed_6 faX12_171 ic_0 ?_
  refine v_bipush d12_feed_9 kb_20 ?_
  refine v_iadd d12_feed_11 ?_
  refine v_sipush d12_feed_12 ks_900 ?_
  refine v_icmp_le (tgt := 20) d12_feed_15 (by decide) ?_ ?_
  · refine v_aload_n d12_feed_20 0 rfl rfl ?_
    refine v_iload_n d12_feed_21 1 rfl rfl ?_
    refine v_callV1v d12_feed_22 (mc12_lay N p0 t1) yv12_lay mlX12_174 (Recv.obj ic_0 rfl) (by decide) (Nat.le_of_ble_eq_true rfl) fun r2 t3 => ?_
    refine v_aload_n d12_feed_25 0 rfl rfl ?_
    refine v_iload_n d12_feed_26 2 rfl rfl ?_
    refine v_callV1v d12_feed_27 (mc12_lay N p1 t3) yv12_lay mlX12_174 (Recv.obj ic_0 rfl) (by decide) (Nat.le_of_ble_eq_true rfl) fun r4 t5 => ?_
    refine v_aload_n d12_feed_30 0 rfl rfl ?_
    refine v_iload_n d12_feed_31 3 rfl rfl ?_
    refine v_callV1v d12_feed_32 (mc12_lay N p2 t5) yv12_lay mlX12_174 (Recv.obj ic_0 rfl) (by decide) (Nat.le_of_ble_eq_true rfl) fun r6 t7 => ?_
    refine v_aload_n d12_feed_35 0 rfl rfl ?_
    refine v_iload d12_feed_36 4 rfl ?_
    refine v_callV1v d12_feed_38 (mc12_lay N p3 t7) yv12_lay mlX12_174 (Recv.obj ic_0 rfl) (by decide) (Nat.le_of_ble_eq_true rfl) fun r8 t9 => ?_
    refine v_aload_n d12_feed_41 0 rfl rfl ?_
    refine v_iload d12_feed_42 5 rfl ?_
    refine v_callV1v d12_feed_44 (mc12_lay N p4 t9) yv12_lay mlX12_174 (Recv.obj ic_0 rfl) (by decide) (Nat.le_of_ble_eq_true rfl) fun r10 t11 => ?_
    refine v_aload_n d12_feed_47 0 rfl rfl ?_
    refine v_getI d12_feed_48 faX12_171 ic_0 ?_
    exact v_iret d12_feed_51 rfl rfl rfl
  · refine v_iconst d12_feed_18 ki_m1 ?_
    exact v_iret d12_feed_19 rfl rfl rfl
theorem d12_starts_0 : decode cX12_starts 0 = .ok (.iload_n 1, 1) := by decide +kernel
theorem d12_starts_1 : decode cX12_starts 1 = .ok (.ifCond .lt 16, 3) := by decide +kernel
theorem d12_starts_4 : decode cX12_starts 4 = .ok (.iload_n 1, 1) := by decide +kernel
theorem d12_starts_5 : decode cX12_starts 5 = .ok (.aload_n 0, 1) := by decide +kernel
theorem d12_starts_6 : decode cX12_starts 6 = .ok (.getfield 171, 3) := by decide +kernel
theorem d12_starts_9 : decode cX12_starts 9 = .ok (.if_icmp .gt 8, 3) := by decide +kernel
theorem d12_starts_12 : decode cX12_starts 12 = .ok (.iload_n 1, 1) := by decide +kernel
theorem d12_starts_13 : decode cX12_starts 13 = .ok (.iload_n 2, 1) := by decide +kernel
theorem d12_starts_14 : decode cX12_starts 14 = .ok (.if_icmp .le 9, 3) := by decide +kernel
theorem d12_starts_17 : decode cX12_starts 17 = .ok (.aload_n 0, 1) := by decide +kernel
theorem d12_starts_18 : decode cX12_starts 18 = .ok (.iconst 5, 1) := by decide +kernel
theorem d12_starts_19 : decode cX12_starts 19 = .ok (.invokevirtual 68, 3) := by decide +kernel
theorem d12_starts_22 : decode cX12_starts 22 = .ok (.ireturn, 1) := by decide +kernel
theorem d12_starts_23 : decode cX12_starts 23 = .ok (.aload_n 0, 1) := by decide +kernel
theorem d12_starts_24 : decode cX12_starts 24 = .ok (.iload_n 1, 1) := by decide +kernel
theorem d12_starts_25 : decode cX12_starts 25 = .ok (.putfield 96, 3) := by decide +kernel
theorem d12_starts_28 : decode cX12_starts 28 = .ok (.aload_n 0, 1) := by decide +kernel
theorem d12_starts_29 : decode cX12_starts 29 = .ok (.iconst 0, 1) := by decide +kernel
theorem d12_starts_30 : decode cX12_starts 30 = .ok (.putfield 171, 3) := by decide +kernel
theorem d12_starts_33 : decode cX12_starts 33 = .ok (.aload_n 0, 1) := by decide +kernel
theorem d12_starts_34 : decode cX12_starts 34 = .ok (.iconst 0, 1) := by decide +kernel
theorem d12_starts_35 : decode cX12_starts 35 = .ok (.putfield 99, 3) := by decide +kernel
theorem d12_starts_38 : decode cX12_starts 38 = .ok (.aload_n 0, 1) := by decide +kernel
theorem d12_starts_39 : decode cX12_starts 39 = .ok (.iconst 0, 1) := by decide +kernel
theorem d12_starts_40 : decode cX12_starts 40 = .ok (.putfield 138, 3) := by decide +kernel
theorem d12_starts_43 : decode cX12_starts 43 = .ok (.aload_n 0, 1) := by decide +kernel
theorem d12_starts_44 : decode cX12_starts 44 = .ok (.invokevirtual 148, 3) := by decide +kernel
theorem d12_starts_47 : decode cX12_starts 47 = .ok (.iconst 1, 1) := by decide +kernel
theorem d12_starts_48 : decode cX12_starts 48 = .ok (.ireturn, 1) := by decide +kernel
abbrev K12_starts : CK Int32 := (enI, (some .boolean), 3, 3, none)
noncomputable def F12_starts_b17 (N : Nat) (σ : Ms) : Option (Int32 × Ms) :=
  bn (F12_no (5 : Int32) σ) (fun r1 t2 => ck (nkB r1) (some (r1, t2)))
noncomputable def F12_starts (N : Nat) (p0 : Int32) (p1 : Int32) (σ : Ms) : Option (Int32 × Ms) :=
  if p0 < 0 then (F12_starts_b17 N σ)
  else (if (σ.1 0 8) < p0 then (F12_starts_b17 N σ)
  else (if p0 ≤ p1 then (lt (sI σ 0 9 p0) (fun t3 => lt (sI t3 0 8 (0 : Int32)) (fun t4 => lt (sI t4 0 16 (0 : Int32)) (fun t5 => lt (sI t5 0 12 (0 : Int32)) (fun t6 => bn (F12_advance N t6) (fun r7 t8 => some ((1 : Int32), t8)))))))
  else (F12_starts_b17 N σ)))
set_option maxRecDepth 100000 in
theorem v12_starts_b17 (N : Nat) (σ : Ms) : VF (K12_starts) cX12_starts RX12 (F12_starts_b17 N σ) σ 17 [(0, .ref 0)] [] := by
  unfold F12_starts_b17
  refine v_aload_n d12_starts_17 0 rfl rfl ?_
  refine v_iconst d12_starts_18 ki_5 ?_
  refine v_callV1i d12_starts_19 (mc12_no (5 : Int32) σ) yv12_no mlX12_68 (Recv.obj ic_0 rfl) (by decide) (Nat.le_of_ble_eq_true rfl) fun r1 t2 => ?_
  exact v_iretB d12_starts_22 rfl rfl
set_option maxRecDepth 100000 in
theorem mc12_starts (N : Nat) (p0 : Int32) (p1 : Int32) (σ : Ms) : MC enI yX12_starts cX12_starts 3 (some .boolean) 3 (F12_starts N p0 p1 σ) σ [.ref 0, .int p0, .int p1] := by
  refine MC.i (by decide +kernel) (Nat.le_of_ble_eq_true rfl) ?_
  show VF (K12_starts) cX12_starts RX12 (F12_starts N p0 p1 σ) σ 0 [(0, .ref 0), (1, .int p0), (2, .int p1)] []
  unfold F12_starts
  refine v_iload_n d12_starts_0 1 rfl rfl ?_
  refine v_if_lt (tgt := 17) d12_starts_1 (by decide) ?_ ?_
  · refine v_sub [0] rfl ?_
    exact v12_starts_b17 N σ
  · refine v_iload_n d12_starts_4 1 rfl rfl ?_
    refine v_aload_n d12_starts_5 0 rfl rfl ?_
    refine v_getI d12_starts_6 faX12_171 ic_0 ?_
    refine v_icmp_gt (tgt := 17) d12_starts_9 (by decide) ?_ ?_
    · refine v_sub [0] rfl ?_
      exact v12_starts_b17 N σ
    · refine v_iload_n d12_starts_12 1 rfl rfl ?_
      refine v_iload_n d12_starts_13 2 rfl rfl ?_
      refine v_icmp_le (tgt := 23) d12_starts_14 (by decide) ?_ ?_
      · refine v_aload_n d12_starts_23 0 rfl rfl ?_
        refine v_iload_n d12_starts_24 1 rfl rfl ?_
        refine v_putI d12_starts_25 faX12_96 fp9_9 ic_0 ?_
        refine v_lts fun t3 => ?_
        refine v_aload_n d12_starts_28 0 rfl rfl ?_
        refine v_iconst d12_starts_29 ki_0 ?_
        refine v_putI d12_starts_30 faX12_171 fp9_8 ic_0 ?_
        refine v_lts fun t4 => ?_
        refine v_aload_n d12_starts_33 0 rfl rfl ?_
        refine v_iconst d12_starts_34 ki_0 ?_
        refine v_putI d12_starts_35 faX12_99 fp9_16 ic_0 ?_
        refine v_lts fun t5 => ?_
        refine v_aload_n d12_starts_38 0 rfl rfl ?_
        refine v_iconst d12_starts_39 ki_0 ?_
        refine v_putI d12_starts_40 faX12_138 fp9_12 ic_0 ?_
        refine v_lts fun t6 => ?_
        refine v_aload_n d12_starts_43 0 rfl rfl ?_
        refine v_callV0v d12_starts_44 (mc12_advance N t6) yv12_advance mlX12_148 (Recv.obj ic_0 rfl) (by decide) (Nat.le_of_ble_eq_true rfl) fun r7 t8 => ?_
        refine v_iconst d12_starts_47 ki_1 ?_
        exact v_iret (ty := .boolean) d12_starts_48 rfl rfl rfl
      · refine v_sub [0] rfl ?_
        exact v12_starts_b17 N σ
theorem d12_isWell_0 : decode cX12_isWell 0 = .ok (.aload_n 0, 1) := by decide +kernel
theorem d12_isWell_1 : decode cX12_isWell 1 = .ok (.aload_n 0, 1) := by decide +kernel
theorem d12_isWell_2 : decode cX12_isWell 2 = .ok (.getfield 138, 3) := by decide +kernel
theorem d12_isWell_5 : decode cX12_isWell 5 = .ok (.putfield 28, 3) := by decide +kernel
theorem d12_isWell_8 : decode cX12_isWell 8 = .ok (.aload_n 0, 1) := by decide +kernel
theorem d12_isWell_9 : decode cX12_isWell 9 = .ok (.aload_n 0, 1) := by decide +kernel
theorem d12_isWell_10 : decode cX12_isWell 10 = .ok (.getfield 138, 3) := by decide +kernel
theorem d12_isWell_13 : decode cX12_isWell 13 = .ok (.ifCond .ne 7, 3) := by decide +kernel
theorem d12_isWell_16 : decode cX12_isWell 16 = .ok (.iconst (-1), 1) := by decide +kernel
theorem d12_isWell_17 : decode cX12_isWell 17 = .ok (.goto 7, 3) := by decide +kernel
theorem d12_isWell_20 : decode cX12_isWell 20 = .ok (.aload_n 0, 1) := by decide +kernel
theorem d12_isWell_21 : decode cX12_isWell 21 = .ok (.getfield 141, 3) := by decide +kernel
theorem d12_isWell_24 : decode cX12_isWell 24 = .ok (.putfield 32, 3) := by decide +kernel
theorem d12_isWell_27 : decode cX12_isWell 27 = .ok (.aload_n 0, 1) := by decide +kernel
theorem d12_isWell_28 : decode cX12_isWell 28 = .ok (.getfield 138, 3) := by decide +kernel
theorem d12_isWell_31 : decode cX12_isWell 31 = .ok (.ifCond .eq 12, 3) := by decide +kernel
theorem d12_isWell_34 : decode cX12_isWell 34 = .ok (.aload_n 0, 1) := by decide +kernel
theorem d12_isWell_35 : decode cX12_isWell 35 = .ok (.bipush 10, 2) := by decide +kernel
theorem d12_isWell_37 : decode cX12_isWell 37 = .ok (.invokevirtual 68, 3) := by decide +kernel
theorem d12_isWell_40 : decode cX12_isWell 40 = .ok (.ifCond .eq 7, 3) := by decide +kernel
theorem d12_isWell_43 : decode cX12_isWell 43 = .ok (.iconst 1, 1) := by decide +kernel
theorem d12_isWell_44 : decode cX12_isWell 44 = .ok (.goto 4, 3) := by decide +kernel
theorem d12_isWell_47 : decode cX12_isWell 47 = .ok (.iconst 0, 1) := by decide +kernel
theorem d12_isWell_48 : decode cX12_isWell 48 = .ok (.ireturn, 1) := by decide +kernel
abbrev K12_isWell : CK Int32 := (enI, (some .boolean), 1, 2, none)
noncomputable def F12_isWell_b43 (σ : Ms) : Option (Int32 × Ms) :=
  some ((1 : Int32), σ)
noncomputable def F12_isWell_b24 (s1 : Int32) (σ : Ms) : Option (Int32 × Ms) :=
  lt (sI σ 0 11 s1) (fun t1 => if (t1.1 0 12) = 0 then (F12_isWell_b43 t1)
  else (bn (F12_no (10 : Int32) t1) (fun r2 t3 => if r2 = 0 then (some ((0 : Int32), t3))
  else (F12_isWell_b43 t3))))
noncomputable def F12_isWell (σ : Ms) : Option (Int32 × Ms) :=
  lt (sI σ 0 10 (σ.1 0 12)) (fun t4 => if (t4.1 0 12) ≠ 0 then (F12_isWell_b24 (t4.1 0 13) t4)
  else (F12_isWell_b24 (-1 : Int32) t4))
set_option maxRecDepth 100000 in
theorem v12_isWell_b43 (σ : Ms) : VF (K12_isWell) cX12_isWell RX12 (F12_isWell_b43 σ) σ 43 [] [] := by
  unfold F12_isWell_b43
  refine v_iconst d12_isWell_43 ki_1 ?_
  refine v_goto (tgt := 48) d12_isWell_44 (by decide) ?_
  exact v_iret (ty := .boolean) d12_isWell_48 rfl rfl rfl
set_option maxRecDepth 100000 in
theorem v12_isWell_b24 (s1 : Int32) (σ : Ms) : VF (K12_isWell) cX12_isWell RX12 (F12_isWell_b24 s1 σ) σ 24 [(0, .ref 0)] [.int s1, .ref 0] := by
  unfold F12_isWell_b24
  refine v_putI d12_isWell_24 faX12_32 fp9_11 ic_0 ?_
  refine v_lts fun t1 => ?_
  refine v_aload_n d12_isWell_27 0 rfl rfl ?_
  refine v_getI d12_isWell_28 faX12_138 ic_0 ?_
  refine v_if_eq (tgt := 43) d12_isWell_31 (by decide) ?_ ?_
  · refine v_sub [] rfl ?_
    exact v12_isWell_b43 t1
  · refine v_aload_n d12_isWell_34 0 rfl rfl ?_
    refine v_bipush d12_isWell_35 kb_10 ?_
    refine v_callV1i d12_isWell_37 (mc12_no (10 : Int32) t1) yv12_no mlX12_68 (Recv.obj ic_0 rfl) (by decide) (Nat.le_of_ble_eq_true rfl) fun r2 t3 => ?_
    refine v_if_eq (tgt := 47) d12_isWell_40 (by decide) ?_ ?_
    · refine v_iconst d12_isWell_47 ki_0 ?_
      exact v_iret (ty := .boolean) d12_isWell_48 rfl rfl rfl
    · refine v_sub [] rfl ?_
      exact v12_isWell_b43 t3
set_option maxRecDepth 100000 in
theorem mc12_isWell (σ : Ms) : MC enI yX12_isWell cX12_isWell 1 (some .boolean) 2 (F12_isWell σ) σ [.ref 0] := by
  refine MC.i (by decide +kernel) (Nat.le_of_ble_eq_true rfl) ?_
  show VF (K12_isWell) cX12_isWell RX12 (F12_isWell σ) σ 0 [(0, .ref 0)] []
  unfold F12_isWell
  refine v_aload_n d12_isWell_0 0 rfl rfl ?_
  refine v_aload_n d12_isWell_1 0 rfl rfl ?_
  refine v_getI d12_isWell_2 faX12_138 ic_0 ?_
  refine v_putI d12_isWell_5 faX12_28 fp9_10 ic_0 ?_
  refine v_lts fun t4 => ?_
  refine v_aload_n d12_isWell_8 0 rfl rfl ?_
  refine v_aload_n d12_isWell_9 0 rfl rfl ?_
  refine v_getI d12_isWell_10 faX12_138 ic_0 ?_
  refine v_if_ne (tgt := 20) d12_isWell_13 (by decide) ?_ ?_
  · refine v_aload_n d12_isWell_20 0 rfl rfl ?_
    refine v_getI d12_isWell_21 faX12_141 ic_0 ?_
    exact v12_isWell_b24 (t4.1 0 13) t4
  · refine v_iconst d12_isWell_16 ki_m1 ?_
    refine v_goto (tgt := 24) d12_isWell_17 (by decide) ?_
    exact v12_isWell_b24 (-1 : Int32) t4
theorem d12_fault_0 : decode cX12_fault 0 = .ok (.aload_n 0, 1) := by decide +kernel
theorem d12_fault_1 : decode cX12_fault 1 = .ok (.iconst 0, 1) := by decide +kernel
theorem d12_fault_2 : decode cX12_fault 2 = .ok (.putfield 53, 3) := by decide +kernel
theorem d12_fault_5 : decode cX12_fault 5 = .ok (.iload_n 1, 1) := by decide +kernel
theorem d12_fault_6 : decode cX12_fault 6 = .ok (.ifCond .ne 10, 3) := by decide +kernel
theorem d12_fault_9 : decode cX12_fault 9 = .ok (.aload_n 0, 1) := by decide +kernel
theorem d12_fault_10 : decode cX12_fault 10 = .ok (.getfield 28, 3) := by decide +kernel
theorem d12_fault_13 : decode cX12_fault 13 = .ok (.goto 16, 3) := by decide +kernel
theorem d12_fault_16 : decode cX12_fault 16 = .ok (.iload_n 1, 1) := by decide +kernel
theorem d12_fault_17 : decode cX12_fault 17 = .ok (.iconst 1, 1) := by decide +kernel
theorem d12_fault_18 : decode cX12_fault 18 = .ok (.if_icmp .ne 10, 3) := by decide +kernel
theorem d12_fault_21 : decode cX12_fault 21 = .ok (.aload_n 0, 1) := by decide +kernel
theorem d12_fault_22 : decode cX12_fault 22 = .ok (.getfield 32, 3) := by decide +kernel
theorem d12_fault_25 : decode cX12_fault 25 = .ok (.goto 4, 3) := by decide +kernel
theorem d12_fault_28 : decode cX12_fault 28 = .ok (.iconst (-1), 1) := by decide +kernel
theorem d12_fault_29 : decode cX12_fault 29 = .ok (.ireturn, 1) := by decide +kernel
abbrev K12_fault : CK Int32 := (enI, (some .int), 2, 1, none)
noncomputable def F12_fault (p0 : Int32) (σ : Ms) : Option (Int32 × Ms) :=
  lt (sI σ 0 1 (0 : Int32)) (fun t1 => if p0 ≠ 0 then (if p0 ≠ (1 : Int32) then (some ((-1 : Int32), t1))
  else (some ((t1.1 0 11), t1)))
  else (some ((t1.1 0 10), t1)))
set_option maxRecDepth 100000 in
theorem mc12_fault (p0 : Int32) (σ : Ms) : MC enI yX12_fault cX12_fault 2 (some .int) 1 (F12_fault p0 σ) σ [.ref 0, .int p0] := by
  refine MC.i (by decide +kernel) (Nat.le_of_ble_eq_true rfl) ?_
  show VF (K12_fault) cX12_fault RX12 (F12_fault p0 σ) σ 0 [(0, .ref 0), (1, .int p0)] []
  unfold F12_fault
  refine v_aload_n d12_fault_0 0 rfl rfl ?_
  refine v_iconst d12_fault_1 ki_0 ?_
  refine v_putI d12_fault_2 faX12_53 fp9_1 ic_0 ?_
  refine v_lts fun t1 => ?_
  refine v_iload_n d12_fault_5 1 rfl rfl ?_
  refine v_if_ne (tgt := 16) d12_fault_6 (by decide) ?_ ?_
  · refine v_iload_n d12_fault_16 1 rfl rfl ?_
    refine v_iconst d12_fault_17 ki_1 ?_
    refine v_icmp_ne (tgt := 28) d12_fault_18 (by decide) ?_ ?_
    · refine v_iconst d12_fault_28 ki_m1 ?_
      exact v_iret d12_fault_29 rfl rfl rfl
    · refine v_aload_n d12_fault_21 0 rfl rfl ?_
      refine v_getI d12_fault_22 faX12_32 ic_0 ?_
      refine v_goto (tgt := 29) d12_fault_25 (by decide) ?_
      exact v_iret d12_fault_29 rfl rfl rfl
  · refine v_aload_n d12_fault_9 0 rfl rfl ?_
    refine v_getI d12_fault_10 faX12_28 ic_0 ?_
    refine v_goto (tgt := 29) d12_fault_13 (by decide) ?_
    exact v_iret d12_fault_29 rfl rfl rfl
theorem d12_grows_0 : decode cX12_grows 0 = .ok (.sipush 356, 3) := by decide +kernel
theorem d12_grows_3 : decode cX12_grows 3 = .ok (.iload_n 1, 1) := by decide +kernel
theorem d12_grows_4 : decode cX12_grows 4 = .ok (.imul, 1) := by decide +kernel
theorem d12_grows_5 : decode cX12_grows 5 = .ok (.istore 4, 2) := by decide +kernel
theorem d12_grows_7 : decode cX12_grows 7 = .ok (.aload_n 0, 1) := by decide +kernel
theorem d12_grows_8 : decode cX12_grows 8 = .ok (.getfield 35, 3) := by decide +kernel
theorem d12_grows_11 : decode cX12_grows 11 = .ok (.iload 4, 2) := by decide +kernel
theorem d12_grows_13 : decode cX12_grows 13 = .ok (.iaload, 1) := by decide +kernel
theorem d12_grows_14 : decode cX12_grows 14 = .ok (.istore 5, 2) := by decide +kernel
theorem d12_grows_16 : decode cX12_grows 16 = .ok (.aload_n 0, 1) := by decide +kernel
theorem d12_grows_17 : decode cX12_grows 17 = .ok (.getfield 35, 3) := by decide +kernel
theorem d12_grows_20 : decode cX12_grows 20 = .ok (.iload 4, 2) := by decide +kernel
theorem d12_grows_22 : decode cX12_grows 22 = .ok (.iconst 5, 1) := by decide +kernel
theorem d12_grows_23 : decode cX12_grows 23 = .ok (.iadd, 1) := by decide +kernel
theorem d12_grows_24 : decode cX12_grows 24 = .ok (.iload 5, 2) := by decide +kernel
theorem d12_grows_26 : decode cX12_grows 26 = .ok (.iadd, 1) := by decide +kernel
theorem d12_grows_27 : decode cX12_grows 27 = .ok (.iload_n 2, 1) := by decide +kernel
theorem d12_grows_28 : decode cX12_grows 28 = .ok (.iastore, 1) := by decide +kernel
theorem d12_grows_29 : decode cX12_grows 29 = .ok (.aload_n 0, 1) := by decide +kernel
theorem d12_grows_30 : decode cX12_grows 30 = .ok (.getfield 35, 3) := by decide +kernel
theorem d12_grows_33 : decode cX12_grows 33 = .ok (.iload 4, 2) := by decide +kernel
theorem d12_grows_35 : decode cX12_grows 35 = .ok (.bipush 25, 2) := by decide +kernel
theorem d12_grows_37 : decode cX12_grows 37 = .ok (.iadd, 1) := by decide +kernel
theorem d12_grows_38 : decode cX12_grows 38 = .ok (.iload 5, 2) := by decide +kernel
theorem d12_grows_40 : decode cX12_grows 40 = .ok (.iadd, 1) := by decide +kernel
theorem d12_grows_41 : decode cX12_grows 41 = .ok (.iload_n 3, 1) := by decide +kernel
theorem d12_grows_42 : decode cX12_grows 42 = .ok (.iconst 1, 1) := by decide +kernel
theorem d12_grows_43 : decode cX12_grows 43 = .ok (.iadd, 1) := by decide +kernel
theorem d12_grows_44 : decode cX12_grows 44 = .ok (.iastore, 1) := by decide +kernel
theorem d12_grows_45 : decode cX12_grows 45 = .ok (.aload_n 0, 1) := by decide +kernel
theorem d12_grows_46 : decode cX12_grows 46 = .ok (.getfield 35, 3) := by decide +kernel
theorem d12_grows_49 : decode cX12_grows 49 = .ok (.iload 4, 2) := by decide +kernel
theorem d12_grows_51 : decode cX12_grows 51 = .ok (.bipush 45, 2) := by decide +kernel
theorem d12_grows_53 : decode cX12_grows 53 = .ok (.iadd, 1) := by decide +kernel
theorem d12_grows_54 : decode cX12_grows 54 = .ok (.iload 5, 2) := by decide +kernel
theorem d12_grows_56 : decode cX12_grows 56 = .ok (.iadd, 1) := by decide +kernel
theorem d12_grows_57 : decode cX12_grows 57 = .ok (.iconst 1, 1) := by decide +kernel
theorem d12_grows_58 : decode cX12_grows 58 = .ok (.iastore, 1) := by decide +kernel
theorem d12_grows_59 : decode cX12_grows 59 = .ok (.aload_n 0, 1) := by decide +kernel
theorem d12_grows_60 : decode cX12_grows 60 = .ok (.getfield 35, 3) := by decide +kernel
theorem d12_grows_63 : decode cX12_grows 63 = .ok (.iload 4, 2) := by decide +kernel
theorem d12_grows_65 : decode cX12_grows 65 = .ok (.dup2, 1) := by decide +kernel
theorem d12_grows_66 : decode cX12_grows 66 = .ok (.iaload, 1) := by decide +kernel
theorem d12_grows_67 : decode cX12_grows 67 = .ok (.iconst 1, 1) := by decide +kernel
theorem d12_grows_68 : decode cX12_grows 68 = .ok (.iadd, 1) := by decide +kernel
theorem d12_grows_69 : decode cX12_grows 69 = .ok (.iastore, 1) := by decide +kernel
theorem d12_grows_70 : decode cX12_grows 70 = .ok (.return_, 1) := by decide +kernel
abbrev K12_grows : CK Unit := (enV, none, 6, 1, none)
noncomputable def F12_grows (p0 : Int32) (p1 : Int32) (p2 : Int32) (σ : Ms) : Option (Unit × Ms) :=
  lt ((356 : Int32) * p0) (fun x1 => ck (ixb x1 1780) (lt (σ.1 5 x1.toNatClampNeg) (fun x2 => ck (ixb ((x1 + (5 : Int32)) + x2) 1780) (lt (sI σ 5 ((x1 + (5 : Int32)) + x2).toNatClampNeg p1) (fun t3 => ck (ixb ((x1 + (25 : Int32)) + x2) 1780) (lt (sI t3 5 ((x1 + (25 : Int32)) + x2).toNatClampNeg (p2 + (1 : Int32))) (fun t4 => ck (ixb ((x1 + (45 : Int32)) + x2) 1780) (lt (sI t4 5 ((x1 + (45 : Int32)) + x2).toNatClampNeg (1 : Int32)) (fun t5 => ck (ixb x1 1780) (ck (ixb x1 1780) (lt (sI t5 5 x1.toNatClampNeg ((t5.1 5 x1.toNatClampNeg) + (1 : Int32))) (fun t6 => some ((), t6)))))))))))))
set_option maxRecDepth 100000 in
theorem mc12_grows (p0 : Int32) (p1 : Int32) (p2 : Int32) (σ : Ms) : MC enV yX12_grows cX12_grows 6 none 1 (F12_grows p0 p1 p2 σ) σ [.ref 0, .int p0, .int p1, .int p2] := by
  refine MC.v (by decide +kernel) (Nat.le_of_ble_eq_true rfl) ?_
  show VF (K12_grows) cX12_grows RX12 (F12_grows p0 p1 p2 σ) σ 0 [(0, .ref 0), (1, .int p0), (2, .int p1), (3, .int p2)] []
  unfold F12_grows
  refine v_sipush d12_grows_0 ks_356 ?_
  refine v_iload_n d12_grows_3 1 rfl rfl ?_
  refine v_imul d12_grows_4 ?_
  refine v_lti fun x1 => ?_
  refine v_istore (lv' := [(4, .int x1), (0, .ref 0), (1, .int p0), (2, .int p1), (3, .int p2)]) d12_grows_5 (by decide) rfl ?_
  refine v_aload_n d12_grows_7 1 rfl rfl ?_
  refine v_getR d12_grows_8 faX12_35 ic_0 rfl ?_
  refine v_iload d12_grows_11 0 rfl ?_
  refine v_iald d12_grows_13 ic_5 ?_
  refine v_lti fun x2 => ?_
  refine v_istore (lv' := [(5, .int x2), (4, .int x1), (0, .ref 0), (1, .int p0), (2, .int p1), (3, .int p2)]) d12_grows_14 (by decide) rfl ?_
  refine v_aload_n d12_grows_16 2 rfl rfl ?_
  refine v_getR d12_grows_17 faX12_35 ic_0 rfl ?_
  refine v_iload d12_grows_20 1 rfl ?_
  refine v_iconst d12_grows_22 ki_5 ?_
  refine v_iadd d12_grows_23 ?_
  refine v_iload d12_grows_24 0 rfl ?_
  refine v_iadd d12_grows_26 ?_
  refine v_iload_n d12_grows_27 4 rfl rfl ?_
  refine v_iast d12_grows_28 ic_5 ?_
  refine v_lts fun t3 => ?_
  refine v_aload_n d12_grows_29 2 rfl rfl ?_
  refine v_getR d12_grows_30 faX12_35 ic_0 rfl ?_
  refine v_iload d12_grows_33 1 rfl ?_
  refine v_bipush d12_grows_35 kb_25 ?_
  refine v_iadd d12_grows_37 ?_
  refine v_iload d12_grows_38 0 rfl ?_
  refine v_iadd d12_grows_40 ?_
  refine v_iload_n d12_grows_41 5 rfl rfl ?_
  refine v_iconst d12_grows_42 ki_1 ?_
  refine v_iadd d12_grows_43 ?_
  refine v_iast d12_grows_44 ic_5 ?_
  refine v_lts fun t4 => ?_
  refine v_aload_n d12_grows_45 2 rfl rfl ?_
  refine v_getR d12_grows_46 faX12_35 ic_0 rfl ?_
  refine v_iload d12_grows_49 1 rfl ?_
  refine v_bipush d12_grows_51 kb_45 ?_
  refine v_iadd d12_grows_53 ?_
  refine v_iload d12_grows_54 0 rfl ?_
  refine v_iadd d12_grows_56 ?_
  refine v_iconst d12_grows_57 ki_1 ?_
  refine v_iast d12_grows_58 ic_5 ?_
  refine v_lts fun t5 => ?_
  refine v_aload_n d12_grows_59 2 rfl rfl ?_
  refine v_getR d12_grows_60 faX12_35 ic_0 rfl ?_
  refine v_iload d12_grows_63 1 rfl ?_
  refine v_dup2_11 d12_grows_65 rfl rfl ?_
  refine v_iald d12_grows_66 ic_5 ?_
  refine v_iconst d12_grows_67 ki_1 ?_
  refine v_iadd d12_grows_68 ?_
  refine v_iast d12_grows_69 ic_5 ?_
  refine v_lts fun t6 => ?_
  exact v_vret d12_grows_70 rfl
theorem d12_mayGrow_0 : decode cX12_mayGrow 0 = .ok (.iload_n 3, 1) := by decide +kernel
theorem d12_mayGrow_1 : decode cX12_mayGrow 1 = .ok (.ifCond .lt 39, 3) := by decide +kernel
theorem d12_mayGrow_4 : decode cX12_mayGrow 4 = .ok (.iload_n 2, 1) := by decide +kernel
theorem d12_mayGrow_5 : decode cX12_mayGrow 5 = .ok (.iconst 2, 1) := by decide +kernel
theorem d12_mayGrow_6 : decode cX12_mayGrow 6 = .ok (.if_icmp .ne 7, 3) := by decide +kernel
theorem d12_mayGrow_9 : decode cX12_mayGrow 9 = .ok (.iconst 1, 1) := by decide +kernel
theorem d12_mayGrow_10 : decode cX12_mayGrow 10 = .ok (.goto 4, 3) := by decide +kernel
theorem d12_mayGrow_13 : decode cX12_mayGrow 13 = .ok (.iconst 0, 1) := by decide +kernel
theorem d12_mayGrow_14 : decode cX12_mayGrow 14 = .ok (.aload_n 0, 1) := by decide +kernel
theorem d12_mayGrow_15 : decode cX12_mayGrow 15 = .ok (.getfield 35, 3) := by decide +kernel
theorem d12_mayGrow_18 : decode cX12_mayGrow 18 = .ok (.sipush 356, 3) := by decide +kernel
theorem d12_mayGrow_21 : decode cX12_mayGrow 21 = .ok (.iload_n 1, 1) := by decide +kernel
theorem d12_mayGrow_22 : decode cX12_mayGrow 22 = .ok (.imul, 1) := by decide +kernel
theorem d12_mayGrow_23 : decode cX12_mayGrow 23 = .ok (.iconst 5, 1) := by decide +kernel
theorem d12_mayGrow_24 : decode cX12_mayGrow 24 = .ok (.iadd, 1) := by decide +kernel
theorem d12_mayGrow_25 : decode cX12_mayGrow 25 = .ok (.iload_n 3, 1) := by decide +kernel
theorem d12_mayGrow_26 : decode cX12_mayGrow 26 = .ok (.iadd, 1) := by decide +kernel
theorem d12_mayGrow_27 : decode cX12_mayGrow 27 = .ok (.iaload, 1) := by decide +kernel
theorem d12_mayGrow_28 : decode cX12_mayGrow 28 = .ok (.iconst 2, 1) := by decide +kernel
theorem d12_mayGrow_29 : decode cX12_mayGrow 29 = .ok (.if_icmp .ne 7, 3) := by decide +kernel
theorem d12_mayGrow_32 : decode cX12_mayGrow 32 = .ok (.iconst 1, 1) := by decide +kernel
theorem d12_mayGrow_33 : decode cX12_mayGrow 33 = .ok (.goto 4, 3) := by decide +kernel
theorem d12_mayGrow_36 : decode cX12_mayGrow 36 = .ok (.iconst 0, 1) := by decide +kernel
theorem d12_mayGrow_37 : decode cX12_mayGrow 37 = .ok (.if_icmp .ne 7, 3) := by decide +kernel
theorem d12_mayGrow_40 : decode cX12_mayGrow 40 = .ok (.iconst 1, 1) := by decide +kernel
theorem d12_mayGrow_41 : decode cX12_mayGrow 41 = .ok (.goto 4, 3) := by decide +kernel
theorem d12_mayGrow_44 : decode cX12_mayGrow 44 = .ok (.iconst 0, 1) := by decide +kernel
theorem d12_mayGrow_45 : decode cX12_mayGrow 45 = .ok (.ireturn, 1) := by decide +kernel
abbrev K12_mayGrow : CK Int32 := (enI, (some .boolean), 4, 1, none)
noncomputable def F12_mayGrow_b40 (σ : Ms) : Option (Int32 × Ms) :=
  some ((1 : Int32), σ)
noncomputable def F12_mayGrow_b37 (s0 : Int32) (s1 : Int32) (σ : Ms) : Option (Int32 × Ms) :=
  if s0 ≠ s1 then (some ((0 : Int32), σ))
  else (F12_mayGrow_b40 σ)
noncomputable def F12_mayGrow_b14 (l1 : Int32) (l3 : Int32) (s0 : Int32) (σ : Ms) : Option (Int32 × Ms) :=
  ck (ixb ((((356 : Int32) * l1) + (5 : Int32)) + l3) 1780) (if (σ.1 5 ((((356 : Int32) * l1) + (5 : Int32)) + l3).toNatClampNeg) ≠ (2 : Int32) then (F12_mayGrow_b37 s0 (0 : Int32) σ)
  else (F12_mayGrow_b37 s0 (1 : Int32) σ))
noncomputable def F12_mayGrow (p0 : Int32) (p1 : Int32) (p2 : Int32) (σ : Ms) : Option (Int32 × Ms) :=
  if p2 < 0 then (F12_mayGrow_b40 σ)
  else (if p1 ≠ (2 : Int32) then (F12_mayGrow_b14 p0 p2 (0 : Int32) σ)
  else (F12_mayGrow_b14 p0 p2 (1 : Int32) σ))
set_option maxRecDepth 100000 in
theorem v12_mayGrow_b40 (σ : Ms) : VF (K12_mayGrow) cX12_mayGrow RX12 (F12_mayGrow_b40 σ) σ 40 [] [] := by
  unfold F12_mayGrow_b40
  refine v_iconst d12_mayGrow_40 ki_1 ?_
  refine v_goto (tgt := 45) d12_mayGrow_41 (by decide) ?_
  exact v_iret (ty := .boolean) d12_mayGrow_45 rfl rfl rfl
set_option maxRecDepth 100000 in
theorem v12_mayGrow_b37 (s0 : Int32) (s1 : Int32) (σ : Ms) : VF (K12_mayGrow) cX12_mayGrow RX12 (F12_mayGrow_b37 s0 s1 σ) σ 37 [] [.int s1, .int s0] := by
  unfold F12_mayGrow_b37
  refine v_icmp_ne (tgt := 44) d12_mayGrow_37 (by decide) ?_ ?_
  · refine v_iconst d12_mayGrow_44 ki_0 ?_
    exact v_iret (ty := .boolean) d12_mayGrow_45 rfl rfl rfl
  · exact v12_mayGrow_b40 σ
set_option maxRecDepth 100000 in
theorem v12_mayGrow_b14 (l1 : Int32) (l3 : Int32) (s0 : Int32) (σ : Ms) : VF (K12_mayGrow) cX12_mayGrow RX12 (F12_mayGrow_b14 l1 l3 s0 σ) σ 14 [(0, .ref 0), (1, .int l1), (3, .int l3)] [.int s0] := by
  unfold F12_mayGrow_b14
  refine v_aload_n d12_mayGrow_14 0 rfl rfl ?_
  refine v_getR d12_mayGrow_15 faX12_35 ic_0 rfl ?_
  refine v_sipush d12_mayGrow_18 ks_356 ?_
  refine v_iload_n d12_mayGrow_21 1 rfl rfl ?_
  refine v_imul d12_mayGrow_22 ?_
  refine v_iconst d12_mayGrow_23 ki_5 ?_
  refine v_iadd d12_mayGrow_24 ?_
  refine v_iload_n d12_mayGrow_25 2 rfl rfl ?_
  refine v_iadd d12_mayGrow_26 ?_
  refine v_iald d12_mayGrow_27 ic_5 ?_
  refine v_iconst d12_mayGrow_28 ki_2 ?_
  refine v_icmp_ne (tgt := 36) d12_mayGrow_29 (by decide) ?_ ?_
  · refine v_iconst d12_mayGrow_36 ki_0 ?_
    refine v_sub [] rfl ?_
    exact v12_mayGrow_b37 s0 (0 : Int32) σ
  · refine v_iconst d12_mayGrow_32 ki_1 ?_
    refine v_goto (tgt := 37) d12_mayGrow_33 (by decide) ?_
    refine v_sub [] rfl ?_
    exact v12_mayGrow_b37 s0 (1 : Int32) σ
set_option maxRecDepth 100000 in
theorem mc12_mayGrow (p0 : Int32) (p1 : Int32) (p2 : Int32) (σ : Ms) : MC enI yX12_mayGrow cX12_mayGrow 4 (some .boolean) 1 (F12_mayGrow p0 p1 p2 σ) σ [.ref 0, .int p0, .int p1, .int p2] := by
  refine MC.i (by decide +kernel) (Nat.le_of_ble_eq_true rfl) ?_
  show VF (K12_mayGrow) cX12_mayGrow RX12 (F12_mayGrow p0 p1 p2 σ) σ 0 [(0, .ref 0), (1, .int p0), (2, .int p1), (3, .int p2)] []
  unfold F12_mayGrow
  refine v_iload_n d12_mayGrow_0 3 rfl rfl ?_
  refine v_if_lt (tgt := 40) d12_mayGrow_1 (by decide) ?_ ?_
  · refine v_sub [] rfl ?_
    exact v12_mayGrow_b40 σ
  · refine v_iload_n d12_mayGrow_4 2 rfl rfl ?_
    refine v_iconst d12_mayGrow_5 ki_2 ?_
    refine v_icmp_ne (tgt := 13) d12_mayGrow_6 (by decide) ?_ ?_
    · refine v_iconst d12_mayGrow_13 ki_0 ?_
      refine v_sub [0, 1, 3] rfl ?_
      exact v12_mayGrow_b14 p0 p2 (0 : Int32) σ
    · refine v_iconst d12_mayGrow_9 ki_1 ?_
      refine v_goto (tgt := 14) d12_mayGrow_10 (by decide) ?_
      refine v_sub [0, 1, 3] rfl ?_
      exact v12_mayGrow_b14 p0 p2 (1 : Int32) σ
theorem d12_another_0 : decode cX12_another 0 = .ok (.aload_n 0, 1) := by decide +kernel
theorem d12_another_1 : decode cX12_another 1 = .ok (.getfield 35, 3) := by decide +kernel
theorem d12_another_4 : decode cX12_another 4 = .ok (.sipush 1424, 3) := by decide +kernel
theorem d12_another_7 : decode cX12_another 7 = .ok (.iload_n 1, 1) := by decide +kernel
theorem d12_another_8 : decode cX12_another 8 = .ok (.iadd, 1) := by decide +kernel
theorem d12_another_9 : decode cX12_another 9 = .ok (.iaload, 1) := by decide +kernel
theorem d12_another_10 : decode cX12_another 10 = .ok (.iload_n 2, 1) := by decide +kernel
theorem d12_another_11 : decode cX12_another 11 = .ok (.if_icmp .ne 13, 3) := by decide +kernel
theorem d12_another_14 : decode cX12_another 14 = .ok (.aload_n 0, 1) := by decide +kernel
theorem d12_another_15 : decode cX12_another 15 = .ok (.bipush 6, 2) := by decide +kernel
theorem d12_another_17 : decode cX12_another 17 = .ok (.aload_n 0, 1) := by decide +kernel
theorem d12_another_18 : decode cX12_another 18 = .ok (.getfield 102, 3) := by decide +kernel
theorem d12_another_21 : decode cX12_another 21 = .ok (.invokevirtual 144, 3) := by decide +kernel
theorem d12_another_24 : decode cX12_another 24 = .ok (.aload_n 0, 1) := by decide +kernel
theorem d12_another_25 : decode cX12_another 25 = .ok (.iconst 1, 1) := by decide +kernel
theorem d12_another_26 : decode cX12_another 26 = .ok (.invokevirtual 161, 3) := by decide +kernel
theorem d12_another_29 : decode cX12_another 29 = .ok (.return_, 1) := by decide +kernel
abbrev K12_another : CK Unit := (enV, none, 3, 4, none)
noncomputable def F12_another_b24 (N : Nat) (σ : Ms) : Option (Unit × Ms) :=
  bn (F12_must N (1 : Int32) σ) (fun r1 t2 => some ((), t2))
noncomputable def F12_another (N : Nat) (p0 : Int32) (p1 : Int32) (σ : Ms) : Option (Unit × Ms) :=
  ck (ixb ((1424 : Int32) + p0) 1780) (if (σ.1 5 ((1424 : Int32) + p0).toNatClampNeg) ≠ p1 then (F12_another_b24 N σ)
  else (bn (F12_fail (6 : Int32) (σ.1 0 15) σ) (fun r3 t4 => F12_another_b24 N t4)))
set_option maxRecDepth 100000 in
theorem v12_another_b24 (N : Nat) (σ : Ms) : VF (K12_another) cX12_another RX12 (F12_another_b24 N σ) σ 24 [(0, .ref 0)] [] := by
  unfold F12_another_b24
  refine v_aload_n d12_another_24 0 rfl rfl ?_
  refine v_iconst d12_another_25 ki_1 ?_
  refine v_callV1v d12_another_26 (mc12_must N (1 : Int32) σ) yv12_must mlX12_161 (Recv.obj ic_0 rfl) (by decide) (Nat.le_of_ble_eq_true rfl) fun r1 t2 => ?_
  exact v_vret d12_another_29 rfl
set_option maxRecDepth 100000 in
theorem mc12_another (N : Nat) (p0 : Int32) (p1 : Int32) (σ : Ms) : MC enV yX12_another cX12_another 3 none 4 (F12_another N p0 p1 σ) σ [.ref 0, .int p0, .int p1] := by
  refine MC.v (by decide +kernel) (Nat.le_of_ble_eq_true rfl) ?_
  show VF (K12_another) cX12_another RX12 (F12_another N p0 p1 σ) σ 0 [(0, .ref 0), (1, .int p0), (2, .int p1)] []
  unfold F12_another
  refine v_aload_n d12_another_0 0 rfl rfl ?_
  refine v_getR d12_another_1 faX12_35 ic_0 rfl ?_
  refine v_sipush d12_another_4 ks_1424 ?_
  refine v_iload_n d12_another_7 1 rfl rfl ?_
  refine v_iadd d12_another_8 ?_
  refine v_iald d12_another_9 ic_5 ?_
  refine v_iload_n d12_another_10 2 rfl rfl ?_
  refine v_icmp_ne (tgt := 24) d12_another_11 (by decide) ?_ ?_
  · refine v_sub [0] rfl ?_
    exact v12_another_b24 N σ
  · refine v_aload_n d12_another_14 0 rfl rfl ?_
    refine v_bipush d12_another_15 kb_6 ?_
    refine v_aload_n d12_another_17 0 rfl rfl ?_
    refine v_getI d12_another_18 faX12_102 ic_0 ?_
    refine v_callV2v d12_another_21 (mc12_fail (6 : Int32) (σ.1 0 15) σ) yv12_fail mlX12_144 (Recv.obj ic_0 rfl) (by decide) (Nat.le_of_ble_eq_true rfl) fun r3 t4 => ?_
    refine v_sub [0] rfl ?_
    exact v12_another_b24 N t4
