theorem d8_isNumberBelow_0 : decode cX8_isNumberBelow 0 = .ok (.aload_n 0, 1) := by decide +kernel
theorem d8_isNumberBelow_1 : decode cX8_isNumberBelow 1 = .ok (.getfield 28, 3) := by decide +kernel
theorem d8_isNumberBelow_4 : decode cX8_isNumberBelow 4 = .ok (.iconst 2, 1) := by decide +kernel
theorem d8_isNumberBelow_5 : decode cX8_isNumberBelow 5 = .ok (.if_icmp .ne 15, 3) := by decide +kernel
theorem d8_isNumberBelow_8 : decode cX8_isNumberBelow 8 = .ok (.aload_n 0, 1) := by decide +kernel
theorem d8_isNumberBelow_9 : decode cX8_isNumberBelow 9 = .ok (.getfield 37, 3) := by decide +kernel
theorem d8_isNumberBelow_12 : decode cX8_isNumberBelow 12 = .ok (.iload_n 1, 1) := by decide +kernel
theorem d8_isNumberBelow_13 : decode cX8_isNumberBelow 13 = .ok (.if_icmp .ge 7, 3) := by decide +kernel
theorem d8_isNumberBelow_16 : decode cX8_isNumberBelow 16 = .ok (.iconst 1, 1) := by decide +kernel
theorem d8_isNumberBelow_17 : decode cX8_isNumberBelow 17 = .ok (.goto 4, 3) := by decide +kernel
theorem d8_isNumberBelow_20 : decode cX8_isNumberBelow 20 = .ok (.iconst 0, 1) := by decide +kernel
theorem d8_isNumberBelow_21 : decode cX8_isNumberBelow 21 = .ok (.ireturn, 1) := by decide +kernel
abbrev K8_isNumberBelow : CK Int32 := (enI, (some .boolean), 2, 1, none)
noncomputable def F8_isNumberBelow (p0 : Int32) (σ : Ms) : Option (Int32 × Ms) :=
  if (σ.1 20 5) ≠ (2 : Int32) then (some ((0 : Int32), σ))
  else (if p0 ≤ (σ.1 20 8) then (some ((0 : Int32), σ))
  else (some ((1 : Int32), σ)))
set_option maxRecDepth 100000 in
theorem mc8_isNumberBelow (p0 : Int32) (σ : Ms) : MC enI yX8_isNumberBelow cX8_isNumberBelow 2 (some .boolean) 1 (F8_isNumberBelow p0 σ) σ [.ref 20, .int p0] := by
  refine MC.i (by decide +kernel) (Nat.le_of_ble_eq_true rfl) ?_
  show VF (K8_isNumberBelow) cX8_isNumberBelow RX8 (F8_isNumberBelow p0 σ) σ 0 [(0, .ref 20), (1, .int p0)] []
  unfold F8_isNumberBelow
  refine v_aload_n d8_isNumberBelow_0 0 rfl rfl ?_
  refine v_getI d8_isNumberBelow_1 faX8_28 ic_20 ?_
  refine v_iconst d8_isNumberBelow_4 ki_2 ?_
  refine v_icmp_ne (tgt := 20) d8_isNumberBelow_5 (by decide) ?_ ?_
  · refine v_iconst d8_isNumberBelow_20 ki_0 ?_
    exact v_iret (ty := .boolean) d8_isNumberBelow_21 rfl rfl rfl
  · refine v_aload_n d8_isNumberBelow_8 0 rfl rfl ?_
    refine v_getI d8_isNumberBelow_9 faX8_37 ic_20 ?_
    refine v_iload_n d8_isNumberBelow_12 1 rfl rfl ?_
    refine v_icmp_ge (tgt := 20) d8_isNumberBelow_13 (by decide) ?_ ?_
    · refine v_iconst d8_isNumberBelow_20 ki_0 ?_
      exact v_iret (ty := .boolean) d8_isNumberBelow_21 rfl rfl rfl
    · refine v_iconst d8_isNumberBelow_16 ki_1 ?_
      refine v_goto (tgt := 21) d8_isNumberBelow_17 (by decide) ?_
      exact v_iret (ty := .boolean) d8_isNumberBelow_21 rfl rfl rfl
theorem d8_valueHere_0 : decode cX8_valueHere 0 = .ok (.aload_n 0, 1) := by decide +kernel
theorem d8_valueHere_1 : decode cX8_valueHere 1 = .ok (.getfield 37, 3) := by decide +kernel
theorem d8_valueHere_4 : decode cX8_valueHere 4 = .ok (.ireturn, 1) := by decide +kernel
abbrev K8_valueHere : CK Int32 := (enI, (some .int), 1, 1, none)
noncomputable def F8_valueHere (σ : Ms) : Option (Int32 × Ms) :=
  some ((σ.1 20 8), σ)
set_option maxRecDepth 100000 in
theorem mc8_valueHere (σ : Ms) : MC enI yX8_valueHere cX8_valueHere 1 (some .int) 1 (F8_valueHere σ) σ [.ref 20] := by
  refine MC.i (by decide +kernel) (Nat.le_of_ble_eq_true rfl) ?_
  show VF (K8_valueHere) cX8_valueHere RX8 (F8_valueHere σ) σ 0 [(0, .ref 20)] []
  unfold F8_valueHere
  refine v_aload_n d8_valueHere_0 0 rfl rfl ?_
  refine v_getI d8_valueHere_1 faX8_37 ic_20 ?_
  exact v_iret d8_valueHere_4 rfl rfl rfl
theorem d8_takeNumber_0 : decode cX8_takeNumber 0 = .ok (.aload_n 0, 1) := by decide +kernel
theorem d8_takeNumber_1 : decode cX8_takeNumber 1 = .ok (.getfield 37, 3) := by decide +kernel
theorem d8_takeNumber_4 : decode cX8_takeNumber 4 = .ok (.istore_n 3, 1) := by decide +kernel
theorem d8_takeNumber_5 : decode cX8_takeNumber 5 = .ok (.aload_n 0, 1) := by decide +kernel
theorem d8_takeNumber_6 : decode cX8_takeNumber 6 = .ok (.getfield 28, 3) := by decide +kernel
theorem d8_takeNumber_9 : decode cX8_takeNumber 9 = .ok (.iconst 2, 1) := by decide +kernel
theorem d8_takeNumber_10 : decode cX8_takeNumber 10 = .ok (.if_icmp .eq 11, 3) := by decide +kernel
theorem d8_takeNumber_13 : decode cX8_takeNumber 13 = .ok (.aload_n 0, 1) := by decide +kernel
theorem d8_takeNumber_14 : decode cX8_takeNumber 14 = .ok (.iconst 2, 1) := by decide +kernel
theorem d8_takeNumber_15 : decode cX8_takeNumber 15 = .ok (.invokevirtual 88, 3) := by decide +kernel
theorem d8_takeNumber_18 : decode cX8_takeNumber 18 = .ok (.goto 18, 3) := by decide +kernel
theorem d8_takeNumber_21 : decode cX8_takeNumber 21 = .ok (.iload_n 3, 1) := by decide +kernel
theorem d8_takeNumber_22 : decode cX8_takeNumber 22 = .ok (.iload_n 1, 1) := by decide +kernel
theorem d8_takeNumber_23 : decode cX8_takeNumber 23 = .ok (.if_icmp .lt 8, 3) := by decide +kernel
theorem d8_takeNumber_26 : decode cX8_takeNumber 26 = .ok (.iload_n 3, 1) := by decide +kernel
theorem d8_takeNumber_27 : decode cX8_takeNumber 27 = .ok (.iload_n 2, 1) := by decide +kernel
theorem d8_takeNumber_28 : decode cX8_takeNumber 28 = .ok (.if_icmp .le 8, 3) := by decide +kernel
theorem d8_takeNumber_31 : decode cX8_takeNumber 31 = .ok (.aload_n 0, 1) := by decide +kernel
theorem d8_takeNumber_32 : decode cX8_takeNumber 32 = .ok (.iconst 4, 1) := by decide +kernel
theorem d8_takeNumber_33 : decode cX8_takeNumber 33 = .ok (.invokevirtual 88, 3) := by decide +kernel
theorem d8_takeNumber_36 : decode cX8_takeNumber 36 = .ok (.aload_n 0, 1) := by decide +kernel
theorem d8_takeNumber_37 : decode cX8_takeNumber 37 = .ok (.invokevirtual 53, 3) := by decide +kernel
theorem d8_takeNumber_40 : decode cX8_takeNumber 40 = .ok (.aload_n 0, 1) := by decide +kernel
theorem d8_takeNumber_41 : decode cX8_takeNumber 41 = .ok (.getfield 19, 3) := by decide +kernel
theorem d8_takeNumber_44 : decode cX8_takeNumber 44 = .ok (.ifCond .ne 7, 3) := by decide +kernel
theorem d8_takeNumber_47 : decode cX8_takeNumber 47 = .ok (.iload_n 3, 1) := by decide +kernel
theorem d8_takeNumber_48 : decode cX8_takeNumber 48 = .ok (.goto 4, 3) := by decide +kernel
theorem d8_takeNumber_51 : decode cX8_takeNumber 51 = .ok (.iload_n 1, 1) := by decide +kernel
theorem d8_takeNumber_52 : decode cX8_takeNumber 52 = .ok (.ireturn, 1) := by decide +kernel
abbrev K8_takeNumber : CK Int32 := (enI, (some .int), 4, 4, none)
noncomputable def F8_takeNumber_b36 (N : Nat) (l1 : Int32) (l3 : Int32) (σ : Ms) : Option (Int32 × Ms) :=
  bn (F8_step N σ) (fun r1 t2 => if (t2.1 20 2) ≠ 0 then (some (l1, t2))
  else (some (l3, t2)))
noncomputable def F8_takeNumber_b31 (N : Nat) (l1 : Int32) (l3 : Int32) (σ : Ms) : Option (Int32 × Ms) :=
  bn (F8_refuse (4 : Int32) σ) (fun r3 t4 => F8_takeNumber_b36 N l1 l3 t4)
noncomputable def F8_takeNumber (N : Nat) (p0 : Int32) (p1 : Int32) (σ : Ms) : Option (Int32 × Ms) :=
  lt (σ.1 20 8) (fun x5 => if (σ.1 20 5) = (2 : Int32) then (if x5 < p0 then (F8_takeNumber_b31 N p0 x5 σ)
  else (if x5 ≤ p1 then (F8_takeNumber_b36 N p0 x5 σ)
  else (F8_takeNumber_b31 N p0 x5 σ)))
  else (bn (F8_refuse (2 : Int32) σ) (fun r6 t7 => F8_takeNumber_b36 N p0 x5 t7)))
set_option maxRecDepth 100000 in
theorem v8_takeNumber_b36 (N : Nat) (l1 : Int32) (l3 : Int32) (σ : Ms) : VF (K8_takeNumber) cX8_takeNumber RX8 (F8_takeNumber_b36 N l1 l3 σ) σ 36 [(0, .ref 20), (1, .int l1), (3, .int l3)] [] := by
  unfold F8_takeNumber_b36
  refine v_aload_n d8_takeNumber_36 0 rfl rfl ?_
  refine v_callV0v d8_takeNumber_37 (mc8_step N σ) yv8_step mlX8_53 (Recv.obj ic_20 rfl) (by decide) (Nat.le_of_ble_eq_true rfl) fun r1 t2 => ?_
  refine v_aload_n d8_takeNumber_40 0 rfl rfl ?_
  refine v_getI d8_takeNumber_41 faX8_19 ic_20 ?_
  refine v_if_ne (tgt := 51) d8_takeNumber_44 (by decide) ?_ ?_
  · refine v_iload_n d8_takeNumber_51 1 rfl rfl ?_
    exact v_iret d8_takeNumber_52 rfl rfl rfl
  · refine v_iload_n d8_takeNumber_47 2 rfl rfl ?_
    refine v_goto (tgt := 52) d8_takeNumber_48 (by decide) ?_
    exact v_iret d8_takeNumber_52 rfl rfl rfl
set_option maxRecDepth 100000 in
theorem v8_takeNumber_b31 (N : Nat) (l1 : Int32) (l3 : Int32) (σ : Ms) : VF (K8_takeNumber) cX8_takeNumber RX8 (F8_takeNumber_b31 N l1 l3 σ) σ 31 [(0, .ref 20), (1, .int l1), (3, .int l3)] [] := by
  unfold F8_takeNumber_b31
  refine v_aload_n d8_takeNumber_31 0 rfl rfl ?_
  refine v_iconst d8_takeNumber_32 ki_4 ?_
  refine v_callV1v d8_takeNumber_33 (mc8_refuse (4 : Int32) σ) yv8_refuse mlX8_88 (Recv.obj ic_20 rfl) (by decide) (Nat.le_of_ble_eq_true rfl) fun r3 t4 => ?_
  exact v8_takeNumber_b36 N l1 l3 t4
set_option maxRecDepth 100000 in
theorem mc8_takeNumber (N : Nat) (p0 : Int32) (p1 : Int32) (σ : Ms) : MC enI yX8_takeNumber cX8_takeNumber 4 (some .int) 4 (F8_takeNumber N p0 p1 σ) σ [.ref 20, .int p0, .int p1] := by
  refine MC.i (by decide +kernel) (Nat.le_of_ble_eq_true rfl) ?_
  show VF (K8_takeNumber) cX8_takeNumber RX8 (F8_takeNumber N p0 p1 σ) σ 0 [(0, .ref 20), (1, .int p0), (2, .int p1)] []
  unfold F8_takeNumber
  refine v_aload_n d8_takeNumber_0 0 rfl rfl ?_
  refine v_getI d8_takeNumber_1 faX8_37 ic_20 ?_
  refine v_lti fun x5 => ?_
  refine v_istore_n (lv' := [(3, .int x5), (0, .ref 20), (1, .int p0), (2, .int p1)]) d8_takeNumber_4 rfl (by decide) rfl ?_
  refine v_aload_n d8_takeNumber_5 1 rfl rfl ?_
  refine v_getI d8_takeNumber_6 faX8_28 ic_20 ?_
  refine v_iconst d8_takeNumber_9 ki_2 ?_
  refine v_icmp_eq (tgt := 21) d8_takeNumber_10 (by decide) ?_ ?_
  · refine v_iload_n d8_takeNumber_21 0 rfl rfl ?_
    refine v_iload_n d8_takeNumber_22 2 rfl rfl ?_
    refine v_icmp_lt (tgt := 31) d8_takeNumber_23 (by decide) ?_ ?_
    · refine v_sub [1, 2, 0] rfl ?_
      exact v8_takeNumber_b31 N p0 x5 σ
    · refine v_iload_n d8_takeNumber_26 0 rfl rfl ?_
      refine v_iload_n d8_takeNumber_27 3 rfl rfl ?_
      refine v_icmp_le (tgt := 36) d8_takeNumber_28 (by decide) ?_ ?_
      · refine v_sub [1, 2, 0] rfl ?_
        exact v8_takeNumber_b36 N p0 x5 σ
      · refine v_sub [1, 2, 0] rfl ?_
        exact v8_takeNumber_b31 N p0 x5 σ
  · refine v_aload_n d8_takeNumber_13 1 rfl rfl ?_
    refine v_iconst d8_takeNumber_14 ki_2 ?_
    refine v_callV1v d8_takeNumber_15 (mc8_refuse (2 : Int32) σ) yv8_refuse mlX8_88 (Recv.obj ic_20 rfl) (by decide) (Nat.le_of_ble_eq_true rfl) fun r6 t7 => ?_
    refine v_goto (tgt := 36) d8_takeNumber_18 (by decide) ?_
    refine v_sub [1, 2, 0] rfl ?_
    exact v8_takeNumber_b36 N p0 x5 t7
theorem d1_takeGround_0 : decode cX1_takeGround 0 = .ok (.aload_n 0, 1) := by decide +kernel
theorem d1_takeGround_1 : decode cX1_takeGround 1 = .ok (.aload_n 1, 1) := by decide +kernel
theorem d1_takeGround_2 : decode cX1_takeGround 2 = .ok (.getfield 46, 3) := by decide +kernel
theorem d1_takeGround_5 : decode cX1_takeGround 5 = .ok (.invokevirtual 73, 3) := by decide +kernel
theorem d1_takeGround_8 : decode cX1_takeGround 8 = .ok (.ifCond .eq 20, 3) := by decide +kernel
theorem d1_takeGround_11 : decode cX1_takeGround 11 = .ok (.aload_n 1, 1) := by decide +kernel
theorem d1_takeGround_12 : decode cX1_takeGround 12 = .ok (.iload_n 2, 1) := by decide +kernel
theorem d1_takeGround_13 : decode cX1_takeGround 13 = .ok (.aload_n 0, 1) := by decide +kernel
theorem d1_takeGround_14 : decode cX1_takeGround 14 = .ok (.invokevirtual 77, 3) := by decide +kernel
theorem d1_takeGround_17 : decode cX1_takeGround 17 = .ok (.invokevirtual 80, 3) := by decide +kernel
theorem d1_takeGround_20 : decode cX1_takeGround 20 = .ok (.ifCond .ne 8, 3) := by decide +kernel
theorem d1_takeGround_23 : decode cX1_takeGround 23 = .ok (.aload_n 0, 1) := by decide +kernel
theorem d1_takeGround_24 : decode cX1_takeGround 24 = .ok (.iconst 5, 1) := by decide +kernel
theorem d1_takeGround_25 : decode cX1_takeGround 25 = .ok (.invokevirtual 42, 3) := by decide +kernel
theorem d1_takeGround_28 : decode cX1_takeGround 28 = .ok (.aload_n 0, 1) := by decide +kernel
theorem d1_takeGround_29 : decode cX1_takeGround 29 = .ok (.iconst 0, 1) := by decide +kernel
theorem d1_takeGround_30 : decode cX1_takeGround 30 = .ok (.aload_n 1, 1) := by decide +kernel
theorem d1_takeGround_31 : decode cX1_takeGround 31 = .ok (.getfield 46, 3) := by decide +kernel
theorem d1_takeGround_34 : decode cX1_takeGround 34 = .ok (.iconst 1, 1) := by decide +kernel
theorem d1_takeGround_35 : decode cX1_takeGround 35 = .ok (.isub, 1) := by decide +kernel
theorem d1_takeGround_36 : decode cX1_takeGround 36 = .ok (.invokevirtual 84, 3) := by decide +kernel
theorem d1_takeGround_39 : decode cX1_takeGround 39 = .ok (.ireturn, 1) := by decide +kernel
abbrev K1_takeGround : CK Int32 := (enI, (some .int), 3, 5, none)
noncomputable def F1_takeGround_b28 (N : Nat) (q1 : Nat) (σ : Ms) : Option (Int32 × Ms) :=
  bn (F8_takeNumber N (0 : Int32) ((σ.1 q1 5) - (1 : Int32)) σ) (fun r1 t2 => some (r1, t2))
noncomputable def F1_takeGround (N : Nat) (q1 : Nat) (p2 : Int32) (σ : Ms) : Option (Int32 × Ms) :=
  bn (F8_isNumberBelow (σ.1 q1 5) σ) (fun r3 t4 => if r3 = 0 then (F1_takeGround_b28 N q1 t4)
  else (bn (F8_valueHere t4) (fun r5 t6 => bn (F0_fits q1 p2 r5 t6) (fun r7 t8 => if r7 ≠ 0 then (F1_takeGround_b28 N q1 t8)
  else (bn (F8_refuse (5 : Int32) t8) (fun r9 t10 => F1_takeGround_b28 N q1 t10))))))
set_option maxRecDepth 100000 in
theorem v1_takeGround_b28 (N : Nat) (q1 : Nat) (hq1 : IsC q1 (0, 0, 0)) (σ : Ms) : VF (K1_takeGround) cX1_takeGround RX1 (F1_takeGround_b28 N q1 σ) σ 28 [(0, .ref 20), (1, .ref q1)] [] := by
  unfold F1_takeGround_b28
  refine v_aload_n d1_takeGround_28 0 rfl rfl ?_
  refine v_iconst d1_takeGround_29 ki_0 ?_
  refine v_aload_n d1_takeGround_30 1 rfl rfl ?_
  refine v_getI d1_takeGround_31 faX1_46 hq1 ?_
  refine v_iconst d1_takeGround_34 ki_1 ?_
  refine v_isub d1_takeGround_35 ?_
  refine v_callV2i d1_takeGround_36 (mc8_takeNumber N (0 : Int32) ((σ.1 q1 5) - (1 : Int32)) σ) yv8_takeNumber mlX1_84 (Recv.obj ic_20 rfl) (by decide) (Nat.le_of_ble_eq_true rfl) fun r1 t2 => ?_
  exact v_iret d1_takeGround_39 rfl rfl rfl
set_option maxRecDepth 100000 in
theorem mc1_takeGround (N : Nat) (q1 : Nat) (hq1 : IsC q1 (0, 0, 0)) (p2 : Int32) (σ : Ms) : MC enI yX1_takeGround cX1_takeGround 3 (some .int) 5 (F1_takeGround N q1 p2 σ) σ [.ref 20, .ref q1, .int p2] := by
  refine MC.i (by decide +kernel) (Nat.le_of_ble_eq_true rfl) ?_
  show VF (K1_takeGround) cX1_takeGround RX1 (F1_takeGround N q1 p2 σ) σ 0 [(0, .ref 20), (1, .ref q1), (2, .int p2)] []
  unfold F1_takeGround
  refine v_aload_n d1_takeGround_0 0 rfl rfl ?_
  refine v_aload_n d1_takeGround_1 1 rfl rfl ?_
  refine v_getI d1_takeGround_2 faX1_46 hq1 ?_
  refine v_callV1i d1_takeGround_5 (mc8_isNumberBelow (σ.1 q1 5) σ) yv8_isNumberBelow mlX1_73 (Recv.obj ic_20 rfl) (by decide) (Nat.le_of_ble_eq_true rfl) fun r3 t4 => ?_
  refine v_if_eq (tgt := 28) d1_takeGround_8 (by decide) ?_ ?_
  · refine v_sub [0, 1] rfl ?_
    exact v1_takeGround_b28 N q1 hq1 t4
  · refine v_aload_n d1_takeGround_11 1 rfl rfl ?_
    refine v_iload_n d1_takeGround_12 2 rfl rfl ?_
    refine v_aload_n d1_takeGround_13 0 rfl rfl ?_
    refine v_callV0i d1_takeGround_14 (mc8_valueHere t4) yv8_valueHere mlX1_77 (Recv.obj ic_20 rfl) (by decide) (Nat.le_of_ble_eq_true rfl) fun r5 t6 => ?_
    refine v_callV2i d1_takeGround_17 (mc0_fits q1 hq1 p2 r5 t6) yv0_fits mlX1_80 (Recv.obj hq1 rfl) (by decide) (Nat.le_of_ble_eq_true rfl) fun r7 t8 => ?_
    refine v_if_ne (tgt := 28) d1_takeGround_20 (by decide) ?_ ?_
    · refine v_sub [0, 1] rfl ?_
      exact v1_takeGround_b28 N q1 hq1 t8
    · refine v_aload_n d1_takeGround_23 0 rfl rfl ?_
      refine v_iconst d1_takeGround_24 ki_5 ?_
      refine v_callV1v d1_takeGround_25 (mc8_refuse (5 : Int32) t8) yv8_refuse mlX1_42 (Recv.obj ic_20 rfl) (by decide) (Nat.le_of_ble_eq_true rfl) fun r9 t10 => ?_
      refine v_sub [0, 1] rfl ?_
      exact v1_takeGround_b28 N q1 hq1 t10
theorem d8_isMark_0 : decode cX8_isMark 0 = .ok (.aload_n 0, 1) := by decide +kernel
theorem d8_isMark_1 : decode cX8_isMark 1 = .ok (.getfield 28, 3) := by decide +kernel
theorem d8_isMark_4 : decode cX8_isMark 4 = .ok (.iconst 3, 1) := by decide +kernel
theorem d8_isMark_5 : decode cX8_isMark 5 = .ok (.if_icmp .ne 19, 3) := by decide +kernel
theorem d8_isMark_8 : decode cX8_isMark 8 = .ok (.aload_n 0, 1) := by decide +kernel
theorem d8_isMark_9 : decode cX8_isMark 9 = .ok (.aload_n 0, 1) := by decide +kernel
theorem d8_isMark_10 : decode cX8_isMark 10 = .ok (.getfield 31, 3) := by decide +kernel
theorem d8_isMark_13 : decode cX8_isMark 13 = .ok (.invokevirtual 56, 3) := by decide +kernel
theorem d8_isMark_16 : decode cX8_isMark 16 = .ok (.iload_n 1, 1) := by decide +kernel
theorem d8_isMark_17 : decode cX8_isMark 17 = .ok (.if_icmp .ne 7, 3) := by decide +kernel
theorem d8_isMark_20 : decode cX8_isMark 20 = .ok (.iconst 1, 1) := by decide +kernel
theorem d8_isMark_21 : decode cX8_isMark 21 = .ok (.goto 4, 3) := by decide +kernel
theorem d8_isMark_24 : decode cX8_isMark 24 = .ok (.iconst 0, 1) := by decide +kernel
theorem d8_isMark_25 : decode cX8_isMark 25 = .ok (.ireturn, 1) := by decide +kernel
abbrev K8_isMark : CK Int32 := (enI, (some .boolean), 2, 2, none)
noncomputable def F8_isMark (p0 : Int32) (σ : Ms) : Option (Int32 × Ms) :=
  if (σ.1 20 5) ≠ (3 : Int32) then (some ((0 : Int32), σ))
  else (bn (F8_charAt (σ.1 20 6) σ) (fun r1 t2 => if r1 ≠ p0 then (some ((0 : Int32), t2))
  else (some ((1 : Int32), t2))))
set_option maxRecDepth 100000 in
theorem mc8_isMark (p0 : Int32) (σ : Ms) : MC enI yX8_isMark cX8_isMark 2 (some .boolean) 2 (F8_isMark p0 σ) σ [.ref 20, .int p0] := by
  refine MC.i (by decide +kernel) (Nat.le_of_ble_eq_true rfl) ?_
  show VF (K8_isMark) cX8_isMark RX8 (F8_isMark p0 σ) σ 0 [(0, .ref 20), (1, .int p0)] []
  unfold F8_isMark
  refine v_aload_n d8_isMark_0 0 rfl rfl ?_
  refine v_getI d8_isMark_1 faX8_28 ic_20 ?_
  refine v_iconst d8_isMark_4 ki_3 ?_
  refine v_icmp_ne (tgt := 24) d8_isMark_5 (by decide) ?_ ?_
  · refine v_iconst d8_isMark_24 ki_0 ?_
    exact v_iret (ty := .boolean) d8_isMark_25 rfl rfl rfl
  · refine v_aload_n d8_isMark_8 0 rfl rfl ?_
    refine v_aload_n d8_isMark_9 0 rfl rfl ?_
    refine v_getI d8_isMark_10 faX8_31 ic_20 ?_
    refine v_callV1i d8_isMark_13 (mc8_charAt (σ.1 20 6) σ) yv8_charAt mlX8_56 (Recv.obj ic_20 rfl) (by decide) (Nat.le_of_ble_eq_true rfl) fun r1 t2 => ?_
    refine v_iload_n d8_isMark_16 1 rfl rfl ?_
    refine v_icmp_ne (tgt := 24) d8_isMark_17 (by decide) ?_ ?_
    · refine v_iconst d8_isMark_24 ki_0 ?_
      exact v_iret (ty := .boolean) d8_isMark_25 rfl rfl rfl
    · refine v_iconst d8_isMark_20 ki_1 ?_
      refine v_goto (tgt := 25) d8_isMark_21 (by decide) ?_
      exact v_iret (ty := .boolean) d8_isMark_25 rfl rfl rfl
theorem d8_takeClose_0 : decode cX8_takeClose 0 = .ok (.aload_n 0, 1) := by decide +kernel
theorem d8_takeClose_1 : decode cX8_takeClose 1 = .ok (.bipush 59, 2) := by decide +kernel
theorem d8_takeClose_3 : decode cX8_takeClose 3 = .ok (.invokevirtual 84, 3) := by decide +kernel
theorem d8_takeClose_6 : decode cX8_takeClose 6 = .ok (.ifCond .eq 10, 3) := by decide +kernel
theorem d8_takeClose_9 : decode cX8_takeClose 9 = .ok (.aload_n 0, 1) := by decide +kernel
theorem d8_takeClose_10 : decode cX8_takeClose 10 = .ok (.invokevirtual 53, 3) := by decide +kernel
theorem d8_takeClose_13 : decode cX8_takeClose 13 = .ok (.goto 8, 3) := by decide +kernel
theorem d8_takeClose_16 : decode cX8_takeClose 16 = .ok (.aload_n 0, 1) := by decide +kernel
theorem d8_takeClose_17 : decode cX8_takeClose 17 = .ok (.iconst 2, 1) := by decide +kernel
theorem d8_takeClose_18 : decode cX8_takeClose 18 = .ok (.invokevirtual 88, 3) := by decide +kernel
theorem d8_takeClose_21 : decode cX8_takeClose 21 = .ok (.return_, 1) := by decide +kernel
abbrev K8_takeClose : CK Unit := (enV, none, 1, 4, none)
noncomputable def F8_takeClose (N : Nat) (σ : Ms) : Option (Unit × Ms) :=
  bn (F8_isMark (59 : Int32) σ) (fun r1 t2 => if r1 = 0 then (bn (F8_refuse (2 : Int32) t2) (fun r3 t4 => some ((), t4)))
  else (bn (F8_step N t2) (fun r5 t6 => some ((), t6))))
set_option maxRecDepth 100000 in
theorem mc8_takeClose (N : Nat) (σ : Ms) : MC enV yX8_takeClose cX8_takeClose 1 none 4 (F8_takeClose N σ) σ [.ref 20] := by
  refine MC.v (by decide +kernel) (Nat.le_of_ble_eq_true rfl) ?_
  show VF (K8_takeClose) cX8_takeClose RX8 (F8_takeClose N σ) σ 0 [(0, .ref 20)] []
  unfold F8_takeClose
  refine v_aload_n d8_takeClose_0 0 rfl rfl ?_
  refine v_bipush d8_takeClose_1 kb_59 ?_
  refine v_callV1i d8_takeClose_3 (mc8_isMark (59 : Int32) σ) yv8_isMark mlX8_84 (Recv.obj ic_20 rfl) (by decide) (Nat.le_of_ble_eq_true rfl) fun r1 t2 => ?_
  refine v_if_eq (tgt := 16) d8_takeClose_6 (by decide) ?_ ?_
  · refine v_aload_n d8_takeClose_16 0 rfl rfl ?_
    refine v_iconst d8_takeClose_17 ki_2 ?_
    refine v_callV1v d8_takeClose_18 (mc8_refuse (2 : Int32) t2) yv8_refuse mlX8_88 (Recv.obj ic_20 rfl) (by decide) (Nat.le_of_ble_eq_true rfl) fun r3 t4 => ?_
    exact v_vret d8_takeClose_21 rfl
  · refine v_aload_n d8_takeClose_9 0 rfl rfl ?_
    refine v_callV0v d8_takeClose_10 (mc8_step N t2) yv8_step mlX8_53 (Recv.obj ic_20 rfl) (by decide) (Nat.le_of_ble_eq_true rfl) fun r5 t6 => ?_
    refine v_goto (tgt := 21) d8_takeClose_13 (by decide) ?_
    exact v_vret d8_takeClose_21 rfl
theorem d1_parseSprig_0 : decode cX1_parseSprig 0 = .ok (.aload_n 1, 1) := by decide +kernel
theorem d1_parseSprig_1 : decode cX1_parseSprig 1 = .ok (.getfield 46, 3) := by decide +kernel
theorem d1_parseSprig_4 : decode cX1_parseSprig 4 = .ok (.bipush 20, 2) := by decide +kernel
theorem d1_parseSprig_6 : decode cX1_parseSprig 6 = .ok (.if_icmp .lt 9, 3) := by decide +kernel
theorem d1_parseSprig_9 : decode cX1_parseSprig 9 = .ok (.aload_n 0, 1) := by decide +kernel
theorem d1_parseSprig_10 : decode cX1_parseSprig 10 = .ok (.bipush 6, 2) := by decide +kernel
theorem d1_parseSprig_12 : decode cX1_parseSprig 12 = .ok (.invokevirtual 42, 3) := by decide +kernel
theorem d1_parseSprig_15 : decode cX1_parseSprig 15 = .ok (.aload_n 0, 1) := by decide +kernel
theorem d1_parseSprig_16 : decode cX1_parseSprig 16 = .ok (.invokevirtual 50, 3) := by decide +kernel
theorem d1_parseSprig_19 : decode cX1_parseSprig 19 = .ok (.aload_n 0, 1) := by decide +kernel
theorem d1_parseSprig_20 : decode cX1_parseSprig 20 = .ok (.invokevirtual 53, 3) := by decide +kernel
theorem d1_parseSprig_23 : decode cX1_parseSprig 23 = .ok (.istore_n 2, 1) := by decide +kernel
theorem d1_parseSprig_24 : decode cX1_parseSprig 24 = .ok (.iconst (-1), 1) := by decide +kernel
theorem d1_parseSprig_25 : decode cX1_parseSprig 25 = .ok (.istore_n 3, 1) := by decide +kernel
theorem d1_parseSprig_26 : decode cX1_parseSprig 26 = .ok (.aload_n 0, 1) := by decide +kernel
theorem d1_parseSprig_27 : decode cX1_parseSprig 27 = .ok (.ldc 57, 2) := by decide +kernel
theorem d1_parseSprig_29 : decode cX1_parseSprig 29 = .ok (.invokevirtual 22, 3) := by decide +kernel
theorem d1_parseSprig_32 : decode cX1_parseSprig 32 = .ok (.ifCond .eq 14, 3) := by decide +kernel
theorem d1_parseSprig_35 : decode cX1_parseSprig 35 = .ok (.aload_n 0, 1) := by decide +kernel
theorem d1_parseSprig_36 : decode cX1_parseSprig 36 = .ok (.invokevirtual 50, 3) := by decide +kernel
theorem d1_parseSprig_39 : decode cX1_parseSprig 39 = .ok (.aload_n 0, 1) := by decide +kernel
theorem d1_parseSprig_40 : decode cX1_parseSprig 40 = .ok (.aload_n 1, 1) := by decide +kernel
theorem d1_parseSprig_41 : decode cX1_parseSprig 41 = .ok (.iload_n 2, 1) := by decide +kernel
theorem d1_parseSprig_42 : decode cX1_parseSprig 42 = .ok (.invokestatic 59, 3) := by decide +kernel
theorem d1_parseSprig_45 : decode cX1_parseSprig 45 = .ok (.istore_n 3, 1) := by decide +kernel
theorem d1_parseSprig_46 : decode cX1_parseSprig 46 = .ok (.aload_n 0, 1) := by decide +kernel
theorem d1_parseSprig_47 : decode cX1_parseSprig 47 = .ok (.invokevirtual 63, 3) := by decide +kernel
theorem d1_parseSprig_50 : decode cX1_parseSprig 50 = .ok (.aload_n 0, 1) := by decide +kernel
theorem d1_parseSprig_51 : decode cX1_parseSprig 51 = .ok (.getfield 66, 3) := by decide +kernel
theorem d1_parseSprig_54 : decode cX1_parseSprig 54 = .ok (.ifCond .ne 9, 3) := by decide +kernel
theorem d1_parseSprig_57 : decode cX1_parseSprig 57 = .ok (.aload_n 1, 1) := by decide +kernel
theorem d1_parseSprig_58 : decode cX1_parseSprig 58 = .ok (.iload_n 2, 1) := by decide +kernel
theorem d1_parseSprig_59 : decode cX1_parseSprig 59 = .ok (.iload_n 3, 1) := by decide +kernel
theorem d1_parseSprig_60 : decode cX1_parseSprig 60 = .ok (.invokevirtual 69, 3) := by decide +kernel
theorem d1_parseSprig_63 : decode cX1_parseSprig 63 = .ok (.return_, 1) := by decide +kernel
abbrev K1_parseSprig : CK Unit := (enV, none, 4, 7, none)
noncomputable def F1_parseSprig_b46 (N : Nat) (q1 : Nat) (l2 : Int32) (l3 : Int32) (σ : Ms) : Option (Unit × Ms) :=
  bn (F8_takeClose N σ) (fun r1 t2 => if (t2.1 20 2) ≠ 0 then (some ((), t2))
  else (bn (F0_addSprig q1 l2 l3 t2) (fun r3 t4 => some ((), t4))))
noncomputable def F1_parseSprig_b15 (N : Nat) (q1 : Nat) (σ : Ms) : Option (Unit × Ms) :=
  bn (F8_step N σ) (fun r5 t6 => bn (F8_takeColour N t6) (fun r7 t8 => bn (F8_isWord N 3 t8) (fun r9 t10 => if r9 = 0 then (F1_parseSprig_b46 N q1 r7 (-1 : Int32) t10)
  else (bn (F8_step N t10) (fun r11 t12 => bn (F1_takeGround N q1 r7 t12) (fun r13 t14 => F1_parseSprig_b46 N q1 r7 r13 t14))))))
noncomputable def F1_parseSprig (N : Nat) (q1 : Nat) (σ : Ms) : Option (Unit × Ms) :=
  if (σ.1 q1 5) < (20 : Int32) then (F1_parseSprig_b15 N q1 σ)
  else (bn (F8_refuse (6 : Int32) σ) (fun r15 t16 => F1_parseSprig_b15 N q1 t16))
set_option maxRecDepth 100000 in
theorem v1_parseSprig_b46 (N : Nat) (q1 : Nat) (hq1 : IsC q1 (0, 0, 0)) (l2 : Int32) (l3 : Int32) (σ : Ms) : VF (K1_parseSprig) cX1_parseSprig RX1 (F1_parseSprig_b46 N q1 l2 l3 σ) σ 46 [(0, .ref 20), (1, .ref q1), (2, .int l2), (3, .int l3)] [] := by
  unfold F1_parseSprig_b46
  refine v_aload_n d1_parseSprig_46 0 rfl rfl ?_
  refine v_callV0v d1_parseSprig_47 (mc8_takeClose N σ) yv8_takeClose mlX1_63 (Recv.obj ic_20 rfl) (by decide) (Nat.le_of_ble_eq_true rfl) fun r1 t2 => ?_
  refine v_aload_n d1_parseSprig_50 0 rfl rfl ?_
  refine v_getI d1_parseSprig_51 faX1_66 ic_20 ?_
  refine v_if_ne (tgt := 63) d1_parseSprig_54 (by decide) ?_ ?_
  · exact v_vret d1_parseSprig_63 rfl
  · refine v_aload_n d1_parseSprig_57 1 rfl rfl ?_
    refine v_iload_n d1_parseSprig_58 2 rfl rfl ?_
    refine v_iload_n d1_parseSprig_59 3 rfl rfl ?_
    refine v_callV2v d1_parseSprig_60 (mc0_addSprig q1 hq1 l2 l3 t2) yv0_addSprig mlX1_69 (Recv.obj hq1 rfl) (by decide) (Nat.le_of_ble_eq_true rfl) fun r3 t4 => ?_
    exact v_vret d1_parseSprig_63 rfl
set_option maxRecDepth 100000 in
theorem v1_parseSprig_b15 (N : Nat) (q1 : Nat) (hq1 : IsC q1 (0, 0, 0)) (σ : Ms) : VF (K1_parseSprig) cX1_parseSprig RX1 (F1_parseSprig_b15 N q1 σ) σ 15 [(0, .ref 20), (1, .ref q1)] [] := by
  unfold F1_parseSprig_b15
  refine v_aload_n d1_parseSprig_15 0 rfl rfl ?_
  refine v_callV0v d1_parseSprig_16 (mc8_step N σ) yv8_step mlX1_50 (Recv.obj ic_20 rfl) (by decide) (Nat.le_of_ble_eq_true rfl) fun r5 t6 => ?_
  refine v_aload_n d1_parseSprig_19 0 rfl rfl ?_
  refine v_callV0i d1_parseSprig_20 (mc8_takeColour N t6) yv8_takeColour mlX1_53 (Recv.obj ic_20 rfl) (by decide) (Nat.le_of_ble_eq_true rfl) fun r7 t8 => ?_
  refine v_istore_n (lv' := [(2, .int r7), (0, .ref 20), (1, .ref q1)]) d1_parseSprig_23 rfl (by decide) rfl ?_
  refine v_iconst d1_parseSprig_24 ki_m1 ?_
  refine v_istore_n (lv' := [(3, .int (-1 : Int32)), (2, .int r7), (0, .ref 20), (1, .ref q1)]) d1_parseSprig_25 rfl (by decide) rfl ?_
  refine v_aload_n d1_parseSprig_26 2 rfl rfl ?_
  refine v_ldcS (i := 3) d1_parseSprig_27 stX1_57 ?_
  refine v_callV1i d1_parseSprig_29 (mc8_isWord N 3 (by decide) t8) yv8_isWord mlX1_22 (Recv.obj ic_20 rfl) (by decide) (Nat.le_of_ble_eq_true rfl) fun r9 t10 => ?_
  refine v_if_eq (tgt := 46) d1_parseSprig_32 (by decide) ?_ ?_
  · refine v_sub [2, 3, 1, 0] rfl ?_
    exact v1_parseSprig_b46 N q1 hq1 r7 (-1 : Int32) t10
  · refine v_aload_n d1_parseSprig_35 2 rfl rfl ?_
    refine v_callV0v d1_parseSprig_36 (mc8_step N t10) yv8_step mlX1_50 (Recv.obj ic_20 rfl) (by decide) (Nat.le_of_ble_eq_true rfl) fun r11 t12 => ?_
    refine v_aload_n d1_parseSprig_39 2 rfl rfl ?_
    refine v_aload_n d1_parseSprig_40 3 rfl rfl ?_
    refine v_iload_n d1_parseSprig_41 1 rfl rfl ?_
    refine v_callS3i d1_parseSprig_42 (mc1_takeGround N q1 hq1 r7 t12) ys1_takeGround mlX1_59 (by decide) (Nat.le_of_ble_eq_true rfl) fun r13 t14 => ?_
    refine v_istore_n (lv' := [(3, .int r13), (2, .int r7), (0, .ref 20), (1, .ref q1)]) d1_parseSprig_45 rfl (by decide) rfl ?_
    refine v_sub [2, 3, 1, 0] rfl ?_
    exact v1_parseSprig_b46 N q1 hq1 r7 r13 t14
set_option maxRecDepth 100000 in
theorem mc1_parseSprig (N : Nat) (q1 : Nat) (hq1 : IsC q1 (0, 0, 0)) (σ : Ms) : MC enV yX1_parseSprig cX1_parseSprig 4 none 7 (F1_parseSprig N q1 σ) σ [.ref 20, .ref q1] := by
  refine MC.v (by decide +kernel) (Nat.le_of_ble_eq_true rfl) ?_
  show VF (K1_parseSprig) cX1_parseSprig RX1 (F1_parseSprig N q1 σ) σ 0 [(0, .ref 20), (1, .ref q1)] []
  unfold F1_parseSprig
  refine v_aload_n d1_parseSprig_0 1 rfl rfl ?_
  refine v_getI d1_parseSprig_1 faX1_46 hq1 ?_
  refine v_bipush d1_parseSprig_4 kb_20 ?_
  refine v_icmp_lt (tgt := 15) d1_parseSprig_6 (by decide) ?_ ?_
  · exact v1_parseSprig_b15 N q1 hq1 σ
  · refine v_aload_n d1_parseSprig_9 0 rfl rfl ?_
    refine v_bipush d1_parseSprig_10 kb_6 ?_
    refine v_callV1v d1_parseSprig_12 (mc8_refuse (6 : Int32) σ) yv8_refuse mlX1_42 (Recv.obj ic_20 rfl) (by decide) (Nat.le_of_ble_eq_true rfl) fun r15 t16 => ?_
    exact v1_parseSprig_b15 N q1 hq1 t16
theorem d1_parseHeap_0 : decode cX1_parseHeap 0 = .ok (.aload_n 1, 1) := by decide +kernel
theorem d1_parseHeap_1 : decode cX1_parseHeap 1 = .ok (.getfield 88, 3) := by decide +kernel
theorem d1_parseHeap_4 : decode cX1_parseHeap 4 = .ok (.iconst 4, 1) := by decide +kernel
theorem d1_parseHeap_5 : decode cX1_parseHeap 5 = .ok (.if_icmp .lt 9, 3) := by decide +kernel
theorem d1_parseHeap_8 : decode cX1_parseHeap 8 = .ok (.aload_n 0, 1) := by decide +kernel
theorem d1_parseHeap_9 : decode cX1_parseHeap 9 = .ok (.bipush 6, 2) := by decide +kernel
theorem d1_parseHeap_11 : decode cX1_parseHeap 11 = .ok (.invokevirtual 42, 3) := by decide +kernel
theorem d1_parseHeap_14 : decode cX1_parseHeap 14 = .ok (.aload_n 0, 1) := by decide +kernel
theorem d1_parseHeap_15 : decode cX1_parseHeap 15 = .ok (.invokevirtual 50, 3) := by decide +kernel
theorem d1_parseHeap_18 : decode cX1_parseHeap 18 = .ok (.aload_n 0, 1) := by decide +kernel
theorem d1_parseHeap_19 : decode cX1_parseHeap 19 = .ok (.iconst 0, 1) := by decide +kernel
theorem d1_parseHeap_20 : decode cX1_parseHeap 20 = .ok (.bipush 15, 2) := by decide +kernel
theorem d1_parseHeap_22 : decode cX1_parseHeap 22 = .ok (.invokevirtual 84, 3) := by decide +kernel
theorem d1_parseHeap_25 : decode cX1_parseHeap 25 = .ok (.istore_n 2, 1) := by decide +kernel
theorem d1_parseHeap_26 : decode cX1_parseHeap 26 = .ok (.aload_n 0, 1) := by decide +kernel
theorem d1_parseHeap_27 : decode cX1_parseHeap 27 = .ok (.invokevirtual 63, 3) := by decide +kernel
theorem d1_parseHeap_30 : decode cX1_parseHeap 30 = .ok (.aload_n 0, 1) := by decide +kernel
theorem d1_parseHeap_31 : decode cX1_parseHeap 31 = .ok (.getfield 66, 3) := by decide +kernel
theorem d1_parseHeap_34 : decode cX1_parseHeap 34 = .ok (.ifCond .ne 8, 3) := by decide +kernel
theorem d1_parseHeap_37 : decode cX1_parseHeap 37 = .ok (.aload_n 1, 1) := by decide +kernel
theorem d1_parseHeap_38 : decode cX1_parseHeap 38 = .ok (.iload_n 2, 1) := by decide +kernel
theorem d1_parseHeap_39 : decode cX1_parseHeap 39 = .ok (.invokevirtual 91, 3) := by decide +kernel
theorem d1_parseHeap_42 : decode cX1_parseHeap 42 = .ok (.return_, 1) := by decide +kernel
abbrev K1_parseHeap : CK Unit := (enV, none, 3, 5, none)
noncomputable def F1_parseHeap_b14 (N : Nat) (q1 : Nat) (σ : Ms) : Option (Unit × Ms) :=
  bn (F8_step N σ) (fun r1 t2 => bn (F8_takeNumber N (0 : Int32) (15 : Int32) t2) (fun r3 t4 => bn (F8_takeClose N t4) (fun r5 t6 => if (t6.1 20 2) ≠ 0 then (some ((), t6))
  else (bn (F0_addHeap q1 r3 t6) (fun r7 t8 => some ((), t8))))))
noncomputable def F1_parseHeap (N : Nat) (q1 : Nat) (σ : Ms) : Option (Unit × Ms) :=
  if (σ.1 q1 7) < (4 : Int32) then (F1_parseHeap_b14 N q1 σ)
  else (bn (F8_refuse (6 : Int32) σ) (fun r9 t10 => F1_parseHeap_b14 N q1 t10))
set_option maxRecDepth 100000 in
theorem v1_parseHeap_b14 (N : Nat) (q1 : Nat) (hq1 : IsC q1 (0, 0, 0)) (σ : Ms) : VF (K1_parseHeap) cX1_parseHeap RX1 (F1_parseHeap_b14 N q1 σ) σ 14 [(0, .ref 20), (1, .ref q1)] [] := by
  unfold F1_parseHeap_b14
  refine v_aload_n d1_parseHeap_14 0 rfl rfl ?_
  refine v_callV0v d1_parseHeap_15 (mc8_step N σ) yv8_step mlX1_50 (Recv.obj ic_20 rfl) (by decide) (Nat.le_of_ble_eq_true rfl) fun r1 t2 => ?_
  refine v_aload_n d1_parseHeap_18 0 rfl rfl ?_
  refine v_iconst d1_parseHeap_19 ki_0 ?_
  refine v_bipush d1_parseHeap_20 kb_15 ?_
  refine v_callV2i d1_parseHeap_22 (mc8_takeNumber N (0 : Int32) (15 : Int32) t2) yv8_takeNumber mlX1_84 (Recv.obj ic_20 rfl) (by decide) (Nat.le_of_ble_eq_true rfl) fun r3 t4 => ?_
  refine v_istore_n (lv' := [(2, .int r3), (0, .ref 20), (1, .ref q1)]) d1_parseHeap_25 rfl (by decide) rfl ?_
  refine v_aload_n d1_parseHeap_26 1 rfl rfl ?_
  refine v_callV0v d1_parseHeap_27 (mc8_takeClose N t4) yv8_takeClose mlX1_63 (Recv.obj ic_20 rfl) (by decide) (Nat.le_of_ble_eq_true rfl) fun r5 t6 => ?_
  refine v_aload_n d1_parseHeap_30 1 rfl rfl ?_
  refine v_getI d1_parseHeap_31 faX1_66 ic_20 ?_
  refine v_if_ne (tgt := 42) d1_parseHeap_34 (by decide) ?_ ?_
  · exact v_vret d1_parseHeap_42 rfl
  · refine v_aload_n d1_parseHeap_37 2 rfl rfl ?_
    refine v_iload_n d1_parseHeap_38 0 rfl rfl ?_
    refine v_callV1v d1_parseHeap_39 (mc0_addHeap q1 hq1 r3 t6) yv0_addHeap mlX1_91 (Recv.obj hq1 rfl) (by decide) (Nat.le_of_ble_eq_true rfl) fun r7 t8 => ?_
    exact v_vret d1_parseHeap_42 rfl
set_option maxRecDepth 100000 in
theorem mc1_parseHeap (N : Nat) (q1 : Nat) (hq1 : IsC q1 (0, 0, 0)) (σ : Ms) : MC enV yX1_parseHeap cX1_parseHeap 3 none 5 (F1_parseHeap N q1 σ) σ [.ref 20, .ref q1] := by
  refine MC.v (by decide +kernel) (Nat.le_of_ble_eq_true rfl) ?_
  show VF (K1_parseHeap) cX1_parseHeap RX1 (F1_parseHeap N q1 σ) σ 0 [(0, .ref 20), (1, .ref q1)] []
  unfold F1_parseHeap
  refine v_aload_n d1_parseHeap_0 1 rfl rfl ?_
  refine v_getI d1_parseHeap_1 faX1_88 hq1 ?_
  refine v_iconst d1_parseHeap_4 ki_4 ?_
  refine v_icmp_lt (tgt := 14) d1_parseHeap_5 (by decide) ?_ ?_
  · exact v1_parseHeap_b14 N q1 hq1 σ
  · refine v_aload_n d1_parseHeap_8 0 rfl rfl ?_
    refine v_bipush d1_parseHeap_9 kb_6 ?_
    refine v_callV1v d1_parseHeap_11 (mc8_refuse (6 : Int32) σ) yv8_refuse mlX1_42 (Recv.obj ic_20 rfl) (by decide) (Nat.le_of_ble_eq_true rfl) fun r9 t10 => ?_
    exact v1_parseHeap_b14 N q1 hq1 t10
theorem d1_parseBet_0 : decode cX1_parseBet 0 = .ok (.aload_n 1, 1) := by decide +kernel
theorem d1_parseBet_1 : decode cX1_parseBet 1 = .ok (.getfield 94, 3) := by decide +kernel
theorem d1_parseBet_4 : decode cX1_parseBet 4 = .ok (.iconst 5, 1) := by decide +kernel
theorem d1_parseBet_5 : decode cX1_parseBet 5 = .ok (.if_icmp .lt 9, 3) := by decide +kernel
theorem d1_parseBet_8 : decode cX1_parseBet 8 = .ok (.aload_n 0, 1) := by decide +kernel
theorem d1_parseBet_9 : decode cX1_parseBet 9 = .ok (.bipush 6, 2) := by decide +kernel
theorem d1_parseBet_11 : decode cX1_parseBet 11 = .ok (.invokevirtual 42, 3) := by decide +kernel
theorem d1_parseBet_14 : decode cX1_parseBet 14 = .ok (.aload_n 0, 1) := by decide +kernel
theorem d1_parseBet_15 : decode cX1_parseBet 15 = .ok (.invokevirtual 50, 3) := by decide +kernel
theorem d1_parseBet_18 : decode cX1_parseBet 18 = .ok (.aload_n 0, 1) := by decide +kernel
theorem d1_parseBet_19 : decode cX1_parseBet 19 = .ok (.iconst 0, 1) := by decide +kernel
theorem d1_parseBet_20 : decode cX1_parseBet 20 = .ok (.bipush 20, 2) := by decide +kernel
theorem d1_parseBet_22 : decode cX1_parseBet 22 = .ok (.invokevirtual 84, 3) := by decide +kernel
theorem d1_parseBet_25 : decode cX1_parseBet 25 = .ok (.istore_n 2, 1) := by decide +kernel
theorem d1_parseBet_26 : decode cX1_parseBet 26 = .ok (.aload_n 0, 1) := by decide +kernel
theorem d1_parseBet_27 : decode cX1_parseBet 27 = .ok (.iload_n 2, 1) := by decide +kernel
theorem d1_parseBet_28 : decode cX1_parseBet 28 = .ok (.ifCond .ne 7, 3) := by decide +kernel
theorem d1_parseBet_31 : decode cX1_parseBet 31 = .ok (.iconst 1, 1) := by decide +kernel
theorem d1_parseBet_32 : decode cX1_parseBet 32 = .ok (.goto 4, 3) := by decide +kernel
theorem d1_parseBet_35 : decode cX1_parseBet 35 = .ok (.iconst 0, 1) := by decide +kernel
theorem d1_parseBet_36 : decode cX1_parseBet 36 = .ok (.bipush 20, 2) := by decide +kernel
theorem d1_parseBet_38 : decode cX1_parseBet 38 = .ok (.invokevirtual 84, 3) := by decide +kernel
theorem d1_parseBet_41 : decode cX1_parseBet 41 = .ok (.istore_n 3, 1) := by decide +kernel
theorem d1_parseBet_42 : decode cX1_parseBet 42 = .ok (.aload_n 0, 1) := by decide +kernel
theorem d1_parseBet_43 : decode cX1_parseBet 43 = .ok (.invokevirtual 63, 3) := by decide +kernel
theorem d1_parseBet_46 : decode cX1_parseBet 46 = .ok (.aload_n 0, 1) := by decide +kernel
theorem d1_parseBet_47 : decode cX1_parseBet 47 = .ok (.getfield 66, 3) := by decide +kernel
theorem d1_parseBet_50 : decode cX1_parseBet 50 = .ok (.ifCond .ne 9, 3) := by decide +kernel
theorem d1_parseBet_53 : decode cX1_parseBet 53 = .ok (.aload_n 1, 1) := by decide +kernel
theorem d1_parseBet_54 : decode cX1_parseBet 54 = .ok (.iload_n 2, 1) := by decide +kernel
theorem d1_parseBet_55 : decode cX1_parseBet 55 = .ok (.iload_n 3, 1) := by decide +kernel
theorem d1_parseBet_56 : decode cX1_parseBet 56 = .ok (.invokevirtual 97, 3) := by decide +kernel
theorem d1_parseBet_59 : decode cX1_parseBet 59 = .ok (.return_, 1) := by decide +kernel
abbrev K1_parseBet : CK Unit := (enV, none, 4, 5, none)
noncomputable def F1_parseBet_b36 (N : Nat) (q1 : Nat) (l2 : Int32) (s1 : Int32) (σ : Ms) : Option (Unit × Ms) :=
  bn (F8_takeNumber N s1 (20 : Int32) σ) (fun r1 t2 => bn (F8_takeClose N t2) (fun r3 t4 => if (t4.1 20 2) ≠ 0 then (some ((), t4))
  else (bn (F0_addBet q1 l2 r1 t4) (fun r5 t6 => some ((), t6)))))
noncomputable def F1_parseBet_b14 (N : Nat) (q1 : Nat) (σ : Ms) : Option (Unit × Ms) :=
  bn (F8_step N σ) (fun r7 t8 => bn (F8_takeNumber N (0 : Int32) (20 : Int32) t8) (fun r9 t10 => if r9 ≠ 0 then (F1_parseBet_b36 N q1 r9 (0 : Int32) t10)
  else (F1_parseBet_b36 N q1 r9 (1 : Int32) t10)))
noncomputable def F1_parseBet (N : Nat) (q1 : Nat) (σ : Ms) : Option (Unit × Ms) :=
  if (σ.1 q1 8) < (5 : Int32) then (F1_parseBet_b14 N q1 σ)
  else (bn (F8_refuse (6 : Int32) σ) (fun r11 t12 => F1_parseBet_b14 N q1 t12))
set_option maxRecDepth 100000 in
theorem v1_parseBet_b36 (N : Nat) (q1 : Nat) (hq1 : IsC q1 (0, 0, 0)) (l2 : Int32) (s1 : Int32) (σ : Ms) : VF (K1_parseBet) cX1_parseBet RX1 (F1_parseBet_b36 N q1 l2 s1 σ) σ 36 [(0, .ref 20), (1, .ref q1), (2, .int l2)] [.int s1, .ref 20] := by
  unfold F1_parseBet_b36
  refine v_bipush d1_parseBet_36 kb_20 ?_
  refine v_callV2i d1_parseBet_38 (mc8_takeNumber N s1 (20 : Int32) σ) yv8_takeNumber mlX1_84 (Recv.obj ic_20 rfl) (by decide) (Nat.le_of_ble_eq_true rfl) fun r1 t2 => ?_
  refine v_istore_n (lv' := [(3, .int r1), (0, .ref 20), (1, .ref q1), (2, .int l2)]) d1_parseBet_41 rfl (by decide) rfl ?_
  refine v_aload_n d1_parseBet_42 1 rfl rfl ?_
  refine v_callV0v d1_parseBet_43 (mc8_takeClose N t2) yv8_takeClose mlX1_63 (Recv.obj ic_20 rfl) (by decide) (Nat.le_of_ble_eq_true rfl) fun r3 t4 => ?_
  refine v_aload_n d1_parseBet_46 1 rfl rfl ?_
  refine v_getI d1_parseBet_47 faX1_66 ic_20 ?_
  refine v_if_ne (tgt := 59) d1_parseBet_50 (by decide) ?_ ?_
  · exact v_vret d1_parseBet_59 rfl
  · refine v_aload_n d1_parseBet_53 2 rfl rfl ?_
    refine v_iload_n d1_parseBet_54 3 rfl rfl ?_
    refine v_iload_n d1_parseBet_55 0 rfl rfl ?_
    refine v_callV2v d1_parseBet_56 (mc0_addBet q1 hq1 l2 r1 t4) yv0_addBet mlX1_97 (Recv.obj hq1 rfl) (by decide) (Nat.le_of_ble_eq_true rfl) fun r5 t6 => ?_
    exact v_vret d1_parseBet_59 rfl
set_option maxRecDepth 100000 in
theorem v1_parseBet_b14 (N : Nat) (q1 : Nat) (hq1 : IsC q1 (0, 0, 0)) (σ : Ms) : VF (K1_parseBet) cX1_parseBet RX1 (F1_parseBet_b14 N q1 σ) σ 14 [(0, .ref 20), (1, .ref q1)] [] := by
  unfold F1_parseBet_b14
  refine v_aload_n d1_parseBet_14 0 rfl rfl ?_
  refine v_callV0v d1_parseBet_15 (mc8_step N σ) yv8_step mlX1_50 (Recv.obj ic_20 rfl) (by decide) (Nat.le_of_ble_eq_true rfl) fun r7 t8 => ?_
  refine v_aload_n d1_parseBet_18 0 rfl rfl ?_
  refine v_iconst d1_parseBet_19 ki_0 ?_
  refine v_bipush d1_parseBet_20 kb_20 ?_
  refine v_callV2i d1_parseBet_22 (mc8_takeNumber N (0 : Int32) (20 : Int32) t8) yv8_takeNumber mlX1_84 (Recv.obj ic_20 rfl) (by decide) (Nat.le_of_ble_eq_true rfl) fun r9 t10 => ?_
  refine v_istore_n (lv' := [(2, .int r9), (0, .ref 20), (1, .ref q1)]) d1_parseBet_25 rfl (by decide) rfl ?_
  refine v_aload_n d1_parseBet_26 1 rfl rfl ?_
  refine v_iload_n d1_parseBet_27 0 rfl rfl ?_
  refine v_if_ne (tgt := 35) d1_parseBet_28 (by decide) ?_ ?_
  · refine v_iconst d1_parseBet_35 ki_0 ?_
    refine v_sub [1, 2, 0] rfl ?_
    exact v1_parseBet_b36 N q1 hq1 r9 (0 : Int32) t10
  · refine v_iconst d1_parseBet_31 ki_1 ?_
    refine v_goto (tgt := 36) d1_parseBet_32 (by decide) ?_
    refine v_sub [1, 2, 0] rfl ?_
    exact v1_parseBet_b36 N q1 hq1 r9 (1 : Int32) t10
set_option maxRecDepth 100000 in
theorem mc1_parseBet (N : Nat) (q1 : Nat) (hq1 : IsC q1 (0, 0, 0)) (σ : Ms) : MC enV yX1_parseBet cX1_parseBet 4 none 5 (F1_parseBet N q1 σ) σ [.ref 20, .ref q1] := by
  refine MC.v (by decide +kernel) (Nat.le_of_ble_eq_true rfl) ?_
  show VF (K1_parseBet) cX1_parseBet RX1 (F1_parseBet N q1 σ) σ 0 [(0, .ref 20), (1, .ref q1)] []
  unfold F1_parseBet
  refine v_aload_n d1_parseBet_0 1 rfl rfl ?_
  refine v_getI d1_parseBet_1 faX1_94 hq1 ?_
  refine v_iconst d1_parseBet_4 ki_5 ?_
  refine v_icmp_lt (tgt := 14) d1_parseBet_5 (by decide) ?_ ?_
  · exact v1_parseBet_b14 N q1 hq1 σ
  · refine v_aload_n d1_parseBet_8 0 rfl rfl ?_
    refine v_bipush d1_parseBet_9 kb_6 ?_
    refine v_callV1v d1_parseBet_11 (mc8_refuse (6 : Int32) σ) yv8_refuse mlX1_42 (Recv.obj ic_20 rfl) (by decide) (Nat.le_of_ble_eq_true rfl) fun r11 t12 => ?_
    exact v1_parseBet_b14 N q1 hq1 t12
theorem d1_parse_0 : decode cX1_parse 0 = .ok (.aload_n 1, 1) := by decide +kernel
theorem d1_parse_1 : decode cX1_parse 1 = .ok (.invokevirtual 9, 3) := by decide +kernel
theorem d1_parse_4 : decode cX1_parse 4 = .ok (.iconst 0, 1) := by decide +kernel
theorem d1_parse_5 : decode cX1_parse 5 = .ok (.istore_n 2, 1) := by decide +kernel
theorem d1_parse_6 : decode cX1_parse 6 = .ok (.iload_n 2, 1) := by decide +kernel
theorem d1_parse_7 : decode cX1_parse 7 = .ok (.sipush 900, 3) := by decide +kernel
theorem d1_parse_10 : decode cX1_parse 10 = .ok (.if_icmp .ge 72, 3) := by decide +kernel
theorem d1_parse_13 : decode cX1_parse 13 = .ok (.aload_n 0, 1) := by decide +kernel
theorem d1_parse_14 : decode cX1_parse 14 = .ok (.invokevirtual 14, 3) := by decide +kernel
theorem d1_parse_17 : decode cX1_parse 17 = .ok (.ifCond .eq 65, 3) := by decide +kernel
theorem d1_parse_20 : decode cX1_parse 20 = .ok (.aload_n 0, 1) := by decide +kernel
theorem d1_parse_21 : decode cX1_parse 21 = .ok (.ldc 20, 2) := by decide +kernel
theorem d1_parse_23 : decode cX1_parse 23 = .ok (.invokevirtual 22, 3) := by decide +kernel
theorem d1_parse_26 : decode cX1_parse 26 = .ok (.ifCond .eq 11, 3) := by decide +kernel
theorem d1_parse_29 : decode cX1_parse 29 = .ok (.aload_n 0, 1) := by decide +kernel
theorem d1_parse_30 : decode cX1_parse 30 = .ok (.aload_n 1, 1) := by decide +kernel
theorem d1_parse_31 : decode cX1_parse 31 = .ok (.invokestatic 26, 3) := by decide +kernel
theorem d1_parse_34 : decode cX1_parse 34 = .ok (.goto 42, 3) := by decide +kernel
theorem d1_parse_37 : decode cX1_parse 37 = .ok (.aload_n 0, 1) := by decide +kernel
theorem d1_parse_38 : decode cX1_parse 38 = .ok (.ldc 32, 2) := by decide +kernel
theorem d1_parse_40 : decode cX1_parse 40 = .ok (.invokevirtual 22, 3) := by decide +kernel
theorem d1_parse_43 : decode cX1_parse 43 = .ok (.ifCond .eq 11, 3) := by decide +kernel
theorem d1_parse_46 : decode cX1_parse 46 = .ok (.aload_n 0, 1) := by decide +kernel
theorem d1_parse_47 : decode cX1_parse 47 = .ok (.aload_n 1, 1) := by decide +kernel
theorem d1_parse_48 : decode cX1_parse 48 = .ok (.invokestatic 34, 3) := by decide +kernel
theorem d1_parse_51 : decode cX1_parse 51 = .ok (.goto 25, 3) := by decide +kernel
theorem d1_parse_54 : decode cX1_parse 54 = .ok (.aload_n 0, 1) := by decide +kernel
theorem d1_parse_55 : decode cX1_parse 55 = .ok (.ldc 37, 2) := by decide +kernel
theorem d1_parse_57 : decode cX1_parse 57 = .ok (.invokevirtual 22, 3) := by decide +kernel
theorem d1_parse_60 : decode cX1_parse 60 = .ok (.ifCond .eq 11, 3) := by decide +kernel
theorem d1_parse_63 : decode cX1_parse 63 = .ok (.aload_n 0, 1) := by decide +kernel
theorem d1_parse_64 : decode cX1_parse 64 = .ok (.aload_n 1, 1) := by decide +kernel
theorem d1_parse_65 : decode cX1_parse 65 = .ok (.invokestatic 39, 3) := by decide +kernel
theorem d1_parse_68 : decode cX1_parse 68 = .ok (.goto 8, 3) := by decide +kernel
theorem d1_parse_71 : decode cX1_parse 71 = .ok (.aload_n 0, 1) := by decide +kernel
theorem d1_parse_72 : decode cX1_parse 72 = .ok (.iconst 2, 1) := by decide +kernel
theorem d1_parse_73 : decode cX1_parse 73 = .ok (.invokevirtual 42, 3) := by decide +kernel
theorem d1_parse_76 : decode cX1_parse 76 = .ok (.iinc 2 1, 3) := by decide +kernel
theorem d1_parse_79 : decode cX1_parse 79 = .ok (.goto (-73), 3) := by decide +kernel
theorem d1_parse_82 : decode cX1_parse 82 = .ok (.return_, 1) := by decide +kernel
abbrev K1_parse : CK Unit := (enV, none, 3, 8, none)
noncomputable def F1_parse_b76 (N : Nat) (q1 : Nat) (k6 : Int32 × Ms → Option (Unit × Ms)) (l2 : Int32) (σ : Ms) : Option (Unit × Ms) :=
  k6 ((l2 + (1 : Int32)), σ)
noncomputable def F1_parse_b6B (N : Nat) (q1 : Nat) (k6 : Int32 × Ms → Option (Unit × Ms)) (l2 : Int32) (σ : Ms) : Option (Unit × Ms) :=
  if (900 : Int32) ≤ l2 then (some ((), σ))
  else (bn (F8_goesOn σ) (fun r1 t2 => if r1 = 0 then (some ((), t2))
  else (bn (F8_isWord N 0 t2) (fun r3 t4 => if r3 = 0 then (bn (F8_isWord N 1 t4) (fun r5 t6 => if r5 = 0 then (bn (F8_isWord N 2 t6) (fun r7 t8 => if r7 = 0 then (bn (F8_refuse (2 : Int32) t8) (fun r9 t10 => F1_parse_b76 N q1 k6 l2 t10))
  else (bn (F1_parseBet N q1 t8) (fun r11 t12 => F1_parse_b76 N q1 k6 l2 t12))))
  else (bn (F1_parseHeap N q1 t6) (fun r13 t14 => F1_parse_b76 N q1 k6 l2 t14))))
  else (bn (F1_parseSprig N q1 t4) (fun r15 t16 => F1_parse_b76 N q1 k6 l2 t16))))))
noncomputable def F1_parse_b6 (N : Nat) (q1 : Nat) (l2 : Int32) (σ : Ms) : Option (Unit × Ms) :=
  fx N (fun k x => F1_parse_b6B N q1 k x.1 x.2) (l2, σ)
noncomputable def F1_parse (N : Nat) (q1 : Nat) (σ : Ms) : Option (Unit × Ms) :=
  bn (F0_clear q1 σ) (fun r17 t18 => F1_parse_b6 N q1 (0 : Int32) t18)
set_option maxRecDepth 100000 in
theorem v1_parse_b76 (N : Nat) (q1 : Nat) (hq1 : IsC q1 (0, 0, 0)) (k6 : Int32 × Ms → Option (Unit × Ms)) (hk6 : ∀ (l2 : Int32) (τ : Ms), VF (K1_parse) cX1_parse RX1 (k6 (l2, τ)) τ 6 [(0, .ref 20), (1, .ref q1), (2, .int l2)] []) (l2 : Int32) (σ : Ms) : VF (K1_parse) cX1_parse RX1 (F1_parse_b76 N q1 k6 l2 σ) σ 76 [(0, .ref 20), (1, .ref q1), (2, .int l2)] [] := by
  unfold F1_parse_b76
  refine v_iinc (lv' := [(2, .int (l2 + (1 : Int32))), (0, .ref 20), (1, .ref q1)]) d1_parse_76 2 rfl (by rw [ki_1]) (by decide) rfl ?_
  refine v_goto (tgt := 6) d1_parse_79 (by decide) ?_
  refine v_sub [1, 2, 0] rfl ?_
  exact hk6 (l2 + (1 : Int32)) σ
set_option maxRecDepth 100000 in
theorem v1_parse_b6B (N : Nat) (q1 : Nat) (hq1 : IsC q1 (0, 0, 0)) (k6 : Int32 × Ms → Option (Unit × Ms)) (hk6 : ∀ (l2 : Int32) (τ : Ms), VF (K1_parse) cX1_parse RX1 (k6 (l2, τ)) τ 6 [(0, .ref 20), (1, .ref q1), (2, .int l2)] []) (l2 : Int32) (σ : Ms) : VF (K1_parse) cX1_parse RX1 (F1_parse_b6B N q1 k6 l2 σ) σ 6 [(0, .ref 20), (1, .ref q1), (2, .int l2)] [] := by
  unfold F1_parse_b6B
  refine v_iload_n d1_parse_6 2 rfl rfl ?_
  refine v_sipush d1_parse_7 ks_900 ?_
  refine v_icmp_ge (tgt := 82) d1_parse_10 (by decide) ?_ ?_
  · exact v_vret d1_parse_82 rfl
  · refine v_aload_n d1_parse_13 0 rfl rfl ?_
    refine v_callV0i d1_parse_14 (mc8_goesOn σ) yv8_goesOn mlX1_14 (Recv.obj ic_20 rfl) (by decide) (Nat.le_of_ble_eq_true rfl) fun r1 t2 => ?_
    refine v_if_eq (tgt := 82) d1_parse_17 (by decide) ?_ ?_
    · exact v_vret d1_parse_82 rfl
    · refine v_aload_n d1_parse_20 0 rfl rfl ?_
      refine v_ldcS (i := 0) d1_parse_21 stX1_20 ?_
      refine v_callV1i d1_parse_23 (mc8_isWord N 0 (by decide) t2) yv8_isWord mlX1_22 (Recv.obj ic_20 rfl) (by decide) (Nat.le_of_ble_eq_true rfl) fun r3 t4 => ?_
      refine v_if_eq (tgt := 37) d1_parse_26 (by decide) ?_ ?_
      · refine v_aload_n d1_parse_37 0 rfl rfl ?_
        refine v_ldcS (i := 1) d1_parse_38 stX1_32 ?_
        refine v_callV1i d1_parse_40 (mc8_isWord N 1 (by decide) t4) yv8_isWord mlX1_22 (Recv.obj ic_20 rfl) (by decide) (Nat.le_of_ble_eq_true rfl) fun r5 t6 => ?_
        refine v_if_eq (tgt := 54) d1_parse_43 (by decide) ?_ ?_
        · refine v_aload_n d1_parse_54 0 rfl rfl ?_
          refine v_ldcS (i := 2) d1_parse_55 stX1_37 ?_
          refine v_callV1i d1_parse_57 (mc8_isWord N 2 (by decide) t6) yv8_isWord mlX1_22 (Recv.obj ic_20 rfl) (by decide) (Nat.le_of_ble_eq_true rfl) fun r7 t8 => ?_
          refine v_if_eq (tgt := 71) d1_parse_60 (by decide) ?_ ?_
          · refine v_aload_n d1_parse_71 0 rfl rfl ?_
            refine v_iconst d1_parse_72 ki_2 ?_
            refine v_callV1v d1_parse_73 (mc8_refuse (2 : Int32) t8) yv8_refuse mlX1_42 (Recv.obj ic_20 rfl) (by decide) (Nat.le_of_ble_eq_true rfl) fun r9 t10 => ?_
            exact v1_parse_b76 N q1 hq1 k6 hk6 l2 t10
          · refine v_aload_n d1_parse_63 0 rfl rfl ?_
            refine v_aload_n d1_parse_64 1 rfl rfl ?_
            refine v_callS2v d1_parse_65 (mc1_parseBet N q1 hq1 t8) ys1_parseBet mlX1_39 (by decide) (Nat.le_of_ble_eq_true rfl) fun r11 t12 => ?_
            refine v_goto (tgt := 76) d1_parse_68 (by decide) ?_
            exact v1_parse_b76 N q1 hq1 k6 hk6 l2 t12
        · refine v_aload_n d1_parse_46 0 rfl rfl ?_
          refine v_aload_n d1_parse_47 1 rfl rfl ?_
          refine v_callS2v d1_parse_48 (mc1_parseHeap N q1 hq1 t6) ys1_parseHeap mlX1_34 (by decide) (Nat.le_of_ble_eq_true rfl) fun r13 t14 => ?_
          refine v_goto (tgt := 76) d1_parse_51 (by decide) ?_
          exact v1_parse_b76 N q1 hq1 k6 hk6 l2 t14
      · refine v_aload_n d1_parse_29 0 rfl rfl ?_
        refine v_aload_n d1_parse_30 1 rfl rfl ?_
        refine v_callS2v d1_parse_31 (mc1_parseSprig N q1 hq1 t4) ys1_parseSprig mlX1_26 (by decide) (Nat.le_of_ble_eq_true rfl) fun r15 t16 => ?_
        refine v_goto (tgt := 76) d1_parse_34 (by decide) ?_
        exact v1_parse_b76 N q1 hq1 k6 hk6 l2 t16
theorem v1_parse_b6 (N : Nat) (q1 : Nat) (hq1 : IsC q1 (0, 0, 0)) (l2 : Int32) (σ : Ms) : VF (K1_parse) cX1_parse RX1 (F1_parse_b6 N q1 l2 σ) σ 6 [(0, .ref 20), (1, .ref q1), (2, .int l2)] [] := v_fx (σo := fun x => x.2) (lo := fun x => [(0, .ref 20), (1, .ref q1), (2, .int x.1)]) (fun k hk x => v1_parse_b6B N q1 hq1 k (fun l2 τ => hk (l2, τ)) x.1 x.2) N (l2, σ)
set_option maxRecDepth 100000 in
theorem mc1_parse (N : Nat) (q1 : Nat) (hq1 : IsC q1 (0, 0, 0)) (σ : Ms) : MC enV yX1_parse cX1_parse 3 none 8 (F1_parse N q1 σ) σ [.ref 20, .ref q1] := by
  refine MC.v (by decide +kernel) (Nat.le_of_ble_eq_true rfl) ?_
  show VF (K1_parse) cX1_parse RX1 (F1_parse N q1 σ) σ 0 [(0, .ref 20), (1, .ref q1)] []
  unfold F1_parse
  refine v_aload_n d1_parse_0 1 rfl rfl ?_
  refine v_callV0v d1_parse_1 (mc0_clear q1 hq1 σ) yv0_clear mlX1_9 (Recv.obj hq1 rfl) (by decide) (Nat.le_of_ble_eq_true rfl) fun r17 t18 => ?_
  refine v_iconst d1_parse_4 ki_0 ?_
  refine v_istore_n (lv' := [(2, .int (0 : Int32)), (0, .ref 20), (1, .ref q1)]) d1_parse_5 rfl (by decide) rfl ?_
  refine v_sub [1, 2, 0] rfl ?_
  exact v1_parse_b6 N q1 hq1 (0 : Int32) t18
theorem d5_hasEntry_0 : decode cX5_hasEntry 0 = .ok (.iload_n 1, 1) := by decide +kernel
theorem d5_hasEntry_1 : decode cX5_hasEntry 1 = .ok (.ifCond .lt 21, 3) := by decide +kernel
theorem d5_hasEntry_4 : decode cX5_hasEntry 4 = .ok (.iload_n 1, 1) := by decide +kernel
theorem d5_hasEntry_5 : decode cX5_hasEntry 5 = .ok (.aload_n 0, 1) := by decide +kernel
theorem d5_hasEntry_6 : decode cX5_hasEntry 6 = .ok (.getfield 19, 3) := by decide +kernel
theorem d5_hasEntry_9 : decode cX5_hasEntry 9 = .ok (.if_icmp .ge 13, 3) := by decide +kernel
theorem d5_hasEntry_12 : decode cX5_hasEntry 12 = .ok (.iload_n 1, 1) := by decide +kernel
theorem d5_hasEntry_13 : decode cX5_hasEntry 13 = .ok (.bipush 60, 2) := by decide +kernel
theorem d5_hasEntry_15 : decode cX5_hasEntry 15 = .ok (.if_icmp .ge 7, 3) := by decide +kernel
theorem d5_hasEntry_18 : decode cX5_hasEntry 18 = .ok (.iconst 1, 1) := by decide +kernel
theorem d5_hasEntry_19 : decode cX5_hasEntry 19 = .ok (.goto 4, 3) := by decide +kernel
theorem d5_hasEntry_22 : decode cX5_hasEntry 22 = .ok (.iconst 0, 1) := by decide +kernel
theorem d5_hasEntry_23 : decode cX5_hasEntry 23 = .ok (.ireturn, 1) := by decide +kernel
abbrev K5_hasEntry : CK Int32 := (enI, (some .boolean), 2, 1, none)
noncomputable def F5_hasEntry (h : Nat) (p0 : Int32) (σ : Ms) : Option (Int32 × Ms) :=
  if p0 < 0 then (some ((0 : Int32), σ))
  else (if (σ.1 h 2) ≤ p0 then (some ((0 : Int32), σ))
  else (if (60 : Int32) ≤ p0 then (some ((0 : Int32), σ))
  else (some ((1 : Int32), σ))))
set_option maxRecDepth 100000 in
theorem mc5_hasEntry (h : Nat) (hh : IsC h (0, 3, 0)) (p0 : Int32) (σ : Ms) : MC enI yX5_hasEntry cX5_hasEntry 2 (some .boolean) 1 (F5_hasEntry h p0 σ) σ [.ref h, .int p0] := by
  refine MC.i (by decide +kernel) (Nat.le_of_ble_eq_true rfl) ?_
  show VF (K5_hasEntry) cX5_hasEntry RX5 (F5_hasEntry h p0 σ) σ 0 [(0, .ref h), (1, .int p0)] []
  unfold F5_hasEntry
  refine v_iload_n d5_hasEntry_0 1 rfl rfl ?_
  refine v_if_lt (tgt := 22) d5_hasEntry_1 (by decide) ?_ ?_
  · refine v_iconst d5_hasEntry_22 ki_0 ?_
    exact v_iret (ty := .boolean) d5_hasEntry_23 rfl rfl rfl
  · refine v_iload_n d5_hasEntry_4 1 rfl rfl ?_
    refine v_aload_n d5_hasEntry_5 0 rfl rfl ?_
    refine v_getI d5_hasEntry_6 faX5_19 hh ?_
    refine v_icmp_ge (tgt := 22) d5_hasEntry_9 (by decide) ?_ ?_
    · refine v_iconst d5_hasEntry_22 ki_0 ?_
      exact v_iret (ty := .boolean) d5_hasEntry_23 rfl rfl rfl
    · refine v_iload_n d5_hasEntry_12 1 rfl rfl ?_
      refine v_bipush d5_hasEntry_13 kb_60 ?_
      refine v_icmp_ge (tgt := 22) d5_hasEntry_15 (by decide) ?_ ?_
      · refine v_iconst d5_hasEntry_22 ki_0 ?_
        exact v_iret (ty := .boolean) d5_hasEntry_23 rfl rfl rfl
      · refine v_iconst d5_hasEntry_18 ki_1 ?_
        refine v_goto (tgt := 23) d5_hasEntry_19 (by decide) ?_
        exact v_iret (ty := .boolean) d5_hasEntry_23 rfl rfl rfl
theorem d2_behindEnd_0 : decode cX2_behindEnd 0 = .ok (.aload_n 1, 1) := by decide +kernel
theorem d2_behindEnd_1 : decode cX2_behindEnd 1 = .ok (.getfield 55, 3) := by decide +kernel
theorem d2_behindEnd_4 : decode cX2_behindEnd 4 = .ok (.iload_n 2, 1) := by decide +kernel
theorem d2_behindEnd_5 : decode cX2_behindEnd 5 = .ok (.iaload, 1) := by decide +kernel
theorem d2_behindEnd_6 : decode cX2_behindEnd 6 = .ok (.istore_n 3, 1) := by decide +kernel
theorem d2_behindEnd_7 : decode cX2_behindEnd 7 = .ok (.aload_n 1, 1) := by decide +kernel
theorem d2_behindEnd_8 : decode cX2_behindEnd 8 = .ok (.iload_n 3, 1) := by decide +kernel
theorem d2_behindEnd_9 : decode cX2_behindEnd 9 = .ok (.invokevirtual 40, 3) := by decide +kernel
theorem d2_behindEnd_12 : decode cX2_behindEnd 12 = .ok (.ifCond .eq 14, 3) := by decide +kernel
theorem d2_behindEnd_15 : decode cX2_behindEnd 15 = .ok (.aload_n 1, 1) := by decide +kernel
theorem d2_behindEnd_16 : decode cX2_behindEnd 16 = .ok (.getfield 44, 3) := by decide +kernel
theorem d2_behindEnd_19 : decode cX2_behindEnd 19 = .ok (.iload_n 3, 1) := by decide +kernel
theorem d2_behindEnd_20 : decode cX2_behindEnd 20 = .ok (.iaload, 1) := by decide +kernel
theorem d2_behindEnd_21 : decode cX2_behindEnd 21 = .ok (.bipush 6, 2) := by decide +kernel
theorem d2_behindEnd_23 : decode cX2_behindEnd 23 = .ok (.if_icmp .eq 7, 3) := by decide +kernel
theorem d2_behindEnd_26 : decode cX2_behindEnd 26 = .ok (.iload_n 2, 1) := by decide +kernel
theorem d2_behindEnd_27 : decode cX2_behindEnd 27 = .ok (.iconst 1, 1) := by decide +kernel
theorem d2_behindEnd_28 : decode cX2_behindEnd 28 = .ok (.iadd, 1) := by decide +kernel
theorem d2_behindEnd_29 : decode cX2_behindEnd 29 = .ok (.ireturn, 1) := by decide +kernel
theorem d2_behindEnd_30 : decode cX2_behindEnd 30 = .ok (.aload_n 0, 1) := by decide +kernel
theorem d2_behindEnd_31 : decode cX2_behindEnd 31 = .ok (.getfield 36, 3) := by decide +kernel
theorem d2_behindEnd_34 : decode cX2_behindEnd 34 = .ok (.iload_n 3, 1) := by decide +kernel
theorem d2_behindEnd_35 : decode cX2_behindEnd 35 = .ok (.dup2, 1) := by decide +kernel
theorem d2_behindEnd_36 : decode cX2_behindEnd 36 = .ok (.iaload, 1) := by decide +kernel
theorem d2_behindEnd_37 : decode cX2_behindEnd 37 = .ok (.iconst 1, 1) := by decide +kernel
theorem d2_behindEnd_38 : decode cX2_behindEnd 38 = .ok (.isub, 1) := by decide +kernel
theorem d2_behindEnd_39 : decode cX2_behindEnd 39 = .ok (.iastore, 1) := by decide +kernel
theorem d2_behindEnd_40 : decode cX2_behindEnd 40 = .ok (.aload_n 0, 1) := by decide +kernel
theorem d2_behindEnd_41 : decode cX2_behindEnd 41 = .ok (.getfield 36, 3) := by decide +kernel
theorem d2_behindEnd_44 : decode cX2_behindEnd 44 = .ok (.iload_n 3, 1) := by decide +kernel
theorem d2_behindEnd_45 : decode cX2_behindEnd 45 = .ok (.iaload, 1) := by decide +kernel
theorem d2_behindEnd_46 : decode cX2_behindEnd 46 = .ok (.ifCond .le 9, 3) := by decide +kernel
theorem d2_behindEnd_49 : decode cX2_behindEnd 49 = .ok (.iload_n 3, 1) := by decide +kernel
theorem d2_behindEnd_50 : decode cX2_behindEnd 50 = .ok (.iconst 1, 1) := by decide +kernel
theorem d2_behindEnd_51 : decode cX2_behindEnd 51 = .ok (.iadd, 1) := by decide +kernel
theorem d2_behindEnd_52 : decode cX2_behindEnd 52 = .ok (.goto 6, 3) := by decide +kernel
theorem d2_behindEnd_55 : decode cX2_behindEnd 55 = .ok (.iload_n 2, 1) := by decide +kernel
theorem d2_behindEnd_56 : decode cX2_behindEnd 56 = .ok (.iconst 1, 1) := by decide +kernel
theorem d2_behindEnd_57 : decode cX2_behindEnd 57 = .ok (.iadd, 1) := by decide +kernel
theorem d2_behindEnd_58 : decode cX2_behindEnd 58 = .ok (.ireturn, 1) := by decide +kernel
abbrev K2_behindEnd : CK Int32 := (enI, (some .int), 4, 2, none)
noncomputable def F2_behindEnd_b26 (h : Nat) (q0 : Nat) (l2 : Int32) (σ : Ms) : Option (Int32 × Ms) :=
  some ((l2 + (1 : Int32)), σ)
noncomputable def F2_behindEnd (h : Nat) (q0 : Nat) (p1 : Int32) (σ : Ms) : Option (Int32 × Ms) :=
  ck (ixb p1 60) (lt (σ.1 (q0 + 5) p1.toNatClampNeg) (fun x1 => bn (F5_hasEntry q0 x1 σ) (fun r2 t3 => if r2 = 0 then (F2_behindEnd_b26 h q0 p1 t3)
  else (ck (ixb x1 60) (if (t3.1 (q0 + 1) x1.toNatClampNeg) = (6 : Int32) then (ck (ixb x1 60) (ck (ixb x1 60) (lt (sI t3 (h + 1) x1.toNatClampNeg ((t3.1 (h + 1) x1.toNatClampNeg) - (1 : Int32))) (fun t4 => ck (ixb x1 60) (if (t4.1 (h + 1) x1.toNatClampNeg) ≤ 0 then (some ((p1 + (1 : Int32)), t4))
  else (some ((x1 + (1 : Int32)), t4)))))))
  else (F2_behindEnd_b26 h q0 p1 t3))))))
set_option maxRecDepth 100000 in
theorem v2_behindEnd_b26 (h : Nat) (hh : IsC h (0, 1, 0)) (q0 : Nat) (hq0 : IsC q0 (0, 3, 0)) (l2 : Int32) (σ : Ms) : VF (K2_behindEnd) cX2_behindEnd RX2 (F2_behindEnd_b26 h q0 l2 σ) σ 26 [(2, .int l2)] [] := by
  unfold F2_behindEnd_b26
  refine v_iload_n d2_behindEnd_26 0 rfl rfl ?_
  refine v_iconst d2_behindEnd_27 ki_1 ?_
  refine v_iadd d2_behindEnd_28 ?_
  exact v_iret d2_behindEnd_29 rfl rfl rfl
set_option maxRecDepth 100000 in
theorem mc2_behindEnd (h : Nat) (hh : IsC h (0, 1, 0)) (q0 : Nat) (hq0 : IsC q0 (0, 3, 0)) (p1 : Int32) (σ : Ms) : MC enI yX2_behindEnd cX2_behindEnd 4 (some .int) 2 (F2_behindEnd h q0 p1 σ) σ [.ref h, .ref q0, .int p1] := by
  refine MC.i (by decide +kernel) (Nat.le_of_ble_eq_true rfl) ?_
  show VF (K2_behindEnd) cX2_behindEnd RX2 (F2_behindEnd h q0 p1 σ) σ 0 [(0, .ref h), (1, .ref q0), (2, .int p1)] []
  unfold F2_behindEnd
  refine v_aload_n d2_behindEnd_0 1 rfl rfl ?_
  refine v_getR d2_behindEnd_1 faX2_55 hq0 rfl ?_
  refine v_iload_n d2_behindEnd_4 2 rfl rfl ?_
  refine v_iald d2_behindEnd_5 (ih3_5 hq0) ?_
  refine v_lti fun x1 => ?_
  refine v_istore_n (lv' := [(3, .int x1), (0, .ref h), (1, .ref q0), (2, .int p1)]) d2_behindEnd_6 rfl (by decide) rfl ?_
  refine v_aload_n d2_behindEnd_7 2 rfl rfl ?_
  refine v_iload_n d2_behindEnd_8 0 rfl rfl ?_
  refine v_callV1i d2_behindEnd_9 (mc5_hasEntry q0 hq0 x1 σ) yv5_hasEntry mlX2_40 (Recv.obj hq0 rfl) (by decide) (Nat.le_of_ble_eq_true rfl) fun r2 t3 => ?_
  refine v_if_eq (tgt := 26) d2_behindEnd_12 (by decide) ?_ ?_
  · refine v_sub [3] rfl ?_
    exact v2_behindEnd_b26 h hh q0 hq0 p1 t3
  · refine v_aload_n d2_behindEnd_15 2 rfl rfl ?_
    refine v_getR d2_behindEnd_16 faX2_44 hq0 rfl ?_
    refine v_iload_n d2_behindEnd_19 0 rfl rfl ?_
    refine v_iald d2_behindEnd_20 (ih3_1 hq0) ?_
    refine v_bipush d2_behindEnd_21 kb_6 ?_
    refine v_icmp_eq (tgt := 30) d2_behindEnd_23 (by decide) ?_ ?_
    · refine v_aload_n d2_behindEnd_30 1 rfl rfl ?_
      refine v_getR d2_behindEnd_31 faX2_36 hh rfl ?_
      refine v_iload_n d2_behindEnd_34 0 rfl rfl ?_
      refine v_dup2_11 d2_behindEnd_35 rfl rfl ?_
      refine v_iald d2_behindEnd_36 (ih1_1 hh) ?_
      refine v_iconst d2_behindEnd_37 ki_1 ?_
      refine v_isub d2_behindEnd_38 ?_
      refine v_iast d2_behindEnd_39 (ih1_1 hh) ?_
      refine v_lts fun t4 => ?_
      refine v_aload_n d2_behindEnd_40 1 rfl rfl ?_
      refine v_getR d2_behindEnd_41 faX2_36 hh rfl ?_
      refine v_iload_n d2_behindEnd_44 0 rfl rfl ?_
      refine v_iald d2_behindEnd_45 (ih1_1 hh) ?_
      refine v_if_le (tgt := 55) d2_behindEnd_46 (by decide) ?_ ?_
      · refine v_iload_n d2_behindEnd_55 3 rfl rfl ?_
        refine v_iconst d2_behindEnd_56 ki_1 ?_
        refine v_iadd d2_behindEnd_57 ?_
        exact v_iret d2_behindEnd_58 rfl rfl rfl
      · refine v_iload_n d2_behindEnd_49 0 rfl rfl ?_
        refine v_iconst d2_behindEnd_50 ki_1 ?_
        refine v_iadd d2_behindEnd_51 ?_
        refine v_goto (tgt := 58) d2_behindEnd_52 (by decide) ?_
        exact v_iret d2_behindEnd_58 rfl rfl rfl
    · refine v_sub [3] rfl ?_
      exact v2_behindEnd_b26 h hh q0 hq0 p1 t3
theorem d2_cutOff_0 : decode cX2_cutOff 0 = .ok (.aload_n 1, 1) := by decide +kernel
theorem d2_cutOff_1 : decode cX2_cutOff 1 = .ok (.iload_n 2, 1) := by decide +kernel
theorem d2_cutOff_2 : decode cX2_cutOff 2 = .ok (.iload_n 3, 1) := by decide +kernel
theorem d2_cutOff_3 : decode cX2_cutOff 3 = .ok (.invokevirtual 91, 3) := by decide +kernel
theorem d2_cutOff_6 : decode cX2_cutOff 6 = .ok (.ifCond .eq 30, 3) := by decide +kernel
theorem d2_cutOff_9 : decode cX2_cutOff 9 = .ok (.aload_n 0, 1) := by decide +kernel
theorem d2_cutOff_10 : decode cX2_cutOff 10 = .ok (.dup, 1) := by decide +kernel
theorem d2_cutOff_11 : decode cX2_cutOff 11 = .ok (.getfield 18, 3) := by decide +kernel
theorem d2_cutOff_14 : decode cX2_cutOff 14 = .ok (.iconst 1, 1) := by decide +kernel
theorem d2_cutOff_15 : decode cX2_cutOff 15 = .ok (.iadd, 1) := by decide +kernel
theorem d2_cutOff_16 : decode cX2_cutOff 16 = .ok (.putfield 18, 3) := by decide +kernel
theorem d2_cutOff_19 : decode cX2_cutOff 19 = .ok (.aload_n 0, 1) := by decide +kernel
theorem d2_cutOff_20 : decode cX2_cutOff 20 = .ok (.dup, 1) := by decide +kernel
theorem d2_cutOff_21 : decode cX2_cutOff 21 = .ok (.getfield 21, 3) := by decide +kernel
theorem d2_cutOff_24 : decode cX2_cutOff 24 = .ok (.aload_n 1, 1) := by decide +kernel
theorem d2_cutOff_25 : decode cX2_cutOff 25 = .ok (.iload_n 3, 1) := by decide +kernel
theorem d2_cutOff_26 : decode cX2_cutOff 26 = .ok (.invokevirtual 97, 3) := by decide +kernel
theorem d2_cutOff_29 : decode cX2_cutOff 29 = .ok (.iadd, 1) := by decide +kernel
theorem d2_cutOff_30 : decode cX2_cutOff 30 = .ok (.putfield 21, 3) := by decide +kernel
theorem d2_cutOff_33 : decode cX2_cutOff 33 = .ok (.goto 13, 3) := by decide +kernel
theorem d2_cutOff_36 : decode cX2_cutOff 36 = .ok (.aload_n 0, 1) := by decide +kernel
theorem d2_cutOff_37 : decode cX2_cutOff 37 = .ok (.dup, 1) := by decide +kernel
theorem d2_cutOff_38 : decode cX2_cutOff 38 = .ok (.getfield 15, 3) := by decide +kernel
theorem d2_cutOff_41 : decode cX2_cutOff 41 = .ok (.iconst 1, 1) := by decide +kernel
theorem d2_cutOff_42 : decode cX2_cutOff 42 = .ok (.iadd, 1) := by decide +kernel
theorem d2_cutOff_43 : decode cX2_cutOff 43 = .ok (.putfield 15, 3) := by decide +kernel
theorem d2_cutOff_46 : decode cX2_cutOff 46 = .ok (.return_, 1) := by decide +kernel
abbrev K2_cutOff : CK Unit := (enV, none, 4, 4, none)
noncomputable def F2_cutOff (N : Nat) (h : Nat) (q0 : Nat) (p1 : Int32) (p2 : Int32) (σ : Ms) : Option (Unit × Ms) :=
  bn (F0_mayCut q0 p1 p2 σ) (fun r1 t2 => if r1 = 0 then (lt (sI t2 h 1 ((t2.1 h 1) + (1 : Int32))) (fun t3 => some ((), t3)))
  else (lt (sI t2 h 2 ((t2.1 h 2) + (1 : Int32))) (fun t4 => bn (F0_shear N q0 p2 t4) (fun r5 t6 => lt (sI t6 h 3 ((t4.1 h 3) + r5)) (fun t7 => some ((), t7))))))
set_option maxRecDepth 100000 in
theorem mc2_cutOff (N : Nat) (h : Nat) (hh : IsC h (0, 1, 0)) (q0 : Nat) (hq0 : IsC q0 (0, 0, 0)) (p1 : Int32) (p2 : Int32) (σ : Ms) : MC enV yX2_cutOff cX2_cutOff 4 none 4 (F2_cutOff N h q0 p1 p2 σ) σ [.ref h, .ref q0, .int p1, .int p2] := by
  refine MC.v (by decide +kernel) (Nat.le_of_ble_eq_true rfl) ?_
  show VF (K2_cutOff) cX2_cutOff RX2 (F2_cutOff N h q0 p1 p2 σ) σ 0 [(0, .ref h), (1, .ref q0), (2, .int p1), (3, .int p2)] []
  unfold F2_cutOff
  refine v_aload_n d2_cutOff_0 1 rfl rfl ?_
  refine v_iload_n d2_cutOff_1 2 rfl rfl ?_
  refine v_iload_n d2_cutOff_2 3 rfl rfl ?_
  refine v_callV2i d2_cutOff_3 (mc0_mayCut q0 hq0 p1 p2 σ) yv0_mayCut mlX2_91 (Recv.obj hq0 rfl) (by decide) (Nat.le_of_ble_eq_true rfl) fun r1 t2 => ?_
  refine v_if_eq (tgt := 36) d2_cutOff_6 (by decide) ?_ ?_
  · refine v_aload_n d2_cutOff_36 0 rfl rfl ?_
    refine v_dup d2_cutOff_37 rfl ?_
    refine v_getI d2_cutOff_38 faX2_15 hh ?_
    refine v_iconst d2_cutOff_41 ki_1 ?_
    refine v_iadd d2_cutOff_42 ?_
    refine v_putI d2_cutOff_43 faX2_15 fp1_1 hh ?_
    refine v_lts fun t3 => ?_
    exact v_vret d2_cutOff_46 rfl
  · refine v_aload_n d2_cutOff_9 0 rfl rfl ?_
    refine v_dup d2_cutOff_10 rfl ?_
    refine v_getI d2_cutOff_11 faX2_18 hh ?_
    refine v_iconst d2_cutOff_14 ki_1 ?_
    refine v_iadd d2_cutOff_15 ?_
    refine v_putI d2_cutOff_16 faX2_18 fp1_2 hh ?_
    refine v_lts fun t4 => ?_
    refine v_aload_n d2_cutOff_19 0 rfl rfl ?_
    refine v_dup d2_cutOff_20 rfl ?_
    refine v_getI d2_cutOff_21 faX2_21 hh ?_
    refine v_aload_n d2_cutOff_24 1 rfl rfl ?_
    refine v_iload_n d2_cutOff_25 3 rfl rfl ?_
    refine v_callV1i d2_cutOff_26 (mc0_shear N q0 hq0 p2 t4) yv0_shear mlX2_97 (Recv.obj hq0 rfl) (by decide) (Nat.le_of_ble_eq_true rfl) fun r5 t6 => ?_
    refine v_iadd d2_cutOff_29 ?_
    refine v_putI d2_cutOff_30 faX2_21 fp1_3 hh ?_
    refine v_lts fun t7 => ?_
    refine v_goto (tgt := 46) d2_cutOff_33 (by decide) ?_
    exact v_vret d2_cutOff_46 rfl
