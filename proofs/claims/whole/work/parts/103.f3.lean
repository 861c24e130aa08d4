theorem dJ0_isLatin1_aae02_0 : decode cJ0_isLatin1_aae02 0 = .ok (.getstatic 38, 3) := by decide +kernel
theorem dJ0_isLatin1_aae02_3 : decode cJ0_isLatin1_aae02 3 = .ok (.ifCond .eq 14, 3) := by decide +kernel
theorem dJ0_isLatin1_aae02_6 : decode cJ0_isLatin1_aae02 6 = .ok (.aload_n 0, 1) := by decide +kernel
theorem dJ0_isLatin1_aae02_7 : decode cJ0_isLatin1_aae02 7 = .ok (.getfield 15, 3) := by decide +kernel
theorem dJ0_isLatin1_aae02_10 : decode cJ0_isLatin1_aae02 10 = .ok (.ifCond .ne 7, 3) := by decide +kernel
theorem dJ0_isLatin1_aae02_13 : decode cJ0_isLatin1_aae02 13 = .ok (.iconst 1, 1) := by decide +kernel
theorem dJ0_isLatin1_aae02_14 : decode cJ0_isLatin1_aae02 14 = .ok (.goto 4, 3) := by decide +kernel
theorem dJ0_isLatin1_aae02_17 : decode cJ0_isLatin1_aae02 17 = .ok (.iconst 0, 1) := by decide +kernel
theorem dJ0_isLatin1_aae02_18 : decode cJ0_isLatin1_aae02 18 = .ok (.ireturn, 1) := by decide +kernel
abbrev KJ0_isLatin1_aae02 : CK Int32 := (enI, (some .boolean), 1, 1, none)
noncomputable def FJ0_isLatin1_aae02 (i : Nat) (σ : Ms) : Option (Int32 × Ms) :=
  if (1 : Int32) = 0 then (some ((0 : Int32), σ))
  else (if (0 : Int32) ≠ 0 then (some ((0 : Int32), σ))
  else (some ((1 : Int32), σ)))
set_option maxRecDepth 100000 in
theorem mcJ0_isLatin1_aae02 (i : Nat) (hi : i < NS) (σ : Ms) : MC enI yJ0_isLatin1_aae02 cJ0_isLatin1_aae02 1 (some .boolean) 1 (FJ0_isLatin1_aae02 i σ) σ [.ref (114 + i)] := by
  refine MC.i (by decide +kernel) (Nat.le_of_ble_eq_true rfl) ?_
  show VF (KJ0_isLatin1_aae02) cJ0_isLatin1_aae02 RJ0 (FJ0_isLatin1_aae02 i σ) σ 0 [(0, .ref (114 + i))] []
  unfold FJ0_isLatin1_aae02
  refine v_compact dJ0_isLatin1_aae02_0 flJ0_38 ?_
  refine v_if_eq (tgt := 17) dJ0_isLatin1_aae02_3 (by decide) ?_ ?_
  · refine v_iconst dJ0_isLatin1_aae02_17 ki_0 ?_
    exact v_iret (ty := .boolean) dJ0_isLatin1_aae02_18 rfl rfl rfl
  · refine v_aload_n dJ0_isLatin1_aae02_6 0 rfl rfl ?_
    refine v_strC dJ0_isLatin1_aae02_7 hi flJ0_15 ?_
    refine v_if_ne (tgt := 17) dJ0_isLatin1_aae02_10 (by decide) ?_ ?_
    · refine v_iconst dJ0_isLatin1_aae02_17 ki_0 ?_
      exact v_iret (ty := .boolean) dJ0_isLatin1_aae02_18 rfl rfl rfl
    · refine v_iconst dJ0_isLatin1_aae02_13 ki_1 ?_
      refine v_goto (tgt := 18) dJ0_isLatin1_aae02_14 (by decide) ?_
      exact v_iret (ty := .boolean) dJ0_isLatin1_aae02_18 rfl rfl rfl
theorem dJ3_checkIndex_8e157_0 : decode cJ3_checkIndex_8e157 0 = .ok (.iload_n 0, 1) := by decide +kernel
theorem dJ3_checkIndex_8e157_1 : decode cJ3_checkIndex_8e157 1 = .ok (.ifCond .lt 8, 3) := by decide +kernel
theorem dJ3_checkIndex_8e157_4 : decode cJ3_checkIndex_8e157 4 = .ok (.iload_n 0, 1) := by decide +kernel
theorem dJ3_checkIndex_8e157_5 : decode cJ3_checkIndex_8e157 5 = .ok (.iload_n 1, 1) := by decide +kernel
theorem dJ3_checkIndex_8e157_6 : decode cJ3_checkIndex_8e157 6 = .ok (.if_icmp .lt 10, 3) := by decide +kernel
theorem dJ3_checkIndex_8e157_16 : decode cJ3_checkIndex_8e157 16 = .ok (.iload_n 0, 1) := by decide +kernel
theorem dJ3_checkIndex_8e157_17 : decode cJ3_checkIndex_8e157 17 = .ok (.ireturn, 1) := by decide +kernel
abbrev KJ3_checkIndex_8e157 : CK Int32 := (enI, (some .int), 3, 1, none)
noncomputable def FJ3_checkIndex_8e157 (p0 : Int32) (p1 : Int32) (σ : Ms) : Option (Int32 × Ms) :=
  if p0 < 0 then (none)
  else (if p0 < p1 then (some (p0, σ))
  else (none))
set_option maxRecDepth 100000 in
theorem mcJ3_checkIndex_8e157 (p0 : Int32) (p1 : Int32) (v : Value) (hv : v.category = 1) (σ : Ms) : MC enI yJ3_checkIndex_8e157 cJ3_checkIndex_8e157 3 (some .int) 1 (FJ3_checkIndex_8e157 p0 p1 σ) σ [.int p0, .int p1, v] := by
  refine MC.i (by decide +kernel) (by cases v <;> first | (cases hv; done) | exact Nat.le_of_ble_eq_true rfl) ?_
  show VF (KJ3_checkIndex_8e157) cJ3_checkIndex_8e157 RJ3 (FJ3_checkIndex_8e157 p0 p1 σ) σ 0 [(0, .int p0), (1, .int p1), (2, v)] []
  unfold FJ3_checkIndex_8e157
  refine v_iload_n dJ3_checkIndex_8e157_0 0 rfl rfl ?_
  refine v_if_lt (tgt := 9) dJ3_checkIndex_8e157_1 (by decide) ?_ ?_
  · exact v_none
  · refine v_iload_n dJ3_checkIndex_8e157_4 0 rfl rfl ?_
    refine v_iload_n dJ3_checkIndex_8e157_5 1 rfl rfl ?_
    refine v_icmp_lt (tgt := 16) dJ3_checkIndex_8e157_6 (by decide) ?_ ?_
    · refine v_iload_n dJ3_checkIndex_8e157_16 0 rfl rfl ?_
      exact v_iret dJ3_checkIndex_8e157_17 rfl rfl rfl
    · exact v_none
theorem dJ0_checkIndex_df160_0 : decode cJ0_checkIndex_df160 0 = .ok (.iload_n 0, 1) := by decide +kernel
theorem dJ0_checkIndex_df160_1 : decode cJ0_checkIndex_df160 1 = .ok (.iload_n 1, 1) := by decide +kernel
theorem dJ0_checkIndex_df160_2 : decode cJ0_checkIndex_df160 2 = .ok (.getstatic 1053, 3) := by decide +kernel
theorem dJ0_checkIndex_df160_5 : decode cJ0_checkIndex_df160 5 = .ok (.invokestatic 1059, 3) := by decide +kernel
theorem dJ0_checkIndex_df160_8 : decode cJ0_checkIndex_df160 8 = .ok (.pop, 1) := by decide +kernel
theorem dJ0_checkIndex_df160_9 : decode cJ0_checkIndex_df160 9 = .ok (.return_, 1) := by decide +kernel
abbrev KJ0_checkIndex_df160 : CK Unit := (enV, none, 2, 2, none)
noncomputable def FJ0_checkIndex_df160 (p0 : Int32) (p1 : Int32) (σ : Ms) : Option (Unit × Ms) :=
  bn (FJ3_checkIndex_8e157 p0 p1 σ) (fun r1 t2 => some ((), t2))
set_option maxRecDepth 100000 in
theorem mcJ0_checkIndex_df160 (p0 : Int32) (p1 : Int32) (σ : Ms) : MC enV yJ0_checkIndex_df160 cJ0_checkIndex_df160 2 none 2 (FJ0_checkIndex_df160 p0 p1 σ) σ [.int p0, .int p1] := by
  refine MC.v (by decide +kernel) (Nat.le_of_ble_eq_true rfl) ?_
  show VF (KJ0_checkIndex_df160) cJ0_checkIndex_df160 RJ0 (FJ0_checkIndex_df160 p0 p1 σ) σ 0 [(0, .int p0), (1, .int p1)] []
  unfold FJ0_checkIndex_df160
  refine v_iload_n dJ0_checkIndex_df160_0 0 rfl rfl ?_
  refine v_iload_n dJ0_checkIndex_df160_1 1 rfl rfl ?_
  refine v_sio dJ0_checkIndex_df160_2 flJ0_1053 ?_ ?_
  · refine v_callS3i dJ0_checkIndex_df160_5 (mcJ3_checkIndex_8e157 p0 p1 (.null) rfl σ) ysJ3_checkIndex_8e157 mlJ0_1059 (by decide) (Nat.le_of_ble_eq_true rfl) fun r1 t2 => ?_
    refine v_pop dJ0_checkIndex_df160_8 rfl ?_
    exact v_vret dJ0_checkIndex_df160_9 rfl
  · refine v_callS3i dJ0_checkIndex_df160_5 (mcJ3_checkIndex_8e157 p0 p1 (.ref 158) rfl σ) ysJ3_checkIndex_8e157 mlJ0_1059 (by decide) (Nat.le_of_ble_eq_true rfl) fun r1 t2 => ?_
    refine v_pop dJ0_checkIndex_df160_8 rfl ?_
    exact v_vret dJ0_checkIndex_df160_9 rfl
theorem dJ1_charAt_3b067_0 : decode cJ1_charAt_3b067 0 = .ok (.iload_n 1, 1) := by decide +kernel
theorem dJ1_charAt_3b067_1 : decode cJ1_charAt_3b067 1 = .ok (.aload_n 0, 1) := by decide +kernel
theorem dJ1_charAt_3b067_2 : decode cJ1_charAt_3b067 2 = .ok (.arraylength, 1) := by decide +kernel
theorem dJ1_charAt_3b067_3 : decode cJ1_charAt_3b067 3 = .ok (.invokestatic 9, 3) := by decide +kernel
theorem dJ1_charAt_3b067_6 : decode cJ1_charAt_3b067 6 = .ok (.aload_n 0, 1) := by decide +kernel
theorem dJ1_charAt_3b067_7 : decode cJ1_charAt_3b067 7 = .ok (.iload_n 1, 1) := by decide +kernel
theorem dJ1_charAt_3b067_8 : decode cJ1_charAt_3b067 8 = .ok (.baload, 1) := by decide +kernel
theorem dJ1_charAt_3b067_9 : decode cJ1_charAt_3b067 9 = .ok (.sipush 255, 3) := by decide +kernel
theorem dJ1_charAt_3b067_12 : decode cJ1_charAt_3b067 12 = .ok (.iand, 1) := by decide +kernel
theorem dJ1_charAt_3b067_13 : decode cJ1_charAt_3b067 13 = .ok (.i2c, 1) := by decide +kernel
theorem dJ1_charAt_3b067_14 : decode cJ1_charAt_3b067 14 = .ok (.ireturn, 1) := by decide +kernel
abbrev KJ1_charAt_3b067 : CK Int32 := (enI, (some .char), 2, 3, none)
noncomputable def FJ1_charAt_3b067 (i : Nat) (p1 : Int32) (σ : Ms) : Option (Int32 × Ms) :=
  bn (FJ0_checkIndex_df160 p1 (nI (strN.getD i 0)) σ) (fun r1 t2 => ck (ixb p1 (strN.getD i 0)) (ck (nkC ((((strB.getD i []).getD p1.toNatClampNeg 0) &&& (255 : Int32)).toUInt32 % 65536).toInt32) (some (((((strB.getD i []).getD p1.toNatClampNeg 0) &&& (255 : Int32)).toUInt32 % 65536).toInt32, t2))))
set_option maxRecDepth 100000 in
theorem mcJ1_charAt_3b067 (i : Nat) (hi : i < NS) (p1 : Int32) (σ : Ms) : MC enI yJ1_charAt_3b067 cJ1_charAt_3b067 2 (some .char) 3 (FJ1_charAt_3b067 i p1 σ) σ [.ref (136 + i), .int p1] := by
  refine MC.i (by decide +kernel) (Nat.le_of_ble_eq_true rfl) ?_
  show VF (KJ1_charAt_3b067) cJ1_charAt_3b067 RJ1 (FJ1_charAt_3b067 i p1 σ) σ 0 [(0, .ref (136 + i)), (1, .int p1)] []
  unfold FJ1_charAt_3b067
  refine v_iload_n dJ1_charAt_3b067_0 1 rfl rfl ?_
  refine v_aload_n dJ1_charAt_3b067_1 0 rfl rfl ?_
  refine v_salen dJ1_charAt_3b067_2 hi ?_
  refine v_callS2v dJ1_charAt_3b067_3 (mcJ0_checkIndex_df160 p1 (nI (strN.getD i 0)) σ) ysJ0_checkIndex_df160 mlJ1_9 (by decide) (Nat.le_of_ble_eq_true rfl) fun r1 t2 => ?_
  refine v_aload_n dJ1_charAt_3b067_6 0 rfl rfl ?_
  refine v_iload_n dJ1_charAt_3b067_7 1 rfl rfl ?_
  refine v_sbald dJ1_charAt_3b067_8 hi ?_
  refine v_sipush dJ1_charAt_3b067_9 ks_255 ?_
  refine v_iand dJ1_charAt_3b067_12 ?_
  refine v_i2c dJ1_charAt_3b067_13 ?_
  exact v_iretC dJ1_charAt_3b067_14 rfl rfl
theorem dJ0_charAt_5068e_0 : decode cJ0_charAt_5068e 0 = .ok (.aload_n 0, 1) := by decide +kernel
theorem dJ0_charAt_5068e_1 : decode cJ0_charAt_5068e 1 = .ok (.invokevirtual 492, 3) := by decide +kernel
theorem dJ0_charAt_5068e_4 : decode cJ0_charAt_5068e 4 = .ok (.ifCond .eq 12, 3) := by decide +kernel
theorem dJ0_charAt_5068e_7 : decode cJ0_charAt_5068e 7 = .ok (.aload_n 0, 1) := by decide +kernel
theorem dJ0_charAt_5068e_8 : decode cJ0_charAt_5068e 8 = .ok (.getfield 9, 3) := by decide +kernel
theorem dJ0_charAt_5068e_11 : decode cJ0_charAt_5068e 11 = .ok (.iload_n 1, 1) := by decide +kernel
theorem dJ0_charAt_5068e_12 : decode cJ0_charAt_5068e 12 = .ok (.invokestatic 495, 3) := by decide +kernel
theorem dJ0_charAt_5068e_15 : decode cJ0_charAt_5068e 15 = .ok (.ireturn, 1) := by decide +kernel
abbrev KJ0_charAt_5068e : CK Int32 := (enI, (some .char), 2, 4, none)
noncomputable def FJ0_charAt_5068e (i : Nat) (p0 : Int32) (σ : Ms) : Option (Int32 × Ms) :=
  bn (FJ0_isLatin1_aae02 i σ) (fun r1 t2 => if r1 = 0 then (none)
  else (bn (FJ1_charAt_3b067 i p0 t2) (fun r3 t4 => ck (nkC r3) (some (r3, t4)))))
set_option maxRecDepth 100000 in
theorem mcJ0_charAt_5068e (i : Nat) (hi : i < NS) (p0 : Int32) (σ : Ms) : MC enI yJ0_charAt_5068e cJ0_charAt_5068e 2 (some .char) 4 (FJ0_charAt_5068e i p0 σ) σ [.ref (114 + i), .int p0] := by
  refine MC.i (by decide +kernel) (Nat.le_of_ble_eq_true rfl) ?_
  show VF (KJ0_charAt_5068e) cJ0_charAt_5068e RJ0 (FJ0_charAt_5068e i p0 σ) σ 0 [(0, .ref (114 + i)), (1, .int p0)] []
  unfold FJ0_charAt_5068e
  refine v_aload_n dJ0_charAt_5068e_0 0 rfl rfl ?_
  refine v_callV0i dJ0_charAt_5068e_1 (mcJ0_isLatin1_aae02 i hi σ) yvJ0_isLatin1_aae02 mlJ0_492 (Recv.str hi) (by decide) (Nat.le_of_ble_eq_true rfl) fun r1 t2 => ?_
  refine v_if_eq (tgt := 16) dJ0_charAt_5068e_4 (by decide) ?_ ?_
  · exact v_none
  · refine v_aload_n dJ0_charAt_5068e_7 0 rfl rfl ?_
    refine v_strV dJ0_charAt_5068e_8 hi flJ0_9 ?_
    refine v_iload_n dJ0_charAt_5068e_11 1 rfl rfl ?_
    refine v_callS2i dJ0_charAt_5068e_12 (mcJ1_charAt_3b067 i hi p0 t2) ysJ1_charAt_3b067 mlJ0_495 (by decide) (Nat.le_of_ble_eq_true rfl) fun r3 t4 => ?_
    exact v_iretC dJ0_charAt_5068e_15 rfl rfl
theorem d8_isWord_0 : decode cX8_isWord 0 = .ok (.aload_n 0, 1) := by decide +kernel
theorem d8_isWord_1 : decode cX8_isWord 1 = .ok (.getfield 28, 3) := by decide +kernel
theorem d8_isWord_4 : decode cX8_isWord 4 = .ok (.iconst 1, 1) := by decide +kernel
theorem d8_isWord_5 : decode cX8_isWord 5 = .ok (.if_icmp .ne 19, 3) := by decide +kernel
theorem d8_isWord_8 : decode cX8_isWord 8 = .ok (.aload_n 0, 1) := by decide +kernel
theorem d8_isWord_9 : decode cX8_isWord 9 = .ok (.getfield 34, 3) := by decide +kernel
theorem d8_isWord_12 : decode cX8_isWord 12 = .ok (.aload_n 0, 1) := by decide +kernel
theorem d8_isWord_13 : decode cX8_isWord 13 = .ok (.getfield 31, 3) := by decide +kernel
theorem d8_isWord_16 : decode cX8_isWord 16 = .ok (.isub, 1) := by decide +kernel
theorem d8_isWord_17 : decode cX8_isWord 17 = .ok (.aload_n 1, 1) := by decide +kernel
theorem d8_isWord_18 : decode cX8_isWord 18 = .ok (.invokevirtual 75, 3) := by decide +kernel
theorem d8_isWord_21 : decode cX8_isWord 21 = .ok (.if_icmp .eq 5, 3) := by decide +kernel
theorem d8_isWord_24 : decode cX8_isWord 24 = .ok (.iconst 0, 1) := by decide +kernel
theorem d8_isWord_25 : decode cX8_isWord 25 = .ok (.ireturn, 1) := by decide +kernel
theorem d8_isWord_26 : decode cX8_isWord 26 = .ok (.iconst 0, 1) := by decide +kernel
theorem d8_isWord_27 : decode cX8_isWord 27 = .ok (.istore_n 2, 1) := by decide +kernel
theorem d8_isWord_28 : decode cX8_isWord 28 = .ok (.iload_n 2, 1) := by decide +kernel
theorem d8_isWord_29 : decode cX8_isWord 29 = .ok (.aload_n 1, 1) := by decide +kernel
theorem d8_isWord_30 : decode cX8_isWord 30 = .ok (.invokevirtual 75, 3) := by decide +kernel
theorem d8_isWord_33 : decode cX8_isWord 33 = .ok (.if_icmp .ge 29, 3) := by decide +kernel
theorem d8_isWord_36 : decode cX8_isWord 36 = .ok (.aload_n 0, 1) := by decide +kernel
theorem d8_isWord_37 : decode cX8_isWord 37 = .ok (.aload_n 0, 1) := by decide +kernel
theorem d8_isWord_38 : decode cX8_isWord 38 = .ok (.getfield 31, 3) := by decide +kernel
theorem d8_isWord_41 : decode cX8_isWord 41 = .ok (.iload_n 2, 1) := by decide +kernel
theorem d8_isWord_42 : decode cX8_isWord 42 = .ok (.iadd, 1) := by decide +kernel
theorem d8_isWord_43 : decode cX8_isWord 43 = .ok (.invokevirtual 56, 3) := by decide +kernel
theorem d8_isWord_46 : decode cX8_isWord 46 = .ok (.aload_n 1, 1) := by decide +kernel
theorem d8_isWord_47 : decode cX8_isWord 47 = .ok (.iload_n 2, 1) := by decide +kernel
theorem d8_isWord_48 : decode cX8_isWord 48 = .ok (.invokevirtual 81, 3) := by decide +kernel
theorem d8_isWord_51 : decode cX8_isWord 51 = .ok (.if_icmp .eq 5, 3) := by decide +kernel
theorem d8_isWord_54 : decode cX8_isWord 54 = .ok (.iconst 0, 1) := by decide +kernel
theorem d8_isWord_55 : decode cX8_isWord 55 = .ok (.ireturn, 1) := by decide +kernel
theorem d8_isWord_56 : decode cX8_isWord 56 = .ok (.iinc 2 1, 3) := by decide +kernel
theorem d8_isWord_59 : decode cX8_isWord 59 = .ok (.goto (-31), 3) := by decide +kernel
theorem d8_isWord_62 : decode cX8_isWord 62 = .ok (.iconst 1, 1) := by decide +kernel
theorem d8_isWord_63 : decode cX8_isWord 63 = .ok (.ireturn, 1) := by decide +kernel
abbrev K8_isWord : CK Int32 := (enI, (some .boolean), 3, 5, none)
noncomputable def F8_isWord_b28B (N : Nat) (i : Nat) (k28 : Int32 × Ms → Option (Int32 × Ms)) (l2 : Int32) (σ : Ms) : Option (Int32 × Ms) :=
  bn (FJ0_length_8abf5 i σ) (fun r1 t2 => if r1 ≤ l2 then (some ((1 : Int32), t2))
  else (bn (F8_charAt ((t2.1 20 6) + l2) t2) (fun r3 t4 => bn (FJ0_charAt_5068e i l2 t4) (fun r5 t6 => if r3 = r5 then (k28 ((l2 + (1 : Int32)), t6))
  else (some ((0 : Int32), t6))))))
noncomputable def F8_isWord_b28 (N : Nat) (i : Nat) (l2 : Int32) (σ : Ms) : Option (Int32 × Ms) :=
  fx N (fun k x => F8_isWord_b28B N i k x.1 x.2) (l2, σ)
noncomputable def F8_isWord (N : Nat) (i : Nat) (σ : Ms) : Option (Int32 × Ms) :=
  if (σ.1 20 5) ≠ (1 : Int32) then (some ((0 : Int32), σ))
  else (bn (FJ0_length_8abf5 i σ) (fun r7 t8 => if ((σ.1 20 7) - (σ.1 20 6)) = r7 then (F8_isWord_b28 N i (0 : Int32) t8)
  else (some ((0 : Int32), t8))))
set_option maxRecDepth 100000 in
theorem v8_isWord_b28B (N : Nat) (i : Nat) (hi : i < NS) (k28 : Int32 × Ms → Option (Int32 × Ms)) (hk28 : ∀ (l2 : Int32) (τ : Ms), VF (K8_isWord) cX8_isWord RX8 (k28 (l2, τ)) τ 28 [(0, .ref 20), (1, .ref (114 + i)), (2, .int l2)] []) (l2 : Int32) (σ : Ms) : VF (K8_isWord) cX8_isWord RX8 (F8_isWord_b28B N i k28 l2 σ) σ 28 [(0, .ref 20), (1, .ref (114 + i)), (2, .int l2)] [] := by
  unfold F8_isWord_b28B
  refine v_iload_n d8_isWord_28 2 rfl rfl ?_
  refine v_aload_n d8_isWord_29 1 rfl rfl ?_
  refine v_callV0i d8_isWord_30 (mcJ0_length_8abf5 i hi σ) yvJ0_length_8abf5 mlX8_75 (Recv.str hi) (by decide) (Nat.le_of_ble_eq_true rfl) fun r1 t2 => ?_
  refine v_icmp_ge (tgt := 62) d8_isWord_33 (by decide) ?_ ?_
  · refine v_iconst d8_isWord_62 ki_1 ?_
    exact v_iret (ty := .boolean) d8_isWord_63 rfl rfl rfl
  · refine v_aload_n d8_isWord_36 0 rfl rfl ?_
    refine v_aload_n d8_isWord_37 0 rfl rfl ?_
    refine v_getI d8_isWord_38 faX8_31 ic_20 ?_
    refine v_iload_n d8_isWord_41 2 rfl rfl ?_
    refine v_iadd d8_isWord_42 ?_
    refine v_callV1i d8_isWord_43 (mc8_charAt ((t2.1 20 6) + l2) t2) yv8_charAt mlX8_56 (Recv.obj ic_20 rfl) (by decide) (Nat.le_of_ble_eq_true rfl) fun r3 t4 => ?_
    refine v_aload_n d8_isWord_46 1 rfl rfl ?_
    refine v_iload_n d8_isWord_47 2 rfl rfl ?_
    refine v_callV1i d8_isWord_48 (mcJ0_charAt_5068e i hi l2 t4) yvJ0_charAt_5068e mlX8_81 (Recv.str hi) (by decide) (Nat.le_of_ble_eq_true rfl) fun r5 t6 => ?_
    refine v_icmp_eq (tgt := 56) d8_isWord_51 (by decide) ?_ ?_
    · refine v_iinc (lv' := [(2, .int (l2 + (1 : Int32))), (0, .ref 20), (1, .ref (114 + i))]) d8_isWord_56 2 rfl (by rw [ki_1]) (by decide) rfl ?_
      refine v_goto (tgt := 28) d8_isWord_59 (by decide) ?_
      refine v_sub [1, 2, 0] rfl ?_
      exact hk28 (l2 + (1 : Int32)) t6
    · refine v_iconst d8_isWord_54 ki_0 ?_
      exact v_iret (ty := .boolean) d8_isWord_55 rfl rfl rfl
theorem v8_isWord_b28 (N : Nat) (i : Nat) (hi : i < NS) (l2 : Int32) (σ : Ms) : VF (K8_isWord) cX8_isWord RX8 (F8_isWord_b28 N i l2 σ) σ 28 [(0, .ref 20), (1, .ref (114 + i)), (2, .int l2)] [] := v_fx (σo := fun x => x.2) (lo := fun x => [(0, .ref 20), (1, .ref (114 + i)), (2, .int x.1)]) (fun k hk x => v8_isWord_b28B N i hi k (fun l2 τ => hk (l2, τ)) x.1 x.2) N (l2, σ)
set_option maxRecDepth 100000 in
theorem mc8_isWord (N : Nat) (i : Nat) (hi : i < NS) (σ : Ms) : MC enI yX8_isWord cX8_isWord 3 (some .boolean) 5 (F8_isWord N i σ) σ [.ref 20, .ref (114 + i)] := by
  refine MC.i (by decide +kernel) (Nat.le_of_ble_eq_true rfl) ?_
  show VF (K8_isWord) cX8_isWord RX8 (F8_isWord N i σ) σ 0 [(0, .ref 20), (1, .ref (114 + i))] []
  unfold F8_isWord
  refine v_aload_n d8_isWord_0 0 rfl rfl ?_
  refine v_getI d8_isWord_1 faX8_28 ic_20 ?_
  refine v_iconst d8_isWord_4 ki_1 ?_
  refine v_icmp_ne (tgt := 24) d8_isWord_5 (by decide) ?_ ?_
  · refine v_iconst d8_isWord_24 ki_0 ?_
    exact v_iret (ty := .boolean) d8_isWord_25 rfl rfl rfl
  · refine v_aload_n d8_isWord_8 0 rfl rfl ?_
    refine v_getI d8_isWord_9 faX8_34 ic_20 ?_
    refine v_aload_n d8_isWord_12 0 rfl rfl ?_
    refine v_getI d8_isWord_13 faX8_31 ic_20 ?_
    refine v_isub d8_isWord_16 ?_
    refine v_aload_n d8_isWord_17 1 rfl rfl ?_
    refine v_callV0i d8_isWord_18 (mcJ0_length_8abf5 i hi σ) yvJ0_length_8abf5 mlX8_75 (Recv.str hi) (by decide) (Nat.le_of_ble_eq_true rfl) fun r7 t8 => ?_
    refine v_icmp_eq (tgt := 26) d8_isWord_21 (by decide) ?_ ?_
    · refine v_iconst d8_isWord_26 ki_0 ?_
      refine v_istore_n (lv' := [(2, .int (0 : Int32)), (0, .ref 20), (1, .ref (114 + i))]) d8_isWord_27 rfl (by decide) rfl ?_
      refine v_sub [1, 2, 0] rfl ?_
      exact v8_isWord_b28 N i hi (0 : Int32) t8
    · refine v_iconst d8_isWord_24 ki_0 ?_
      exact v_iret (ty := .boolean) d8_isWord_25 rfl rfl rfl
theorem d8_refuse_0 : decode cX8_refuse 0 = .ok (.aload_n 0, 1) := by decide +kernel
theorem d8_refuse_1 : decode cX8_refuse 1 = .ok (.getfield 19, 3) := by decide +kernel
theorem d8_refuse_4 : decode cX8_refuse 4 = .ok (.ifCond .eq 4, 3) := by decide +kernel
theorem d8_refuse_7 : decode cX8_refuse 7 = .ok (.return_, 1) := by decide +kernel
theorem d8_refuse_8 : decode cX8_refuse 8 = .ok (.aload_n 0, 1) := by decide +kernel
theorem d8_refuse_9 : decode cX8_refuse 9 = .ok (.aload_n 0, 1) := by decide +kernel
theorem d8_refuse_10 : decode cX8_refuse 10 = .ok (.getfield 28, 3) := by decide +kernel
theorem d8_refuse_13 : decode cX8_refuse 13 = .ok (.iconst 4, 1) := by decide +kernel
theorem d8_refuse_14 : decode cX8_refuse 14 = .ok (.if_icmp .ne 7, 3) := by decide +kernel
theorem d8_refuse_17 : decode cX8_refuse 17 = .ok (.iconst 1, 1) := by decide +kernel
theorem d8_refuse_18 : decode cX8_refuse 18 = .ok (.goto 4, 3) := by decide +kernel
theorem d8_refuse_21 : decode cX8_refuse 21 = .ok (.iload_n 1, 1) := by decide +kernel
theorem d8_refuse_22 : decode cX8_refuse 22 = .ok (.putfield 19, 3) := by decide +kernel
theorem d8_refuse_25 : decode cX8_refuse 25 = .ok (.aload_n 0, 1) := by decide +kernel
theorem d8_refuse_26 : decode cX8_refuse 26 = .ok (.aload_n 0, 1) := by decide +kernel
theorem d8_refuse_27 : decode cX8_refuse 27 = .ok (.getfield 31, 3) := by decide +kernel
theorem d8_refuse_30 : decode cX8_refuse 30 = .ok (.putfield 22, 3) := by decide +kernel
theorem d8_refuse_33 : decode cX8_refuse 33 = .ok (.return_, 1) := by decide +kernel
abbrev K8_refuse : CK Unit := (enV, none, 2, 1, none)
noncomputable def F8_refuse_b22 (s1 : Int32) (σ : Ms) : Option (Unit × Ms) :=
  lt (sI σ 20 2 s1) (fun t1 => lt (sI t1 20 3 (t1.1 20 6)) (fun t2 => some ((), t2)))
noncomputable def F8_refuse (p0 : Int32) (σ : Ms) : Option (Unit × Ms) :=
  if (σ.1 20 2) = 0 then (if (σ.1 20 5) ≠ (4 : Int32) then (F8_refuse_b22 p0 σ)
  else (F8_refuse_b22 (1 : Int32) σ))
  else (some ((), σ))
set_option maxRecDepth 100000 in
theorem v8_refuse_b22 (s1 : Int32) (σ : Ms) : VF (K8_refuse) cX8_refuse RX8 (F8_refuse_b22 s1 σ) σ 22 [(0, .ref 20)] [.int s1, .ref 20] := by
  unfold F8_refuse_b22
  refine v_putI d8_refuse_22 faX8_19 fp5_2 ic_20 ?_
  refine v_lts fun t1 => ?_
  refine v_aload_n d8_refuse_25 0 rfl rfl ?_
  refine v_aload_n d8_refuse_26 0 rfl rfl ?_
  refine v_getI d8_refuse_27 faX8_31 ic_20 ?_
  refine v_putI d8_refuse_30 faX8_22 fp5_3 ic_20 ?_
  refine v_lts fun t2 => ?_
  exact v_vret d8_refuse_33 rfl
set_option maxRecDepth 100000 in
theorem mc8_refuse (p0 : Int32) (σ : Ms) : MC enV yX8_refuse cX8_refuse 2 none 1 (F8_refuse p0 σ) σ [.ref 20, .int p0] := by
  refine MC.v (by decide +kernel) (Nat.le_of_ble_eq_true rfl) ?_
  show VF (K8_refuse) cX8_refuse RX8 (F8_refuse p0 σ) σ 0 [(0, .ref 20), (1, .int p0)] []
  unfold F8_refuse
  refine v_aload_n d8_refuse_0 0 rfl rfl ?_
  refine v_getI d8_refuse_1 faX8_19 ic_20 ?_
  refine v_if_eq (tgt := 8) d8_refuse_4 (by decide) ?_ ?_
  · refine v_aload_n d8_refuse_8 0 rfl rfl ?_
    refine v_aload_n d8_refuse_9 0 rfl rfl ?_
    refine v_getI d8_refuse_10 faX8_28 ic_20 ?_
    refine v_iconst d8_refuse_13 ki_4 ?_
    refine v_icmp_ne (tgt := 21) d8_refuse_14 (by decide) ?_ ?_
    · refine v_iload_n d8_refuse_21 1 rfl rfl ?_
      refine v_sub [0] rfl ?_
      exact v8_refuse_b22 p0 σ
    · refine v_iconst d8_refuse_17 ki_1 ?_
      refine v_goto (tgt := 22) d8_refuse_18 (by decide) ?_
      refine v_sub [0] rfl ?_
      exact v8_refuse_b22 (1 : Int32) σ
  · exact v_vret d8_refuse_7 rfl
theorem d8_isBlank_0 : decode cX8_isBlank 0 = .ok (.iload_n 0, 1) := by decide +kernel
theorem d8_isBlank_1 : decode cX8_isBlank 1 = .ok (.bipush 10, 2) := by decide +kernel
theorem d8_isBlank_3 : decode cX8_isBlank 3 = .ok (.if_icmp .eq 9, 3) := by decide +kernel
theorem d8_isBlank_6 : decode cX8_isBlank 6 = .ok (.iload_n 0, 1) := by decide +kernel
theorem d8_isBlank_7 : decode cX8_isBlank 7 = .ok (.bipush 32, 2) := by decide +kernel
theorem d8_isBlank_9 : decode cX8_isBlank 9 = .ok (.if_icmp .ne 7, 3) := by decide +kernel
theorem d8_isBlank_12 : decode cX8_isBlank 12 = .ok (.iconst 1, 1) := by decide +kernel
theorem d8_isBlank_13 : decode cX8_isBlank 13 = .ok (.goto 4, 3) := by decide +kernel
theorem d8_isBlank_16 : decode cX8_isBlank 16 = .ok (.iconst 0, 1) := by decide +kernel
theorem d8_isBlank_17 : decode cX8_isBlank 17 = .ok (.ireturn, 1) := by decide +kernel
abbrev K8_isBlank : CK Int32 := (enI, (some .boolean), 1, 1, none)
noncomputable def F8_isBlank_b12 (σ : Ms) : Option (Int32 × Ms) :=
  some ((1 : Int32), σ)
noncomputable def F8_isBlank (p0 : Int32) (σ : Ms) : Option (Int32 × Ms) :=
  if p0 = (10 : Int32) then (F8_isBlank_b12 σ)
  else (if p0 ≠ (32 : Int32) then (some ((0 : Int32), σ))
  else (F8_isBlank_b12 σ))
set_option maxRecDepth 100000 in
theorem v8_isBlank_b12 (σ : Ms) : VF (K8_isBlank) cX8_isBlank RX8 (F8_isBlank_b12 σ) σ 12 [] [] := by
  unfold F8_isBlank_b12
  refine v_iconst d8_isBlank_12 ki_1 ?_
  refine v_goto (tgt := 17) d8_isBlank_13 (by decide) ?_
  exact v_iret (ty := .boolean) d8_isBlank_17 rfl rfl rfl
set_option maxRecDepth 100000 in
theorem mc8_isBlank (p0 : Int32) (σ : Ms) : MC enI yX8_isBlank cX8_isBlank 1 (some .boolean) 1 (F8_isBlank p0 σ) σ [.int p0] := by
  refine MC.i (by decide +kernel) (Nat.le_of_ble_eq_true rfl) ?_
  show VF (K8_isBlank) cX8_isBlank RX8 (F8_isBlank p0 σ) σ 0 [(0, .int p0)] []
  unfold F8_isBlank
  refine v_iload_n d8_isBlank_0 0 rfl rfl ?_
  refine v_bipush d8_isBlank_1 kb_10 ?_
  refine v_icmp_eq (tgt := 12) d8_isBlank_3 (by decide) ?_ ?_
  · refine v_sub [] rfl ?_
    exact v8_isBlank_b12 σ
  · refine v_iload_n d8_isBlank_6 0 rfl rfl ?_
    refine v_bipush d8_isBlank_7 kb_32 ?_
    refine v_icmp_ne (tgt := 16) d8_isBlank_9 (by decide) ?_ ?_
    · refine v_iconst d8_isBlank_16 ki_0 ?_
      exact v_iret (ty := .boolean) d8_isBlank_17 rfl rfl rfl
    · refine v_sub [] rfl ?_
      exact v8_isBlank_b12 σ
theorem d8_isLetter_0 : decode cX8_isLetter 0 = .ok (.iload_n 0, 1) := by decide +kernel
theorem d8_isLetter_1 : decode cX8_isLetter 1 = .ok (.bipush 97, 2) := by decide +kernel
theorem d8_isLetter_3 : decode cX8_isLetter 3 = .ok (.if_icmp .lt 13, 3) := by decide +kernel
theorem d8_isLetter_6 : decode cX8_isLetter 6 = .ok (.iload_n 0, 1) := by decide +kernel
theorem d8_isLetter_7 : decode cX8_isLetter 7 = .ok (.bipush 122, 2) := by decide +kernel
theorem d8_isLetter_9 : decode cX8_isLetter 9 = .ok (.if_icmp .gt 7, 3) := by decide +kernel
theorem d8_isLetter_12 : decode cX8_isLetter 12 = .ok (.iconst 1, 1) := by decide +kernel
theorem d8_isLetter_13 : decode cX8_isLetter 13 = .ok (.goto 4, 3) := by decide +kernel
theorem d8_isLetter_16 : decode cX8_isLetter 16 = .ok (.iconst 0, 1) := by decide +kernel
theorem d8_isLetter_17 : decode cX8_isLetter 17 = .ok (.ireturn, 1) := by decide +kernel
abbrev K8_isLetter : CK Int32 := (enI, (some .boolean), 1, 1, none)
noncomputable def F8_isLetter (p0 : Int32) (σ : Ms) : Option (Int32 × Ms) :=
  if p0 < (97 : Int32) then (some ((0 : Int32), σ))
  else (if (122 : Int32) < p0 then (some ((0 : Int32), σ))
  else (some ((1 : Int32), σ)))
set_option maxRecDepth 100000 in
theorem mc8_isLetter (p0 : Int32) (σ : Ms) : MC enI yX8_isLetter cX8_isLetter 1 (some .boolean) 1 (F8_isLetter p0 σ) σ [.int p0] := by
  refine MC.i (by decide +kernel) (Nat.le_of_ble_eq_true rfl) ?_
  show VF (K8_isLetter) cX8_isLetter RX8 (F8_isLetter p0 σ) σ 0 [(0, .int p0)] []
  unfold F8_isLetter
  refine v_iload_n d8_isLetter_0 0 rfl rfl ?_
  refine v_bipush d8_isLetter_1 kb_97 ?_
  refine v_icmp_lt (tgt := 16) d8_isLetter_3 (by decide) ?_ ?_
  · refine v_iconst d8_isLetter_16 ki_0 ?_
    exact v_iret (ty := .boolean) d8_isLetter_17 rfl rfl rfl
  · refine v_iload_n d8_isLetter_6 0 rfl rfl ?_
    refine v_bipush d8_isLetter_7 kb_122 ?_
    refine v_icmp_gt (tgt := 16) d8_isLetter_9 (by decide) ?_ ?_
    · refine v_iconst d8_isLetter_16 ki_0 ?_
      exact v_iret (ty := .boolean) d8_isLetter_17 rfl rfl rfl
    · refine v_iconst d8_isLetter_12 ki_1 ?_
      refine v_goto (tgt := 17) d8_isLetter_13 (by decide) ?_
      exact v_iret (ty := .boolean) d8_isLetter_17 rfl rfl rfl
theorem d8_isDigit_0 : decode cX8_isDigit 0 = .ok (.iload_n 0, 1) := by decide +kernel
theorem d8_isDigit_1 : decode cX8_isDigit 1 = .ok (.bipush 48, 2) := by decide +kernel
theorem d8_isDigit_3 : decode cX8_isDigit 3 = .ok (.if_icmp .lt 13, 3) := by decide +kernel
theorem d8_isDigit_6 : decode cX8_isDigit 6 = .ok (.iload_n 0, 1) := by decide +kernel
theorem d8_isDigit_7 : decode cX8_isDigit 7 = .ok (.bipush 57, 2) := by decide +kernel
theorem d8_isDigit_9 : decode cX8_isDigit 9 = .ok (.if_icmp .gt 7, 3) := by decide +kernel
theorem d8_isDigit_12 : decode cX8_isDigit 12 = .ok (.iconst 1, 1) := by decide +kernel
theorem d8_isDigit_13 : decode cX8_isDigit 13 = .ok (.goto 4, 3) := by decide +kernel
theorem d8_isDigit_16 : decode cX8_isDigit 16 = .ok (.iconst 0, 1) := by decide +kernel
theorem d8_isDigit_17 : decode cX8_isDigit 17 = .ok (.ireturn, 1) := by decide +kernel
abbrev K8_isDigit : CK Int32 := (enI, (some .boolean), 1, 1, none)
noncomputable def F8_isDigit (p0 : Int32) (σ : Ms) : Option (Int32 × Ms) :=
  if p0 < (48 : Int32) then (some ((0 : Int32), σ))
  else (if (57 : Int32) < p0 then (some ((0 : Int32), σ))
  else (some ((1 : Int32), σ)))
set_option maxRecDepth 100000 in
theorem mc8_isDigit (p0 : Int32) (σ : Ms) : MC enI yX8_isDigit cX8_isDigit 1 (some .boolean) 1 (F8_isDigit p0 σ) σ [.int p0] := by
  refine MC.i (by decide +kernel) (Nat.le_of_ble_eq_true rfl) ?_
  show VF (K8_isDigit) cX8_isDigit RX8 (F8_isDigit p0 σ) σ 0 [(0, .int p0)] []
  unfold F8_isDigit
  refine v_iload_n d8_isDigit_0 0 rfl rfl ?_
  refine v_bipush d8_isDigit_1 kb_48 ?_
  refine v_icmp_lt (tgt := 16) d8_isDigit_3 (by decide) ?_ ?_
  · refine v_iconst d8_isDigit_16 ki_0 ?_
    exact v_iret (ty := .boolean) d8_isDigit_17 rfl rfl rfl
  · refine v_iload_n d8_isDigit_6 0 rfl rfl ?_
    refine v_bipush d8_isDigit_7 kb_57 ?_
    refine v_icmp_gt (tgt := 16) d8_isDigit_9 (by decide) ?_ ?_
    · refine v_iconst d8_isDigit_16 ki_0 ?_
      exact v_iret (ty := .boolean) d8_isDigit_17 rfl rfl rfl
    · refine v_iconst d8_isDigit_12 ki_1 ?_
      refine v_goto (tgt := 17) d8_isDigit_13 (by decide) ?_
      exact v_iret (ty := .boolean) d8_isDigit_17 rfl rfl rfl
theorem d8_readNumber_0 : decode cX8_readNumber 0 = .ok (.aload_n 0, 1) := by decide +kernel
theorem d8_readNumber_1 : decode cX8_readNumber 1 = .ok (.iconst 0, 1) := by decide +kernel
theorem d8_readNumber_2 : decode cX8_readNumber 2 = .ok (.putfield 37, 3) := by decide +kernel
theorem d8_readNumber_5 : decode cX8_readNumber 5 = .ok (.aload_n 0, 1) := by decide +kernel
theorem d8_readNumber_6 : decode cX8_readNumber 6 = .ok (.getfield 34, 3) := by decide +kernel
theorem d8_readNumber_9 : decode cX8_readNumber 9 = .ok (.aload_n 0, 1) := by decide +kernel
theorem d8_readNumber_10 : decode cX8_readNumber 10 = .ok (.getfield 25, 3) := by decide +kernel
theorem d8_readNumber_13 : decode cX8_readNumber 13 = .ok (.if_icmp .ge 66, 3) := by decide +kernel
theorem d8_readNumber_16 : decode cX8_readNumber 16 = .ok (.aload_n 0, 1) := by decide +kernel
theorem d8_readNumber_17 : decode cX8_readNumber 17 = .ok (.aload_n 0, 1) := by decide +kernel
theorem d8_readNumber_18 : decode cX8_readNumber 18 = .ok (.getfield 34, 3) := by decide +kernel
theorem d8_readNumber_21 : decode cX8_readNumber 21 = .ok (.invokevirtual 56, 3) := by decide +kernel
theorem d8_readNumber_24 : decode cX8_readNumber 24 = .ok (.invokestatic 66, 3) := by decide +kernel
theorem d8_readNumber_27 : decode cX8_readNumber 27 = .ok (.ifCond .eq 52, 3) := by decide +kernel
theorem d8_readNumber_30 : decode cX8_readNumber 30 = .ok (.aload_n 0, 1) := by decide +kernel
theorem d8_readNumber_31 : decode cX8_readNumber 31 = .ok (.getfield 34, 3) := by decide +kernel
theorem d8_readNumber_34 : decode cX8_readNumber 34 = .ok (.aload_n 0, 1) := by decide +kernel
theorem d8_readNumber_35 : decode cX8_readNumber 35 = .ok (.getfield 31, 3) := by decide +kernel
theorem d8_readNumber_38 : decode cX8_readNumber 38 = .ok (.isub, 1) := by decide +kernel
theorem d8_readNumber_39 : decode cX8_readNumber 39 = .ok (.iconst 4, 1) := by decide +kernel
theorem d8_readNumber_40 : decode cX8_readNumber 40 = .ok (.if_icmp .ge 26, 3) := by decide +kernel
theorem d8_readNumber_43 : decode cX8_readNumber 43 = .ok (.aload_n 0, 1) := by decide +kernel
theorem d8_readNumber_44 : decode cX8_readNumber 44 = .ok (.aload_n 0, 1) := by decide +kernel
theorem d8_readNumber_45 : decode cX8_readNumber 45 = .ok (.getfield 37, 3) := by decide +kernel
theorem d8_readNumber_48 : decode cX8_readNumber 48 = .ok (.bipush 10, 2) := by decide +kernel
theorem d8_readNumber_50 : decode cX8_readNumber 50 = .ok (.imul, 1) := by decide +kernel
theorem d8_readNumber_51 : decode cX8_readNumber 51 = .ok (.aload_n 0, 1) := by decide +kernel
theorem d8_readNumber_52 : decode cX8_readNumber 52 = .ok (.aload_n 0, 1) := by decide +kernel
theorem d8_readNumber_53 : decode cX8_readNumber 53 = .ok (.getfield 34, 3) := by decide +kernel
theorem d8_readNumber_56 : decode cX8_readNumber 56 = .ok (.invokevirtual 56, 3) := by decide +kernel
theorem d8_readNumber_59 : decode cX8_readNumber 59 = .ok (.iadd, 1) := by decide +kernel
theorem d8_readNumber_60 : decode cX8_readNumber 60 = .ok (.bipush 48, 2) := by decide +kernel
theorem d8_readNumber_62 : decode cX8_readNumber 62 = .ok (.isub, 1) := by decide +kernel
theorem d8_readNumber_63 : decode cX8_readNumber 63 = .ok (.putfield 37, 3) := by decide +kernel
theorem d8_readNumber_66 : decode cX8_readNumber 66 = .ok (.aload_n 0, 1) := by decide +kernel
theorem d8_readNumber_67 : decode cX8_readNumber 67 = .ok (.dup, 1) := by decide +kernel
theorem d8_readNumber_68 : decode cX8_readNumber 68 = .ok (.getfield 34, 3) := by decide +kernel
theorem d8_readNumber_71 : decode cX8_readNumber 71 = .ok (.iconst 1, 1) := by decide +kernel
theorem d8_readNumber_72 : decode cX8_readNumber 72 = .ok (.iadd, 1) := by decide +kernel
theorem d8_readNumber_73 : decode cX8_readNumber 73 = .ok (.putfield 34, 3) := by decide +kernel
theorem d8_readNumber_76 : decode cX8_readNumber 76 = .ok (.goto (-71), 3) := by decide +kernel
theorem d8_readNumber_79 : decode cX8_readNumber 79 = .ok (.aload_n 0, 1) := by decide +kernel
theorem d8_readNumber_80 : decode cX8_readNumber 80 = .ok (.aload_n 0, 1) := by decide +kernel
theorem d8_readNumber_81 : decode cX8_readNumber 81 = .ok (.getfield 34, 3) := by decide +kernel
theorem d8_readNumber_84 : decode cX8_readNumber 84 = .ok (.aload_n 0, 1) := by decide +kernel
theorem d8_readNumber_85 : decode cX8_readNumber 85 = .ok (.getfield 31, 3) := by decide +kernel
theorem d8_readNumber_88 : decode cX8_readNumber 88 = .ok (.isub, 1) := by decide +kernel
theorem d8_readNumber_89 : decode cX8_readNumber 89 = .ok (.iconst 4, 1) := by decide +kernel
theorem d8_readNumber_90 : decode cX8_readNumber 90 = .ok (.if_icmp .gt 7, 3) := by decide +kernel
theorem d8_readNumber_93 : decode cX8_readNumber 93 = .ok (.iconst 2, 1) := by decide +kernel
theorem d8_readNumber_94 : decode cX8_readNumber 94 = .ok (.goto 4, 3) := by decide +kernel
theorem d8_readNumber_97 : decode cX8_readNumber 97 = .ok (.iconst 4, 1) := by decide +kernel
theorem d8_readNumber_98 : decode cX8_readNumber 98 = .ok (.putfield 28, 3) := by decide +kernel
theorem d8_readNumber_101 : decode cX8_readNumber 101 = .ok (.return_, 1) := by decide +kernel
abbrev K8_readNumber : CK Unit := (enV, none, 1, 2, none)
noncomputable def F8_readNumber_b79 (N : Nat) (σ : Ms) : Option (Unit × Ms) :=
  if (4 : Int32) < ((σ.1 20 7) - (σ.1 20 6)) then (lt (sI σ 20 5 (4 : Int32)) (fun t1 => some ((), t1)))
  else (lt (sI σ 20 5 (2 : Int32)) (fun t2 => some ((), t2)))
noncomputable def F8_readNumber_b66 (N : Nat) (k5 : Ms → Option (Unit × Ms)) (σ : Ms) : Option (Unit × Ms) :=
  lt (sI σ 20 7 ((σ.1 20 7) + (1 : Int32))) (fun t3 => k5 t3)
noncomputable def F8_readNumber_b5B (N : Nat) (k5 : Ms → Option (Unit × Ms)) (σ : Ms) : Option (Unit × Ms) :=
  if (σ.1 20 4) ≤ (σ.1 20 7) then (F8_readNumber_b79 N σ)
  else (bn (F8_charAt (σ.1 20 7) σ) (fun r4 t5 => bn (F8_isDigit r4 t5) (fun r6 t7 => if r6 = 0 then (F8_readNumber_b79 N t7)
  else (if (4 : Int32) ≤ ((t7.1 20 7) - (t7.1 20 6)) then (F8_readNumber_b66 N k5 t7)
  else (bn (F8_charAt (t7.1 20 7) t7) (fun r8 t9 => lt (sI t9 20 8 ((((t7.1 20 8) * (10 : Int32)) + r8) - (48 : Int32))) (fun t10 => F8_readNumber_b66 N k5 t10)))))))
noncomputable def F8_readNumber_b5 (N : Nat) (σ : Ms) : Option (Unit × Ms) :=
  fx N (fun k x => F8_readNumber_b5B N k x) σ
noncomputable def F8_readNumber (N : Nat) (σ : Ms) : Option (Unit × Ms) :=
  lt (sI σ 20 8 (0 : Int32)) (fun t11 => F8_readNumber_b5 N t11)
set_option maxRecDepth 100000 in
theorem v8_readNumber_b79 (N : Nat) (σ : Ms) : VF (K8_readNumber) cX8_readNumber RX8 (F8_readNumber_b79 N σ) σ 79 [(0, .ref 20)] [] := by
  unfold F8_readNumber_b79
  refine v_aload_n d8_readNumber_79 0 rfl rfl ?_
  refine v_aload_n d8_readNumber_80 0 rfl rfl ?_
  refine v_getI d8_readNumber_81 faX8_34 ic_20 ?_
  refine v_aload_n d8_readNumber_84 0 rfl rfl ?_
  refine v_getI d8_readNumber_85 faX8_31 ic_20 ?_
  refine v_isub d8_readNumber_88 ?_
  refine v_iconst d8_readNumber_89 ki_4 ?_
  refine v_icmp_gt (tgt := 97) d8_readNumber_90 (by decide) ?_ ?_
  · refine v_iconst d8_readNumber_97 ki_4 ?_
    refine v_putI d8_readNumber_98 faX8_28 fp5_5 ic_20 ?_
    refine v_lts fun t1 => ?_
    exact v_vret d8_readNumber_101 rfl
  · refine v_iconst d8_readNumber_93 ki_2 ?_
    refine v_goto (tgt := 98) d8_readNumber_94 (by decide) ?_
    refine v_putI d8_readNumber_98 faX8_28 fp5_5 ic_20 ?_
    refine v_lts fun t2 => ?_
    exact v_vret d8_readNumber_101 rfl
set_option maxRecDepth 100000 in
theorem v8_readNumber_b66 (N : Nat) (k5 : Ms → Option (Unit × Ms)) (hk5 : ∀ (τ : Ms), VF (K8_readNumber) cX8_readNumber RX8 (k5 τ) τ 5 [(0, .ref 20)] []) (σ : Ms) : VF (K8_readNumber) cX8_readNumber RX8 (F8_readNumber_b66 N k5 σ) σ 66 [(0, .ref 20)] [] := by
  unfold F8_readNumber_b66
  refine v_aload_n d8_readNumber_66 0 rfl rfl ?_
  refine v_dup d8_readNumber_67 rfl ?_
  refine v_getI d8_readNumber_68 faX8_34 ic_20 ?_
  refine v_iconst d8_readNumber_71 ki_1 ?_
  refine v_iadd d8_readNumber_72 ?_
  refine v_putI d8_readNumber_73 faX8_34 fp5_7 ic_20 ?_
  refine v_lts fun t3 => ?_
  refine v_goto (tgt := 5) d8_readNumber_76 (by decide) ?_
  exact hk5 t3
set_option maxRecDepth 100000 in
theorem v8_readNumber_b5B (N : Nat) (k5 : Ms → Option (Unit × Ms)) (hk5 : ∀ (τ : Ms), VF (K8_readNumber) cX8_readNumber RX8 (k5 τ) τ 5 [(0, .ref 20)] []) (σ : Ms) : VF (K8_readNumber) cX8_readNumber RX8 (F8_readNumber_b5B N k5 σ) σ 5 [(0, .ref 20)] [] := by
  unfold F8_readNumber_b5B
  refine v_aload_n d8_readNumber_5 0 rfl rfl ?_
  refine v_getI d8_readNumber_6 faX8_34 ic_20 ?_
  refine v_aload_n d8_readNumber_9 0 rfl rfl ?_
  refine v_getI d8_readNumber_10 faX8_25 ic_20 ?_
  refine v_icmp_ge (tgt := 79) d8_readNumber_13 (by decide) ?_ ?_
  · exact v8_readNumber_b79 N σ
  · refine v_aload_n d8_readNumber_16 0 rfl rfl ?_
    refine v_aload_n d8_readNumber_17 0 rfl rfl ?_
    refine v_getI d8_readNumber_18 faX8_34 ic_20 ?_
    refine v_callV1i d8_readNumber_21 (mc8_charAt (σ.1 20 7) σ) yv8_charAt mlX8_56 (Recv.obj ic_20 rfl) (by decide) (Nat.le_of_ble_eq_true rfl) fun r4 t5 => ?_
    refine v_callS1i d8_readNumber_24 (mc8_isDigit r4 t5) ys8_isDigit mlX8_66 (by decide) (Nat.le_of_ble_eq_true rfl) fun r6 t7 => ?_
    refine v_if_eq (tgt := 79) d8_readNumber_27 (by decide) ?_ ?_
    · exact v8_readNumber_b79 N t7
    · refine v_aload_n d8_readNumber_30 0 rfl rfl ?_
      refine v_getI d8_readNumber_31 faX8_34 ic_20 ?_
      refine v_aload_n d8_readNumber_34 0 rfl rfl ?_
      refine v_getI d8_readNumber_35 faX8_31 ic_20 ?_
      refine v_isub d8_readNumber_38 ?_
      refine v_iconst d8_readNumber_39 ki_4 ?_
      refine v_icmp_ge (tgt := 66) d8_readNumber_40 (by decide) ?_ ?_
      · exact v8_readNumber_b66 N k5 hk5 t7
      · refine v_aload_n d8_readNumber_43 0 rfl rfl ?_
        refine v_aload_n d8_readNumber_44 0 rfl rfl ?_
        refine v_getI d8_readNumber_45 faX8_37 ic_20 ?_
        refine v_bipush d8_readNumber_48 kb_10 ?_
        refine v_imul d8_readNumber_50 ?_
        refine v_aload_n d8_readNumber_51 0 rfl rfl ?_
        refine v_aload_n d8_readNumber_52 0 rfl rfl ?_
        refine v_getI d8_readNumber_53 faX8_34 ic_20 ?_
        refine v_callV1i d8_readNumber_56 (mc8_charAt (t7.1 20 7) t7) yv8_charAt mlX8_56 (Recv.obj ic_20 rfl) (by decide) (Nat.le_of_ble_eq_true rfl) fun r8 t9 => ?_
        refine v_iadd d8_readNumber_59 ?_
        refine v_bipush d8_readNumber_60 kb_48 ?_
        refine v_isub d8_readNumber_62 ?_
        refine v_putI d8_readNumber_63 faX8_37 fp5_8 ic_20 ?_
        refine v_lts fun t10 => ?_
        exact v8_readNumber_b66 N k5 hk5 t10
theorem v8_readNumber_b5 (N : Nat) (σ : Ms) : VF (K8_readNumber) cX8_readNumber RX8 (F8_readNumber_b5 N σ) σ 5 [(0, .ref 20)] [] := v_fx (σo := fun x => x) (lo := fun x => [(0, .ref 20)]) (fun k hk x => v8_readNumber_b5B N k (fun τ => hk τ) x) N σ
set_option maxRecDepth 100000 in
theorem mc8_readNumber (N : Nat) (σ : Ms) : MC enV yX8_readNumber cX8_readNumber 1 none 2 (F8_readNumber N σ) σ [.ref 20] := by
  refine MC.v (by decide +kernel) (Nat.le_of_ble_eq_true rfl) ?_
  show VF (K8_readNumber) cX8_readNumber RX8 (F8_readNumber N σ) σ 0 [(0, .ref 20)] []
  unfold F8_readNumber
  refine v_aload_n d8_readNumber_0 0 rfl rfl ?_
  refine v_iconst d8_readNumber_1 ki_0 ?_
  refine v_putI d8_readNumber_2 faX8_37 fp5_8 ic_20 ?_
  refine v_lts fun t11 => ?_
  exact v8_readNumber_b5 N t11
theorem d8_isSign_0 : decode cX8_isSign 0 = .ok (.iload_n 0, 1) := by decide +kernel
theorem d8_isSign_1 : decode cX8_isSign 1 = .ok (.bipush 59, 2) := by decide +kernel
theorem d8_isSign_3 : decode cX8_isSign 3 = .ok (.if_icmp .eq 21, 3) := by decide +kernel
theorem d8_isSign_6 : decode cX8_isSign 6 = .ok (.iload_n 0, 1) := by decide +kernel
theorem d8_isSign_7 : decode cX8_isSign 7 = .ok (.bipush 60, 2) := by decide +kernel
theorem d8_isSign_9 : decode cX8_isSign 9 = .ok (.if_icmp .eq 15, 3) := by decide +kernel
theorem d8_isSign_12 : decode cX8_isSign 12 = .ok (.iload_n 0, 1) := by decide +kernel
theorem d8_isSign_13 : decode cX8_isSign 13 = .ok (.bipush 62, 2) := by decide +kernel
theorem d8_isSign_15 : decode cX8_isSign 15 = .ok (.if_icmp .eq 9, 3) := by decide +kernel
theorem d8_isSign_18 : decode cX8_isSign 18 = .ok (.iload_n 0, 1) := by decide +kernel
theorem d8_isSign_19 : decode cX8_isSign 19 = .ok (.bipush 61, 2) := by decide +kernel
theorem d8_isSign_21 : decode cX8_isSign 21 = .ok (.if_icmp .ne 7, 3) := by decide +kernel
theorem d8_isSign_24 : decode cX8_isSign 24 = .ok (.iconst 1, 1) := by decide +kernel
theorem d8_isSign_25 : decode cX8_isSign 25 = .ok (.goto 4, 3) := by decide +kernel
theorem d8_isSign_28 : decode cX8_isSign 28 = .ok (.iconst 0, 1) := by decide +kernel
theorem d8_isSign_29 : decode cX8_isSign 29 = .ok (.ireturn, 1) := by decide +kernel
abbrev K8_isSign : CK Int32 := (enI, (some .boolean), 1, 1, none)
noncomputable def F8_isSign_b24 (σ : Ms) : Option (Int32 × Ms) :=
  some ((1 : Int32), σ)
noncomputable def F8_isSign (p0 : Int32) (σ : Ms) : Option (Int32 × Ms) :=
  if p0 = (59 : Int32) then (F8_isSign_b24 σ)
  else (if p0 = (60 : Int32) then (F8_isSign_b24 σ)
  else (if p0 = (62 : Int32) then (F8_isSign_b24 σ)
  else (if p0 ≠ (61 : Int32) then (some ((0 : Int32), σ))
  else (F8_isSign_b24 σ))))
set_option maxRecDepth 100000 in
theorem v8_isSign_b24 (σ : Ms) : VF (K8_isSign) cX8_isSign RX8 (F8_isSign_b24 σ) σ 24 [] [] := by
  unfold F8_isSign_b24
  refine v_iconst d8_isSign_24 ki_1 ?_
  refine v_goto (tgt := 29) d8_isSign_25 (by decide) ?_
  exact v_iret (ty := .boolean) d8_isSign_29 rfl rfl rfl
set_option maxRecDepth 100000 in
theorem mc8_isSign (p0 : Int32) (σ : Ms) : MC enI yX8_isSign cX8_isSign 1 (some .boolean) 1 (F8_isSign p0 σ) σ [.int p0] := by
  refine MC.i (by decide +kernel) (Nat.le_of_ble_eq_true rfl) ?_
  show VF (K8_isSign) cX8_isSign RX8 (F8_isSign p0 σ) σ 0 [(0, .int p0)] []
  unfold F8_isSign
  refine v_iload_n d8_isSign_0 0 rfl rfl ?_
  refine v_bipush d8_isSign_1 kb_59 ?_
  refine v_icmp_eq (tgt := 24) d8_isSign_3 (by decide) ?_ ?_
  · refine v_sub [] rfl ?_
    exact v8_isSign_b24 σ
  · refine v_iload_n d8_isSign_6 0 rfl rfl ?_
    refine v_bipush d8_isSign_7 kb_60 ?_
    refine v_icmp_eq (tgt := 24) d8_isSign_9 (by decide) ?_ ?_
    · refine v_sub [] rfl ?_
      exact v8_isSign_b24 σ
    · refine v_iload_n d8_isSign_12 0 rfl rfl ?_
      refine v_bipush d8_isSign_13 kb_62 ?_
      refine v_icmp_eq (tgt := 24) d8_isSign_15 (by decide) ?_ ?_
      · refine v_sub [] rfl ?_
        exact v8_isSign_b24 σ
      · refine v_iload_n d8_isSign_18 0 rfl rfl ?_
        refine v_bipush d8_isSign_19 kb_61 ?_
        refine v_icmp_ne (tgt := 28) d8_isSign_21 (by decide) ?_ ?_
        · refine v_iconst d8_isSign_28 ki_0 ?_
          exact v_iret (ty := .boolean) d8_isSign_29 rfl rfl rfl
        · refine v_sub [] rfl ?_
          exact v8_isSign_b24 σ
theorem d8_step_0 : decode cX8_step 0 = .ok (.aload_n 0, 1) := by decide +kernel
theorem d8_step_1 : decode cX8_step 1 = .ok (.getfield 19, 3) := by decide +kernel
theorem d8_step_4 : decode cX8_step 4 = .ok (.ifCond .eq 4, 3) := by decide +kernel
theorem d8_step_7 : decode cX8_step 7 = .ok (.return_, 1) := by decide +kernel
theorem d8_step_8 : decode cX8_step 8 = .ok (.aload_n 0, 1) := by decide +kernel
theorem d8_step_9 : decode cX8_step 9 = .ok (.aload_n 0, 1) := by decide +kernel
theorem d8_step_10 : decode cX8_step 10 = .ok (.getfield 34, 3) := by decide +kernel
theorem d8_step_13 : decode cX8_step 13 = .ok (.putfield 31, 3) := by decide +kernel
theorem d8_step_16 : decode cX8_step 16 = .ok (.aload_n 0, 1) := by decide +kernel
theorem d8_step_17 : decode cX8_step 17 = .ok (.getfield 31, 3) := by decide +kernel
theorem d8_step_20 : decode cX8_step 20 = .ok (.aload_n 0, 1) := by decide +kernel
theorem d8_step_21 : decode cX8_step 21 = .ok (.getfield 25, 3) := by decide +kernel
theorem d8_step_24 : decode cX8_step 24 = .ok (.if_icmp .ge 30, 3) := by decide +kernel
theorem d8_step_27 : decode cX8_step 27 = .ok (.aload_n 0, 1) := by decide +kernel
theorem d8_step_28 : decode cX8_step 28 = .ok (.aload_n 0, 1) := by decide +kernel
theorem d8_step_29 : decode cX8_step 29 = .ok (.getfield 31, 3) := by decide +kernel
theorem d8_step_32 : decode cX8_step 32 = .ok (.invokevirtual 56, 3) := by decide +kernel
theorem d8_step_35 : decode cX8_step 35 = .ok (.invokestatic 60, 3) := by decide +kernel
theorem d8_step_38 : decode cX8_step 38 = .ok (.ifCond .eq 16, 3) := by decide +kernel
theorem d8_step_41 : decode cX8_step 41 = .ok (.aload_n 0, 1) := by decide +kernel
theorem d8_step_42 : decode cX8_step 42 = .ok (.dup, 1) := by decide +kernel
theorem d8_step_43 : decode cX8_step 43 = .ok (.getfield 31, 3) := by decide +kernel
theorem d8_step_46 : decode cX8_step 46 = .ok (.iconst 1, 1) := by decide +kernel
theorem d8_step_47 : decode cX8_step 47 = .ok (.iadd, 1) := by decide +kernel
theorem d8_step_48 : decode cX8_step 48 = .ok (.putfield 31, 3) := by decide +kernel
theorem d8_step_51 : decode cX8_step 51 = .ok (.goto (-35), 3) := by decide +kernel
theorem d8_step_54 : decode cX8_step 54 = .ok (.aload_n 0, 1) := by decide +kernel
theorem d8_step_55 : decode cX8_step 55 = .ok (.aload_n 0, 1) := by decide +kernel
theorem d8_step_56 : decode cX8_step 56 = .ok (.getfield 31, 3) := by decide +kernel
theorem d8_step_59 : decode cX8_step 59 = .ok (.putfield 34, 3) := by decide +kernel
theorem d8_step_62 : decode cX8_step 62 = .ok (.aload_n 0, 1) := by decide +kernel
theorem d8_step_63 : decode cX8_step 63 = .ok (.aload_n 0, 1) := by decide +kernel
theorem d8_step_64 : decode cX8_step 64 = .ok (.getfield 31, 3) := by decide +kernel
theorem d8_step_67 : decode cX8_step 67 = .ok (.invokevirtual 56, 3) := by decide +kernel
theorem d8_step_70 : decode cX8_step 70 = .ok (.istore_n 1, 1) := by decide +kernel
theorem d8_step_71 : decode cX8_step 71 = .ok (.aload_n 0, 1) := by decide +kernel
theorem d8_step_72 : decode cX8_step 72 = .ok (.getfield 31, 3) := by decide +kernel
theorem d8_step_75 : decode cX8_step 75 = .ok (.aload_n 0, 1) := by decide +kernel
theorem d8_step_76 : decode cX8_step 76 = .ok (.getfield 25, 3) := by decide +kernel
theorem d8_step_79 : decode cX8_step 79 = .ok (.if_icmp .lt 11, 3) := by decide +kernel
theorem d8_step_82 : decode cX8_step 82 = .ok (.aload_n 0, 1) := by decide +kernel
theorem d8_step_83 : decode cX8_step 83 = .ok (.iconst 0, 1) := by decide +kernel
theorem d8_step_84 : decode cX8_step 84 = .ok (.putfield 28, 3) := by decide +kernel
theorem d8_step_87 : decode cX8_step 87 = .ok (.goto 93, 3) := by decide +kernel
theorem d8_step_90 : decode cX8_step 90 = .ok (.iload_n 1, 1) := by decide +kernel
theorem d8_step_91 : decode cX8_step 91 = .ok (.invokestatic 63, 3) := by decide +kernel
theorem d8_step_94 : decode cX8_step 94 = .ok (.ifCond .eq 46, 3) := by decide +kernel
theorem d8_step_97 : decode cX8_step 97 = .ok (.aload_n 0, 1) := by decide +kernel
theorem d8_step_98 : decode cX8_step 98 = .ok (.iconst 1, 1) := by decide +kernel
theorem d8_step_99 : decode cX8_step 99 = .ok (.putfield 28, 3) := by decide +kernel
theorem d8_step_102 : decode cX8_step 102 = .ok (.aload_n 0, 1) := by decide +kernel
theorem d8_step_103 : decode cX8_step 103 = .ok (.getfield 34, 3) := by decide +kernel
theorem d8_step_106 : decode cX8_step 106 = .ok (.aload_n 0, 1) := by decide +kernel
theorem d8_step_107 : decode cX8_step 107 = .ok (.getfield 25, 3) := by decide +kernel
theorem d8_step_110 : decode cX8_step 110 = .ok (.if_icmp .ge 70, 3) := by decide +kernel
theorem d8_step_113 : decode cX8_step 113 = .ok (.aload_n 0, 1) := by decide +kernel
theorem d8_step_114 : decode cX8_step 114 = .ok (.aload_n 0, 1) := by decide +kernel
theorem d8_step_115 : decode cX8_step 115 = .ok (.getfield 34, 3) := by decide +kernel
theorem d8_step_118 : decode cX8_step 118 = .ok (.invokevirtual 56, 3) := by decide +kernel
theorem d8_step_121 : decode cX8_step 121 = .ok (.invokestatic 63, 3) := by decide +kernel
theorem d8_step_124 : decode cX8_step 124 = .ok (.ifCond .eq 56, 3) := by decide +kernel
theorem d8_step_127 : decode cX8_step 127 = .ok (.aload_n 0, 1) := by decide +kernel
theorem d8_step_128 : decode cX8_step 128 = .ok (.dup, 1) := by decide +kernel
theorem d8_step_129 : decode cX8_step 129 = .ok (.getfield 34, 3) := by decide +kernel
theorem d8_step_132 : decode cX8_step 132 = .ok (.iconst 1, 1) := by decide +kernel
theorem d8_step_133 : decode cX8_step 133 = .ok (.iadd, 1) := by decide +kernel
theorem d8_step_134 : decode cX8_step 134 = .ok (.putfield 34, 3) := by decide +kernel
theorem d8_step_137 : decode cX8_step 137 = .ok (.goto (-35), 3) := by decide +kernel
theorem d8_step_140 : decode cX8_step 140 = .ok (.iload_n 1, 1) := by decide +kernel
theorem d8_step_141 : decode cX8_step 141 = .ok (.invokestatic 66, 3) := by decide +kernel
theorem d8_step_144 : decode cX8_step 144 = .ok (.ifCond .eq 10, 3) := by decide +kernel
theorem d8_step_147 : decode cX8_step 147 = .ok (.aload_n 0, 1) := by decide +kernel
theorem d8_step_148 : decode cX8_step 148 = .ok (.invokevirtual 69, 3) := by decide +kernel
theorem d8_step_151 : decode cX8_step 151 = .ok (.goto 29, 3) := by decide +kernel
theorem d8_step_154 : decode cX8_step 154 = .ok (.aload_n 0, 1) := by decide +kernel
theorem d8_step_155 : decode cX8_step 155 = .ok (.iload_n 1, 1) := by decide +kernel
theorem d8_step_156 : decode cX8_step 156 = .ok (.invokestatic 72, 3) := by decide +kernel
theorem d8_step_159 : decode cX8_step 159 = .ok (.ifCond .eq 7, 3) := by decide +kernel
theorem d8_step_162 : decode cX8_step 162 = .ok (.iconst 3, 1) := by decide +kernel
theorem d8_step_163 : decode cX8_step 163 = .ok (.goto 4, 3) := by decide +kernel
theorem d8_step_166 : decode cX8_step 166 = .ok (.iconst 4, 1) := by decide +kernel
theorem d8_step_167 : decode cX8_step 167 = .ok (.putfield 28, 3) := by decide +kernel
theorem d8_step_170 : decode cX8_step 170 = .ok (.aload_n 0, 1) := by decide +kernel
theorem d8_step_171 : decode cX8_step 171 = .ok (.dup, 1) := by decide +kernel
theorem d8_step_172 : decode cX8_step 172 = .ok (.getfield 34, 3) := by decide +kernel
theorem d8_step_175 : decode cX8_step 175 = .ok (.iconst 1, 1) := by decide +kernel
theorem d8_step_176 : decode cX8_step 176 = .ok (.iadd, 1) := by decide +kernel
theorem d8_step_177 : decode cX8_step 177 = .ok (.putfield 34, 3) := by decide +kernel
theorem d8_step_180 : decode cX8_step 180 = .ok (.return_, 1) := by decide +kernel
abbrev K8_step : CK Unit := (enV, none, 2, 3, none)
noncomputable def F8_step_b167 (N : Nat) (s1 : Int32) (σ : Ms) : Option (Unit × Ms) :=
  lt (sI σ 20 5 s1) (fun t1 => lt (sI t1 20 7 ((t1.1 20 7) + (1 : Int32))) (fun t2 => some ((), t2)))
noncomputable def F8_step_b102B (N : Nat) (k102 : Ms → Option (Unit × Ms)) (σ : Ms) : Option (Unit × Ms) :=
  if (σ.1 20 4) ≤ (σ.1 20 7) then (some ((), σ))
  else (bn (F8_charAt (σ.1 20 7) σ) (fun r3 t4 => bn (F8_isLetter r3 t4) (fun r5 t6 => if r5 = 0 then (some ((), t6))
  else (lt (sI t6 20 7 ((t6.1 20 7) + (1 : Int32))) (fun t7 => k102 t7)))))
noncomputable def F8_step_b102 (N : Nat) (σ : Ms) : Option (Unit × Ms) :=
  fx N (fun k x => F8_step_b102B N k x) σ
noncomputable def F8_step_b54 (N : Nat) (σ : Ms) : Option (Unit × Ms) :=
  lt (sI σ 20 7 (σ.1 20 6)) (fun t8 => bn (F8_charAt (t8.1 20 6) t8) (fun r9 t10 => if (t10.1 20 6) < (t10.1 20 4) then (bn (F8_isLetter r9 t10) (fun r11 t12 => if r11 = 0 then (bn (F8_isDigit r9 t12) (fun r13 t14 => if r13 = 0 then (bn (F8_isSign r9 t14) (fun r15 t16 => if r15 = 0 then (F8_step_b167 N (4 : Int32) t16)
  else (F8_step_b167 N (3 : Int32) t16)))
  else (bn (F8_readNumber N t14) (fun r17 t18 => some ((), t18)))))
  else (lt (sI t12 20 5 (1 : Int32)) (fun t19 => F8_step_b102 N t19))))
  else (lt (sI t10 20 5 (0 : Int32)) (fun t20 => some ((), t20)))))
noncomputable def F8_step_b16B (N : Nat) (k16 : Ms → Option (Unit × Ms)) (σ : Ms) : Option (Unit × Ms) :=
  if (σ.1 20 4) ≤ (σ.1 20 6) then (F8_step_b54 N σ)
  else (bn (F8_charAt (σ.1 20 6) σ) (fun r21 t22 => bn (F8_isBlank r21 t22) (fun r23 t24 => if r23 = 0 then (F8_step_b54 N t24)
  else (lt (sI t24 20 6 ((t24.1 20 6) + (1 : Int32))) (fun t25 => k16 t25)))))
noncomputable def F8_step_b16 (N : Nat) (σ : Ms) : Option (Unit × Ms) :=
  fx N (fun k x => F8_step_b16B N k x) σ
noncomputable def F8_step (N : Nat) (σ : Ms) : Option (Unit × Ms) :=
  if (σ.1 20 2) = 0 then (lt (sI σ 20 6 (σ.1 20 7)) (fun t26 => F8_step_b16 N t26))
  else (some ((), σ))
set_option maxRecDepth 100000 in
theorem v8_step_b167 (N : Nat) (s1 : Int32) (σ : Ms) : VF (K8_step) cX8_step RX8 (F8_step_b167 N s1 σ) σ 167 [(0, .ref 20)] [.int s1, .ref 20] := by
  unfold F8_step_b167
  refine v_putI d8_step_167 faX8_28 fp5_5 ic_20 ?_
  refine v_lts fun t1 => ?_
  refine v_aload_n d8_step_170 0 rfl rfl ?_
  refine v_dup d8_step_171 rfl ?_
  refine v_getI d8_step_172 faX8_34 ic_20 ?_
  refine v_iconst d8_step_175 ki_1 ?_
  refine v_iadd d8_step_176 ?_
  refine v_putI d8_step_177 faX8_34 fp5_7 ic_20 ?_
  refine v_lts fun t2 => ?_
  exact v_vret d8_step_180 rfl
set_option maxRecDepth 100000 in
theorem v8_step_b102B (N : Nat) (k102 : Ms → Option (Unit × Ms)) (hk102 : ∀ (τ : Ms), VF (K8_step) cX8_step RX8 (k102 τ) τ 102 [(0, .ref 20)] []) (σ : Ms) : VF (K8_step) cX8_step RX8 (F8_step_b102B N k102 σ) σ 102 [(0, .ref 20)] [] := by
  unfold F8_step_b102B
  refine v_aload_n d8_step_102 0 rfl rfl ?_
  refine v_getI d8_step_103 faX8_34 ic_20 ?_
  refine v_aload_n d8_step_106 0 rfl rfl ?_
  refine v_getI d8_step_107 faX8_25 ic_20 ?_
  refine v_icmp_ge (tgt := 180) d8_step_110 (by decide) ?_ ?_
  · exact v_vret d8_step_180 rfl
  · refine v_aload_n d8_step_113 0 rfl rfl ?_
    refine v_aload_n d8_step_114 0 rfl rfl ?_
    refine v_getI d8_step_115 faX8_34 ic_20 ?_
    refine v_callV1i d8_step_118 (mc8_charAt (σ.1 20 7) σ) yv8_charAt mlX8_56 (Recv.obj ic_20 rfl) (by decide) (Nat.le_of_ble_eq_true rfl) fun r3 t4 => ?_
    refine v_callS1i d8_step_121 (mc8_isLetter r3 t4) ys8_isLetter mlX8_63 (by decide) (Nat.le_of_ble_eq_true rfl) fun r5 t6 => ?_
    refine v_if_eq (tgt := 180) d8_step_124 (by decide) ?_ ?_
    · exact v_vret d8_step_180 rfl
    · refine v_aload_n d8_step_127 0 rfl rfl ?_
      refine v_dup d8_step_128 rfl ?_
      refine v_getI d8_step_129 faX8_34 ic_20 ?_
      refine v_iconst d8_step_132 ki_1 ?_
      refine v_iadd d8_step_133 ?_
      refine v_putI d8_step_134 faX8_34 fp5_7 ic_20 ?_
      refine v_lts fun t7 => ?_
      refine v_goto (tgt := 102) d8_step_137 (by decide) ?_
      exact hk102 t7
theorem v8_step_b102 (N : Nat) (σ : Ms) : VF (K8_step) cX8_step RX8 (F8_step_b102 N σ) σ 102 [(0, .ref 20)] [] := v_fx (σo := fun x => x) (lo := fun x => [(0, .ref 20)]) (fun k hk x => v8_step_b102B N k (fun τ => hk τ) x) N σ
set_option maxRecDepth 100000 in
theorem v8_step_b54 (N : Nat) (σ : Ms) : VF (K8_step) cX8_step RX8 (F8_step_b54 N σ) σ 54 [(0, .ref 20)] [] := by
  unfold F8_step_b54
  refine v_aload_n d8_step_54 0 rfl rfl ?_
  refine v_aload_n d8_step_55 0 rfl rfl ?_
  refine v_getI d8_step_56 faX8_31 ic_20 ?_
  refine v_putI d8_step_59 faX8_34 fp5_7 ic_20 ?_
  refine v_lts fun t8 => ?_
  refine v_aload_n d8_step_62 0 rfl rfl ?_
  refine v_aload_n d8_step_63 0 rfl rfl ?_
  refine v_getI d8_step_64 faX8_31 ic_20 ?_
  refine v_callV1i d8_step_67 (mc8_charAt (t8.1 20 6) t8) yv8_charAt mlX8_56 (Recv.obj ic_20 rfl) (by decide) (Nat.le_of_ble_eq_true rfl) fun r9 t10 => ?_
  refine v_istore_n (lv' := [(1, .int r9), (0, .ref 20)]) d8_step_70 rfl (by decide) rfl ?_
  refine v_aload_n d8_step_71 1 rfl rfl ?_
  refine v_getI d8_step_72 faX8_31 ic_20 ?_
  refine v_aload_n d8_step_75 1 rfl rfl ?_
  refine v_getI d8_step_76 faX8_25 ic_20 ?_
  refine v_icmp_lt (tgt := 90) d8_step_79 (by decide) ?_ ?_
  · refine v_iload_n d8_step_90 0 rfl rfl ?_
    refine v_callS1i d8_step_91 (mc8_isLetter r9 t10) ys8_isLetter mlX8_63 (by decide) (Nat.le_of_ble_eq_true rfl) fun r11 t12 => ?_
    refine v_if_eq (tgt := 140) d8_step_94 (by decide) ?_ ?_
    · refine v_iload_n d8_step_140 0 rfl rfl ?_
      refine v_callS1i d8_step_141 (mc8_isDigit r9 t12) ys8_isDigit mlX8_66 (by decide) (Nat.le_of_ble_eq_true rfl) fun r13 t14 => ?_
      refine v_if_eq (tgt := 154) d8_step_144 (by decide) ?_ ?_
      · refine v_aload_n d8_step_154 1 rfl rfl ?_
        refine v_iload_n d8_step_155 0 rfl rfl ?_
        refine v_callS1i d8_step_156 (mc8_isSign r9 t14) ys8_isSign mlX8_72 (by decide) (Nat.le_of_ble_eq_true rfl) fun r15 t16 => ?_
        refine v_if_eq (tgt := 166) d8_step_159 (by decide) ?_ ?_
        · refine v_iconst d8_step_166 ki_4 ?_
          refine v_sub [1] rfl ?_
          exact v8_step_b167 N (4 : Int32) t16
        · refine v_iconst d8_step_162 ki_3 ?_
          refine v_goto (tgt := 167) d8_step_163 (by decide) ?_
          refine v_sub [1] rfl ?_
          exact v8_step_b167 N (3 : Int32) t16
      · refine v_aload_n d8_step_147 1 rfl rfl ?_
        refine v_callV0v d8_step_148 (mc8_readNumber N t14) yv8_readNumber mlX8_69 (Recv.obj ic_20 rfl) (by decide) (Nat.le_of_ble_eq_true rfl) fun r17 t18 => ?_
        refine v_goto (tgt := 180) d8_step_151 (by decide) ?_
        exact v_vret d8_step_180 rfl
    · refine v_aload_n d8_step_97 1 rfl rfl ?_
      refine v_iconst d8_step_98 ki_1 ?_
      refine v_putI d8_step_99 faX8_28 fp5_5 ic_20 ?_
      refine v_lts fun t19 => ?_
      refine v_sub [1] rfl ?_
      exact v8_step_b102 N t19
  · refine v_aload_n d8_step_82 1 rfl rfl ?_
    refine v_iconst d8_step_83 ki_0 ?_
    refine v_putI d8_step_84 faX8_28 fp5_5 ic_20 ?_
    refine v_lts fun t20 => ?_
    refine v_goto (tgt := 180) d8_step_87 (by decide) ?_
    exact v_vret d8_step_180 rfl
set_option maxRecDepth 100000 in
theorem v8_step_b16B (N : Nat) (k16 : Ms → Option (Unit × Ms)) (hk16 : ∀ (τ : Ms), VF (K8_step) cX8_step RX8 (k16 τ) τ 16 [(0, .ref 20)] []) (σ : Ms) : VF (K8_step) cX8_step RX8 (F8_step_b16B N k16 σ) σ 16 [(0, .ref 20)] [] := by
  unfold F8_step_b16B
  refine v_aload_n d8_step_16 0 rfl rfl ?_
  refine v_getI d8_step_17 faX8_31 ic_20 ?_
  refine v_aload_n d8_step_20 0 rfl rfl ?_
  refine v_getI d8_step_21 faX8_25 ic_20 ?_
  refine v_icmp_ge (tgt := 54) d8_step_24 (by decide) ?_ ?_
  · exact v8_step_b54 N σ
  · refine v_aload_n d8_step_27 0 rfl rfl ?_
    refine v_aload_n d8_step_28 0 rfl rfl ?_
    refine v_getI d8_step_29 faX8_31 ic_20 ?_
    refine v_callV1i d8_step_32 (mc8_charAt (σ.1 20 6) σ) yv8_charAt mlX8_56 (Recv.obj ic_20 rfl) (by decide) (Nat.le_of_ble_eq_true rfl) fun r21 t22 => ?_
    refine v_callS1i d8_step_35 (mc8_isBlank r21 t22) ys8_isBlank mlX8_60 (by decide) (Nat.le_of_ble_eq_true rfl) fun r23 t24 => ?_
    refine v_if_eq (tgt := 54) d8_step_38 (by decide) ?_ ?_
    · exact v8_step_b54 N t24
    · refine v_aload_n d8_step_41 0 rfl rfl ?_
      refine v_dup d8_step_42 rfl ?_
      refine v_getI d8_step_43 faX8_31 ic_20 ?_
      refine v_iconst d8_step_46 ki_1 ?_
      refine v_iadd d8_step_47 ?_
      refine v_putI d8_step_48 faX8_31 fp5_6 ic_20 ?_
      refine v_lts fun t25 => ?_
      refine v_goto (tgt := 16) d8_step_51 (by decide) ?_
      exact hk16 t25
theorem v8_step_b16 (N : Nat) (σ : Ms) : VF (K8_step) cX8_step RX8 (F8_step_b16 N σ) σ 16 [(0, .ref 20)] [] := v_fx (σo := fun x => x) (lo := fun x => [(0, .ref 20)]) (fun k hk x => v8_step_b16B N k (fun τ => hk τ) x) N σ
set_option maxRecDepth 100000 in
theorem mc8_step (N : Nat) (σ : Ms) : MC enV yX8_step cX8_step 2 none 3 (F8_step N σ) σ [.ref 20] := by
  refine MC.v (by decide +kernel) (Nat.le_of_ble_eq_true rfl) ?_
  show VF (K8_step) cX8_step RX8 (F8_step N σ) σ 0 [(0, .ref 20)] []
  unfold F8_step
  refine v_aload_n d8_step_0 0 rfl rfl ?_
  refine v_getI d8_step_1 faX8_19 ic_20 ?_
  refine v_if_eq (tgt := 8) d8_step_4 (by decide) ?_ ?_
  · refine v_aload_n d8_step_8 0 rfl rfl ?_
    refine v_aload_n d8_step_9 0 rfl rfl ?_
    refine v_getI d8_step_10 faX8_34 ic_20 ?_
    refine v_putI d8_step_13 faX8_31 fp5_6 ic_20 ?_
    refine v_lts fun t26 => ?_
    exact v8_step_b16 N t26
  · exact v_vret d8_step_7 rfl
theorem d8_takeColour_0 : decode cX8_takeColour 0 = .ok (.aload_n 0, 1) := by decide +kernel
theorem d8_takeColour_1 : decode cX8_takeColour 1 = .ok (.ldc 92, 2) := by decide +kernel
theorem d8_takeColour_3 : decode cX8_takeColour 3 = .ok (.invokevirtual 94, 3) := by decide +kernel
theorem d8_takeColour_6 : decode cX8_takeColour 6 = .ok (.ifCond .eq 7, 3) := by decide +kernel
theorem d8_takeColour_9 : decode cX8_takeColour 9 = .ok (.iconst 0, 1) := by decide +kernel
theorem d8_takeColour_10 : decode cX8_takeColour 10 = .ok (.goto 30, 3) := by decide +kernel
theorem d8_takeColour_13 : decode cX8_takeColour 13 = .ok (.aload_n 0, 1) := by decide +kernel
theorem d8_takeColour_14 : decode cX8_takeColour 14 = .ok (.ldc 98, 2) := by decide +kernel
theorem d8_takeColour_16 : decode cX8_takeColour 16 = .ok (.invokevirtual 94, 3) := by decide +kernel
theorem d8_takeColour_19 : decode cX8_takeColour 19 = .ok (.ifCond .eq 7, 3) := by decide +kernel
theorem d8_takeColour_22 : decode cX8_takeColour 22 = .ok (.iconst 1, 1) := by decide +kernel
theorem d8_takeColour_23 : decode cX8_takeColour 23 = .ok (.goto 17, 3) := by decide +kernel
theorem d8_takeColour_26 : decode cX8_takeColour 26 = .ok (.aload_n 0, 1) := by decide +kernel
theorem d8_takeColour_27 : decode cX8_takeColour 27 = .ok (.ldc 100, 2) := by decide +kernel
theorem d8_takeColour_29 : decode cX8_takeColour 29 = .ok (.invokevirtual 94, 3) := by decide +kernel
theorem d8_takeColour_32 : decode cX8_takeColour 32 = .ok (.ifCond .eq 7, 3) := by decide +kernel
theorem d8_takeColour_35 : decode cX8_takeColour 35 = .ok (.iconst 2, 1) := by decide +kernel
theorem d8_takeColour_36 : decode cX8_takeColour 36 = .ok (.goto 4, 3) := by decide +kernel
theorem d8_takeColour_39 : decode cX8_takeColour 39 = .ok (.iconst (-1), 1) := by decide +kernel
theorem d8_takeColour_40 : decode cX8_takeColour 40 = .ok (.istore_n 1, 1) := by decide +kernel
theorem d8_takeColour_41 : decode cX8_takeColour 41 = .ok (.iload_n 1, 1) := by decide +kernel
theorem d8_takeColour_42 : decode cX8_takeColour 42 = .ok (.iconst (-1), 1) := by decide +kernel
theorem d8_takeColour_43 : decode cX8_takeColour 43 = .ok (.if_icmp .ne 8, 3) := by decide +kernel
theorem d8_takeColour_46 : decode cX8_takeColour 46 = .ok (.aload_n 0, 1) := by decide +kernel
theorem d8_takeColour_47 : decode cX8_takeColour 47 = .ok (.iconst 2, 1) := by decide +kernel
theorem d8_takeColour_48 : decode cX8_takeColour 48 = .ok (.invokevirtual 88, 3) := by decide +kernel
theorem d8_takeColour_51 : decode cX8_takeColour 51 = .ok (.aload_n 0, 1) := by decide +kernel
theorem d8_takeColour_52 : decode cX8_takeColour 52 = .ok (.invokevirtual 53, 3) := by decide +kernel
theorem d8_takeColour_55 : decode cX8_takeColour 55 = .ok (.iload_n 1, 1) := by decide +kernel
theorem d8_takeColour_56 : decode cX8_takeColour 56 = .ok (.ireturn, 1) := by decide +kernel
abbrev K8_takeColour : CK Int32 := (enI, (some .int), 2, 6, none)
noncomputable def F8_takeColour_b51 (N : Nat) (l1 : Int32) (σ : Ms) : Option (Int32 × Ms) :=
  bn (F8_step N σ) (fun r1 t2 => some (l1, t2))
noncomputable def F8_takeColour_b40 (N : Nat) (s0 : Int32) (σ : Ms) : Option (Int32 × Ms) :=
  if s0 ≠ (-1 : Int32) then (F8_takeColour_b51 N s0 σ)
  else (bn (F8_refuse (2 : Int32) σ) (fun r3 t4 => F8_takeColour_b51 N s0 t4))
noncomputable def F8_takeColour (N : Nat) (σ : Ms) : Option (Int32 × Ms) :=
  bn (F8_isWord N 4 σ) (fun r5 t6 => if r5 = 0 then (bn (F8_isWord N 5 t6) (fun r7 t8 => if r7 = 0 then (bn (F8_isWord N 6 t8) (fun r9 t10 => if r9 = 0 then (F8_takeColour_b40 N (-1 : Int32) t10)
  else (F8_takeColour_b40 N (2 : Int32) t10)))
  else (F8_takeColour_b40 N (1 : Int32) t8)))
  else (F8_takeColour_b40 N (0 : Int32) t6))
set_option maxRecDepth 100000 in
theorem v8_takeColour_b51 (N : Nat) (l1 : Int32) (σ : Ms) : VF (K8_takeColour) cX8_takeColour RX8 (F8_takeColour_b51 N l1 σ) σ 51 [(0, .ref 20), (1, .int l1)] [] := by
  unfold F8_takeColour_b51
  refine v_aload_n d8_takeColour_51 0 rfl rfl ?_
  refine v_callV0v d8_takeColour_52 (mc8_step N σ) yv8_step mlX8_53 (Recv.obj ic_20 rfl) (by decide) (Nat.le_of_ble_eq_true rfl) fun r1 t2 => ?_
  refine v_iload_n d8_takeColour_55 1 rfl rfl ?_
  exact v_iret d8_takeColour_56 rfl rfl rfl
set_option maxRecDepth 100000 in
theorem v8_takeColour_b40 (N : Nat) (s0 : Int32) (σ : Ms) : VF (K8_takeColour) cX8_takeColour RX8 (F8_takeColour_b40 N s0 σ) σ 40 [(0, .ref 20)] [.int s0] := by
  unfold F8_takeColour_b40
  refine v_istore_n (lv' := [(1, .int s0), (0, .ref 20)]) d8_takeColour_40 rfl (by decide) rfl ?_
  refine v_iload_n d8_takeColour_41 0 rfl rfl ?_
  refine v_iconst d8_takeColour_42 ki_m1 ?_
  refine v_icmp_ne (tgt := 51) d8_takeColour_43 (by decide) ?_ ?_
  · refine v_sub [1, 0] rfl ?_
    exact v8_takeColour_b51 N s0 σ
  · refine v_aload_n d8_takeColour_46 1 rfl rfl ?_
    refine v_iconst d8_takeColour_47 ki_2 ?_
    refine v_callV1v d8_takeColour_48 (mc8_refuse (2 : Int32) σ) yv8_refuse mlX8_88 (Recv.obj ic_20 rfl) (by decide) (Nat.le_of_ble_eq_true rfl) fun r3 t4 => ?_
    refine v_sub [1, 0] rfl ?_
    exact v8_takeColour_b51 N s0 t4
set_option maxRecDepth 100000 in
theorem mc8_takeColour (N : Nat) (σ : Ms) : MC enI yX8_takeColour cX8_takeColour 2 (some .int) 6 (F8_takeColour N σ) σ [.ref 20] := by
  refine MC.i (by decide +kernel) (Nat.le_of_ble_eq_true rfl) ?_
  show VF (K8_takeColour) cX8_takeColour RX8 (F8_takeColour N σ) σ 0 [(0, .ref 20)] []
  unfold F8_takeColour
  refine v_aload_n d8_takeColour_0 0 rfl rfl ?_
  refine v_ldcS (i := 4) d8_takeColour_1 stX8_92 ?_
  refine v_callV1i d8_takeColour_3 (mc8_isWord N 4 (by decide) σ) yv8_isWord mlX8_94 (Recv.obj ic_20 rfl) (by decide) (Nat.le_of_ble_eq_true rfl) fun r5 t6 => ?_
  refine v_if_eq (tgt := 13) d8_takeColour_6 (by decide) ?_ ?_
  · refine v_aload_n d8_takeColour_13 0 rfl rfl ?_
    refine v_ldcS (i := 5) d8_takeColour_14 stX8_98 ?_
    refine v_callV1i d8_takeColour_16 (mc8_isWord N 5 (by decide) t6) yv8_isWord mlX8_94 (Recv.obj ic_20 rfl) (by decide) (Nat.le_of_ble_eq_true rfl) fun r7 t8 => ?_
    refine v_if_eq (tgt := 26) d8_takeColour_19 (by decide) ?_ ?_
    · refine v_aload_n d8_takeColour_26 0 rfl rfl ?_
      refine v_ldcS (i := 6) d8_takeColour_27 stX8_100 ?_
      refine v_callV1i d8_takeColour_29 (mc8_isWord N 6 (by decide) t8) yv8_isWord mlX8_94 (Recv.obj ic_20 rfl) (by decide) (Nat.le_of_ble_eq_true rfl) fun r9 t10 => ?_
      refine v_if_eq (tgt := 39) d8_takeColour_32 (by decide) ?_ ?_
      · refine v_iconst d8_takeColour_39 ki_m1 ?_
        exact v8_takeColour_b40 N (-1 : Int32) t10
      · refine v_iconst d8_takeColour_35 ki_2 ?_
        refine v_goto (tgt := 40) d8_takeColour_36 (by decide) ?_
        exact v8_takeColour_b40 N (2 : Int32) t10
    · refine v_iconst d8_takeColour_22 ki_1 ?_
      refine v_goto (tgt := 40) d8_takeColour_23 (by decide) ?_
      exact v8_takeColour_b40 N (1 : Int32) t8
  · refine v_iconst d8_takeColour_9 ki_0 ?_
    refine v_goto (tgt := 40) d8_takeColour_10 (by decide) ?_
    exact v8_takeColour_b40 N (0 : Int32) t6
