theorem d12_balance_0 : decode cX12_balance 0 = .ok (.aload_n 0, 1) := by decide +kernel
theorem d12_balance_1 : decode cX12_balance 1 = .ok (.iconst 0, 1) := by decide +kernel
theorem d12_balance_2 : decode cX12_balance 2 = .ok (.putfield 53, 3) := by decide +kernel
theorem d12_balance_5 : decode cX12_balance 5 = .ok (.aload_n 0, 1) := by decide +kernel
theorem d12_balance_6 : decode cX12_balance 6 = .ok (.iconst 0, 1) := by decide +kernel
theorem d12_balance_7 : decode cX12_balance 7 = .ok (.putfield 56, 3) := by decide +kernel
theorem d12_balance_10 : decode cX12_balance 10 = .ok (.aload_n 0, 1) := by decide +kernel
theorem d12_balance_11 : decode cX12_balance 11 = .ok (.invokevirtual 445, 3) := by decide +kernel
theorem d12_balance_14 : decode cX12_balance 14 = .ok (.istore_n 1, 1) := by decide +kernel
theorem d12_balance_15 : decode cX12_balance 15 = .ok (.iload_n 1, 1) := by decide +kernel
theorem d12_balance_16 : decode cX12_balance 16 = .ok (.ifCond .ge 12, 3) := by decide +kernel
theorem d12_balance_19 : decode cX12_balance 19 = .ok (.aload_n 0, 1) := by decide +kernel
theorem d12_balance_20 : decode cX12_balance 20 = .ok (.bipush 8, 2) := by decide +kernel
theorem d12_balance_22 : decode cX12_balance 22 = .ok (.invokevirtual 265, 3) := by decide +kernel
theorem d12_balance_25 : decode cX12_balance 25 = .ok (.goto 7, 3) := by decide +kernel
theorem d12_balance_28 : decode cX12_balance 28 = .ok (.iload_n 1, 1) := by decide +kernel
theorem d12_balance_29 : decode cX12_balance 29 = .ok (.invokestatic 277, 3) := by decide +kernel
theorem d12_balance_32 : decode cX12_balance 32 = .ok (.ireturn, 1) := by decide +kernel
abbrev K12_balance : CK Int32 := (enI, (some .int), 2, 6, none)
noncomputable def F12_balance (N : Nat) (σ : Ms) : Option (Int32 × Ms) :=
  lt (sI σ 0 1 (0 : Int32)) (fun t1 => lt (sI t1 0 0 (0 : Int32)) (fun t2 => bn (F12_balances N t2) (fun r3 t4 => if 0 ≤ r3 then (bn (F12_sizeOf N r3 t4) (fun r5 t6 => some (r5, t6)))
  else (bn (F12_refuse (8 : Int32) t4) (fun r7 t8 => some (r7, t8))))))
set_option maxRecDepth 100000 in
theorem mc12_balance (N : Nat) (σ : Ms) : MC enI yX12_balance cX12_balance 2 (some .int) 6 (F12_balance N σ) σ [.ref 0] := by
  refine MC.i (by decide +kernel) (Nat.le_of_ble_eq_true rfl) ?_
  show VF (K12_balance) cX12_balance RX12 (F12_balance N σ) σ 0 [(0, .ref 0)] []
  unfold F12_balance
  refine v_aload_n d12_balance_0 0 rfl rfl ?_
  refine v_iconst d12_balance_1 ki_0 ?_
  refine v_putI d12_balance_2 faX12_53 fp9_1 ic_0 ?_
  refine v_lts fun t1 => ?_
  refine v_aload_n d12_balance_5 0 rfl rfl ?_
  refine v_iconst d12_balance_6 ki_0 ?_
  refine v_putI d12_balance_7 faX12_56 fp9_0 ic_0 ?_
  refine v_lts fun t2 => ?_
  refine v_aload_n d12_balance_10 0 rfl rfl ?_
  refine v_callV0i d12_balance_11 (mc12_balances N t2) yv12_balances mlX12_445 (Recv.obj ic_0 rfl) (by decide) (Nat.le_of_ble_eq_true rfl) fun r3 t4 => ?_
  refine v_istore_n (lv' := [(1, .int r3), (0, .ref 0)]) d12_balance_14 rfl (by decide) rfl ?_
  refine v_iload_n d12_balance_15 0 rfl rfl ?_
  refine v_if_ge (tgt := 28) d12_balance_16 (by decide) ?_ ?_
  · refine v_iload_n d12_balance_28 0 rfl rfl ?_
    refine v_callS1i d12_balance_29 (mc12_sizeOf N r3 t4) ys12_sizeOf mlX12_277 (by decide) (Nat.le_of_ble_eq_true rfl) fun r5 t6 => ?_
    exact v_iret d12_balance_32 rfl rfl rfl
  · refine v_aload_n d12_balance_19 1 rfl rfl ?_
    refine v_bipush d12_balance_20 kb_8 ?_
    refine v_callV1i d12_balance_22 (mc12_refuse (8 : Int32) t4) yv12_refuse mlX12_265 (Recv.obj ic_0 rfl) (by decide) (Nat.le_of_ble_eq_true rfl) fun r7 t8 => ?_
    refine v_goto (tgt := 32) d12_balance_25 (by decide) ?_
    exact v_iret d12_balance_32 rfl rfl rfl
theorem d12_balanceSet_0 : decode cX12_balanceSet 0 = .ok (.aload_n 0, 1) := by decide +kernel
theorem d12_balanceSet_1 : decode cX12_balanceSet 1 = .ok (.iconst 0, 1) := by decide +kernel
theorem d12_balanceSet_2 : decode cX12_balanceSet 2 = .ok (.putfield 53, 3) := by decide +kernel
theorem d12_balanceSet_5 : decode cX12_balanceSet 5 = .ok (.aload_n 0, 1) := by decide +kernel
theorem d12_balanceSet_6 : decode cX12_balanceSet 6 = .ok (.iconst 0, 1) := by decide +kernel
theorem d12_balanceSet_7 : decode cX12_balanceSet 7 = .ok (.putfield 56, 3) := by decide +kernel
theorem d12_balanceSet_10 : decode cX12_balanceSet 10 = .ok (.aload_n 0, 1) := by decide +kernel
theorem d12_balanceSet_11 : decode cX12_balanceSet 11 = .ok (.invokevirtual 445, 3) := by decide +kernel
theorem d12_balanceSet_14 : decode cX12_balanceSet 14 = .ok (.istore_n 1, 1) := by decide +kernel
theorem d12_balanceSet_15 : decode cX12_balanceSet 15 = .ok (.iload_n 1, 1) := by decide +kernel
theorem d12_balanceSet_16 : decode cX12_balanceSet 16 = .ok (.ifCond .ge 12, 3) := by decide +kernel
theorem d12_balanceSet_19 : decode cX12_balanceSet 19 = .ok (.aload_n 0, 1) := by decide +kernel
theorem d12_balanceSet_20 : decode cX12_balanceSet 20 = .ok (.bipush 8, 2) := by decide +kernel
theorem d12_balanceSet_22 : decode cX12_balanceSet 22 = .ok (.invokevirtual 265, 3) := by decide +kernel
theorem d12_balanceSet_25 : decode cX12_balanceSet 25 = .ok (.goto 4, 3) := by decide +kernel
theorem d12_balanceSet_28 : decode cX12_balanceSet 28 = .ok (.iload_n 1, 1) := by decide +kernel
theorem d12_balanceSet_29 : decode cX12_balanceSet 29 = .ok (.ireturn, 1) := by decide +kernel
abbrev K12_balanceSet : CK Int32 := (enI, (some .int), 2, 6, none)
noncomputable def F12_balanceSet (N : Nat) (σ : Ms) : Option (Int32 × Ms) :=
  lt (sI σ 0 1 (0 : Int32)) (fun t1 => lt (sI t1 0 0 (0 : Int32)) (fun t2 => bn (F12_balances N t2) (fun r3 t4 => if 0 ≤ r3 then (some (r3, t4))
  else (bn (F12_refuse (8 : Int32) t4) (fun r5 t6 => some (r5, t6))))))
set_option maxRecDepth 100000 in
theorem mc12_balanceSet (N : Nat) (σ : Ms) : MC enI yX12_balanceSet cX12_balanceSet 2 (some .int) 6 (F12_balanceSet N σ) σ [.ref 0] := by
  refine MC.i (by decide +kernel) (Nat.le_of_ble_eq_true rfl) ?_
  show VF (K12_balanceSet) cX12_balanceSet RX12 (F12_balanceSet N σ) σ 0 [(0, .ref 0)] []
  unfold F12_balanceSet
  refine v_aload_n d12_balanceSet_0 0 rfl rfl ?_
  refine v_iconst d12_balanceSet_1 ki_0 ?_
  refine v_putI d12_balanceSet_2 faX12_53 fp9_1 ic_0 ?_
  refine v_lts fun t1 => ?_
  refine v_aload_n d12_balanceSet_5 0 rfl rfl ?_
  refine v_iconst d12_balanceSet_6 ki_0 ?_
  refine v_putI d12_balanceSet_7 faX12_56 fp9_0 ic_0 ?_
  refine v_lts fun t2 => ?_
  refine v_aload_n d12_balanceSet_10 0 rfl rfl ?_
  refine v_callV0i d12_balanceSet_11 (mc12_balances N t2) yv12_balances mlX12_445 (Recv.obj ic_0 rfl) (by decide) (Nat.le_of_ble_eq_true rfl) fun r3 t4 => ?_
  refine v_istore_n (lv' := [(1, .int r3), (0, .ref 0)]) d12_balanceSet_14 rfl (by decide) rfl ?_
  refine v_iload_n d12_balanceSet_15 0 rfl rfl ?_
  refine v_if_ge (tgt := 28) d12_balanceSet_16 (by decide) ?_ ?_
  · refine v_iload_n d12_balanceSet_28 0 rfl rfl ?_
    exact v_iret d12_balanceSet_29 rfl rfl rfl
  · refine v_aload_n d12_balanceSet_19 1 rfl rfl ?_
    refine v_bipush d12_balanceSet_20 kb_8 ?_
    refine v_callV1i d12_balanceSet_22 (mc12_refuse (8 : Int32) t4) yv12_refuse mlX12_265 (Recv.obj ic_0 rfl) (by decide) (Nat.le_of_ble_eq_true rfl) fun r5 t6 => ?_
    refine v_goto (tgt := 29) d12_balanceSet_25 (by decide) ?_
    exact v_iret d12_balanceSet_29 rfl rfl rfl
theorem d12_commonOf_0 : decode cX12_commonOf 0 = .ok (.iload_n 0, 1) := by decide +kernel
theorem d12_commonOf_1 : decode cX12_commonOf 1 = .ok (.iconst 2, 1) := by decide +kernel
theorem d12_commonOf_2 : decode cX12_commonOf 2 = .ok (.if_icmp .ge 7, 3) := by decide +kernel
theorem d12_commonOf_5 : decode cX12_commonOf 5 = .ok (.lconst 1, 1) := by decide +kernel
theorem d12_commonOf_6 : decode cX12_commonOf 6 = .ok (.goto 39, 3) := by decide +kernel
theorem d12_commonOf_9 : decode cX12_commonOf 9 = .ok (.iload_n 0, 1) := by decide +kernel
theorem d12_commonOf_10 : decode cX12_commonOf 10 = .ok (.iconst 2, 1) := by decide +kernel
theorem d12_commonOf_11 : decode cX12_commonOf 11 = .ok (.if_icmp .ne 9, 3) := by decide +kernel
theorem d12_commonOf_14 : decode cX12_commonOf 14 = .ok (.ldc2_w 355, 3) := by decide +kernel
theorem d12_commonOf_17 : decode cX12_commonOf 17 = .ok (.goto 28, 3) := by decide +kernel
theorem d12_commonOf_20 : decode cX12_commonOf 20 = .ok (.iload_n 0, 1) := by decide +kernel
theorem d12_commonOf_21 : decode cX12_commonOf 21 = .ok (.iconst 3, 1) := by decide +kernel
theorem d12_commonOf_22 : decode cX12_commonOf 22 = .ok (.if_icmp .ne 9, 3) := by decide +kernel
theorem d12_commonOf_25 : decode cX12_commonOf 25 = .ok (.ldc2_w 263, 3) := by decide +kernel
theorem d12_commonOf_28 : decode cX12_commonOf 28 = .ok (.goto 17, 3) := by decide +kernel
theorem d12_commonOf_31 : decode cX12_commonOf 31 = .ok (.iload_n 0, 1) := by decide +kernel
theorem d12_commonOf_32 : decode cX12_commonOf 32 = .ok (.iconst 4, 1) := by decide +kernel
theorem d12_commonOf_33 : decode cX12_commonOf 33 = .ok (.if_icmp .ne 9, 3) := by decide +kernel
theorem d12_commonOf_36 : decode cX12_commonOf 36 = .ok (.ldc2_w 448, 3) := by decide +kernel
theorem d12_commonOf_39 : decode cX12_commonOf 39 = .ok (.goto 6, 3) := by decide +kernel
theorem d12_commonOf_42 : decode cX12_commonOf 42 = .ok (.ldc2_w 450, 3) := by decide +kernel
theorem d12_commonOf_45 : decode cX12_commonOf 45 = .ok (.lreturn, 1) := by decide +kernel
abbrev K12_commonOf : CK Int64 := (enL, (some .long), 1, 1, none)
noncomputable def F12_commonOf (p0 : Int32) (σ : Ms) : Option (Int64 × Ms) :=
  if (2 : Int32) ≤ p0 then (if p0 ≠ (2 : Int32) then (if p0 ≠ (3 : Int32) then (if p0 ≠ (4 : Int32) then (some ((60 : Int64), σ))
  else (some ((12 : Int64), σ)))
  else (some ((6 : Int64), σ)))
  else (some ((2 : Int64), σ)))
  else (some ((1 : Int64), σ))
set_option maxRecDepth 100000 in
theorem mc12_commonOf (p0 : Int32) (σ : Ms) : MC enL yX12_commonOf cX12_commonOf 1 (some .long) 1 (F12_commonOf p0 σ) σ [.int p0] := by
  refine MC.l (by decide +kernel) (Nat.le_of_ble_eq_true rfl) ?_
  show VF (K12_commonOf) cX12_commonOf RX12 (F12_commonOf p0 σ) σ 0 [(0, .int p0)] []
  unfold F12_commonOf
  refine v_iload_n d12_commonOf_0 0 rfl rfl ?_
  refine v_iconst d12_commonOf_1 ki_2 ?_
  refine v_icmp_ge (tgt := 9) d12_commonOf_2 (by decide) ?_ ?_
  · refine v_iload_n d12_commonOf_9 0 rfl rfl ?_
    refine v_iconst d12_commonOf_10 ki_2 ?_
    refine v_icmp_ne (tgt := 20) d12_commonOf_11 (by decide) ?_ ?_
    · refine v_iload_n d12_commonOf_20 0 rfl rfl ?_
      refine v_iconst d12_commonOf_21 ki_3 ?_
      refine v_icmp_ne (tgt := 31) d12_commonOf_22 (by decide) ?_ ?_
      · refine v_iload_n d12_commonOf_31 0 rfl rfl ?_
        refine v_iconst d12_commonOf_32 ki_4 ?_
        refine v_icmp_ne (tgt := 42) d12_commonOf_33 (by decide) ?_ ?_
        · refine v_ldc2 d12_commonOf_42 klX12_450 ?_
          exact v_lret d12_commonOf_45 rfl rfl
        · refine v_ldc2 d12_commonOf_36 klX12_448 ?_
          refine v_goto (tgt := 45) d12_commonOf_39 (by decide) ?_
          exact v_lret d12_commonOf_45 rfl rfl
      · refine v_ldc2 d12_commonOf_25 klX12_263 ?_
        refine v_goto (tgt := 45) d12_commonOf_28 (by decide) ?_
        exact v_lret d12_commonOf_45 rfl rfl
    · refine v_ldc2 d12_commonOf_14 klX12_355 ?_
      refine v_goto (tgt := 45) d12_commonOf_17 (by decide) ?_
      exact v_lret d12_commonOf_45 rfl rfl
  · refine v_lconst d12_commonOf_5 kl_1 ?_
    refine v_goto (tgt := 45) d12_commonOf_6 (by decide) ?_
    exact v_lret d12_commonOf_45 rfl rfl
theorem d12_wholeOf_0 : decode cX12_wholeOf 0 = .ok (.lconst 1, 1) := by decide +kernel
theorem d12_wholeOf_1 : decode cX12_wholeOf 1 = .ok (.lstore_n 1, 1) := by decide +kernel
theorem d12_wholeOf_2 : decode cX12_wholeOf 2 = .ok (.iconst 1, 1) := by decide +kernel
theorem d12_wholeOf_3 : decode cX12_wholeOf 3 = .ok (.istore_n 3, 1) := by decide +kernel
theorem d12_wholeOf_4 : decode cX12_wholeOf 4 = .ok (.iload_n 3, 1) := by decide +kernel
theorem d12_wholeOf_5 : decode cX12_wholeOf 5 = .ok (.iload_n 0, 1) := by decide +kernel
theorem d12_wholeOf_6 : decode cX12_wholeOf 6 = .ok (.if_icmp .gt 16, 3) := by decide +kernel
theorem d12_wholeOf_9 : decode cX12_wholeOf 9 = .ok (.lload_n 1, 1) := by decide +kernel
theorem d12_wholeOf_10 : decode cX12_wholeOf 10 = .ok (.iload_n 3, 1) := by decide +kernel
theorem d12_wholeOf_11 : decode cX12_wholeOf 11 = .ok (.invokestatic 452, 3) := by decide +kernel
theorem d12_wholeOf_14 : decode cX12_wholeOf 14 = .ok (.lmul, 1) := by decide +kernel
theorem d12_wholeOf_15 : decode cX12_wholeOf 15 = .ok (.lstore_n 1, 1) := by decide +kernel
theorem d12_wholeOf_16 : decode cX12_wholeOf 16 = .ok (.iinc 3 1, 3) := by decide +kernel
theorem d12_wholeOf_19 : decode cX12_wholeOf 19 = .ok (.goto (-15), 3) := by decide +kernel
theorem d12_wholeOf_22 : decode cX12_wholeOf 22 = .ok (.lload_n 1, 1) := by decide +kernel
theorem d12_wholeOf_23 : decode cX12_wholeOf 23 = .ok (.lreturn, 1) := by decide +kernel
abbrev K12_wholeOf : CK Int64 := (enL, (some .long), 4, 2, none)
noncomputable def F12_wholeOf_b4B (N : Nat) (k4 : Int32 × Int64 × Int32 × Ms → Option (Int64 × Ms)) (l0 : Int32) (l1 : Int64) (l3 : Int32) (σ : Ms) : Option (Int64 × Ms) :=
  if l0 < l3 then (some (l1, σ))
  else (bn (F12_commonOf l3 σ) (fun r1 t2 => lt (l1 * r1) (fun x3 => k4 (l0, x3, (l3 + (1 : Int32)), t2))))
noncomputable def F12_wholeOf_b4 (N : Nat) (l0 : Int32) (l1 : Int64) (l3 : Int32) (σ : Ms) : Option (Int64 × Ms) :=
  fx N (fun k x => F12_wholeOf_b4B N k x.1 x.2.1 x.2.2.1 x.2.2.2) (l0, l1, l3, σ)
noncomputable def F12_wholeOf (N : Nat) (p0 : Int32) (σ : Ms) : Option (Int64 × Ms) :=
  F12_wholeOf_b4 N p0 (1 : Int64) (1 : Int32) σ
set_option maxRecDepth 100000 in
theorem v12_wholeOf_b4B (N : Nat) (k4 : Int32 × Int64 × Int32 × Ms → Option (Int64 × Ms)) (hk4 : ∀ (l0 : Int32) (l1 : Int64) (l3 : Int32) (τ : Ms), VF (K12_wholeOf) cX12_wholeOf RX12 (k4 (l0, l1, l3, τ)) τ 4 [(0, .int l0), (1, .long l1), (3, .int l3)] []) (l0 : Int32) (l1 : Int64) (l3 : Int32) (σ : Ms) : VF (K12_wholeOf) cX12_wholeOf RX12 (F12_wholeOf_b4B N k4 l0 l1 l3 σ) σ 4 [(0, .int l0), (1, .long l1), (3, .int l3)] [] := by
  unfold F12_wholeOf_b4B
  refine v_iload_n d12_wholeOf_4 2 rfl rfl ?_
  refine v_iload_n d12_wholeOf_5 0 rfl rfl ?_
  refine v_icmp_gt (tgt := 22) d12_wholeOf_6 (by decide) ?_ ?_
  · refine v_lload_n d12_wholeOf_22 1 rfl rfl ?_
    exact v_lret d12_wholeOf_23 rfl rfl
  · refine v_lload_n d12_wholeOf_9 1 rfl rfl ?_
    refine v_iload_n d12_wholeOf_10 2 rfl rfl ?_
    refine v_callS1l d12_wholeOf_11 (mc12_commonOf l3 σ) ys12_commonOf mlX12_452 (by decide) (Nat.le_of_ble_eq_true rfl) fun r1 t2 => ?_
    refine v_lmul d12_wholeOf_14 ?_
    refine v_ltl fun x3 => ?_
    refine v_lstore_n (lv' := [(1, .long x3), (0, .int l0), (3, .int l3)]) d12_wholeOf_15 rfl (by decide) rfl ?_
    refine v_iinc (lv' := [(3, .int (l3 + (1 : Int32))), (1, .long x3), (0, .int l0)]) d12_wholeOf_16 2 rfl (by rw [ki_1]) (by decide) rfl ?_
    refine v_goto (tgt := 4) d12_wholeOf_19 (by decide) ?_
    refine v_sub [2, 1, 0] rfl ?_
    exact hk4 l0 x3 (l3 + (1 : Int32)) t2
theorem v12_wholeOf_b4 (N : Nat) (l0 : Int32) (l1 : Int64) (l3 : Int32) (σ : Ms) : VF (K12_wholeOf) cX12_wholeOf RX12 (F12_wholeOf_b4 N l0 l1 l3 σ) σ 4 [(0, .int l0), (1, .long l1), (3, .int l3)] [] := v_fx (σo := fun x => x.2.2.2) (lo := fun x => [(0, .int x.1), (1, .long x.2.1), (3, .int x.2.2.1)]) (fun k hk x => v12_wholeOf_b4B N k (fun l0 l1 l3 τ => hk (l0, l1, l3, τ)) x.1 x.2.1 x.2.2.1 x.2.2.2) N (l0, l1, l3, σ)
set_option maxRecDepth 100000 in
theorem mc12_wholeOf (N : Nat) (p0 : Int32) (σ : Ms) : MC enL yX12_wholeOf cX12_wholeOf 4 (some .long) 2 (F12_wholeOf N p0 σ) σ [.int p0] := by
  refine MC.l (by decide +kernel) (Nat.le_of_ble_eq_true rfl) ?_
  show VF (K12_wholeOf) cX12_wholeOf RX12 (F12_wholeOf N p0 σ) σ 0 [(0, .int p0)] []
  unfold F12_wholeOf
  refine v_lconst d12_wholeOf_0 kl_1 ?_
  refine v_lstore_n (lv' := [(1, .long (1 : Int64)), (0, .int p0)]) d12_wholeOf_1 rfl (by decide) rfl ?_
  refine v_iconst d12_wholeOf_2 ki_1 ?_
  refine v_istore_n (lv' := [(3, .int (1 : Int32)), (1, .long (1 : Int64)), (0, .int p0)]) d12_wholeOf_3 rfl (by decide) rfl ?_
  refine v_sub [2, 1, 0] rfl ?_
  exact v12_wholeOf_b4 N p0 (1 : Int64) (1 : Int32) σ
theorem d12_luckOf_0 : decode cX12_luckOf 0 = .ok (.iload_n 1, 1) := by decide +kernel
theorem d12_luckOf_1 : decode cX12_luckOf 1 = .ok (.invokestatic 277, 3) := by decide +kernel
theorem d12_luckOf_4 : decode cX12_luckOf 4 = .ok (.istore_n 3, 1) := by decide +kernel
theorem d12_luckOf_5 : decode cX12_luckOf 5 = .ok (.iconst 0, 1) := by decide +kernel
theorem d12_luckOf_6 : decode cX12_luckOf 6 = .ok (.istore 4, 2) := by decide +kernel
theorem d12_luckOf_8 : decode cX12_luckOf 8 = .ok (.lconst 0, 1) := by decide +kernel
theorem d12_luckOf_9 : decode cX12_luckOf 9 = .ok (.lstore 5, 2) := by decide +kernel
theorem d12_luckOf_11 : decode cX12_luckOf 11 = .ok (.iconst 0, 1) := by decide +kernel
theorem d12_luckOf_12 : decode cX12_luckOf 12 = .ok (.istore 7, 2) := by decide +kernel
theorem d12_luckOf_14 : decode cX12_luckOf 14 = .ok (.iload 7, 2) := by decide +kernel
theorem d12_luckOf_16 : decode cX12_luckOf 16 = .ok (.aload_n 0, 1) := by decide +kernel
theorem d12_luckOf_17 : decode cX12_luckOf 17 = .ok (.getfield 35, 3) := by decide +kernel
theorem d12_luckOf_20 : decode cX12_luckOf 20 = .ok (.iconst 0, 1) := by decide +kernel
theorem d12_luckOf_21 : decode cX12_luckOf 21 = .ok (.iaload, 1) := by decide +kernel
theorem d12_luckOf_22 : decode cX12_luckOf 22 = .ok (.if_icmp .ge 75, 3) := by decide +kernel
theorem d12_luckOf_25 : decode cX12_luckOf 25 = .ok (.iload_n 1, 1) := by decide +kernel
theorem d12_luckOf_26 : decode cX12_luckOf 26 = .ok (.iload 7, 2) := by decide +kernel
theorem d12_luckOf_28 : decode cX12_luckOf 28 = .ok (.invokestatic 92, 3) := by decide +kernel
theorem d12_luckOf_31 : decode cX12_luckOf 31 = .ok (.ifCond .eq 60, 3) := by decide +kernel
theorem d12_luckOf_34 : decode cX12_luckOf 34 = .ok (.aload_n 0, 1) := by decide +kernel
theorem d12_luckOf_35 : decode cX12_luckOf 35 = .ok (.iload_n 2, 1) := by decide +kernel
theorem d12_luckOf_36 : decode cX12_luckOf 36 = .ok (.iload 7, 2) := by decide +kernel
theorem d12_luckOf_38 : decode cX12_luckOf 38 = .ok (.invokevirtual 335, 3) := by decide +kernel
theorem d12_luckOf_41 : decode cX12_luckOf 41 = .ok (.ifCond .ne 6, 3) := by decide +kernel
theorem d12_luckOf_44 : decode cX12_luckOf 44 = .ok (.goto 47, 3) := by decide +kernel
theorem d12_luckOf_47 : decode cX12_luckOf 47 = .ok (.aload_n 0, 1) := by decide +kernel
theorem d12_luckOf_48 : decode cX12_luckOf 48 = .ok (.iload_n 1, 1) := by decide +kernel
theorem d12_luckOf_49 : decode cX12_luckOf 49 = .ok (.iconst 1, 1) := by decide +kernel
theorem d12_luckOf_50 : decode cX12_luckOf 50 = .ok (.iload 7, 2) := by decide +kernel
theorem d12_luckOf_52 : decode cX12_luckOf 52 = .ok (.ishl, 1) := by decide +kernel
theorem d12_luckOf_53 : decode cX12_luckOf 53 = .ok (.invokevirtual 274, 3) := by decide +kernel
theorem d12_luckOf_56 : decode cX12_luckOf 56 = .ok (.istore 8, 2) := by decide +kernel
theorem d12_luckOf_58 : decode cX12_luckOf 58 = .ok (.lload 5, 2) := by decide +kernel
theorem d12_luckOf_60 : decode cX12_luckOf 60 = .ok (.aload_n 0, 1) := by decide +kernel
theorem d12_luckOf_61 : decode cX12_luckOf 61 = .ok (.iload 8, 2) := by decide +kernel
theorem d12_luckOf_63 : decode cX12_luckOf 63 = .ok (.iconst 1, 1) := by decide +kernel
theorem d12_luckOf_64 : decode cX12_luckOf 64 = .ok (.iload_n 2, 1) := by decide +kernel
theorem d12_luckOf_65 : decode cX12_luckOf 65 = .ok (.isub, 1) := by decide +kernel
theorem d12_luckOf_66 : decode cX12_luckOf 66 = .ok (.invokevirtual 456, 3) := by decide +kernel
theorem d12_luckOf_69 : decode cX12_luckOf 69 = .ok (.iload_n 3, 1) := by decide +kernel
theorem d12_luckOf_70 : decode cX12_luckOf 70 = .ok (.iconst 1, 1) := by decide +kernel
theorem d12_luckOf_71 : decode cX12_luckOf 71 = .ok (.isub, 1) := by decide +kernel
theorem d12_luckOf_72 : decode cX12_luckOf 72 = .ok (.invokestatic 459, 3) := by decide +kernel
theorem d12_luckOf_75 : decode cX12_luckOf 75 = .ok (.iload 8, 2) := by decide +kernel
theorem d12_luckOf_77 : decode cX12_luckOf 77 = .ok (.invokestatic 277, 3) := by decide +kernel
theorem d12_luckOf_80 : decode cX12_luckOf 80 = .ok (.invokestatic 459, 3) := by decide +kernel
theorem d12_luckOf_83 : decode cX12_luckOf 83 = .ok (.ldiv, 1) := by decide +kernel
theorem d12_luckOf_84 : decode cX12_luckOf 84 = .ok (.lmul, 1) := by decide +kernel
theorem d12_luckOf_85 : decode cX12_luckOf 85 = .ok (.ladd, 1) := by decide +kernel
theorem d12_luckOf_86 : decode cX12_luckOf 86 = .ok (.lstore 5, 2) := by decide +kernel
theorem d12_luckOf_88 : decode cX12_luckOf 88 = .ok (.iinc 4 1, 3) := by decide +kernel
theorem d12_luckOf_91 : decode cX12_luckOf 91 = .ok (.iinc 7 1, 3) := by decide +kernel
theorem d12_luckOf_94 : decode cX12_luckOf 94 = .ok (.goto (-80), 3) := by decide +kernel
theorem d12_luckOf_97 : decode cX12_luckOf 97 = .ok (.iload 4, 2) := by decide +kernel
theorem d12_luckOf_99 : decode cX12_luckOf 99 = .ok (.ifCond .ne 16, 3) := by decide +kernel
theorem d12_luckOf_102 : decode cX12_luckOf 102 = .ok (.iload_n 2, 1) := by decide +kernel
theorem d12_luckOf_103 : decode cX12_luckOf 103 = .ok (.ifCond .ne 7, 3) := by decide +kernel
theorem d12_luckOf_106 : decode cX12_luckOf 106 = .ok (.lconst 0, 1) := by decide +kernel
theorem d12_luckOf_107 : decode cX12_luckOf 107 = .ok (.goto 7, 3) := by decide +kernel
theorem d12_luckOf_110 : decode cX12_luckOf 110 = .ok (.iload_n 3, 1) := by decide +kernel
theorem d12_luckOf_111 : decode cX12_luckOf 111 = .ok (.invokestatic 459, 3) := by decide +kernel
theorem d12_luckOf_114 : decode cX12_luckOf 114 = .ok (.lreturn, 1) := by decide +kernel
theorem d12_luckOf_115 : decode cX12_luckOf 115 = .ok (.lload 5, 2) := by decide +kernel
theorem d12_luckOf_117 : decode cX12_luckOf 117 = .ok (.iload_n 3, 1) := by decide +kernel
theorem d12_luckOf_118 : decode cX12_luckOf 118 = .ok (.invokestatic 452, 3) := by decide +kernel
theorem d12_luckOf_121 : decode cX12_luckOf 121 = .ok (.iload 4, 2) := by decide +kernel
theorem d12_luckOf_123 : decode cX12_luckOf 123 = .ok (.i2l, 1) := by decide +kernel
theorem d12_luckOf_124 : decode cX12_luckOf 124 = .ok (.ldiv, 1) := by decide +kernel
theorem d12_luckOf_125 : decode cX12_luckOf 125 = .ok (.lmul, 1) := by decide +kernel
theorem d12_luckOf_126 : decode cX12_luckOf 126 = .ok (.lreturn, 1) := by decide +kernel
abbrev K12_luckOf (d : Nat) : CK Int64 := (enL, (some .long), 9, d, none)
noncomputable def F12_luckOf_b91 (N : Nat) (r12_luckOf : Int32 → Int32 → Ms → Option (Int64 × Ms)) (k14 : Int32 × Int32 × Int32 × Int32 × Int64 × Int32 × Ms → Option (Int64 × Ms)) (l1 : Int32) (l2 : Int32) (l3 : Int32) (l4 : Int32) (l5 : Int64) (l7 : Int32) (σ : Ms) : Option (Int64 × Ms) :=
  k14 (l1, l2, l3, l4, l5, (l7 + (1 : Int32)), σ)
noncomputable def F12_luckOf_b14B (N : Nat) (r12_luckOf : Int32 → Int32 → Ms → Option (Int64 × Ms)) (k14 : Int32 × Int32 × Int32 × Int32 × Int64 × Int32 × Ms → Option (Int64 × Ms)) (l1 : Int32) (l2 : Int32) (l3 : Int32) (l4 : Int32) (l5 : Int64) (l7 : Int32) (σ : Ms) : Option (Int64 × Ms) :=
  ck (ixb (0 : Int32) 1780) (if (σ.1 5 (0 : Int32).toNatClampNeg) ≤ l7 then (if l4 ≠ 0 then (bn (F12_commonOf l3 σ) (fun r1 t2 => ck (!((l4.toInt64) == 0)) (some ((l5 * (r1 / (l4.toInt64))), t2))))
  else (if l2 ≠ 0 then (bn (F12_wholeOf N l3 σ) (fun r3 t4 => some (r3, t4)))
  else (some ((0 : Int64), σ))))
  else (bn (F12_has l1 l7 σ) (fun r5 t6 => if r5 = 0 then (F12_luckOf_b91 N r12_luckOf k14 l1 l2 l3 l4 l5 l7 t6)
  else (bn (F12_may l2 l7 t6) (fun r7 t8 => if r7 ≠ 0 then (bn (F12_standsBut N l1 ((1 : Int32) <<< (l7 &&& 31)) t8) (fun r9 t10 => bn (r12_luckOf r9 ((1 : Int32) - l2) t10) (fun r11 t12 => bn (F12_wholeOf N (l3 - (1 : Int32)) t12) (fun r13 t14 => bn (F12_sizeOf N r9 t14) (fun r15 t16 => bn (F12_wholeOf N r15 t16) (fun r17 t18 => ck (!(r17 == 0)) (lt (l5 + (r11 * (r13 / r17))) (fun x19 => F12_luckOf_b91 N r12_luckOf k14 l1 l2 l3 (l4 + (1 : Int32)) x19 l7 t18))))))))
  else (F12_luckOf_b91 N r12_luckOf k14 l1 l2 l3 l4 l5 l7 t8))))))
noncomputable def F12_luckOf_b14 (N : Nat) (r12_luckOf : Int32 → Int32 → Ms → Option (Int64 × Ms)) (l1 : Int32) (l2 : Int32) (l3 : Int32) (l4 : Int32) (l5 : Int64) (l7 : Int32) (σ : Ms) : Option (Int64 × Ms) :=
  fx N (fun k x => F12_luckOf_b14B N r12_luckOf k x.1 x.2.1 x.2.2.1 x.2.2.2.1 x.2.2.2.2.1 x.2.2.2.2.2.1 x.2.2.2.2.2.2) (l1, l2, l3, l4, l5, l7, σ)
noncomputable def F12_luckOfB (N : Nat) (r12_luckOf : Int32 → Int32 → Ms → Option (Int64 × Ms)) (p0 : Int32) (p1 : Int32) (σ : Ms) : Option (Int64 × Ms) :=
  bn (F12_sizeOf N p0 σ) (fun r20 t21 => F12_luckOf_b14 N r12_luckOf p0 p1 r20 (0 : Int32) (0 : Int64) (0 : Int32) t21)
set_option maxRecDepth 100000 in
theorem v12_luckOf_b91 {d dluckOf : Nat} (hdluckOf : dluckOf + 1 ≤ d) (hd0 : 3 ≤ d) (N : Nat) (r12_luckOf : Int32 → Int32 → Ms → Option (Int64 × Ms)) (hr12_luckOf : ∀ (p0 : Int32) (p1 : Int32) (σ : Ms), MC enL yX12_luckOf cX12_luckOf 9 (some .long) dluckOf (r12_luckOf p0 p1 σ) σ [.ref 0, .int p0, .int p1]) (k14 : Int32 × Int32 × Int32 × Int32 × Int64 × Int32 × Ms → Option (Int64 × Ms)) (hk14 : ∀ (l1 : Int32) (l2 : Int32) (l3 : Int32) (l4 : Int32) (l5 : Int64) (l7 : Int32) (τ : Ms), VF (K12_luckOf d) cX12_luckOf RX12 (k14 (l1, l2, l3, l4, l5, l7, τ)) τ 14 [(0, .ref 0), (1, .int l1), (2, .int l2), (3, .int l3), (4, .int l4), (5, .long l5), (7, .int l7)] []) (l1 : Int32) (l2 : Int32) (l3 : Int32) (l4 : Int32) (l5 : Int64) (l7 : Int32) (σ : Ms) : VF (K12_luckOf d) cX12_luckOf RX12 (F12_luckOf_b91 N r12_luckOf k14 l1 l2 l3 l4 l5 l7 σ) σ 91 [(0, .ref 0), (1, .int l1), (2, .int l2), (3, .int l3), (4, .int l4), (5, .long l5), (7, .int l7)] [] := by
  unfold F12_luckOf_b91
  refine v_iinc (lv' := [(7, .int (l7 + (1 : Int32))), (0, .ref 0), (1, .int l1), (2, .int l2), (3, .int l3), (4, .int l4), (5, .long l5)]) d12_luckOf_91 6 rfl (by rw [ki_1]) (show 7 < 9 by decide) rfl ?_
  refine v_goto (tgt := 14) d12_luckOf_94 (by decide) ?_
  refine v_sub [1, 2, 3, 4, 5, 6, 0] rfl ?_
  exact hk14 l1 l2 l3 l4 l5 (l7 + (1 : Int32)) σ
set_option maxRecDepth 100000 in
theorem v12_luckOf_b14B {d dluckOf : Nat} (hdluckOf : dluckOf + 1 ≤ d) (hd0 : 3 ≤ d) (N : Nat) (r12_luckOf : Int32 → Int32 → Ms → Option (Int64 × Ms)) (hr12_luckOf : ∀ (p0 : Int32) (p1 : Int32) (σ : Ms), MC enL yX12_luckOf cX12_luckOf 9 (some .long) dluckOf (r12_luckOf p0 p1 σ) σ [.ref 0, .int p0, .int p1]) (k14 : Int32 × Int32 × Int32 × Int32 × Int64 × Int32 × Ms → Option (Int64 × Ms)) (hk14 : ∀ (l1 : Int32) (l2 : Int32) (l3 : Int32) (l4 : Int32) (l5 : Int64) (l7 : Int32) (τ : Ms), VF (K12_luckOf d) cX12_luckOf RX12 (k14 (l1, l2, l3, l4, l5, l7, τ)) τ 14 [(0, .ref 0), (1, .int l1), (2, .int l2), (3, .int l3), (4, .int l4), (5, .long l5), (7, .int l7)] []) (l1 : Int32) (l2 : Int32) (l3 : Int32) (l4 : Int32) (l5 : Int64) (l7 : Int32) (σ : Ms) : VF (K12_luckOf d) cX12_luckOf RX12 (F12_luckOf_b14B N r12_luckOf k14 l1 l2 l3 l4 l5 l7 σ) σ 14 [(0, .ref 0), (1, .int l1), (2, .int l2), (3, .int l3), (4, .int l4), (5, .long l5), (7, .int l7)] [] := by
  unfold F12_luckOf_b14B
  refine v_iload d12_luckOf_14 6 rfl ?_
  refine v_aload_n d12_luckOf_16 0 rfl rfl ?_
  refine v_getR d12_luckOf_17 faX12_35 ic_0 rfl ?_
  refine v_iconst d12_luckOf_20 ki_0 ?_
  refine v_iald d12_luckOf_21 ic_5 ?_
  refine v_icmp_ge (tgt := 97) d12_luckOf_22 (by decide) ?_ ?_
  · refine v_iload d12_luckOf_97 4 rfl ?_
    refine v_if_ne (tgt := 115) d12_luckOf_99 (by decide) ?_ ?_
    · refine v_lload d12_luckOf_115 5 rfl ?_
      refine v_iload_n d12_luckOf_117 3 rfl rfl ?_
      refine v_callS1l d12_luckOf_118 (mc12_commonOf l3 σ) ys12_commonOf mlX12_452 (Nat.le_trans (by decide) hd0) (Nat.le_of_ble_eq_true rfl) fun r1 t2 => ?_
      refine v_iload d12_luckOf_121 4 rfl ?_
      refine v_i2l d12_luckOf_123 ?_
      refine v_ldiv d12_luckOf_124 ?_
      refine v_lmul d12_luckOf_125 ?_
      exact v_lret d12_luckOf_126 rfl rfl
    · refine v_iload_n d12_luckOf_102 2 rfl rfl ?_
      refine v_if_ne (tgt := 110) d12_luckOf_103 (by decide) ?_ ?_
      · refine v_iload_n d12_luckOf_110 3 rfl rfl ?_
        refine v_callS1l d12_luckOf_111 (mc12_wholeOf N l3 σ) ys12_wholeOf mlX12_459 (Nat.le_trans (by decide) hd0) (Nat.le_of_ble_eq_true rfl) fun r3 t4 => ?_
        exact v_lret d12_luckOf_114 rfl rfl
      · refine v_lconst d12_luckOf_106 kl_0 ?_
        refine v_goto (tgt := 114) d12_luckOf_107 (by decide) ?_
        exact v_lret d12_luckOf_114 rfl rfl
  · refine v_iload_n d12_luckOf_25 1 rfl rfl ?_
    refine v_iload d12_luckOf_26 6 rfl ?_
    refine v_callS2i d12_luckOf_28 (mc12_has l1 l7 σ) ys12_has mlX12_92 (Nat.le_trans (by decide) hd0) (Nat.le_of_ble_eq_true rfl) fun r5 t6 => ?_
    refine v_if_eq (tgt := 91) d12_luckOf_31 (by decide) ?_ ?_
    · exact v12_luckOf_b91 hdluckOf hd0 N r12_luckOf hr12_luckOf k14 hk14 l1 l2 l3 l4 l5 l7 t6
    · refine v_aload_n d12_luckOf_34 0 rfl rfl ?_
      refine v_iload_n d12_luckOf_35 2 rfl rfl ?_
      refine v_iload d12_luckOf_36 6 rfl ?_
      refine v_callV2i d12_luckOf_38 (mc12_may l2 l7 t6) yv12_may mlX12_335 (Recv.obj ic_0 rfl) (Nat.le_trans (by decide) hd0) (Nat.le_of_ble_eq_true rfl) fun r7 t8 => ?_
      refine v_if_ne (tgt := 47) d12_luckOf_41 (by decide) ?_ ?_
      · refine v_aload_n d12_luckOf_47 0 rfl rfl ?_
        refine v_iload_n d12_luckOf_48 1 rfl rfl ?_
        refine v_iconst d12_luckOf_49 ki_1 ?_
        refine v_iload d12_luckOf_50 6 rfl ?_
        refine v_ishl d12_luckOf_52 ?_
        refine v_callV2i d12_luckOf_53 (mc12_standsBut N l1 ((1 : Int32) <<< (l7 &&& 31)) t8) yv12_standsBut mlX12_274 (Recv.obj ic_0 rfl) (Nat.le_trans (by decide) hd0) (Nat.le_of_ble_eq_true rfl) fun r9 t10 => ?_
        refine v_istore (lv' := [(8, .int r9), (0, .ref 0), (1, .int l1), (2, .int l2), (3, .int l3), (4, .int l4), (5, .long l5), (7, .int l7)]) d12_luckOf_56 (show 8 < 9 by decide) rfl ?_
        refine v_lload d12_luckOf_58 6 rfl ?_
        refine v_aload_n d12_luckOf_60 1 rfl rfl ?_
        refine v_iload d12_luckOf_61 0 rfl ?_
        refine v_iconst d12_luckOf_63 ki_1 ?_
        refine v_iload_n d12_luckOf_64 3 rfl rfl ?_
        refine v_isub d12_luckOf_65 ?_
        refine v_callV2l d12_luckOf_66 (hr12_luckOf r9 ((1 : Int32) - l2) t10) yv12_luckOf mlX12_456 (Recv.obj ic_0 rfl) hdluckOf (Nat.le_of_ble_eq_true rfl) fun r11 t12 => ?_
        refine v_iload_n d12_luckOf_69 4 rfl rfl ?_
        refine v_iconst d12_luckOf_70 ki_1 ?_
        refine v_isub d12_luckOf_71 ?_
        refine v_callS1l d12_luckOf_72 (mc12_wholeOf N (l3 - (1 : Int32)) t12) ys12_wholeOf mlX12_459 (Nat.le_trans (by decide) hd0) (Nat.le_of_ble_eq_true rfl) fun r13 t14 => ?_
        refine v_iload d12_luckOf_75 0 rfl ?_
        refine v_callS1i d12_luckOf_77 (mc12_sizeOf N r9 t14) ys12_sizeOf mlX12_277 (Nat.le_trans (by decide) hd0) (Nat.le_of_ble_eq_true rfl) fun r15 t16 => ?_
        refine v_callS1l d12_luckOf_80 (mc12_wholeOf N r15 t16) ys12_wholeOf mlX12_459 (Nat.le_trans (by decide) hd0) (Nat.le_of_ble_eq_true rfl) fun r17 t18 => ?_
        refine v_ldiv d12_luckOf_83 ?_
        refine v_lmul d12_luckOf_84 ?_
        refine v_ladd d12_luckOf_85 ?_
        refine v_ltl fun x19 => ?_
        refine v_lstore (lv' := [(5, .long x19), (8, .int r9), (0, .ref 0), (1, .int l1), (2, .int l2), (3, .int l3), (4, .int l4), (7, .int l7)]) d12_luckOf_86 (show 6 < 9 by decide) rfl ?_
        refine v_iinc (lv' := [(4, .int (l4 + (1 : Int32))), (5, .long x19), (8, .int r9), (0, .ref 0), (1, .int l1), (2, .int l2), (3, .int l3), (7, .int l7)]) d12_luckOf_88 6 rfl (by rw [ki_1]) (show 4 < 9 by decide) rfl ?_
        refine v_sub [3, 4, 5, 6, 0, 1, 7] rfl ?_
        exact v12_luckOf_b91 hdluckOf hd0 N r12_luckOf hr12_luckOf k14 hk14 l1 l2 l3 (l4 + (1 : Int32)) x19 l7 t18
      · refine v_goto (tgt := 91) d12_luckOf_44 (by decide) ?_
        exact v12_luckOf_b91 hdluckOf hd0 N r12_luckOf hr12_luckOf k14 hk14 l1 l2 l3 l4 l5 l7 t8
theorem v12_luckOf_b14 {d dluckOf : Nat} (hdluckOf : dluckOf + 1 ≤ d) (hd0 : 3 ≤ d) (N : Nat) (r12_luckOf : Int32 → Int32 → Ms → Option (Int64 × Ms)) (hr12_luckOf : ∀ (p0 : Int32) (p1 : Int32) (σ : Ms), MC enL yX12_luckOf cX12_luckOf 9 (some .long) dluckOf (r12_luckOf p0 p1 σ) σ [.ref 0, .int p0, .int p1]) (l1 : Int32) (l2 : Int32) (l3 : Int32) (l4 : Int32) (l5 : Int64) (l7 : Int32) (σ : Ms) : VF (K12_luckOf d) cX12_luckOf RX12 (F12_luckOf_b14 N r12_luckOf l1 l2 l3 l4 l5 l7 σ) σ 14 [(0, .ref 0), (1, .int l1), (2, .int l2), (3, .int l3), (4, .int l4), (5, .long l5), (7, .int l7)] [] := v_fx (σo := fun x => x.2.2.2.2.2.2) (lo := fun x => [(0, .ref 0), (1, .int x.1), (2, .int x.2.1), (3, .int x.2.2.1), (4, .int x.2.2.2.1), (5, .long x.2.2.2.2.1), (7, .int x.2.2.2.2.2.1)]) (fun k hk x => v12_luckOf_b14B hdluckOf hd0 N r12_luckOf hr12_luckOf k (fun l1 l2 l3 l4 l5 l7 τ => hk (l1, l2, l3, l4, l5, l7, τ)) x.1 x.2.1 x.2.2.1 x.2.2.2.1 x.2.2.2.2.1 x.2.2.2.2.2.1 x.2.2.2.2.2.2) N (l1, l2, l3, l4, l5, l7, σ)
set_option maxRecDepth 100000 in
theorem mc12_luckOfB {d dluckOf : Nat} (hdluckOf : dluckOf + 1 ≤ d) (hd0 : 3 ≤ d)  (N : Nat) (r12_luckOf : Int32 → Int32 → Ms → Option (Int64 × Ms)) (hr12_luckOf : ∀ (p0 : Int32) (p1 : Int32) (σ : Ms), MC enL yX12_luckOf cX12_luckOf 9 (some .long) dluckOf (r12_luckOf p0 p1 σ) σ [.ref 0, .int p0, .int p1]) (p0 : Int32) (p1 : Int32) (σ : Ms) : MC enL yX12_luckOf cX12_luckOf 9 (some .long) d (F12_luckOfB N r12_luckOf p0 p1 σ) σ [.ref 0, .int p0, .int p1] := by
  refine MC.l (by decide +kernel) (Nat.le_of_ble_eq_true rfl) ?_
  show VF (K12_luckOf d) cX12_luckOf RX12 (F12_luckOfB N r12_luckOf p0 p1 σ) σ 0 [(0, .ref 0), (1, .int p0), (2, .int p1)] []
  unfold F12_luckOfB
  refine v_iload_n d12_luckOf_0 1 rfl rfl ?_
  refine v_callS1i d12_luckOf_1 (mc12_sizeOf N p0 σ) ys12_sizeOf mlX12_277 (Nat.le_trans (by decide) hd0) (Nat.le_of_ble_eq_true rfl) fun r20 t21 => ?_
  refine v_istore_n (lv' := [(3, .int r20), (0, .ref 0), (1, .int p0), (2, .int p1)]) d12_luckOf_4 rfl (show 3 < 9 by decide) rfl ?_
  refine v_iconst d12_luckOf_5 ki_0 ?_
  refine v_istore (lv' := [(4, .int (0 : Int32)), (3, .int r20), (0, .ref 0), (1, .int p0), (2, .int p1)]) d12_luckOf_6 (show 4 < 9 by decide) rfl ?_
  refine v_lconst d12_luckOf_8 kl_0 ?_
  refine v_lstore (lv' := [(5, .long (0 : Int64)), (4, .int (0 : Int32)), (3, .int r20), (0, .ref 0), (1, .int p0), (2, .int p1)]) d12_luckOf_9 (show 6 < 9 by decide) rfl ?_
  refine v_iconst d12_luckOf_11 ki_0 ?_
  refine v_istore (lv' := [(7, .int (0 : Int32)), (5, .long (0 : Int64)), (4, .int (0 : Int32)), (3, .int r20), (0, .ref 0), (1, .int p0), (2, .int p1)]) d12_luckOf_12 (show 7 < 9 by decide) rfl ?_
  refine v_sub [4, 5, 6, 3, 2, 1, 0] rfl ?_
  exact v12_luckOf_b14 hdluckOf hd0 N r12_luckOf hr12_luckOf p0 p1 r20 (0 : Int32) (0 : Int64) (0 : Int32) t21
noncomputable def F12_luckOf (N : Nat) : Nat → Int32 → Int32 → Ms → Option (Int64 × Ms)
  | 0, _, _, _ => none
  | D + 1, p0, p1, σ => F12_luckOfB N (F12_luckOf N D) p0 p1 σ
theorem mc12_luckOf (N : Nat) : ∀ (D : Nat) (p0 : Int32) (p1 : Int32) (σ : Ms), MC enL yX12_luckOf cX12_luckOf 9 (some .long) (3 + D) (F12_luckOf N D p0 p1 σ) σ [.ref 0, .int p0, .int p1]
  | 0, _, _, _ => MC_none
  | D + 1, p0, p1, σ => mc12_luckOfB (d := 3 + (D + 1)) (dluckOf := 3 + D) (Nat.le_refl _) (by omega) N (F12_luckOf N D) (mc12_luckOf N D) p0 p1 σ
theorem d12_luck_0 : decode cX12_luck 0 = .ok (.aload_n 0, 1) := by decide +kernel
theorem d12_luck_1 : decode cX12_luck 1 = .ok (.iconst 0, 1) := by decide +kernel
theorem d12_luck_2 : decode cX12_luck 2 = .ok (.putfield 53, 3) := by decide +kernel
theorem d12_luck_5 : decode cX12_luck 5 = .ok (.aload_n 0, 1) := by decide +kernel
theorem d12_luck_6 : decode cX12_luck 6 = .ok (.iconst 0, 1) := by decide +kernel
theorem d12_luck_7 : decode cX12_luck 7 = .ok (.putfield 56, 3) := by decide +kernel
theorem d12_luck_10 : decode cX12_luck 10 = .ok (.iload_n 1, 1) := by decide +kernel
theorem d12_luck_11 : decode cX12_luck 11 = .ok (.invokestatic 297, 3) := by decide +kernel
theorem d12_luck_14 : decode cX12_luck 14 = .ok (.ifCond .ne 9, 3) := by decide +kernel
theorem d12_luck_17 : decode cX12_luck 17 = .ok (.aload_n 0, 1) := by decide +kernel
theorem d12_luck_18 : decode cX12_luck 18 = .ok (.iconst 2, 1) := by decide +kernel
theorem d12_luck_19 : decode cX12_luck 19 = .ok (.invokevirtual 68, 3) := by decide +kernel
theorem d12_luck_22 : decode cX12_luck 22 = .ok (.ireturn, 1) := by decide +kernel
theorem d12_luck_23 : decode cX12_luck 23 = .ok (.aload_n 0, 1) := by decide +kernel
theorem d12_luck_24 : decode cX12_luck 24 = .ok (.invokevirtual 268, 3) := by decide +kernel
theorem d12_luck_27 : decode cX12_luck 27 = .ok (.invokestatic 277, 3) := by decide +kernel
theorem d12_luck_30 : decode cX12_luck 30 = .ok (.bipush 6, 2) := by decide +kernel
theorem d12_luck_32 : decode cX12_luck 32 = .ok (.if_icmp .gt 33, 3) := by decide +kernel
theorem d12_luck_35 : decode cX12_luck 35 = .ok (.aload_n 0, 1) := by decide +kernel
theorem d12_luck_36 : decode cX12_luck 36 = .ok (.invokevirtual 271, 3) := by decide +kernel
theorem d12_luck_39 : decode cX12_luck 39 = .ok (.iconst 1, 1) := by decide +kernel
theorem d12_luck_40 : decode cX12_luck 40 = .ok (.aload_n 0, 1) := by decide +kernel
theorem d12_luck_41 : decode cX12_luck 41 = .ok (.getfield 35, 3) := by decide +kernel
theorem d12_luck_44 : decode cX12_luck 44 = .ok (.iconst 2, 1) := by decide +kernel
theorem d12_luck_45 : decode cX12_luck 45 = .ok (.iaload, 1) := by decide +kernel
theorem d12_luck_46 : decode cX12_luck 46 = .ok (.ishl, 1) := by decide +kernel
theorem d12_luck_47 : decode cX12_luck 47 = .ok (.iconst 1, 1) := by decide +kernel
theorem d12_luck_48 : decode cX12_luck 48 = .ok (.isub, 1) := by decide +kernel
theorem d12_luck_49 : decode cX12_luck 49 = .ok (.if_icmp .ne 16, 3) := by decide +kernel
theorem d12_luck_52 : decode cX12_luck 52 = .ok (.aload_n 0, 1) := by decide +kernel
theorem d12_luck_53 : decode cX12_luck 53 = .ok (.getfield 35, 3) := by decide +kernel
theorem d12_luck_56 : decode cX12_luck 56 = .ok (.iconst 3, 1) := by decide +kernel
theorem d12_luck_57 : decode cX12_luck 57 = .ok (.iaload, 1) := by decide +kernel
theorem d12_luck_58 : decode cX12_luck 58 = .ok (.ifCond .ne 7, 3) := by decide +kernel
theorem d12_luck_61 : decode cX12_luck 61 = .ok (.iconst 1, 1) := by decide +kernel
theorem d12_luck_62 : decode cX12_luck 62 = .ok (.goto 4, 3) := by decide +kernel
theorem d12_luck_65 : decode cX12_luck 65 = .ok (.iconst 0, 1) := by decide +kernel
theorem d12_luck_66 : decode cX12_luck 66 = .ok (.istore_n 2, 1) := by decide +kernel
theorem d12_luck_67 : decode cX12_luck 67 = .ok (.iconst 0, 1) := by decide +kernel
theorem d12_luck_68 : decode cX12_luck 68 = .ok (.istore_n 3, 1) := by decide +kernel
theorem d12_luck_69 : decode cX12_luck 69 = .ok (.iload_n 3, 1) := by decide +kernel
theorem d12_luck_70 : decode cX12_luck 70 = .ok (.aload_n 0, 1) := by decide +kernel
theorem d12_luck_71 : decode cX12_luck 71 = .ok (.getfield 35, 3) := by decide +kernel
theorem d12_luck_74 : decode cX12_luck 74 = .ok (.iconst 1, 1) := by decide +kernel
theorem d12_luck_75 : decode cX12_luck 75 = .ok (.iaload, 1) := by decide +kernel
theorem d12_luck_76 : decode cX12_luck 76 = .ok (.if_icmp .ge 31, 3) := by decide +kernel
theorem d12_luck_79 : decode cX12_luck 79 = .ok (.iload_n 2, 1) := by decide +kernel
theorem d12_luck_80 : decode cX12_luck 80 = .ok (.ifCond .eq 19, 3) := by decide +kernel
theorem d12_luck_83 : decode cX12_luck 83 = .ok (.aload_n 0, 1) := by decide +kernel
theorem d12_luck_84 : decode cX12_luck 84 = .ok (.getfield 35, 3) := by decide +kernel
theorem d12_luck_87 : decode cX12_luck 87 = .ok (.bipush 65, 2) := by decide +kernel
theorem d12_luck_89 : decode cX12_luck 89 = .ok (.iload_n 3, 1) := by decide +kernel
theorem d12_luck_90 : decode cX12_luck 90 = .ok (.iadd, 1) := by decide +kernel
theorem d12_luck_91 : decode cX12_luck 91 = .ok (.iaload, 1) := by decide +kernel
theorem d12_luck_92 : decode cX12_luck 92 = .ok (.ifCond .ne 7, 3) := by decide +kernel
theorem d12_luck_95 : decode cX12_luck 95 = .ok (.iconst 1, 1) := by decide +kernel
theorem d12_luck_96 : decode cX12_luck 96 = .ok (.goto 4, 3) := by decide +kernel
theorem d12_luck_99 : decode cX12_luck 99 = .ok (.iconst 0, 1) := by decide +kernel
theorem d12_luck_100 : decode cX12_luck 100 = .ok (.istore_n 2, 1) := by decide +kernel
theorem d12_luck_101 : decode cX12_luck 101 = .ok (.iinc 3 1, 3) := by decide +kernel
theorem d12_luck_104 : decode cX12_luck 104 = .ok (.goto (-35), 3) := by decide +kernel
theorem d12_luck_107 : decode cX12_luck 107 = .ok (.iload_n 2, 1) := by decide +kernel
theorem d12_luck_108 : decode cX12_luck 108 = .ok (.ifCond .eq 29, 3) := by decide +kernel
theorem d12_luck_111 : decode cX12_luck 111 = .ok (.aload_n 0, 1) := by decide +kernel
theorem d12_luck_112 : decode cX12_luck 112 = .ok (.aload_n 0, 1) := by decide +kernel
theorem d12_luck_113 : decode cX12_luck 113 = .ok (.aload_n 0, 1) := by decide +kernel
theorem d12_luck_114 : decode cX12_luck 114 = .ok (.invokevirtual 268, 3) := by decide +kernel
theorem d12_luck_117 : decode cX12_luck 117 = .ok (.iload_n 1, 1) := by decide +kernel
theorem d12_luck_118 : decode cX12_luck 118 = .ok (.invokevirtual 456, 3) := by decide +kernel
theorem d12_luck_121 : decode cX12_luck 121 = .ok (.aload_n 0, 1) := by decide +kernel
theorem d12_luck_122 : decode cX12_luck 122 = .ok (.invokevirtual 268, 3) := by decide +kernel
theorem d12_luck_125 : decode cX12_luck 125 = .ok (.invokestatic 277, 3) := by decide +kernel
theorem d12_luck_128 : decode cX12_luck 128 = .ok (.invokestatic 459, 3) := by decide +kernel
theorem d12_luck_131 : decode cX12_luck 131 = .ok (.invokevirtual 327, 3) := by decide +kernel
theorem d12_luck_134 : decode cX12_luck 134 = .ok (.goto 9, 3) := by decide +kernel
theorem d12_luck_137 : decode cX12_luck 137 = .ok (.aload_n 0, 1) := by decide +kernel
theorem d12_luck_138 : decode cX12_luck 138 = .ok (.bipush 9, 2) := by decide +kernel
theorem d12_luck_140 : decode cX12_luck 140 = .ok (.invokevirtual 68, 3) := by decide +kernel
theorem d12_luck_143 : decode cX12_luck 143 = .ok (.ireturn, 1) := by decide +kernel
abbrev K12_luck : CK Int32 := (enI, (some .boolean), 4, 11, none)
noncomputable def F12_luck_b100 (N : Nat) (k69 : Int32 × Int32 × Int32 × Ms → Option (Int32 × Ms)) (l1 : Int32) (l3 : Int32) (s0 : Int32) (σ : Ms) : Option (Int32 × Ms) :=
  k69 (l1, s0, (l3 + (1 : Int32)), σ)
noncomputable def F12_luck_b99 (N : Nat) (k69 : Int32 × Int32 × Int32 × Ms → Option (Int32 × Ms)) (l1 : Int32) (l3 : Int32) (σ : Ms) : Option (Int32 × Ms) :=
  F12_luck_b100 N k69 l1 l3 (0 : Int32) σ
noncomputable def F12_luck_b69B (N : Nat) (k69 : Int32 × Int32 × Int32 × Ms → Option (Int32 × Ms)) (l1 : Int32) (l2 : Int32) (l3 : Int32) (σ : Ms) : Option (Int32 × Ms) :=
  ck (ixb (1 : Int32) 1780) (if (σ.1 5 (1 : Int32).toNatClampNeg) ≤ l3 then (if l2 = 0 then (bn (F12_no (9 : Int32) σ) (fun r1 t2 => ck (nkB r1) (some (r1, t2))))
  else (bn (F12_standing N σ) (fun r3 t4 => bn (F12_luckOf N 7 r3 l1 t4) (fun r5 t6 => bn (F12_standing N t6) (fun r7 t8 => bn (F12_sizeOf N r7 t8) (fun r9 t10 => bn (F12_wholeOf N r9 t10) (fun r11 t12 => bn (F12_fraction N r5 r11 t12) (fun r13 t14 => ck (nkB r13) (some (r13, t14))))))))))
  else (if l2 = 0 then (F12_luck_b99 N k69 l1 l3 σ)
  else (ck (ixb ((65 : Int32) + l3) 1780) (if (σ.1 5 ((65 : Int32) + l3).toNatClampNeg) ≠ 0 then (F12_luck_b99 N k69 l1 l3 σ)
  else (F12_luck_b100 N k69 l1 l3 (1 : Int32) σ)))))
noncomputable def F12_luck_b69 (N : Nat) (l1 : Int32) (l2 : Int32) (l3 : Int32) (σ : Ms) : Option (Int32 × Ms) :=
  fx N (fun k x => F12_luck_b69B N k x.1 x.2.1 x.2.2.1 x.2.2.2) (l1, l2, l3, σ)
noncomputable def F12_luck_b66 (N : Nat) (l1 : Int32) (s0 : Int32) (σ : Ms) : Option (Int32 × Ms) :=
  F12_luck_b69 N l1 s0 (0 : Int32) σ
noncomputable def F12_luck_b65 (N : Nat) (l1 : Int32) (σ : Ms) : Option (Int32 × Ms) :=
  F12_luck_b66 N l1 (0 : Int32) σ
noncomputable def F12_luck (N : Nat) (p0 : Int32) (σ : Ms) : Option (Int32 × Ms) :=
  lt (sI σ 0 1 (0 : Int32)) (fun t15 => lt (sI t15 0 0 (0 : Int32)) (fun t16 => bn (F12_isSideAt p0 t16) (fun r17 t18 => if r17 ≠ 0 then (bn (F12_standing N t18) (fun r19 t20 => bn (F12_sizeOf N r19 t20) (fun r21 t22 => if (6 : Int32) < r21 then (F12_luck_b65 N p0 t22)
  else (bn (F12_taken N t22) (fun r23 t24 => ck (ixb (2 : Int32) 1780) (if r23 ≠ (((1 : Int32) <<< ((t24.1 5 (2 : Int32).toNatClampNeg) &&& 31)) - (1 : Int32)) then (F12_luck_b65 N p0 t24)
  else (ck (ixb (3 : Int32) 1780) (if (t24.1 5 (3 : Int32).toNatClampNeg) ≠ 0 then (F12_luck_b65 N p0 t24)
  else (F12_luck_b66 N p0 (1 : Int32) t24)))))))))
  else (bn (F12_no (2 : Int32) t18) (fun r25 t26 => ck (nkB r25) (some (r25, t26)))))))
set_option maxRecDepth 100000 in
theorem v12_luck_b100 (N : Nat) (k69 : Int32 × Int32 × Int32 × Ms → Option (Int32 × Ms)) (hk69 : ∀ (l1 : Int32) (l2 : Int32) (l3 : Int32) (τ : Ms), VF (K12_luck) cX12_luck RX12 (k69 (l1, l2, l3, τ)) τ 69 [(0, .ref 0), (1, .int l1), (2, .int l2), (3, .int l3)] []) (l1 : Int32) (l3 : Int32) (s0 : Int32) (σ : Ms) : VF (K12_luck) cX12_luck RX12 (F12_luck_b100 N k69 l1 l3 s0 σ) σ 100 [(0, .ref 0), (1, .int l1), (3, .int l3)] [.int s0] := by
  unfold F12_luck_b100
  refine v_istore_n (lv' := [(2, .int s0), (0, .ref 0), (1, .int l1), (3, .int l3)]) d12_luck_100 rfl (by decide) rfl ?_
  refine v_iinc (lv' := [(3, .int (l3 + (1 : Int32))), (2, .int s0), (0, .ref 0), (1, .int l1)]) d12_luck_101 3 rfl (by rw [ki_1]) (by decide) rfl ?_
  refine v_goto (tgt := 69) d12_luck_104 (by decide) ?_
  refine v_sub [2, 3, 1, 0] rfl ?_
  exact hk69 l1 s0 (l3 + (1 : Int32)) σ
set_option maxRecDepth 100000 in
theorem v12_luck_b99 (N : Nat) (k69 : Int32 × Int32 × Int32 × Ms → Option (Int32 × Ms)) (hk69 : ∀ (l1 : Int32) (l2 : Int32) (l3 : Int32) (τ : Ms), VF (K12_luck) cX12_luck RX12 (k69 (l1, l2, l3, τ)) τ 69 [(0, .ref 0), (1, .int l1), (2, .int l2), (3, .int l3)] []) (l1 : Int32) (l3 : Int32) (σ : Ms) : VF (K12_luck) cX12_luck RX12 (F12_luck_b99 N k69 l1 l3 σ) σ 99 [(0, .ref 0), (1, .int l1), (3, .int l3)] [] := by
  unfold F12_luck_b99
  refine v_iconst d12_luck_99 ki_0 ?_
  exact v12_luck_b100 N k69 hk69 l1 l3 (0 : Int32) σ
set_option maxRecDepth 100000 in
theorem v12_luck_b69B (N : Nat) (k69 : Int32 × Int32 × Int32 × Ms → Option (Int32 × Ms)) (hk69 : ∀ (l1 : Int32) (l2 : Int32) (l3 : Int32) (τ : Ms), VF (K12_luck) cX12_luck RX12 (k69 (l1, l2, l3, τ)) τ 69 [(0, .ref 0), (1, .int l1), (2, .int l2), (3, .int l3)] []) (l1 : Int32) (l2 : Int32) (l3 : Int32) (σ : Ms) : VF (K12_luck) cX12_luck RX12 (F12_luck_b69B N k69 l1 l2 l3 σ) σ 69 [(0, .ref 0), (1, .int l1), (2, .int l2), (3, .int l3)] [] := by
  unfold F12_luck_b69B
  refine v_iload_n d12_luck_69 3 rfl rfl ?_
  refine v_aload_n d12_luck_70 0 rfl rfl ?_
  refine v_getR d12_luck_71 faX12_35 ic_0 rfl ?_
  refine v_iconst d12_luck_74 ki_1 ?_
  refine v_iald d12_luck_75 ic_5 ?_
  refine v_icmp_ge (tgt := 107) d12_luck_76 (by decide) ?_ ?_
  · refine v_iload_n d12_luck_107 2 rfl rfl ?_
    refine v_if_eq (tgt := 137) d12_luck_108 (by decide) ?_ ?_
    · refine v_aload_n d12_luck_137 0 rfl rfl ?_
      refine v_bipush d12_luck_138 kb_9 ?_
      refine v_callV1i d12_luck_140 (mc12_no (9 : Int32) σ) yv12_no mlX12_68 (Recv.obj ic_0 rfl) (by decide) (Nat.le_of_ble_eq_true rfl) fun r1 t2 => ?_
      exact v_iretB d12_luck_143 rfl rfl
    · refine v_aload_n d12_luck_111 0 rfl rfl ?_
      refine v_aload_n d12_luck_112 0 rfl rfl ?_
      refine v_aload_n d12_luck_113 0 rfl rfl ?_
      refine v_callV0i d12_luck_114 (mc12_standing N σ) yv12_standing mlX12_268 (Recv.obj ic_0 rfl) (by decide) (Nat.le_of_ble_eq_true rfl) fun r3 t4 => ?_
      refine v_iload_n d12_luck_117 1 rfl rfl ?_
      refine v_callV2l d12_luck_118 (mc12_luckOf N 7 r3 l1 t4) yv12_luckOf mlX12_456 (Recv.obj ic_0 rfl) (by decide) (Nat.le_of_ble_eq_true rfl) fun r5 t6 => ?_
      refine v_aload_n d12_luck_121 0 rfl rfl ?_
      refine v_callV0i d12_luck_122 (mc12_standing N t6) yv12_standing mlX12_268 (Recv.obj ic_0 rfl) (by decide) (Nat.le_of_ble_eq_true rfl) fun r7 t8 => ?_
      refine v_callS1i d12_luck_125 (mc12_sizeOf N r7 t8) ys12_sizeOf mlX12_277 (by decide) (Nat.le_of_ble_eq_true rfl) fun r9 t10 => ?_
      refine v_callS1l d12_luck_128 (mc12_wholeOf N r9 t10) ys12_wholeOf mlX12_459 (by decide) (Nat.le_of_ble_eq_true rfl) fun r11 t12 => ?_
      refine v_callV2i d12_luck_131 (mc12_fraction N r5 r11 t12) yv12_fraction mlX12_327 (Recv.obj ic_0 rfl) (by decide) (Nat.le_of_ble_eq_true rfl) fun r13 t14 => ?_
      refine v_goto (tgt := 143) d12_luck_134 (by decide) ?_
      exact v_iretB d12_luck_143 rfl rfl
  · refine v_iload_n d12_luck_79 2 rfl rfl ?_
    refine v_if_eq (tgt := 99) d12_luck_80 (by decide) ?_ ?_
    · refine v_sub [0, 1, 3] rfl ?_
      exact v12_luck_b99 N k69 hk69 l1 l3 σ
    · refine v_aload_n d12_luck_83 0 rfl rfl ?_
      refine v_getR d12_luck_84 faX12_35 ic_0 rfl ?_
      refine v_bipush d12_luck_87 kb_65 ?_
      refine v_iload_n d12_luck_89 3 rfl rfl ?_
      refine v_iadd d12_luck_90 ?_
      refine v_iald d12_luck_91 ic_5 ?_
      refine v_if_ne (tgt := 99) d12_luck_92 (by decide) ?_ ?_
      · refine v_sub [0, 1, 3] rfl ?_
        exact v12_luck_b99 N k69 hk69 l1 l3 σ
      · refine v_iconst d12_luck_95 ki_1 ?_
        refine v_goto (tgt := 100) d12_luck_96 (by decide) ?_
        refine v_sub [0, 1, 3] rfl ?_
        exact v12_luck_b100 N k69 hk69 l1 l3 (1 : Int32) σ
theorem v12_luck_b69 (N : Nat) (l1 : Int32) (l2 : Int32) (l3 : Int32) (σ : Ms) : VF (K12_luck) cX12_luck RX12 (F12_luck_b69 N l1 l2 l3 σ) σ 69 [(0, .ref 0), (1, .int l1), (2, .int l2), (3, .int l3)] [] := v_fx (σo := fun x => x.2.2.2) (lo := fun x => [(0, .ref 0), (1, .int x.1), (2, .int x.2.1), (3, .int x.2.2.1)]) (fun k hk x => v12_luck_b69B N k (fun l1 l2 l3 τ => hk (l1, l2, l3, τ)) x.1 x.2.1 x.2.2.1 x.2.2.2) N (l1, l2, l3, σ)
set_option maxRecDepth 100000 in
theorem v12_luck_b66 (N : Nat) (l1 : Int32) (s0 : Int32) (σ : Ms) : VF (K12_luck) cX12_luck RX12 (F12_luck_b66 N l1 s0 σ) σ 66 [(0, .ref 0), (1, .int l1)] [.int s0] := by
  unfold F12_luck_b66
  refine v_istore_n (lv' := [(2, .int s0), (0, .ref 0), (1, .int l1)]) d12_luck_66 rfl (by decide) rfl ?_
  refine v_iconst d12_luck_67 ki_0 ?_
  refine v_istore_n (lv' := [(3, .int (0 : Int32)), (2, .int s0), (0, .ref 0), (1, .int l1)]) d12_luck_68 rfl (by decide) rfl ?_
  refine v_sub [2, 3, 1, 0] rfl ?_
  exact v12_luck_b69 N l1 s0 (0 : Int32) σ
set_option maxRecDepth 100000 in
theorem v12_luck_b65 (N : Nat) (l1 : Int32) (σ : Ms) : VF (K12_luck) cX12_luck RX12 (F12_luck_b65 N l1 σ) σ 65 [(0, .ref 0), (1, .int l1)] [] := by
  unfold F12_luck_b65
  refine v_iconst d12_luck_65 ki_0 ?_
  exact v12_luck_b66 N l1 (0 : Int32) σ
set_option maxRecDepth 100000 in
theorem mc12_luck (N : Nat) (p0 : Int32) (σ : Ms) : MC enI yX12_luck cX12_luck 4 (some .boolean) 11 (F12_luck N p0 σ) σ [.ref 0, .int p0] := by
  refine MC.i (by decide +kernel) (Nat.le_of_ble_eq_true rfl) ?_
  show VF (K12_luck) cX12_luck RX12 (F12_luck N p0 σ) σ 0 [(0, .ref 0), (1, .int p0)] []
  unfold F12_luck
  refine v_aload_n d12_luck_0 0 rfl rfl ?_
  refine v_iconst d12_luck_1 ki_0 ?_
  refine v_putI d12_luck_2 faX12_53 fp9_1 ic_0 ?_
  refine v_lts fun t15 => ?_
  refine v_aload_n d12_luck_5 0 rfl rfl ?_
  refine v_iconst d12_luck_6 ki_0 ?_
  refine v_putI d12_luck_7 faX12_56 fp9_0 ic_0 ?_
  refine v_lts fun t16 => ?_
  refine v_iload_n d12_luck_10 1 rfl rfl ?_
  refine v_callS1i d12_luck_11 (mc12_isSideAt p0 t16) ys12_isSideAt mlX12_297 (by decide) (Nat.le_of_ble_eq_true rfl) fun r17 t18 => ?_
  refine v_if_ne (tgt := 23) d12_luck_14 (by decide) ?_ ?_
  · refine v_aload_n d12_luck_23 0 rfl rfl ?_
    refine v_callV0i d12_luck_24 (mc12_standing N t18) yv12_standing mlX12_268 (Recv.obj ic_0 rfl) (by decide) (Nat.le_of_ble_eq_true rfl) fun r19 t20 => ?_
    refine v_callS1i d12_luck_27 (mc12_sizeOf N r19 t20) ys12_sizeOf mlX12_277 (by decide) (Nat.le_of_ble_eq_true rfl) fun r21 t22 => ?_
    refine v_bipush d12_luck_30 kb_6 ?_
    refine v_icmp_gt (tgt := 65) d12_luck_32 (by decide) ?_ ?_
    · exact v12_luck_b65 N p0 t22
    · refine v_aload_n d12_luck_35 0 rfl rfl ?_
      refine v_callV0i d12_luck_36 (mc12_taken N t22) yv12_taken mlX12_271 (Recv.obj ic_0 rfl) (by decide) (Nat.le_of_ble_eq_true rfl) fun r23 t24 => ?_
      refine v_iconst d12_luck_39 ki_1 ?_
      refine v_aload_n d12_luck_40 0 rfl rfl ?_
      refine v_getR d12_luck_41 faX12_35 ic_0 rfl ?_
      refine v_iconst d12_luck_44 ki_2 ?_
      refine v_iald d12_luck_45 ic_5 ?_
      refine v_ishl d12_luck_46 ?_
      refine v_iconst d12_luck_47 ki_1 ?_
      refine v_isub d12_luck_48 ?_
      refine v_icmp_ne (tgt := 65) d12_luck_49 (by decide) ?_ ?_
      · exact v12_luck_b65 N p0 t24
      · refine v_aload_n d12_luck_52 0 rfl rfl ?_
        refine v_getR d12_luck_53 faX12_35 ic_0 rfl ?_
        refine v_iconst d12_luck_56 ki_3 ?_
        refine v_iald d12_luck_57 ic_5 ?_
        refine v_if_ne (tgt := 65) d12_luck_58 (by decide) ?_ ?_
        · exact v12_luck_b65 N p0 t24
        · refine v_iconst d12_luck_61 ki_1 ?_
          refine v_goto (tgt := 66) d12_luck_62 (by decide) ?_
          exact v12_luck_b66 N p0 (1 : Int32) t24
  · refine v_aload_n d12_luck_17 0 rfl rfl ?_
    refine v_iconst d12_luck_18 ki_2 ?_
    refine v_callV1i d12_luck_19 (mc12_no (2 : Int32) t18) yv12_no mlX12_68 (Recv.obj ic_0 rfl) (by decide) (Nat.le_of_ble_eq_true rfl) fun r25 t26 => ?_
    exact v_iretB d12_luck_22 rfl rfl
theorem d12_draw_0 : decode cX12_draw 0 = .ok (.aload_n 0, 1) := by decide +kernel
theorem d12_draw_1 : decode cX12_draw 1 = .ok (.aload_n 0, 1) := by decide +kernel
theorem d12_draw_2 : decode cX12_draw 2 = .ok (.getfield 462, 3) := by decide +kernel
theorem d12_draw_5 : decode cX12_draw 5 = .ok (.sipush 2971, 3) := by decide +kernel
theorem d12_draw_8 : decode cX12_draw 8 = .ok (.imul, 1) := by decide +kernel
theorem d12_draw_9 : decode cX12_draw 9 = .ok (.sipush 10987, 3) := by decide +kernel
theorem d12_draw_12 : decode cX12_draw 12 = .ok (.iadd, 1) := by decide +kernel
theorem d12_draw_13 : decode cX12_draw 13 = .ok (.ldc_w 465, 3) := by decide +kernel
theorem d12_draw_16 : decode cX12_draw 16 = .ok (.irem, 1) := by decide +kernel
theorem d12_draw_17 : decode cX12_draw 17 = .ok (.putfield 462, 3) := by decide +kernel
theorem d12_draw_20 : decode cX12_draw 20 = .ok (.aload_n 0, 1) := by decide +kernel
theorem d12_draw_21 : decode cX12_draw 21 = .ok (.getfield 462, 3) := by decide +kernel
theorem d12_draw_24 : decode cX12_draw 24 = .ok (.bipush 8, 2) := by decide +kernel
theorem d12_draw_26 : decode cX12_draw 26 = .ok (.idiv, 1) := by decide +kernel
theorem d12_draw_27 : decode cX12_draw 27 = .ok (.iload_n 1, 1) := by decide +kernel
theorem d12_draw_28 : decode cX12_draw 28 = .ok (.irem, 1) := by decide +kernel
theorem d12_draw_29 : decode cX12_draw 29 = .ok (.ireturn, 1) := by decide +kernel
abbrev K12_draw : CK Int32 := (enI, (some .int), 2, 1, none)
noncomputable def F12_draw (p0 : Int32) (σ : Ms) : Option (Int32 × Ms) :=
  ck (!((65536 : Int32) == 0)) (lt (sI σ 0 39 ((((σ.1 0 39) * (2971 : Int32)) + (10987 : Int32)) - (((σ.1 0 39) * (2971 : Int32)) + (10987 : Int32)) / (65536 : Int32) * (65536 : Int32))) (fun t1 => ck (!((8 : Int32) == 0)) (ck (!(p0 == 0)) (some ((((t1.1 0 39) / (8 : Int32)) - ((t1.1 0 39) / (8 : Int32)) / p0 * p0), t1)))))
set_option maxRecDepth 100000 in
theorem mc12_draw (p0 : Int32) (σ : Ms) : MC enI yX12_draw cX12_draw 2 (some .int) 1 (F12_draw p0 σ) σ [.ref 0, .int p0] := by
  refine MC.i (by decide +kernel) (Nat.le_of_ble_eq_true rfl) ?_
  show VF (K12_draw) cX12_draw RX12 (F12_draw p0 σ) σ 0 [(0, .ref 0), (1, .int p0)] []
  unfold F12_draw
  refine v_aload_n d12_draw_0 0 rfl rfl ?_
  refine v_aload_n d12_draw_1 0 rfl rfl ?_
  refine v_getI d12_draw_2 faX12_462 ic_0 ?_
  refine v_sipush d12_draw_5 ks_2971 ?_
  refine v_imul d12_draw_8 ?_
  refine v_sipush d12_draw_9 ks_10987 ?_
  refine v_iadd d12_draw_12 ?_
  refine v_ldc_w d12_draw_13 kcX12_465 ?_
  refine v_irem d12_draw_16 ?_
  refine v_putI d12_draw_17 faX12_462 fp9_39 ic_0 ?_
  refine v_lts fun t1 => ?_
  refine v_aload_n d12_draw_20 0 rfl rfl ?_
  refine v_getI d12_draw_21 faX12_462 ic_0 ?_
  refine v_bipush d12_draw_24 kb_8 ?_
  refine v_idiv d12_draw_26 ?_
  refine v_iload_n d12_draw_27 1 rfl rfl ?_
  refine v_irem d12_draw_28 ?_
  exact v_iret d12_draw_29 rfl rfl rfl
theorem d12_isCut_0 : decode cX12_isCut 0 = .ok (.aload_n 0, 1) := by decide +kernel
theorem d12_isCut_1 : decode cX12_isCut 1 = .ok (.iload_n 1, 1) := by decide +kernel
theorem d12_isCut_2 : decode cX12_isCut 2 = .ok (.iload_n 2, 1) := by decide +kernel
theorem d12_isCut_3 : decode cX12_isCut 3 = .ok (.invokevirtual 338, 3) := by decide +kernel
theorem d12_isCut_6 : decode cX12_isCut 6 = .ok (.istore_n 3, 1) := by decide +kernel
theorem d12_isCut_7 : decode cX12_isCut 7 = .ok (.aload_n 0, 1) := by decide +kernel
theorem d12_isCut_8 : decode cX12_isCut 8 = .ok (.dup, 1) := by decide +kernel
theorem d12_isCut_9 : decode cX12_isCut 9 = .ok (.getfield 466, 3) := by decide +kernel
theorem d12_isCut_12 : decode cX12_isCut 12 = .ok (.iconst 0, 1) := by decide +kernel
theorem d12_isCut_13 : decode cX12_isCut 13 = .ok (.iload_n 3, 1) := by decide +kernel
theorem d12_isCut_14 : decode cX12_isCut 14 = .ok (.invokestatic 165, 3) := by decide +kernel
theorem d12_isCut_17 : decode cX12_isCut 17 = .ok (.iadd, 1) := by decide +kernel
theorem d12_isCut_18 : decode cX12_isCut 18 = .ok (.putfield 466, 3) := by decide +kernel
theorem d12_isCut_21 : decode cX12_isCut 21 = .ok (.iload_n 3, 1) := by decide +kernel
theorem d12_isCut_22 : decode cX12_isCut 22 = .ok (.ifCond .lt 7, 3) := by decide +kernel
theorem d12_isCut_25 : decode cX12_isCut 25 = .ok (.iconst 1, 1) := by decide +kernel
theorem d12_isCut_26 : decode cX12_isCut 26 = .ok (.goto 4, 3) := by decide +kernel
theorem d12_isCut_29 : decode cX12_isCut 29 = .ok (.iconst 0, 1) := by decide +kernel
theorem d12_isCut_30 : decode cX12_isCut 30 = .ok (.ireturn, 1) := by decide +kernel
abbrev K12_isCut : CK Int32 := (enI, (some .boolean), 4, 4, none)
noncomputable def F12_isCut (N : Nat) (p0 : Int32) (p1 : Int32) (σ : Ms) : Option (Int32 × Ms) :=
  bn (F12_cuts N p0 p1 σ) (fun r1 t2 => bn (FJ9_max_7cf53 (0 : Int32) r1 t2) (fun r3 t4 => lt (sI t4 0 43 ((t2.1 0 43) + r3)) (fun t5 => if r1 < 0 then (some ((0 : Int32), t5))
  else (some ((1 : Int32), t5)))))
set_option maxRecDepth 100000 in
theorem mc12_isCut (N : Nat) (p0 : Int32) (p1 : Int32) (σ : Ms) : MC enI yX12_isCut cX12_isCut 4 (some .boolean) 4 (F12_isCut N p0 p1 σ) σ [.ref 0, .int p0, .int p1] := by
  refine MC.i (by decide +kernel) (Nat.le_of_ble_eq_true rfl) ?_
  show VF (K12_isCut) cX12_isCut RX12 (F12_isCut N p0 p1 σ) σ 0 [(0, .ref 0), (1, .int p0), (2, .int p1)] []
  unfold F12_isCut
  refine v_aload_n d12_isCut_0 0 rfl rfl ?_
  refine v_iload_n d12_isCut_1 1 rfl rfl ?_
  refine v_iload_n d12_isCut_2 2 rfl rfl ?_
  refine v_callV2i d12_isCut_3 (mc12_cuts N p0 p1 σ) yv12_cuts mlX12_338 (Recv.obj ic_0 rfl) (by decide) (Nat.le_of_ble_eq_true rfl) fun r1 t2 => ?_
  refine v_istore_n (lv' := [(3, .int r1), (0, .ref 0), (1, .int p0), (2, .int p1)]) d12_isCut_6 rfl (by decide) rfl ?_
  refine v_aload_n d12_isCut_7 1 rfl rfl ?_
  refine v_dup d12_isCut_8 rfl ?_
  refine v_getI d12_isCut_9 faX12_466 ic_0 ?_
  refine v_iconst d12_isCut_12 ki_0 ?_
  refine v_iload_n d12_isCut_13 0 rfl rfl ?_
  refine v_callS2i d12_isCut_14 (mcJ9_max_7cf53 (0 : Int32) r1 t2) ysJ9_max_7cf53 mlX12_165 (by decide) (Nat.le_of_ble_eq_true rfl) fun r3 t4 => ?_
  refine v_iadd d12_isCut_17 ?_
  refine v_putI d12_isCut_18 faX12_466 fp9_43 ic_0 ?_
  refine v_lts fun t5 => ?_
  refine v_iload_n d12_isCut_21 0 rfl rfl ?_
  refine v_if_lt (tgt := 29) d12_isCut_22 (by decide) ?_ ?_
  · refine v_iconst d12_isCut_29 ki_0 ?_
    exact v_iret (ty := .boolean) d12_isCut_30 rfl rfl rfl
  · refine v_iconst d12_isCut_25 ki_1 ?_
    refine v_goto (tgt := 30) d12_isCut_26 (by decide) ?_
    exact v_iret (ty := .boolean) d12_isCut_30 rfl rfl rfl
theorem d12_isGrown_0 : decode cX12_isGrown 0 = .ok (.aload_n 0, 1) := by decide +kernel
theorem d12_isGrown_1 : decode cX12_isGrown 1 = .ok (.getfield 35, 3) := by decide +kernel
theorem d12_isGrown_4 : decode cX12_isGrown 4 = .ok (.iconst 0, 1) := by decide +kernel
theorem d12_isGrown_5 : decode cX12_isGrown 5 = .ok (.iaload, 1) := by decide +kernel
theorem d12_isGrown_6 : decode cX12_isGrown 6 = .ok (.bipush 20, 2) := by decide +kernel
theorem d12_isGrown_8 : decode cX12_isGrown 8 = .ok (.if_icmp .eq 22, 3) := by decide +kernel
theorem d12_isGrown_11 : decode cX12_isGrown 11 = .ok (.iload_n 2, 1) := by decide +kernel
theorem d12_isGrown_12 : decode cX12_isGrown 12 = .ok (.aload_n 0, 1) := by decide +kernel
theorem d12_isGrown_13 : decode cX12_isGrown 13 = .ok (.getfield 35, 3) := by decide +kernel
theorem d12_isGrown_16 : decode cX12_isGrown 16 = .ok (.iconst 0, 1) := by decide +kernel
theorem d12_isGrown_17 : decode cX12_isGrown 17 = .ok (.iaload, 1) := by decide +kernel
theorem d12_isGrown_18 : decode cX12_isGrown 18 = .ok (.if_icmp .ge 12, 3) := by decide +kernel
theorem d12_isGrown_21 : decode cX12_isGrown 21 = .ok (.aload_n 0, 1) := by decide +kernel
theorem d12_isGrown_22 : decode cX12_isGrown 22 = .ok (.iload_n 1, 1) := by decide +kernel
theorem d12_isGrown_23 : decode cX12_isGrown 23 = .ok (.iload_n 2, 1) := by decide +kernel
theorem d12_isGrown_24 : decode cX12_isGrown 24 = .ok (.invokevirtual 357, 3) := by decide +kernel
theorem d12_isGrown_27 : decode cX12_isGrown 27 = .ok (.ifCond .ne 5, 3) := by decide +kernel
theorem d12_isGrown_30 : decode cX12_isGrown 30 = .ok (.iconst 0, 1) := by decide +kernel
theorem d12_isGrown_31 : decode cX12_isGrown 31 = .ok (.ireturn, 1) := by decide +kernel
theorem d12_isGrown_32 : decode cX12_isGrown 32 = .ok (.aload_n 0, 1) := by decide +kernel
theorem d12_isGrown_33 : decode cX12_isGrown 33 = .ok (.iconst 0, 1) := by decide +kernel
theorem d12_isGrown_34 : decode cX12_isGrown 34 = .ok (.iload_n 1, 1) := by decide +kernel
theorem d12_isGrown_35 : decode cX12_isGrown 35 = .ok (.iload_n 2, 1) := by decide +kernel
theorem d12_isGrown_36 : decode cX12_isGrown 36 = .ok (.invokevirtual 199, 3) := by decide +kernel
theorem d12_isGrown_39 : decode cX12_isGrown 39 = .ok (.aload_n 0, 1) := by decide +kernel
theorem d12_isGrown_40 : decode cX12_isGrown 40 = .ok (.dup, 1) := by decide +kernel
theorem d12_isGrown_41 : decode cX12_isGrown 41 = .ok (.getfield 469, 3) := by decide +kernel
theorem d12_isGrown_44 : decode cX12_isGrown 44 = .ok (.iconst 1, 1) := by decide +kernel
theorem d12_isGrown_45 : decode cX12_isGrown 45 = .ok (.iadd, 1) := by decide +kernel
theorem d12_isGrown_46 : decode cX12_isGrown 46 = .ok (.putfield 469, 3) := by decide +kernel
theorem d12_isGrown_49 : decode cX12_isGrown 49 = .ok (.iconst 1, 1) := by decide +kernel
theorem d12_isGrown_50 : decode cX12_isGrown 50 = .ok (.ireturn, 1) := by decide +kernel
abbrev K12_isGrown : CK Int32 := (enI, (some .boolean), 3, 3, none)
noncomputable def F12_isGrown (p0 : Int32) (p1 : Int32) (σ : Ms) : Option (Int32 × Ms) :=
  ck (ixb (0 : Int32) 1780) (if (σ.1 5 (0 : Int32).toNatClampNeg) = (20 : Int32) then (some ((0 : Int32), σ))
  else (ck (ixb (0 : Int32) 1780) (if (σ.1 5 (0 : Int32).toNatClampNeg) ≤ p1 then (some ((0 : Int32), σ))
  else (bn (F12_canGrow p0 p1 σ) (fun r1 t2 => if r1 ≠ 0 then (bn (F12_grows (0 : Int32) p0 p1 t2) (fun r3 t4 => lt (sI t4 0 44 ((t4.1 0 44) + (1 : Int32))) (fun t5 => some ((1 : Int32), t5))))
  else (some ((0 : Int32), t2)))))))
set_option maxRecDepth 100000 in
theorem mc12_isGrown (p0 : Int32) (p1 : Int32) (σ : Ms) : MC enI yX12_isGrown cX12_isGrown 3 (some .boolean) 3 (F12_isGrown p0 p1 σ) σ [.ref 0, .int p0, .int p1] := by
  refine MC.i (by decide +kernel) (Nat.le_of_ble_eq_true rfl) ?_
  show VF (K12_isGrown) cX12_isGrown RX12 (F12_isGrown p0 p1 σ) σ 0 [(0, .ref 0), (1, .int p0), (2, .int p1)] []
  unfold F12_isGrown
  refine v_aload_n d12_isGrown_0 0 rfl rfl ?_
  refine v_getR d12_isGrown_1 faX12_35 ic_0 rfl ?_
  refine v_iconst d12_isGrown_4 ki_0 ?_
  refine v_iald d12_isGrown_5 ic_5 ?_
  refine v_bipush d12_isGrown_6 kb_20 ?_
  refine v_icmp_eq (tgt := 30) d12_isGrown_8 (by decide) ?_ ?_
  · refine v_iconst d12_isGrown_30 ki_0 ?_
    exact v_iret (ty := .boolean) d12_isGrown_31 rfl rfl rfl
  · refine v_iload_n d12_isGrown_11 2 rfl rfl ?_
    refine v_aload_n d12_isGrown_12 0 rfl rfl ?_
    refine v_getR d12_isGrown_13 faX12_35 ic_0 rfl ?_
    refine v_iconst d12_isGrown_16 ki_0 ?_
    refine v_iald d12_isGrown_17 ic_5 ?_
    refine v_icmp_ge (tgt := 30) d12_isGrown_18 (by decide) ?_ ?_
    · refine v_iconst d12_isGrown_30 ki_0 ?_
      exact v_iret (ty := .boolean) d12_isGrown_31 rfl rfl rfl
    · refine v_aload_n d12_isGrown_21 0 rfl rfl ?_
      refine v_iload_n d12_isGrown_22 1 rfl rfl ?_
      refine v_iload_n d12_isGrown_23 2 rfl rfl ?_
      refine v_callV2i d12_isGrown_24 (mc12_canGrow p0 p1 σ) yv12_canGrow mlX12_357 (Recv.obj ic_0 rfl) (by decide) (Nat.le_of_ble_eq_true rfl) fun r1 t2 => ?_
      refine v_if_ne (tgt := 32) d12_isGrown_27 (by decide) ?_ ?_
      · refine v_aload_n d12_isGrown_32 0 rfl rfl ?_
        refine v_iconst d12_isGrown_33 ki_0 ?_
        refine v_iload_n d12_isGrown_34 1 rfl rfl ?_
        refine v_iload_n d12_isGrown_35 2 rfl rfl ?_
        refine v_callV3v d12_isGrown_36 (mc12_grows (0 : Int32) p0 p1 t2) yv12_grows mlX12_199 (Recv.obj ic_0 rfl) (by decide) (Nat.le_of_ble_eq_true rfl) fun r3 t4 => ?_
        refine v_aload_n d12_isGrown_39 0 rfl rfl ?_
        refine v_dup d12_isGrown_40 rfl ?_
        refine v_getI d12_isGrown_41 faX12_469 ic_0 ?_
        refine v_iconst d12_isGrown_44 ki_1 ?_
        refine v_iadd d12_isGrown_45 ?_
        refine v_putI d12_isGrown_46 faX12_469 fp9_44 ic_0 ?_
        refine v_lts fun t5 => ?_
        refine v_iconst d12_isGrown_49 ki_1 ?_
        exact v_iret (ty := .boolean) d12_isGrown_50 rfl rfl rfl
      · refine v_iconst d12_isGrown_30 ki_0 ?_
        exact v_iret (ty := .boolean) d12_isGrown_31 rfl rfl rfl
theorem d12_isAny_0 : decode cX12_isAny 0 = .ok (.aload_n 0, 1) := by decide +kernel
theorem d12_isAny_1 : decode cX12_isAny 1 = .ok (.getfield 35, 3) := by decide +kernel
theorem d12_isAny_4 : decode cX12_isAny 4 = .ok (.iconst 0, 1) := by decide +kernel
theorem d12_isAny_5 : decode cX12_isAny 5 = .ok (.iaload, 1) := by decide +kernel
theorem d12_isAny_6 : decode cX12_isAny 6 = .ok (.ifCond .ne 5, 3) := by decide +kernel
theorem d12_isAny_9 : decode cX12_isAny 9 = .ok (.iconst 0, 1) := by decide +kernel
theorem d12_isAny_10 : decode cX12_isAny 10 = .ok (.ireturn, 1) := by decide +kernel
theorem d12_isAny_11 : decode cX12_isAny 11 = .ok (.aload_n 0, 1) := by decide +kernel
theorem d12_isAny_12 : decode cX12_isAny 12 = .ok (.iconst 2, 1) := by decide +kernel
theorem d12_isAny_13 : decode cX12_isAny 13 = .ok (.invokevirtual 472, 3) := by decide +kernel
theorem d12_isAny_16 : decode cX12_isAny 16 = .ok (.istore_n 1, 1) := by decide +kernel
theorem d12_isAny_17 : decode cX12_isAny 17 = .ok (.aload_n 0, 1) := by decide +kernel
theorem d12_isAny_18 : decode cX12_isAny 18 = .ok (.iload_n 1, 1) := by decide +kernel
theorem d12_isAny_19 : decode cX12_isAny 19 = .ok (.aload_n 0, 1) := by decide +kernel
theorem d12_isAny_20 : decode cX12_isAny 20 = .ok (.aload_n 0, 1) := by decide +kernel
theorem d12_isAny_21 : decode cX12_isAny 21 = .ok (.getfield 35, 3) := by decide +kernel
theorem d12_isAny_24 : decode cX12_isAny 24 = .ok (.iconst 0, 1) := by decide +kernel
theorem d12_isAny_25 : decode cX12_isAny 25 = .ok (.iaload, 1) := by decide +kernel
theorem d12_isAny_26 : decode cX12_isAny 26 = .ok (.invokevirtual 472, 3) := by decide +kernel
theorem d12_isAny_29 : decode cX12_isAny 29 = .ok (.invokevirtual 475, 3) := by decide +kernel
theorem d12_isAny_32 : decode cX12_isAny 32 = .ok (.ireturn, 1) := by decide +kernel
abbrev K12_isAny : CK Int32 := (enI, (some .boolean), 2, 5, none)
noncomputable def F12_isAny (N : Nat) (σ : Ms) : Option (Int32 × Ms) :=
  ck (ixb (0 : Int32) 1780) (if (σ.1 5 (0 : Int32).toNatClampNeg) ≠ 0 then (bn (F12_draw (2 : Int32) σ) (fun r1 t2 => ck (ixb (0 : Int32) 1780) (bn (F12_draw (t2.1 5 (0 : Int32).toNatClampNeg) t2) (fun r3 t4 => bn (F12_isCut N r1 r3 t4) (fun r5 t6 => ck (nkB r5) (some (r5, t6)))))))
  else (some ((0 : Int32), σ)))
set_option maxRecDepth 100000 in
theorem mc12_isAny (N : Nat) (σ : Ms) : MC enI yX12_isAny cX12_isAny 2 (some .boolean) 5 (F12_isAny N σ) σ [.ref 0] := by
  refine MC.i (by decide +kernel) (Nat.le_of_ble_eq_true rfl) ?_
  show VF (K12_isAny) cX12_isAny RX12 (F12_isAny N σ) σ 0 [(0, .ref 0)] []
  unfold F12_isAny
  refine v_aload_n d12_isAny_0 0 rfl rfl ?_
  refine v_getR d12_isAny_1 faX12_35 ic_0 rfl ?_
  refine v_iconst d12_isAny_4 ki_0 ?_
  refine v_iald d12_isAny_5 ic_5 ?_
  refine v_if_ne (tgt := 11) d12_isAny_6 (by decide) ?_ ?_
  · refine v_aload_n d12_isAny_11 0 rfl rfl ?_
    refine v_iconst d12_isAny_12 ki_2 ?_
    refine v_callV1i d12_isAny_13 (mc12_draw (2 : Int32) σ) yv12_draw mlX12_472 (Recv.obj ic_0 rfl) (by decide) (Nat.le_of_ble_eq_true rfl) fun r1 t2 => ?_
    refine v_istore_n (lv' := [(1, .int r1), (0, .ref 0)]) d12_isAny_16 rfl (by decide) rfl ?_
    refine v_aload_n d12_isAny_17 1 rfl rfl ?_
    refine v_iload_n d12_isAny_18 0 rfl rfl ?_
    refine v_aload_n d12_isAny_19 1 rfl rfl ?_
    refine v_aload_n d12_isAny_20 1 rfl rfl ?_
    refine v_getR d12_isAny_21 faX12_35 ic_0 rfl ?_
    refine v_iconst d12_isAny_24 ki_0 ?_
    refine v_iald d12_isAny_25 ic_5 ?_
    refine v_callV1i d12_isAny_26 (mc12_draw (t2.1 5 (0 : Int32).toNatClampNeg) t2) yv12_draw mlX12_472 (Recv.obj ic_0 rfl) (by decide) (Nat.le_of_ble_eq_true rfl) fun r3 t4 => ?_
    refine v_callV2i d12_isAny_29 (mc12_isCut N r1 r3 t4) yv12_isCut mlX12_475 (Recv.obj ic_0 rfl) (by decide) (Nat.le_of_ble_eq_true rfl) fun r5 t6 => ?_
    exact v_iretB d12_isAny_32 rfl rfl
  · refine v_iconst d12_isAny_9 ki_0 ?_
    exact v_iret (ty := .boolean) d12_isAny_10 rfl rfl rfl
