theorem d12_isHeapAt_0 : decode cX12_isHeapAt 0 = .ok (.iload_n 1, 1) := by decide +kernel
theorem d12_isHeapAt_1 : decode cX12_isHeapAt 1 = .ok (.i2l, 1) := by decide +kernel
theorem d12_isHeapAt_2 : decode cX12_isHeapAt 2 = .ok (.lconst 0, 1) := by decide +kernel
theorem d12_isHeapAt_3 : decode cX12_isHeapAt 3 = .ok (.aload_n 0, 1) := by decide +kernel
theorem d12_isHeapAt_4 : decode cX12_isHeapAt 4 = .ok (.getfield 35, 3) := by decide +kernel
theorem d12_isHeapAt_7 : decode cX12_isHeapAt 7 = .ok (.iconst 1, 1) := by decide +kernel
theorem d12_isHeapAt_8 : decode cX12_isHeapAt 8 = .ok (.iaload, 1) := by decide +kernel
theorem d12_isHeapAt_9 : decode cX12_isHeapAt 9 = .ok (.iconst 1, 1) := by decide +kernel
theorem d12_isHeapAt_10 : decode cX12_isHeapAt 10 = .ok (.isub, 1) := by decide +kernel
theorem d12_isHeapAt_11 : decode cX12_isHeapAt 11 = .ok (.i2l, 1) := by decide +kernel
theorem d12_isHeapAt_12 : decode cX12_isHeapAt 12 = .ok (.invokestatic 88, 3) := by decide +kernel
theorem d12_isHeapAt_15 : decode cX12_isHeapAt 15 = .ok (.ireturn, 1) := by decide +kernel
abbrev K12_isHeapAt : CK Int32 := (enI, (some .boolean), 2, 2, none)
noncomputable def F12_isHeapAt (p0 : Int32) (σ : Ms) : Option (Int32 × Ms) :=
  ck (ixb (1 : Int32) 1780) (bn (F12_isIn (p0.toInt64) (0 : Int64) (((σ.1 5 (1 : Int32).toNatClampNeg) - (1 : Int32)).toInt64) σ) (fun r1 t2 => ck (nkB r1) (some (r1, t2))))
set_option maxRecDepth 100000 in
theorem mc12_isHeapAt (p0 : Int32) (σ : Ms) : MC enI yX12_isHeapAt cX12_isHeapAt 2 (some .boolean) 2 (F12_isHeapAt p0 σ) σ [.ref 0, .int p0] := by
  refine MC.i (by decide +kernel) (Nat.le_of_ble_eq_true rfl) ?_
  show VF (K12_isHeapAt) cX12_isHeapAt RX12 (F12_isHeapAt p0 σ) σ 0 [(0, .ref 0), (1, .int p0)] []
  unfold F12_isHeapAt
  refine v_iload_n d12_isHeapAt_0 1 rfl rfl ?_
  refine v_i2l d12_isHeapAt_1 ?_
  refine v_lconst d12_isHeapAt_2 kl_0 ?_
  refine v_aload_n d12_isHeapAt_3 0 rfl rfl ?_
  refine v_getR d12_isHeapAt_4 faX12_35 ic_0 rfl ?_
  refine v_iconst d12_isHeapAt_7 ki_1 ?_
  refine v_iald d12_isHeapAt_8 ic_5 ?_
  refine v_iconst d12_isHeapAt_9 ki_1 ?_
  refine v_isub d12_isHeapAt_10 ?_
  refine v_i2l d12_isHeapAt_11 ?_
  refine v_callS3i d12_isHeapAt_12 (mc12_isIn (p0.toInt64) (0 : Int64) (((σ.1 5 (1 : Int32).toNatClampNeg) - (1 : Int32)).toInt64) σ) ys12_isIn mlX12_88 (by decide) (Nat.le_of_ble_eq_true rfl) fun r1 t2 => ?_
  exact v_iretB d12_isHeapAt_15 rfl rfl
theorem d12_isBetAt_0 : decode cX12_isBetAt 0 = .ok (.iload_n 1, 1) := by decide +kernel
theorem d12_isBetAt_1 : decode cX12_isBetAt 1 = .ok (.i2l, 1) := by decide +kernel
theorem d12_isBetAt_2 : decode cX12_isBetAt 2 = .ok (.lconst 0, 1) := by decide +kernel
theorem d12_isBetAt_3 : decode cX12_isBetAt 3 = .ok (.aload_n 0, 1) := by decide +kernel
theorem d12_isBetAt_4 : decode cX12_isBetAt 4 = .ok (.getfield 35, 3) := by decide +kernel
theorem d12_isBetAt_7 : decode cX12_isBetAt 7 = .ok (.iconst 2, 1) := by decide +kernel
theorem d12_isBetAt_8 : decode cX12_isBetAt 8 = .ok (.iaload, 1) := by decide +kernel
theorem d12_isBetAt_9 : decode cX12_isBetAt 9 = .ok (.iconst 1, 1) := by decide +kernel
theorem d12_isBetAt_10 : decode cX12_isBetAt 10 = .ok (.isub, 1) := by decide +kernel
theorem d12_isBetAt_11 : decode cX12_isBetAt 11 = .ok (.i2l, 1) := by decide +kernel
theorem d12_isBetAt_12 : decode cX12_isBetAt 12 = .ok (.invokestatic 88, 3) := by decide +kernel
theorem d12_isBetAt_15 : decode cX12_isBetAt 15 = .ok (.ireturn, 1) := by decide +kernel
abbrev K12_isBetAt : CK Int32 := (enI, (some .boolean), 2, 2, none)
noncomputable def F12_isBetAt (p0 : Int32) (σ : Ms) : Option (Int32 × Ms) :=
  ck (ixb (2 : Int32) 1780) (bn (F12_isIn (p0.toInt64) (0 : Int64) (((σ.1 5 (2 : Int32).toNatClampNeg) - (1 : Int32)).toInt64) σ) (fun r1 t2 => ck (nkB r1) (some (r1, t2))))
set_option maxRecDepth 100000 in
theorem mc12_isBetAt (p0 : Int32) (σ : Ms) : MC enI yX12_isBetAt cX12_isBetAt 2 (some .boolean) 2 (F12_isBetAt p0 σ) σ [.ref 0, .int p0] := by
  refine MC.i (by decide +kernel) (Nat.le_of_ble_eq_true rfl) ?_
  show VF (K12_isBetAt) cX12_isBetAt RX12 (F12_isBetAt p0 σ) σ 0 [(0, .ref 0), (1, .int p0)] []
  unfold F12_isBetAt
  refine v_iload_n d12_isBetAt_0 1 rfl rfl ?_
  refine v_i2l d12_isBetAt_1 ?_
  refine v_lconst d12_isBetAt_2 kl_0 ?_
  refine v_aload_n d12_isBetAt_3 0 rfl rfl ?_
  refine v_getR d12_isBetAt_4 faX12_35 ic_0 rfl ?_
  refine v_iconst d12_isBetAt_7 ki_2 ?_
  refine v_iald d12_isBetAt_8 ic_5 ?_
  refine v_iconst d12_isBetAt_9 ki_1 ?_
  refine v_isub d12_isBetAt_10 ?_
  refine v_i2l d12_isBetAt_11 ?_
  refine v_callS3i d12_isBetAt_12 (mc12_isIn (p0.toInt64) (0 : Int64) (((σ.1 5 (2 : Int32).toNatClampNeg) - (1 : Int32)).toInt64) σ) ys12_isIn mlX12_88 (by decide) (Nat.le_of_ble_eq_true rfl) fun r1 t2 => ?_
  exact v_iretB d12_isBetAt_15 rfl rfl
theorem d12_standing_0 : decode cX12_standing 0 = .ok (.iconst 0, 1) := by decide +kernel
theorem d12_standing_1 : decode cX12_standing 1 = .ok (.istore_n 1, 1) := by decide +kernel
theorem d12_standing_2 : decode cX12_standing 2 = .ok (.iconst 0, 1) := by decide +kernel
theorem d12_standing_3 : decode cX12_standing 3 = .ok (.istore_n 2, 1) := by decide +kernel
theorem d12_standing_4 : decode cX12_standing 4 = .ok (.iload_n 2, 1) := by decide +kernel
theorem d12_standing_5 : decode cX12_standing 5 = .ok (.aload_n 0, 1) := by decide +kernel
theorem d12_standing_6 : decode cX12_standing 6 = .ok (.getfield 35, 3) := by decide +kernel
theorem d12_standing_9 : decode cX12_standing 9 = .ok (.iconst 0, 1) := by decide +kernel
theorem d12_standing_10 : decode cX12_standing 10 = .ok (.iaload, 1) := by decide +kernel
theorem d12_standing_11 : decode cX12_standing 11 = .ok (.if_icmp .ge 23, 3) := by decide +kernel
theorem d12_standing_14 : decode cX12_standing 14 = .ok (.iload_n 1, 1) := by decide +kernel
theorem d12_standing_15 : decode cX12_standing 15 = .ok (.aload_n 0, 1) := by decide +kernel
theorem d12_standing_16 : decode cX12_standing 16 = .ok (.getfield 35, 3) := by decide +kernel
theorem d12_standing_19 : decode cX12_standing 19 = .ok (.bipush 45, 2) := by decide +kernel
theorem d12_standing_21 : decode cX12_standing 21 = .ok (.iload_n 2, 1) := by decide +kernel
theorem d12_standing_22 : decode cX12_standing 22 = .ok (.iadd, 1) := by decide +kernel
theorem d12_standing_23 : decode cX12_standing 23 = .ok (.iaload, 1) := by decide +kernel
theorem d12_standing_24 : decode cX12_standing 24 = .ok (.iload_n 2, 1) := by decide +kernel
theorem d12_standing_25 : decode cX12_standing 25 = .ok (.ishl, 1) := by decide +kernel
theorem d12_standing_26 : decode cX12_standing 26 = .ok (.ior, 1) := by decide +kernel
theorem d12_standing_27 : decode cX12_standing 27 = .ok (.istore_n 1, 1) := by decide +kernel
theorem d12_standing_28 : decode cX12_standing 28 = .ok (.iinc 2 1, 3) := by decide +kernel
theorem d12_standing_31 : decode cX12_standing 31 = .ok (.goto (-27), 3) := by decide +kernel
theorem d12_standing_34 : decode cX12_standing 34 = .ok (.iload_n 1, 1) := by decide +kernel
theorem d12_standing_35 : decode cX12_standing 35 = .ok (.ireturn, 1) := by decide +kernel
abbrev K12_standing : CK Int32 := (enI, (some .int), 3, 1, none)
noncomputable def F12_standing_b4B (N : Nat) (k4 : Int32 × Int32 × Ms → Option (Int32 × Ms)) (l1 : Int32) (l2 : Int32) (σ : Ms) : Option (Int32 × Ms) :=
  ck (ixb (0 : Int32) 1780) (if (σ.1 5 (0 : Int32).toNatClampNeg) ≤ l2 then (some (l1, σ))
  else (ck (ixb ((45 : Int32) + l2) 1780) (lt (l1 ||| ((σ.1 5 ((45 : Int32) + l2).toNatClampNeg) <<< (l2 &&& 31))) (fun x1 => k4 (x1, (l2 + (1 : Int32)), σ)))))
noncomputable def F12_standing_b4 (N : Nat) (l1 : Int32) (l2 : Int32) (σ : Ms) : Option (Int32 × Ms) :=
  fx N (fun k x => F12_standing_b4B N k x.1 x.2.1 x.2.2) (l1, l2, σ)
noncomputable def F12_standing (N : Nat) (σ : Ms) : Option (Int32 × Ms) :=
  F12_standing_b4 N (0 : Int32) (0 : Int32) σ
set_option maxRecDepth 100000 in
theorem v12_standing_b4B (N : Nat) (k4 : Int32 × Int32 × Ms → Option (Int32 × Ms)) (hk4 : ∀ (l1 : Int32) (l2 : Int32) (τ : Ms), VF (K12_standing) cX12_standing RX12 (k4 (l1, l2, τ)) τ 4 [(0, .ref 0), (1, .int l1), (2, .int l2)] []) (l1 : Int32) (l2 : Int32) (σ : Ms) : VF (K12_standing) cX12_standing RX12 (F12_standing_b4B N k4 l1 l2 σ) σ 4 [(0, .ref 0), (1, .int l1), (2, .int l2)] [] := by
  unfold F12_standing_b4B
  refine v_iload_n d12_standing_4 2 rfl rfl ?_
  refine v_aload_n d12_standing_5 0 rfl rfl ?_
  refine v_getR d12_standing_6 faX12_35 ic_0 rfl ?_
  refine v_iconst d12_standing_9 ki_0 ?_
  refine v_iald d12_standing_10 ic_5 ?_
  refine v_icmp_ge (tgt := 34) d12_standing_11 (by decide) ?_ ?_
  · refine v_iload_n d12_standing_34 1 rfl rfl ?_
    exact v_iret d12_standing_35 rfl rfl rfl
  · refine v_iload_n d12_standing_14 1 rfl rfl ?_
    refine v_aload_n d12_standing_15 0 rfl rfl ?_
    refine v_getR d12_standing_16 faX12_35 ic_0 rfl ?_
    refine v_bipush d12_standing_19 kb_45 ?_
    refine v_iload_n d12_standing_21 2 rfl rfl ?_
    refine v_iadd d12_standing_22 ?_
    refine v_iald d12_standing_23 ic_5 ?_
    refine v_iload_n d12_standing_24 2 rfl rfl ?_
    refine v_ishl d12_standing_25 ?_
    refine v_ior d12_standing_26 ?_
    refine v_lti fun x1 => ?_
    refine v_istore_n (lv' := [(1, .int x1), (0, .ref 0), (2, .int l2)]) d12_standing_27 rfl (by decide) rfl ?_
    refine v_iinc (lv' := [(2, .int (l2 + (1 : Int32))), (1, .int x1), (0, .ref 0)]) d12_standing_28 2 rfl (by rw [ki_1]) (by decide) rfl ?_
    refine v_goto (tgt := 4) d12_standing_31 (by decide) ?_
    refine v_sub [2, 1, 0] rfl ?_
    exact hk4 x1 (l2 + (1 : Int32)) σ
theorem v12_standing_b4 (N : Nat) (l1 : Int32) (l2 : Int32) (σ : Ms) : VF (K12_standing) cX12_standing RX12 (F12_standing_b4 N l1 l2 σ) σ 4 [(0, .ref 0), (1, .int l1), (2, .int l2)] [] := v_fx (σo := fun x => x.2.2) (lo := fun x => [(0, .ref 0), (1, .int x.1), (2, .int x.2.1)]) (fun k hk x => v12_standing_b4B N k (fun l1 l2 τ => hk (l1, l2, τ)) x.1 x.2.1 x.2.2) N (l1, l2, σ)
set_option maxRecDepth 100000 in
theorem mc12_standing (N : Nat) (σ : Ms) : MC enI yX12_standing cX12_standing 3 (some .int) 1 (F12_standing N σ) σ [.ref 0] := by
  refine MC.i (by decide +kernel) (Nat.le_of_ble_eq_true rfl) ?_
  show VF (K12_standing) cX12_standing RX12 (F12_standing N σ) σ 0 [(0, .ref 0)] []
  unfold F12_standing
  refine v_iconst d12_standing_0 ki_0 ?_
  refine v_istore_n (lv' := [(1, .int (0 : Int32)), (0, .ref 0)]) d12_standing_1 rfl (by decide) rfl ?_
  refine v_iconst d12_standing_2 ki_0 ?_
  refine v_istore_n (lv' := [(2, .int (0 : Int32)), (1, .int (0 : Int32)), (0, .ref 0)]) d12_standing_3 rfl (by decide) rfl ?_
  refine v_sub [2, 1, 0] rfl ?_
  exact v12_standing_b4 N (0 : Int32) (0 : Int32) σ
theorem d12_taken_0 : decode cX12_taken 0 = .ok (.iconst 0, 1) := by decide +kernel
theorem d12_taken_1 : decode cX12_taken 1 = .ok (.istore_n 1, 1) := by decide +kernel
theorem d12_taken_2 : decode cX12_taken 2 = .ok (.iconst 0, 1) := by decide +kernel
theorem d12_taken_3 : decode cX12_taken 3 = .ok (.istore_n 2, 1) := by decide +kernel
theorem d12_taken_4 : decode cX12_taken 4 = .ok (.iload_n 2, 1) := by decide +kernel
theorem d12_taken_5 : decode cX12_taken 5 = .ok (.aload_n 0, 1) := by decide +kernel
theorem d12_taken_6 : decode cX12_taken 6 = .ok (.getfield 35, 3) := by decide +kernel
theorem d12_taken_9 : decode cX12_taken 9 = .ok (.iconst 2, 1) := by decide +kernel
theorem d12_taken_10 : decode cX12_taken 10 = .ok (.iaload, 1) := by decide +kernel
theorem d12_taken_11 : decode cX12_taken 11 = .ok (.if_icmp .ge 23, 3) := by decide +kernel
theorem d12_taken_14 : decode cX12_taken 14 = .ok (.iload_n 1, 1) := by decide +kernel
theorem d12_taken_15 : decode cX12_taken 15 = .ok (.aload_n 0, 1) := by decide +kernel
theorem d12_taken_16 : decode cX12_taken 16 = .ok (.getfield 35, 3) := by decide +kernel
theorem d12_taken_19 : decode cX12_taken 19 = .ok (.bipush 79, 2) := by decide +kernel
theorem d12_taken_21 : decode cX12_taken 21 = .ok (.iload_n 2, 1) := by decide +kernel
theorem d12_taken_22 : decode cX12_taken 22 = .ok (.iadd, 1) := by decide +kernel
theorem d12_taken_23 : decode cX12_taken 23 = .ok (.iaload, 1) := by decide +kernel
theorem d12_taken_24 : decode cX12_taken 24 = .ok (.iload_n 2, 1) := by decide +kernel
theorem d12_taken_25 : decode cX12_taken 25 = .ok (.ishl, 1) := by decide +kernel
theorem d12_taken_26 : decode cX12_taken 26 = .ok (.ior, 1) := by decide +kernel
theorem d12_taken_27 : decode cX12_taken 27 = .ok (.istore_n 1, 1) := by decide +kernel
theorem d12_taken_28 : decode cX12_taken 28 = .ok (.iinc 2 1, 3) := by decide +kernel
theorem d12_taken_31 : decode cX12_taken 31 = .ok (.goto (-27), 3) := by decide +kernel
theorem d12_taken_34 : decode cX12_taken 34 = .ok (.iload_n 1, 1) := by decide +kernel
theorem d12_taken_35 : decode cX12_taken 35 = .ok (.ireturn, 1) := by decide +kernel
abbrev K12_taken : CK Int32 := (enI, (some .int), 3, 1, none)
noncomputable def F12_taken_b4B (N : Nat) (k4 : Int32 × Int32 × Ms → Option (Int32 × Ms)) (l1 : Int32) (l2 : Int32) (σ : Ms) : Option (Int32 × Ms) :=
  ck (ixb (2 : Int32) 1780) (if (σ.1 5 (2 : Int32).toNatClampNeg) ≤ l2 then (some (l1, σ))
  else (ck (ixb ((79 : Int32) + l2) 1780) (lt (l1 ||| ((σ.1 5 ((79 : Int32) + l2).toNatClampNeg) <<< (l2 &&& 31))) (fun x1 => k4 (x1, (l2 + (1 : Int32)), σ)))))
noncomputable def F12_taken_b4 (N : Nat) (l1 : Int32) (l2 : Int32) (σ : Ms) : Option (Int32 × Ms) :=
  fx N (fun k x => F12_taken_b4B N k x.1 x.2.1 x.2.2) (l1, l2, σ)
noncomputable def F12_taken (N : Nat) (σ : Ms) : Option (Int32 × Ms) :=
  F12_taken_b4 N (0 : Int32) (0 : Int32) σ
set_option maxRecDepth 100000 in
theorem v12_taken_b4B (N : Nat) (k4 : Int32 × Int32 × Ms → Option (Int32 × Ms)) (hk4 : ∀ (l1 : Int32) (l2 : Int32) (τ : Ms), VF (K12_taken) cX12_taken RX12 (k4 (l1, l2, τ)) τ 4 [(0, .ref 0), (1, .int l1), (2, .int l2)] []) (l1 : Int32) (l2 : Int32) (σ : Ms) : VF (K12_taken) cX12_taken RX12 (F12_taken_b4B N k4 l1 l2 σ) σ 4 [(0, .ref 0), (1, .int l1), (2, .int l2)] [] := by
  unfold F12_taken_b4B
  refine v_iload_n d12_taken_4 2 rfl rfl ?_
  refine v_aload_n d12_taken_5 0 rfl rfl ?_
  refine v_getR d12_taken_6 faX12_35 ic_0 rfl ?_
  refine v_iconst d12_taken_9 ki_2 ?_
  refine v_iald d12_taken_10 ic_5 ?_
  refine v_icmp_ge (tgt := 34) d12_taken_11 (by decide) ?_ ?_
  · refine v_iload_n d12_taken_34 1 rfl rfl ?_
    exact v_iret d12_taken_35 rfl rfl rfl
  · refine v_iload_n d12_taken_14 1 rfl rfl ?_
    refine v_aload_n d12_taken_15 0 rfl rfl ?_
    refine v_getR d12_taken_16 faX12_35 ic_0 rfl ?_
    refine v_bipush d12_taken_19 kb_79 ?_
    refine v_iload_n d12_taken_21 2 rfl rfl ?_
    refine v_iadd d12_taken_22 ?_
    refine v_iald d12_taken_23 ic_5 ?_
    refine v_iload_n d12_taken_24 2 rfl rfl ?_
    refine v_ishl d12_taken_25 ?_
    refine v_ior d12_taken_26 ?_
    refine v_lti fun x1 => ?_
    refine v_istore_n (lv' := [(1, .int x1), (0, .ref 0), (2, .int l2)]) d12_taken_27 rfl (by decide) rfl ?_
    refine v_iinc (lv' := [(2, .int (l2 + (1 : Int32))), (1, .int x1), (0, .ref 0)]) d12_taken_28 2 rfl (by rw [ki_1]) (by decide) rfl ?_
    refine v_goto (tgt := 4) d12_taken_31 (by decide) ?_
    refine v_sub [2, 1, 0] rfl ?_
    exact hk4 x1 (l2 + (1 : Int32)) σ
theorem v12_taken_b4 (N : Nat) (l1 : Int32) (l2 : Int32) (σ : Ms) : VF (K12_taken) cX12_taken RX12 (F12_taken_b4 N l1 l2 σ) σ 4 [(0, .ref 0), (1, .int l1), (2, .int l2)] [] := v_fx (σo := fun x => x.2.2) (lo := fun x => [(0, .ref 0), (1, .int x.1), (2, .int x.2.1)]) (fun k hk x => v12_taken_b4B N k (fun l1 l2 τ => hk (l1, l2, τ)) x.1 x.2.1 x.2.2) N (l1, l2, σ)
set_option maxRecDepth 100000 in
theorem mc12_taken (N : Nat) (σ : Ms) : MC enI yX12_taken cX12_taken 3 (some .int) 1 (F12_taken N σ) σ [.ref 0] := by
  refine MC.i (by decide +kernel) (Nat.le_of_ble_eq_true rfl) ?_
  show VF (K12_taken) cX12_taken RX12 (F12_taken N σ) σ 0 [(0, .ref 0)] []
  unfold F12_taken
  refine v_iconst d12_taken_0 ki_0 ?_
  refine v_istore_n (lv' := [(1, .int (0 : Int32)), (0, .ref 0)]) d12_taken_1 rfl (by decide) rfl ?_
  refine v_iconst d12_taken_2 ki_0 ?_
  refine v_istore_n (lv' := [(2, .int (0 : Int32)), (1, .int (0 : Int32)), (0, .ref 0)]) d12_taken_3 rfl (by decide) rfl ?_
  refine v_sub [2, 1, 0] rfl ?_
  exact v12_taken_b4 N (0 : Int32) (0 : Int32) σ
theorem d12_standsBut_0 : decode cX12_standsBut 0 = .ok (.iconst 0, 1) := by decide +kernel
theorem d12_standsBut_1 : decode cX12_standsBut 1 = .ok (.istore_n 3, 1) := by decide +kernel
theorem d12_standsBut_2 : decode cX12_standsBut 2 = .ok (.iconst 0, 1) := by decide +kernel
theorem d12_standsBut_3 : decode cX12_standsBut 3 = .ok (.istore 4, 2) := by decide +kernel
theorem d12_standsBut_5 : decode cX12_standsBut 5 = .ok (.iload 4, 2) := by decide +kernel
theorem d12_standsBut_7 : decode cX12_standsBut 7 = .ok (.aload_n 0, 1) := by decide +kernel
theorem d12_standsBut_8 : decode cX12_standsBut 8 = .ok (.getfield 35, 3) := by decide +kernel
theorem d12_standsBut_11 : decode cX12_standsBut 11 = .ok (.iconst 0, 1) := by decide +kernel
theorem d12_standsBut_12 : decode cX12_standsBut 12 = .ok (.iaload, 1) := by decide +kernel
theorem d12_standsBut_13 : decode cX12_standsBut 13 = .ok (.if_icmp .ge 70, 3) := by decide +kernel
theorem d12_standsBut_16 : decode cX12_standsBut 16 = .ok (.iload_n 3, 1) := by decide +kernel
theorem d12_standsBut_17 : decode cX12_standsBut 17 = .ok (.iload_n 1, 1) := by decide +kernel
theorem d12_standsBut_18 : decode cX12_standsBut 18 = .ok (.iload 4, 2) := by decide +kernel
theorem d12_standsBut_20 : decode cX12_standsBut 20 = .ok (.invokestatic 92, 3) := by decide +kernel
theorem d12_standsBut_23 : decode cX12_standsBut 23 = .ok (.ifCond .eq 51, 3) := by decide +kernel
theorem d12_standsBut_26 : decode cX12_standsBut 26 = .ok (.iload_n 2, 1) := by decide +kernel
theorem d12_standsBut_27 : decode cX12_standsBut 27 = .ok (.iload 4, 2) := by decide +kernel
theorem d12_standsBut_29 : decode cX12_standsBut 29 = .ok (.invokestatic 92, 3) := by decide +kernel
theorem d12_standsBut_32 : decode cX12_standsBut 32 = .ok (.ifCond .ne 42, 3) := by decide +kernel
theorem d12_standsBut_35 : decode cX12_standsBut 35 = .ok (.aload_n 0, 1) := by decide +kernel
theorem d12_standsBut_36 : decode cX12_standsBut 36 = .ok (.getfield 35, 3) := by decide +kernel
theorem d12_standsBut_39 : decode cX12_standsBut 39 = .ok (.bipush 25, 2) := by decide +kernel
theorem d12_standsBut_41 : decode cX12_standsBut 41 = .ok (.iload 4, 2) := by decide +kernel
theorem d12_standsBut_43 : decode cX12_standsBut 43 = .ok (.iadd, 1) := by decide +kernel
theorem d12_standsBut_44 : decode cX12_standsBut 44 = .ok (.iaload, 1) := by decide +kernel
theorem d12_standsBut_45 : decode cX12_standsBut 45 = .ok (.ifCond .eq 22, 3) := by decide +kernel
theorem d12_standsBut_48 : decode cX12_standsBut 48 = .ok (.iload_n 3, 1) := by decide +kernel
theorem d12_standsBut_49 : decode cX12_standsBut 49 = .ok (.aload_n 0, 1) := by decide +kernel
theorem d12_standsBut_50 : decode cX12_standsBut 50 = .ok (.getfield 35, 3) := by decide +kernel
theorem d12_standsBut_53 : decode cX12_standsBut 53 = .ok (.bipush 25, 2) := by decide +kernel
theorem d12_standsBut_55 : decode cX12_standsBut 55 = .ok (.iload 4, 2) := by decide +kernel
theorem d12_standsBut_57 : decode cX12_standsBut 57 = .ok (.iadd, 1) := by decide +kernel
theorem d12_standsBut_58 : decode cX12_standsBut 58 = .ok (.iaload, 1) := by decide +kernel
theorem d12_standsBut_59 : decode cX12_standsBut 59 = .ok (.iconst 1, 1) := by decide +kernel
theorem d12_standsBut_60 : decode cX12_standsBut 60 = .ok (.isub, 1) := by decide +kernel
theorem d12_standsBut_61 : decode cX12_standsBut 61 = .ok (.invokestatic 92, 3) := by decide +kernel
theorem d12_standsBut_64 : decode cX12_standsBut 64 = .ok (.ifCond .eq 10, 3) := by decide +kernel
theorem d12_standsBut_67 : decode cX12_standsBut 67 = .ok (.iconst 1, 1) := by decide +kernel
theorem d12_standsBut_68 : decode cX12_standsBut 68 = .ok (.iload 4, 2) := by decide +kernel
theorem d12_standsBut_70 : decode cX12_standsBut 70 = .ok (.ishl, 1) := by decide +kernel
theorem d12_standsBut_71 : decode cX12_standsBut 71 = .ok (.goto 4, 3) := by decide +kernel
theorem d12_standsBut_74 : decode cX12_standsBut 74 = .ok (.iconst 0, 1) := by decide +kernel
theorem d12_standsBut_75 : decode cX12_standsBut 75 = .ok (.ior, 1) := by decide +kernel
theorem d12_standsBut_76 : decode cX12_standsBut 76 = .ok (.istore_n 3, 1) := by decide +kernel
theorem d12_standsBut_77 : decode cX12_standsBut 77 = .ok (.iinc 4 1, 3) := by decide +kernel
theorem d12_standsBut_80 : decode cX12_standsBut 80 = .ok (.goto (-75), 3) := by decide +kernel
theorem d12_standsBut_83 : decode cX12_standsBut 83 = .ok (.iload_n 3, 1) := by decide +kernel
theorem d12_standsBut_84 : decode cX12_standsBut 84 = .ok (.ireturn, 1) := by decide +kernel
abbrev K12_standsBut : CK Int32 := (enI, (some .int), 5, 2, none)
noncomputable def F12_standsBut_b75 (N : Nat) (k5 : Int32 × Int32 × Int32 × Int32 × Ms → Option (Int32 × Ms)) (l1 : Int32) (l2 : Int32) (l4 : Int32) (s0 : Int32) (s1 : Int32) (σ : Ms) : Option (Int32 × Ms) :=
  lt (s0 ||| s1) (fun x1 => k5 (l1, l2, x1, (l4 + (1 : Int32)), σ))
noncomputable def F12_standsBut_b74 (N : Nat) (k5 : Int32 × Int32 × Int32 × Int32 × Ms → Option (Int32 × Ms)) (l1 : Int32) (l2 : Int32) (l4 : Int32) (s0 : Int32) (σ : Ms) : Option (Int32 × Ms) :=
  F12_standsBut_b75 N k5 l1 l2 l4 s0 (0 : Int32) σ
noncomputable def F12_standsBut_b67 (N : Nat) (k5 : Int32 × Int32 × Int32 × Int32 × Ms → Option (Int32 × Ms)) (l1 : Int32) (l2 : Int32) (l4 : Int32) (s0 : Int32) (σ : Ms) : Option (Int32 × Ms) :=
  F12_standsBut_b75 N k5 l1 l2 l4 s0 ((1 : Int32) <<< (l4 &&& 31)) σ
noncomputable def F12_standsBut_b5B (N : Nat) (k5 : Int32 × Int32 × Int32 × Int32 × Ms → Option (Int32 × Ms)) (l1 : Int32) (l2 : Int32) (l3 : Int32) (l4 : Int32) (σ : Ms) : Option (Int32 × Ms) :=
  ck (ixb (0 : Int32) 1780) (if (σ.1 5 (0 : Int32).toNatClampNeg) ≤ l4 then (some (l3, σ))
  else (bn (F12_has l1 l4 σ) (fun r2 t3 => if r2 = 0 then (F12_standsBut_b74 N k5 l1 l2 l4 l3 t3)
  else (bn (F12_has l2 l4 t3) (fun r4 t5 => if r4 ≠ 0 then (F12_standsBut_b74 N k5 l1 l2 l4 l3 t5)
  else (ck (ixb ((25 : Int32) + l4) 1780) (if (t5.1 5 ((25 : Int32) + l4).toNatClampNeg) = 0 then (F12_standsBut_b67 N k5 l1 l2 l4 l3 t5)
  else (ck (ixb ((25 : Int32) + l4) 1780) (bn (F12_has l3 ((t5.1 5 ((25 : Int32) + l4).toNatClampNeg) - (1 : Int32)) t5) (fun r6 t7 => if r6 = 0 then (F12_standsBut_b74 N k5 l1 l2 l4 l3 t7)
  else (F12_standsBut_b67 N k5 l1 l2 l4 l3 t7)))))))))))
noncomputable def F12_standsBut_b5 (N : Nat) (l1 : Int32) (l2 : Int32) (l3 : Int32) (l4 : Int32) (σ : Ms) : Option (Int32 × Ms) :=
  fx N (fun k x => F12_standsBut_b5B N k x.1 x.2.1 x.2.2.1 x.2.2.2.1 x.2.2.2.2) (l1, l2, l3, l4, σ)
noncomputable def F12_standsBut (N : Nat) (p0 : Int32) (p1 : Int32) (σ : Ms) : Option (Int32 × Ms) :=
  F12_standsBut_b5 N p0 p1 (0 : Int32) (0 : Int32) σ
set_option maxRecDepth 100000 in
theorem v12_standsBut_b75 (N : Nat) (k5 : Int32 × Int32 × Int32 × Int32 × Ms → Option (Int32 × Ms)) (hk5 : ∀ (l1 : Int32) (l2 : Int32) (l3 : Int32) (l4 : Int32) (τ : Ms), VF (K12_standsBut) cX12_standsBut RX12 (k5 (l1, l2, l3, l4, τ)) τ 5 [(0, .ref 0), (1, .int l1), (2, .int l2), (3, .int l3), (4, .int l4)] []) (l1 : Int32) (l2 : Int32) (l4 : Int32) (s0 : Int32) (s1 : Int32) (σ : Ms) : VF (K12_standsBut) cX12_standsBut RX12 (F12_standsBut_b75 N k5 l1 l2 l4 s0 s1 σ) σ 75 [(0, .ref 0), (1, .int l1), (2, .int l2), (4, .int l4)] [.int s1, .int s0] := by
  unfold F12_standsBut_b75
  refine v_ior d12_standsBut_75 ?_
  refine v_lti fun x1 => ?_
  refine v_istore_n (lv' := [(3, .int x1), (0, .ref 0), (1, .int l1), (2, .int l2), (4, .int l4)]) d12_standsBut_76 rfl (by decide) rfl ?_
  refine v_iinc (lv' := [(4, .int (l4 + (1 : Int32))), (3, .int x1), (0, .ref 0), (1, .int l1), (2, .int l2)]) d12_standsBut_77 4 rfl (by rw [ki_1]) (by decide) rfl ?_
  refine v_goto (tgt := 5) d12_standsBut_80 (by decide) ?_
  refine v_sub [2, 3, 4, 1, 0] rfl ?_
  exact hk5 l1 l2 x1 (l4 + (1 : Int32)) σ
set_option maxRecDepth 100000 in
theorem v12_standsBut_b74 (N : Nat) (k5 : Int32 × Int32 × Int32 × Int32 × Ms → Option (Int32 × Ms)) (hk5 : ∀ (l1 : Int32) (l2 : Int32) (l3 : Int32) (l4 : Int32) (τ : Ms), VF (K12_standsBut) cX12_standsBut RX12 (k5 (l1, l2, l3, l4, τ)) τ 5 [(0, .ref 0), (1, .int l1), (2, .int l2), (3, .int l3), (4, .int l4)] []) (l1 : Int32) (l2 : Int32) (l4 : Int32) (s0 : Int32) (σ : Ms) : VF (K12_standsBut) cX12_standsBut RX12 (F12_standsBut_b74 N k5 l1 l2 l4 s0 σ) σ 74 [(0, .ref 0), (1, .int l1), (2, .int l2), (4, .int l4)] [.int s0] := by
  unfold F12_standsBut_b74
  refine v_iconst d12_standsBut_74 ki_0 ?_
  exact v12_standsBut_b75 N k5 hk5 l1 l2 l4 s0 (0 : Int32) σ
set_option maxRecDepth 100000 in
theorem v12_standsBut_b67 (N : Nat) (k5 : Int32 × Int32 × Int32 × Int32 × Ms → Option (Int32 × Ms)) (hk5 : ∀ (l1 : Int32) (l2 : Int32) (l3 : Int32) (l4 : Int32) (τ : Ms), VF (K12_standsBut) cX12_standsBut RX12 (k5 (l1, l2, l3, l4, τ)) τ 5 [(0, .ref 0), (1, .int l1), (2, .int l2), (3, .int l3), (4, .int l4)] []) (l1 : Int32) (l2 : Int32) (l4 : Int32) (s0 : Int32) (σ : Ms) : VF (K12_standsBut) cX12_standsBut RX12 (F12_standsBut_b67 N k5 l1 l2 l4 s0 σ) σ 67 [(0, .ref 0), (1, .int l1), (2, .int l2), (4, .int l4)] [.int s0] := by
  unfold F12_standsBut_b67
  refine v_iconst d12_standsBut_67 ki_1 ?_
  refine v_iload d12_standsBut_68 3 rfl ?_
  refine v_ishl d12_standsBut_70 ?_
  refine v_goto (tgt := 75) d12_standsBut_71 (by decide) ?_
  exact v12_standsBut_b75 N k5 hk5 l1 l2 l4 s0 ((1 : Int32) <<< (l4 &&& 31)) σ
set_option maxRecDepth 100000 in
theorem v12_standsBut_b5B (N : Nat) (k5 : Int32 × Int32 × Int32 × Int32 × Ms → Option (Int32 × Ms)) (hk5 : ∀ (l1 : Int32) (l2 : Int32) (l3 : Int32) (l4 : Int32) (τ : Ms), VF (K12_standsBut) cX12_standsBut RX12 (k5 (l1, l2, l3, l4, τ)) τ 5 [(0, .ref 0), (1, .int l1), (2, .int l2), (3, .int l3), (4, .int l4)] []) (l1 : Int32) (l2 : Int32) (l3 : Int32) (l4 : Int32) (σ : Ms) : VF (K12_standsBut) cX12_standsBut RX12 (F12_standsBut_b5B N k5 l1 l2 l3 l4 σ) σ 5 [(0, .ref 0), (1, .int l1), (2, .int l2), (3, .int l3), (4, .int l4)] [] := by
  unfold F12_standsBut_b5B
  refine v_iload d12_standsBut_5 4 rfl ?_
  refine v_aload_n d12_standsBut_7 0 rfl rfl ?_
  refine v_getR d12_standsBut_8 faX12_35 ic_0 rfl ?_
  refine v_iconst d12_standsBut_11 ki_0 ?_
  refine v_iald d12_standsBut_12 ic_5 ?_
  refine v_icmp_ge (tgt := 83) d12_standsBut_13 (by decide) ?_ ?_
  · refine v_iload_n d12_standsBut_83 3 rfl rfl ?_
    exact v_iret d12_standsBut_84 rfl rfl rfl
  · refine v_iload_n d12_standsBut_16 3 rfl rfl ?_
    refine v_iload_n d12_standsBut_17 1 rfl rfl ?_
    refine v_iload d12_standsBut_18 4 rfl ?_
    refine v_callS2i d12_standsBut_20 (mc12_has l1 l4 σ) ys12_has mlX12_92 (by decide) (Nat.le_of_ble_eq_true rfl) fun r2 t3 => ?_
    refine v_if_eq (tgt := 74) d12_standsBut_23 (by decide) ?_ ?_
    · refine v_sub [0, 1, 2, 4] rfl ?_
      exact v12_standsBut_b74 N k5 hk5 l1 l2 l4 l3 t3
    · refine v_iload_n d12_standsBut_26 2 rfl rfl ?_
      refine v_iload d12_standsBut_27 4 rfl ?_
      refine v_callS2i d12_standsBut_29 (mc12_has l2 l4 t3) ys12_has mlX12_92 (by decide) (Nat.le_of_ble_eq_true rfl) fun r4 t5 => ?_
      refine v_if_ne (tgt := 74) d12_standsBut_32 (by decide) ?_ ?_
      · refine v_sub [0, 1, 2, 4] rfl ?_
        exact v12_standsBut_b74 N k5 hk5 l1 l2 l4 l3 t5
      · refine v_aload_n d12_standsBut_35 0 rfl rfl ?_
        refine v_getR d12_standsBut_36 faX12_35 ic_0 rfl ?_
        refine v_bipush d12_standsBut_39 kb_25 ?_
        refine v_iload d12_standsBut_41 4 rfl ?_
        refine v_iadd d12_standsBut_43 ?_
        refine v_iald d12_standsBut_44 ic_5 ?_
        refine v_if_eq (tgt := 67) d12_standsBut_45 (by decide) ?_ ?_
        · refine v_sub [0, 1, 2, 4] rfl ?_
          exact v12_standsBut_b67 N k5 hk5 l1 l2 l4 l3 t5
        · refine v_iload_n d12_standsBut_48 3 rfl rfl ?_
          refine v_aload_n d12_standsBut_49 0 rfl rfl ?_
          refine v_getR d12_standsBut_50 faX12_35 ic_0 rfl ?_
          refine v_bipush d12_standsBut_53 kb_25 ?_
          refine v_iload d12_standsBut_55 4 rfl ?_
          refine v_iadd d12_standsBut_57 ?_
          refine v_iald d12_standsBut_58 ic_5 ?_
          refine v_iconst d12_standsBut_59 ki_1 ?_
          refine v_isub d12_standsBut_60 ?_
          refine v_callS2i d12_standsBut_61 (mc12_has l3 ((t5.1 5 ((25 : Int32) + l4).toNatClampNeg) - (1 : Int32)) t5) ys12_has mlX12_92 (by decide) (Nat.le_of_ble_eq_true rfl) fun r6 t7 => ?_
          refine v_if_eq (tgt := 74) d12_standsBut_64 (by decide) ?_ ?_
          · refine v_sub [0, 1, 2, 4] rfl ?_
            exact v12_standsBut_b74 N k5 hk5 l1 l2 l4 l3 t7
          · refine v_sub [0, 1, 2, 4] rfl ?_
            exact v12_standsBut_b67 N k5 hk5 l1 l2 l4 l3 t7
theorem v12_standsBut_b5 (N : Nat) (l1 : Int32) (l2 : Int32) (l3 : Int32) (l4 : Int32) (σ : Ms) : VF (K12_standsBut) cX12_standsBut RX12 (F12_standsBut_b5 N l1 l2 l3 l4 σ) σ 5 [(0, .ref 0), (1, .int l1), (2, .int l2), (3, .int l3), (4, .int l4)] [] := v_fx (σo := fun x => x.2.2.2.2) (lo := fun x => [(0, .ref 0), (1, .int x.1), (2, .int x.2.1), (3, .int x.2.2.1), (4, .int x.2.2.2.1)]) (fun k hk x => v12_standsBut_b5B N k (fun l1 l2 l3 l4 τ => hk (l1, l2, l3, l4, τ)) x.1 x.2.1 x.2.2.1 x.2.2.2.1 x.2.2.2.2) N (l1, l2, l3, l4, σ)
set_option maxRecDepth 100000 in
theorem mc12_standsBut (N : Nat) (p0 : Int32) (p1 : Int32) (σ : Ms) : MC enI yX12_standsBut cX12_standsBut 5 (some .int) 2 (F12_standsBut N p0 p1 σ) σ [.ref 0, .int p0, .int p1] := by
  refine MC.i (by decide +kernel) (Nat.le_of_ble_eq_true rfl) ?_
  show VF (K12_standsBut) cX12_standsBut RX12 (F12_standsBut N p0 p1 σ) σ 0 [(0, .ref 0), (1, .int p0), (2, .int p1)] []
  unfold F12_standsBut
  refine v_iconst d12_standsBut_0 ki_0 ?_
  refine v_istore_n (lv' := [(3, .int (0 : Int32)), (0, .ref 0), (1, .int p0), (2, .int p1)]) d12_standsBut_1 rfl (by decide) rfl ?_
  refine v_iconst d12_standsBut_2 ki_0 ?_
  refine v_istore (lv' := [(4, .int (0 : Int32)), (3, .int (0 : Int32)), (0, .ref 0), (1, .int p0), (2, .int p1)]) d12_standsBut_3 (by decide) rfl ?_
  refine v_sub [2, 3, 4, 1, 0] rfl ?_
  exact v12_standsBut_b5 N p0 p1 (0 : Int32) (0 : Int32) σ
theorem d12_may_0 : decode cX12_may 0 = .ok (.aload_n 0, 1) := by decide +kernel
theorem d12_may_1 : decode cX12_may 1 = .ok (.getfield 35, 3) := by decide +kernel
theorem d12_may_4 : decode cX12_may 4 = .ok (.iconst 5, 1) := by decide +kernel
theorem d12_may_5 : decode cX12_may 5 = .ok (.iload_n 2, 1) := by decide +kernel
theorem d12_may_6 : decode cX12_may 6 = .ok (.iadd, 1) := by decide +kernel
theorem d12_may_7 : decode cX12_may 7 = .ok (.iaload, 1) := by decide +kernel
theorem d12_may_8 : decode cX12_may 8 = .ok (.iconst 2, 1) := by decide +kernel
theorem d12_may_9 : decode cX12_may 9 = .ok (.if_icmp .eq 15, 3) := by decide +kernel
theorem d12_may_12 : decode cX12_may 12 = .ok (.aload_n 0, 1) := by decide +kernel
theorem d12_may_13 : decode cX12_may 13 = .ok (.getfield 35, 3) := by decide +kernel
theorem d12_may_16 : decode cX12_may 16 = .ok (.iconst 5, 1) := by decide +kernel
theorem d12_may_17 : decode cX12_may 17 = .ok (.iload_n 2, 1) := by decide +kernel
theorem d12_may_18 : decode cX12_may 18 = .ok (.iadd, 1) := by decide +kernel
theorem d12_may_19 : decode cX12_may 19 = .ok (.iaload, 1) := by decide +kernel
theorem d12_may_20 : decode cX12_may 20 = .ok (.iload_n 1, 1) := by decide +kernel
theorem d12_may_21 : decode cX12_may 21 = .ok (.if_icmp .ne 7, 3) := by decide +kernel
theorem d12_may_24 : decode cX12_may 24 = .ok (.iconst 1, 1) := by decide +kernel
theorem d12_may_25 : decode cX12_may 25 = .ok (.goto 4, 3) := by decide +kernel
theorem d12_may_28 : decode cX12_may 28 = .ok (.iconst 0, 1) := by decide +kernel
theorem d12_may_29 : decode cX12_may 29 = .ok (.ireturn, 1) := by decide +kernel
abbrev K12_may : CK Int32 := (enI, (some .boolean), 3, 1, none)
noncomputable def F12_may_b24 (σ : Ms) : Option (Int32 × Ms) :=
  some ((1 : Int32), σ)
noncomputable def F12_may (p0 : Int32) (p1 : Int32) (σ : Ms) : Option (Int32 × Ms) :=
  ck (ixb ((5 : Int32) + p1) 1780) (if (σ.1 5 ((5 : Int32) + p1).toNatClampNeg) = (2 : Int32) then (F12_may_b24 σ)
  else (ck (ixb ((5 : Int32) + p1) 1780) (if (σ.1 5 ((5 : Int32) + p1).toNatClampNeg) ≠ p0 then (some ((0 : Int32), σ))
  else (F12_may_b24 σ))))
set_option maxRecDepth 100000 in
theorem v12_may_b24 (σ : Ms) : VF (K12_may) cX12_may RX12 (F12_may_b24 σ) σ 24 [] [] := by
  unfold F12_may_b24
  refine v_iconst d12_may_24 ki_1 ?_
  refine v_goto (tgt := 29) d12_may_25 (by decide) ?_
  exact v_iret (ty := .boolean) d12_may_29 rfl rfl rfl
set_option maxRecDepth 100000 in
theorem mc12_may (p0 : Int32) (p1 : Int32) (σ : Ms) : MC enI yX12_may cX12_may 3 (some .boolean) 1 (F12_may p0 p1 σ) σ [.ref 0, .int p0, .int p1] := by
  refine MC.i (by decide +kernel) (Nat.le_of_ble_eq_true rfl) ?_
  show VF (K12_may) cX12_may RX12 (F12_may p0 p1 σ) σ 0 [(0, .ref 0), (1, .int p0), (2, .int p1)] []
  unfold F12_may
  refine v_aload_n d12_may_0 0 rfl rfl ?_
  refine v_getR d12_may_1 faX12_35 ic_0 rfl ?_
  refine v_iconst d12_may_4 ki_5 ?_
  refine v_iload_n d12_may_5 2 rfl rfl ?_
  refine v_iadd d12_may_6 ?_
  refine v_iald d12_may_7 ic_5 ?_
  refine v_iconst d12_may_8 ki_2 ?_
  refine v_icmp_eq (tgt := 24) d12_may_9 (by decide) ?_ ?_
  · refine v_sub [] rfl ?_
    exact v12_may_b24 σ
  · refine v_aload_n d12_may_12 0 rfl rfl ?_
    refine v_getR d12_may_13 faX12_35 ic_0 rfl ?_
    refine v_iconst d12_may_16 ki_5 ?_
    refine v_iload_n d12_may_17 2 rfl rfl ?_
    refine v_iadd d12_may_18 ?_
    refine v_iald d12_may_19 ic_5 ?_
    refine v_iload_n d12_may_20 1 rfl rfl ?_
    refine v_icmp_ne (tgt := 28) d12_may_21 (by decide) ?_ ?_
    · refine v_iconst d12_may_28 ki_0 ?_
      exact v_iret (ty := .boolean) d12_may_29 rfl rfl rfl
    · refine v_sub [] rfl ?_
      exact v12_may_b24 σ
theorem d12_many_0 : decode cX12_many 0 = .ok (.aload_n 0, 1) := by decide +kernel
theorem d12_many_1 : decode cX12_many 1 = .ok (.iconst 0, 1) := by decide +kernel
theorem d12_many_2 : decode cX12_many 2 = .ok (.putfield 53, 3) := by decide +kernel
theorem d12_many_5 : decode cX12_many 5 = .ok (.aload_n 0, 1) := by decide +kernel
theorem d12_many_6 : decode cX12_many 6 = .ok (.iconst 0, 1) := by decide +kernel
theorem d12_many_7 : decode cX12_many 7 = .ok (.putfield 56, 3) := by decide +kernel
theorem d12_many_10 : decode cX12_many 10 = .ok (.iload_n 1, 1) := by decide +kernel
theorem d12_many_11 : decode cX12_many 11 = .ok (.i2l, 1) := by decide +kernel
theorem d12_many_12 : decode cX12_many 12 = .ok (.lconst 0, 1) := by decide +kernel
theorem d12_many_13 : decode cX12_many 13 = .ok (.ldc2_w 263, 3) := by decide +kernel
theorem d12_many_16 : decode cX12_many 16 = .ok (.invokestatic 88, 3) := by decide +kernel
theorem d12_many_19 : decode cX12_many 19 = .ok (.ifCond .ne 9, 3) := by decide +kernel
theorem d12_many_22 : decode cX12_many 22 = .ok (.aload_n 0, 1) := by decide +kernel
theorem d12_many_23 : decode cX12_many 23 = .ok (.iconst 5, 1) := by decide +kernel
theorem d12_many_24 : decode cX12_many 24 = .ok (.invokevirtual 265, 3) := by decide +kernel
theorem d12_many_27 : decode cX12_many 27 = .ok (.ireturn, 1) := by decide +kernel
theorem d12_many_28 : decode cX12_many 28 = .ok (.iload_n 1, 1) := by decide +kernel
theorem d12_many_29 : decode cX12_many 29 = .ok (.iconst 3, 1) := by decide +kernel
theorem d12_many_30 : decode cX12_many 30 = .ok (.if_icmp .ge 12, 3) := by decide +kernel
theorem d12_many_33 : decode cX12_many 33 = .ok (.aload_n 0, 1) := by decide +kernel
theorem d12_many_34 : decode cX12_many 34 = .ok (.getfield 35, 3) := by decide +kernel
theorem d12_many_37 : decode cX12_many 37 = .ok (.iload_n 1, 1) := by decide +kernel
theorem d12_many_38 : decode cX12_many 38 = .ok (.iaload, 1) := by decide +kernel
theorem d12_many_39 : decode cX12_many 39 = .ok (.goto 47, 3) := by decide +kernel
theorem d12_many_42 : decode cX12_many 42 = .ok (.iload_n 1, 1) := by decide +kernel
theorem d12_many_43 : decode cX12_many 43 = .ok (.iconst 3, 1) := by decide +kernel
theorem d12_many_44 : decode cX12_many 44 = .ok (.if_icmp .ne 10, 3) := by decide +kernel
theorem d12_many_47 : decode cX12_many 47 = .ok (.aload_n 0, 1) := by decide +kernel
theorem d12_many_48 : decode cX12_many 48 = .ok (.invokevirtual 268, 3) := by decide +kernel
theorem d12_many_51 : decode cX12_many 51 = .ok (.goto 35, 3) := by decide +kernel
theorem d12_many_54 : decode cX12_many 54 = .ok (.iload_n 1, 1) := by decide +kernel
theorem d12_many_55 : decode cX12_many 55 = .ok (.iconst 4, 1) := by decide +kernel
theorem d12_many_56 : decode cX12_many 56 = .ok (.if_icmp .ne 10, 3) := by decide +kernel
theorem d12_many_59 : decode cX12_many 59 = .ok (.aload_n 0, 1) := by decide +kernel
theorem d12_many_60 : decode cX12_many 60 = .ok (.invokevirtual 271, 3) := by decide +kernel
theorem d12_many_63 : decode cX12_many 63 = .ok (.goto 23, 3) := by decide +kernel
theorem d12_many_66 : decode cX12_many 66 = .ok (.iload_n 1, 1) := by decide +kernel
theorem d12_many_67 : decode cX12_many 67 = .ok (.iconst 5, 1) := by decide +kernel
theorem d12_many_68 : decode cX12_many 68 = .ok (.if_icmp .ne 12, 3) := by decide +kernel
theorem d12_many_71 : decode cX12_many 71 = .ok (.aload_n 0, 1) := by decide +kernel
theorem d12_many_72 : decode cX12_many 72 = .ok (.getfield 35, 3) := by decide +kernel
theorem d12_many_75 : decode cX12_many 75 = .ok (.iconst 4, 1) := by decide +kernel
theorem d12_many_76 : decode cX12_many 76 = .ok (.iaload, 1) := by decide +kernel
theorem d12_many_77 : decode cX12_many 77 = .ok (.goto 9, 3) := by decide +kernel
theorem d12_many_80 : decode cX12_many 80 = .ok (.aload_n 0, 1) := by decide +kernel
theorem d12_many_81 : decode cX12_many 81 = .ok (.getfield 35, 3) := by decide +kernel
theorem d12_many_84 : decode cX12_many 84 = .ok (.iconst 3, 1) := by decide +kernel
theorem d12_many_85 : decode cX12_many 85 = .ok (.iaload, 1) := by decide +kernel
theorem d12_many_86 : decode cX12_many 86 = .ok (.ireturn, 1) := by decide +kernel
abbrev K12_many : CK Int32 := (enI, (some .int), 2, 2, none)
noncomputable def F12_many (N : Nat) (p0 : Int32) (σ : Ms) : Option (Int32 × Ms) :=
  lt (sI σ 0 1 (0 : Int32)) (fun t1 => lt (sI t1 0 0 (0 : Int32)) (fun t2 => bn (F12_isIn (p0.toInt64) (0 : Int64) (6 : Int64) t2) (fun r3 t4 => if r3 ≠ 0 then (if (3 : Int32) ≤ p0 then (if p0 ≠ (3 : Int32) then (if p0 ≠ (4 : Int32) then (if p0 ≠ (5 : Int32) then (ck (ixb (3 : Int32) 1780) (some ((t4.1 5 (3 : Int32).toNatClampNeg), t4)))
  else (ck (ixb (4 : Int32) 1780) (some ((t4.1 5 (4 : Int32).toNatClampNeg), t4))))
  else (bn (F12_taken N t4) (fun r5 t6 => some (r5, t6))))
  else (bn (F12_standing N t4) (fun r7 t8 => some (r7, t8))))
  else (ck (ixb p0 1780) (some ((t4.1 5 p0.toNatClampNeg), t4))))
  else (bn (F12_refuse (5 : Int32) t4) (fun r9 t10 => some (r9, t10))))))
set_option maxRecDepth 100000 in
theorem mc12_many (N : Nat) (p0 : Int32) (σ : Ms) : MC enI yX12_many cX12_many 2 (some .int) 2 (F12_many N p0 σ) σ [.ref 0, .int p0] := by
  refine MC.i (by decide +kernel) (Nat.le_of_ble_eq_true rfl) ?_
  show VF (K12_many) cX12_many RX12 (F12_many N p0 σ) σ 0 [(0, .ref 0), (1, .int p0)] []
  unfold F12_many
  refine v_aload_n d12_many_0 0 rfl rfl ?_
  refine v_iconst d12_many_1 ki_0 ?_
  refine v_putI d12_many_2 faX12_53 fp9_1 ic_0 ?_
  refine v_lts fun t1 => ?_
  refine v_aload_n d12_many_5 0 rfl rfl ?_
  refine v_iconst d12_many_6 ki_0 ?_
  refine v_putI d12_many_7 faX12_56 fp9_0 ic_0 ?_
  refine v_lts fun t2 => ?_
  refine v_iload_n d12_many_10 1 rfl rfl ?_
  refine v_i2l d12_many_11 ?_
  refine v_lconst d12_many_12 kl_0 ?_
  refine v_ldc2 d12_many_13 klX12_263 ?_
  refine v_callS3i d12_many_16 (mc12_isIn (p0.toInt64) (0 : Int64) (6 : Int64) t2) ys12_isIn mlX12_88 (by decide) (Nat.le_of_ble_eq_true rfl) fun r3 t4 => ?_
  refine v_if_ne (tgt := 28) d12_many_19 (by decide) ?_ ?_
  · refine v_iload_n d12_many_28 1 rfl rfl ?_
    refine v_iconst d12_many_29 ki_3 ?_
    refine v_icmp_ge (tgt := 42) d12_many_30 (by decide) ?_ ?_
    · refine v_iload_n d12_many_42 1 rfl rfl ?_
      refine v_iconst d12_many_43 ki_3 ?_
      refine v_icmp_ne (tgt := 54) d12_many_44 (by decide) ?_ ?_
      · refine v_iload_n d12_many_54 1 rfl rfl ?_
        refine v_iconst d12_many_55 ki_4 ?_
        refine v_icmp_ne (tgt := 66) d12_many_56 (by decide) ?_ ?_
        · refine v_iload_n d12_many_66 1 rfl rfl ?_
          refine v_iconst d12_many_67 ki_5 ?_
          refine v_icmp_ne (tgt := 80) d12_many_68 (by decide) ?_ ?_
          · refine v_aload_n d12_many_80 0 rfl rfl ?_
            refine v_getR d12_many_81 faX12_35 ic_0 rfl ?_
            refine v_iconst d12_many_84 ki_3 ?_
            refine v_iald d12_many_85 ic_5 ?_
            exact v_iret d12_many_86 rfl rfl rfl
          · refine v_aload_n d12_many_71 0 rfl rfl ?_
            refine v_getR d12_many_72 faX12_35 ic_0 rfl ?_
            refine v_iconst d12_many_75 ki_4 ?_
            refine v_iald d12_many_76 ic_5 ?_
            refine v_goto (tgt := 86) d12_many_77 (by decide) ?_
            exact v_iret d12_many_86 rfl rfl rfl
        · refine v_aload_n d12_many_59 0 rfl rfl ?_
          refine v_callV0i d12_many_60 (mc12_taken N t4) yv12_taken mlX12_271 (Recv.obj ic_0 rfl) (by decide) (Nat.le_of_ble_eq_true rfl) fun r5 t6 => ?_
          refine v_goto (tgt := 86) d12_many_63 (by decide) ?_
          exact v_iret d12_many_86 rfl rfl rfl
      · refine v_aload_n d12_many_47 0 rfl rfl ?_
        refine v_callV0i d12_many_48 (mc12_standing N t4) yv12_standing mlX12_268 (Recv.obj ic_0 rfl) (by decide) (Nat.le_of_ble_eq_true rfl) fun r7 t8 => ?_
        refine v_goto (tgt := 86) d12_many_51 (by decide) ?_
        exact v_iret d12_many_86 rfl rfl rfl
    · refine v_aload_n d12_many_33 0 rfl rfl ?_
      refine v_getR d12_many_34 faX12_35 ic_0 rfl ?_
      refine v_iload_n d12_many_37 1 rfl rfl ?_
      refine v_iald d12_many_38 ic_5 ?_
      refine v_goto (tgt := 86) d12_many_39 (by decide) ?_
      exact v_iret d12_many_86 rfl rfl rfl
  · refine v_aload_n d12_many_22 0 rfl rfl ?_
    refine v_iconst d12_many_23 ki_5 ?_
    refine v_callV1i d12_many_24 (mc12_refuse (5 : Int32) t4) yv12_refuse mlX12_265 (Recv.obj ic_0 rfl) (by decide) (Nat.le_of_ble_eq_true rfl) fun r9 t10 => ?_
    exact v_iret d12_many_27 rfl rfl rfl
theorem d12_rightOn_0 : decode cX12_rightOn 0 = .ok (.iconst 0, 1) := by decide +kernel
theorem d12_rightOn_1 : decode cX12_rightOn 1 = .ok (.istore_n 2, 1) := by decide +kernel
theorem d12_rightOn_2 : decode cX12_rightOn 2 = .ok (.iconst 0, 1) := by decide +kernel
theorem d12_rightOn_3 : decode cX12_rightOn 3 = .ok (.istore_n 3, 1) := by decide +kernel
theorem d12_rightOn_4 : decode cX12_rightOn 4 = .ok (.iload_n 3, 1) := by decide +kernel
theorem d12_rightOn_5 : decode cX12_rightOn 5 = .ok (.aload_n 0, 1) := by decide +kernel
theorem d12_rightOn_6 : decode cX12_rightOn 6 = .ok (.getfield 35, 3) := by decide +kernel
theorem d12_rightOn_9 : decode cX12_rightOn 9 = .ok (.iconst 0, 1) := by decide +kernel
theorem d12_rightOn_10 : decode cX12_rightOn 10 = .ok (.iaload, 1) := by decide +kernel
theorem d12_rightOn_11 : decode cX12_rightOn 11 = .ok (.if_icmp .ge 47, 3) := by decide +kernel
theorem d12_rightOn_14 : decode cX12_rightOn 14 = .ok (.iload_n 2, 1) := by decide +kernel
theorem d12_rightOn_15 : decode cX12_rightOn 15 = .ok (.aload_n 0, 1) := by decide +kernel
theorem d12_rightOn_16 : decode cX12_rightOn 16 = .ok (.getfield 35, 3) := by decide +kernel
theorem d12_rightOn_19 : decode cX12_rightOn 19 = .ok (.bipush 45, 2) := by decide +kernel
theorem d12_rightOn_21 : decode cX12_rightOn 21 = .ok (.iload_n 3, 1) := by decide +kernel
theorem d12_rightOn_22 : decode cX12_rightOn 22 = .ok (.iadd, 1) := by decide +kernel
theorem d12_rightOn_23 : decode cX12_rightOn 23 = .ok (.iaload, 1) := by decide +kernel
theorem d12_rightOn_24 : decode cX12_rightOn 24 = .ok (.iconst 1, 1) := by decide +kernel
theorem d12_rightOn_25 : decode cX12_rightOn 25 = .ok (.if_icmp .ne 24, 3) := by decide +kernel
theorem d12_rightOn_28 : decode cX12_rightOn 28 = .ok (.aload_n 0, 1) := by decide +kernel
theorem d12_rightOn_29 : decode cX12_rightOn 29 = .ok (.getfield 35, 3) := by decide +kernel
theorem d12_rightOn_32 : decode cX12_rightOn 32 = .ok (.bipush 25, 2) := by decide +kernel
theorem d12_rightOn_34 : decode cX12_rightOn 34 = .ok (.iload_n 3, 1) := by decide +kernel
theorem d12_rightOn_35 : decode cX12_rightOn 35 = .ok (.iadd, 1) := by decide +kernel
theorem d12_rightOn_36 : decode cX12_rightOn 36 = .ok (.iaload, 1) := by decide +kernel
theorem d12_rightOn_37 : decode cX12_rightOn 37 = .ok (.iload_n 1, 1) := by decide +kernel
theorem d12_rightOn_38 : decode cX12_rightOn 38 = .ok (.iconst 1, 1) := by decide +kernel
theorem d12_rightOn_39 : decode cX12_rightOn 39 = .ok (.iadd, 1) := by decide +kernel
theorem d12_rightOn_40 : decode cX12_rightOn 40 = .ok (.if_icmp .ne 9, 3) := by decide +kernel
theorem d12_rightOn_43 : decode cX12_rightOn 43 = .ok (.iconst 1, 1) := by decide +kernel
theorem d12_rightOn_44 : decode cX12_rightOn 44 = .ok (.iload_n 3, 1) := by decide +kernel
theorem d12_rightOn_45 : decode cX12_rightOn 45 = .ok (.ishl, 1) := by decide +kernel
theorem d12_rightOn_46 : decode cX12_rightOn 46 = .ok (.goto 4, 3) := by decide +kernel
theorem d12_rightOn_49 : decode cX12_rightOn 49 = .ok (.iconst 0, 1) := by decide +kernel
theorem d12_rightOn_50 : decode cX12_rightOn 50 = .ok (.ior, 1) := by decide +kernel
theorem d12_rightOn_51 : decode cX12_rightOn 51 = .ok (.istore_n 2, 1) := by decide +kernel
theorem d12_rightOn_52 : decode cX12_rightOn 52 = .ok (.iinc 3 1, 3) := by decide +kernel
theorem d12_rightOn_55 : decode cX12_rightOn 55 = .ok (.goto (-51), 3) := by decide +kernel
theorem d12_rightOn_58 : decode cX12_rightOn 58 = .ok (.iload_n 2, 1) := by decide +kernel
theorem d12_rightOn_59 : decode cX12_rightOn 59 = .ok (.ireturn, 1) := by decide +kernel
abbrev K12_rightOn : CK Int32 := (enI, (some .int), 4, 1, none)
noncomputable def F12_rightOn_b50 (N : Nat) (k4 : Int32 × Int32 × Int32 × Ms → Option (Int32 × Ms)) (l1 : Int32) (l3 : Int32) (s0 : Int32) (s1 : Int32) (σ : Ms) : Option (Int32 × Ms) :=
  lt (s0 ||| s1) (fun x1 => k4 (l1, x1, (l3 + (1 : Int32)), σ))
noncomputable def F12_rightOn_b49 (N : Nat) (k4 : Int32 × Int32 × Int32 × Ms → Option (Int32 × Ms)) (l1 : Int32) (l3 : Int32) (s0 : Int32) (σ : Ms) : Option (Int32 × Ms) :=
  F12_rightOn_b50 N k4 l1 l3 s0 (0 : Int32) σ
noncomputable def F12_rightOn_b4B (N : Nat) (k4 : Int32 × Int32 × Int32 × Ms → Option (Int32 × Ms)) (l1 : Int32) (l2 : Int32) (l3 : Int32) (σ : Ms) : Option (Int32 × Ms) :=
  ck (ixb (0 : Int32) 1780) (if (σ.1 5 (0 : Int32).toNatClampNeg) ≤ l3 then (some (l2, σ))
  else (ck (ixb ((45 : Int32) + l3) 1780) (if (σ.1 5 ((45 : Int32) + l3).toNatClampNeg) ≠ (1 : Int32) then (F12_rightOn_b49 N k4 l1 l3 l2 σ)
  else (ck (ixb ((25 : Int32) + l3) 1780) (if (σ.1 5 ((25 : Int32) + l3).toNatClampNeg) ≠ (l1 + (1 : Int32)) then (F12_rightOn_b49 N k4 l1 l3 l2 σ)
  else (F12_rightOn_b50 N k4 l1 l3 l2 ((1 : Int32) <<< (l3 &&& 31)) σ))))))
noncomputable def F12_rightOn_b4 (N : Nat) (l1 : Int32) (l2 : Int32) (l3 : Int32) (σ : Ms) : Option (Int32 × Ms) :=
  fx N (fun k x => F12_rightOn_b4B N k x.1 x.2.1 x.2.2.1 x.2.2.2) (l1, l2, l3, σ)
noncomputable def F12_rightOn (N : Nat) (p0 : Int32) (σ : Ms) : Option (Int32 × Ms) :=
  F12_rightOn_b4 N p0 (0 : Int32) (0 : Int32) σ
set_option maxRecDepth 100000 in
theorem v12_rightOn_b50 (N : Nat) (k4 : Int32 × Int32 × Int32 × Ms → Option (Int32 × Ms)) (hk4 : ∀ (l1 : Int32) (l2 : Int32) (l3 : Int32) (τ : Ms), VF (K12_rightOn) cX12_rightOn RX12 (k4 (l1, l2, l3, τ)) τ 4 [(0, .ref 0), (1, .int l1), (2, .int l2), (3, .int l3)] []) (l1 : Int32) (l3 : Int32) (s0 : Int32) (s1 : Int32) (σ : Ms) : VF (K12_rightOn) cX12_rightOn RX12 (F12_rightOn_b50 N k4 l1 l3 s0 s1 σ) σ 50 [(0, .ref 0), (1, .int l1), (3, .int l3)] [.int s1, .int s0] := by
  unfold F12_rightOn_b50
  refine v_ior d12_rightOn_50 ?_
  refine v_lti fun x1 => ?_
  refine v_istore_n (lv' := [(2, .int x1), (0, .ref 0), (1, .int l1), (3, .int l3)]) d12_rightOn_51 rfl (by decide) rfl ?_
  refine v_iinc (lv' := [(3, .int (l3 + (1 : Int32))), (2, .int x1), (0, .ref 0), (1, .int l1)]) d12_rightOn_52 3 rfl (by rw [ki_1]) (by decide) rfl ?_
  refine v_goto (tgt := 4) d12_rightOn_55 (by decide) ?_
  refine v_sub [2, 3, 1, 0] rfl ?_
  exact hk4 l1 x1 (l3 + (1 : Int32)) σ
set_option maxRecDepth 100000 in
theorem v12_rightOn_b49 (N : Nat) (k4 : Int32 × Int32 × Int32 × Ms → Option (Int32 × Ms)) (hk4 : ∀ (l1 : Int32) (l2 : Int32) (l3 : Int32) (τ : Ms), VF (K12_rightOn) cX12_rightOn RX12 (k4 (l1, l2, l3, τ)) τ 4 [(0, .ref 0), (1, .int l1), (2, .int l2), (3, .int l3)] []) (l1 : Int32) (l3 : Int32) (s0 : Int32) (σ : Ms) : VF (K12_rightOn) cX12_rightOn RX12 (F12_rightOn_b49 N k4 l1 l3 s0 σ) σ 49 [(0, .ref 0), (1, .int l1), (3, .int l3)] [.int s0] := by
  unfold F12_rightOn_b49
  refine v_iconst d12_rightOn_49 ki_0 ?_
  exact v12_rightOn_b50 N k4 hk4 l1 l3 s0 (0 : Int32) σ
set_option maxRecDepth 100000 in
theorem v12_rightOn_b4B (N : Nat) (k4 : Int32 × Int32 × Int32 × Ms → Option (Int32 × Ms)) (hk4 : ∀ (l1 : Int32) (l2 : Int32) (l3 : Int32) (τ : Ms), VF (K12_rightOn) cX12_rightOn RX12 (k4 (l1, l2, l3, τ)) τ 4 [(0, .ref 0), (1, .int l1), (2, .int l2), (3, .int l3)] []) (l1 : Int32) (l2 : Int32) (l3 : Int32) (σ : Ms) : VF (K12_rightOn) cX12_rightOn RX12 (F12_rightOn_b4B N k4 l1 l2 l3 σ) σ 4 [(0, .ref 0), (1, .int l1), (2, .int l2), (3, .int l3)] [] := by
  unfold F12_rightOn_b4B
  refine v_iload_n d12_rightOn_4 3 rfl rfl ?_
  refine v_aload_n d12_rightOn_5 0 rfl rfl ?_
  refine v_getR d12_rightOn_6 faX12_35 ic_0 rfl ?_
  refine v_iconst d12_rightOn_9 ki_0 ?_
  refine v_iald d12_rightOn_10 ic_5 ?_
  refine v_icmp_ge (tgt := 58) d12_rightOn_11 (by decide) ?_ ?_
  · refine v_iload_n d12_rightOn_58 2 rfl rfl ?_
    exact v_iret d12_rightOn_59 rfl rfl rfl
  · refine v_iload_n d12_rightOn_14 2 rfl rfl ?_
    refine v_aload_n d12_rightOn_15 0 rfl rfl ?_
    refine v_getR d12_rightOn_16 faX12_35 ic_0 rfl ?_
    refine v_bipush d12_rightOn_19 kb_45 ?_
    refine v_iload_n d12_rightOn_21 3 rfl rfl ?_
    refine v_iadd d12_rightOn_22 ?_
    refine v_iald d12_rightOn_23 ic_5 ?_
    refine v_iconst d12_rightOn_24 ki_1 ?_
    refine v_icmp_ne (tgt := 49) d12_rightOn_25 (by decide) ?_ ?_
    · refine v_sub [0, 1, 3] rfl ?_
      exact v12_rightOn_b49 N k4 hk4 l1 l3 l2 σ
    · refine v_aload_n d12_rightOn_28 0 rfl rfl ?_
      refine v_getR d12_rightOn_29 faX12_35 ic_0 rfl ?_
      refine v_bipush d12_rightOn_32 kb_25 ?_
      refine v_iload_n d12_rightOn_34 3 rfl rfl ?_
      refine v_iadd d12_rightOn_35 ?_
      refine v_iald d12_rightOn_36 ic_5 ?_
      refine v_iload_n d12_rightOn_37 1 rfl rfl ?_
      refine v_iconst d12_rightOn_38 ki_1 ?_
      refine v_iadd d12_rightOn_39 ?_
      refine v_icmp_ne (tgt := 49) d12_rightOn_40 (by decide) ?_ ?_
      · refine v_sub [0, 1, 3] rfl ?_
        exact v12_rightOn_b49 N k4 hk4 l1 l3 l2 σ
      · refine v_iconst d12_rightOn_43 ki_1 ?_
        refine v_iload_n d12_rightOn_44 3 rfl rfl ?_
        refine v_ishl d12_rightOn_45 ?_
        refine v_goto (tgt := 50) d12_rightOn_46 (by decide) ?_
        refine v_sub [0, 1, 3] rfl ?_
        exact v12_rightOn_b50 N k4 hk4 l1 l3 l2 ((1 : Int32) <<< (l3 &&& 31)) σ
theorem v12_rightOn_b4 (N : Nat) (l1 : Int32) (l2 : Int32) (l3 : Int32) (σ : Ms) : VF (K12_rightOn) cX12_rightOn RX12 (F12_rightOn_b4 N l1 l2 l3 σ) σ 4 [(0, .ref 0), (1, .int l1), (2, .int l2), (3, .int l3)] [] := v_fx (σo := fun x => x.2.2.2) (lo := fun x => [(0, .ref 0), (1, .int x.1), (2, .int x.2.1), (3, .int x.2.2.1)]) (fun k hk x => v12_rightOn_b4B N k (fun l1 l2 l3 τ => hk (l1, l2, l3, τ)) x.1 x.2.1 x.2.2.1 x.2.2.2) N (l1, l2, l3, σ)
set_option maxRecDepth 100000 in
theorem mc12_rightOn (N : Nat) (p0 : Int32) (σ : Ms) : MC enI yX12_rightOn cX12_rightOn 4 (some .int) 1 (F12_rightOn N p0 σ) σ [.ref 0, .int p0] := by
  refine MC.i (by decide +kernel) (Nat.le_of_ble_eq_true rfl) ?_
  show VF (K12_rightOn) cX12_rightOn RX12 (F12_rightOn N p0 σ) σ 0 [(0, .ref 0), (1, .int p0)] []
  unfold F12_rightOn
  refine v_iconst d12_rightOn_0 ki_0 ?_
  refine v_istore_n (lv' := [(2, .int (0 : Int32)), (0, .ref 0), (1, .int p0)]) d12_rightOn_1 rfl (by decide) rfl ?_
  refine v_iconst d12_rightOn_2 ki_0 ?_
  refine v_istore_n (lv' := [(3, .int (0 : Int32)), (2, .int (0 : Int32)), (0, .ref 0), (1, .int p0)]) d12_rightOn_3 rfl (by decide) rfl ?_
  refine v_sub [2, 3, 1, 0] rfl ?_
  exact v12_rightOn_b4 N p0 (0 : Int32) (0 : Int32) σ
theorem d12_fallsBy_0 : decode cX12_fallsBy 0 = .ok (.aload_n 0, 1) := by decide +kernel
theorem d12_fallsBy_1 : decode cX12_fallsBy 1 = .ok (.invokevirtual 268, 3) := by decide +kernel
theorem d12_fallsBy_4 : decode cX12_fallsBy 4 = .ok (.aload_n 0, 1) := by decide +kernel
theorem d12_fallsBy_5 : decode cX12_fallsBy 5 = .ok (.aload_n 0, 1) := by decide +kernel
theorem d12_fallsBy_6 : decode cX12_fallsBy 6 = .ok (.invokevirtual 268, 3) := by decide +kernel
theorem d12_fallsBy_9 : decode cX12_fallsBy 9 = .ok (.iconst 1, 1) := by decide +kernel
theorem d12_fallsBy_10 : decode cX12_fallsBy 10 = .ok (.iload_n 1, 1) := by decide +kernel
theorem d12_fallsBy_11 : decode cX12_fallsBy 11 = .ok (.ishl, 1) := by decide +kernel
theorem d12_fallsBy_12 : decode cX12_fallsBy 12 = .ok (.invokevirtual 274, 3) := by decide +kernel
theorem d12_fallsBy_15 : decode cX12_fallsBy 15 = .ok (.iconst (-1), 1) := by decide +kernel
theorem d12_fallsBy_16 : decode cX12_fallsBy 16 = .ok (.ixor, 1) := by decide +kernel
theorem d12_fallsBy_17 : decode cX12_fallsBy 17 = .ok (.iand, 1) := by decide +kernel
theorem d12_fallsBy_18 : decode cX12_fallsBy 18 = .ok (.invokestatic 277, 3) := by decide +kernel
theorem d12_fallsBy_21 : decode cX12_fallsBy 21 = .ok (.ireturn, 1) := by decide +kernel
abbrev K12_fallsBy : CK Int32 := (enI, (some .int), 2, 3, none)
noncomputable def F12_fallsBy (N : Nat) (p0 : Int32) (σ : Ms) : Option (Int32 × Ms) :=
  bn (F12_standing N σ) (fun r1 t2 => bn (F12_standing N t2) (fun r3 t4 => bn (F12_standsBut N r3 ((1 : Int32) <<< (p0 &&& 31)) t4) (fun r5 t6 => bn (F12_sizeOf N (r1 &&& (r5 ^^^ (-1 : Int32))) t6) (fun r7 t8 => some (r7, t8)))))
set_option maxRecDepth 100000 in
theorem mc12_fallsBy (N : Nat) (p0 : Int32) (σ : Ms) : MC enI yX12_fallsBy cX12_fallsBy 2 (some .int) 3 (F12_fallsBy N p0 σ) σ [.ref 0, .int p0] := by
  refine MC.i (by decide +kernel) (Nat.le_of_ble_eq_true rfl) ?_
  show VF (K12_fallsBy) cX12_fallsBy RX12 (F12_fallsBy N p0 σ) σ 0 [(0, .ref 0), (1, .int p0)] []
  unfold F12_fallsBy
  refine v_aload_n d12_fallsBy_0 0 rfl rfl ?_
  refine v_callV0i d12_fallsBy_1 (mc12_standing N σ) yv12_standing mlX12_268 (Recv.obj ic_0 rfl) (by decide) (Nat.le_of_ble_eq_true rfl) fun r1 t2 => ?_
  refine v_aload_n d12_fallsBy_4 0 rfl rfl ?_
  refine v_aload_n d12_fallsBy_5 0 rfl rfl ?_
  refine v_callV0i d12_fallsBy_6 (mc12_standing N t2) yv12_standing mlX12_268 (Recv.obj ic_0 rfl) (by decide) (Nat.le_of_ble_eq_true rfl) fun r3 t4 => ?_
  refine v_iconst d12_fallsBy_9 ki_1 ?_
  refine v_iload_n d12_fallsBy_10 1 rfl rfl ?_
  refine v_ishl d12_fallsBy_11 ?_
  refine v_callV2i d12_fallsBy_12 (mc12_standsBut N r3 ((1 : Int32) <<< (p0 &&& 31)) t4) yv12_standsBut mlX12_274 (Recv.obj ic_0 rfl) (by decide) (Nat.le_of_ble_eq_true rfl) fun r5 t6 => ?_
  refine v_iconst d12_fallsBy_15 ki_m1 ?_
  refine v_ixor d12_fallsBy_16 ?_
  refine v_iand d12_fallsBy_17 ?_
  refine v_callS1i d12_fallsBy_18 (mc12_sizeOf N (r1 &&& (r5 ^^^ (-1 : Int32))) t6) ys12_sizeOf mlX12_277 (by decide) (Nat.le_of_ble_eq_true rfl) fun r7 t8 => ?_
  exact v_iret d12_fallsBy_21 rfl rfl rfl
theorem d12_sprig_0 : decode cX12_sprig 0 = .ok (.aload_n 0, 1) := by decide +kernel
theorem d12_sprig_1 : decode cX12_sprig 1 = .ok (.iconst 0, 1) := by decide +kernel
theorem d12_sprig_2 : decode cX12_sprig 2 = .ok (.putfield 53, 3) := by decide +kernel
theorem d12_sprig_5 : decode cX12_sprig 5 = .ok (.aload_n 0, 1) := by decide +kernel
theorem d12_sprig_6 : decode cX12_sprig 6 = .ok (.iconst 0, 1) := by decide +kernel
theorem d12_sprig_7 : decode cX12_sprig 7 = .ok (.putfield 56, 3) := by decide +kernel
theorem d12_sprig_10 : decode cX12_sprig 10 = .ok (.aload_n 0, 1) := by decide +kernel
theorem d12_sprig_11 : decode cX12_sprig 11 = .ok (.iload_n 1, 1) := by decide +kernel
theorem d12_sprig_12 : decode cX12_sprig 12 = .ok (.invokevirtual 280, 3) := by decide +kernel
theorem d12_sprig_15 : decode cX12_sprig 15 = .ok (.ifCond .ne 9, 3) := by decide +kernel
theorem d12_sprig_18 : decode cX12_sprig 18 = .ok (.aload_n 0, 1) := by decide +kernel
theorem d12_sprig_19 : decode cX12_sprig 19 = .ok (.iconst 2, 1) := by decide +kernel
theorem d12_sprig_20 : decode cX12_sprig 20 = .ok (.invokevirtual 265, 3) := by decide +kernel
theorem d12_sprig_23 : decode cX12_sprig 23 = .ok (.ireturn, 1) := by decide +kernel
theorem d12_sprig_24 : decode cX12_sprig 24 = .ok (.iload_n 2, 1) := by decide +kernel
theorem d12_sprig_25 : decode cX12_sprig 25 = .ok (.i2l, 1) := by decide +kernel
theorem d12_sprig_26 : decode cX12_sprig 26 = .ok (.lconst 0, 1) := by decide +kernel
theorem d12_sprig_27 : decode cX12_sprig 27 = .ok (.ldc2_w 283, 3) := by decide +kernel
theorem d12_sprig_30 : decode cX12_sprig 30 = .ok (.invokestatic 88, 3) := by decide +kernel
theorem d12_sprig_33 : decode cX12_sprig 33 = .ok (.ifCond .ne 9, 3) := by decide +kernel
theorem d12_sprig_36 : decode cX12_sprig 36 = .ok (.aload_n 0, 1) := by decide +kernel
theorem d12_sprig_37 : decode cX12_sprig 37 = .ok (.iconst 5, 1) := by decide +kernel
theorem d12_sprig_38 : decode cX12_sprig 38 = .ok (.invokevirtual 265, 3) := by decide +kernel
theorem d12_sprig_41 : decode cX12_sprig 41 = .ok (.ireturn, 1) := by decide +kernel
theorem d12_sprig_42 : decode cX12_sprig 42 = .ok (.iload_n 2, 1) := by decide +kernel
theorem d12_sprig_43 : decode cX12_sprig 43 = .ok (.ifCond .ne 12, 3) := by decide +kernel
theorem d12_sprig_46 : decode cX12_sprig 46 = .ok (.aload_n 0, 1) := by decide +kernel
theorem d12_sprig_47 : decode cX12_sprig 47 = .ok (.getfield 35, 3) := by decide +kernel
theorem d12_sprig_50 : decode cX12_sprig 50 = .ok (.iconst 5, 1) := by decide +kernel
theorem d12_sprig_51 : decode cX12_sprig 51 = .ok (.iload_n 1, 1) := by decide +kernel
theorem d12_sprig_52 : decode cX12_sprig 52 = .ok (.iadd, 1) := by decide +kernel
theorem d12_sprig_53 : decode cX12_sprig 53 = .ok (.iaload, 1) := by decide +kernel
theorem d12_sprig_54 : decode cX12_sprig 54 = .ok (.ireturn, 1) := by decide +kernel
theorem d12_sprig_55 : decode cX12_sprig 55 = .ok (.iload_n 2, 1) := by decide +kernel
theorem d12_sprig_56 : decode cX12_sprig 56 = .ok (.iconst 1, 1) := by decide +kernel
theorem d12_sprig_57 : decode cX12_sprig 57 = .ok (.if_icmp .ne 36, 3) := by decide +kernel
theorem d12_sprig_60 : decode cX12_sprig 60 = .ok (.aload_n 0, 1) := by decide +kernel
theorem d12_sprig_61 : decode cX12_sprig 61 = .ok (.getfield 35, 3) := by decide +kernel
theorem d12_sprig_64 : decode cX12_sprig 64 = .ok (.bipush 25, 2) := by decide +kernel
theorem d12_sprig_66 : decode cX12_sprig 66 = .ok (.iload_n 1, 1) := by decide +kernel
theorem d12_sprig_67 : decode cX12_sprig 67 = .ok (.iadd, 1) := by decide +kernel
theorem d12_sprig_68 : decode cX12_sprig 68 = .ok (.iaload, 1) := by decide +kernel
theorem d12_sprig_69 : decode cX12_sprig 69 = .ok (.ifCond .ne 12, 3) := by decide +kernel
theorem d12_sprig_72 : decode cX12_sprig 72 = .ok (.aload_n 0, 1) := by decide +kernel
theorem d12_sprig_73 : decode cX12_sprig 73 = .ok (.bipush 8, 2) := by decide +kernel
theorem d12_sprig_75 : decode cX12_sprig 75 = .ok (.invokevirtual 265, 3) := by decide +kernel
theorem d12_sprig_78 : decode cX12_sprig 78 = .ok (.goto 14, 3) := by decide +kernel
theorem d12_sprig_81 : decode cX12_sprig 81 = .ok (.aload_n 0, 1) := by decide +kernel
theorem d12_sprig_82 : decode cX12_sprig 82 = .ok (.getfield 35, 3) := by decide +kernel
theorem d12_sprig_85 : decode cX12_sprig 85 = .ok (.bipush 25, 2) := by decide +kernel
theorem d12_sprig_87 : decode cX12_sprig 87 = .ok (.iload_n 1, 1) := by decide +kernel
theorem d12_sprig_88 : decode cX12_sprig 88 = .ok (.iadd, 1) := by decide +kernel
theorem d12_sprig_89 : decode cX12_sprig 89 = .ok (.iaload, 1) := by decide +kernel
theorem d12_sprig_90 : decode cX12_sprig 90 = .ok (.iconst 1, 1) := by decide +kernel
theorem d12_sprig_91 : decode cX12_sprig 91 = .ok (.isub, 1) := by decide +kernel
theorem d12_sprig_92 : decode cX12_sprig 92 = .ok (.ireturn, 1) := by decide +kernel
theorem d12_sprig_93 : decode cX12_sprig 93 = .ok (.iload_n 2, 1) := by decide +kernel
theorem d12_sprig_94 : decode cX12_sprig 94 = .ok (.iconst 2, 1) := by decide +kernel
theorem d12_sprig_95 : decode cX12_sprig 95 = .ok (.if_icmp .ne 13, 3) := by decide +kernel
theorem d12_sprig_98 : decode cX12_sprig 98 = .ok (.aload_n 0, 1) := by decide +kernel
theorem d12_sprig_99 : decode cX12_sprig 99 = .ok (.getfield 35, 3) := by decide +kernel
theorem d12_sprig_102 : decode cX12_sprig 102 = .ok (.bipush 45, 2) := by decide +kernel
theorem d12_sprig_104 : decode cX12_sprig 104 = .ok (.iload_n 1, 1) := by decide +kernel
theorem d12_sprig_105 : decode cX12_sprig 105 = .ok (.iadd, 1) := by decide +kernel
theorem d12_sprig_106 : decode cX12_sprig 106 = .ok (.iaload, 1) := by decide +kernel
theorem d12_sprig_107 : decode cX12_sprig 107 = .ok (.ireturn, 1) := by decide +kernel
theorem d12_sprig_108 : decode cX12_sprig 108 = .ok (.iload_n 2, 1) := by decide +kernel
theorem d12_sprig_109 : decode cX12_sprig 109 = .ok (.iconst 3, 1) := by decide +kernel
theorem d12_sprig_110 : decode cX12_sprig 110 = .ok (.if_icmp .ne 9, 3) := by decide +kernel
theorem d12_sprig_113 : decode cX12_sprig 113 = .ok (.aload_n 0, 1) := by decide +kernel
theorem d12_sprig_114 : decode cX12_sprig 114 = .ok (.iload_n 1, 1) := by decide +kernel
theorem d12_sprig_115 : decode cX12_sprig 115 = .ok (.invokevirtual 285, 3) := by decide +kernel
theorem d12_sprig_118 : decode cX12_sprig 118 = .ok (.ireturn, 1) := by decide +kernel
theorem d12_sprig_119 : decode cX12_sprig 119 = .ok (.aload_n 0, 1) := by decide +kernel
theorem d12_sprig_120 : decode cX12_sprig 120 = .ok (.getfield 35, 3) := by decide +kernel
theorem d12_sprig_123 : decode cX12_sprig 123 = .ok (.bipush 45, 2) := by decide +kernel
theorem d12_sprig_125 : decode cX12_sprig 125 = .ok (.iload_n 1, 1) := by decide +kernel
theorem d12_sprig_126 : decode cX12_sprig 126 = .ok (.iadd, 1) := by decide +kernel
theorem d12_sprig_127 : decode cX12_sprig 127 = .ok (.iaload, 1) := by decide +kernel
theorem d12_sprig_128 : decode cX12_sprig 128 = .ok (.ifCond .ne 12, 3) := by decide +kernel
theorem d12_sprig_131 : decode cX12_sprig 131 = .ok (.aload_n 0, 1) := by decide +kernel
theorem d12_sprig_132 : decode cX12_sprig 132 = .ok (.bipush 8, 2) := by decide +kernel
theorem d12_sprig_134 : decode cX12_sprig 134 = .ok (.invokevirtual 265, 3) := by decide +kernel
theorem d12_sprig_137 : decode cX12_sprig 137 = .ok (.goto 8, 3) := by decide +kernel
theorem d12_sprig_140 : decode cX12_sprig 140 = .ok (.aload_n 0, 1) := by decide +kernel
theorem d12_sprig_141 : decode cX12_sprig 141 = .ok (.iload_n 1, 1) := by decide +kernel
theorem d12_sprig_142 : decode cX12_sprig 142 = .ok (.invokevirtual 288, 3) := by decide +kernel
theorem d12_sprig_145 : decode cX12_sprig 145 = .ok (.ireturn, 1) := by decide +kernel
abbrev K12_sprig : CK Int32 := (enI, (some .int), 3, 4, none)
noncomputable def F12_sprig (N : Nat) (p0 : Int32) (p1 : Int32) (σ : Ms) : Option (Int32 × Ms) :=
  lt (sI σ 0 1 (0 : Int32)) (fun t1 => lt (sI t1 0 0 (0 : Int32)) (fun t2 => bn (F12_isSprigAt p0 t2) (fun r3 t4 => if r3 ≠ 0 then (bn (F12_isIn (p1.toInt64) (0 : Int64) (4 : Int64) t4) (fun r5 t6 => if r5 ≠ 0 then (if p1 ≠ 0 then (if p1 ≠ (1 : Int32) then (if p1 ≠ (2 : Int32) then (if p1 ≠ (3 : Int32) then (ck (ixb ((45 : Int32) + p0) 1780) (if (t6.1 5 ((45 : Int32) + p0).toNatClampNeg) ≠ 0 then (bn (F12_fallsBy N p0 t6) (fun r7 t8 => some (r7, t8)))
  else (bn (F12_refuse (8 : Int32) t6) (fun r9 t10 => some (r9, t10)))))
  else (bn (F12_rightOn N p0 t6) (fun r11 t12 => some (r11, t12))))
  else (ck (ixb ((45 : Int32) + p0) 1780) (some ((t6.1 5 ((45 : Int32) + p0).toNatClampNeg), t6))))
  else (ck (ixb ((25 : Int32) + p0) 1780) (if (t6.1 5 ((25 : Int32) + p0).toNatClampNeg) ≠ 0 then (ck (ixb ((25 : Int32) + p0) 1780) (some (((t6.1 5 ((25 : Int32) + p0).toNatClampNeg) - (1 : Int32)), t6)))
  else (bn (F12_refuse (8 : Int32) t6) (fun r13 t14 => some (r13, t14))))))
  else (ck (ixb ((5 : Int32) + p0) 1780) (some ((t6.1 5 ((5 : Int32) + p0).toNatClampNeg), t6))))
  else (bn (F12_refuse (5 : Int32) t6) (fun r15 t16 => some (r15, t16)))))
  else (bn (F12_refuse (2 : Int32) t4) (fun r17 t18 => some (r17, t18))))))
set_option maxRecDepth 100000 in
theorem mc12_sprig (N : Nat) (p0 : Int32) (p1 : Int32) (σ : Ms) : MC enI yX12_sprig cX12_sprig 3 (some .int) 4 (F12_sprig N p0 p1 σ) σ [.ref 0, .int p0, .int p1] := by
  refine MC.i (by decide +kernel) (Nat.le_of_ble_eq_true rfl) ?_
  show VF (K12_sprig) cX12_sprig RX12 (F12_sprig N p0 p1 σ) σ 0 [(0, .ref 0), (1, .int p0), (2, .int p1)] []
  unfold F12_sprig
  refine v_aload_n d12_sprig_0 0 rfl rfl ?_
  refine v_iconst d12_sprig_1 ki_0 ?_
  refine v_putI d12_sprig_2 faX12_53 fp9_1 ic_0 ?_
  refine v_lts fun t1 => ?_
  refine v_aload_n d12_sprig_5 0 rfl rfl ?_
  refine v_iconst d12_sprig_6 ki_0 ?_
  refine v_putI d12_sprig_7 faX12_56 fp9_0 ic_0 ?_
  refine v_lts fun t2 => ?_
  refine v_aload_n d12_sprig_10 0 rfl rfl ?_
  refine v_iload_n d12_sprig_11 1 rfl rfl ?_
  refine v_callV1i d12_sprig_12 (mc12_isSprigAt p0 t2) yv12_isSprigAt mlX12_280 (Recv.obj ic_0 rfl) (by decide) (Nat.le_of_ble_eq_true rfl) fun r3 t4 => ?_
  refine v_if_ne (tgt := 24) d12_sprig_15 (by decide) ?_ ?_
  · refine v_iload_n d12_sprig_24 2 rfl rfl ?_
    refine v_i2l d12_sprig_25 ?_
    refine v_lconst d12_sprig_26 kl_0 ?_
    refine v_ldc2 d12_sprig_27 klX12_283 ?_
    refine v_callS3i d12_sprig_30 (mc12_isIn (p1.toInt64) (0 : Int64) (4 : Int64) t4) ys12_isIn mlX12_88 (by decide) (Nat.le_of_ble_eq_true rfl) fun r5 t6 => ?_
    refine v_if_ne (tgt := 42) d12_sprig_33 (by decide) ?_ ?_
    · refine v_iload_n d12_sprig_42 2 rfl rfl ?_
      refine v_if_ne (tgt := 55) d12_sprig_43 (by decide) ?_ ?_
      · refine v_iload_n d12_sprig_55 2 rfl rfl ?_
        refine v_iconst d12_sprig_56 ki_1 ?_
        refine v_icmp_ne (tgt := 93) d12_sprig_57 (by decide) ?_ ?_
        · refine v_iload_n d12_sprig_93 2 rfl rfl ?_
          refine v_iconst d12_sprig_94 ki_2 ?_
          refine v_icmp_ne (tgt := 108) d12_sprig_95 (by decide) ?_ ?_
          · refine v_iload_n d12_sprig_108 2 rfl rfl ?_
            refine v_iconst d12_sprig_109 ki_3 ?_
            refine v_icmp_ne (tgt := 119) d12_sprig_110 (by decide) ?_ ?_
            · refine v_aload_n d12_sprig_119 0 rfl rfl ?_
              refine v_getR d12_sprig_120 faX12_35 ic_0 rfl ?_
              refine v_bipush d12_sprig_123 kb_45 ?_
              refine v_iload_n d12_sprig_125 1 rfl rfl ?_
              refine v_iadd d12_sprig_126 ?_
              refine v_iald d12_sprig_127 ic_5 ?_
              refine v_if_ne (tgt := 140) d12_sprig_128 (by decide) ?_ ?_
              · refine v_aload_n d12_sprig_140 0 rfl rfl ?_
                refine v_iload_n d12_sprig_141 1 rfl rfl ?_
                refine v_callV1i d12_sprig_142 (mc12_fallsBy N p0 t6) yv12_fallsBy mlX12_288 (Recv.obj ic_0 rfl) (by decide) (Nat.le_of_ble_eq_true rfl) fun r7 t8 => ?_
                exact v_iret d12_sprig_145 rfl rfl rfl
              · refine v_aload_n d12_sprig_131 0 rfl rfl ?_
                refine v_bipush d12_sprig_132 kb_8 ?_
                refine v_callV1i d12_sprig_134 (mc12_refuse (8 : Int32) t6) yv12_refuse mlX12_265 (Recv.obj ic_0 rfl) (by decide) (Nat.le_of_ble_eq_true rfl) fun r9 t10 => ?_
                refine v_goto (tgt := 145) d12_sprig_137 (by decide) ?_
                exact v_iret d12_sprig_145 rfl rfl rfl
            · refine v_aload_n d12_sprig_113 0 rfl rfl ?_
              refine v_iload_n d12_sprig_114 1 rfl rfl ?_
              refine v_callV1i d12_sprig_115 (mc12_rightOn N p0 t6) yv12_rightOn mlX12_285 (Recv.obj ic_0 rfl) (by decide) (Nat.le_of_ble_eq_true rfl) fun r11 t12 => ?_
              exact v_iret d12_sprig_118 rfl rfl rfl
          · refine v_aload_n d12_sprig_98 0 rfl rfl ?_
            refine v_getR d12_sprig_99 faX12_35 ic_0 rfl ?_
            refine v_bipush d12_sprig_102 kb_45 ?_
            refine v_iload_n d12_sprig_104 1 rfl rfl ?_
            refine v_iadd d12_sprig_105 ?_
            refine v_iald d12_sprig_106 ic_5 ?_
            exact v_iret d12_sprig_107 rfl rfl rfl
        · refine v_aload_n d12_sprig_60 0 rfl rfl ?_
          refine v_getR d12_sprig_61 faX12_35 ic_0 rfl ?_
          refine v_bipush d12_sprig_64 kb_25 ?_
          refine v_iload_n d12_sprig_66 1 rfl rfl ?_
          refine v_iadd d12_sprig_67 ?_
          refine v_iald d12_sprig_68 ic_5 ?_
          refine v_if_ne (tgt := 81) d12_sprig_69 (by decide) ?_ ?_
          · refine v_aload_n d12_sprig_81 0 rfl rfl ?_
            refine v_getR d12_sprig_82 faX12_35 ic_0 rfl ?_
            refine v_bipush d12_sprig_85 kb_25 ?_
            refine v_iload_n d12_sprig_87 1 rfl rfl ?_
            refine v_iadd d12_sprig_88 ?_
            refine v_iald d12_sprig_89 ic_5 ?_
            refine v_iconst d12_sprig_90 ki_1 ?_
            refine v_isub d12_sprig_91 ?_
            exact v_iret d12_sprig_92 rfl rfl rfl
          · refine v_aload_n d12_sprig_72 0 rfl rfl ?_
            refine v_bipush d12_sprig_73 kb_8 ?_
            refine v_callV1i d12_sprig_75 (mc12_refuse (8 : Int32) t6) yv12_refuse mlX12_265 (Recv.obj ic_0 rfl) (by decide) (Nat.le_of_ble_eq_true rfl) fun r13 t14 => ?_
            refine v_goto (tgt := 92) d12_sprig_78 (by decide) ?_
            exact v_iret d12_sprig_92 rfl rfl rfl
      · refine v_aload_n d12_sprig_46 0 rfl rfl ?_
        refine v_getR d12_sprig_47 faX12_35 ic_0 rfl ?_
        refine v_iconst d12_sprig_50 ki_5 ?_
        refine v_iload_n d12_sprig_51 1 rfl rfl ?_
        refine v_iadd d12_sprig_52 ?_
        refine v_iald d12_sprig_53 ic_5 ?_
        exact v_iret d12_sprig_54 rfl rfl rfl
    · refine v_aload_n d12_sprig_36 0 rfl rfl ?_
      refine v_iconst d12_sprig_37 ki_5 ?_
      refine v_callV1i d12_sprig_38 (mc12_refuse (5 : Int32) t6) yv12_refuse mlX12_265 (Recv.obj ic_0 rfl) (by decide) (Nat.le_of_ble_eq_true rfl) fun r15 t16 => ?_
      exact v_iret d12_sprig_41 rfl rfl rfl
  · refine v_aload_n d12_sprig_18 0 rfl rfl ?_
    refine v_iconst d12_sprig_19 ki_2 ?_
    refine v_callV1i d12_sprig_20 (mc12_refuse (2 : Int32) t4) yv12_refuse mlX12_265 (Recv.obj ic_0 rfl) (by decide) (Nat.le_of_ble_eq_true rfl) fun r17 t18 => ?_
    exact v_iret d12_sprig_23 rfl rfl rfl
