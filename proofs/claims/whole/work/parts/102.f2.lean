theorem d0_rightOn_0 : decode cX0_rightOn 0 = .ok (.iconst 0, 1) := by decide +kernel
theorem d0_rightOn_1 : decode cX0_rightOn 1 = .ok (.istore_n 2, 1) := by decide +kernel
theorem d0_rightOn_2 : decode cX0_rightOn 2 = .ok (.iconst 0, 1) := by decide +kernel
theorem d0_rightOn_3 : decode cX0_rightOn 3 = .ok (.istore_n 3, 1) := by decide +kernel
theorem d0_rightOn_4 : decode cX0_rightOn 4 = .ok (.iload_n 3, 1) := by decide +kernel
theorem d0_rightOn_5 : decode cX0_rightOn 5 = .ok (.aload_n 0, 1) := by decide +kernel
theorem d0_rightOn_6 : decode cX0_rightOn 6 = .ok (.getfield 27, 3) := by decide +kernel
theorem d0_rightOn_9 : decode cX0_rightOn 9 = .ok (.if_icmp .ge 33, 3) := by decide +kernel
theorem d0_rightOn_12 : decode cX0_rightOn 12 = .ok (.aload_n 0, 1) := by decide +kernel
theorem d0_rightOn_13 : decode cX0_rightOn 13 = .ok (.iload_n 3, 1) := by decide +kernel
theorem d0_rightOn_14 : decode cX0_rightOn 14 = .ok (.invokevirtual 64, 3) := by decide +kernel
theorem d0_rightOn_17 : decode cX0_rightOn 17 = .ok (.ifCond .eq 19, 3) := by decide +kernel
theorem d0_rightOn_20 : decode cX0_rightOn 20 = .ok (.aload_n 0, 1) := by decide +kernel
theorem d0_rightOn_21 : decode cX0_rightOn 21 = .ok (.getfield 15, 3) := by decide +kernel
theorem d0_rightOn_24 : decode cX0_rightOn 24 = .ok (.iload_n 3, 1) := by decide +kernel
theorem d0_rightOn_25 : decode cX0_rightOn 25 = .ok (.iaload, 1) := by decide +kernel
theorem d0_rightOn_26 : decode cX0_rightOn 26 = .ok (.iload_n 1, 1) := by decide +kernel
theorem d0_rightOn_27 : decode cX0_rightOn 27 = .ok (.if_icmp .ne 9, 3) := by decide +kernel
theorem d0_rightOn_30 : decode cX0_rightOn 30 = .ok (.iload_n 2, 1) := by decide +kernel
theorem d0_rightOn_31 : decode cX0_rightOn 31 = .ok (.iconst 1, 1) := by decide +kernel
theorem d0_rightOn_32 : decode cX0_rightOn 32 = .ok (.iload_n 3, 1) := by decide +kernel
theorem d0_rightOn_33 : decode cX0_rightOn 33 = .ok (.ishl, 1) := by decide +kernel
theorem d0_rightOn_34 : decode cX0_rightOn 34 = .ok (.ior, 1) := by decide +kernel
theorem d0_rightOn_35 : decode cX0_rightOn 35 = .ok (.istore_n 2, 1) := by decide +kernel
theorem d0_rightOn_36 : decode cX0_rightOn 36 = .ok (.iinc 3 1, 3) := by decide +kernel
theorem d0_rightOn_39 : decode cX0_rightOn 39 = .ok (.goto (-35), 3) := by decide +kernel
theorem d0_rightOn_42 : decode cX0_rightOn 42 = .ok (.iload_n 2, 1) := by decide +kernel
theorem d0_rightOn_43 : decode cX0_rightOn 43 = .ok (.ireturn, 1) := by decide +kernel
abbrev K0_rightOn : CK Int32 := (enI, (some .int), 4, 3, none)
noncomputable def F0_rightOn_b36 (N : Nat) (h : Nat) (k4 : Int32 × Int32 × Int32 × Ms → Option (Int32 × Ms)) (l1 : Int32) (l2 : Int32) (l3 : Int32) (σ : Ms) : Option (Int32 × Ms) :=
  k4 (l1, l2, (l3 + (1 : Int32)), σ)
noncomputable def F0_rightOn_b4B (N : Nat) (h : Nat) (k4 : Int32 × Int32 × Int32 × Ms → Option (Int32 × Ms)) (l1 : Int32) (l2 : Int32) (l3 : Int32) (σ : Ms) : Option (Int32 × Ms) :=
  if (σ.1 h 5) ≤ l3 then (some (l2, σ))
  else (bn (F0_isStanding h l3 σ) (fun r1 t2 => if r1 = 0 then (F0_rightOn_b36 N h k4 l1 l2 l3 t2)
  else (ck (ixb l3 20) (if (t2.1 (h + 2) l3.toNatClampNeg) ≠ l1 then (F0_rightOn_b36 N h k4 l1 l2 l3 t2)
  else (lt (l2 ||| ((1 : Int32) <<< (l3 &&& 31))) (fun x3 => F0_rightOn_b36 N h k4 l1 x3 l3 t2))))))
noncomputable def F0_rightOn_b4 (N : Nat) (h : Nat) (l1 : Int32) (l2 : Int32) (l3 : Int32) (σ : Ms) : Option (Int32 × Ms) :=
  fx N (fun k x => F0_rightOn_b4B N h k x.1 x.2.1 x.2.2.1 x.2.2.2) (l1, l2, l3, σ)
noncomputable def F0_rightOn (N : Nat) (h : Nat) (p0 : Int32) (σ : Ms) : Option (Int32 × Ms) :=
  F0_rightOn_b4 N h p0 (0 : Int32) (0 : Int32) σ
set_option maxRecDepth 100000 in
theorem v0_rightOn_b36 (N : Nat) (h : Nat) (hh : IsC h (0, 0, 0)) (k4 : Int32 × Int32 × Int32 × Ms → Option (Int32 × Ms)) (hk4 : ∀ (l1 : Int32) (l2 : Int32) (l3 : Int32) (τ : Ms), VF (K0_rightOn) cX0_rightOn RX0 (k4 (l1, l2, l3, τ)) τ 4 [(0, .ref h), (1, .int l1), (2, .int l2), (3, .int l3)] []) (l1 : Int32) (l2 : Int32) (l3 : Int32) (σ : Ms) : VF (K0_rightOn) cX0_rightOn RX0 (F0_rightOn_b36 N h k4 l1 l2 l3 σ) σ 36 [(0, .ref h), (1, .int l1), (2, .int l2), (3, .int l3)] [] := by
  unfold F0_rightOn_b36
  refine v_iinc (lv' := [(3, .int (l3 + (1 : Int32))), (0, .ref h), (1, .int l1), (2, .int l2)]) d0_rightOn_36 3 rfl (by rw [ki_1]) (by decide) rfl ?_
  refine v_goto (tgt := 4) d0_rightOn_39 (by decide) ?_
  refine v_sub [1, 2, 3, 0] rfl ?_
  exact hk4 l1 l2 (l3 + (1 : Int32)) σ
set_option maxRecDepth 100000 in
theorem v0_rightOn_b4B (N : Nat) (h : Nat) (hh : IsC h (0, 0, 0)) (k4 : Int32 × Int32 × Int32 × Ms → Option (Int32 × Ms)) (hk4 : ∀ (l1 : Int32) (l2 : Int32) (l3 : Int32) (τ : Ms), VF (K0_rightOn) cX0_rightOn RX0 (k4 (l1, l2, l3, τ)) τ 4 [(0, .ref h), (1, .int l1), (2, .int l2), (3, .int l3)] []) (l1 : Int32) (l2 : Int32) (l3 : Int32) (σ : Ms) : VF (K0_rightOn) cX0_rightOn RX0 (F0_rightOn_b4B N h k4 l1 l2 l3 σ) σ 4 [(0, .ref h), (1, .int l1), (2, .int l2), (3, .int l3)] [] := by
  unfold F0_rightOn_b4B
  refine v_iload_n d0_rightOn_4 3 rfl rfl ?_
  refine v_aload_n d0_rightOn_5 0 rfl rfl ?_
  refine v_getI d0_rightOn_6 faX0_27 hh ?_
  refine v_icmp_ge (tgt := 42) d0_rightOn_9 (by decide) ?_ ?_
  · refine v_iload_n d0_rightOn_42 2 rfl rfl ?_
    exact v_iret d0_rightOn_43 rfl rfl rfl
  · refine v_aload_n d0_rightOn_12 0 rfl rfl ?_
    refine v_iload_n d0_rightOn_13 3 rfl rfl ?_
    refine v_callV1i d0_rightOn_14 (mc0_isStanding h hh l3 σ) yv0_isStanding mlX0_64 (Recv.obj hh rfl) (by decide) (Nat.le_of_ble_eq_true rfl) fun r1 t2 => ?_
    refine v_if_eq (tgt := 36) d0_rightOn_17 (by decide) ?_ ?_
    · exact v0_rightOn_b36 N h hh k4 hk4 l1 l2 l3 t2
    · refine v_aload_n d0_rightOn_20 0 rfl rfl ?_
      refine v_getR d0_rightOn_21 faX0_15 hh rfl ?_
      refine v_iload_n d0_rightOn_24 3 rfl rfl ?_
      refine v_iald d0_rightOn_25 (ih0_2 hh) ?_
      refine v_iload_n d0_rightOn_26 1 rfl rfl ?_
      refine v_icmp_ne (tgt := 36) d0_rightOn_27 (by decide) ?_ ?_
      · exact v0_rightOn_b36 N h hh k4 hk4 l1 l2 l3 t2
      · refine v_iload_n d0_rightOn_30 2 rfl rfl ?_
        refine v_iconst d0_rightOn_31 ki_1 ?_
        refine v_iload_n d0_rightOn_32 3 rfl rfl ?_
        refine v_ishl d0_rightOn_33 ?_
        refine v_ior d0_rightOn_34 ?_
        refine v_lti fun x3 => ?_
        refine v_istore_n (lv' := [(2, .int x3), (0, .ref h), (1, .int l1), (3, .int l3)]) d0_rightOn_35 rfl (by decide) rfl ?_
        refine v_sub [1, 2, 0, 3] rfl ?_
        exact v0_rightOn_b36 N h hh k4 hk4 l1 x3 l3 t2
theorem v0_rightOn_b4 (N : Nat) (h : Nat) (hh : IsC h (0, 0, 0)) (l1 : Int32) (l2 : Int32) (l3 : Int32) (σ : Ms) : VF (K0_rightOn) cX0_rightOn RX0 (F0_rightOn_b4 N h l1 l2 l3 σ) σ 4 [(0, .ref h), (1, .int l1), (2, .int l2), (3, .int l3)] [] := v_fx (σo := fun x => x.2.2.2) (lo := fun x => [(0, .ref h), (1, .int x.1), (2, .int x.2.1), (3, .int x.2.2.1)]) (fun k hk x => v0_rightOn_b4B N h hh k (fun l1 l2 l3 τ => hk (l1, l2, l3, τ)) x.1 x.2.1 x.2.2.1 x.2.2.2) N (l1, l2, l3, σ)
set_option maxRecDepth 100000 in
theorem mc0_rightOn (N : Nat) (h : Nat) (hh : IsC h (0, 0, 0)) (p0 : Int32) (σ : Ms) : MC enI yX0_rightOn cX0_rightOn 4 (some .int) 3 (F0_rightOn N h p0 σ) σ [.ref h, .int p0] := by
  refine MC.i (by decide +kernel) (Nat.le_of_ble_eq_true rfl) ?_
  show VF (K0_rightOn) cX0_rightOn RX0 (F0_rightOn N h p0 σ) σ 0 [(0, .ref h), (1, .int p0)] []
  unfold F0_rightOn
  refine v_iconst d0_rightOn_0 ki_0 ?_
  refine v_istore_n (lv' := [(2, .int (0 : Int32)), (0, .ref h), (1, .int p0)]) d0_rightOn_1 rfl (by decide) rfl ?_
  refine v_iconst d0_rightOn_2 ki_0 ?_
  refine v_istore_n (lv' := [(3, .int (0 : Int32)), (2, .int (0 : Int32)), (0, .ref h), (1, .int p0)]) d0_rightOn_3 rfl (by decide) rfl ?_
  refine v_sub [2, 3, 1, 0] rfl ?_
  exact v0_rightOn_b4 N h hh p0 (0 : Int32) (0 : Int32) σ
theorem d3_branch_0 : decode cX3_branch 0 = .ok (.iload_n 0, 1) := by decide +kernel
theorem d3_branch_1 : decode cX3_branch 1 = .ok (.ifCond .ne 7, 3) := by decide +kernel
theorem d3_branch_4 : decode cX3_branch 4 = .ok (.lload_n 1, 1) := by decide +kernel
theorem d3_branch_5 : decode cX3_branch 5 = .ok (.goto 5, 3) := by decide +kernel
theorem d3_branch_8 : decode cX3_branch 8 = .ok (.lload_n 1, 1) := by decide +kernel
theorem d3_branch_9 : decode cX3_branch 9 = .ok (.lneg, 1) := by decide +kernel
theorem d3_branch_10 : decode cX3_branch 10 = .ok (.lstore_n 3, 1) := by decide +kernel
theorem d3_branch_11 : decode cX3_branch 11 = .ok (.lload_n 3, 1) := by decide +kernel
theorem d3_branch_12 : decode cX3_branch 12 = .ok (.lconst 0, 1) := by decide +kernel
theorem d3_branch_13 : decode cX3_branch 13 = .ok (.lcmp, 1) := by decide +kernel
theorem d3_branch_14 : decode cX3_branch 14 = .ok (.ifCond .le 7, 3) := by decide +kernel
theorem d3_branch_17 : decode cX3_branch 17 = .ok (.iconst 1, 1) := by decide +kernel
theorem d3_branch_18 : decode cX3_branch 18 = .ok (.goto 14, 3) := by decide +kernel
theorem d3_branch_21 : decode cX3_branch 21 = .ok (.ldc2_w 21, 3) := by decide +kernel
theorem d3_branch_24 : decode cX3_branch 24 = .ok (.lload_n 3, 1) := by decide +kernel
theorem d3_branch_25 : decode cX3_branch 25 = .ok (.lsub, 1) := by decide +kernel
theorem d3_branch_26 : decode cX3_branch 26 = .ok (.bipush 30, 2) := by decide +kernel
theorem d3_branch_28 : decode cX3_branch 28 = .ok (.lshr, 1) := by decide +kernel
theorem d3_branch_29 : decode cX3_branch 29 = .ok (.l2i, 1) := by decide +kernel
theorem d3_branch_30 : decode cX3_branch 30 = .ok (.iconst 1, 1) := by decide +kernel
theorem d3_branch_31 : decode cX3_branch 31 = .ok (.iadd, 1) := by decide +kernel
theorem d3_branch_32 : decode cX3_branch 32 = .ok (.istore 5, 2) := by decide +kernel
theorem d3_branch_34 : decode cX3_branch 34 = .ok (.lload_n 3, 1) := by decide +kernel
theorem d3_branch_35 : decode cX3_branch 35 = .ok (.iload 5, 2) := by decide +kernel
theorem d3_branch_37 : decode cX3_branch 37 = .ok (.i2l, 1) := by decide +kernel
theorem d3_branch_38 : decode cX3_branch 38 = .ok (.ldc2_w 21, 3) := by decide +kernel
theorem d3_branch_41 : decode cX3_branch 41 = .ok (.lmul, 1) := by decide +kernel
theorem d3_branch_42 : decode cX3_branch 42 = .ok (.ladd, 1) := by decide +kernel
theorem d3_branch_43 : decode cX3_branch 43 = .ok (.iload 5, 2) := by decide +kernel
theorem d3_branch_45 : decode cX3_branch 45 = .ok (.iconst 1, 1) := by decide +kernel
theorem d3_branch_46 : decode cX3_branch 46 = .ok (.isub, 1) := by decide +kernel
theorem d3_branch_47 : decode cX3_branch 47 = .ok (.lshr, 1) := by decide +kernel
theorem d3_branch_48 : decode cX3_branch 48 = .ok (.lstore 6, 2) := by decide +kernel
theorem d3_branch_50 : decode cX3_branch 50 = .ok (.iload_n 0, 1) := by decide +kernel
theorem d3_branch_51 : decode cX3_branch 51 = .ok (.ifCond .ne 8, 3) := by decide +kernel
theorem d3_branch_54 : decode cX3_branch 54 = .ok (.lload 6, 2) := by decide +kernel
theorem d3_branch_56 : decode cX3_branch 56 = .ok (.goto 6, 3) := by decide +kernel
theorem d3_branch_59 : decode cX3_branch 59 = .ok (.lload 6, 2) := by decide +kernel
theorem d3_branch_61 : decode cX3_branch 61 = .ok (.lneg, 1) := by decide +kernel
theorem d3_branch_62 : decode cX3_branch 62 = .ok (.lreturn, 1) := by decide +kernel
abbrev K3_branch : CK Int64 := (enL, (some .long), 8, 1, none)
noncomputable def F3_branch_b32 (l0 : Int32) (l3 : Int64) (s0 : Int32) (σ : Ms) : Option (Int64 × Ms) :=
  lt ((l3 + ((s0.toInt64) * (1073741824 : Int64))) >>> ((s0 - (1 : Int32)).toInt64 &&& 63)) (fun x1 => if l0 ≠ 0 then (some ((-x1), σ))
  else (some (x1, σ)))
noncomputable def F3_branch_b10 (l0 : Int32) (s0 : Int64) (σ : Ms) : Option (Int64 × Ms) :=
  if (lg_cmp s0 (0 : Int64)) ≤ 0 then (F3_branch_b32 l0 s0 (((((1073741824 : Int64) - s0) >>> ((30 : Int32).toInt64 &&& 63)).toInt32) + (1 : Int32)) σ)
  else (F3_branch_b32 l0 s0 (1 : Int32) σ)
noncomputable def F3_branch (p0 : Int32) (p1 : Int64) (σ : Ms) : Option (Int64 × Ms) :=
  if p0 ≠ 0 then (F3_branch_b10 p0 (-p1) σ)
  else (F3_branch_b10 p0 p1 σ)
set_option maxRecDepth 100000 in
theorem v3_branch_b32 (l0 : Int32) (l3 : Int64) (s0 : Int32) (σ : Ms) : VF (K3_branch) cX3_branch RX3 (F3_branch_b32 l0 l3 s0 σ) σ 32 [(0, .int l0), (3, .long l3)] [.int s0] := by
  unfold F3_branch_b32
  refine v_istore (lv' := [(5, .int s0), (0, .int l0), (3, .long l3)]) d3_branch_32 (by decide) rfl ?_
  refine v_lload_n d3_branch_34 2 rfl rfl ?_
  refine v_iload d3_branch_35 0 rfl ?_
  refine v_i2l d3_branch_37 ?_
  refine v_ldc2 d3_branch_38 klX3_21 ?_
  refine v_lmul d3_branch_41 ?_
  refine v_ladd d3_branch_42 ?_
  refine v_iload d3_branch_43 0 rfl ?_
  refine v_iconst d3_branch_45 ki_1 ?_
  refine v_isub d3_branch_46 ?_
  refine v_lshr d3_branch_47 ?_
  refine v_ltl fun x1 => ?_
  refine v_lstore (lv' := [(6, .long x1), (5, .int s0), (0, .int l0), (3, .long l3)]) d3_branch_48 (by decide) rfl ?_
  refine v_iload_n d3_branch_50 2 rfl rfl ?_
  refine v_if_ne (tgt := 59) d3_branch_51 (by decide) ?_ ?_
  · refine v_lload d3_branch_59 0 rfl ?_
    refine v_lneg d3_branch_61 ?_
    exact v_lret d3_branch_62 rfl rfl
  · refine v_lload d3_branch_54 0 rfl ?_
    refine v_goto (tgt := 62) d3_branch_56 (by decide) ?_
    exact v_lret d3_branch_62 rfl rfl
set_option maxRecDepth 100000 in
theorem v3_branch_b10 (l0 : Int32) (s0 : Int64) (σ : Ms) : VF (K3_branch) cX3_branch RX3 (F3_branch_b10 l0 s0 σ) σ 10 [(0, .int l0)] [.long s0] := by
  unfold F3_branch_b10
  refine v_lstore_n (lv' := [(3, .long s0), (0, .int l0)]) d3_branch_10 rfl (by decide) rfl ?_
  refine v_lload_n d3_branch_11 0 rfl rfl ?_
  refine v_lconst d3_branch_12 kl_0 ?_
  refine v_lcmp d3_branch_13 ?_
  refine v_if_le (tgt := 21) d3_branch_14 (by decide) ?_ ?_
  · refine v_ldc2 d3_branch_21 klX3_21 ?_
    refine v_lload_n d3_branch_24 0 rfl rfl ?_
    refine v_lsub d3_branch_25 ?_
    refine v_bipush d3_branch_26 kb_30 ?_
    refine v_lshr d3_branch_28 ?_
    refine v_l2i d3_branch_29 ?_
    refine v_iconst d3_branch_30 ki_1 ?_
    refine v_iadd d3_branch_31 ?_
    refine v_sub [1, 0] rfl ?_
    exact v3_branch_b32 l0 s0 (((((1073741824 : Int64) - s0) >>> ((30 : Int32).toInt64 &&& 63)).toInt32) + (1 : Int32)) σ
  · refine v_iconst d3_branch_17 ki_1 ?_
    refine v_goto (tgt := 32) d3_branch_18 (by decide) ?_
    refine v_sub [1, 0] rfl ?_
    exact v3_branch_b32 l0 s0 (1 : Int32) σ
set_option maxRecDepth 100000 in
theorem mc3_branch (p0 : Int32) (p1 : Int64) (σ : Ms) : MC enL yX3_branch cX3_branch 8 (some .long) 1 (F3_branch p0 p1 σ) σ [.int p0, .long p1] := by
  refine MC.l (by decide +kernel) (Nat.le_of_ble_eq_true rfl) ?_
  show VF (K3_branch) cX3_branch RX3 (F3_branch p0 p1 σ) σ 0 [(0, .int p0), (1, .long p1)] []
  unfold F3_branch
  refine v_iload_n d3_branch_0 0 rfl rfl ?_
  refine v_if_ne (tgt := 8) d3_branch_1 (by decide) ?_ ?_
  · refine v_lload_n d3_branch_8 1 rfl rfl ?_
    refine v_lneg d3_branch_9 ?_
    refine v_sub [0] rfl ?_
    exact v3_branch_b10 p0 (-p1) σ
  · refine v_lload_n d3_branch_4 1 rfl rfl ?_
    refine v_goto (tgt := 10) d3_branch_5 (by decide) ?_
    refine v_sub [0] rfl ?_
    exact v3_branch_b10 p0 p1 σ
theorem d0_worthWith_0 : decode cX0_worthWith 0 = .ok (.aload_n 0, 1) := by decide +kernel
theorem d0_worthWith_1 : decode cX0_worthWith 1 = .ok (.getfield 43, 3) := by decide +kernel
theorem d0_worthWith_4 : decode cX0_worthWith 4 = .ok (.i2l, 1) := by decide +kernel
theorem d0_worthWith_5 : decode cX0_worthWith 5 = .ok (.ldc2_w 111, 3) := by decide +kernel
theorem d0_worthWith_8 : decode cX0_worthWith 8 = .ok (.lmul, 1) := by decide +kernel
theorem d0_worthWith_9 : decode cX0_worthWith 9 = .ok (.lstore_n 2, 1) := by decide +kernel
theorem d0_worthWith_10 : decode cX0_worthWith 10 = .ok (.iconst 0, 1) := by decide +kernel
theorem d0_worthWith_11 : decode cX0_worthWith 11 = .ok (.istore 4, 2) := by decide +kernel
theorem d0_worthWith_13 : decode cX0_worthWith 13 = .ok (.iload 4, 2) := by decide +kernel
theorem d0_worthWith_15 : decode cX0_worthWith 15 = .ok (.bipush 20, 2) := by decide +kernel
theorem d0_worthWith_17 : decode cX0_worthWith 17 = .ok (.if_icmp .ge 17, 3) := by decide +kernel
theorem d0_worthWith_20 : decode cX0_worthWith 20 = .ok (.aload_n 0, 1) := by decide +kernel
theorem d0_worthWith_21 : decode cX0_worthWith 21 = .ok (.getfield 49, 3) := by decide +kernel
theorem d0_worthWith_24 : decode cX0_worthWith 24 = .ok (.iload 4, 2) := by decide +kernel
theorem d0_worthWith_26 : decode cX0_worthWith 26 = .ok (.lconst 0, 1) := by decide +kernel
theorem d0_worthWith_27 : decode cX0_worthWith 27 = .ok (.lastore, 1) := by decide +kernel
theorem d0_worthWith_28 : decode cX0_worthWith 28 = .ok (.iinc 4 1, 3) := by decide +kernel
theorem d0_worthWith_31 : decode cX0_worthWith 31 = .ok (.goto (-18), 3) := by decide +kernel
theorem d0_worthWith_34 : decode cX0_worthWith 34 = .ok (.aload_n 0, 1) := by decide +kernel
theorem d0_worthWith_35 : decode cX0_worthWith 35 = .ok (.getfield 27, 3) := by decide +kernel
theorem d0_worthWith_38 : decode cX0_worthWith 38 = .ok (.iconst 1, 1) := by decide +kernel
theorem d0_worthWith_39 : decode cX0_worthWith 39 = .ok (.isub, 1) := by decide +kernel
theorem d0_worthWith_40 : decode cX0_worthWith 40 = .ok (.istore 4, 2) := by decide +kernel
theorem d0_worthWith_42 : decode cX0_worthWith 42 = .ok (.iload 4, 2) := by decide +kernel
theorem d0_worthWith_44 : decode cX0_worthWith 44 = .ok (.ifCond .lt 99, 3) := by decide +kernel
theorem d0_worthWith_47 : decode cX0_worthWith 47 = .ok (.iload_n 1, 1) := by decide +kernel
theorem d0_worthWith_48 : decode cX0_worthWith 48 = .ok (.iload 4, 2) := by decide +kernel
theorem d0_worthWith_50 : decode cX0_worthWith 50 = .ok (.invokestatic 60, 3) := by decide +kernel
theorem d0_worthWith_53 : decode cX0_worthWith 53 = .ok (.ifCond .eq 84, 3) := by decide +kernel
theorem d0_worthWith_56 : decode cX0_worthWith 56 = .ok (.aload_n 0, 1) := by decide +kernel
theorem d0_worthWith_57 : decode cX0_worthWith 57 = .ok (.iload 4, 2) := by decide +kernel
theorem d0_worthWith_59 : decode cX0_worthWith 59 = .ok (.invokevirtual 56, 3) := by decide +kernel
theorem d0_worthWith_62 : decode cX0_worthWith 62 = .ok (.ifCond .eq 75, 3) := by decide +kernel
theorem d0_worthWith_65 : decode cX0_worthWith 65 = .ok (.aload_n 0, 1) := by decide +kernel
theorem d0_worthWith_66 : decode cX0_worthWith 66 = .ok (.getfield 9, 3) := by decide +kernel
theorem d0_worthWith_69 : decode cX0_worthWith 69 = .ok (.iload 4, 2) := by decide +kernel
theorem d0_worthWith_71 : decode cX0_worthWith 71 = .ok (.iaload, 1) := by decide +kernel
theorem d0_worthWith_72 : decode cX0_worthWith 72 = .ok (.iconst 2, 1) := by decide +kernel
theorem d0_worthWith_73 : decode cX0_worthWith 73 = .ok (.if_icmp .ne 6, 3) := by decide +kernel
theorem d0_worthWith_76 : decode cX0_worthWith 76 = .ok (.goto 61, 3) := by decide +kernel
theorem d0_worthWith_79 : decode cX0_worthWith 79 = .ok (.aload_n 0, 1) := by decide +kernel
theorem d0_worthWith_80 : decode cX0_worthWith 80 = .ok (.getfield 9, 3) := by decide +kernel
theorem d0_worthWith_83 : decode cX0_worthWith 83 = .ok (.iload 4, 2) := by decide +kernel
theorem d0_worthWith_85 : decode cX0_worthWith 85 = .ok (.iaload, 1) := by decide +kernel
theorem d0_worthWith_86 : decode cX0_worthWith 86 = .ok (.aload_n 0, 1) := by decide +kernel
theorem d0_worthWith_87 : decode cX0_worthWith 87 = .ok (.getfield 49, 3) := by decide +kernel
theorem d0_worthWith_90 : decode cX0_worthWith 90 = .ok (.iload 4, 2) := by decide +kernel
theorem d0_worthWith_92 : decode cX0_worthWith 92 = .ok (.laload, 1) := by decide +kernel
theorem d0_worthWith_93 : decode cX0_worthWith 93 = .ok (.invokestatic 102, 3) := by decide +kernel
theorem d0_worthWith_96 : decode cX0_worthWith 96 = .ok (.lstore 5, 2) := by decide +kernel
theorem d0_worthWith_98 : decode cX0_worthWith 98 = .ok (.aload_n 0, 1) := by decide +kernel
theorem d0_worthWith_99 : decode cX0_worthWith 99 = .ok (.aload_n 0, 1) := by decide +kernel
theorem d0_worthWith_100 : decode cX0_worthWith 100 = .ok (.getfield 15, 3) := by decide +kernel
theorem d0_worthWith_103 : decode cX0_worthWith 103 = .ok (.iload 4, 2) := by decide +kernel
theorem d0_worthWith_105 : decode cX0_worthWith 105 = .ok (.iaload, 1) := by decide +kernel
theorem d0_worthWith_106 : decode cX0_worthWith 106 = .ok (.invokevirtual 56, 3) := by decide +kernel
theorem d0_worthWith_109 : decode cX0_worthWith 109 = .ok (.ifCond .eq 23, 3) := by decide +kernel
theorem d0_worthWith_112 : decode cX0_worthWith 112 = .ok (.aload_n 0, 1) := by decide +kernel
theorem d0_worthWith_113 : decode cX0_worthWith 113 = .ok (.getfield 49, 3) := by decide +kernel
theorem d0_worthWith_116 : decode cX0_worthWith 116 = .ok (.aload_n 0, 1) := by decide +kernel
theorem d0_worthWith_117 : decode cX0_worthWith 117 = .ok (.getfield 15, 3) := by decide +kernel
theorem d0_worthWith_120 : decode cX0_worthWith 120 = .ok (.iload 4, 2) := by decide +kernel
theorem d0_worthWith_122 : decode cX0_worthWith 122 = .ok (.iaload, 1) := by decide +kernel
theorem d0_worthWith_123 : decode cX0_worthWith 123 = .ok (.dup2, 1) := by decide +kernel
theorem d0_worthWith_124 : decode cX0_worthWith 124 = .ok (.laload, 1) := by decide +kernel
theorem d0_worthWith_125 : decode cX0_worthWith 125 = .ok (.lload 5, 2) := by decide +kernel
theorem d0_worthWith_127 : decode cX0_worthWith 127 = .ok (.ladd, 1) := by decide +kernel
theorem d0_worthWith_128 : decode cX0_worthWith 128 = .ok (.lastore, 1) := by decide +kernel
theorem d0_worthWith_129 : decode cX0_worthWith 129 = .ok (.goto 8, 3) := by decide +kernel
theorem d0_worthWith_132 : decode cX0_worthWith 132 = .ok (.lload_n 2, 1) := by decide +kernel
theorem d0_worthWith_133 : decode cX0_worthWith 133 = .ok (.lload 5, 2) := by decide +kernel
theorem d0_worthWith_135 : decode cX0_worthWith 135 = .ok (.ladd, 1) := by decide +kernel
theorem d0_worthWith_136 : decode cX0_worthWith 136 = .ok (.lstore_n 2, 1) := by decide +kernel
theorem d0_worthWith_137 : decode cX0_worthWith 137 = .ok (.iinc 4 (-1), 3) := by decide +kernel
theorem d0_worthWith_140 : decode cX0_worthWith 140 = .ok (.goto (-98), 3) := by decide +kernel
theorem d0_worthWith_143 : decode cX0_worthWith 143 = .ok (.lload_n 2, 1) := by decide +kernel
theorem d0_worthWith_144 : decode cX0_worthWith 144 = .ok (.lreturn, 1) := by decide +kernel
abbrev K0_worthWith : CK Int64 := (enL, (some .long), 7, 2, none)
noncomputable def F0_worthWith_b137 (N : Nat) (h : Nat) (k42 : Int32 × Int64 × Int32 × Ms → Option (Int64 × Ms)) (l1 : Int32) (l2 : Int64) (l4 : Int32) (σ : Ms) : Option (Int64 × Ms) :=
  k42 (l1, l2, (l4 + (-1 : Int32)), σ)
noncomputable def F0_worthWith_b42B (N : Nat) (h : Nat) (k42 : Int32 × Int64 × Int32 × Ms → Option (Int64 × Ms)) (l1 : Int32) (l2 : Int64) (l4 : Int32) (σ : Ms) : Option (Int64 × Ms) :=
  if l4 < 0 then (some (l2, σ))
  else (bn (F11_isIn l1 l4 σ) (fun r1 t2 => if r1 = 0 then (F0_worthWith_b137 N h k42 l1 l2 l4 t2)
  else (bn (F0_hasSprig h l4 t2) (fun r3 t4 => if r3 = 0 then (F0_worthWith_b137 N h k42 l1 l2 l4 t4)
  else (ck (ixb l4 20) (if (t4.1 (h + 1) l4.toNatClampNeg) ≠ (2 : Int32) then (ck (ixb l4 20) (ck (ixb l4 20) (bn (F3_branch (t4.1 (h + 1) l4.toNatClampNeg) (t4.2 (h + 6) l4.toNatClampNeg) t4) (fun r5 t6 => ck (ixb l4 20) (bn (F0_hasSprig h (t6.1 (h + 2) l4.toNatClampNeg) t6) (fun r7 t8 => if r7 = 0 then (lt (l2 + r5) (fun x9 => F0_worthWith_b137 N h k42 l1 x9 l4 t8))
  else (ck (ixb l4 20) (ck (ixb (t8.1 (h + 2) l4.toNatClampNeg) 20) (ck (ixb (t8.1 (h + 2) l4.toNatClampNeg) 20) (lt (sL t8 (h + 6) (t8.1 (h + 2) l4.toNatClampNeg).toNatClampNeg ((t8.2 (h + 6) (t8.1 (h + 2) l4.toNatClampNeg).toNatClampNeg) + r5)) (fun t10 => F0_worthWith_b137 N h k42 l1 l2 l4 t10)))))))))))
  else (F0_worthWith_b137 N h k42 l1 l2 l4 t4)))))))
noncomputable def F0_worthWith_b42 (N : Nat) (h : Nat) (l1 : Int32) (l2 : Int64) (l4 : Int32) (σ : Ms) : Option (Int64 × Ms) :=
  fx N (fun k x => F0_worthWith_b42B N h k x.1 x.2.1 x.2.2.1 x.2.2.2) (l1, l2, l4, σ)
noncomputable def F0_worthWith_b13B (N : Nat) (h : Nat) (k13 : Int32 × Int64 × Int32 × Ms → Option (Int64 × Ms)) (l1 : Int32) (l2 : Int64) (l4 : Int32) (σ : Ms) : Option (Int64 × Ms) :=
  if (20 : Int32) ≤ l4 then (lt ((σ.1 h 5) - (1 : Int32)) (fun x11 => F0_worthWith_b42 N h l1 l2 x11 σ))
  else (ck (ixb l4 20) (lt (sL σ (h + 6) l4.toNatClampNeg (0 : Int64)) (fun t12 => k13 (l1, l2, (l4 + (1 : Int32)), t12))))
noncomputable def F0_worthWith_b13 (N : Nat) (h : Nat) (l1 : Int32) (l2 : Int64) (l4 : Int32) (σ : Ms) : Option (Int64 × Ms) :=
  fx N (fun k x => F0_worthWith_b13B N h k x.1 x.2.1 x.2.2.1 x.2.2.2) (l1, l2, l4, σ)
noncomputable def F0_worthWith (N : Nat) (h : Nat) (p0 : Int32) (σ : Ms) : Option (Int64 × Ms) :=
  lt (((σ.1 h 10).toInt64) * (1073741824 : Int64)) (fun x13 => F0_worthWith_b13 N h p0 x13 (0 : Int32) σ)
set_option maxRecDepth 100000 in
theorem v0_worthWith_b137 (N : Nat) (h : Nat) (hh : IsC h (0, 0, 0)) (k42 : Int32 × Int64 × Int32 × Ms → Option (Int64 × Ms)) (hk42 : ∀ (l1 : Int32) (l2 : Int64) (l4 : Int32) (τ : Ms), VF (K0_worthWith) cX0_worthWith RX0 (k42 (l1, l2, l4, τ)) τ 42 [(0, .ref h), (1, .int l1), (2, .long l2), (4, .int l4)] []) (l1 : Int32) (l2 : Int64) (l4 : Int32) (σ : Ms) : VF (K0_worthWith) cX0_worthWith RX0 (F0_worthWith_b137 N h k42 l1 l2 l4 σ) σ 137 [(0, .ref h), (1, .int l1), (2, .long l2), (4, .int l4)] [] := by
  unfold F0_worthWith_b137
  refine v_iinc (lv' := [(4, .int (l4 + (-1 : Int32))), (0, .ref h), (1, .int l1), (2, .long l2)]) d0_worthWith_137 3 rfl (by rw [ki_m1]) (by decide) rfl ?_
  refine v_goto (tgt := 42) d0_worthWith_140 (by decide) ?_
  refine v_sub [1, 2, 3, 0] rfl ?_
  exact hk42 l1 l2 (l4 + (-1 : Int32)) σ
set_option maxRecDepth 100000 in
theorem v0_worthWith_b42B (N : Nat) (h : Nat) (hh : IsC h (0, 0, 0)) (k42 : Int32 × Int64 × Int32 × Ms → Option (Int64 × Ms)) (hk42 : ∀ (l1 : Int32) (l2 : Int64) (l4 : Int32) (τ : Ms), VF (K0_worthWith) cX0_worthWith RX0 (k42 (l1, l2, l4, τ)) τ 42 [(0, .ref h), (1, .int l1), (2, .long l2), (4, .int l4)] []) (l1 : Int32) (l2 : Int64) (l4 : Int32) (σ : Ms) : VF (K0_worthWith) cX0_worthWith RX0 (F0_worthWith_b42B N h k42 l1 l2 l4 σ) σ 42 [(0, .ref h), (1, .int l1), (2, .long l2), (4, .int l4)] [] := by
  unfold F0_worthWith_b42B
  refine v_iload d0_worthWith_42 3 rfl ?_
  refine v_if_lt (tgt := 143) d0_worthWith_44 (by decide) ?_ ?_
  · refine v_lload_n d0_worthWith_143 2 rfl rfl ?_
    exact v_lret d0_worthWith_144 rfl rfl
  · refine v_iload_n d0_worthWith_47 1 rfl rfl ?_
    refine v_iload d0_worthWith_48 3 rfl ?_
    refine v_callN2i d0_worthWith_50 (mc11_isIn l1 l4 σ) ys11_isIn neX0_60 (by decide) (Nat.le_of_ble_eq_true rfl) fun r1 t2 => ?_
    refine v_if_eq (tgt := 137) d0_worthWith_53 (by decide) ?_ ?_
    · exact v0_worthWith_b137 N h hh k42 hk42 l1 l2 l4 t2
    · refine v_aload_n d0_worthWith_56 0 rfl rfl ?_
      refine v_iload d0_worthWith_57 3 rfl ?_
      refine v_callV1i d0_worthWith_59 (mc0_hasSprig h hh l4 t2) yv0_hasSprig mlX0_56 (Recv.obj hh rfl) (by decide) (Nat.le_of_ble_eq_true rfl) fun r3 t4 => ?_
      refine v_if_eq (tgt := 137) d0_worthWith_62 (by decide) ?_ ?_
      · exact v0_worthWith_b137 N h hh k42 hk42 l1 l2 l4 t4
      · refine v_aload_n d0_worthWith_65 0 rfl rfl ?_
        refine v_getR d0_worthWith_66 faX0_9 hh rfl ?_
        refine v_iload d0_worthWith_69 3 rfl ?_
        refine v_iald d0_worthWith_71 (ih0_1 hh) ?_
        refine v_iconst d0_worthWith_72 ki_2 ?_
        refine v_icmp_ne (tgt := 79) d0_worthWith_73 (by decide) ?_ ?_
        · refine v_aload_n d0_worthWith_79 0 rfl rfl ?_
          refine v_getR d0_worthWith_80 faX0_9 hh rfl ?_
          refine v_iload d0_worthWith_83 3 rfl ?_
          refine v_iald d0_worthWith_85 (ih0_1 hh) ?_
          refine v_aload_n d0_worthWith_86 0 rfl rfl ?_
          refine v_getR d0_worthWith_87 faX0_49 hh rfl ?_
          refine v_iload d0_worthWith_90 3 rfl ?_
          refine v_lald d0_worthWith_92 (ih0_6 hh) ?_
          refine v_callS2l d0_worthWith_93 (mc3_branch (t4.1 (h + 1) l4.toNatClampNeg) (t4.2 (h + 6) l4.toNatClampNeg) t4) ys3_branch mlX0_102 (by decide) (Nat.le_of_ble_eq_true rfl) fun r5 t6 => ?_
          refine v_lstore (lv' := [(5, .long r5), (0, .ref h), (1, .int l1), (2, .long l2), (4, .int l4)]) d0_worthWith_96 (by decide) rfl ?_
          refine v_aload_n d0_worthWith_98 1 rfl rfl ?_
          refine v_aload_n d0_worthWith_99 1 rfl rfl ?_
          refine v_getR d0_worthWith_100 faX0_15 hh rfl ?_
          refine v_iload d0_worthWith_103 4 rfl ?_
          refine v_iald d0_worthWith_105 (ih0_2 hh) ?_
          refine v_callV1i d0_worthWith_106 (mc0_hasSprig h hh (t6.1 (h + 2) l4.toNatClampNeg) t6) yv0_hasSprig mlX0_56 (Recv.obj hh rfl) (by decide) (Nat.le_of_ble_eq_true rfl) fun r7 t8 => ?_
          refine v_if_eq (tgt := 132) d0_worthWith_109 (by decide) ?_ ?_
          · refine v_lload_n d0_worthWith_132 3 rfl rfl ?_
            refine v_lload d0_worthWith_133 0 rfl ?_
            refine v_ladd d0_worthWith_135 ?_
            refine v_ltl fun x9 => ?_
            refine v_lstore_n (lv' := [(2, .long x9), (5, .long r5), (0, .ref h), (1, .int l1), (4, .int l4)]) d0_worthWith_136 rfl (by decide) rfl ?_
            refine v_sub [2, 3, 0, 4] rfl ?_
            exact v0_worthWith_b137 N h hh k42 hk42 l1 x9 l4 t8
          · refine v_aload_n d0_worthWith_112 1 rfl rfl ?_
            refine v_getR d0_worthWith_113 faX0_49 hh rfl ?_
            refine v_aload_n d0_worthWith_116 1 rfl rfl ?_
            refine v_getR d0_worthWith_117 faX0_15 hh rfl ?_
            refine v_iload d0_worthWith_120 4 rfl ?_
            refine v_iald d0_worthWith_122 (ih0_2 hh) ?_
            refine v_dup2_11 d0_worthWith_123 rfl rfl ?_
            refine v_lald d0_worthWith_124 (ih0_6 hh) ?_
            refine v_lload d0_worthWith_125 0 rfl ?_
            refine v_ladd d0_worthWith_127 ?_
            refine v_last d0_worthWith_128 (ih0_6 hh) ?_
            refine v_lts fun t10 => ?_
            refine v_goto (tgt := 137) d0_worthWith_129 (by decide) ?_
            refine v_sub [1, 2, 3, 4] rfl ?_
            exact v0_worthWith_b137 N h hh k42 hk42 l1 l2 l4 t10
        · refine v_goto (tgt := 137) d0_worthWith_76 (by decide) ?_
          exact v0_worthWith_b137 N h hh k42 hk42 l1 l2 l4 t4
theorem v0_worthWith_b42 (N : Nat) (h : Nat) (hh : IsC h (0, 0, 0)) (l1 : Int32) (l2 : Int64) (l4 : Int32) (σ : Ms) : VF (K0_worthWith) cX0_worthWith RX0 (F0_worthWith_b42 N h l1 l2 l4 σ) σ 42 [(0, .ref h), (1, .int l1), (2, .long l2), (4, .int l4)] [] := v_fx (σo := fun x => x.2.2.2) (lo := fun x => [(0, .ref h), (1, .int x.1), (2, .long x.2.1), (4, .int x.2.2.1)]) (fun k hk x => v0_worthWith_b42B N h hh k (fun l1 l2 l4 τ => hk (l1, l2, l4, τ)) x.1 x.2.1 x.2.2.1 x.2.2.2) N (l1, l2, l4, σ)
set_option maxRecDepth 100000 in
theorem v0_worthWith_b13B (N : Nat) (h : Nat) (hh : IsC h (0, 0, 0)) (k13 : Int32 × Int64 × Int32 × Ms → Option (Int64 × Ms)) (hk13 : ∀ (l1 : Int32) (l2 : Int64) (l4 : Int32) (τ : Ms), VF (K0_worthWith) cX0_worthWith RX0 (k13 (l1, l2, l4, τ)) τ 13 [(0, .ref h), (1, .int l1), (2, .long l2), (4, .int l4)] []) (l1 : Int32) (l2 : Int64) (l4 : Int32) (σ : Ms) : VF (K0_worthWith) cX0_worthWith RX0 (F0_worthWith_b13B N h k13 l1 l2 l4 σ) σ 13 [(0, .ref h), (1, .int l1), (2, .long l2), (4, .int l4)] [] := by
  unfold F0_worthWith_b13B
  refine v_iload d0_worthWith_13 3 rfl ?_
  refine v_bipush d0_worthWith_15 kb_20 ?_
  refine v_icmp_ge (tgt := 34) d0_worthWith_17 (by decide) ?_ ?_
  · refine v_aload_n d0_worthWith_34 0 rfl rfl ?_
    refine v_getI d0_worthWith_35 faX0_27 hh ?_
    refine v_iconst d0_worthWith_38 ki_1 ?_
    refine v_isub d0_worthWith_39 ?_
    refine v_lti fun x11 => ?_
    refine v_istore (lv' := [(4, .int x11), (0, .ref h), (1, .int l1), (2, .long l2)]) d0_worthWith_40 (by decide) rfl ?_
    refine v_sub [1, 2, 3, 0] rfl ?_
    exact v0_worthWith_b42 N h hh l1 l2 x11 σ
  · refine v_aload_n d0_worthWith_20 0 rfl rfl ?_
    refine v_getR d0_worthWith_21 faX0_49 hh rfl ?_
    refine v_iload d0_worthWith_24 3 rfl ?_
    refine v_lconst d0_worthWith_26 kl_0 ?_
    refine v_last d0_worthWith_27 (ih0_6 hh) ?_
    refine v_lts fun t12 => ?_
    refine v_iinc (lv' := [(4, .int (l4 + (1 : Int32))), (0, .ref h), (1, .int l1), (2, .long l2)]) d0_worthWith_28 3 rfl (by rw [ki_1]) (by decide) rfl ?_
    refine v_goto (tgt := 13) d0_worthWith_31 (by decide) ?_
    refine v_sub [1, 2, 3, 0] rfl ?_
    exact hk13 l1 l2 (l4 + (1 : Int32)) t12
theorem v0_worthWith_b13 (N : Nat) (h : Nat) (hh : IsC h (0, 0, 0)) (l1 : Int32) (l2 : Int64) (l4 : Int32) (σ : Ms) : VF (K0_worthWith) cX0_worthWith RX0 (F0_worthWith_b13 N h l1 l2 l4 σ) σ 13 [(0, .ref h), (1, .int l1), (2, .long l2), (4, .int l4)] [] := v_fx (σo := fun x => x.2.2.2) (lo := fun x => [(0, .ref h), (1, .int x.1), (2, .long x.2.1), (4, .int x.2.2.1)]) (fun k hk x => v0_worthWith_b13B N h hh k (fun l1 l2 l4 τ => hk (l1, l2, l4, τ)) x.1 x.2.1 x.2.2.1 x.2.2.2) N (l1, l2, l4, σ)
set_option maxRecDepth 100000 in
theorem mc0_worthWith (N : Nat) (h : Nat) (hh : IsC h (0, 0, 0)) (p0 : Int32) (σ : Ms) : MC enL yX0_worthWith cX0_worthWith 7 (some .long) 2 (F0_worthWith N h p0 σ) σ [.ref h, .int p0] := by
  refine MC.l (by decide +kernel) (Nat.le_of_ble_eq_true rfl) ?_
  show VF (K0_worthWith) cX0_worthWith RX0 (F0_worthWith N h p0 σ) σ 0 [(0, .ref h), (1, .int p0)] []
  unfold F0_worthWith
  refine v_aload_n d0_worthWith_0 0 rfl rfl ?_
  refine v_getI d0_worthWith_1 faX0_43 hh ?_
  refine v_i2l d0_worthWith_4 ?_
  refine v_ldc2 d0_worthWith_5 klX0_111 ?_
  refine v_lmul d0_worthWith_8 ?_
  refine v_ltl fun x13 => ?_
  refine v_lstore_n (lv' := [(2, .long x13), (0, .ref h), (1, .int p0)]) d0_worthWith_9 rfl (by decide) rfl ?_
  refine v_iconst d0_worthWith_10 ki_0 ?_
  refine v_istore (lv' := [(4, .int (0 : Int32)), (2, .long x13), (0, .ref h), (1, .int p0)]) d0_worthWith_11 (by decide) rfl ?_
  refine v_sub [2, 3, 1, 0] rfl ?_
  exact v0_worthWith_b13 N h hh p0 x13 (0 : Int32) σ
theorem d0_branchWorth_0 : decode cX0_branchWorth 0 = .ok (.aload_n 0, 1) := by decide +kernel
theorem d0_branchWorth_1 : decode cX0_branchWorth 1 = .ok (.iload_n 1, 1) := by decide +kernel
theorem d0_branchWorth_2 : decode cX0_branchWorth 2 = .ok (.invokevirtual 95, 3) := by decide +kernel
theorem d0_branchWorth_5 : decode cX0_branchWorth 5 = .ok (.ifCond .ne 5, 3) := by decide +kernel
theorem d0_branchWorth_8 : decode cX0_branchWorth 8 = .ok (.lconst 0, 1) := by decide +kernel
theorem d0_branchWorth_9 : decode cX0_branchWorth 9 = .ok (.lreturn, 1) := by decide +kernel
theorem d0_branchWorth_10 : decode cX0_branchWorth 10 = .ok (.aload_n 0, 1) := by decide +kernel
theorem d0_branchWorth_11 : decode cX0_branchWorth 11 = .ok (.aload_n 0, 1) := by decide +kernel
theorem d0_branchWorth_12 : decode cX0_branchWorth 12 = .ok (.getfield 31, 3) := by decide +kernel
theorem d0_branchWorth_15 : decode cX0_branchWorth 15 = .ok (.invokevirtual 98, 3) := by decide +kernel
theorem d0_branchWorth_18 : decode cX0_branchWorth 18 = .ok (.pop2, 1) := by decide +kernel
theorem d0_branchWorth_19 : decode cX0_branchWorth 19 = .ok (.aload_n 0, 1) := by decide +kernel
theorem d0_branchWorth_20 : decode cX0_branchWorth 20 = .ok (.getfield 9, 3) := by decide +kernel
theorem d0_branchWorth_23 : decode cX0_branchWorth 23 = .ok (.iload_n 1, 1) := by decide +kernel
theorem d0_branchWorth_24 : decode cX0_branchWorth 24 = .ok (.iaload, 1) := by decide +kernel
theorem d0_branchWorth_25 : decode cX0_branchWorth 25 = .ok (.aload_n 0, 1) := by decide +kernel
theorem d0_branchWorth_26 : decode cX0_branchWorth 26 = .ok (.getfield 49, 3) := by decide +kernel
theorem d0_branchWorth_29 : decode cX0_branchWorth 29 = .ok (.iload_n 1, 1) := by decide +kernel
theorem d0_branchWorth_30 : decode cX0_branchWorth 30 = .ok (.laload, 1) := by decide +kernel
theorem d0_branchWorth_31 : decode cX0_branchWorth 31 = .ok (.invokestatic 102, 3) := by decide +kernel
theorem d0_branchWorth_34 : decode cX0_branchWorth 34 = .ok (.lreturn, 1) := by decide +kernel
abbrev K0_branchWorth : CK Int64 := (enL, (some .long), 2, 4, none)
noncomputable def F0_branchWorth (N : Nat) (h : Nat) (p0 : Int32) (σ : Ms) : Option (Int64 × Ms) :=
  bn (F0_hasWorth h p0 σ) (fun r1 t2 => if r1 ≠ 0 then (bn (F0_worthWith N h (t2.1 h 6) t2) (fun r3 t4 => ck (ixb p0 20) (ck (ixb p0 20) (bn (F3_branch (t4.1 (h + 1) p0.toNatClampNeg) (t4.2 (h + 6) p0.toNatClampNeg) t4) (fun r5 t6 => some (r5, t6))))))
  else (some ((0 : Int64), t2)))
set_option maxRecDepth 100000 in
theorem mc0_branchWorth (N : Nat) (h : Nat) (hh : IsC h (0, 0, 0)) (p0 : Int32) (σ : Ms) : MC enL yX0_branchWorth cX0_branchWorth 2 (some .long) 4 (F0_branchWorth N h p0 σ) σ [.ref h, .int p0] := by
  refine MC.l (by decide +kernel) (Nat.le_of_ble_eq_true rfl) ?_
  show VF (K0_branchWorth) cX0_branchWorth RX0 (F0_branchWorth N h p0 σ) σ 0 [(0, .ref h), (1, .int p0)] []
  unfold F0_branchWorth
  refine v_aload_n d0_branchWorth_0 0 rfl rfl ?_
  refine v_iload_n d0_branchWorth_1 1 rfl rfl ?_
  refine v_callV1i d0_branchWorth_2 (mc0_hasWorth h hh p0 σ) yv0_hasWorth mlX0_95 (Recv.obj hh rfl) (by decide) (Nat.le_of_ble_eq_true rfl) fun r1 t2 => ?_
  refine v_if_ne (tgt := 10) d0_branchWorth_5 (by decide) ?_ ?_
  · refine v_aload_n d0_branchWorth_10 0 rfl rfl ?_
    refine v_aload_n d0_branchWorth_11 0 rfl rfl ?_
    refine v_getI d0_branchWorth_12 faX0_31 hh ?_
    refine v_callV1l d0_branchWorth_15 (mc0_worthWith N h hh (t2.1 h 6) t2) yv0_worthWith mlX0_98 (Recv.obj hh rfl) (by decide) (Nat.le_of_ble_eq_true rfl) fun r3 t4 => ?_
    refine v_pop2_2 d0_branchWorth_18 rfl ?_
    refine v_aload_n d0_branchWorth_19 0 rfl rfl ?_
    refine v_getR d0_branchWorth_20 faX0_9 hh rfl ?_
    refine v_iload_n d0_branchWorth_23 1 rfl rfl ?_
    refine v_iald d0_branchWorth_24 (ih0_1 hh) ?_
    refine v_aload_n d0_branchWorth_25 0 rfl rfl ?_
    refine v_getR d0_branchWorth_26 faX0_49 hh rfl ?_
    refine v_iload_n d0_branchWorth_29 1 rfl rfl ?_
    refine v_lald d0_branchWorth_30 (ih0_6 hh) ?_
    refine v_callS2l d0_branchWorth_31 (mc3_branch (t4.1 (h + 1) p0.toNatClampNeg) (t4.2 (h + 6) p0.toNatClampNeg) t4) ys3_branch mlX0_102 (by decide) (Nat.le_of_ble_eq_true rfl) fun r5 t6 => ?_
    exact v_lret d0_branchWorth_34 rfl rfl
  · refine v_lconst d0_branchWorth_8 kl_0 ?_
    exact v_lret d0_branchWorth_9 rfl rfl
theorem d0_nimWith_0 : decode cX0_nimWith 0 = .ok (.iconst 0, 1) := by decide +kernel
theorem d0_nimWith_1 : decode cX0_nimWith 1 = .ok (.istore_n 2, 1) := by decide +kernel
theorem d0_nimWith_2 : decode cX0_nimWith 2 = .ok (.iconst 0, 1) := by decide +kernel
theorem d0_nimWith_3 : decode cX0_nimWith 3 = .ok (.istore_n 3, 1) := by decide +kernel
theorem d0_nimWith_4 : decode cX0_nimWith 4 = .ok (.iload_n 3, 1) := by decide +kernel
theorem d0_nimWith_5 : decode cX0_nimWith 5 = .ok (.iconst 4, 1) := by decide +kernel
theorem d0_nimWith_6 : decode cX0_nimWith 6 = .ok (.if_icmp .ge 26, 3) := by decide +kernel
theorem d0_nimWith_9 : decode cX0_nimWith 9 = .ok (.aload_n 0, 1) := by decide +kernel
theorem d0_nimWith_10 : decode cX0_nimWith 10 = .ok (.iload_n 3, 1) := by decide +kernel
theorem d0_nimWith_11 : decode cX0_nimWith 11 = .ok (.invokevirtual 70, 3) := by decide +kernel
theorem d0_nimWith_14 : decode cX0_nimWith 14 = .ok (.ifCond .eq 12, 3) := by decide +kernel
theorem d0_nimWith_17 : decode cX0_nimWith 17 = .ok (.iload_n 2, 1) := by decide +kernel
theorem d0_nimWith_18 : decode cX0_nimWith 18 = .ok (.aload_n 0, 1) := by decide +kernel
theorem d0_nimWith_19 : decode cX0_nimWith 19 = .ok (.getfield 18, 3) := by decide +kernel
theorem d0_nimWith_22 : decode cX0_nimWith 22 = .ok (.iload_n 3, 1) := by decide +kernel
theorem d0_nimWith_23 : decode cX0_nimWith 23 = .ok (.iaload, 1) := by decide +kernel
theorem d0_nimWith_24 : decode cX0_nimWith 24 = .ok (.ixor, 1) := by decide +kernel
theorem d0_nimWith_25 : decode cX0_nimWith 25 = .ok (.istore_n 2, 1) := by decide +kernel
theorem d0_nimWith_26 : decode cX0_nimWith 26 = .ok (.iinc 3 1, 3) := by decide +kernel
theorem d0_nimWith_29 : decode cX0_nimWith 29 = .ok (.goto (-25), 3) := by decide +kernel
theorem d0_nimWith_32 : decode cX0_nimWith 32 = .ok (.iconst 0, 1) := by decide +kernel
theorem d0_nimWith_33 : decode cX0_nimWith 33 = .ok (.istore_n 3, 1) := by decide +kernel
theorem d0_nimWith_34 : decode cX0_nimWith 34 = .ok (.iload_n 3, 1) := by decide +kernel
theorem d0_nimWith_35 : decode cX0_nimWith 35 = .ok (.bipush 20, 2) := by decide +kernel
theorem d0_nimWith_37 : decode cX0_nimWith 37 = .ok (.if_icmp .ge 16, 3) := by decide +kernel
theorem d0_nimWith_40 : decode cX0_nimWith 40 = .ok (.aload_n 0, 1) := by decide +kernel
theorem d0_nimWith_41 : decode cX0_nimWith 41 = .ok (.getfield 53, 3) := by decide +kernel
theorem d0_nimWith_44 : decode cX0_nimWith 44 = .ok (.iload_n 3, 1) := by decide +kernel
theorem d0_nimWith_45 : decode cX0_nimWith 45 = .ok (.iconst 0, 1) := by decide +kernel
theorem d0_nimWith_46 : decode cX0_nimWith 46 = .ok (.iastore, 1) := by decide +kernel
theorem d0_nimWith_47 : decode cX0_nimWith 47 = .ok (.iinc 3 1, 3) := by decide +kernel
theorem d0_nimWith_50 : decode cX0_nimWith 50 = .ok (.goto (-16), 3) := by decide +kernel
theorem d0_nimWith_53 : decode cX0_nimWith 53 = .ok (.aload_n 0, 1) := by decide +kernel
theorem d0_nimWith_54 : decode cX0_nimWith 54 = .ok (.getfield 27, 3) := by decide +kernel
theorem d0_nimWith_57 : decode cX0_nimWith 57 = .ok (.iconst 1, 1) := by decide +kernel
theorem d0_nimWith_58 : decode cX0_nimWith 58 = .ok (.isub, 1) := by decide +kernel
theorem d0_nimWith_59 : decode cX0_nimWith 59 = .ok (.istore_n 3, 1) := by decide +kernel
theorem d0_nimWith_60 : decode cX0_nimWith 60 = .ok (.iload_n 3, 1) := by decide +kernel
theorem d0_nimWith_61 : decode cX0_nimWith 61 = .ok (.ifCond .lt 85, 3) := by decide +kernel
theorem d0_nimWith_64 : decode cX0_nimWith 64 = .ok (.iload_n 1, 1) := by decide +kernel
theorem d0_nimWith_65 : decode cX0_nimWith 65 = .ok (.iload_n 3, 1) := by decide +kernel
theorem d0_nimWith_66 : decode cX0_nimWith 66 = .ok (.invokestatic 60, 3) := by decide +kernel
theorem d0_nimWith_69 : decode cX0_nimWith 69 = .ok (.ifCond .eq 71, 3) := by decide +kernel
theorem d0_nimWith_72 : decode cX0_nimWith 72 = .ok (.aload_n 0, 1) := by decide +kernel
theorem d0_nimWith_73 : decode cX0_nimWith 73 = .ok (.iload_n 3, 1) := by decide +kernel
theorem d0_nimWith_74 : decode cX0_nimWith 74 = .ok (.invokevirtual 56, 3) := by decide +kernel
theorem d0_nimWith_77 : decode cX0_nimWith 77 = .ok (.ifCond .eq 63, 3) := by decide +kernel
theorem d0_nimWith_80 : decode cX0_nimWith 80 = .ok (.aload_n 0, 1) := by decide +kernel
theorem d0_nimWith_81 : decode cX0_nimWith 81 = .ok (.getfield 9, 3) := by decide +kernel
theorem d0_nimWith_84 : decode cX0_nimWith 84 = .ok (.iload_n 3, 1) := by decide +kernel
theorem d0_nimWith_85 : decode cX0_nimWith 85 = .ok (.iaload, 1) := by decide +kernel
theorem d0_nimWith_86 : decode cX0_nimWith 86 = .ok (.iconst 2, 1) := by decide +kernel
theorem d0_nimWith_87 : decode cX0_nimWith 87 = .ok (.if_icmp .eq 6, 3) := by decide +kernel
theorem d0_nimWith_90 : decode cX0_nimWith 90 = .ok (.goto 50, 3) := by decide +kernel
theorem d0_nimWith_93 : decode cX0_nimWith 93 = .ok (.aload_n 0, 1) := by decide +kernel
theorem d0_nimWith_94 : decode cX0_nimWith 94 = .ok (.getfield 53, 3) := by decide +kernel
theorem d0_nimWith_97 : decode cX0_nimWith 97 = .ok (.iload_n 3, 1) := by decide +kernel
theorem d0_nimWith_98 : decode cX0_nimWith 98 = .ok (.iaload, 1) := by decide +kernel
theorem d0_nimWith_99 : decode cX0_nimWith 99 = .ok (.iconst 1, 1) := by decide +kernel
theorem d0_nimWith_100 : decode cX0_nimWith 100 = .ok (.iadd, 1) := by decide +kernel
theorem d0_nimWith_101 : decode cX0_nimWith 101 = .ok (.istore 4, 2) := by decide +kernel
theorem d0_nimWith_103 : decode cX0_nimWith 103 = .ok (.aload_n 0, 1) := by decide +kernel
theorem d0_nimWith_104 : decode cX0_nimWith 104 = .ok (.aload_n 0, 1) := by decide +kernel
theorem d0_nimWith_105 : decode cX0_nimWith 105 = .ok (.getfield 15, 3) := by decide +kernel
theorem d0_nimWith_108 : decode cX0_nimWith 108 = .ok (.iload_n 3, 1) := by decide +kernel
theorem d0_nimWith_109 : decode cX0_nimWith 109 = .ok (.iaload, 1) := by decide +kernel
theorem d0_nimWith_110 : decode cX0_nimWith 110 = .ok (.invokevirtual 56, 3) := by decide +kernel
theorem d0_nimWith_113 : decode cX0_nimWith 113 = .ok (.ifCond .eq 22, 3) := by decide +kernel
theorem d0_nimWith_116 : decode cX0_nimWith 116 = .ok (.aload_n 0, 1) := by decide +kernel
theorem d0_nimWith_117 : decode cX0_nimWith 117 = .ok (.getfield 53, 3) := by decide +kernel
theorem d0_nimWith_120 : decode cX0_nimWith 120 = .ok (.aload_n 0, 1) := by decide +kernel
theorem d0_nimWith_121 : decode cX0_nimWith 121 = .ok (.getfield 15, 3) := by decide +kernel
theorem d0_nimWith_124 : decode cX0_nimWith 124 = .ok (.iload_n 3, 1) := by decide +kernel
theorem d0_nimWith_125 : decode cX0_nimWith 125 = .ok (.iaload, 1) := by decide +kernel
theorem d0_nimWith_126 : decode cX0_nimWith 126 = .ok (.dup2, 1) := by decide +kernel
theorem d0_nimWith_127 : decode cX0_nimWith 127 = .ok (.iaload, 1) := by decide +kernel
theorem d0_nimWith_128 : decode cX0_nimWith 128 = .ok (.iload 4, 2) := by decide +kernel
theorem d0_nimWith_130 : decode cX0_nimWith 130 = .ok (.ixor, 1) := by decide +kernel
theorem d0_nimWith_131 : decode cX0_nimWith 131 = .ok (.iastore, 1) := by decide +kernel
theorem d0_nimWith_132 : decode cX0_nimWith 132 = .ok (.goto 8, 3) := by decide +kernel
theorem d0_nimWith_135 : decode cX0_nimWith 135 = .ok (.iload_n 2, 1) := by decide +kernel
theorem d0_nimWith_136 : decode cX0_nimWith 136 = .ok (.iload 4, 2) := by decide +kernel
theorem d0_nimWith_138 : decode cX0_nimWith 138 = .ok (.ixor, 1) := by decide +kernel
theorem d0_nimWith_139 : decode cX0_nimWith 139 = .ok (.istore_n 2, 1) := by decide +kernel
theorem d0_nimWith_140 : decode cX0_nimWith 140 = .ok (.iinc 3 (-1), 3) := by decide +kernel
theorem d0_nimWith_143 : decode cX0_nimWith 143 = .ok (.goto (-83), 3) := by decide +kernel
theorem d0_nimWith_146 : decode cX0_nimWith 146 = .ok (.iload_n 2, 1) := by decide +kernel
theorem d0_nimWith_147 : decode cX0_nimWith 147 = .ok (.ireturn, 1) := by decide +kernel
abbrev K0_nimWith : CK Int32 := (enI, (some .int), 5, 2, none)
noncomputable def F0_nimWith_b140 (N : Nat) (h : Nat) (k60 : Int32 × Int32 × Int32 × Ms → Option (Int32 × Ms)) (l1 : Int32) (l2 : Int32) (l3 : Int32) (σ : Ms) : Option (Int32 × Ms) :=
  k60 (l1, l2, (l3 + (-1 : Int32)), σ)
noncomputable def F0_nimWith_b60B (N : Nat) (h : Nat) (k60 : Int32 × Int32 × Int32 × Ms → Option (Int32 × Ms)) (l1 : Int32) (l2 : Int32) (l3 : Int32) (σ : Ms) : Option (Int32 × Ms) :=
  if l3 < 0 then (some (l2, σ))
  else (bn (F11_isIn l1 l3 σ) (fun r1 t2 => if r1 = 0 then (F0_nimWith_b140 N h k60 l1 l2 l3 t2)
  else (bn (F0_hasSprig h l3 t2) (fun r3 t4 => if r3 = 0 then (F0_nimWith_b140 N h k60 l1 l2 l3 t4)
  else (ck (ixb l3 20) (if (t4.1 (h + 1) l3.toNatClampNeg) = (2 : Int32) then (ck (ixb l3 20) (lt ((t4.1 (h + 7) l3.toNatClampNeg) + (1 : Int32)) (fun x5 => ck (ixb l3 20) (bn (F0_hasSprig h (t4.1 (h + 2) l3.toNatClampNeg) t4) (fun r6 t7 => if r6 = 0 then (lt (l2 ^^^ x5) (fun x8 => F0_nimWith_b140 N h k60 l1 x8 l3 t7))
  else (ck (ixb l3 20) (ck (ixb (t7.1 (h + 2) l3.toNatClampNeg) 20) (ck (ixb (t7.1 (h + 2) l3.toNatClampNeg) 20) (lt (sI t7 (h + 7) (t7.1 (h + 2) l3.toNatClampNeg).toNatClampNeg ((t7.1 (h + 7) (t7.1 (h + 2) l3.toNatClampNeg).toNatClampNeg) ^^^ x5)) (fun t9 => F0_nimWith_b140 N h k60 l1 l2 l3 t9))))))))))
  else (F0_nimWith_b140 N h k60 l1 l2 l3 t4)))))))
noncomputable def F0_nimWith_b60 (N : Nat) (h : Nat) (l1 : Int32) (l2 : Int32) (l3 : Int32) (σ : Ms) : Option (Int32 × Ms) :=
  fx N (fun k x => F0_nimWith_b60B N h k x.1 x.2.1 x.2.2.1 x.2.2.2) (l1, l2, l3, σ)
noncomputable def F0_nimWith_b34B (N : Nat) (h : Nat) (k34 : Int32 × Int32 × Int32 × Ms → Option (Int32 × Ms)) (l1 : Int32) (l2 : Int32) (l3 : Int32) (σ : Ms) : Option (Int32 × Ms) :=
  if (20 : Int32) ≤ l3 then (lt ((σ.1 h 5) - (1 : Int32)) (fun x10 => F0_nimWith_b60 N h l1 l2 x10 σ))
  else (ck (ixb l3 20) (lt (sI σ (h + 7) l3.toNatClampNeg (0 : Int32)) (fun t11 => k34 (l1, l2, (l3 + (1 : Int32)), t11))))
noncomputable def F0_nimWith_b34 (N : Nat) (h : Nat) (l1 : Int32) (l2 : Int32) (l3 : Int32) (σ : Ms) : Option (Int32 × Ms) :=
  fx N (fun k x => F0_nimWith_b34B N h k x.1 x.2.1 x.2.2.1 x.2.2.2) (l1, l2, l3, σ)
noncomputable def F0_nimWith_b26 (N : Nat) (h : Nat) (k4 : Int32 × Int32 × Int32 × Ms → Option (Int32 × Ms)) (l1 : Int32) (l2 : Int32) (l3 : Int32) (σ : Ms) : Option (Int32 × Ms) :=
  k4 (l1, l2, (l3 + (1 : Int32)), σ)
noncomputable def F0_nimWith_b4B (N : Nat) (h : Nat) (k4 : Int32 × Int32 × Int32 × Ms → Option (Int32 × Ms)) (l1 : Int32) (l2 : Int32) (l3 : Int32) (σ : Ms) : Option (Int32 × Ms) :=
  if (4 : Int32) ≤ l3 then (F0_nimWith_b34 N h l1 l2 (0 : Int32) σ)
  else (bn (F0_hasHeap h l3 σ) (fun r12 t13 => if r12 = 0 then (F0_nimWith_b26 N h k4 l1 l2 l3 t13)
  else (ck (ixb l3 4) (lt (l2 ^^^ (t13.1 (h + 3) l3.toNatClampNeg)) (fun x14 => F0_nimWith_b26 N h k4 l1 x14 l3 t13)))))
noncomputable def F0_nimWith_b4 (N : Nat) (h : Nat) (l1 : Int32) (l2 : Int32) (l3 : Int32) (σ : Ms) : Option (Int32 × Ms) :=
  fx N (fun k x => F0_nimWith_b4B N h k x.1 x.2.1 x.2.2.1 x.2.2.2) (l1, l2, l3, σ)
noncomputable def F0_nimWith (N : Nat) (h : Nat) (p0 : Int32) (σ : Ms) : Option (Int32 × Ms) :=
  F0_nimWith_b4 N h p0 (0 : Int32) (0 : Int32) σ
set_option maxRecDepth 100000 in
theorem v0_nimWith_b140 (N : Nat) (h : Nat) (hh : IsC h (0, 0, 0)) (k60 : Int32 × Int32 × Int32 × Ms → Option (Int32 × Ms)) (hk60 : ∀ (l1 : Int32) (l2 : Int32) (l3 : Int32) (τ : Ms), VF (K0_nimWith) cX0_nimWith RX0 (k60 (l1, l2, l3, τ)) τ 60 [(0, .ref h), (1, .int l1), (2, .int l2), (3, .int l3)] []) (l1 : Int32) (l2 : Int32) (l3 : Int32) (σ : Ms) : VF (K0_nimWith) cX0_nimWith RX0 (F0_nimWith_b140 N h k60 l1 l2 l3 σ) σ 140 [(0, .ref h), (1, .int l1), (2, .int l2), (3, .int l3)] [] := by
  unfold F0_nimWith_b140
  refine v_iinc (lv' := [(3, .int (l3 + (-1 : Int32))), (0, .ref h), (1, .int l1), (2, .int l2)]) d0_nimWith_140 3 rfl (by rw [ki_m1]) (by decide) rfl ?_
  refine v_goto (tgt := 60) d0_nimWith_143 (by decide) ?_
  refine v_sub [1, 2, 3, 0] rfl ?_
  exact hk60 l1 l2 (l3 + (-1 : Int32)) σ
set_option maxRecDepth 100000 in
theorem v0_nimWith_b60B (N : Nat) (h : Nat) (hh : IsC h (0, 0, 0)) (k60 : Int32 × Int32 × Int32 × Ms → Option (Int32 × Ms)) (hk60 : ∀ (l1 : Int32) (l2 : Int32) (l3 : Int32) (τ : Ms), VF (K0_nimWith) cX0_nimWith RX0 (k60 (l1, l2, l3, τ)) τ 60 [(0, .ref h), (1, .int l1), (2, .int l2), (3, .int l3)] []) (l1 : Int32) (l2 : Int32) (l3 : Int32) (σ : Ms) : VF (K0_nimWith) cX0_nimWith RX0 (F0_nimWith_b60B N h k60 l1 l2 l3 σ) σ 60 [(0, .ref h), (1, .int l1), (2, .int l2), (3, .int l3)] [] := by
  unfold F0_nimWith_b60B
  refine v_iload_n d0_nimWith_60 3 rfl rfl ?_
  refine v_if_lt (tgt := 146) d0_nimWith_61 (by decide) ?_ ?_
  · refine v_iload_n d0_nimWith_146 2 rfl rfl ?_
    exact v_iret d0_nimWith_147 rfl rfl rfl
  · refine v_iload_n d0_nimWith_64 1 rfl rfl ?_
    refine v_iload_n d0_nimWith_65 3 rfl rfl ?_
    refine v_callN2i d0_nimWith_66 (mc11_isIn l1 l3 σ) ys11_isIn neX0_60 (by decide) (Nat.le_of_ble_eq_true rfl) fun r1 t2 => ?_
    refine v_if_eq (tgt := 140) d0_nimWith_69 (by decide) ?_ ?_
    · exact v0_nimWith_b140 N h hh k60 hk60 l1 l2 l3 t2
    · refine v_aload_n d0_nimWith_72 0 rfl rfl ?_
      refine v_iload_n d0_nimWith_73 3 rfl rfl ?_
      refine v_callV1i d0_nimWith_74 (mc0_hasSprig h hh l3 t2) yv0_hasSprig mlX0_56 (Recv.obj hh rfl) (by decide) (Nat.le_of_ble_eq_true rfl) fun r3 t4 => ?_
      refine v_if_eq (tgt := 140) d0_nimWith_77 (by decide) ?_ ?_
      · exact v0_nimWith_b140 N h hh k60 hk60 l1 l2 l3 t4
      · refine v_aload_n d0_nimWith_80 0 rfl rfl ?_
        refine v_getR d0_nimWith_81 faX0_9 hh rfl ?_
        refine v_iload_n d0_nimWith_84 3 rfl rfl ?_
        refine v_iald d0_nimWith_85 (ih0_1 hh) ?_
        refine v_iconst d0_nimWith_86 ki_2 ?_
        refine v_icmp_eq (tgt := 93) d0_nimWith_87 (by decide) ?_ ?_
        · refine v_aload_n d0_nimWith_93 0 rfl rfl ?_
          refine v_getR d0_nimWith_94 faX0_53 hh rfl ?_
          refine v_iload_n d0_nimWith_97 3 rfl rfl ?_
          refine v_iald d0_nimWith_98 (ih0_7 hh) ?_
          refine v_iconst d0_nimWith_99 ki_1 ?_
          refine v_iadd d0_nimWith_100 ?_
          refine v_lti fun x5 => ?_
          refine v_istore (lv' := [(4, .int x5), (0, .ref h), (1, .int l1), (2, .int l2), (3, .int l3)]) d0_nimWith_101 (by decide) rfl ?_
          refine v_aload_n d0_nimWith_103 1 rfl rfl ?_
          refine v_aload_n d0_nimWith_104 1 rfl rfl ?_
          refine v_getR d0_nimWith_105 faX0_15 hh rfl ?_
          refine v_iload_n d0_nimWith_108 4 rfl rfl ?_
          refine v_iald d0_nimWith_109 (ih0_2 hh) ?_
          refine v_callV1i d0_nimWith_110 (mc0_hasSprig h hh (t4.1 (h + 2) l3.toNatClampNeg) t4) yv0_hasSprig mlX0_56 (Recv.obj hh rfl) (by decide) (Nat.le_of_ble_eq_true rfl) fun r6 t7 => ?_
          refine v_if_eq (tgt := 135) d0_nimWith_113 (by decide) ?_ ?_
          · refine v_iload_n d0_nimWith_135 3 rfl rfl ?_
            refine v_iload d0_nimWith_136 0 rfl ?_
            refine v_ixor d0_nimWith_138 ?_
            refine v_lti fun x8 => ?_
            refine v_istore_n (lv' := [(2, .int x8), (4, .int x5), (0, .ref h), (1, .int l1), (3, .int l3)]) d0_nimWith_139 rfl (by decide) rfl ?_
            refine v_sub [2, 3, 0, 4] rfl ?_
            exact v0_nimWith_b140 N h hh k60 hk60 l1 x8 l3 t7
          · refine v_aload_n d0_nimWith_116 1 rfl rfl ?_
            refine v_getR d0_nimWith_117 faX0_53 hh rfl ?_
            refine v_aload_n d0_nimWith_120 1 rfl rfl ?_
            refine v_getR d0_nimWith_121 faX0_15 hh rfl ?_
            refine v_iload_n d0_nimWith_124 4 rfl rfl ?_
            refine v_iald d0_nimWith_125 (ih0_2 hh) ?_
            refine v_dup2_11 d0_nimWith_126 rfl rfl ?_
            refine v_iald d0_nimWith_127 (ih0_7 hh) ?_
            refine v_iload d0_nimWith_128 0 rfl ?_
            refine v_ixor d0_nimWith_130 ?_
            refine v_iast d0_nimWith_131 (ih0_7 hh) ?_
            refine v_lts fun t9 => ?_
            refine v_goto (tgt := 140) d0_nimWith_132 (by decide) ?_
            refine v_sub [1, 2, 3, 4] rfl ?_
            exact v0_nimWith_b140 N h hh k60 hk60 l1 l2 l3 t9
        · refine v_goto (tgt := 140) d0_nimWith_90 (by decide) ?_
          exact v0_nimWith_b140 N h hh k60 hk60 l1 l2 l3 t4
theorem v0_nimWith_b60 (N : Nat) (h : Nat) (hh : IsC h (0, 0, 0)) (l1 : Int32) (l2 : Int32) (l3 : Int32) (σ : Ms) : VF (K0_nimWith) cX0_nimWith RX0 (F0_nimWith_b60 N h l1 l2 l3 σ) σ 60 [(0, .ref h), (1, .int l1), (2, .int l2), (3, .int l3)] [] := v_fx (σo := fun x => x.2.2.2) (lo := fun x => [(0, .ref h), (1, .int x.1), (2, .int x.2.1), (3, .int x.2.2.1)]) (fun k hk x => v0_nimWith_b60B N h hh k (fun l1 l2 l3 τ => hk (l1, l2, l3, τ)) x.1 x.2.1 x.2.2.1 x.2.2.2) N (l1, l2, l3, σ)
set_option maxRecDepth 100000 in
theorem v0_nimWith_b34B (N : Nat) (h : Nat) (hh : IsC h (0, 0, 0)) (k34 : Int32 × Int32 × Int32 × Ms → Option (Int32 × Ms)) (hk34 : ∀ (l1 : Int32) (l2 : Int32) (l3 : Int32) (τ : Ms), VF (K0_nimWith) cX0_nimWith RX0 (k34 (l1, l2, l3, τ)) τ 34 [(0, .ref h), (1, .int l1), (2, .int l2), (3, .int l3)] []) (l1 : Int32) (l2 : Int32) (l3 : Int32) (σ : Ms) : VF (K0_nimWith) cX0_nimWith RX0 (F0_nimWith_b34B N h k34 l1 l2 l3 σ) σ 34 [(0, .ref h), (1, .int l1), (2, .int l2), (3, .int l3)] [] := by
  unfold F0_nimWith_b34B
  refine v_iload_n d0_nimWith_34 3 rfl rfl ?_
  refine v_bipush d0_nimWith_35 kb_20 ?_
  refine v_icmp_ge (tgt := 53) d0_nimWith_37 (by decide) ?_ ?_
  · refine v_aload_n d0_nimWith_53 0 rfl rfl ?_
    refine v_getI d0_nimWith_54 faX0_27 hh ?_
    refine v_iconst d0_nimWith_57 ki_1 ?_
    refine v_isub d0_nimWith_58 ?_
    refine v_lti fun x10 => ?_
    refine v_istore_n (lv' := [(3, .int x10), (0, .ref h), (1, .int l1), (2, .int l2)]) d0_nimWith_59 rfl (by decide) rfl ?_
    refine v_sub [1, 2, 3, 0] rfl ?_
    exact v0_nimWith_b60 N h hh l1 l2 x10 σ
  · refine v_aload_n d0_nimWith_40 0 rfl rfl ?_
    refine v_getR d0_nimWith_41 faX0_53 hh rfl ?_
    refine v_iload_n d0_nimWith_44 3 rfl rfl ?_
    refine v_iconst d0_nimWith_45 ki_0 ?_
    refine v_iast d0_nimWith_46 (ih0_7 hh) ?_
    refine v_lts fun t11 => ?_
    refine v_iinc (lv' := [(3, .int (l3 + (1 : Int32))), (0, .ref h), (1, .int l1), (2, .int l2)]) d0_nimWith_47 3 rfl (by rw [ki_1]) (by decide) rfl ?_
    refine v_goto (tgt := 34) d0_nimWith_50 (by decide) ?_
    refine v_sub [1, 2, 3, 0] rfl ?_
    exact hk34 l1 l2 (l3 + (1 : Int32)) t11
theorem v0_nimWith_b34 (N : Nat) (h : Nat) (hh : IsC h (0, 0, 0)) (l1 : Int32) (l2 : Int32) (l3 : Int32) (σ : Ms) : VF (K0_nimWith) cX0_nimWith RX0 (F0_nimWith_b34 N h l1 l2 l3 σ) σ 34 [(0, .ref h), (1, .int l1), (2, .int l2), (3, .int l3)] [] := v_fx (σo := fun x => x.2.2.2) (lo := fun x => [(0, .ref h), (1, .int x.1), (2, .int x.2.1), (3, .int x.2.2.1)]) (fun k hk x => v0_nimWith_b34B N h hh k (fun l1 l2 l3 τ => hk (l1, l2, l3, τ)) x.1 x.2.1 x.2.2.1 x.2.2.2) N (l1, l2, l3, σ)
set_option maxRecDepth 100000 in
theorem v0_nimWith_b26 (N : Nat) (h : Nat) (hh : IsC h (0, 0, 0)) (k4 : Int32 × Int32 × Int32 × Ms → Option (Int32 × Ms)) (hk4 : ∀ (l1 : Int32) (l2 : Int32) (l3 : Int32) (τ : Ms), VF (K0_nimWith) cX0_nimWith RX0 (k4 (l1, l2, l3, τ)) τ 4 [(0, .ref h), (1, .int l1), (2, .int l2), (3, .int l3)] []) (l1 : Int32) (l2 : Int32) (l3 : Int32) (σ : Ms) : VF (K0_nimWith) cX0_nimWith RX0 (F0_nimWith_b26 N h k4 l1 l2 l3 σ) σ 26 [(0, .ref h), (1, .int l1), (2, .int l2), (3, .int l3)] [] := by
  unfold F0_nimWith_b26
  refine v_iinc (lv' := [(3, .int (l3 + (1 : Int32))), (0, .ref h), (1, .int l1), (2, .int l2)]) d0_nimWith_26 3 rfl (by rw [ki_1]) (by decide) rfl ?_
  refine v_goto (tgt := 4) d0_nimWith_29 (by decide) ?_
  refine v_sub [1, 2, 3, 0] rfl ?_
  exact hk4 l1 l2 (l3 + (1 : Int32)) σ
set_option maxRecDepth 100000 in
theorem v0_nimWith_b4B (N : Nat) (h : Nat) (hh : IsC h (0, 0, 0)) (k4 : Int32 × Int32 × Int32 × Ms → Option (Int32 × Ms)) (hk4 : ∀ (l1 : Int32) (l2 : Int32) (l3 : Int32) (τ : Ms), VF (K0_nimWith) cX0_nimWith RX0 (k4 (l1, l2, l3, τ)) τ 4 [(0, .ref h), (1, .int l1), (2, .int l2), (3, .int l3)] []) (l1 : Int32) (l2 : Int32) (l3 : Int32) (σ : Ms) : VF (K0_nimWith) cX0_nimWith RX0 (F0_nimWith_b4B N h k4 l1 l2 l3 σ) σ 4 [(0, .ref h), (1, .int l1), (2, .int l2), (3, .int l3)] [] := by
  unfold F0_nimWith_b4B
  refine v_iload_n d0_nimWith_4 3 rfl rfl ?_
  refine v_iconst d0_nimWith_5 ki_4 ?_
  refine v_icmp_ge (tgt := 32) d0_nimWith_6 (by decide) ?_ ?_
  · refine v_iconst d0_nimWith_32 ki_0 ?_
    refine v_istore_n (lv' := [(3, .int (0 : Int32)), (0, .ref h), (1, .int l1), (2, .int l2)]) d0_nimWith_33 rfl (by decide) rfl ?_
    refine v_sub [1, 2, 3, 0] rfl ?_
    exact v0_nimWith_b34 N h hh l1 l2 (0 : Int32) σ
  · refine v_aload_n d0_nimWith_9 0 rfl rfl ?_
    refine v_iload_n d0_nimWith_10 3 rfl rfl ?_
    refine v_callV1i d0_nimWith_11 (mc0_hasHeap h hh l3 σ) yv0_hasHeap mlX0_70 (Recv.obj hh rfl) (by decide) (Nat.le_of_ble_eq_true rfl) fun r12 t13 => ?_
    refine v_if_eq (tgt := 26) d0_nimWith_14 (by decide) ?_ ?_
    · exact v0_nimWith_b26 N h hh k4 hk4 l1 l2 l3 t13
    · refine v_iload_n d0_nimWith_17 2 rfl rfl ?_
      refine v_aload_n d0_nimWith_18 0 rfl rfl ?_
      refine v_getR d0_nimWith_19 faX0_18 hh rfl ?_
      refine v_iload_n d0_nimWith_22 3 rfl rfl ?_
      refine v_iald d0_nimWith_23 (ih0_3 hh) ?_
      refine v_ixor d0_nimWith_24 ?_
      refine v_lti fun x14 => ?_
      refine v_istore_n (lv' := [(2, .int x14), (0, .ref h), (1, .int l1), (3, .int l3)]) d0_nimWith_25 rfl (by decide) rfl ?_
      refine v_sub [1, 2, 0, 3] rfl ?_
      exact v0_nimWith_b26 N h hh k4 hk4 l1 x14 l3 t13
theorem v0_nimWith_b4 (N : Nat) (h : Nat) (hh : IsC h (0, 0, 0)) (l1 : Int32) (l2 : Int32) (l3 : Int32) (σ : Ms) : VF (K0_nimWith) cX0_nimWith RX0 (F0_nimWith_b4 N h l1 l2 l3 σ) σ 4 [(0, .ref h), (1, .int l1), (2, .int l2), (3, .int l3)] [] := v_fx (σo := fun x => x.2.2.2) (lo := fun x => [(0, .ref h), (1, .int x.1), (2, .int x.2.1), (3, .int x.2.2.1)]) (fun k hk x => v0_nimWith_b4B N h hh k (fun l1 l2 l3 τ => hk (l1, l2, l3, τ)) x.1 x.2.1 x.2.2.1 x.2.2.2) N (l1, l2, l3, σ)
set_option maxRecDepth 100000 in
theorem mc0_nimWith (N : Nat) (h : Nat) (hh : IsC h (0, 0, 0)) (p0 : Int32) (σ : Ms) : MC enI yX0_nimWith cX0_nimWith 5 (some .int) 2 (F0_nimWith N h p0 σ) σ [.ref h, .int p0] := by
  refine MC.i (by decide +kernel) (Nat.le_of_ble_eq_true rfl) ?_
  show VF (K0_nimWith) cX0_nimWith RX0 (F0_nimWith N h p0 σ) σ 0 [(0, .ref h), (1, .int p0)] []
  unfold F0_nimWith
  refine v_iconst d0_nimWith_0 ki_0 ?_
  refine v_istore_n (lv' := [(2, .int (0 : Int32)), (0, .ref h), (1, .int p0)]) d0_nimWith_1 rfl (by decide) rfl ?_
  refine v_iconst d0_nimWith_2 ki_0 ?_
  refine v_istore_n (lv' := [(3, .int (0 : Int32)), (2, .int (0 : Int32)), (0, .ref h), (1, .int p0)]) d0_nimWith_3 rfl (by decide) rfl ?_
  refine v_sub [2, 3, 1, 0] rfl ?_
  exact v0_nimWith_b4 N h hh p0 (0 : Int32) (0 : Int32) σ
theorem d0_branchNim_0 : decode cX0_branchNim 0 = .ok (.aload_n 0, 1) := by decide +kernel
theorem d0_branchNim_1 : decode cX0_branchNim 1 = .ok (.iload_n 1, 1) := by decide +kernel
theorem d0_branchNim_2 : decode cX0_branchNim 2 = .ok (.invokevirtual 64, 3) := by decide +kernel
theorem d0_branchNim_5 : decode cX0_branchNim 5 = .ok (.ifCond .ne 5, 3) := by decide +kernel
theorem d0_branchNim_8 : decode cX0_branchNim 8 = .ok (.iconst 0, 1) := by decide +kernel
theorem d0_branchNim_9 : decode cX0_branchNim 9 = .ok (.ireturn, 1) := by decide +kernel
theorem d0_branchNim_10 : decode cX0_branchNim 10 = .ok (.aload_n 0, 1) := by decide +kernel
theorem d0_branchNim_11 : decode cX0_branchNim 11 = .ok (.aload_n 0, 1) := by decide +kernel
theorem d0_branchNim_12 : decode cX0_branchNim 12 = .ok (.getfield 31, 3) := by decide +kernel
theorem d0_branchNim_15 : decode cX0_branchNim 15 = .ok (.invokevirtual 108, 3) := by decide +kernel
theorem d0_branchNim_18 : decode cX0_branchNim 18 = .ok (.pop, 1) := by decide +kernel
theorem d0_branchNim_19 : decode cX0_branchNim 19 = .ok (.aload_n 0, 1) := by decide +kernel
theorem d0_branchNim_20 : decode cX0_branchNim 20 = .ok (.getfield 53, 3) := by decide +kernel
theorem d0_branchNim_23 : decode cX0_branchNim 23 = .ok (.iload_n 1, 1) := by decide +kernel
theorem d0_branchNim_24 : decode cX0_branchNim 24 = .ok (.iaload, 1) := by decide +kernel
theorem d0_branchNim_25 : decode cX0_branchNim 25 = .ok (.iconst 1, 1) := by decide +kernel
theorem d0_branchNim_26 : decode cX0_branchNim 26 = .ok (.iadd, 1) := by decide +kernel
theorem d0_branchNim_27 : decode cX0_branchNim 27 = .ok (.ireturn, 1) := by decide +kernel
abbrev K0_branchNim : CK Int32 := (enI, (some .int), 2, 3, none)
noncomputable def F0_branchNim (N : Nat) (h : Nat) (p0 : Int32) (σ : Ms) : Option (Int32 × Ms) :=
  bn (F0_isStanding h p0 σ) (fun r1 t2 => if r1 ≠ 0 then (bn (F0_nimWith N h (t2.1 h 6) t2) (fun r3 t4 => ck (ixb p0 20) (some (((t4.1 (h + 7) p0.toNatClampNeg) + (1 : Int32)), t4))))
  else (some ((0 : Int32), t2)))
set_option maxRecDepth 100000 in
theorem mc0_branchNim (N : Nat) (h : Nat) (hh : IsC h (0, 0, 0)) (p0 : Int32) (σ : Ms) : MC enI yX0_branchNim cX0_branchNim 2 (some .int) 3 (F0_branchNim N h p0 σ) σ [.ref h, .int p0] := by
  refine MC.i (by decide +kernel) (Nat.le_of_ble_eq_true rfl) ?_
  show VF (K0_branchNim) cX0_branchNim RX0 (F0_branchNim N h p0 σ) σ 0 [(0, .ref h), (1, .int p0)] []
  unfold F0_branchNim
  refine v_aload_n d0_branchNim_0 0 rfl rfl ?_
  refine v_iload_n d0_branchNim_1 1 rfl rfl ?_
  refine v_callV1i d0_branchNim_2 (mc0_isStanding h hh p0 σ) yv0_isStanding mlX0_64 (Recv.obj hh rfl) (by decide) (Nat.le_of_ble_eq_true rfl) fun r1 t2 => ?_
  refine v_if_ne (tgt := 10) d0_branchNim_5 (by decide) ?_ ?_
  · refine v_aload_n d0_branchNim_10 0 rfl rfl ?_
    refine v_aload_n d0_branchNim_11 0 rfl rfl ?_
    refine v_getI d0_branchNim_12 faX0_31 hh ?_
    refine v_callV1i d0_branchNim_15 (mc0_nimWith N h hh (t2.1 h 6) t2) yv0_nimWith mlX0_108 (Recv.obj hh rfl) (by decide) (Nat.le_of_ble_eq_true rfl) fun r3 t4 => ?_
    refine v_pop d0_branchNim_18 rfl ?_
    refine v_aload_n d0_branchNim_19 0 rfl rfl ?_
    refine v_getR d0_branchNim_20 faX0_53 hh rfl ?_
    refine v_iload_n d0_branchNim_23 1 rfl rfl ?_
    refine v_iald d0_branchNim_24 (ih0_7 hh) ?_
    refine v_iconst d0_branchNim_25 ki_1 ?_
    refine v_iadd d0_branchNim_26 ?_
    exact v_iret d0_branchNim_27 rfl rfl rfl
  · refine v_iconst d0_branchNim_8 ki_0 ?_
    exact v_iret d0_branchNim_9 rfl rfl rfl
theorem d8_goesOn_0 : decode cX8_goesOn 0 = .ok (.aload_n 0, 1) := by decide +kernel
theorem d8_goesOn_1 : decode cX8_goesOn 1 = .ok (.getfield 19, 3) := by decide +kernel
theorem d8_goesOn_4 : decode cX8_goesOn 4 = .ok (.ifCond .ne 14, 3) := by decide +kernel
theorem d8_goesOn_7 : decode cX8_goesOn 7 = .ok (.aload_n 0, 1) := by decide +kernel
theorem d8_goesOn_8 : decode cX8_goesOn 8 = .ok (.getfield 28, 3) := by decide +kernel
theorem d8_goesOn_11 : decode cX8_goesOn 11 = .ok (.ifCond .eq 7, 3) := by decide +kernel
theorem d8_goesOn_14 : decode cX8_goesOn 14 = .ok (.iconst 1, 1) := by decide +kernel
theorem d8_goesOn_15 : decode cX8_goesOn 15 = .ok (.goto 4, 3) := by decide +kernel
theorem d8_goesOn_18 : decode cX8_goesOn 18 = .ok (.iconst 0, 1) := by decide +kernel
theorem d8_goesOn_19 : decode cX8_goesOn 19 = .ok (.ireturn, 1) := by decide +kernel
abbrev K8_goesOn : CK Int32 := (enI, (some .boolean), 1, 1, none)
noncomputable def F8_goesOn (σ : Ms) : Option (Int32 × Ms) :=
  if (σ.1 20 2) ≠ 0 then (some ((0 : Int32), σ))
  else (if (σ.1 20 5) = 0 then (some ((0 : Int32), σ))
  else (some ((1 : Int32), σ)))
set_option maxRecDepth 100000 in
theorem mc8_goesOn (σ : Ms) : MC enI yX8_goesOn cX8_goesOn 1 (some .boolean) 1 (F8_goesOn σ) σ [.ref 20] := by
  refine MC.i (by decide +kernel) (Nat.le_of_ble_eq_true rfl) ?_
  show VF (K8_goesOn) cX8_goesOn RX8 (F8_goesOn σ) σ 0 [(0, .ref 20)] []
  unfold F8_goesOn
  refine v_aload_n d8_goesOn_0 0 rfl rfl ?_
  refine v_getI d8_goesOn_1 faX8_19 ic_20 ?_
  refine v_if_ne (tgt := 18) d8_goesOn_4 (by decide) ?_ ?_
  · refine v_iconst d8_goesOn_18 ki_0 ?_
    exact v_iret (ty := .boolean) d8_goesOn_19 rfl rfl rfl
  · refine v_aload_n d8_goesOn_7 0 rfl rfl ?_
    refine v_getI d8_goesOn_8 faX8_28 ic_20 ?_
    refine v_if_eq (tgt := 18) d8_goesOn_11 (by decide) ?_ ?_
    · refine v_iconst d8_goesOn_18 ki_0 ?_
      exact v_iret (ty := .boolean) d8_goesOn_19 rfl rfl rfl
    · refine v_iconst d8_goesOn_14 ki_1 ?_
      refine v_goto (tgt := 19) d8_goesOn_15 (by decide) ?_
      exact v_iret (ty := .boolean) d8_goesOn_19 rfl rfl rfl
theorem dJ0_coder_7d493_0 : decode cJ0_coder_7d493 0 = .ok (.getstatic 38, 3) := by decide +kernel
theorem dJ0_coder_7d493_3 : decode cJ0_coder_7d493 3 = .ok (.ifCond .eq 10, 3) := by decide +kernel
theorem dJ0_coder_7d493_6 : decode cJ0_coder_7d493 6 = .ok (.aload_n 0, 1) := by decide +kernel
theorem dJ0_coder_7d493_7 : decode cJ0_coder_7d493 7 = .ok (.getfield 15, 3) := by decide +kernel
theorem dJ0_coder_7d493_10 : decode cJ0_coder_7d493 10 = .ok (.goto 4, 3) := by decide +kernel
theorem dJ0_coder_7d493_13 : decode cJ0_coder_7d493 13 = .ok (.iconst 1, 1) := by decide +kernel
theorem dJ0_coder_7d493_14 : decode cJ0_coder_7d493 14 = .ok (.ireturn, 1) := by decide +kernel
abbrev KJ0_coder_7d493 : CK Int32 := (enI, (some .byte), 1, 1, none)
noncomputable def FJ0_coder_7d493 (i : Nat) (σ : Ms) : Option (Int32 × Ms) :=
  if (1 : Int32) = 0 then (ck (nkY (1 : Int32)) (some ((1 : Int32), σ)))
  else (ck (nkY (0 : Int32)) (some ((0 : Int32), σ)))
set_option maxRecDepth 100000 in
theorem mcJ0_coder_7d493 (i : Nat) (hi : i < NS) (σ : Ms) : MC enI yJ0_coder_7d493 cJ0_coder_7d493 1 (some .byte) 1 (FJ0_coder_7d493 i σ) σ [.ref (114 + i)] := by
  refine MC.i (by decide +kernel) (Nat.le_of_ble_eq_true rfl) ?_
  show VF (KJ0_coder_7d493) cJ0_coder_7d493 RJ0 (FJ0_coder_7d493 i σ) σ 0 [(0, .ref (114 + i))] []
  unfold FJ0_coder_7d493
  refine v_compact dJ0_coder_7d493_0 flJ0_38 ?_
  refine v_if_eq (tgt := 13) dJ0_coder_7d493_3 (by decide) ?_ ?_
  · refine v_iconst dJ0_coder_7d493_13 ki_1 ?_
    exact v_iretY dJ0_coder_7d493_14 rfl rfl
  · refine v_aload_n dJ0_coder_7d493_6 0 rfl rfl ?_
    refine v_strC dJ0_coder_7d493_7 hi flJ0_15 ?_
    refine v_goto (tgt := 14) dJ0_coder_7d493_10 (by decide) ?_
    exact v_iretY dJ0_coder_7d493_14 rfl rfl
theorem dJ0_length_8abf5_0 : decode cJ0_length_8abf5 0 = .ok (.aload_n 0, 1) := by decide +kernel
theorem dJ0_length_8abf5_1 : decode cJ0_length_8abf5 1 = .ok (.getfield 9, 3) := by decide +kernel
theorem dJ0_length_8abf5_4 : decode cJ0_length_8abf5 4 = .ok (.arraylength, 1) := by decide +kernel
theorem dJ0_length_8abf5_5 : decode cJ0_length_8abf5 5 = .ok (.aload_n 0, 1) := by decide +kernel
theorem dJ0_length_8abf5_6 : decode cJ0_length_8abf5 6 = .ok (.invokevirtual 335, 3) := by decide +kernel
theorem dJ0_length_8abf5_9 : decode cJ0_length_8abf5 9 = .ok (.ishr, 1) := by decide +kernel
theorem dJ0_length_8abf5_10 : decode cJ0_length_8abf5 10 = .ok (.ireturn, 1) := by decide +kernel
abbrev KJ0_length_8abf5 : CK Int32 := (enI, (some .int), 1, 2, none)
noncomputable def FJ0_length_8abf5 (i : Nat) (σ : Ms) : Option (Int32 × Ms) :=
  bn (FJ0_coder_7d493 i σ) (fun r1 t2 => some (((nI (strN.getD i 0)) >>> (r1 &&& 31)), t2))
set_option maxRecDepth 100000 in
theorem mcJ0_length_8abf5 (i : Nat) (hi : i < NS) (σ : Ms) : MC enI yJ0_length_8abf5 cJ0_length_8abf5 1 (some .int) 2 (FJ0_length_8abf5 i σ) σ [.ref (114 + i)] := by
  refine MC.i (by decide +kernel) (Nat.le_of_ble_eq_true rfl) ?_
  show VF (KJ0_length_8abf5) cJ0_length_8abf5 RJ0 (FJ0_length_8abf5 i σ) σ 0 [(0, .ref (114 + i))] []
  unfold FJ0_length_8abf5
  refine v_aload_n dJ0_length_8abf5_0 0 rfl rfl ?_
  refine v_strV dJ0_length_8abf5_1 hi flJ0_9 ?_
  refine v_salen dJ0_length_8abf5_4 hi ?_
  refine v_aload_n dJ0_length_8abf5_5 0 rfl rfl ?_
  refine v_callV0i dJ0_length_8abf5_6 (mcJ0_coder_7d493 i hi σ) yvJ0_coder_7d493 mlJ0_335 (Recv.str hi) (by decide) (Nat.le_of_ble_eq_true rfl) fun r1 t2 => ?_
  refine v_ishr dJ0_length_8abf5_9 ?_
  exact v_iret dJ0_length_8abf5_10 rfl rfl rfl
theorem d8_charAt_0 : decode cX8_charAt 0 = .ok (.iload_n 1, 1) := by decide +kernel
theorem d8_charAt_1 : decode cX8_charAt 1 = .ok (.ifCond .lt 27, 3) := by decide +kernel
theorem d8_charAt_4 : decode cX8_charAt 4 = .ok (.iload_n 1, 1) := by decide +kernel
theorem d8_charAt_5 : decode cX8_charAt 5 = .ok (.aload_n 0, 1) := by decide +kernel
theorem d8_charAt_6 : decode cX8_charAt 6 = .ok (.getfield 25, 3) := by decide +kernel
theorem d8_charAt_9 : decode cX8_charAt 9 = .ok (.if_icmp .ge 19, 3) := by decide +kernel
theorem d8_charAt_12 : decode cX8_charAt 12 = .ok (.iload_n 1, 1) := by decide +kernel
theorem d8_charAt_13 : decode cX8_charAt 13 = .ok (.sipush 900, 3) := by decide +kernel
theorem d8_charAt_16 : decode cX8_charAt 16 = .ok (.if_icmp .ge 12, 3) := by decide +kernel
theorem d8_charAt_19 : decode cX8_charAt 19 = .ok (.aload_n 0, 1) := by decide +kernel
theorem d8_charAt_20 : decode cX8_charAt 20 = .ok (.getfield 9, 3) := by decide +kernel
theorem d8_charAt_23 : decode cX8_charAt 23 = .ok (.iload_n 1, 1) := by decide +kernel
theorem d8_charAt_24 : decode cX8_charAt 24 = .ok (.baload, 1) := by decide +kernel
theorem d8_charAt_25 : decode cX8_charAt 25 = .ok (.goto 4, 3) := by decide +kernel
theorem d8_charAt_28 : decode cX8_charAt 28 = .ok (.iconst (-1), 1) := by decide +kernel
theorem d8_charAt_29 : decode cX8_charAt 29 = .ok (.ireturn, 1) := by decide +kernel
abbrev K8_charAt : CK Int32 := (enI, (some .int), 2, 1, none)
noncomputable def F8_charAt (p0 : Int32) (σ : Ms) : Option (Int32 × Ms) :=
  if p0 < 0 then (some ((-1 : Int32), σ))
  else (if (σ.1 20 4) ≤ p0 then (some ((-1 : Int32), σ))
  else (if (900 : Int32) ≤ p0 then (some ((-1 : Int32), σ))
  else (ck (ixb p0 900) (some ((σ.1 21 p0.toNatClampNeg), σ)))))
set_option maxRecDepth 100000 in
theorem mc8_charAt (p0 : Int32) (σ : Ms) : MC enI yX8_charAt cX8_charAt 2 (some .int) 1 (F8_charAt p0 σ) σ [.ref 20, .int p0] := by
  refine MC.i (by decide +kernel) (Nat.le_of_ble_eq_true rfl) ?_
  show VF (K8_charAt) cX8_charAt RX8 (F8_charAt p0 σ) σ 0 [(0, .ref 20), (1, .int p0)] []
  unfold F8_charAt
  refine v_iload_n d8_charAt_0 1 rfl rfl ?_
  refine v_if_lt (tgt := 28) d8_charAt_1 (by decide) ?_ ?_
  · refine v_iconst d8_charAt_28 ki_m1 ?_
    exact v_iret d8_charAt_29 rfl rfl rfl
  · refine v_iload_n d8_charAt_4 1 rfl rfl ?_
    refine v_aload_n d8_charAt_5 0 rfl rfl ?_
    refine v_getI d8_charAt_6 faX8_25 ic_20 ?_
    refine v_icmp_ge (tgt := 28) d8_charAt_9 (by decide) ?_ ?_
    · refine v_iconst d8_charAt_28 ki_m1 ?_
      exact v_iret d8_charAt_29 rfl rfl rfl
    · refine v_iload_n d8_charAt_12 1 rfl rfl ?_
      refine v_sipush d8_charAt_13 ks_900 ?_
      refine v_icmp_ge (tgt := 28) d8_charAt_16 (by decide) ?_ ?_
      · refine v_iconst d8_charAt_28 ki_m1 ?_
        exact v_iret d8_charAt_29 rfl rfl rfl
      · refine v_aload_n d8_charAt_19 0 rfl rfl ?_
        refine v_getR d8_charAt_20 faX8_9 ic_20 rfl ?_
        refine v_iload_n d8_charAt_23 1 rfl rfl ?_
        refine v_bald d8_charAt_24 ic_21 ?_
        refine v_goto (tgt := 29) d8_charAt_25 (by decide) ?_
        exact v_iret d8_charAt_29 rfl rfl rfl
