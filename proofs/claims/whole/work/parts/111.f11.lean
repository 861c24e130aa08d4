theorem d9_isMissing_0 : decode cX9_isMissing 0 = .ok (.iload_n 1, 1) := by decide +kernel
theorem d9_isMissing_1 : decode cX9_isMissing 1 = .ok (.invokestatic 23, 3) := by decide +kernel
theorem d9_isMissing_4 : decode cX9_isMissing 4 = .ok (.ifCond .eq 13, 3) := by decide +kernel
theorem d9_isMissing_7 : decode cX9_isMissing 7 = .ok (.aload_n 0, 1) := by decide +kernel
theorem d9_isMissing_8 : decode cX9_isMissing 8 = .ok (.getfield 20, 3) := by decide +kernel
theorem d9_isMissing_11 : decode cX9_isMissing 11 = .ok (.iload_n 1, 1) := by decide +kernel
theorem d9_isMissing_12 : decode cX9_isMissing 12 = .ok (.iaload, 1) := by decide +kernel
theorem d9_isMissing_13 : decode cX9_isMissing 13 = .ok (.iconst (-1), 1) := by decide +kernel
theorem d9_isMissing_14 : decode cX9_isMissing 14 = .ok (.if_icmp .ne 7, 3) := by decide +kernel
theorem d9_isMissing_17 : decode cX9_isMissing 17 = .ok (.iconst 1, 1) := by decide +kernel
theorem d9_isMissing_18 : decode cX9_isMissing 18 = .ok (.goto 4, 3) := by decide +kernel
theorem d9_isMissing_21 : decode cX9_isMissing 21 = .ok (.iconst 0, 1) := by decide +kernel
theorem d9_isMissing_22 : decode cX9_isMissing 22 = .ok (.ireturn, 1) := by decide +kernel
abbrev K9_isMissing : CK Int32 := (enI, (some .boolean), 2, 2, none)
noncomputable def F9_isMissing_b17 (σ : Ms) : Option (Int32 × Ms) :=
  some ((1 : Int32), σ)
noncomputable def F9_isMissing (p0 : Int32) (σ : Ms) : Option (Int32 × Ms) :=
  bn (F9_isTray p0 σ) (fun r1 t2 => if r1 = 0 then (F9_isMissing_b17 t2)
  else (ck (ixb p0 4) (if (t2.1 15 p0.toNatClampNeg) ≠ (-1 : Int32) then (some ((0 : Int32), t2))
  else (F9_isMissing_b17 t2))))
set_option maxRecDepth 100000 in
theorem v9_isMissing_b17 (σ : Ms) : VF (K9_isMissing) cX9_isMissing RX9 (F9_isMissing_b17 σ) σ 17 [] [] := by
  unfold F9_isMissing_b17
  refine v_iconst d9_isMissing_17 ki_1 ?_
  refine v_goto (tgt := 22) d9_isMissing_18 (by decide) ?_
  exact v_iret (ty := .boolean) d9_isMissing_22 rfl rfl rfl
set_option maxRecDepth 100000 in
theorem mc9_isMissing (p0 : Int32) (σ : Ms) : MC enI yX9_isMissing cX9_isMissing 2 (some .boolean) 2 (F9_isMissing p0 σ) σ [.ref 12, .int p0] := by
  refine MC.i (by decide +kernel) (Nat.le_of_ble_eq_true rfl) ?_
  show VF (K9_isMissing) cX9_isMissing RX9 (F9_isMissing p0 σ) σ 0 [(0, .ref 12), (1, .int p0)] []
  unfold F9_isMissing
  refine v_iload_n d9_isMissing_0 1 rfl rfl ?_
  refine v_callS1i d9_isMissing_1 (mc9_isTray p0 σ) ys9_isTray mlX9_23 (by decide) (Nat.le_of_ble_eq_true rfl) fun r1 t2 => ?_
  refine v_if_eq (tgt := 17) d9_isMissing_4 (by decide) ?_ ?_
  · refine v_sub [] rfl ?_
    exact v9_isMissing_b17 t2
  · refine v_aload_n d9_isMissing_7 0 rfl rfl ?_
    refine v_getR d9_isMissing_8 faX9_20 ic_12 rfl ?_
    refine v_iload_n d9_isMissing_11 1 rfl rfl ?_
    refine v_iald d9_isMissing_12 ic_15 ?_
    refine v_iconst d9_isMissing_13 ki_m1 ?_
    refine v_icmp_ne (tgt := 21) d9_isMissing_14 (by decide) ?_ ?_
    · refine v_iconst d9_isMissing_21 ki_0 ?_
      exact v_iret (ty := .boolean) d9_isMissing_22 rfl rfl rfl
    · refine v_sub [] rfl ?_
      exact v9_isMissing_b17 t2
theorem d9_sortOf_0 : decode cX9_sortOf 0 = .ok (.iload_n 1, 1) := by decide +kernel
theorem d9_sortOf_1 : decode cX9_sortOf 1 = .ok (.invokestatic 23, 3) := by decide +kernel
theorem d9_sortOf_4 : decode cX9_sortOf 4 = .ok (.ifCond .eq 12, 3) := by decide +kernel
theorem d9_sortOf_7 : decode cX9_sortOf 7 = .ok (.aload_n 0, 1) := by decide +kernel
theorem d9_sortOf_8 : decode cX9_sortOf 8 = .ok (.getfield 16, 3) := by decide +kernel
theorem d9_sortOf_11 : decode cX9_sortOf 11 = .ok (.iload_n 1, 1) := by decide +kernel
theorem d9_sortOf_12 : decode cX9_sortOf 12 = .ok (.iaload, 1) := by decide +kernel
theorem d9_sortOf_13 : decode cX9_sortOf 13 = .ok (.goto 4, 3) := by decide +kernel
theorem d9_sortOf_16 : decode cX9_sortOf 16 = .ok (.iconst (-1), 1) := by decide +kernel
theorem d9_sortOf_17 : decode cX9_sortOf 17 = .ok (.ireturn, 1) := by decide +kernel
abbrev K9_sortOf : CK Int32 := (enI, (some .int), 2, 2, none)
noncomputable def F9_sortOf (p0 : Int32) (σ : Ms) : Option (Int32 × Ms) :=
  bn (F9_isTray p0 σ) (fun r1 t2 => if r1 = 0 then (some ((-1 : Int32), t2))
  else (ck (ixb p0 4) (some ((t2.1 14 p0.toNatClampNeg), t2))))
set_option maxRecDepth 100000 in
theorem mc9_sortOf (p0 : Int32) (σ : Ms) : MC enI yX9_sortOf cX9_sortOf 2 (some .int) 2 (F9_sortOf p0 σ) σ [.ref 12, .int p0] := by
  refine MC.i (by decide +kernel) (Nat.le_of_ble_eq_true rfl) ?_
  show VF (K9_sortOf) cX9_sortOf RX9 (F9_sortOf p0 σ) σ 0 [(0, .ref 12), (1, .int p0)] []
  unfold F9_sortOf
  refine v_iload_n d9_sortOf_0 1 rfl rfl ?_
  refine v_callS1i d9_sortOf_1 (mc9_isTray p0 σ) ys9_isTray mlX9_23 (by decide) (Nat.le_of_ble_eq_true rfl) fun r1 t2 => ?_
  refine v_if_eq (tgt := 16) d9_sortOf_4 (by decide) ?_ ?_
  · refine v_iconst d9_sortOf_16 ki_m1 ?_
    exact v_iret d9_sortOf_17 rfl rfl rfl
  · refine v_aload_n d9_sortOf_7 0 rfl rfl ?_
    refine v_getR d9_sortOf_8 faX9_16 ic_12 rfl ?_
    refine v_iload_n d9_sortOf_11 1 rfl rfl ?_
    refine v_iald d9_sortOf_12 ic_14 ?_
    refine v_goto (tgt := 17) d9_sortOf_13 (by decide) ?_
    exact v_iret d9_sortOf_17 rfl rfl rfl
theorem d9_holds_0 : decode cX9_holds 0 = .ok (.iload_n 1, 1) := by decide +kernel
theorem d9_holds_1 : decode cX9_holds 1 = .ok (.invokestatic 23, 3) := by decide +kernel
theorem d9_holds_4 : decode cX9_holds 4 = .ok (.ifCond .eq 37, 3) := by decide +kernel
theorem d9_holds_7 : decode cX9_holds 7 = .ok (.iload_n 2, 1) := by decide +kernel
theorem d9_holds_8 : decode cX9_holds 8 = .ok (.ifCond .lt 33, 3) := by decide +kernel
theorem d9_holds_11 : decode cX9_holds 11 = .ok (.iload_n 3, 1) := by decide +kernel
theorem d9_holds_12 : decode cX9_holds 12 = .ok (.ifCond .lt 29, 3) := by decide +kernel
theorem d9_holds_15 : decode cX9_holds 15 = .ok (.iload_n 2, 1) := by decide +kernel
theorem d9_holds_16 : decode cX9_holds 16 = .ok (.aload_n 0, 1) := by decide +kernel
theorem d9_holds_17 : decode cX9_holds 17 = .ok (.getfield 20, 3) := by decide +kernel
theorem d9_holds_20 : decode cX9_holds 20 = .ok (.iload_n 1, 1) := by decide +kernel
theorem d9_holds_21 : decode cX9_holds 21 = .ok (.iaload, 1) := by decide +kernel
theorem d9_holds_22 : decode cX9_holds 22 = .ok (.if_icmp .gt 19, 3) := by decide +kernel
theorem d9_holds_25 : decode cX9_holds 25 = .ok (.iload_n 3, 1) := by decide +kernel
theorem d9_holds_26 : decode cX9_holds 26 = .ok (.aload_n 0, 1) := by decide +kernel
theorem d9_holds_27 : decode cX9_holds 27 = .ok (.getfield 20, 3) := by decide +kernel
theorem d9_holds_30 : decode cX9_holds 30 = .ok (.iload_n 1, 1) := by decide +kernel
theorem d9_holds_31 : decode cX9_holds 31 = .ok (.iaload, 1) := by decide +kernel
theorem d9_holds_32 : decode cX9_holds 32 = .ok (.iload_n 2, 1) := by decide +kernel
theorem d9_holds_33 : decode cX9_holds 33 = .ok (.isub, 1) := by decide +kernel
theorem d9_holds_34 : decode cX9_holds 34 = .ok (.if_icmp .gt 7, 3) := by decide +kernel
theorem d9_holds_37 : decode cX9_holds 37 = .ok (.iconst 1, 1) := by decide +kernel
theorem d9_holds_38 : decode cX9_holds 38 = .ok (.goto 4, 3) := by decide +kernel
theorem d9_holds_41 : decode cX9_holds 41 = .ok (.iconst 0, 1) := by decide +kernel
theorem d9_holds_42 : decode cX9_holds 42 = .ok (.ireturn, 1) := by decide +kernel
abbrev K9_holds : CK Int32 := (enI, (some .boolean), 4, 2, none)
noncomputable def F9_holds (p0 : Int32) (p1 : Int32) (p2 : Int32) (σ : Ms) : Option (Int32 × Ms) :=
  bn (F9_isTray p0 σ) (fun r1 t2 => if r1 = 0 then (some ((0 : Int32), t2))
  else (if p1 < 0 then (some ((0 : Int32), t2))
  else (if p2 < 0 then (some ((0 : Int32), t2))
  else (ck (ixb p0 4) (if (t2.1 15 p0.toNatClampNeg) < p1 then (some ((0 : Int32), t2))
  else (ck (ixb p0 4) (if ((t2.1 15 p0.toNatClampNeg) - p1) < p2 then (some ((0 : Int32), t2))
  else (some ((1 : Int32), t2)))))))))
set_option maxRecDepth 100000 in
theorem mc9_holds (p0 : Int32) (p1 : Int32) (p2 : Int32) (σ : Ms) : MC enI yX9_holds cX9_holds 4 (some .boolean) 2 (F9_holds p0 p1 p2 σ) σ [.ref 12, .int p0, .int p1, .int p2] := by
  refine MC.i (by decide +kernel) (Nat.le_of_ble_eq_true rfl) ?_
  show VF (K9_holds) cX9_holds RX9 (F9_holds p0 p1 p2 σ) σ 0 [(0, .ref 12), (1, .int p0), (2, .int p1), (3, .int p2)] []
  unfold F9_holds
  refine v_iload_n d9_holds_0 1 rfl rfl ?_
  refine v_callS1i d9_holds_1 (mc9_isTray p0 σ) ys9_isTray mlX9_23 (by decide) (Nat.le_of_ble_eq_true rfl) fun r1 t2 => ?_
  refine v_if_eq (tgt := 41) d9_holds_4 (by decide) ?_ ?_
  · refine v_iconst d9_holds_41 ki_0 ?_
    exact v_iret (ty := .boolean) d9_holds_42 rfl rfl rfl
  · refine v_iload_n d9_holds_7 2 rfl rfl ?_
    refine v_if_lt (tgt := 41) d9_holds_8 (by decide) ?_ ?_
    · refine v_iconst d9_holds_41 ki_0 ?_
      exact v_iret (ty := .boolean) d9_holds_42 rfl rfl rfl
    · refine v_iload_n d9_holds_11 3 rfl rfl ?_
      refine v_if_lt (tgt := 41) d9_holds_12 (by decide) ?_ ?_
      · refine v_iconst d9_holds_41 ki_0 ?_
        exact v_iret (ty := .boolean) d9_holds_42 rfl rfl rfl
      · refine v_iload_n d9_holds_15 2 rfl rfl ?_
        refine v_aload_n d9_holds_16 0 rfl rfl ?_
        refine v_getR d9_holds_17 faX9_20 ic_12 rfl ?_
        refine v_iload_n d9_holds_20 1 rfl rfl ?_
        refine v_iald d9_holds_21 ic_15 ?_
        refine v_icmp_gt (tgt := 41) d9_holds_22 (by decide) ?_ ?_
        · refine v_iconst d9_holds_41 ki_0 ?_
          exact v_iret (ty := .boolean) d9_holds_42 rfl rfl rfl
        · refine v_iload_n d9_holds_25 3 rfl rfl ?_
          refine v_aload_n d9_holds_26 0 rfl rfl ?_
          refine v_getR d9_holds_27 faX9_20 ic_12 rfl ?_
          refine v_iload_n d9_holds_30 1 rfl rfl ?_
          refine v_iald d9_holds_31 ic_15 ?_
          refine v_iload_n d9_holds_32 2 rfl rfl ?_
          refine v_isub d9_holds_33 ?_
          refine v_icmp_gt (tgt := 41) d9_holds_34 (by decide) ?_ ?_
          · refine v_iconst d9_holds_41 ki_0 ?_
            exact v_iret (ty := .boolean) d9_holds_42 rfl rfl rfl
          · refine v_iconst d9_holds_37 ki_1 ?_
            refine v_goto (tgt := 42) d9_holds_38 (by decide) ?_
            exact v_iret (ty := .boolean) d9_holds_42 rfl rfl rfl
theorem d9_lay_0 : decode cX9_lay 0 = .ok (.iload_n 1, 1) := by decide +kernel
theorem d9_lay_1 : decode cX9_lay 1 = .ok (.invokestatic 23, 3) := by decide +kernel
theorem d9_lay_4 : decode cX9_lay 4 = .ok (.ifCond .eq 9, 3) := by decide +kernel
theorem d9_lay_7 : decode cX9_lay 7 = .ok (.iload_n 3, 1) := by decide +kernel
theorem d9_lay_8 : decode cX9_lay 8 = .ok (.bipush 60, 2) := by decide +kernel
theorem d9_lay_10 : decode cX9_lay 10 = .ok (.if_icmp .le 4, 3) := by decide +kernel
theorem d9_lay_13 : decode cX9_lay 13 = .ok (.return_, 1) := by decide +kernel
theorem d9_lay_14 : decode cX9_lay 14 = .ok (.aload_n 0, 1) := by decide +kernel
theorem d9_lay_15 : decode cX9_lay 15 = .ok (.getfield 16, 3) := by decide +kernel
theorem d9_lay_18 : decode cX9_lay 18 = .ok (.iload_n 1, 1) := by decide +kernel
theorem d9_lay_19 : decode cX9_lay 19 = .ok (.iload_n 2, 1) := by decide +kernel
theorem d9_lay_20 : decode cX9_lay 20 = .ok (.iastore, 1) := by decide +kernel
theorem d9_lay_21 : decode cX9_lay 21 = .ok (.aload_n 0, 1) := by decide +kernel
theorem d9_lay_22 : decode cX9_lay 22 = .ok (.getfield 20, 3) := by decide +kernel
theorem d9_lay_25 : decode cX9_lay 25 = .ok (.iload_n 1, 1) := by decide +kernel
theorem d9_lay_26 : decode cX9_lay 26 = .ok (.iload_n 3, 1) := by decide +kernel
theorem d9_lay_27 : decode cX9_lay 27 = .ok (.iastore, 1) := by decide +kernel
theorem d9_lay_28 : decode cX9_lay 28 = .ok (.iconst 0, 1) := by decide +kernel
theorem d9_lay_29 : decode cX9_lay 29 = .ok (.istore 4, 2) := by decide +kernel
theorem d9_lay_31 : decode cX9_lay 31 = .ok (.iload 4, 2) := by decide +kernel
theorem d9_lay_33 : decode cX9_lay 33 = .ok (.iload_n 3, 1) := by decide +kernel
theorem d9_lay_34 : decode cX9_lay 34 = .ok (.if_icmp .ge 19, 3) := by decide +kernel
theorem d9_lay_37 : decode cX9_lay 37 = .ok (.aload_n 0, 1) := by decide +kernel
theorem d9_lay_38 : decode cX9_lay 38 = .ok (.getfield 13, 3) := by decide +kernel
theorem d9_lay_41 : decode cX9_lay 41 = .ok (.iload_n 1, 1) := by decide +kernel
theorem d9_lay_42 : decode cX9_lay 42 = .ok (.aaload, 1) := by decide +kernel
theorem d9_lay_43 : decode cX9_lay 43 = .ok (.iload 4, 2) := by decide +kernel
theorem d9_lay_45 : decode cX9_lay 45 = .ok (.lconst 0, 1) := by decide +kernel
theorem d9_lay_46 : decode cX9_lay 46 = .ok (.lastore, 1) := by decide +kernel
theorem d9_lay_47 : decode cX9_lay 47 = .ok (.iinc 4 1, 3) := by decide +kernel
theorem d9_lay_50 : decode cX9_lay 50 = .ok (.goto (-19), 3) := by decide +kernel
theorem d9_lay_53 : decode cX9_lay 53 = .ok (.return_, 1) := by decide +kernel
abbrev K9_lay : CK Unit := (enV, none, 5, 2, none)
noncomputable def F9_lay_b31B (N : Nat) (k31 : Int32 × Int32 × Int32 × Ms → Option (Unit × Ms)) (l1 : Int32) (l3 : Int32) (l4 : Int32) (σ : Ms) : Option (Unit × Ms) :=
  if l3 ≤ l4 then (some ((), σ))
  else (ck (ixb l1 4) (ck (ixb l4 60) (lt (sL σ (16 + l1.toNatClampNeg) l4.toNatClampNeg (0 : Int64)) (fun t2 => k31 (l1, l3, (l4 + (1 : Int32)), t2)))))
noncomputable def F9_lay_b31 (N : Nat) (l1 : Int32) (l3 : Int32) (l4 : Int32) (σ : Ms) : Option (Unit × Ms) :=
  fx N (fun k x => F9_lay_b31B N k x.1 x.2.1 x.2.2.1 x.2.2.2) (l1, l3, l4, σ)
noncomputable def F9_lay (N : Nat) (p0 : Int32) (p1 : Int32) (p2 : Int32) (σ : Ms) : Option (Unit × Ms) :=
  bn (F9_isTray p0 σ) (fun r3 t4 => if r3 = 0 then (some ((), t4))
  else (if p2 ≤ (60 : Int32) then (ck (ixb p0 4) (lt (sI t4 14 p0.toNatClampNeg p1) (fun t5 => ck (ixb p0 4) (lt (sI t5 15 p0.toNatClampNeg p2) (fun t6 => F9_lay_b31 N p0 p2 (0 : Int32) t6)))))
  else (some ((), t4))))
set_option maxRecDepth 100000 in
theorem v9_lay_b31B (N : Nat) (k31 : Int32 × Int32 × Int32 × Ms → Option (Unit × Ms)) (hk31 : ∀ (l1 : Int32) (l3 : Int32) (l4 : Int32) (τ : Ms), VF (K9_lay) cX9_lay RX9 (k31 (l1, l3, l4, τ)) τ 31 [(0, .ref 12), (1, .int l1), (3, .int l3), (4, .int l4)] []) (l1 : Int32) (l3 : Int32) (l4 : Int32) (σ : Ms) : VF (K9_lay) cX9_lay RX9 (F9_lay_b31B N k31 l1 l3 l4 σ) σ 31 [(0, .ref 12), (1, .int l1), (3, .int l3), (4, .int l4)] [] := by
  unfold F9_lay_b31B
  refine v_iload d9_lay_31 3 rfl ?_
  refine v_iload_n d9_lay_33 2 rfl rfl ?_
  refine v_icmp_ge (tgt := 53) d9_lay_34 (by decide) ?_ ?_
  · exact v_vret d9_lay_53 rfl
  · refine v_aload_n d9_lay_37 0 rfl rfl ?_
    refine v_getR d9_lay_38 faX9_13 ic_12 rfl ?_
    refine v_iload_n d9_lay_41 1 rfl rfl ?_
    refine v_aald4 d9_lay_42 ic_13 fun hb1 => ?_
    refine v_iload d9_lay_43 3 rfl ?_
    refine v_lconst d9_lay_45 kl_0 ?_
    refine v_last d9_lay_46 (ia_13 hb1) ?_
    refine v_lts fun t2 => ?_
    refine v_iinc (lv' := [(4, .int (l4 + (1 : Int32))), (0, .ref 12), (1, .int l1), (3, .int l3)]) d9_lay_47 3 rfl (by rw [ki_1]) (by decide) rfl ?_
    refine v_goto (tgt := 31) d9_lay_50 (by decide) ?_
    refine v_sub [1, 2, 3, 0] rfl ?_
    exact hk31 l1 l3 (l4 + (1 : Int32)) t2
theorem v9_lay_b31 (N : Nat) (l1 : Int32) (l3 : Int32) (l4 : Int32) (σ : Ms) : VF (K9_lay) cX9_lay RX9 (F9_lay_b31 N l1 l3 l4 σ) σ 31 [(0, .ref 12), (1, .int l1), (3, .int l3), (4, .int l4)] [] := v_fx (σo := fun x => x.2.2.2) (lo := fun x => [(0, .ref 12), (1, .int x.1), (3, .int x.2.1), (4, .int x.2.2.1)]) (fun k hk x => v9_lay_b31B N k (fun l1 l3 l4 τ => hk (l1, l3, l4, τ)) x.1 x.2.1 x.2.2.1 x.2.2.2) N (l1, l3, l4, σ)
set_option maxRecDepth 100000 in
theorem mc9_lay (N : Nat) (p0 : Int32) (p1 : Int32) (p2 : Int32) (σ : Ms) : MC enV yX9_lay cX9_lay 5 none 2 (F9_lay N p0 p1 p2 σ) σ [.ref 12, .int p0, .int p1, .int p2] := by
  refine MC.v (by decide +kernel) (Nat.le_of_ble_eq_true rfl) ?_
  show VF (K9_lay) cX9_lay RX9 (F9_lay N p0 p1 p2 σ) σ 0 [(0, .ref 12), (1, .int p0), (2, .int p1), (3, .int p2)] []
  unfold F9_lay
  refine v_iload_n d9_lay_0 1 rfl rfl ?_
  refine v_callS1i d9_lay_1 (mc9_isTray p0 σ) ys9_isTray mlX9_23 (by decide) (Nat.le_of_ble_eq_true rfl) fun r3 t4 => ?_
  refine v_if_eq (tgt := 13) d9_lay_4 (by decide) ?_ ?_
  · exact v_vret d9_lay_13 rfl
  · refine v_iload_n d9_lay_7 3 rfl rfl ?_
    refine v_bipush d9_lay_8 kb_60 ?_
    refine v_icmp_le (tgt := 14) d9_lay_10 (by decide) ?_ ?_
    · refine v_aload_n d9_lay_14 0 rfl rfl ?_
      refine v_getR d9_lay_15 faX9_16 ic_12 rfl ?_
      refine v_iload_n d9_lay_18 1 rfl rfl ?_
      refine v_iload_n d9_lay_19 2 rfl rfl ?_
      refine v_iast d9_lay_20 ic_14 ?_
      refine v_lts fun t5 => ?_
      refine v_aload_n d9_lay_21 0 rfl rfl ?_
      refine v_getR d9_lay_22 faX9_20 ic_12 rfl ?_
      refine v_iload_n d9_lay_25 1 rfl rfl ?_
      refine v_iload_n d9_lay_26 3 rfl rfl ?_
      refine v_iast d9_lay_27 ic_15 ?_
      refine v_lts fun t6 => ?_
      refine v_iconst d9_lay_28 ki_0 ?_
      refine v_istore (lv' := [(4, .int (0 : Int32)), (0, .ref 12), (1, .int p0), (2, .int p1), (3, .int p2)]) d9_lay_29 (by decide) rfl ?_
      refine v_sub [1, 2, 4, 0] rfl ?_
      exact v9_lay_b31 N p0 p2 (0 : Int32) t6
    · exact v_vret d9_lay_13 rfl
theorem d9_at_0 : decode cX9_at 0 = .ok (.aload_n 0, 1) := by decide +kernel
theorem d9_at_1 : decode cX9_at 1 = .ok (.iload_n 1, 1) := by decide +kernel
theorem d9_at_2 : decode cX9_at 2 = .ok (.iload_n 2, 1) := by decide +kernel
theorem d9_at_3 : decode cX9_at 3 = .ok (.iconst 1, 1) := by decide +kernel
theorem d9_at_4 : decode cX9_at 4 = .ok (.invokevirtual 27, 3) := by decide +kernel
theorem d9_at_7 : decode cX9_at 7 = .ok (.ifCond .eq 14, 3) := by decide +kernel
theorem d9_at_10 : decode cX9_at 10 = .ok (.aload_n 0, 1) := by decide +kernel
theorem d9_at_11 : decode cX9_at 11 = .ok (.getfield 13, 3) := by decide +kernel
theorem d9_at_14 : decode cX9_at 14 = .ok (.iload_n 1, 1) := by decide +kernel
theorem d9_at_15 : decode cX9_at 15 = .ok (.aaload, 1) := by decide +kernel
theorem d9_at_16 : decode cX9_at 16 = .ok (.iload_n 2, 1) := by decide +kernel
theorem d9_at_17 : decode cX9_at 17 = .ok (.laload, 1) := by decide +kernel
theorem d9_at_18 : decode cX9_at 18 = .ok (.goto 6, 3) := by decide +kernel
theorem d9_at_21 : decode cX9_at 21 = .ok (.ldc2_w 31, 3) := by decide +kernel
theorem d9_at_24 : decode cX9_at 24 = .ok (.lreturn, 1) := by decide +kernel
abbrev K9_at : CK Int64 := (enL, (some .long), 3, 3, none)
noncomputable def F9_at (p0 : Int32) (p1 : Int32) (σ : Ms) : Option (Int64 × Ms) :=
  bn (F9_holds p0 p1 (1 : Int32) σ) (fun r1 t2 => if r1 = 0 then (some ((-1 : Int64), t2))
  else (ck (ixb p0 4) (ck (ixb p1 60) (some ((t2.2 (16 + p0.toNatClampNeg) p1.toNatClampNeg), t2)))))
set_option maxRecDepth 100000 in
theorem mc9_at (p0 : Int32) (p1 : Int32) (σ : Ms) : MC enL yX9_at cX9_at 3 (some .long) 3 (F9_at p0 p1 σ) σ [.ref 12, .int p0, .int p1] := by
  refine MC.l (by decide +kernel) (Nat.le_of_ble_eq_true rfl) ?_
  show VF (K9_at) cX9_at RX9 (F9_at p0 p1 σ) σ 0 [(0, .ref 12), (1, .int p0), (2, .int p1)] []
  unfold F9_at
  refine v_aload_n d9_at_0 0 rfl rfl ?_
  refine v_iload_n d9_at_1 1 rfl rfl ?_
  refine v_iload_n d9_at_2 2 rfl rfl ?_
  refine v_iconst d9_at_3 ki_1 ?_
  refine v_callV3i d9_at_4 (mc9_holds p0 p1 (1 : Int32) σ) yv9_holds mlX9_27 (Recv.obj ic_12 rfl) (by decide) (Nat.le_of_ble_eq_true rfl) fun r1 t2 => ?_
  refine v_if_eq (tgt := 21) d9_at_7 (by decide) ?_ ?_
  · refine v_ldc2 d9_at_21 klX9_31 ?_
    exact v_lret d9_at_24 rfl rfl
  · refine v_aload_n d9_at_10 0 rfl rfl ?_
    refine v_getR d9_at_11 faX9_13 ic_12 rfl ?_
    refine v_iload_n d9_at_14 1 rfl rfl ?_
    refine v_aald4 d9_at_15 ic_13 fun hb3 => ?_
    refine v_iload_n d9_at_16 2 rfl rfl ?_
    refine v_lald d9_at_17 (ia_13 hb3) ?_
    refine v_goto (tgt := 24) d9_at_18 (by decide) ?_
    exact v_lret d9_at_24 rfl rfl
theorem d9_fitted_0 : decode cX9_fitted 0 = .ok (.iload_n 2, 1) := by decide +kernel
theorem d9_fitted_1 : decode cX9_fitted 1 = .ok (.tableswitch 41 0 2 #[27, 32, 37], 27) := by decide +kernel
theorem d9_fitted_28 : decode cX9_fitted 28 = .ok (.lload_n 0, 1) := by decide +kernel
theorem d9_fitted_29 : decode cX9_fitted 29 = .ok (.l2i, 1) := by decide +kernel
theorem d9_fitted_30 : decode cX9_fitted 30 = .ok (.i2b, 1) := by decide +kernel
theorem d9_fitted_31 : decode cX9_fitted 31 = .ok (.i2l, 1) := by decide +kernel
theorem d9_fitted_32 : decode cX9_fitted 32 = .ok (.lreturn, 1) := by decide +kernel
theorem d9_fitted_33 : decode cX9_fitted 33 = .ok (.lload_n 0, 1) := by decide +kernel
theorem d9_fitted_34 : decode cX9_fitted 34 = .ok (.l2i, 1) := by decide +kernel
theorem d9_fitted_35 : decode cX9_fitted 35 = .ok (.i2s, 1) := by decide +kernel
theorem d9_fitted_36 : decode cX9_fitted 36 = .ok (.i2l, 1) := by decide +kernel
theorem d9_fitted_37 : decode cX9_fitted 37 = .ok (.lreturn, 1) := by decide +kernel
theorem d9_fitted_38 : decode cX9_fitted 38 = .ok (.lload_n 0, 1) := by decide +kernel
theorem d9_fitted_39 : decode cX9_fitted 39 = .ok (.l2i, 1) := by decide +kernel
theorem d9_fitted_40 : decode cX9_fitted 40 = .ok (.i2l, 1) := by decide +kernel
theorem d9_fitted_41 : decode cX9_fitted 41 = .ok (.lreturn, 1) := by decide +kernel
theorem d9_fitted_42 : decode cX9_fitted 42 = .ok (.lload_n 0, 1) := by decide +kernel
theorem d9_fitted_43 : decode cX9_fitted 43 = .ok (.lreturn, 1) := by decide +kernel
abbrev K9_fitted : CK Int64 := (enL, (some .long), 3, 1, none)
noncomputable def F9_fitted (p0 : Int64) (p1 : Int32) (σ : Ms) : Option (Int64 × Ms) :=
  if p1 = (0 : Int32) then (some ((((p0.toInt32).toInt8.toInt32).toInt64), σ))
  else (if p1 = (1 : Int32) then (some ((((p0.toInt32).toInt16.toInt32).toInt64), σ))
  else (if p1 = (2 : Int32) then (some (((p0.toInt32).toInt64), σ))
  else (some (p0, σ))))
set_option maxRecDepth 100000 in
theorem mc9_fitted (p0 : Int64) (p1 : Int32) (σ : Ms) : MC enL yX9_fitted cX9_fitted 3 (some .long) 1 (F9_fitted p0 p1 σ) σ [.long p0, .int p1] := by
  refine MC.l (by decide +kernel) (Nat.le_of_ble_eq_true rfl) ?_
  show VF (K9_fitted) cX9_fitted RX9 (F9_fitted p0 p1 σ) σ 0 [(0, .long p0), (2, .int p1)] []
  unfold F9_fitted
  refine v_iload_n d9_fitted_0 1 rfl rfl ?_
  refine v_ite _ (fun ht0 => ?_) (fun ht0 => ?_)
  · refine v_tabIn (tgt := 28) d9_fitted_1 (0 : Int32) ht0 (by decide) (by decide) rfl (by decide) ?_
    refine v_lload_n d9_fitted_28 0 rfl rfl ?_
    refine v_l2i d9_fitted_29 ?_
    refine v_i2b d9_fitted_30 ?_
    refine v_i2l d9_fitted_31 ?_
    exact v_lret d9_fitted_32 rfl rfl
  refine v_ite _ (fun ht1 => ?_) (fun ht1 => ?_)
  · refine v_tabIn (tgt := 33) d9_fitted_1 (1 : Int32) ht1 (by decide) (by decide) rfl (by decide) ?_
    refine v_lload_n d9_fitted_33 0 rfl rfl ?_
    refine v_l2i d9_fitted_34 ?_
    refine v_i2s d9_fitted_35 ?_
    refine v_i2l d9_fitted_36 ?_
    exact v_lret d9_fitted_37 rfl rfl
  refine v_ite _ (fun ht2 => ?_) (fun ht2 => ?_)
  · refine v_tabIn (tgt := 38) d9_fitted_1 (2 : Int32) ht2 (by decide) (by decide) rfl (by decide) ?_
    refine v_lload_n d9_fitted_38 0 rfl rfl ?_
    refine v_l2i d9_fitted_39 ?_
    refine v_i2l d9_fitted_40 ?_
    exact v_lret d9_fitted_41 rfl rfl
  refine v_tabOut (tgt := 42) d9_fitted_1 (by decide) (tab_out 2 (by decide) (by decide) (fun j hj => (match j, hj with | 0, _ => ht0 | 1, _ => ht1 | 2, _ => ht2 | n + 3, h => absurd h (by omega)))) ?_
  refine v_lload_n d9_fitted_42 0 rfl rfl ?_
  exact v_lret d9_fitted_43 rfl rfl
theorem d9_put_0 : decode cX9_put 0 = .ok (.aload_n 0, 1) := by decide +kernel
theorem d9_put_1 : decode cX9_put 1 = .ok (.iload_n 1, 1) := by decide +kernel
theorem d9_put_2 : decode cX9_put 2 = .ok (.iload_n 2, 1) := by decide +kernel
theorem d9_put_3 : decode cX9_put 3 = .ok (.iconst 1, 1) := by decide +kernel
theorem d9_put_4 : decode cX9_put 4 = .ok (.invokevirtual 27, 3) := by decide +kernel
theorem d9_put_7 : decode cX9_put 7 = .ok (.ifCond .eq 21, 3) := by decide +kernel
theorem d9_put_10 : decode cX9_put 10 = .ok (.aload_n 0, 1) := by decide +kernel
theorem d9_put_11 : decode cX9_put 11 = .ok (.getfield 13, 3) := by decide +kernel
theorem d9_put_14 : decode cX9_put 14 = .ok (.iload_n 1, 1) := by decide +kernel
theorem d9_put_15 : decode cX9_put 15 = .ok (.aaload, 1) := by decide +kernel
theorem d9_put_16 : decode cX9_put 16 = .ok (.iload_n 2, 1) := by decide +kernel
theorem d9_put_17 : decode cX9_put 17 = .ok (.lload_n 3, 1) := by decide +kernel
theorem d9_put_18 : decode cX9_put 18 = .ok (.aload_n 0, 1) := by decide +kernel
theorem d9_put_19 : decode cX9_put 19 = .ok (.getfield 16, 3) := by decide +kernel
theorem d9_put_22 : decode cX9_put 22 = .ok (.iload_n 1, 1) := by decide +kernel
theorem d9_put_23 : decode cX9_put 23 = .ok (.iaload, 1) := by decide +kernel
theorem d9_put_24 : decode cX9_put 24 = .ok (.invokestatic 33, 3) := by decide +kernel
theorem d9_put_27 : decode cX9_put 27 = .ok (.lastore, 1) := by decide +kernel
theorem d9_put_28 : decode cX9_put 28 = .ok (.return_, 1) := by decide +kernel
abbrev K9_put : CK Unit := (enV, none, 5, 3, none)
noncomputable def F9_put (p0 : Int32) (p1 : Int32) (p2 : Int64) (σ : Ms) : Option (Unit × Ms) :=
  bn (F9_holds p0 p1 (1 : Int32) σ) (fun r1 t2 => if r1 = 0 then (some ((), t2))
  else (ck (ixb p0 4) (ck (ixb p0 4) (bn (F9_fitted p2 (t2.1 14 p0.toNatClampNeg) t2) (fun r4 t5 => ck (ixb p1 60) (lt (sL t5 (16 + p0.toNatClampNeg) p1.toNatClampNeg r4) (fun t6 => some ((), t6))))))))
set_option maxRecDepth 100000 in
theorem mc9_put (p0 : Int32) (p1 : Int32) (p2 : Int64) (σ : Ms) : MC enV yX9_put cX9_put 5 none 3 (F9_put p0 p1 p2 σ) σ [.ref 12, .int p0, .int p1, .long p2] := by
  refine MC.v (by decide +kernel) (Nat.le_of_ble_eq_true rfl) ?_
  show VF (K9_put) cX9_put RX9 (F9_put p0 p1 p2 σ) σ 0 [(0, .ref 12), (1, .int p0), (2, .int p1), (3, .long p2)] []
  unfold F9_put
  refine v_aload_n d9_put_0 0 rfl rfl ?_
  refine v_iload_n d9_put_1 1 rfl rfl ?_
  refine v_iload_n d9_put_2 2 rfl rfl ?_
  refine v_iconst d9_put_3 ki_1 ?_
  refine v_callV3i d9_put_4 (mc9_holds p0 p1 (1 : Int32) σ) yv9_holds mlX9_27 (Recv.obj ic_12 rfl) (by decide) (Nat.le_of_ble_eq_true rfl) fun r1 t2 => ?_
  refine v_if_eq (tgt := 28) d9_put_7 (by decide) ?_ ?_
  · exact v_vret d9_put_28 rfl
  · refine v_aload_n d9_put_10 0 rfl rfl ?_
    refine v_getR d9_put_11 faX9_13 ic_12 rfl ?_
    refine v_iload_n d9_put_14 1 rfl rfl ?_
    refine v_aald4 d9_put_15 ic_13 fun hb3 => ?_
    refine v_iload_n d9_put_16 2 rfl rfl ?_
    refine v_lload_n d9_put_17 3 rfl rfl ?_
    refine v_aload_n d9_put_18 0 rfl rfl ?_
    refine v_getR d9_put_19 faX9_16 ic_12 rfl ?_
    refine v_iload_n d9_put_22 1 rfl rfl ?_
    refine v_iald d9_put_23 ic_14 ?_
    refine v_callS2l d9_put_24 (mc9_fitted p2 (t2.1 14 p0.toNatClampNeg) t2) ys9_fitted mlX9_33 (by decide) (Nat.le_of_ble_eq_true rfl) fun r4 t5 => ?_
    refine v_last d9_put_27 (ia_13 hb3) ?_
    refine v_lts fun t6 => ?_
    exact v_vret d9_put_28 rfl
theorem d9_move_0 : decode cX9_move 0 = .ok (.aload_n 0, 1) := by decide +kernel
theorem d9_move_1 : decode cX9_move 1 = .ok (.iload_n 1, 1) := by decide +kernel
theorem d9_move_2 : decode cX9_move 2 = .ok (.iload_n 2, 1) := by decide +kernel
theorem d9_move_3 : decode cX9_move 3 = .ok (.iload 5, 2) := by decide +kernel
theorem d9_move_5 : decode cX9_move 5 = .ok (.invokevirtual 27, 3) := by decide +kernel
theorem d9_move_8 : decode cX9_move 8 = .ok (.ifCond .eq 15, 3) := by decide +kernel
theorem d9_move_11 : decode cX9_move 11 = .ok (.aload_n 0, 1) := by decide +kernel
theorem d9_move_12 : decode cX9_move 12 = .ok (.iload_n 3, 1) := by decide +kernel
theorem d9_move_13 : decode cX9_move 13 = .ok (.iload 4, 2) := by decide +kernel
theorem d9_move_15 : decode cX9_move 15 = .ok (.iload 5, 2) := by decide +kernel
theorem d9_move_17 : decode cX9_move 17 = .ok (.invokevirtual 27, 3) := by decide +kernel
theorem d9_move_20 : decode cX9_move 20 = .ok (.ifCond .ne 4, 3) := by decide +kernel
theorem d9_move_23 : decode cX9_move 23 = .ok (.return_, 1) := by decide +kernel
theorem d9_move_24 : decode cX9_move 24 = .ok (.aload_n 0, 1) := by decide +kernel
theorem d9_move_25 : decode cX9_move 25 = .ok (.getfield 13, 3) := by decide +kernel
theorem d9_move_28 : decode cX9_move 28 = .ok (.iload_n 1, 1) := by decide +kernel
theorem d9_move_29 : decode cX9_move 29 = .ok (.aaload, 1) := by decide +kernel
theorem d9_move_30 : decode cX9_move 30 = .ok (.iload_n 2, 1) := by decide +kernel
theorem d9_move_31 : decode cX9_move 31 = .ok (.aload_n 0, 1) := by decide +kernel
theorem d9_move_32 : decode cX9_move 32 = .ok (.getfield 13, 3) := by decide +kernel
theorem d9_move_35 : decode cX9_move 35 = .ok (.iload_n 3, 1) := by decide +kernel
theorem d9_move_36 : decode cX9_move 36 = .ok (.aaload, 1) := by decide +kernel
theorem d9_move_37 : decode cX9_move 37 = .ok (.iload 4, 2) := by decide +kernel
theorem d9_move_39 : decode cX9_move 39 = .ok (.iload 5, 2) := by decide +kernel
theorem d9_move_41 : decode cX9_move 41 = .ok (.invokestatic 37, 3) := by decide +kernel
theorem d9_move_44 : decode cX9_move 44 = .ok (.return_, 1) := by decide +kernel
abbrev K9_move : CK Unit := (enV, none, 6, 3, none)
noncomputable def F9_move (p0 : Int32) (p1 : Int32) (p2 : Int32) (p3 : Int32) (p4 : Int32) (σ : Ms) : Option (Unit × Ms) :=
  bn (F9_holds p0 p1 p4 σ) (fun r1 t2 => if r1 = 0 then (some ((), t2))
  else (bn (F9_holds p2 p3 p4 t2) (fun r3 t4 => if r3 ≠ 0 then (ck (ixb p0 4) (ck (ixb p2 4) (ck (ixc p1 p3 p4 60) (lt (sCpy t4 (16 + p0.toNatClampNeg) (16 + p2.toNatClampNeg) p1.toNatClampNeg p3.toNatClampNeg p4.toNatClampNeg) (fun t7 => some ((), t7))))))
  else (some ((), t4)))))
set_option maxRecDepth 100000 in
theorem mc9_move (p0 : Int32) (p1 : Int32) (p2 : Int32) (p3 : Int32) (p4 : Int32) (σ : Ms) : MC enV yX9_move cX9_move 6 none 3 (F9_move p0 p1 p2 p3 p4 σ) σ [.ref 12, .int p0, .int p1, .int p2, .int p3, .int p4] := by
  refine MC.v (by decide +kernel) (Nat.le_of_ble_eq_true rfl) ?_
  show VF (K9_move) cX9_move RX9 (F9_move p0 p1 p2 p3 p4 σ) σ 0 [(0, .ref 12), (1, .int p0), (2, .int p1), (3, .int p2), (4, .int p3), (5, .int p4)] []
  unfold F9_move
  refine v_aload_n d9_move_0 0 rfl rfl ?_
  refine v_iload_n d9_move_1 1 rfl rfl ?_
  refine v_iload_n d9_move_2 2 rfl rfl ?_
  refine v_iload d9_move_3 5 rfl ?_
  refine v_callV3i d9_move_5 (mc9_holds p0 p1 p4 σ) yv9_holds mlX9_27 (Recv.obj ic_12 rfl) (by decide) (Nat.le_of_ble_eq_true rfl) fun r1 t2 => ?_
  refine v_if_eq (tgt := 23) d9_move_8 (by decide) ?_ ?_
  · exact v_vret d9_move_23 rfl
  · refine v_aload_n d9_move_11 0 rfl rfl ?_
    refine v_iload_n d9_move_12 3 rfl rfl ?_
    refine v_iload d9_move_13 4 rfl ?_
    refine v_iload d9_move_15 5 rfl ?_
    refine v_callV3i d9_move_17 (mc9_holds p2 p3 p4 t2) yv9_holds mlX9_27 (Recv.obj ic_12 rfl) (by decide) (Nat.le_of_ble_eq_true rfl) fun r3 t4 => ?_
    refine v_if_ne (tgt := 24) d9_move_20 (by decide) ?_ ?_
    · refine v_aload_n d9_move_24 0 rfl rfl ?_
      refine v_getR d9_move_25 faX9_13 ic_12 rfl ?_
      refine v_iload_n d9_move_28 1 rfl rfl ?_
      refine v_aald4 d9_move_29 ic_13 fun hb5 => ?_
      refine v_iload_n d9_move_30 2 rfl rfl ?_
      refine v_aload_n d9_move_31 0 rfl rfl ?_
      refine v_getR d9_move_32 faX9_13 ic_12 rfl ?_
      refine v_iload_n d9_move_35 3 rfl rfl ?_
      refine v_aald4 d9_move_36 ic_13 fun hb6 => ?_
      refine v_iload d9_move_37 4 rfl ?_
      refine v_iload d9_move_39 5 rfl ?_
      refine v_acopy d9_move_41 (ia_13 hb5) (ia_13 hb6) mlcopy (by decide) (Nat.le_of_ble_eq_true rfl) ?_
      refine v_lts fun t7 => ?_
      exact v_vret d9_move_44 rfl
    · exact v_vret d9_move_23 rfl
theorem d10_canBe_0 : decode cX10_canBe 0 = .ok (.iload_n 1, 1) := by decide +kernel
theorem d10_canBe_1 : decode cX10_canBe 1 = .ok (.ifCond .lt 18, 3) := by decide +kernel
theorem d10_canBe_4 : decode cX10_canBe 4 = .ok (.iload_n 1, 1) := by decide +kernel
theorem d10_canBe_5 : decode cX10_canBe 5 = .ok (.ldc 22, 2) := by decide +kernel
theorem d10_canBe_7 : decode cX10_canBe 7 = .ok (.if_icmp .ge 12, 3) := by decide +kernel
theorem d10_canBe_10 : decode cX10_canBe 10 = .ok (.iload_n 1, 1) := by decide +kernel
theorem d10_canBe_11 : decode cX10_canBe 11 = .ok (.invokestatic 23, 3) := by decide +kernel
theorem d10_canBe_14 : decode cX10_canBe 14 = .ok (.bipush 10, 2) := by decide +kernel
theorem d10_canBe_16 : decode cX10_canBe 16 = .ok (.if_icmp .le 5, 3) := by decide +kernel
theorem d10_canBe_19 : decode cX10_canBe 19 = .ok (.iconst 0, 1) := by decide +kernel
theorem d10_canBe_20 : decode cX10_canBe 20 = .ok (.ireturn, 1) := by decide +kernel
theorem d10_canBe_21 : decode cX10_canBe 21 = .ok (.iconst 0, 1) := by decide +kernel
theorem d10_canBe_22 : decode cX10_canBe 22 = .ok (.istore_n 2, 1) := by decide +kernel
theorem d10_canBe_23 : decode cX10_canBe 23 = .ok (.iload_n 2, 1) := by decide +kernel
theorem d10_canBe_24 : decode cX10_canBe 24 = .ok (.bipush 20, 2) := by decide +kernel
theorem d10_canBe_26 : decode cX10_canBe 26 = .ok (.if_icmp .ge 27, 3) := by decide +kernel
theorem d10_canBe_29 : decode cX10_canBe 29 = .ok (.iload_n 1, 1) := by decide +kernel
theorem d10_canBe_30 : decode cX10_canBe 30 = .ok (.iload_n 2, 1) := by decide +kernel
theorem d10_canBe_31 : decode cX10_canBe 31 = .ok (.invokestatic 29, 3) := by decide +kernel
theorem d10_canBe_34 : decode cX10_canBe 34 = .ok (.ifCond .eq 13, 3) := by decide +kernel
theorem d10_canBe_37 : decode cX10_canBe 37 = .ok (.aload_n 0, 1) := by decide +kernel
theorem d10_canBe_38 : decode cX10_canBe 38 = .ok (.iload_n 2, 1) := by decide +kernel
theorem d10_canBe_39 : decode cX10_canBe 39 = .ok (.invokevirtual 33, 3) := by decide +kernel
theorem d10_canBe_42 : decode cX10_canBe 42 = .ok (.ifCond .ne 5, 3) := by decide +kernel
theorem d10_canBe_45 : decode cX10_canBe 45 = .ok (.iconst 0, 1) := by decide +kernel
theorem d10_canBe_46 : decode cX10_canBe 46 = .ok (.ireturn, 1) := by decide +kernel
theorem d10_canBe_47 : decode cX10_canBe 47 = .ok (.iinc 2 1, 3) := by decide +kernel
theorem d10_canBe_50 : decode cX10_canBe 50 = .ok (.goto (-27), 3) := by decide +kernel
theorem d10_canBe_53 : decode cX10_canBe 53 = .ok (.iconst 1, 1) := by decide +kernel
theorem d10_canBe_54 : decode cX10_canBe 54 = .ok (.ireturn, 1) := by decide +kernel
abbrev K10_canBe : CK Int32 := (enI, (some .boolean), 3, 4, none)
noncomputable def F10_canBe_b47 (N : Nat) (q0 : Nat) (k23 : Int32 × Int32 × Ms → Option (Int32 × Ms)) (l1 : Int32) (l2 : Int32) (σ : Ms) : Option (Int32 × Ms) :=
  k23 (l1, (l2 + (1 : Int32)), σ)
noncomputable def F10_canBe_b23B (N : Nat) (q0 : Nat) (k23 : Int32 × Int32 × Ms → Option (Int32 × Ms)) (l1 : Int32) (l2 : Int32) (σ : Ms) : Option (Int32 × Ms) :=
  if (20 : Int32) ≤ l2 then (some ((1 : Int32), σ))
  else (bn (F11_isIn l1 l2 σ) (fun r1 t2 => if r1 = 0 then (F10_canBe_b47 N q0 k23 l1 l2 t2)
  else (bn (F0_hasWorth q0 l2 t2) (fun r3 t4 => if r3 ≠ 0 then (F10_canBe_b47 N q0 k23 l1 l2 t4)
  else (some ((0 : Int32), t4))))))
noncomputable def F10_canBe_b23 (N : Nat) (q0 : Nat) (l1 : Int32) (l2 : Int32) (σ : Ms) : Option (Int32 × Ms) :=
  fx N (fun k x => F10_canBe_b23B N q0 k x.1 x.2.1 x.2.2) (l1, l2, σ)
noncomputable def F10_canBe (N : Nat) (q0 : Nat) (p1 : Int32) (σ : Ms) : Option (Int32 × Ms) :=
  if p1 < 0 then (some ((0 : Int32), σ))
  else (if (1048576 : Int32) ≤ p1 then (some ((0 : Int32), σ))
  else (bn (FJ6_bitCount_0f7a4 p1 σ) (fun r5 t6 => if r5 ≤ (10 : Int32) then (F10_canBe_b23 N q0 p1 (0 : Int32) t6)
  else (some ((0 : Int32), t6)))))
set_option maxRecDepth 100000 in
theorem v10_canBe_b47 (N : Nat) (q0 : Nat) (hq0 : IsC q0 (0, 0, 0)) (k23 : Int32 × Int32 × Ms → Option (Int32 × Ms)) (hk23 : ∀ (l1 : Int32) (l2 : Int32) (τ : Ms), VF (K10_canBe) cX10_canBe RX10 (k23 (l1, l2, τ)) τ 23 [(0, .ref q0), (1, .int l1), (2, .int l2)] []) (l1 : Int32) (l2 : Int32) (σ : Ms) : VF (K10_canBe) cX10_canBe RX10 (F10_canBe_b47 N q0 k23 l1 l2 σ) σ 47 [(0, .ref q0), (1, .int l1), (2, .int l2)] [] := by
  unfold F10_canBe_b47
  refine v_iinc (lv' := [(2, .int (l2 + (1 : Int32))), (0, .ref q0), (1, .int l1)]) d10_canBe_47 2 rfl (by rw [ki_1]) (by decide) rfl ?_
  refine v_goto (tgt := 23) d10_canBe_50 (by decide) ?_
  refine v_sub [1, 2, 0] rfl ?_
  exact hk23 l1 (l2 + (1 : Int32)) σ
set_option maxRecDepth 100000 in
theorem v10_canBe_b23B (N : Nat) (q0 : Nat) (hq0 : IsC q0 (0, 0, 0)) (k23 : Int32 × Int32 × Ms → Option (Int32 × Ms)) (hk23 : ∀ (l1 : Int32) (l2 : Int32) (τ : Ms), VF (K10_canBe) cX10_canBe RX10 (k23 (l1, l2, τ)) τ 23 [(0, .ref q0), (1, .int l1), (2, .int l2)] []) (l1 : Int32) (l2 : Int32) (σ : Ms) : VF (K10_canBe) cX10_canBe RX10 (F10_canBe_b23B N q0 k23 l1 l2 σ) σ 23 [(0, .ref q0), (1, .int l1), (2, .int l2)] [] := by
  unfold F10_canBe_b23B
  refine v_iload_n d10_canBe_23 2 rfl rfl ?_
  refine v_bipush d10_canBe_24 kb_20 ?_
  refine v_icmp_ge (tgt := 53) d10_canBe_26 (by decide) ?_ ?_
  · refine v_iconst d10_canBe_53 ki_1 ?_
    exact v_iret (ty := .boolean) d10_canBe_54 rfl rfl rfl
  · refine v_iload_n d10_canBe_29 1 rfl rfl ?_
    refine v_iload_n d10_canBe_30 2 rfl rfl ?_
    refine v_callN2i d10_canBe_31 (mc11_isIn l1 l2 σ) ys11_isIn neX10_29 (by decide) (Nat.le_of_ble_eq_true rfl) fun r1 t2 => ?_
    refine v_if_eq (tgt := 47) d10_canBe_34 (by decide) ?_ ?_
    · exact v10_canBe_b47 N q0 hq0 k23 hk23 l1 l2 t2
    · refine v_aload_n d10_canBe_37 0 rfl rfl ?_
      refine v_iload_n d10_canBe_38 2 rfl rfl ?_
      refine v_callV1i d10_canBe_39 (mc0_hasWorth q0 hq0 l2 t2) yv0_hasWorth mlX10_33 (Recv.obj hq0 rfl) (by decide) (Nat.le_of_ble_eq_true rfl) fun r3 t4 => ?_
      refine v_if_ne (tgt := 47) d10_canBe_42 (by decide) ?_ ?_
      · exact v10_canBe_b47 N q0 hq0 k23 hk23 l1 l2 t4
      · refine v_iconst d10_canBe_45 ki_0 ?_
        exact v_iret (ty := .boolean) d10_canBe_46 rfl rfl rfl
theorem v10_canBe_b23 (N : Nat) (q0 : Nat) (hq0 : IsC q0 (0, 0, 0)) (l1 : Int32) (l2 : Int32) (σ : Ms) : VF (K10_canBe) cX10_canBe RX10 (F10_canBe_b23 N q0 l1 l2 σ) σ 23 [(0, .ref q0), (1, .int l1), (2, .int l2)] [] := v_fx (σo := fun x => x.2.2) (lo := fun x => [(0, .ref q0), (1, .int x.1), (2, .int x.2.1)]) (fun k hk x => v10_canBe_b23B N q0 hq0 k (fun l1 l2 τ => hk (l1, l2, τ)) x.1 x.2.1 x.2.2) N (l1, l2, σ)
set_option maxRecDepth 100000 in
theorem mc10_canBe (N : Nat) (q0 : Nat) (hq0 : IsC q0 (0, 0, 0)) (p1 : Int32) (σ : Ms) : MC enI yX10_canBe cX10_canBe 3 (some .boolean) 4 (F10_canBe N q0 p1 σ) σ [.ref q0, .int p1] := by
  refine MC.i (by decide +kernel) (Nat.le_of_ble_eq_true rfl) ?_
  show VF (K10_canBe) cX10_canBe RX10 (F10_canBe N q0 p1 σ) σ 0 [(0, .ref q0), (1, .int p1)] []
  unfold F10_canBe
  refine v_iload_n d10_canBe_0 1 rfl rfl ?_
  refine v_if_lt (tgt := 19) d10_canBe_1 (by decide) ?_ ?_
  · refine v_iconst d10_canBe_19 ki_0 ?_
    exact v_iret (ty := .boolean) d10_canBe_20 rfl rfl rfl
  · refine v_iload_n d10_canBe_4 1 rfl rfl ?_
    refine v_ldc d10_canBe_5 kcX10_22 ?_
    refine v_icmp_ge (tgt := 19) d10_canBe_7 (by decide) ?_ ?_
    · refine v_iconst d10_canBe_19 ki_0 ?_
      exact v_iret (ty := .boolean) d10_canBe_20 rfl rfl rfl
    · refine v_iload_n d10_canBe_10 1 rfl rfl ?_
      refine v_callS1i d10_canBe_11 (mcJ6_bitCount_0f7a4 p1 σ) ysJ6_bitCount_0f7a4 mlX10_23 (by decide) (Nat.le_of_ble_eq_true rfl) fun r5 t6 => ?_
      refine v_bipush d10_canBe_14 kb_10 ?_
      refine v_icmp_le (tgt := 21) d10_canBe_16 (by decide) ?_ ?_
      · refine v_iconst d10_canBe_21 ki_0 ?_
        refine v_istore_n (lv' := [(2, .int (0 : Int32)), (0, .ref q0), (1, .int p1)]) d10_canBe_22 rfl (by decide) rfl ?_
        refine v_sub [1, 2, 0] rfl ?_
        exact v10_canBe_b23 N q0 hq0 p1 (0 : Int32) t6
      · refine v_iconst d10_canBe_19 ki_0 ?_
        exact v_iret (ty := .boolean) d10_canBe_20 rfl rfl rfl
theorem d10_colourAll_0 : decode cX10_colourAll 0 = .ok (.iconst 0, 1) := by decide +kernel
theorem d10_colourAll_1 : decode cX10_colourAll 1 = .ok (.istore_n 3, 1) := by decide +kernel
theorem d10_colourAll_2 : decode cX10_colourAll 2 = .ok (.iload_n 3, 1) := by decide +kernel
theorem d10_colourAll_3 : decode cX10_colourAll 3 = .ok (.bipush 20, 2) := by decide +kernel
theorem d10_colourAll_5 : decode cX10_colourAll 5 = .ok (.if_icmp .ge 36, 3) := by decide +kernel
theorem d10_colourAll_8 : decode cX10_colourAll 8 = .ok (.iload_n 1, 1) := by decide +kernel
theorem d10_colourAll_9 : decode cX10_colourAll 9 = .ok (.iload_n 3, 1) := by decide +kernel
theorem d10_colourAll_10 : decode cX10_colourAll 10 = .ok (.invokestatic 29, 3) := by decide +kernel
theorem d10_colourAll_13 : decode cX10_colourAll 13 = .ok (.ifCond .eq 22, 3) := by decide +kernel
theorem d10_colourAll_16 : decode cX10_colourAll 16 = .ok (.aload_n 0, 1) := by decide +kernel
theorem d10_colourAll_17 : decode cX10_colourAll 17 = .ok (.getfield 54, 3) := by decide +kernel
theorem d10_colourAll_20 : decode cX10_colourAll 20 = .ok (.iload_n 3, 1) := by decide +kernel
theorem d10_colourAll_21 : decode cX10_colourAll 21 = .ok (.iload_n 2, 1) := by decide +kernel
theorem d10_colourAll_22 : decode cX10_colourAll 22 = .ok (.iload_n 3, 1) := by decide +kernel
theorem d10_colourAll_23 : decode cX10_colourAll 23 = .ok (.invokestatic 29, 3) := by decide +kernel
theorem d10_colourAll_26 : decode cX10_colourAll 26 = .ok (.ifCond .eq 7, 3) := by decide +kernel
theorem d10_colourAll_29 : decode cX10_colourAll 29 = .ok (.iconst 1, 1) := by decide +kernel
theorem d10_colourAll_30 : decode cX10_colourAll 30 = .ok (.goto 4, 3) := by decide +kernel
theorem d10_colourAll_33 : decode cX10_colourAll 33 = .ok (.iconst 0, 1) := by decide +kernel
theorem d10_colourAll_34 : decode cX10_colourAll 34 = .ok (.iastore, 1) := by decide +kernel
theorem d10_colourAll_35 : decode cX10_colourAll 35 = .ok (.iinc 3 1, 3) := by decide +kernel
theorem d10_colourAll_38 : decode cX10_colourAll 38 = .ok (.goto (-36), 3) := by decide +kernel
theorem d10_colourAll_41 : decode cX10_colourAll 41 = .ok (.return_, 1) := by decide +kernel
abbrev K10_colourAll : CK Unit := (enV, none, 4, 2, none)
noncomputable def F10_colourAll_b35 (N : Nat) (q0 : Nat) (k2 : Int32 × Int32 × Int32 × Ms → Option (Unit × Ms)) (l1 : Int32) (l2 : Int32) (l3 : Int32) (σ : Ms) : Option (Unit × Ms) :=
  k2 (l1, l2, (l3 + (1 : Int32)), σ)
noncomputable def F10_colourAll_b34 (N : Nat) (q0 : Nat) (k2 : Int32 × Int32 × Int32 × Ms → Option (Unit × Ms)) (l1 : Int32) (l2 : Int32) (l3 : Int32) (s1 : Int32) (s2 : Int32) (σ : Ms) : Option (Unit × Ms) :=
  ck (ixb s1 20) (lt (sI σ (q0 + 1) s1.toNatClampNeg s2) (fun t1 => F10_colourAll_b35 N q0 k2 l1 l2 l3 t1))
noncomputable def F10_colourAll_b2B (N : Nat) (q0 : Nat) (k2 : Int32 × Int32 × Int32 × Ms → Option (Unit × Ms)) (l1 : Int32) (l2 : Int32) (l3 : Int32) (σ : Ms) : Option (Unit × Ms) :=
  if (20 : Int32) ≤ l3 then (some ((), σ))
  else (bn (F11_isIn l1 l3 σ) (fun r2 t3 => if r2 = 0 then (F10_colourAll_b35 N q0 k2 l1 l2 l3 t3)
  else (bn (F11_isIn l2 l3 t3) (fun r4 t5 => if r4 = 0 then (F10_colourAll_b34 N q0 k2 l1 l2 l3 l3 (0 : Int32) t5)
  else (F10_colourAll_b34 N q0 k2 l1 l2 l3 l3 (1 : Int32) t5)))))
noncomputable def F10_colourAll_b2 (N : Nat) (q0 : Nat) (l1 : Int32) (l2 : Int32) (l3 : Int32) (σ : Ms) : Option (Unit × Ms) :=
  fx N (fun k x => F10_colourAll_b2B N q0 k x.1 x.2.1 x.2.2.1 x.2.2.2) (l1, l2, l3, σ)
noncomputable def F10_colourAll (N : Nat) (q0 : Nat) (p1 : Int32) (p2 : Int32) (σ : Ms) : Option (Unit × Ms) :=
  F10_colourAll_b2 N q0 p1 p2 (0 : Int32) σ
set_option maxRecDepth 100000 in
theorem v10_colourAll_b35 (N : Nat) (q0 : Nat) (hq0 : IsC q0 (0, 0, 0)) (k2 : Int32 × Int32 × Int32 × Ms → Option (Unit × Ms)) (hk2 : ∀ (l1 : Int32) (l2 : Int32) (l3 : Int32) (τ : Ms), VF (K10_colourAll) cX10_colourAll RX10 (k2 (l1, l2, l3, τ)) τ 2 [(0, .ref q0), (1, .int l1), (2, .int l2), (3, .int l3)] []) (l1 : Int32) (l2 : Int32) (l3 : Int32) (σ : Ms) : VF (K10_colourAll) cX10_colourAll RX10 (F10_colourAll_b35 N q0 k2 l1 l2 l3 σ) σ 35 [(0, .ref q0), (1, .int l1), (2, .int l2), (3, .int l3)] [] := by
  unfold F10_colourAll_b35
  refine v_iinc (lv' := [(3, .int (l3 + (1 : Int32))), (0, .ref q0), (1, .int l1), (2, .int l2)]) d10_colourAll_35 3 rfl (by rw [ki_1]) (by decide) rfl ?_
  refine v_goto (tgt := 2) d10_colourAll_38 (by decide) ?_
  refine v_sub [1, 2, 3, 0] rfl ?_
  exact hk2 l1 l2 (l3 + (1 : Int32)) σ
set_option maxRecDepth 100000 in
theorem v10_colourAll_b34 (N : Nat) (q0 : Nat) (hq0 : IsC q0 (0, 0, 0)) (k2 : Int32 × Int32 × Int32 × Ms → Option (Unit × Ms)) (hk2 : ∀ (l1 : Int32) (l2 : Int32) (l3 : Int32) (τ : Ms), VF (K10_colourAll) cX10_colourAll RX10 (k2 (l1, l2, l3, τ)) τ 2 [(0, .ref q0), (1, .int l1), (2, .int l2), (3, .int l3)] []) (l1 : Int32) (l2 : Int32) (l3 : Int32) (s1 : Int32) (s2 : Int32) (σ : Ms) : VF (K10_colourAll) cX10_colourAll RX10 (F10_colourAll_b34 N q0 k2 l1 l2 l3 s1 s2 σ) σ 34 [(0, .ref q0), (1, .int l1), (2, .int l2), (3, .int l3)] [.int s2, .int s1, .ref (q0 + 1)] := by
  unfold F10_colourAll_b34
  refine v_iast d10_colourAll_34 (ih0_1 hq0) ?_
  refine v_lts fun t1 => ?_
  exact v10_colourAll_b35 N q0 hq0 k2 hk2 l1 l2 l3 t1
set_option maxRecDepth 100000 in
theorem v10_colourAll_b2B (N : Nat) (q0 : Nat) (hq0 : IsC q0 (0, 0, 0)) (k2 : Int32 × Int32 × Int32 × Ms → Option (Unit × Ms)) (hk2 : ∀ (l1 : Int32) (l2 : Int32) (l3 : Int32) (τ : Ms), VF (K10_colourAll) cX10_colourAll RX10 (k2 (l1, l2, l3, τ)) τ 2 [(0, .ref q0), (1, .int l1), (2, .int l2), (3, .int l3)] []) (l1 : Int32) (l2 : Int32) (l3 : Int32) (σ : Ms) : VF (K10_colourAll) cX10_colourAll RX10 (F10_colourAll_b2B N q0 k2 l1 l2 l3 σ) σ 2 [(0, .ref q0), (1, .int l1), (2, .int l2), (3, .int l3)] [] := by
  unfold F10_colourAll_b2B
  refine v_iload_n d10_colourAll_2 3 rfl rfl ?_
  refine v_bipush d10_colourAll_3 kb_20 ?_
  refine v_icmp_ge (tgt := 41) d10_colourAll_5 (by decide) ?_ ?_
  · exact v_vret d10_colourAll_41 rfl
  · refine v_iload_n d10_colourAll_8 1 rfl rfl ?_
    refine v_iload_n d10_colourAll_9 3 rfl rfl ?_
    refine v_callN2i d10_colourAll_10 (mc11_isIn l1 l3 σ) ys11_isIn neX10_29 (by decide) (Nat.le_of_ble_eq_true rfl) fun r2 t3 => ?_
    refine v_if_eq (tgt := 35) d10_colourAll_13 (by decide) ?_ ?_
    · exact v10_colourAll_b35 N q0 hq0 k2 hk2 l1 l2 l3 t3
    · refine v_aload_n d10_colourAll_16 0 rfl rfl ?_
      refine v_getR d10_colourAll_17 faX10_54 hq0 rfl ?_
      refine v_iload_n d10_colourAll_20 3 rfl rfl ?_
      refine v_iload_n d10_colourAll_21 2 rfl rfl ?_
      refine v_iload_n d10_colourAll_22 3 rfl rfl ?_
      refine v_callN2i d10_colourAll_23 (mc11_isIn l2 l3 t3) ys11_isIn neX10_29 (by decide) (Nat.le_of_ble_eq_true rfl) fun r4 t5 => ?_
      refine v_if_eq (tgt := 33) d10_colourAll_26 (by decide) ?_ ?_
      · refine v_iconst d10_colourAll_33 ki_0 ?_
        exact v10_colourAll_b34 N q0 hq0 k2 hk2 l1 l2 l3 l3 (0 : Int32) t5
      · refine v_iconst d10_colourAll_29 ki_1 ?_
        refine v_goto (tgt := 34) d10_colourAll_30 (by decide) ?_
        exact v10_colourAll_b34 N q0 hq0 k2 hk2 l1 l2 l3 l3 (1 : Int32) t5
theorem v10_colourAll_b2 (N : Nat) (q0 : Nat) (hq0 : IsC q0 (0, 0, 0)) (l1 : Int32) (l2 : Int32) (l3 : Int32) (σ : Ms) : VF (K10_colourAll) cX10_colourAll RX10 (F10_colourAll_b2 N q0 l1 l2 l3 σ) σ 2 [(0, .ref q0), (1, .int l1), (2, .int l2), (3, .int l3)] [] := v_fx (σo := fun x => x.2.2.2) (lo := fun x => [(0, .ref q0), (1, .int x.1), (2, .int x.2.1), (3, .int x.2.2.1)]) (fun k hk x => v10_colourAll_b2B N q0 hq0 k (fun l1 l2 l3 τ => hk (l1, l2, l3, τ)) x.1 x.2.1 x.2.2.1 x.2.2.2) N (l1, l2, l3, σ)
set_option maxRecDepth 100000 in
theorem mc10_colourAll (N : Nat) (q0 : Nat) (hq0 : IsC q0 (0, 0, 0)) (p1 : Int32) (p2 : Int32) (σ : Ms) : MC enV yX10_colourAll cX10_colourAll 4 none 2 (F10_colourAll N q0 p1 p2 σ) σ [.ref q0, .int p1, .int p2] := by
  refine MC.v (by decide +kernel) (Nat.le_of_ble_eq_true rfl) ?_
  show VF (K10_colourAll) cX10_colourAll RX10 (F10_colourAll N q0 p1 p2 σ) σ 0 [(0, .ref q0), (1, .int p1), (2, .int p2)] []
  unfold F10_colourAll
  refine v_iconst d10_colourAll_0 ki_0 ?_
  refine v_istore_n (lv' := [(3, .int (0 : Int32)), (0, .ref q0), (1, .int p1), (2, .int p2)]) d10_colourAll_1 rfl (by decide) rfl ?_
  refine v_sub [1, 2, 3, 0] rfl ?_
  exact v10_colourAll_b2 N q0 hq0 p1 p2 (0 : Int32) σ
theorem d10_count_0 : decode cX10_count 0 = .ok (.aload_n 0, 1) := by decide +kernel
theorem d10_count_1 : decode cX10_count 1 = .ok (.getfield 9, 3) := by decide +kernel
theorem d10_count_4 : decode cX10_count 4 = .ok (.ifCond .ne 8, 3) := by decide +kernel
theorem d10_count_7 : decode cX10_count 7 = .ok (.aload_n 0, 1) := by decide +kernel
theorem d10_count_8 : decode cX10_count 8 = .ok (.iload_n 2, 1) := by decide +kernel
theorem d10_count_9 : decode cX10_count 9 = .ok (.putfield 15, 3) := by decide +kernel
theorem d10_count_12 : decode cX10_count 12 = .ok (.aload_n 0, 1) := by decide +kernel
theorem d10_count_13 : decode cX10_count 13 = .ok (.dup, 1) := by decide +kernel
theorem d10_count_14 : decode cX10_count 14 = .ok (.getfield 9, 3) := by decide +kernel
theorem d10_count_17 : decode cX10_count 17 = .ok (.iconst 1, 1) := by decide +kernel
theorem d10_count_18 : decode cX10_count 18 = .ok (.iadd, 1) := by decide +kernel
theorem d10_count_19 : decode cX10_count 19 = .ok (.putfield 9, 3) := by decide +kernel
theorem d10_count_22 : decode cX10_count 22 = .ok (.iconst 0, 1) := by decide +kernel
theorem d10_count_23 : decode cX10_count 23 = .ok (.istore_n 3, 1) := by decide +kernel
theorem d10_count_24 : decode cX10_count 24 = .ok (.iload_n 3, 1) := by decide +kernel
theorem d10_count_25 : decode cX10_count 25 = .ok (.bipush 20, 2) := by decide +kernel
theorem d10_count_27 : decode cX10_count 27 = .ok (.if_icmp .ge 31, 3) := by decide +kernel
theorem d10_count_30 : decode cX10_count 30 = .ok (.iload_n 1, 1) := by decide +kernel
theorem d10_count_31 : decode cX10_count 31 = .ok (.iload_n 2, 1) := by decide +kernel
theorem d10_count_32 : decode cX10_count 32 = .ok (.iconst (-1), 1) := by decide +kernel
theorem d10_count_33 : decode cX10_count 33 = .ok (.ixor, 1) := by decide +kernel
theorem d10_count_34 : decode cX10_count 34 = .ok (.iand, 1) := by decide +kernel
theorem d10_count_35 : decode cX10_count 35 = .ok (.iload_n 3, 1) := by decide +kernel
theorem d10_count_36 : decode cX10_count 36 = .ok (.invokestatic 29, 3) := by decide +kernel
theorem d10_count_39 : decode cX10_count 39 = .ok (.ifCond .eq 13, 3) := by decide +kernel
theorem d10_count_42 : decode cX10_count 42 = .ok (.aload_n 0, 1) := by decide +kernel
theorem d10_count_43 : decode cX10_count 43 = .ok (.getfield 18, 3) := by decide +kernel
theorem d10_count_46 : decode cX10_count 46 = .ok (.iload_n 3, 1) := by decide +kernel
theorem d10_count_47 : decode cX10_count 47 = .ok (.dup2, 1) := by decide +kernel
theorem d10_count_48 : decode cX10_count 48 = .ok (.iaload, 1) := by decide +kernel
theorem d10_count_49 : decode cX10_count 49 = .ok (.iconst 1, 1) := by decide +kernel
theorem d10_count_50 : decode cX10_count 50 = .ok (.iadd, 1) := by decide +kernel
theorem d10_count_51 : decode cX10_count 51 = .ok (.iastore, 1) := by decide +kernel
theorem d10_count_52 : decode cX10_count 52 = .ok (.iinc 3 1, 3) := by decide +kernel
theorem d10_count_55 : decode cX10_count 55 = .ok (.goto (-31), 3) := by decide +kernel
theorem d10_count_58 : decode cX10_count 58 = .ok (.return_, 1) := by decide +kernel
abbrev K10_count : CK Unit := (enV, none, 4, 2, none)
noncomputable def F10_count_b52 (N : Nat) (k24 : Int32 × Int32 × Int32 × Ms → Option (Unit × Ms)) (l1 : Int32) (l2 : Int32) (l3 : Int32) (σ : Ms) : Option (Unit × Ms) :=
  k24 (l1, l2, (l3 + (1 : Int32)), σ)
noncomputable def F10_count_b24B (N : Nat) (k24 : Int32 × Int32 × Int32 × Ms → Option (Unit × Ms)) (l1 : Int32) (l2 : Int32) (l3 : Int32) (σ : Ms) : Option (Unit × Ms) :=
  if (20 : Int32) ≤ l3 then (some ((), σ))
  else (bn (F11_isIn (l1 &&& (l2 ^^^ (-1 : Int32))) l3 σ) (fun r1 t2 => if r1 = 0 then (F10_count_b52 N k24 l1 l2 l3 t2)
  else (ck (ixb l3 20) (ck (ixb l3 20) (lt (sI t2 101 l3.toNatClampNeg ((t2.1 101 l3.toNatClampNeg) + (1 : Int32))) (fun t3 => F10_count_b52 N k24 l1 l2 l3 t3))))))
noncomputable def F10_count_b24 (N : Nat) (l1 : Int32) (l2 : Int32) (l3 : Int32) (σ : Ms) : Option (Unit × Ms) :=
  fx N (fun k x => F10_count_b24B N k x.1 x.2.1 x.2.2.1 x.2.2.2) (l1, l2, l3, σ)
noncomputable def F10_count_b12 (N : Nat) (l1 : Int32) (l2 : Int32) (σ : Ms) : Option (Unit × Ms) :=
  lt (sI σ 100 0 ((σ.1 100 0) + (1 : Int32))) (fun t4 => F10_count_b24 N l1 l2 (0 : Int32) t4)
noncomputable def F10_count (N : Nat) (p0 : Int32) (p1 : Int32) (σ : Ms) : Option (Unit × Ms) :=
  if (σ.1 100 0) ≠ 0 then (F10_count_b12 N p0 p1 σ)
  else (lt (sI σ 100 1 p1) (fun t5 => F10_count_b12 N p0 p1 t5))
set_option maxRecDepth 100000 in
theorem v10_count_b52 (N : Nat) (k24 : Int32 × Int32 × Int32 × Ms → Option (Unit × Ms)) (hk24 : ∀ (l1 : Int32) (l2 : Int32) (l3 : Int32) (τ : Ms), VF (K10_count) cX10_count RX10 (k24 (l1, l2, l3, τ)) τ 24 [(0, .ref 100), (1, .int l1), (2, .int l2), (3, .int l3)] []) (l1 : Int32) (l2 : Int32) (l3 : Int32) (σ : Ms) : VF (K10_count) cX10_count RX10 (F10_count_b52 N k24 l1 l2 l3 σ) σ 52 [(0, .ref 100), (1, .int l1), (2, .int l2), (3, .int l3)] [] := by
  unfold F10_count_b52
  refine v_iinc (lv' := [(3, .int (l3 + (1 : Int32))), (0, .ref 100), (1, .int l1), (2, .int l2)]) d10_count_52 3 rfl (by rw [ki_1]) (by decide) rfl ?_
  refine v_goto (tgt := 24) d10_count_55 (by decide) ?_
  refine v_sub [1, 2, 3, 0] rfl ?_
  exact hk24 l1 l2 (l3 + (1 : Int32)) σ
set_option maxRecDepth 100000 in
theorem v10_count_b24B (N : Nat) (k24 : Int32 × Int32 × Int32 × Ms → Option (Unit × Ms)) (hk24 : ∀ (l1 : Int32) (l2 : Int32) (l3 : Int32) (τ : Ms), VF (K10_count) cX10_count RX10 (k24 (l1, l2, l3, τ)) τ 24 [(0, .ref 100), (1, .int l1), (2, .int l2), (3, .int l3)] []) (l1 : Int32) (l2 : Int32) (l3 : Int32) (σ : Ms) : VF (K10_count) cX10_count RX10 (F10_count_b24B N k24 l1 l2 l3 σ) σ 24 [(0, .ref 100), (1, .int l1), (2, .int l2), (3, .int l3)] [] := by
  unfold F10_count_b24B
  refine v_iload_n d10_count_24 3 rfl rfl ?_
  refine v_bipush d10_count_25 kb_20 ?_
  refine v_icmp_ge (tgt := 58) d10_count_27 (by decide) ?_ ?_
  · exact v_vret d10_count_58 rfl
  · refine v_iload_n d10_count_30 1 rfl rfl ?_
    refine v_iload_n d10_count_31 2 rfl rfl ?_
    refine v_iconst d10_count_32 ki_m1 ?_
    refine v_ixor d10_count_33 ?_
    refine v_iand d10_count_34 ?_
    refine v_iload_n d10_count_35 3 rfl rfl ?_
    refine v_callN2i d10_count_36 (mc11_isIn (l1 &&& (l2 ^^^ (-1 : Int32))) l3 σ) ys11_isIn neX10_29 (by decide) (Nat.le_of_ble_eq_true rfl) fun r1 t2 => ?_
    refine v_if_eq (tgt := 52) d10_count_39 (by decide) ?_ ?_
    · exact v10_count_b52 N k24 hk24 l1 l2 l3 t2
    · refine v_aload_n d10_count_42 0 rfl rfl ?_
      refine v_getR d10_count_43 faX10_18 ic_100 rfl ?_
      refine v_iload_n d10_count_46 3 rfl rfl ?_
      refine v_dup2_11 d10_count_47 rfl rfl ?_
      refine v_iald d10_count_48 ic_101 ?_
      refine v_iconst d10_count_49 ki_1 ?_
      refine v_iadd d10_count_50 ?_
      refine v_iast d10_count_51 ic_101 ?_
      refine v_lts fun t3 => ?_
      exact v10_count_b52 N k24 hk24 l1 l2 l3 t3
theorem v10_count_b24 (N : Nat) (l1 : Int32) (l2 : Int32) (l3 : Int32) (σ : Ms) : VF (K10_count) cX10_count RX10 (F10_count_b24 N l1 l2 l3 σ) σ 24 [(0, .ref 100), (1, .int l1), (2, .int l2), (3, .int l3)] [] := v_fx (σo := fun x => x.2.2.2) (lo := fun x => [(0, .ref 100), (1, .int x.1), (2, .int x.2.1), (3, .int x.2.2.1)]) (fun k hk x => v10_count_b24B N k (fun l1 l2 l3 τ => hk (l1, l2, l3, τ)) x.1 x.2.1 x.2.2.1 x.2.2.2) N (l1, l2, l3, σ)
set_option maxRecDepth 100000 in
theorem v10_count_b12 (N : Nat) (l1 : Int32) (l2 : Int32) (σ : Ms) : VF (K10_count) cX10_count RX10 (F10_count_b12 N l1 l2 σ) σ 12 [(0, .ref 100), (1, .int l1), (2, .int l2)] [] := by
  unfold F10_count_b12
  refine v_aload_n d10_count_12 0 rfl rfl ?_
  refine v_dup d10_count_13 rfl ?_
  refine v_getI d10_count_14 faX10_9 ic_100 ?_
  refine v_iconst d10_count_17 ki_1 ?_
  refine v_iadd d10_count_18 ?_
  refine v_putI d10_count_19 faX10_9 fp7_0 ic_100 ?_
  refine v_lts fun t4 => ?_
  refine v_iconst d10_count_22 ki_0 ?_
  refine v_istore_n (lv' := [(3, .int (0 : Int32)), (0, .ref 100), (1, .int l1), (2, .int l2)]) d10_count_23 rfl (by decide) rfl ?_
  refine v_sub [1, 2, 3, 0] rfl ?_
  exact v10_count_b24 N l1 l2 (0 : Int32) t4
set_option maxRecDepth 100000 in
theorem mc10_count (N : Nat) (p0 : Int32) (p1 : Int32) (σ : Ms) : MC enV yX10_count cX10_count 4 none 2 (F10_count N p0 p1 σ) σ [.ref 100, .int p0, .int p1] := by
  refine MC.v (by decide +kernel) (Nat.le_of_ble_eq_true rfl) ?_
  show VF (K10_count) cX10_count RX10 (F10_count N p0 p1 σ) σ 0 [(0, .ref 100), (1, .int p0), (2, .int p1)] []
  unfold F10_count
  refine v_aload_n d10_count_0 0 rfl rfl ?_
  refine v_getI d10_count_1 faX10_9 ic_100 ?_
  refine v_if_ne (tgt := 12) d10_count_4 (by decide) ?_ ?_
  · exact v10_count_b12 N p0 p1 σ
  · refine v_aload_n d10_count_7 0 rfl rfl ?_
    refine v_iload_n d10_count_8 2 rfl rfl ?_
    refine v_putI d10_count_9 faX10_15 fp7_1 ic_100 ?_
    refine v_lts fun t5 => ?_
    exact v10_count_b12 N p0 p1 t5
theorem d10_find_0 : decode cX10_find 0 = .ok (.aload_n 0, 1) := by decide +kernel
theorem d10_find_1 : decode cX10_find 1 = .ok (.iconst 0, 1) := by decide +kernel
theorem d10_find_2 : decode cX10_find 2 = .ok (.putfield 9, 3) := by decide +kernel
theorem d10_find_5 : decode cX10_find 5 = .ok (.aload_n 0, 1) := by decide +kernel
theorem d10_find_6 : decode cX10_find 6 = .ok (.iconst 0, 1) := by decide +kernel
theorem d10_find_7 : decode cX10_find 7 = .ok (.putfield 15, 3) := by decide +kernel
theorem d10_find_10 : decode cX10_find 10 = .ok (.iconst 0, 1) := by decide +kernel
theorem d10_find_11 : decode cX10_find 11 = .ok (.istore 5, 2) := by decide +kernel
theorem d10_find_13 : decode cX10_find 13 = .ok (.iload 5, 2) := by decide +kernel
theorem d10_find_15 : decode cX10_find 15 = .ok (.bipush 20, 2) := by decide +kernel
theorem d10_find_17 : decode cX10_find 17 = .ok (.if_icmp .ge 17, 3) := by decide +kernel
theorem d10_find_20 : decode cX10_find 20 = .ok (.aload_n 0, 1) := by decide +kernel
theorem d10_find_21 : decode cX10_find 21 = .ok (.getfield 18, 3) := by decide +kernel
theorem d10_find_24 : decode cX10_find 24 = .ok (.iload 5, 2) := by decide +kernel
theorem d10_find_26 : decode cX10_find 26 = .ok (.iconst 0, 1) := by decide +kernel
theorem d10_find_27 : decode cX10_find 27 = .ok (.iastore, 1) := by decide +kernel
theorem d10_find_28 : decode cX10_find 28 = .ok (.iinc 5 1, 3) := by decide +kernel
theorem d10_find_31 : decode cX10_find 31 = .ok (.goto (-18), 3) := by decide +kernel
theorem d10_find_34 : decode cX10_find 34 = .ok (.iconst 0, 1) := by decide +kernel
theorem d10_find_35 : decode cX10_find 35 = .ok (.istore 5, 2) := by decide +kernel
theorem d10_find_37 : decode cX10_find 37 = .ok (.iconst 0, 1) := by decide +kernel
theorem d10_find_38 : decode cX10_find 38 = .ok (.istore 6, 2) := by decide +kernel
theorem d10_find_40 : decode cX10_find 40 = .ok (.iload 6, 2) := by decide +kernel
theorem d10_find_42 : decode cX10_find 42 = .ok (.sipush 1024, 3) := by decide +kernel
theorem d10_find_45 : decode cX10_find 45 = .ok (.if_icmp .ge 52, 3) := by decide +kernel
theorem d10_find_48 : decode cX10_find 48 = .ok (.aload_n 1, 1) := by decide +kernel
theorem d10_find_49 : decode cX10_find 49 = .ok (.iload_n 2, 1) := by decide +kernel
theorem d10_find_50 : decode cX10_find 50 = .ok (.iload 5, 2) := by decide +kernel
theorem d10_find_52 : decode cX10_find 52 = .ok (.invokestatic 39, 3) := by decide +kernel
theorem d10_find_55 : decode cX10_find 55 = .ok (.aload_n 1, 1) := by decide +kernel
theorem d10_find_56 : decode cX10_find 56 = .ok (.aload_n 1, 1) := by decide +kernel
theorem d10_find_57 : decode cX10_find 57 = .ok (.getfield 43, 3) := by decide +kernel
theorem d10_find_60 : decode cX10_find 60 = .ok (.invokevirtual 46, 3) := by decide +kernel
theorem d10_find_63 : decode cX10_find 63 = .ok (.lload_n 3, 1) := by decide +kernel
theorem d10_find_64 : decode cX10_find 64 = .ok (.lcmp, 1) := by decide +kernel
theorem d10_find_65 : decode cX10_find 65 = .ok (.ifCond .ne 10, 3) := by decide +kernel
theorem d10_find_68 : decode cX10_find 68 = .ok (.aload_n 0, 1) := by decide +kernel
theorem d10_find_69 : decode cX10_find 69 = .ok (.iload_n 2, 1) := by decide +kernel
theorem d10_find_70 : decode cX10_find 70 = .ok (.iload 5, 2) := by decide +kernel
theorem d10_find_72 : decode cX10_find 72 = .ok (.invokevirtual 50, 3) := by decide +kernel
theorem d10_find_75 : decode cX10_find 75 = .ok (.iload 5, 2) := by decide +kernel
theorem d10_find_77 : decode cX10_find 77 = .ok (.iload_n 2, 1) := by decide +kernel
theorem d10_find_78 : decode cX10_find 78 = .ok (.isub, 1) := by decide +kernel
theorem d10_find_79 : decode cX10_find 79 = .ok (.iload_n 2, 1) := by decide +kernel
theorem d10_find_80 : decode cX10_find 80 = .ok (.iand, 1) := by decide +kernel
theorem d10_find_81 : decode cX10_find 81 = .ok (.istore 5, 2) := by decide +kernel
theorem d10_find_83 : decode cX10_find 83 = .ok (.iload 5, 2) := by decide +kernel
theorem d10_find_85 : decode cX10_find 85 = .ok (.ifCond .ne 6, 3) := by decide +kernel
theorem d10_find_88 : decode cX10_find 88 = .ok (.goto 9, 3) := by decide +kernel
theorem d10_find_91 : decode cX10_find 91 = .ok (.iinc 6 1, 3) := by decide +kernel
theorem d10_find_94 : decode cX10_find 94 = .ok (.goto (-54), 3) := by decide +kernel
theorem d10_find_97 : decode cX10_find 97 = .ok (.return_, 1) := by decide +kernel
abbrev K10_find : CK Unit := (enV, none, 7, 3, none)
noncomputable def F10_find_b75 (N : Nat) (q0 : Nat) (k40 : Int32 × Int64 × Int32 × Int32 × Ms → Option (Unit × Ms)) (l2 : Int32) (l3 : Int64) (l5 : Int32) (l6 : Int32) (σ : Ms) : Option (Unit × Ms) :=
  lt ((l5 - l2) &&& l2) (fun x1 => if x1 ≠ 0 then (k40 (l2, l3, x1, (l6 + (1 : Int32)), σ))
  else (some ((), σ)))
noncomputable def F10_find_b40B (N : Nat) (q0 : Nat) (k40 : Int32 × Int64 × Int32 × Int32 × Ms → Option (Unit × Ms)) (l2 : Int32) (l3 : Int64) (l5 : Int32) (l6 : Int32) (σ : Ms) : Option (Unit × Ms) :=
  if (1024 : Int32) ≤ l6 then (some ((), σ))
  else (bn (F10_colourAll N q0 l2 l5 σ) (fun r2 t3 => bn (F0_worthWith N q0 (t3.1 q0 6) t3) (fun r4 t5 => if (lg_cmp r4 l3) ≠ 0 then (F10_find_b75 N q0 k40 l2 l3 l5 l6 t5)
  else (bn (F10_count N l2 l5 t5) (fun r6 t7 => F10_find_b75 N q0 k40 l2 l3 l5 l6 t7)))))
noncomputable def F10_find_b40 (N : Nat) (q0 : Nat) (l2 : Int32) (l3 : Int64) (l5 : Int32) (l6 : Int32) (σ : Ms) : Option (Unit × Ms) :=
  fx N (fun k x => F10_find_b40B N q0 k x.1 x.2.1 x.2.2.1 x.2.2.2.1 x.2.2.2.2) (l2, l3, l5, l6, σ)
noncomputable def F10_find_b13B (N : Nat) (q0 : Nat) (k13 : Int32 × Int64 × Int32 × Ms → Option (Unit × Ms)) (l2 : Int32) (l3 : Int64) (l5 : Int32) (σ : Ms) : Option (Unit × Ms) :=
  if (20 : Int32) ≤ l5 then (F10_find_b40 N q0 l2 l3 (0 : Int32) (0 : Int32) σ)
  else (ck (ixb l5 20) (lt (sI σ 101 l5.toNatClampNeg (0 : Int32)) (fun t8 => k13 (l2, l3, (l5 + (1 : Int32)), t8))))
noncomputable def F10_find_b13 (N : Nat) (q0 : Nat) (l2 : Int32) (l3 : Int64) (l5 : Int32) (σ : Ms) : Option (Unit × Ms) :=
  fx N (fun k x => F10_find_b13B N q0 k x.1 x.2.1 x.2.2.1 x.2.2.2) (l2, l3, l5, σ)
noncomputable def F10_find (N : Nat) (q0 : Nat) (p1 : Int32) (p2 : Int64) (σ : Ms) : Option (Unit × Ms) :=
  lt (sI σ 100 0 (0 : Int32)) (fun t9 => lt (sI t9 100 1 (0 : Int32)) (fun t10 => F10_find_b13 N q0 p1 p2 (0 : Int32) t10))
set_option maxRecDepth 100000 in
theorem v10_find_b75 (N : Nat) (q0 : Nat) (hq0 : IsC q0 (0, 0, 0)) (k40 : Int32 × Int64 × Int32 × Int32 × Ms → Option (Unit × Ms)) (hk40 : ∀ (l2 : Int32) (l3 : Int64) (l5 : Int32) (l6 : Int32) (τ : Ms), VF (K10_find) cX10_find RX10 (k40 (l2, l3, l5, l6, τ)) τ 40 [(0, .ref 100), (1, .ref q0), (2, .int l2), (3, .long l3), (5, .int l5), (6, .int l6)] []) (l2 : Int32) (l3 : Int64) (l5 : Int32) (l6 : Int32) (σ : Ms) : VF (K10_find) cX10_find RX10 (F10_find_b75 N q0 k40 l2 l3 l5 l6 σ) σ 75 [(0, .ref 100), (1, .ref q0), (2, .int l2), (3, .long l3), (5, .int l5), (6, .int l6)] [] := by
  unfold F10_find_b75
  refine v_iload d10_find_75 4 rfl ?_
  refine v_iload_n d10_find_77 2 rfl rfl ?_
  refine v_isub d10_find_78 ?_
  refine v_iload_n d10_find_79 2 rfl rfl ?_
  refine v_iand d10_find_80 ?_
  refine v_lti fun x1 => ?_
  refine v_istore (lv' := [(5, .int x1), (0, .ref 100), (1, .ref q0), (2, .int l2), (3, .long l3), (6, .int l6)]) d10_find_81 (by decide) rfl ?_
  refine v_iload d10_find_83 0 rfl ?_
  refine v_if_ne (tgt := 91) d10_find_85 (by decide) ?_ ?_
  · refine v_iinc (lv' := [(6, .int (l6 + (1 : Int32))), (5, .int x1), (0, .ref 100), (1, .ref q0), (2, .int l2), (3, .long l3)]) d10_find_91 5 rfl (by rw [ki_1]) (by decide) rfl ?_
    refine v_goto (tgt := 40) d10_find_94 (by decide) ?_
    refine v_sub [2, 3, 4, 5, 1, 0] rfl ?_
    exact hk40 l2 l3 x1 (l6 + (1 : Int32)) σ
  · refine v_goto (tgt := 97) d10_find_88 (by decide) ?_
    exact v_vret d10_find_97 rfl
set_option maxRecDepth 100000 in
theorem v10_find_b40B (N : Nat) (q0 : Nat) (hq0 : IsC q0 (0, 0, 0)) (k40 : Int32 × Int64 × Int32 × Int32 × Ms → Option (Unit × Ms)) (hk40 : ∀ (l2 : Int32) (l3 : Int64) (l5 : Int32) (l6 : Int32) (τ : Ms), VF (K10_find) cX10_find RX10 (k40 (l2, l3, l5, l6, τ)) τ 40 [(0, .ref 100), (1, .ref q0), (2, .int l2), (3, .long l3), (5, .int l5), (6, .int l6)] []) (l2 : Int32) (l3 : Int64) (l5 : Int32) (l6 : Int32) (σ : Ms) : VF (K10_find) cX10_find RX10 (F10_find_b40B N q0 k40 l2 l3 l5 l6 σ) σ 40 [(0, .ref 100), (1, .ref q0), (2, .int l2), (3, .long l3), (5, .int l5), (6, .int l6)] [] := by
  unfold F10_find_b40B
  refine v_iload d10_find_40 5 rfl ?_
  refine v_sipush d10_find_42 ks_1024 ?_
  refine v_icmp_ge (tgt := 97) d10_find_45 (by decide) ?_ ?_
  · exact v_vret d10_find_97 rfl
  · refine v_aload_n d10_find_48 1 rfl rfl ?_
    refine v_iload_n d10_find_49 2 rfl rfl ?_
    refine v_iload d10_find_50 4 rfl ?_
    refine v_callS3v d10_find_52 (mc10_colourAll N q0 hq0 l2 l5 σ) ys10_colourAll mlX10_39 (by decide) (Nat.le_of_ble_eq_true rfl) fun r2 t3 => ?_
    refine v_aload_n d10_find_55 1 rfl rfl ?_
    refine v_aload_n d10_find_56 1 rfl rfl ?_
    refine v_getI d10_find_57 faX10_43 hq0 ?_
    refine v_callV1l d10_find_60 (mc0_worthWith N q0 hq0 (t3.1 q0 6) t3) yv0_worthWith mlX10_46 (Recv.obj hq0 rfl) (by decide) (Nat.le_of_ble_eq_true rfl) fun r4 t5 => ?_
    refine v_lload_n d10_find_63 3 rfl rfl ?_
    refine v_lcmp d10_find_64 ?_
    refine v_if_ne (tgt := 75) d10_find_65 (by decide) ?_ ?_
    · exact v10_find_b75 N q0 hq0 k40 hk40 l2 l3 l5 l6 t5
    · refine v_aload_n d10_find_68 0 rfl rfl ?_
      refine v_iload_n d10_find_69 2 rfl rfl ?_
      refine v_iload d10_find_70 4 rfl ?_
      refine v_callV2v d10_find_72 (mc10_count N l2 l5 t5) yv10_count mlX10_50 (Recv.obj ic_100 rfl) (by decide) (Nat.le_of_ble_eq_true rfl) fun r6 t7 => ?_
      exact v10_find_b75 N q0 hq0 k40 hk40 l2 l3 l5 l6 t7
theorem v10_find_b40 (N : Nat) (q0 : Nat) (hq0 : IsC q0 (0, 0, 0)) (l2 : Int32) (l3 : Int64) (l5 : Int32) (l6 : Int32) (σ : Ms) : VF (K10_find) cX10_find RX10 (F10_find_b40 N q0 l2 l3 l5 l6 σ) σ 40 [(0, .ref 100), (1, .ref q0), (2, .int l2), (3, .long l3), (5, .int l5), (6, .int l6)] [] := v_fx (σo := fun x => x.2.2.2.2) (lo := fun x => [(0, .ref 100), (1, .ref q0), (2, .int x.1), (3, .long x.2.1), (5, .int x.2.2.1), (6, .int x.2.2.2.1)]) (fun k hk x => v10_find_b40B N q0 hq0 k (fun l2 l3 l5 l6 τ => hk (l2, l3, l5, l6, τ)) x.1 x.2.1 x.2.2.1 x.2.2.2.1 x.2.2.2.2) N (l2, l3, l5, l6, σ)
set_option maxRecDepth 100000 in
theorem v10_find_b13B (N : Nat) (q0 : Nat) (hq0 : IsC q0 (0, 0, 0)) (k13 : Int32 × Int64 × Int32 × Ms → Option (Unit × Ms)) (hk13 : ∀ (l2 : Int32) (l3 : Int64) (l5 : Int32) (τ : Ms), VF (K10_find) cX10_find RX10 (k13 (l2, l3, l5, τ)) τ 13 [(0, .ref 100), (1, .ref q0), (2, .int l2), (3, .long l3), (5, .int l5)] []) (l2 : Int32) (l3 : Int64) (l5 : Int32) (σ : Ms) : VF (K10_find) cX10_find RX10 (F10_find_b13B N q0 k13 l2 l3 l5 σ) σ 13 [(0, .ref 100), (1, .ref q0), (2, .int l2), (3, .long l3), (5, .int l5)] [] := by
  unfold F10_find_b13B
  refine v_iload d10_find_13 4 rfl ?_
  refine v_bipush d10_find_15 kb_20 ?_
  refine v_icmp_ge (tgt := 34) d10_find_17 (by decide) ?_ ?_
  · refine v_iconst d10_find_34 ki_0 ?_
    refine v_istore (lv' := [(5, .int (0 : Int32)), (0, .ref 100), (1, .ref q0), (2, .int l2), (3, .long l3)]) d10_find_35 (by decide) rfl ?_
    refine v_iconst d10_find_37 ki_0 ?_
    refine v_istore (lv' := [(6, .int (0 : Int32)), (5, .int (0 : Int32)), (0, .ref 100), (1, .ref q0), (2, .int l2), (3, .long l3)]) d10_find_38 (by decide) rfl ?_
    refine v_sub [2, 3, 4, 5, 1, 0] rfl ?_
    exact v10_find_b40 N q0 hq0 l2 l3 (0 : Int32) (0 : Int32) σ
  · refine v_aload_n d10_find_20 0 rfl rfl ?_
    refine v_getR d10_find_21 faX10_18 ic_100 rfl ?_
    refine v_iload d10_find_24 4 rfl ?_
    refine v_iconst d10_find_26 ki_0 ?_
    refine v_iast d10_find_27 ic_101 ?_
    refine v_lts fun t8 => ?_
    refine v_iinc (lv' := [(5, .int (l5 + (1 : Int32))), (0, .ref 100), (1, .ref q0), (2, .int l2), (3, .long l3)]) d10_find_28 4 rfl (by rw [ki_1]) (by decide) rfl ?_
    refine v_goto (tgt := 13) d10_find_31 (by decide) ?_
    refine v_sub [1, 2, 3, 4, 0] rfl ?_
    exact hk13 l2 l3 (l5 + (1 : Int32)) t8
theorem v10_find_b13 (N : Nat) (q0 : Nat) (hq0 : IsC q0 (0, 0, 0)) (l2 : Int32) (l3 : Int64) (l5 : Int32) (σ : Ms) : VF (K10_find) cX10_find RX10 (F10_find_b13 N q0 l2 l3 l5 σ) σ 13 [(0, .ref 100), (1, .ref q0), (2, .int l2), (3, .long l3), (5, .int l5)] [] := v_fx (σo := fun x => x.2.2.2) (lo := fun x => [(0, .ref 100), (1, .ref q0), (2, .int x.1), (3, .long x.2.1), (5, .int x.2.2.1)]) (fun k hk x => v10_find_b13B N q0 hq0 k (fun l2 l3 l5 τ => hk (l2, l3, l5, τ)) x.1 x.2.1 x.2.2.1 x.2.2.2) N (l2, l3, l5, σ)
set_option maxRecDepth 100000 in
theorem mc10_find (N : Nat) (q0 : Nat) (hq0 : IsC q0 (0, 0, 0)) (p1 : Int32) (p2 : Int64) (σ : Ms) : MC enV yX10_find cX10_find 7 none 3 (F10_find N q0 p1 p2 σ) σ [.ref 100, .ref q0, .int p1, .long p2] := by
  refine MC.v (by decide +kernel) (Nat.le_of_ble_eq_true rfl) ?_
  show VF (K10_find) cX10_find RX10 (F10_find N q0 p1 p2 σ) σ 0 [(0, .ref 100), (1, .ref q0), (2, .int p1), (3, .long p2)] []
  unfold F10_find
  refine v_aload_n d10_find_0 0 rfl rfl ?_
  refine v_iconst d10_find_1 ki_0 ?_
  refine v_putI d10_find_2 faX10_9 fp7_0 ic_100 ?_
  refine v_lts fun t9 => ?_
  refine v_aload_n d10_find_5 0 rfl rfl ?_
  refine v_iconst d10_find_6 ki_0 ?_
  refine v_putI d10_find_7 faX10_15 fp7_1 ic_100 ?_
  refine v_lts fun t10 => ?_
  refine v_iconst d10_find_10 ki_0 ?_
  refine v_istore (lv' := [(5, .int (0 : Int32)), (0, .ref 100), (1, .ref q0), (2, .int p1), (3, .long p2)]) d10_find_11 (by decide) rfl ?_
  refine v_sub [1, 2, 3, 4, 0] rfl ?_
  exact v10_find_b13 N q0 hq0 p1 p2 (0 : Int32) t10
theorem d10_bestParting_0 : decode cX10_bestParting 0 = .ok (.iconst (-1), 1) := by decide +kernel
theorem d10_bestParting_1 : decode cX10_bestParting 1 = .ok (.istore_n 2, 1) := by decide +kernel
theorem d10_bestParting_2 : decode cX10_bestParting 2 = .ok (.aload_n 0, 1) := by decide +kernel
theorem d10_bestParting_3 : decode cX10_bestParting 3 = .ok (.getfield 9, 3) := by decide +kernel
theorem d10_bestParting_6 : decode cX10_bestParting 6 = .ok (.iconst 1, 1) := by decide +kernel
theorem d10_bestParting_7 : decode cX10_bestParting 7 = .ok (.iadd, 1) := by decide +kernel
theorem d10_bestParting_8 : decode cX10_bestParting 8 = .ok (.istore_n 3, 1) := by decide +kernel
theorem d10_bestParting_9 : decode cX10_bestParting 9 = .ok (.iconst 0, 1) := by decide +kernel
theorem d10_bestParting_10 : decode cX10_bestParting 10 = .ok (.istore 4, 2) := by decide +kernel
theorem d10_bestParting_12 : decode cX10_bestParting 12 = .ok (.iload 4, 2) := by decide +kernel
theorem d10_bestParting_14 : decode cX10_bestParting 14 = .ok (.bipush 20, 2) := by decide +kernel
theorem d10_bestParting_16 : decode cX10_bestParting 16 = .ok (.if_icmp .ge 54, 3) := by decide +kernel
theorem d10_bestParting_19 : decode cX10_bestParting 19 = .ok (.aload_n 0, 1) := by decide +kernel
theorem d10_bestParting_20 : decode cX10_bestParting 20 = .ok (.getfield 18, 3) := by decide +kernel
theorem d10_bestParting_23 : decode cX10_bestParting 23 = .ok (.iload 4, 2) := by decide +kernel
theorem d10_bestParting_25 : decode cX10_bestParting 25 = .ok (.iaload, 1) := by decide +kernel
theorem d10_bestParting_26 : decode cX10_bestParting 26 = .ok (.aload_n 0, 1) := by decide +kernel
theorem d10_bestParting_27 : decode cX10_bestParting 27 = .ok (.getfield 9, 3) := by decide +kernel
theorem d10_bestParting_30 : decode cX10_bestParting 30 = .ok (.aload_n 0, 1) := by decide +kernel
theorem d10_bestParting_31 : decode cX10_bestParting 31 = .ok (.getfield 18, 3) := by decide +kernel
theorem d10_bestParting_34 : decode cX10_bestParting 34 = .ok (.iload 4, 2) := by decide +kernel
theorem d10_bestParting_36 : decode cX10_bestParting 36 = .ok (.iaload, 1) := by decide +kernel
theorem d10_bestParting_37 : decode cX10_bestParting 37 = .ok (.isub, 1) := by decide +kernel
theorem d10_bestParting_38 : decode cX10_bestParting 38 = .ok (.invokestatic 57, 3) := by decide +kernel
theorem d10_bestParting_41 : decode cX10_bestParting 41 = .ok (.istore 5, 2) := by decide +kernel
theorem d10_bestParting_43 : decode cX10_bestParting 43 = .ok (.iload_n 1, 1) := by decide +kernel
theorem d10_bestParting_44 : decode cX10_bestParting 44 = .ok (.iload 4, 2) := by decide +kernel
theorem d10_bestParting_46 : decode cX10_bestParting 46 = .ok (.invokestatic 29, 3) := by decide +kernel
theorem d10_bestParting_49 : decode cX10_bestParting 49 = .ok (.ifCond .eq 15, 3) := by decide +kernel
theorem d10_bestParting_52 : decode cX10_bestParting 52 = .ok (.iload 5, 2) := by decide +kernel
theorem d10_bestParting_54 : decode cX10_bestParting 54 = .ok (.iload_n 3, 1) := by decide +kernel
theorem d10_bestParting_55 : decode cX10_bestParting 55 = .ok (.if_icmp .ge 9, 3) := by decide +kernel
theorem d10_bestParting_58 : decode cX10_bestParting 58 = .ok (.iload 4, 2) := by decide +kernel
theorem d10_bestParting_60 : decode cX10_bestParting 60 = .ok (.istore_n 2, 1) := by decide +kernel
theorem d10_bestParting_61 : decode cX10_bestParting 61 = .ok (.iload 5, 2) := by decide +kernel
theorem d10_bestParting_63 : decode cX10_bestParting 63 = .ok (.istore_n 3, 1) := by decide +kernel
theorem d10_bestParting_64 : decode cX10_bestParting 64 = .ok (.iinc 4 1, 3) := by decide +kernel
theorem d10_bestParting_67 : decode cX10_bestParting 67 = .ok (.goto (-55), 3) := by decide +kernel
theorem d10_bestParting_70 : decode cX10_bestParting 70 = .ok (.iload_n 2, 1) := by decide +kernel
theorem d10_bestParting_71 : decode cX10_bestParting 71 = .ok (.ireturn, 1) := by decide +kernel
abbrev K10_bestParting : CK Int32 := (enI, (some .int), 6, 2, none)
noncomputable def F10_bestParting_b64 (N : Nat) (k12 : Int32 × Int32 × Int32 × Int32 × Ms → Option (Int32 × Ms)) (l1 : Int32) (l2 : Int32) (l3 : Int32) (l4 : Int32) (σ : Ms) : Option (Int32 × Ms) :=
  k12 (l1, l2, l3, (l4 + (1 : Int32)), σ)
noncomputable def F10_bestParting_b12B (N : Nat) (k12 : Int32 × Int32 × Int32 × Int32 × Ms → Option (Int32 × Ms)) (l1 : Int32) (l2 : Int32) (l3 : Int32) (l4 : Int32) (σ : Ms) : Option (Int32 × Ms) :=
  if (20 : Int32) ≤ l4 then (some (l2, σ))
  else (ck (ixb l4 20) (ck (ixb l4 20) (bn (FJ9_max_7cf53 (σ.1 101 l4.toNatClampNeg) ((σ.1 100 0) - (σ.1 101 l4.toNatClampNeg)) σ) (fun r1 t2 => bn (F11_isIn l1 l4 t2) (fun r3 t4 => if r3 = 0 then (F10_bestParting_b64 N k12 l1 l2 l3 l4 t4)
  else (if l3 ≤ r1 then (F10_bestParting_b64 N k12 l1 l2 l3 l4 t4)
  else (F10_bestParting_b64 N k12 l1 l4 r1 l4 t4)))))))
noncomputable def F10_bestParting_b12 (N : Nat) (l1 : Int32) (l2 : Int32) (l3 : Int32) (l4 : Int32) (σ : Ms) : Option (Int32 × Ms) :=
  fx N (fun k x => F10_bestParting_b12B N k x.1 x.2.1 x.2.2.1 x.2.2.2.1 x.2.2.2.2) (l1, l2, l3, l4, σ)
noncomputable def F10_bestParting (N : Nat) (p0 : Int32) (σ : Ms) : Option (Int32 × Ms) :=
  lt ((σ.1 100 0) + (1 : Int32)) (fun x5 => F10_bestParting_b12 N p0 (-1 : Int32) x5 (0 : Int32) σ)
set_option maxRecDepth 100000 in
theorem v10_bestParting_b64 (N : Nat) (k12 : Int32 × Int32 × Int32 × Int32 × Ms → Option (Int32 × Ms)) (hk12 : ∀ (l1 : Int32) (l2 : Int32) (l3 : Int32) (l4 : Int32) (τ : Ms), VF (K10_bestParting) cX10_bestParting RX10 (k12 (l1, l2, l3, l4, τ)) τ 12 [(0, .ref 100), (1, .int l1), (2, .int l2), (3, .int l3), (4, .int l4)] []) (l1 : Int32) (l2 : Int32) (l3 : Int32) (l4 : Int32) (σ : Ms) : VF (K10_bestParting) cX10_bestParting RX10 (F10_bestParting_b64 N k12 l1 l2 l3 l4 σ) σ 64 [(0, .ref 100), (1, .int l1), (2, .int l2), (3, .int l3), (4, .int l4)] [] := by
  unfold F10_bestParting_b64
  refine v_iinc (lv' := [(4, .int (l4 + (1 : Int32))), (0, .ref 100), (1, .int l1), (2, .int l2), (3, .int l3)]) d10_bestParting_64 4 rfl (by rw [ki_1]) (by decide) rfl ?_
  refine v_goto (tgt := 12) d10_bestParting_67 (by decide) ?_
  refine v_sub [1, 2, 3, 4, 0] rfl ?_
  exact hk12 l1 l2 l3 (l4 + (1 : Int32)) σ
set_option maxRecDepth 100000 in
theorem v10_bestParting_b12B (N : Nat) (k12 : Int32 × Int32 × Int32 × Int32 × Ms → Option (Int32 × Ms)) (hk12 : ∀ (l1 : Int32) (l2 : Int32) (l3 : Int32) (l4 : Int32) (τ : Ms), VF (K10_bestParting) cX10_bestParting RX10 (k12 (l1, l2, l3, l4, τ)) τ 12 [(0, .ref 100), (1, .int l1), (2, .int l2), (3, .int l3), (4, .int l4)] []) (l1 : Int32) (l2 : Int32) (l3 : Int32) (l4 : Int32) (σ : Ms) : VF (K10_bestParting) cX10_bestParting RX10 (F10_bestParting_b12B N k12 l1 l2 l3 l4 σ) σ 12 [(0, .ref 100), (1, .int l1), (2, .int l2), (3, .int l3), (4, .int l4)] [] := by
  unfold F10_bestParting_b12B
  refine v_iload d10_bestParting_12 4 rfl ?_
  refine v_bipush d10_bestParting_14 kb_20 ?_
  refine v_icmp_ge (tgt := 70) d10_bestParting_16 (by decide) ?_ ?_
  · refine v_iload_n d10_bestParting_70 2 rfl rfl ?_
    exact v_iret d10_bestParting_71 rfl rfl rfl
  · refine v_aload_n d10_bestParting_19 0 rfl rfl ?_
    refine v_getR d10_bestParting_20 faX10_18 ic_100 rfl ?_
    refine v_iload d10_bestParting_23 4 rfl ?_
    refine v_iald d10_bestParting_25 ic_101 ?_
    refine v_aload_n d10_bestParting_26 0 rfl rfl ?_
    refine v_getI d10_bestParting_27 faX10_9 ic_100 ?_
    refine v_aload_n d10_bestParting_30 0 rfl rfl ?_
    refine v_getR d10_bestParting_31 faX10_18 ic_100 rfl ?_
    refine v_iload d10_bestParting_34 4 rfl ?_
    refine v_iald d10_bestParting_36 ic_101 ?_
    refine v_isub d10_bestParting_37 ?_
    refine v_callS2i d10_bestParting_38 (mcJ9_max_7cf53 (σ.1 101 l4.toNatClampNeg) ((σ.1 100 0) - (σ.1 101 l4.toNatClampNeg)) σ) ysJ9_max_7cf53 mlX10_57 (by decide) (Nat.le_of_ble_eq_true rfl) fun r1 t2 => ?_
    refine v_istore (lv' := [(5, .int r1), (0, .ref 100), (1, .int l1), (2, .int l2), (3, .int l3), (4, .int l4)]) d10_bestParting_41 (by decide) rfl ?_
    refine v_iload_n d10_bestParting_43 2 rfl rfl ?_
    refine v_iload d10_bestParting_44 5 rfl ?_
    refine v_callN2i d10_bestParting_46 (mc11_isIn l1 l4 t2) ys11_isIn neX10_29 (by decide) (Nat.le_of_ble_eq_true rfl) fun r3 t4 => ?_
    refine v_if_eq (tgt := 64) d10_bestParting_49 (by decide) ?_ ?_
    · refine v_sub [1, 2, 3, 4, 5] rfl ?_
      exact v10_bestParting_b64 N k12 hk12 l1 l2 l3 l4 t4
    · refine v_iload d10_bestParting_52 0 rfl ?_
      refine v_iload_n d10_bestParting_54 4 rfl rfl ?_
      refine v_icmp_ge (tgt := 64) d10_bestParting_55 (by decide) ?_ ?_
      · refine v_sub [1, 2, 3, 4, 5] rfl ?_
        exact v10_bestParting_b64 N k12 hk12 l1 l2 l3 l4 t4
      · refine v_iload d10_bestParting_58 5 rfl ?_
        refine v_istore_n (lv' := [(2, .int l4), (5, .int r1), (0, .ref 100), (1, .int l1), (3, .int l3), (4, .int l4)]) d10_bestParting_60 rfl (by decide) rfl ?_
        refine v_iload d10_bestParting_61 1 rfl ?_
        refine v_istore_n (lv' := [(3, .int r1), (2, .int l4), (5, .int r1), (0, .ref 100), (1, .int l1), (4, .int l4)]) d10_bestParting_63 rfl (by decide) rfl ?_
        refine v_sub [3, 4, 1, 0, 5] rfl ?_
        exact v10_bestParting_b64 N k12 hk12 l1 l4 r1 l4 t4
theorem v10_bestParting_b12 (N : Nat) (l1 : Int32) (l2 : Int32) (l3 : Int32) (l4 : Int32) (σ : Ms) : VF (K10_bestParting) cX10_bestParting RX10 (F10_bestParting_b12 N l1 l2 l3 l4 σ) σ 12 [(0, .ref 100), (1, .int l1), (2, .int l2), (3, .int l3), (4, .int l4)] [] := v_fx (σo := fun x => x.2.2.2.2) (lo := fun x => [(0, .ref 100), (1, .int x.1), (2, .int x.2.1), (3, .int x.2.2.1), (4, .int x.2.2.2.1)]) (fun k hk x => v10_bestParting_b12B N k (fun l1 l2 l3 l4 τ => hk (l1, l2, l3, l4, τ)) x.1 x.2.1 x.2.2.1 x.2.2.2.1 x.2.2.2.2) N (l1, l2, l3, l4, σ)
set_option maxRecDepth 100000 in
theorem mc10_bestParting (N : Nat) (p0 : Int32) (σ : Ms) : MC enI yX10_bestParting cX10_bestParting 6 (some .int) 2 (F10_bestParting N p0 σ) σ [.ref 100, .int p0] := by
  refine MC.i (by decide +kernel) (Nat.le_of_ble_eq_true rfl) ?_
  show VF (K10_bestParting) cX10_bestParting RX10 (F10_bestParting N p0 σ) σ 0 [(0, .ref 100), (1, .int p0)] []
  unfold F10_bestParting
  refine v_iconst d10_bestParting_0 ki_m1 ?_
  refine v_istore_n (lv' := [(2, .int (-1 : Int32)), (0, .ref 100), (1, .int p0)]) d10_bestParting_1 rfl (by decide) rfl ?_
  refine v_aload_n d10_bestParting_2 1 rfl rfl ?_
  refine v_getI d10_bestParting_3 faX10_9 ic_100 ?_
  refine v_iconst d10_bestParting_6 ki_1 ?_
  refine v_iadd d10_bestParting_7 ?_
  refine v_lti fun x5 => ?_
  refine v_istore_n (lv' := [(3, .int x5), (2, .int (-1 : Int32)), (0, .ref 100), (1, .int p0)]) d10_bestParting_8 rfl (by decide) rfl ?_
  refine v_iconst d10_bestParting_9 ki_0 ?_
  refine v_istore (lv' := [(4, .int (0 : Int32)), (3, .int x5), (2, .int (-1 : Int32)), (0, .ref 100), (1, .int p0)]) d10_bestParting_10 (by decide) rfl ?_
  refine v_sub [3, 4, 2, 1, 0] rfl ?_
  exact v10_bestParting_b12 N p0 (-1 : Int32) x5 (0 : Int32) σ
