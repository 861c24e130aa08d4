theorem d0_canBeBet_0 : decode cX0_canBeBet 0 = .ok (.iload_n 0, 1) := by decide +kernel
theorem d0_canBeBet_1 : decode cX0_canBeBet 1 = .ok (.ifCond .lt 29, 3) := by decide +kernel
theorem d0_canBeBet_4 : decode cX0_canBeBet 4 = .ok (.iload_n 0, 1) := by decide +kernel
theorem d0_canBeBet_5 : decode cX0_canBeBet 5 = .ok (.bipush 20, 2) := by decide +kernel
theorem d0_canBeBet_7 : decode cX0_canBeBet 7 = .ok (.if_icmp .gt 23, 3) := by decide +kernel
theorem d0_canBeBet_10 : decode cX0_canBeBet 10 = .ok (.iload_n 1, 1) := by decide +kernel
theorem d0_canBeBet_11 : decode cX0_canBeBet 11 = .ok (.ifCond .lt 19, 3) := by decide +kernel
theorem d0_canBeBet_14 : decode cX0_canBeBet 14 = .ok (.iload_n 1, 1) := by decide +kernel
theorem d0_canBeBet_15 : decode cX0_canBeBet 15 = .ok (.bipush 20, 2) := by decide +kernel
theorem d0_canBeBet_17 : decode cX0_canBeBet 17 = .ok (.if_icmp .gt 13, 3) := by decide +kernel
theorem d0_canBeBet_20 : decode cX0_canBeBet 20 = .ok (.iload_n 0, 1) := by decide +kernel
theorem d0_canBeBet_21 : decode cX0_canBeBet 21 = .ok (.iload_n 1, 1) := by decide +kernel
theorem d0_canBeBet_22 : decode cX0_canBeBet 22 = .ok (.iadd, 1) := by decide +kernel
theorem d0_canBeBet_23 : decode cX0_canBeBet 23 = .ok (.ifCond .le 7, 3) := by decide +kernel
theorem d0_canBeBet_26 : decode cX0_canBeBet 26 = .ok (.iconst 1, 1) := by decide +kernel
theorem d0_canBeBet_27 : decode cX0_canBeBet 27 = .ok (.goto 4, 3) := by decide +kernel
theorem d0_canBeBet_30 : decode cX0_canBeBet 30 = .ok (.iconst 0, 1) := by decide +kernel
theorem d0_canBeBet_31 : decode cX0_canBeBet 31 = .ok (.ireturn, 1) := by decide +kernel
abbrev K0_canBeBet : CK Int32 := (enI, (some .boolean), 2, 1, none)
noncomputable def F0_canBeBet (p0 : Int32) (p1 : Int32) (σ : Ms) : Option (Int32 × Ms) :=
  if p0 < 0 then (some ((0 : Int32), σ))
  else (if (20 : Int32) < p0 then (some ((0 : Int32), σ))
  else (if p1 < 0 then (some ((0 : Int32), σ))
  else (if (20 : Int32) < p1 then (some ((0 : Int32), σ))
  else (if (p0 + p1) ≤ 0 then (some ((0 : Int32), σ))
  else (some ((1 : Int32), σ))))))
set_option maxRecDepth 100000 in
theorem mc0_canBeBet (p0 : Int32) (p1 : Int32) (σ : Ms) : MC enI yX0_canBeBet cX0_canBeBet 2 (some .boolean) 1 (F0_canBeBet p0 p1 σ) σ [.int p0, .int p1] := by
  refine MC.i (by decide +kernel) (Nat.le_of_ble_eq_true rfl) ?_
  show VF (K0_canBeBet) cX0_canBeBet RX0 (F0_canBeBet p0 p1 σ) σ 0 [(0, .int p0), (1, .int p1)] []
  unfold F0_canBeBet
  refine v_iload_n d0_canBeBet_0 0 rfl rfl ?_
  refine v_if_lt (tgt := 30) d0_canBeBet_1 (by decide) ?_ ?_
  · refine v_iconst d0_canBeBet_30 ki_0 ?_
    exact v_iret (ty := .boolean) d0_canBeBet_31 rfl rfl rfl
  · refine v_iload_n d0_canBeBet_4 0 rfl rfl ?_
    refine v_bipush d0_canBeBet_5 kb_20 ?_
    refine v_icmp_gt (tgt := 30) d0_canBeBet_7 (by decide) ?_ ?_
    · refine v_iconst d0_canBeBet_30 ki_0 ?_
      exact v_iret (ty := .boolean) d0_canBeBet_31 rfl rfl rfl
    · refine v_iload_n d0_canBeBet_10 1 rfl rfl ?_
      refine v_if_lt (tgt := 30) d0_canBeBet_11 (by decide) ?_ ?_
      · refine v_iconst d0_canBeBet_30 ki_0 ?_
        exact v_iret (ty := .boolean) d0_canBeBet_31 rfl rfl rfl
      · refine v_iload_n d0_canBeBet_14 1 rfl rfl ?_
        refine v_bipush d0_canBeBet_15 kb_20 ?_
        refine v_icmp_gt (tgt := 30) d0_canBeBet_17 (by decide) ?_ ?_
        · refine v_iconst d0_canBeBet_30 ki_0 ?_
          exact v_iret (ty := .boolean) d0_canBeBet_31 rfl rfl rfl
        · refine v_iload_n d0_canBeBet_20 0 rfl rfl ?_
          refine v_iload_n d0_canBeBet_21 1 rfl rfl ?_
          refine v_iadd d0_canBeBet_22 ?_
          refine v_if_le (tgt := 30) d0_canBeBet_23 (by decide) ?_ ?_
          · refine v_iconst d0_canBeBet_30 ki_0 ?_
            exact v_iret (ty := .boolean) d0_canBeBet_31 rfl rfl rfl
          · refine v_iconst d0_canBeBet_26 ki_1 ?_
            refine v_goto (tgt := 31) d0_canBeBet_27 (by decide) ?_
            exact v_iret (ty := .boolean) d0_canBeBet_31 rfl rfl rfl
theorem d0_addSprig_0 : decode cX0_addSprig 0 = .ok (.aload_n 0, 1) := by decide +kernel
theorem d0_addSprig_1 : decode cX0_addSprig 1 = .ok (.getfield 27, 3) := by decide +kernel
theorem d0_addSprig_4 : decode cX0_addSprig 4 = .ok (.bipush 20, 2) := by decide +kernel
theorem d0_addSprig_6 : decode cX0_addSprig 6 = .ok (.if_icmp .lt 4, 3) := by decide +kernel
theorem d0_addSprig_9 : decode cX0_addSprig 9 = .ok (.return_, 1) := by decide +kernel
theorem d0_addSprig_10 : decode cX0_addSprig 10 = .ok (.aload_n 0, 1) := by decide +kernel
theorem d0_addSprig_11 : decode cX0_addSprig 11 = .ok (.getfield 9, 3) := by decide +kernel
theorem d0_addSprig_14 : decode cX0_addSprig 14 = .ok (.aload_n 0, 1) := by decide +kernel
theorem d0_addSprig_15 : decode cX0_addSprig 15 = .ok (.getfield 27, 3) := by decide +kernel
theorem d0_addSprig_18 : decode cX0_addSprig 18 = .ok (.iload_n 1, 1) := by decide +kernel
theorem d0_addSprig_19 : decode cX0_addSprig 19 = .ok (.iastore, 1) := by decide +kernel
theorem d0_addSprig_20 : decode cX0_addSprig 20 = .ok (.aload_n 0, 1) := by decide +kernel
theorem d0_addSprig_21 : decode cX0_addSprig 21 = .ok (.getfield 15, 3) := by decide +kernel
theorem d0_addSprig_24 : decode cX0_addSprig 24 = .ok (.aload_n 0, 1) := by decide +kernel
theorem d0_addSprig_25 : decode cX0_addSprig 25 = .ok (.getfield 27, 3) := by decide +kernel
theorem d0_addSprig_28 : decode cX0_addSprig 28 = .ok (.iload_n 2, 1) := by decide +kernel
theorem d0_addSprig_29 : decode cX0_addSprig 29 = .ok (.iastore, 1) := by decide +kernel
theorem d0_addSprig_30 : decode cX0_addSprig 30 = .ok (.aload_n 0, 1) := by decide +kernel
theorem d0_addSprig_31 : decode cX0_addSprig 31 = .ok (.dup, 1) := by decide +kernel
theorem d0_addSprig_32 : decode cX0_addSprig 32 = .ok (.getfield 31, 3) := by decide +kernel
theorem d0_addSprig_35 : decode cX0_addSprig 35 = .ok (.iconst 1, 1) := by decide +kernel
theorem d0_addSprig_36 : decode cX0_addSprig 36 = .ok (.aload_n 0, 1) := by decide +kernel
theorem d0_addSprig_37 : decode cX0_addSprig 37 = .ok (.getfield 27, 3) := by decide +kernel
theorem d0_addSprig_40 : decode cX0_addSprig 40 = .ok (.ishl, 1) := by decide +kernel
theorem d0_addSprig_41 : decode cX0_addSprig 41 = .ok (.ior, 1) := by decide +kernel
theorem d0_addSprig_42 : decode cX0_addSprig 42 = .ok (.putfield 31, 3) := by decide +kernel
theorem d0_addSprig_45 : decode cX0_addSprig 45 = .ok (.aload_n 0, 1) := by decide +kernel
theorem d0_addSprig_46 : decode cX0_addSprig 46 = .ok (.dup, 1) := by decide +kernel
theorem d0_addSprig_47 : decode cX0_addSprig 47 = .ok (.getfield 27, 3) := by decide +kernel
theorem d0_addSprig_50 : decode cX0_addSprig 50 = .ok (.iconst 1, 1) := by decide +kernel
theorem d0_addSprig_51 : decode cX0_addSprig 51 = .ok (.iadd, 1) := by decide +kernel
theorem d0_addSprig_52 : decode cX0_addSprig 52 = .ok (.putfield 27, 3) := by decide +kernel
theorem d0_addSprig_55 : decode cX0_addSprig 55 = .ok (.return_, 1) := by decide +kernel
abbrev K0_addSprig : CK Unit := (enV, none, 3, 1, none)
noncomputable def F0_addSprig (h : Nat) (p0 : Int32) (p1 : Int32) (σ : Ms) : Option (Unit × Ms) :=
  if (σ.1 h 5) < (20 : Int32) then (ck (ixb (σ.1 h 5) 20) (lt (sI σ (h + 1) (σ.1 h 5).toNatClampNeg p0) (fun t1 => ck (ixb (t1.1 h 5) 20) (lt (sI t1 (h + 2) (t1.1 h 5).toNatClampNeg p1) (fun t2 => lt (sI t2 h 6 ((t2.1 h 6) ||| ((1 : Int32) <<< ((t2.1 h 5) &&& 31)))) (fun t3 => lt (sI t3 h 5 ((t3.1 h 5) + (1 : Int32))) (fun t4 => some ((), t4))))))))
  else (some ((), σ))
set_option maxRecDepth 100000 in
theorem mc0_addSprig (h : Nat) (hh : IsC h (0, 0, 0)) (p0 : Int32) (p1 : Int32) (σ : Ms) : MC enV yX0_addSprig cX0_addSprig 3 none 1 (F0_addSprig h p0 p1 σ) σ [.ref h, .int p0, .int p1] := by
  refine MC.v (by decide +kernel) (Nat.le_of_ble_eq_true rfl) ?_
  show VF (K0_addSprig) cX0_addSprig RX0 (F0_addSprig h p0 p1 σ) σ 0 [(0, .ref h), (1, .int p0), (2, .int p1)] []
  unfold F0_addSprig
  refine v_aload_n d0_addSprig_0 0 rfl rfl ?_
  refine v_getI d0_addSprig_1 faX0_27 hh ?_
  refine v_bipush d0_addSprig_4 kb_20 ?_
  refine v_icmp_lt (tgt := 10) d0_addSprig_6 (by decide) ?_ ?_
  · refine v_aload_n d0_addSprig_10 0 rfl rfl ?_
    refine v_getR d0_addSprig_11 faX0_9 hh rfl ?_
    refine v_aload_n d0_addSprig_14 0 rfl rfl ?_
    refine v_getI d0_addSprig_15 faX0_27 hh ?_
    refine v_iload_n d0_addSprig_18 1 rfl rfl ?_
    refine v_iast d0_addSprig_19 (ih0_1 hh) ?_
    refine v_lts fun t1 => ?_
    refine v_aload_n d0_addSprig_20 0 rfl rfl ?_
    refine v_getR d0_addSprig_21 faX0_15 hh rfl ?_
    refine v_aload_n d0_addSprig_24 0 rfl rfl ?_
    refine v_getI d0_addSprig_25 faX0_27 hh ?_
    refine v_iload_n d0_addSprig_28 2 rfl rfl ?_
    refine v_iast d0_addSprig_29 (ih0_2 hh) ?_
    refine v_lts fun t2 => ?_
    refine v_aload_n d0_addSprig_30 0 rfl rfl ?_
    refine v_dup d0_addSprig_31 rfl ?_
    refine v_getI d0_addSprig_32 faX0_31 hh ?_
    refine v_iconst d0_addSprig_35 ki_1 ?_
    refine v_aload_n d0_addSprig_36 0 rfl rfl ?_
    refine v_getI d0_addSprig_37 faX0_27 hh ?_
    refine v_ishl d0_addSprig_40 ?_
    refine v_ior d0_addSprig_41 ?_
    refine v_putI d0_addSprig_42 faX0_31 fp0_6 hh ?_
    refine v_lts fun t3 => ?_
    refine v_aload_n d0_addSprig_45 0 rfl rfl ?_
    refine v_dup d0_addSprig_46 rfl ?_
    refine v_getI d0_addSprig_47 faX0_27 hh ?_
    refine v_iconst d0_addSprig_50 ki_1 ?_
    refine v_iadd d0_addSprig_51 ?_
    refine v_putI d0_addSprig_52 faX0_27 fp0_5 hh ?_
    refine v_lts fun t4 => ?_
    exact v_vret d0_addSprig_55 rfl
  · exact v_vret d0_addSprig_9 rfl
theorem d0_addHeap_0 : decode cX0_addHeap 0 = .ok (.aload_n 0, 1) := by decide +kernel
theorem d0_addHeap_1 : decode cX0_addHeap 1 = .ok (.getfield 34, 3) := by decide +kernel
theorem d0_addHeap_4 : decode cX0_addHeap 4 = .ok (.iconst 4, 1) := by decide +kernel
theorem d0_addHeap_5 : decode cX0_addHeap 5 = .ok (.if_icmp .lt 4, 3) := by decide +kernel
theorem d0_addHeap_8 : decode cX0_addHeap 8 = .ok (.return_, 1) := by decide +kernel
theorem d0_addHeap_9 : decode cX0_addHeap 9 = .ok (.aload_n 0, 1) := by decide +kernel
theorem d0_addHeap_10 : decode cX0_addHeap 10 = .ok (.getfield 18, 3) := by decide +kernel
theorem d0_addHeap_13 : decode cX0_addHeap 13 = .ok (.aload_n 0, 1) := by decide +kernel
theorem d0_addHeap_14 : decode cX0_addHeap 14 = .ok (.getfield 34, 3) := by decide +kernel
theorem d0_addHeap_17 : decode cX0_addHeap 17 = .ok (.iload_n 1, 1) := by decide +kernel
theorem d0_addHeap_18 : decode cX0_addHeap 18 = .ok (.iastore, 1) := by decide +kernel
theorem d0_addHeap_19 : decode cX0_addHeap 19 = .ok (.aload_n 0, 1) := by decide +kernel
theorem d0_addHeap_20 : decode cX0_addHeap 20 = .ok (.dup, 1) := by decide +kernel
theorem d0_addHeap_21 : decode cX0_addHeap 21 = .ok (.getfield 34, 3) := by decide +kernel
theorem d0_addHeap_24 : decode cX0_addHeap 24 = .ok (.iconst 1, 1) := by decide +kernel
theorem d0_addHeap_25 : decode cX0_addHeap 25 = .ok (.iadd, 1) := by decide +kernel
theorem d0_addHeap_26 : decode cX0_addHeap 26 = .ok (.putfield 34, 3) := by decide +kernel
theorem d0_addHeap_29 : decode cX0_addHeap 29 = .ok (.return_, 1) := by decide +kernel
abbrev K0_addHeap : CK Unit := (enV, none, 2, 1, none)
noncomputable def F0_addHeap (h : Nat) (p0 : Int32) (σ : Ms) : Option (Unit × Ms) :=
  if (σ.1 h 7) < (4 : Int32) then (ck (ixb (σ.1 h 7) 4) (lt (sI σ (h + 3) (σ.1 h 7).toNatClampNeg p0) (fun t1 => lt (sI t1 h 7 ((t1.1 h 7) + (1 : Int32))) (fun t2 => some ((), t2)))))
  else (some ((), σ))
set_option maxRecDepth 100000 in
theorem mc0_addHeap (h : Nat) (hh : IsC h (0, 0, 0)) (p0 : Int32) (σ : Ms) : MC enV yX0_addHeap cX0_addHeap 2 none 1 (F0_addHeap h p0 σ) σ [.ref h, .int p0] := by
  refine MC.v (by decide +kernel) (Nat.le_of_ble_eq_true rfl) ?_
  show VF (K0_addHeap) cX0_addHeap RX0 (F0_addHeap h p0 σ) σ 0 [(0, .ref h), (1, .int p0)] []
  unfold F0_addHeap
  refine v_aload_n d0_addHeap_0 0 rfl rfl ?_
  refine v_getI d0_addHeap_1 faX0_34 hh ?_
  refine v_iconst d0_addHeap_4 ki_4 ?_
  refine v_icmp_lt (tgt := 9) d0_addHeap_5 (by decide) ?_ ?_
  · refine v_aload_n d0_addHeap_9 0 rfl rfl ?_
    refine v_getR d0_addHeap_10 faX0_18 hh rfl ?_
    refine v_aload_n d0_addHeap_13 0 rfl rfl ?_
    refine v_getI d0_addHeap_14 faX0_34 hh ?_
    refine v_iload_n d0_addHeap_17 1 rfl rfl ?_
    refine v_iast d0_addHeap_18 (ih0_3 hh) ?_
    refine v_lts fun t1 => ?_
    refine v_aload_n d0_addHeap_19 0 rfl rfl ?_
    refine v_dup d0_addHeap_20 rfl ?_
    refine v_getI d0_addHeap_21 faX0_34 hh ?_
    refine v_iconst d0_addHeap_24 ki_1 ?_
    refine v_iadd d0_addHeap_25 ?_
    refine v_putI d0_addHeap_26 faX0_34 fp0_7 hh ?_
    refine v_lts fun t2 => ?_
    exact v_vret d0_addHeap_29 rfl
  · exact v_vret d0_addHeap_8 rfl
theorem d0_addBet_0 : decode cX0_addBet 0 = .ok (.aload_n 0, 1) := by decide +kernel
theorem d0_addBet_1 : decode cX0_addBet 1 = .ok (.getfield 37, 3) := by decide +kernel
theorem d0_addBet_4 : decode cX0_addBet 4 = .ok (.iconst 5, 1) := by decide +kernel
theorem d0_addBet_5 : decode cX0_addBet 5 = .ok (.if_icmp .lt 4, 3) := by decide +kernel
theorem d0_addBet_8 : decode cX0_addBet 8 = .ok (.return_, 1) := by decide +kernel
theorem d0_addBet_9 : decode cX0_addBet 9 = .ok (.aload_n 0, 1) := by decide +kernel
theorem d0_addBet_10 : decode cX0_addBet 10 = .ok (.getfield 21, 3) := by decide +kernel
theorem d0_addBet_13 : decode cX0_addBet 13 = .ok (.aload_n 0, 1) := by decide +kernel
theorem d0_addBet_14 : decode cX0_addBet 14 = .ok (.getfield 37, 3) := by decide +kernel
theorem d0_addBet_17 : decode cX0_addBet 17 = .ok (.iload_n 1, 1) := by decide +kernel
theorem d0_addBet_18 : decode cX0_addBet 18 = .ok (.iastore, 1) := by decide +kernel
theorem d0_addBet_19 : decode cX0_addBet 19 = .ok (.aload_n 0, 1) := by decide +kernel
theorem d0_addBet_20 : decode cX0_addBet 20 = .ok (.getfield 24, 3) := by decide +kernel
theorem d0_addBet_23 : decode cX0_addBet 23 = .ok (.aload_n 0, 1) := by decide +kernel
theorem d0_addBet_24 : decode cX0_addBet 24 = .ok (.getfield 37, 3) := by decide +kernel
theorem d0_addBet_27 : decode cX0_addBet 27 = .ok (.iload_n 2, 1) := by decide +kernel
theorem d0_addBet_28 : decode cX0_addBet 28 = .ok (.iastore, 1) := by decide +kernel
theorem d0_addBet_29 : decode cX0_addBet 29 = .ok (.aload_n 0, 1) := by decide +kernel
theorem d0_addBet_30 : decode cX0_addBet 30 = .ok (.dup, 1) := by decide +kernel
theorem d0_addBet_31 : decode cX0_addBet 31 = .ok (.getfield 37, 3) := by decide +kernel
theorem d0_addBet_34 : decode cX0_addBet 34 = .ok (.iconst 1, 1) := by decide +kernel
theorem d0_addBet_35 : decode cX0_addBet 35 = .ok (.iadd, 1) := by decide +kernel
theorem d0_addBet_36 : decode cX0_addBet 36 = .ok (.putfield 37, 3) := by decide +kernel
theorem d0_addBet_39 : decode cX0_addBet 39 = .ok (.return_, 1) := by decide +kernel
abbrev K0_addBet : CK Unit := (enV, none, 3, 1, none)
noncomputable def F0_addBet (h : Nat) (p0 : Int32) (p1 : Int32) (σ : Ms) : Option (Unit × Ms) :=
  if (σ.1 h 8) < (5 : Int32) then (ck (ixb (σ.1 h 8) 5) (lt (sI σ (h + 4) (σ.1 h 8).toNatClampNeg p0) (fun t1 => ck (ixb (t1.1 h 8) 5) (lt (sI t1 (h + 5) (t1.1 h 8).toNatClampNeg p1) (fun t2 => lt (sI t2 h 8 ((t2.1 h 8) + (1 : Int32))) (fun t3 => some ((), t3)))))))
  else (some ((), σ))
set_option maxRecDepth 100000 in
theorem mc0_addBet (h : Nat) (hh : IsC h (0, 0, 0)) (p0 : Int32) (p1 : Int32) (σ : Ms) : MC enV yX0_addBet cX0_addBet 3 none 1 (F0_addBet h p0 p1 σ) σ [.ref h, .int p0, .int p1] := by
  refine MC.v (by decide +kernel) (Nat.le_of_ble_eq_true rfl) ?_
  show VF (K0_addBet) cX0_addBet RX0 (F0_addBet h p0 p1 σ) σ 0 [(0, .ref h), (1, .int p0), (2, .int p1)] []
  unfold F0_addBet
  refine v_aload_n d0_addBet_0 0 rfl rfl ?_
  refine v_getI d0_addBet_1 faX0_37 hh ?_
  refine v_iconst d0_addBet_4 ki_5 ?_
  refine v_icmp_lt (tgt := 9) d0_addBet_5 (by decide) ?_ ?_
  · refine v_aload_n d0_addBet_9 0 rfl rfl ?_
    refine v_getR d0_addBet_10 faX0_21 hh rfl ?_
    refine v_aload_n d0_addBet_13 0 rfl rfl ?_
    refine v_getI d0_addBet_14 faX0_37 hh ?_
    refine v_iload_n d0_addBet_17 1 rfl rfl ?_
    refine v_iast d0_addBet_18 (ih0_4 hh) ?_
    refine v_lts fun t1 => ?_
    refine v_aload_n d0_addBet_19 0 rfl rfl ?_
    refine v_getR d0_addBet_20 faX0_24 hh rfl ?_
    refine v_aload_n d0_addBet_23 0 rfl rfl ?_
    refine v_getI d0_addBet_24 faX0_37 hh ?_
    refine v_iload_n d0_addBet_27 2 rfl rfl ?_
    refine v_iast d0_addBet_28 (ih0_5 hh) ?_
    refine v_lts fun t2 => ?_
    refine v_aload_n d0_addBet_29 0 rfl rfl ?_
    refine v_dup d0_addBet_30 rfl ?_
    refine v_getI d0_addBet_31 faX0_37 hh ?_
    refine v_iconst d0_addBet_34 ki_1 ?_
    refine v_iadd d0_addBet_35 ?_
    refine v_putI d0_addBet_36 faX0_37 fp0_8 hh ?_
    refine v_lts fun t3 => ?_
    exact v_vret d0_addBet_39 rfl
  · exact v_vret d0_addBet_8 rfl
theorem d0_branchSet_0 : decode cX0_branchSet 0 = .ok (.aload_n 0, 1) := by decide +kernel
theorem d0_branchSet_1 : decode cX0_branchSet 1 = .ok (.iload_n 1, 1) := by decide +kernel
theorem d0_branchSet_2 : decode cX0_branchSet 2 = .ok (.invokevirtual 56, 3) := by decide +kernel
theorem d0_branchSet_5 : decode cX0_branchSet 5 = .ok (.ifCond .ne 5, 3) := by decide +kernel
theorem d0_branchSet_8 : decode cX0_branchSet 8 = .ok (.iconst 0, 1) := by decide +kernel
theorem d0_branchSet_9 : decode cX0_branchSet 9 = .ok (.ireturn, 1) := by decide +kernel
theorem d0_branchSet_10 : decode cX0_branchSet 10 = .ok (.aload_n 0, 1) := by decide +kernel
theorem d0_branchSet_11 : decode cX0_branchSet 11 = .ok (.getfield 31, 3) := by decide +kernel
theorem d0_branchSet_14 : decode cX0_branchSet 14 = .ok (.iconst 1, 1) := by decide +kernel
theorem d0_branchSet_15 : decode cX0_branchSet 15 = .ok (.iload_n 1, 1) := by decide +kernel
theorem d0_branchSet_16 : decode cX0_branchSet 16 = .ok (.ishl, 1) := by decide +kernel
theorem d0_branchSet_17 : decode cX0_branchSet 17 = .ok (.iand, 1) := by decide +kernel
theorem d0_branchSet_18 : decode cX0_branchSet 18 = .ok (.istore_n 2, 1) := by decide +kernel
theorem d0_branchSet_19 : decode cX0_branchSet 19 = .ok (.iload_n 1, 1) := by decide +kernel
theorem d0_branchSet_20 : decode cX0_branchSet 20 = .ok (.iconst 1, 1) := by decide +kernel
theorem d0_branchSet_21 : decode cX0_branchSet 21 = .ok (.iadd, 1) := by decide +kernel
theorem d0_branchSet_22 : decode cX0_branchSet 22 = .ok (.istore_n 3, 1) := by decide +kernel
theorem d0_branchSet_23 : decode cX0_branchSet 23 = .ok (.iload_n 3, 1) := by decide +kernel
theorem d0_branchSet_24 : decode cX0_branchSet 24 = .ok (.aload_n 0, 1) := by decide +kernel
theorem d0_branchSet_25 : decode cX0_branchSet 25 = .ok (.getfield 27, 3) := by decide +kernel
theorem d0_branchSet_28 : decode cX0_branchSet 28 = .ok (.if_icmp .ge 49, 3) := by decide +kernel
theorem d0_branchSet_31 : decode cX0_branchSet 31 = .ok (.iload_n 3, 1) := by decide +kernel
theorem d0_branchSet_32 : decode cX0_branchSet 32 = .ok (.bipush 20, 2) := by decide +kernel
theorem d0_branchSet_34 : decode cX0_branchSet 34 = .ok (.if_icmp .ge 43, 3) := by decide +kernel
theorem d0_branchSet_37 : decode cX0_branchSet 37 = .ok (.aload_n 0, 1) := by decide +kernel
theorem d0_branchSet_38 : decode cX0_branchSet 38 = .ok (.getfield 15, 3) := by decide +kernel
theorem d0_branchSet_41 : decode cX0_branchSet 41 = .ok (.iload_n 3, 1) := by decide +kernel
theorem d0_branchSet_42 : decode cX0_branchSet 42 = .ok (.iaload, 1) := by decide +kernel
theorem d0_branchSet_43 : decode cX0_branchSet 43 = .ok (.iconst (-1), 1) := by decide +kernel
theorem d0_branchSet_44 : decode cX0_branchSet 44 = .ok (.if_icmp .eq 27, 3) := by decide +kernel
theorem d0_branchSet_47 : decode cX0_branchSet 47 = .ok (.iload_n 2, 1) := by decide +kernel
theorem d0_branchSet_48 : decode cX0_branchSet 48 = .ok (.aload_n 0, 1) := by decide +kernel
theorem d0_branchSet_49 : decode cX0_branchSet 49 = .ok (.getfield 15, 3) := by decide +kernel
theorem d0_branchSet_52 : decode cX0_branchSet 52 = .ok (.iload_n 3, 1) := by decide +kernel
theorem d0_branchSet_53 : decode cX0_branchSet 53 = .ok (.iaload, 1) := by decide +kernel
theorem d0_branchSet_54 : decode cX0_branchSet 54 = .ok (.invokestatic 60, 3) := by decide +kernel
theorem d0_branchSet_57 : decode cX0_branchSet 57 = .ok (.ifCond .eq 14, 3) := by decide +kernel
theorem d0_branchSet_60 : decode cX0_branchSet 60 = .ok (.iload_n 2, 1) := by decide +kernel
theorem d0_branchSet_61 : decode cX0_branchSet 61 = .ok (.aload_n 0, 1) := by decide +kernel
theorem d0_branchSet_62 : decode cX0_branchSet 62 = .ok (.getfield 31, 3) := by decide +kernel
theorem d0_branchSet_65 : decode cX0_branchSet 65 = .ok (.iconst 1, 1) := by decide +kernel
theorem d0_branchSet_66 : decode cX0_branchSet 66 = .ok (.iload_n 3, 1) := by decide +kernel
theorem d0_branchSet_67 : decode cX0_branchSet 67 = .ok (.ishl, 1) := by decide +kernel
theorem d0_branchSet_68 : decode cX0_branchSet 68 = .ok (.iand, 1) := by decide +kernel
theorem d0_branchSet_69 : decode cX0_branchSet 69 = .ok (.ior, 1) := by decide +kernel
theorem d0_branchSet_70 : decode cX0_branchSet 70 = .ok (.istore_n 2, 1) := by decide +kernel
theorem d0_branchSet_71 : decode cX0_branchSet 71 = .ok (.iinc 3 1, 3) := by decide +kernel
theorem d0_branchSet_74 : decode cX0_branchSet 74 = .ok (.goto (-51), 3) := by decide +kernel
theorem d0_branchSet_77 : decode cX0_branchSet 77 = .ok (.iload_n 2, 1) := by decide +kernel
theorem d0_branchSet_78 : decode cX0_branchSet 78 = .ok (.ireturn, 1) := by decide +kernel
abbrev K0_branchSet : CK Int32 := (enI, (some .int), 4, 2, none)
noncomputable def F0_branchSet_b71 (N : Nat) (h : Nat) (k23 : Int32 × Int32 × Ms → Option (Int32 × Ms)) (l2 : Int32) (l3 : Int32) (σ : Ms) : Option (Int32 × Ms) :=
  k23 (l2, (l3 + (1 : Int32)), σ)
noncomputable def F0_branchSet_b23B (N : Nat) (h : Nat) (k23 : Int32 × Int32 × Ms → Option (Int32 × Ms)) (l2 : Int32) (l3 : Int32) (σ : Ms) : Option (Int32 × Ms) :=
  if (σ.1 h 5) ≤ l3 then (some (l2, σ))
  else (if (20 : Int32) ≤ l3 then (some (l2, σ))
  else (ck (ixb l3 20) (if (σ.1 (h + 2) l3.toNatClampNeg) = (-1 : Int32) then (F0_branchSet_b71 N h k23 l2 l3 σ)
  else (ck (ixb l3 20) (bn (F11_isIn l2 (σ.1 (h + 2) l3.toNatClampNeg) σ) (fun r1 t2 => if r1 = 0 then (F0_branchSet_b71 N h k23 l2 l3 t2)
  else (lt (l2 ||| ((t2.1 h 6) &&& ((1 : Int32) <<< (l3 &&& 31)))) (fun x3 => F0_branchSet_b71 N h k23 x3 l3 t2))))))))
noncomputable def F0_branchSet_b23 (N : Nat) (h : Nat) (l2 : Int32) (l3 : Int32) (σ : Ms) : Option (Int32 × Ms) :=
  fx N (fun k x => F0_branchSet_b23B N h k x.1 x.2.1 x.2.2) (l2, l3, σ)
noncomputable def F0_branchSet (N : Nat) (h : Nat) (p0 : Int32) (σ : Ms) : Option (Int32 × Ms) :=
  bn (F0_hasSprig h p0 σ) (fun r4 t5 => if r4 ≠ 0 then (lt ((t5.1 h 6) &&& ((1 : Int32) <<< (p0 &&& 31))) (fun x6 => lt (p0 + (1 : Int32)) (fun x7 => F0_branchSet_b23 N h x6 x7 t5)))
  else (some ((0 : Int32), t5)))
set_option maxRecDepth 100000 in
theorem v0_branchSet_b71 (N : Nat) (h : Nat) (hh : IsC h (0, 0, 0)) (k23 : Int32 × Int32 × Ms → Option (Int32 × Ms)) (hk23 : ∀ (l2 : Int32) (l3 : Int32) (τ : Ms), VF (K0_branchSet) cX0_branchSet RX0 (k23 (l2, l3, τ)) τ 23 [(0, .ref h), (2, .int l2), (3, .int l3)] []) (l2 : Int32) (l3 : Int32) (σ : Ms) : VF (K0_branchSet) cX0_branchSet RX0 (F0_branchSet_b71 N h k23 l2 l3 σ) σ 71 [(0, .ref h), (2, .int l2), (3, .int l3)] [] := by
  unfold F0_branchSet_b71
  refine v_iinc (lv' := [(3, .int (l3 + (1 : Int32))), (0, .ref h), (2, .int l2)]) d0_branchSet_71 2 rfl (by rw [ki_1]) (by decide) rfl ?_
  refine v_goto (tgt := 23) d0_branchSet_74 (by decide) ?_
  refine v_sub [1, 2, 0] rfl ?_
  exact hk23 l2 (l3 + (1 : Int32)) σ
set_option maxRecDepth 100000 in
theorem v0_branchSet_b23B (N : Nat) (h : Nat) (hh : IsC h (0, 0, 0)) (k23 : Int32 × Int32 × Ms → Option (Int32 × Ms)) (hk23 : ∀ (l2 : Int32) (l3 : Int32) (τ : Ms), VF (K0_branchSet) cX0_branchSet RX0 (k23 (l2, l3, τ)) τ 23 [(0, .ref h), (2, .int l2), (3, .int l3)] []) (l2 : Int32) (l3 : Int32) (σ : Ms) : VF (K0_branchSet) cX0_branchSet RX0 (F0_branchSet_b23B N h k23 l2 l3 σ) σ 23 [(0, .ref h), (2, .int l2), (3, .int l3)] [] := by
  unfold F0_branchSet_b23B
  refine v_iload_n d0_branchSet_23 2 rfl rfl ?_
  refine v_aload_n d0_branchSet_24 0 rfl rfl ?_
  refine v_getI d0_branchSet_25 faX0_27 hh ?_
  refine v_icmp_ge (tgt := 77) d0_branchSet_28 (by decide) ?_ ?_
  · refine v_iload_n d0_branchSet_77 1 rfl rfl ?_
    exact v_iret d0_branchSet_78 rfl rfl rfl
  · refine v_iload_n d0_branchSet_31 2 rfl rfl ?_
    refine v_bipush d0_branchSet_32 kb_20 ?_
    refine v_icmp_ge (tgt := 77) d0_branchSet_34 (by decide) ?_ ?_
    · refine v_iload_n d0_branchSet_77 1 rfl rfl ?_
      exact v_iret d0_branchSet_78 rfl rfl rfl
    · refine v_aload_n d0_branchSet_37 0 rfl rfl ?_
      refine v_getR d0_branchSet_38 faX0_15 hh rfl ?_
      refine v_iload_n d0_branchSet_41 2 rfl rfl ?_
      refine v_iald d0_branchSet_42 (ih0_2 hh) ?_
      refine v_iconst d0_branchSet_43 ki_m1 ?_
      refine v_icmp_eq (tgt := 71) d0_branchSet_44 (by decide) ?_ ?_
      · exact v0_branchSet_b71 N h hh k23 hk23 l2 l3 σ
      · refine v_iload_n d0_branchSet_47 1 rfl rfl ?_
        refine v_aload_n d0_branchSet_48 0 rfl rfl ?_
        refine v_getR d0_branchSet_49 faX0_15 hh rfl ?_
        refine v_iload_n d0_branchSet_52 2 rfl rfl ?_
        refine v_iald d0_branchSet_53 (ih0_2 hh) ?_
        refine v_callN2i d0_branchSet_54 (mc11_isIn l2 (σ.1 (h + 2) l3.toNatClampNeg) σ) ys11_isIn neX0_60 (by decide) (Nat.le_of_ble_eq_true rfl) fun r1 t2 => ?_
        refine v_if_eq (tgt := 71) d0_branchSet_57 (by decide) ?_ ?_
        · exact v0_branchSet_b71 N h hh k23 hk23 l2 l3 t2
        · refine v_iload_n d0_branchSet_60 1 rfl rfl ?_
          refine v_aload_n d0_branchSet_61 0 rfl rfl ?_
          refine v_getI d0_branchSet_62 faX0_31 hh ?_
          refine v_iconst d0_branchSet_65 ki_1 ?_
          refine v_iload_n d0_branchSet_66 2 rfl rfl ?_
          refine v_ishl d0_branchSet_67 ?_
          refine v_iand d0_branchSet_68 ?_
          refine v_ior d0_branchSet_69 ?_
          refine v_lti fun x3 => ?_
          refine v_istore_n (lv' := [(2, .int x3), (0, .ref h), (3, .int l3)]) d0_branchSet_70 rfl (by decide) rfl ?_
          refine v_sub [1, 0, 2] rfl ?_
          exact v0_branchSet_b71 N h hh k23 hk23 x3 l3 t2
theorem v0_branchSet_b23 (N : Nat) (h : Nat) (hh : IsC h (0, 0, 0)) (l2 : Int32) (l3 : Int32) (σ : Ms) : VF (K0_branchSet) cX0_branchSet RX0 (F0_branchSet_b23 N h l2 l3 σ) σ 23 [(0, .ref h), (2, .int l2), (3, .int l3)] [] := v_fx (σo := fun x => x.2.2) (lo := fun x => [(0, .ref h), (2, .int x.1), (3, .int x.2.1)]) (fun k hk x => v0_branchSet_b23B N h hh k (fun l2 l3 τ => hk (l2, l3, τ)) x.1 x.2.1 x.2.2) N (l2, l3, σ)
set_option maxRecDepth 100000 in
theorem mc0_branchSet (N : Nat) (h : Nat) (hh : IsC h (0, 0, 0)) (p0 : Int32) (σ : Ms) : MC enI yX0_branchSet cX0_branchSet 4 (some .int) 2 (F0_branchSet N h p0 σ) σ [.ref h, .int p0] := by
  refine MC.i (by decide +kernel) (Nat.le_of_ble_eq_true rfl) ?_
  show VF (K0_branchSet) cX0_branchSet RX0 (F0_branchSet N h p0 σ) σ 0 [(0, .ref h), (1, .int p0)] []
  unfold F0_branchSet
  refine v_aload_n d0_branchSet_0 0 rfl rfl ?_
  refine v_iload_n d0_branchSet_1 1 rfl rfl ?_
  refine v_callV1i d0_branchSet_2 (mc0_hasSprig h hh p0 σ) yv0_hasSprig mlX0_56 (Recv.obj hh rfl) (by decide) (Nat.le_of_ble_eq_true rfl) fun r4 t5 => ?_
  refine v_if_ne (tgt := 10) d0_branchSet_5 (by decide) ?_ ?_
  · refine v_aload_n d0_branchSet_10 0 rfl rfl ?_
    refine v_getI d0_branchSet_11 faX0_31 hh ?_
    refine v_iconst d0_branchSet_14 ki_1 ?_
    refine v_iload_n d0_branchSet_15 1 rfl rfl ?_
    refine v_ishl d0_branchSet_16 ?_
    refine v_iand d0_branchSet_17 ?_
    refine v_lti fun x6 => ?_
    refine v_istore_n (lv' := [(2, .int x6), (0, .ref h), (1, .int p0)]) d0_branchSet_18 rfl (by decide) rfl ?_
    refine v_iload_n d0_branchSet_19 2 rfl rfl ?_
    refine v_iconst d0_branchSet_20 ki_1 ?_
    refine v_iadd d0_branchSet_21 ?_
    refine v_lti fun x7 => ?_
    refine v_istore_n (lv' := [(3, .int x7), (2, .int x6), (0, .ref h), (1, .int p0)]) d0_branchSet_22 rfl (by decide) rfl ?_
    refine v_sub [2, 1, 0] rfl ?_
    exact v0_branchSet_b23 N h hh x6 x7 t5
  · refine v_iconst d0_branchSet_8 ki_0 ?_
    exact v_iret d0_branchSet_9 rfl rfl rfl
theorem dJ6_bitCount_0f7a4_0 : decode cJ6_bitCount_0f7a4 0 = .ok (.iload_n 0, 1) := by decide +kernel
theorem dJ6_bitCount_0f7a4_1 : decode cJ6_bitCount_0f7a4 1 = .ok (.iload_n 0, 1) := by decide +kernel
theorem dJ6_bitCount_0f7a4_2 : decode cJ6_bitCount_0f7a4 2 = .ok (.iconst 1, 1) := by decide +kernel
theorem dJ6_bitCount_0f7a4_3 : decode cJ6_bitCount_0f7a4 3 = .ok (.iushr, 1) := by decide +kernel
theorem dJ6_bitCount_0f7a4_4 : decode cJ6_bitCount_0f7a4 4 = .ok (.ldc_w 265, 3) := by decide +kernel
theorem dJ6_bitCount_0f7a4_7 : decode cJ6_bitCount_0f7a4 7 = .ok (.iand, 1) := by decide +kernel
theorem dJ6_bitCount_0f7a4_8 : decode cJ6_bitCount_0f7a4 8 = .ok (.isub, 1) := by decide +kernel
theorem dJ6_bitCount_0f7a4_9 : decode cJ6_bitCount_0f7a4 9 = .ok (.istore_n 0, 1) := by decide +kernel
theorem dJ6_bitCount_0f7a4_10 : decode cJ6_bitCount_0f7a4 10 = .ok (.iload_n 0, 1) := by decide +kernel
theorem dJ6_bitCount_0f7a4_11 : decode cJ6_bitCount_0f7a4 11 = .ok (.ldc_w 266, 3) := by decide +kernel
theorem dJ6_bitCount_0f7a4_14 : decode cJ6_bitCount_0f7a4 14 = .ok (.iand, 1) := by decide +kernel
theorem dJ6_bitCount_0f7a4_15 : decode cJ6_bitCount_0f7a4 15 = .ok (.iload_n 0, 1) := by decide +kernel
theorem dJ6_bitCount_0f7a4_16 : decode cJ6_bitCount_0f7a4 16 = .ok (.iconst 2, 1) := by decide +kernel
theorem dJ6_bitCount_0f7a4_17 : decode cJ6_bitCount_0f7a4 17 = .ok (.iushr, 1) := by decide +kernel
theorem dJ6_bitCount_0f7a4_18 : decode cJ6_bitCount_0f7a4 18 = .ok (.ldc_w 266, 3) := by decide +kernel
theorem dJ6_bitCount_0f7a4_21 : decode cJ6_bitCount_0f7a4 21 = .ok (.iand, 1) := by decide +kernel
theorem dJ6_bitCount_0f7a4_22 : decode cJ6_bitCount_0f7a4 22 = .ok (.iadd, 1) := by decide +kernel
theorem dJ6_bitCount_0f7a4_23 : decode cJ6_bitCount_0f7a4 23 = .ok (.istore_n 0, 1) := by decide +kernel
theorem dJ6_bitCount_0f7a4_24 : decode cJ6_bitCount_0f7a4 24 = .ok (.iload_n 0, 1) := by decide +kernel
theorem dJ6_bitCount_0f7a4_25 : decode cJ6_bitCount_0f7a4 25 = .ok (.iload_n 0, 1) := by decide +kernel
theorem dJ6_bitCount_0f7a4_26 : decode cJ6_bitCount_0f7a4 26 = .ok (.iconst 4, 1) := by decide +kernel
theorem dJ6_bitCount_0f7a4_27 : decode cJ6_bitCount_0f7a4 27 = .ok (.iushr, 1) := by decide +kernel
theorem dJ6_bitCount_0f7a4_28 : decode cJ6_bitCount_0f7a4 28 = .ok (.iadd, 1) := by decide +kernel
theorem dJ6_bitCount_0f7a4_29 : decode cJ6_bitCount_0f7a4 29 = .ok (.ldc_w 267, 3) := by decide +kernel
theorem dJ6_bitCount_0f7a4_32 : decode cJ6_bitCount_0f7a4 32 = .ok (.iand, 1) := by decide +kernel
theorem dJ6_bitCount_0f7a4_33 : decode cJ6_bitCount_0f7a4 33 = .ok (.istore_n 0, 1) := by decide +kernel
theorem dJ6_bitCount_0f7a4_34 : decode cJ6_bitCount_0f7a4 34 = .ok (.iload_n 0, 1) := by decide +kernel
theorem dJ6_bitCount_0f7a4_35 : decode cJ6_bitCount_0f7a4 35 = .ok (.iload_n 0, 1) := by decide +kernel
theorem dJ6_bitCount_0f7a4_36 : decode cJ6_bitCount_0f7a4 36 = .ok (.bipush 8, 2) := by decide +kernel
theorem dJ6_bitCount_0f7a4_38 : decode cJ6_bitCount_0f7a4 38 = .ok (.iushr, 1) := by decide +kernel
theorem dJ6_bitCount_0f7a4_39 : decode cJ6_bitCount_0f7a4 39 = .ok (.iadd, 1) := by decide +kernel
theorem dJ6_bitCount_0f7a4_40 : decode cJ6_bitCount_0f7a4 40 = .ok (.istore_n 0, 1) := by decide +kernel
theorem dJ6_bitCount_0f7a4_41 : decode cJ6_bitCount_0f7a4 41 = .ok (.iload_n 0, 1) := by decide +kernel
theorem dJ6_bitCount_0f7a4_42 : decode cJ6_bitCount_0f7a4 42 = .ok (.iload_n 0, 1) := by decide +kernel
theorem dJ6_bitCount_0f7a4_43 : decode cJ6_bitCount_0f7a4 43 = .ok (.bipush 16, 2) := by decide +kernel
theorem dJ6_bitCount_0f7a4_45 : decode cJ6_bitCount_0f7a4 45 = .ok (.iushr, 1) := by decide +kernel
theorem dJ6_bitCount_0f7a4_46 : decode cJ6_bitCount_0f7a4 46 = .ok (.iadd, 1) := by decide +kernel
theorem dJ6_bitCount_0f7a4_47 : decode cJ6_bitCount_0f7a4 47 = .ok (.istore_n 0, 1) := by decide +kernel
theorem dJ6_bitCount_0f7a4_48 : decode cJ6_bitCount_0f7a4 48 = .ok (.iload_n 0, 1) := by decide +kernel
theorem dJ6_bitCount_0f7a4_49 : decode cJ6_bitCount_0f7a4 49 = .ok (.bipush 63, 2) := by decide +kernel
theorem dJ6_bitCount_0f7a4_51 : decode cJ6_bitCount_0f7a4 51 = .ok (.iand, 1) := by decide +kernel
theorem dJ6_bitCount_0f7a4_52 : decode cJ6_bitCount_0f7a4 52 = .ok (.ireturn, 1) := by decide +kernel
abbrev KJ6_bitCount_0f7a4 : CK Int32 := (enI, (some .int), 1, 1, none)
noncomputable def FJ6_bitCount_0f7a4 (p0 : Int32) (σ : Ms) : Option (Int32 × Ms) :=
  lt (p0 - (((p0.toUInt32 >>> ((1 : Int32).toUInt32 &&& Int32.toUInt32 31)).toInt32) &&& (1431655765 : Int32))) (fun x1 => lt ((x1 &&& (858993459 : Int32)) + (((x1.toUInt32 >>> ((2 : Int32).toUInt32 &&& Int32.toUInt32 31)).toInt32) &&& (858993459 : Int32))) (fun x2 => lt ((x2 + ((x2.toUInt32 >>> ((4 : Int32).toUInt32 &&& Int32.toUInt32 31)).toInt32)) &&& (252645135 : Int32)) (fun x3 => lt (x3 + ((x3.toUInt32 >>> ((8 : Int32).toUInt32 &&& Int32.toUInt32 31)).toInt32)) (fun x4 => lt (x4 + ((x4.toUInt32 >>> ((16 : Int32).toUInt32 &&& Int32.toUInt32 31)).toInt32)) (fun x5 => some ((x5 &&& (63 : Int32)), σ))))))
set_option maxRecDepth 100000 in
theorem mcJ6_bitCount_0f7a4 (p0 : Int32) (σ : Ms) : MC enI yJ6_bitCount_0f7a4 cJ6_bitCount_0f7a4 1 (some .int) 1 (FJ6_bitCount_0f7a4 p0 σ) σ [.int p0] := by
  refine MC.i (by decide +kernel) (Nat.le_of_ble_eq_true rfl) ?_
  show VF (KJ6_bitCount_0f7a4) cJ6_bitCount_0f7a4 RJ6 (FJ6_bitCount_0f7a4 p0 σ) σ 0 [(0, .int p0)] []
  unfold FJ6_bitCount_0f7a4
  refine v_iload_n dJ6_bitCount_0f7a4_0 0 rfl rfl ?_
  refine v_iload_n dJ6_bitCount_0f7a4_1 0 rfl rfl ?_
  refine v_iconst dJ6_bitCount_0f7a4_2 ki_1 ?_
  refine v_iushr dJ6_bitCount_0f7a4_3 ?_
  refine v_ldc_w dJ6_bitCount_0f7a4_4 kcJ6_265 ?_
  refine v_iand dJ6_bitCount_0f7a4_7 ?_
  refine v_isub dJ6_bitCount_0f7a4_8 ?_
  refine v_lti fun x1 => ?_
  refine v_istore_n (lv' := [(0, .int x1)]) dJ6_bitCount_0f7a4_9 rfl (by decide) rfl ?_
  refine v_iload_n dJ6_bitCount_0f7a4_10 0 rfl rfl ?_
  refine v_ldc_w dJ6_bitCount_0f7a4_11 kcJ6_266 ?_
  refine v_iand dJ6_bitCount_0f7a4_14 ?_
  refine v_iload_n dJ6_bitCount_0f7a4_15 0 rfl rfl ?_
  refine v_iconst dJ6_bitCount_0f7a4_16 ki_2 ?_
  refine v_iushr dJ6_bitCount_0f7a4_17 ?_
  refine v_ldc_w dJ6_bitCount_0f7a4_18 kcJ6_266 ?_
  refine v_iand dJ6_bitCount_0f7a4_21 ?_
  refine v_iadd dJ6_bitCount_0f7a4_22 ?_
  refine v_lti fun x2 => ?_
  refine v_istore_n (lv' := [(0, .int x2)]) dJ6_bitCount_0f7a4_23 rfl (by decide) rfl ?_
  refine v_iload_n dJ6_bitCount_0f7a4_24 0 rfl rfl ?_
  refine v_iload_n dJ6_bitCount_0f7a4_25 0 rfl rfl ?_
  refine v_iconst dJ6_bitCount_0f7a4_26 ki_4 ?_
  refine v_iushr dJ6_bitCount_0f7a4_27 ?_
  refine v_iadd dJ6_bitCount_0f7a4_28 ?_
  refine v_ldc_w dJ6_bitCount_0f7a4_29 kcJ6_267 ?_
  refine v_iand dJ6_bitCount_0f7a4_32 ?_
  refine v_lti fun x3 => ?_
  refine v_istore_n (lv' := [(0, .int x3)]) dJ6_bitCount_0f7a4_33 rfl (by decide) rfl ?_
  refine v_iload_n dJ6_bitCount_0f7a4_34 0 rfl rfl ?_
  refine v_iload_n dJ6_bitCount_0f7a4_35 0 rfl rfl ?_
  refine v_bipush dJ6_bitCount_0f7a4_36 kb_8 ?_
  refine v_iushr dJ6_bitCount_0f7a4_38 ?_
  refine v_iadd dJ6_bitCount_0f7a4_39 ?_
  refine v_lti fun x4 => ?_
  refine v_istore_n (lv' := [(0, .int x4)]) dJ6_bitCount_0f7a4_40 rfl (by decide) rfl ?_
  refine v_iload_n dJ6_bitCount_0f7a4_41 0 rfl rfl ?_
  refine v_iload_n dJ6_bitCount_0f7a4_42 0 rfl rfl ?_
  refine v_bipush dJ6_bitCount_0f7a4_43 kb_16 ?_
  refine v_iushr dJ6_bitCount_0f7a4_45 ?_
  refine v_iadd dJ6_bitCount_0f7a4_46 ?_
  refine v_lti fun x5 => ?_
  refine v_istore_n (lv' := [(0, .int x5)]) dJ6_bitCount_0f7a4_47 rfl (by decide) rfl ?_
  refine v_iload_n dJ6_bitCount_0f7a4_48 0 rfl rfl ?_
  refine v_bipush dJ6_bitCount_0f7a4_49 kb_63 ?_
  refine v_iand dJ6_bitCount_0f7a4_51 ?_
  exact v_iret dJ6_bitCount_0f7a4_52 rfl rfl rfl
theorem d0_shear_0 : decode cX0_shear 0 = .ok (.aload_n 0, 1) := by decide +kernel
theorem d0_shear_1 : decode cX0_shear 1 = .ok (.iload_n 1, 1) := by decide +kernel
theorem d0_shear_2 : decode cX0_shear 2 = .ok (.invokevirtual 76, 3) := by decide +kernel
theorem d0_shear_5 : decode cX0_shear 5 = .ok (.istore_n 2, 1) := by decide +kernel
theorem d0_shear_6 : decode cX0_shear 6 = .ok (.aload_n 0, 1) := by decide +kernel
theorem d0_shear_7 : decode cX0_shear 7 = .ok (.dup, 1) := by decide +kernel
theorem d0_shear_8 : decode cX0_shear 8 = .ok (.getfield 31, 3) := by decide +kernel
theorem d0_shear_11 : decode cX0_shear 11 = .ok (.iload_n 2, 1) := by decide +kernel
theorem d0_shear_12 : decode cX0_shear 12 = .ok (.iconst (-1), 1) := by decide +kernel
theorem d0_shear_13 : decode cX0_shear 13 = .ok (.ixor, 1) := by decide +kernel
theorem d0_shear_14 : decode cX0_shear 14 = .ok (.iand, 1) := by decide +kernel
theorem d0_shear_15 : decode cX0_shear 15 = .ok (.putfield 31, 3) := by decide +kernel
theorem d0_shear_18 : decode cX0_shear 18 = .ok (.aload_n 0, 1) := by decide +kernel
theorem d0_shear_19 : decode cX0_shear 19 = .ok (.dup, 1) := by decide +kernel
theorem d0_shear_20 : decode cX0_shear 20 = .ok (.getfield 46, 3) := by decide +kernel
theorem d0_shear_23 : decode cX0_shear 23 = .ok (.iconst 1, 1) := by decide +kernel
theorem d0_shear_24 : decode cX0_shear 24 = .ok (.iadd, 1) := by decide +kernel
theorem d0_shear_25 : decode cX0_shear 25 = .ok (.putfield 46, 3) := by decide +kernel
theorem d0_shear_28 : decode cX0_shear 28 = .ok (.iload_n 2, 1) := by decide +kernel
theorem d0_shear_29 : decode cX0_shear 29 = .ok (.invokestatic 80, 3) := by decide +kernel
theorem d0_shear_32 : decode cX0_shear 32 = .ok (.ireturn, 1) := by decide +kernel
abbrev K0_shear : CK Int32 := (enI, (some .int), 3, 3, none)
noncomputable def F0_shear (N : Nat) (h : Nat) (p0 : Int32) (σ : Ms) : Option (Int32 × Ms) :=
  bn (F0_branchSet N h p0 σ) (fun r1 t2 => lt (sI t2 h 6 ((t2.1 h 6) &&& (r1 ^^^ (-1 : Int32)))) (fun t3 => lt (sI t3 h 11 ((t3.1 h 11) + (1 : Int32))) (fun t4 => bn (FJ6_bitCount_0f7a4 r1 t4) (fun r5 t6 => some (r5, t6)))))
set_option maxRecDepth 100000 in
theorem mc0_shear (N : Nat) (h : Nat) (hh : IsC h (0, 0, 0)) (p0 : Int32) (σ : Ms) : MC enI yX0_shear cX0_shear 3 (some .int) 3 (F0_shear N h p0 σ) σ [.ref h, .int p0] := by
  refine MC.i (by decide +kernel) (Nat.le_of_ble_eq_true rfl) ?_
  show VF (K0_shear) cX0_shear RX0 (F0_shear N h p0 σ) σ 0 [(0, .ref h), (1, .int p0)] []
  unfold F0_shear
  refine v_aload_n d0_shear_0 0 rfl rfl ?_
  refine v_iload_n d0_shear_1 1 rfl rfl ?_
  refine v_callV1i d0_shear_2 (mc0_branchSet N h hh p0 σ) yv0_branchSet mlX0_76 (Recv.obj hh rfl) (by decide) (Nat.le_of_ble_eq_true rfl) fun r1 t2 => ?_
  refine v_istore_n (lv' := [(2, .int r1), (0, .ref h), (1, .int p0)]) d0_shear_5 rfl (by decide) rfl ?_
  refine v_aload_n d0_shear_6 1 rfl rfl ?_
  refine v_dup d0_shear_7 rfl ?_
  refine v_getI d0_shear_8 faX0_31 hh ?_
  refine v_iload_n d0_shear_11 0 rfl rfl ?_
  refine v_iconst d0_shear_12 ki_m1 ?_
  refine v_ixor d0_shear_13 ?_
  refine v_iand d0_shear_14 ?_
  refine v_putI d0_shear_15 faX0_31 fp0_6 hh ?_
  refine v_lts fun t3 => ?_
  refine v_aload_n d0_shear_18 1 rfl rfl ?_
  refine v_dup d0_shear_19 rfl ?_
  refine v_getI d0_shear_20 faX0_46 hh ?_
  refine v_iconst d0_shear_23 ki_1 ?_
  refine v_iadd d0_shear_24 ?_
  refine v_putI d0_shear_25 faX0_46 fp0_11 hh ?_
  refine v_lts fun t4 => ?_
  refine v_iload_n d0_shear_28 0 rfl rfl ?_
  refine v_callS1i d0_shear_29 (mcJ6_bitCount_0f7a4 r1 t4) ysJ6_bitCount_0f7a4 mlX0_80 (by decide) (Nat.le_of_ble_eq_true rfl) fun r5 t6 => ?_
  exact v_iret d0_shear_32 rfl rfl rfl
theorem d0_gain_0 : decode cX0_gain 0 = .ok (.aload_n 0, 1) := by decide +kernel
theorem d0_gain_1 : decode cX0_gain 1 = .ok (.iload_n 1, 1) := by decide +kernel
theorem d0_gain_2 : decode cX0_gain 2 = .ok (.invokevirtual 67, 3) := by decide +kernel
theorem d0_gain_5 : decode cX0_gain 5 = .ok (.ifCond .ne 5, 3) := by decide +kernel
theorem d0_gain_8 : decode cX0_gain 8 = .ok (.iconst 0, 1) := by decide +kernel
theorem d0_gain_9 : decode cX0_gain 9 = .ok (.ireturn, 1) := by decide +kernel
theorem d0_gain_10 : decode cX0_gain 10 = .ok (.iload_n 2, 1) := by decide +kernel
theorem d0_gain_11 : decode cX0_gain 11 = .ok (.ifCond .ne 12, 3) := by decide +kernel
theorem d0_gain_14 : decode cX0_gain 14 = .ok (.aload_n 0, 1) := by decide +kernel
theorem d0_gain_15 : decode cX0_gain 15 = .ok (.getfield 21, 3) := by decide +kernel
theorem d0_gain_18 : decode cX0_gain 18 = .ok (.iload_n 1, 1) := by decide +kernel
theorem d0_gain_19 : decode cX0_gain 19 = .ok (.iaload, 1) := by decide +kernel
theorem d0_gain_20 : decode cX0_gain 20 = .ok (.goto 10, 3) := by decide +kernel
theorem d0_gain_23 : decode cX0_gain 23 = .ok (.aload_n 0, 1) := by decide +kernel
theorem d0_gain_24 : decode cX0_gain 24 = .ok (.getfield 24, 3) := by decide +kernel
theorem d0_gain_27 : decode cX0_gain 27 = .ok (.iload_n 1, 1) := by decide +kernel
theorem d0_gain_28 : decode cX0_gain 28 = .ok (.iaload, 1) := by decide +kernel
theorem d0_gain_29 : decode cX0_gain 29 = .ok (.ineg, 1) := by decide +kernel
theorem d0_gain_30 : decode cX0_gain 30 = .ok (.ireturn, 1) := by decide +kernel
abbrev K0_gain : CK Int32 := (enI, (some .int), 3, 2, none)
noncomputable def F0_gain (h : Nat) (p0 : Int32) (p1 : Int32) (σ : Ms) : Option (Int32 × Ms) :=
  bn (F0_hasBet h p0 σ) (fun r1 t2 => if r1 ≠ 0 then (if p1 ≠ 0 then (ck (ixb p0 5) (some ((-(t2.1 (h + 5) p0.toNatClampNeg)), t2)))
  else (ck (ixb p0 5) (some ((t2.1 (h + 4) p0.toNatClampNeg), t2))))
  else (some ((0 : Int32), t2)))
set_option maxRecDepth 100000 in
theorem mc0_gain (h : Nat) (hh : IsC h (0, 0, 0)) (p0 : Int32) (p1 : Int32) (σ : Ms) : MC enI yX0_gain cX0_gain 3 (some .int) 2 (F0_gain h p0 p1 σ) σ [.ref h, .int p0, .int p1] := by
  refine MC.i (by decide +kernel) (Nat.le_of_ble_eq_true rfl) ?_
  show VF (K0_gain) cX0_gain RX0 (F0_gain h p0 p1 σ) σ 0 [(0, .ref h), (1, .int p0), (2, .int p1)] []
  unfold F0_gain
  refine v_aload_n d0_gain_0 0 rfl rfl ?_
  refine v_iload_n d0_gain_1 1 rfl rfl ?_
  refine v_callV1i d0_gain_2 (mc0_hasBet h hh p0 σ) yv0_hasBet mlX0_67 (Recv.obj hh rfl) (by decide) (Nat.le_of_ble_eq_true rfl) fun r1 t2 => ?_
  refine v_if_ne (tgt := 10) d0_gain_5 (by decide) ?_ ?_
  · refine v_iload_n d0_gain_10 2 rfl rfl ?_
    refine v_if_ne (tgt := 23) d0_gain_11 (by decide) ?_ ?_
    · refine v_aload_n d0_gain_23 0 rfl rfl ?_
      refine v_getR d0_gain_24 faX0_24 hh rfl ?_
      refine v_iload_n d0_gain_27 1 rfl rfl ?_
      refine v_iald d0_gain_28 (ih0_5 hh) ?_
      refine v_ineg d0_gain_29 ?_
      exact v_iret d0_gain_30 rfl rfl rfl
    · refine v_aload_n d0_gain_14 0 rfl rfl ?_
      refine v_getR d0_gain_15 faX0_21 hh rfl ?_
      refine v_iload_n d0_gain_18 1 rfl rfl ?_
      refine v_iald d0_gain_19 (ih0_4 hh) ?_
      refine v_goto (tgt := 30) d0_gain_20 (by decide) ?_
      exact v_iret d0_gain_30 rfl rfl rfl
  · refine v_iconst d0_gain_8 ki_0 ?_
    exact v_iret d0_gain_9 rfl rfl rfl
theorem d0_winBet_0 : decode cX0_winBet 0 = .ok (.aload_n 0, 1) := by decide +kernel
theorem d0_winBet_1 : decode cX0_winBet 1 = .ok (.iload_n 2, 1) := by decide +kernel
theorem d0_winBet_2 : decode cX0_winBet 2 = .ok (.invokevirtual 85, 3) := by decide +kernel
theorem d0_winBet_5 : decode cX0_winBet 5 = .ok (.ifCond .ne 4, 3) := by decide +kernel
theorem d0_winBet_8 : decode cX0_winBet 8 = .ok (.return_, 1) := by decide +kernel
theorem d0_winBet_9 : decode cX0_winBet 9 = .ok (.aload_n 0, 1) := by decide +kernel
theorem d0_winBet_10 : decode cX0_winBet 10 = .ok (.dup, 1) := by decide +kernel
theorem d0_winBet_11 : decode cX0_winBet 11 = .ok (.getfield 43, 3) := by decide +kernel
theorem d0_winBet_14 : decode cX0_winBet 14 = .ok (.aload_n 0, 1) := by decide +kernel
theorem d0_winBet_15 : decode cX0_winBet 15 = .ok (.iload_n 2, 1) := by decide +kernel
theorem d0_winBet_16 : decode cX0_winBet 16 = .ok (.iload_n 1, 1) := by decide +kernel
theorem d0_winBet_17 : decode cX0_winBet 17 = .ok (.invokevirtual 88, 3) := by decide +kernel
theorem d0_winBet_20 : decode cX0_winBet 20 = .ok (.iadd, 1) := by decide +kernel
theorem d0_winBet_21 : decode cX0_winBet 21 = .ok (.putfield 43, 3) := by decide +kernel
theorem d0_winBet_24 : decode cX0_winBet 24 = .ok (.aload_n 0, 1) := by decide +kernel
theorem d0_winBet_25 : decode cX0_winBet 25 = .ok (.dup, 1) := by decide +kernel
theorem d0_winBet_26 : decode cX0_winBet 26 = .ok (.getfield 40, 3) := by decide +kernel
theorem d0_winBet_29 : decode cX0_winBet 29 = .ok (.iconst 1, 1) := by decide +kernel
theorem d0_winBet_30 : decode cX0_winBet 30 = .ok (.iload_n 2, 1) := by decide +kernel
theorem d0_winBet_31 : decode cX0_winBet 31 = .ok (.ishl, 1) := by decide +kernel
theorem d0_winBet_32 : decode cX0_winBet 32 = .ok (.ior, 1) := by decide +kernel
theorem d0_winBet_33 : decode cX0_winBet 33 = .ok (.putfield 40, 3) := by decide +kernel
theorem d0_winBet_36 : decode cX0_winBet 36 = .ok (.return_, 1) := by decide +kernel
abbrev K0_winBet : CK Unit := (enV, none, 3, 3, none)
noncomputable def F0_winBet (h : Nat) (p0 : Int32) (p1 : Int32) (σ : Ms) : Option (Unit × Ms) :=
  bn (F0_mayTake h p1 σ) (fun r1 t2 => if r1 ≠ 0 then (bn (F0_gain h p1 p0 t2) (fun r3 t4 => lt (sI t4 h 10 ((t2.1 h 10) + r3)) (fun t5 => lt (sI t5 h 9 ((t5.1 h 9) ||| ((1 : Int32) <<< (p1 &&& 31)))) (fun t6 => some ((), t6)))))
  else (some ((), t2)))
set_option maxRecDepth 100000 in
theorem mc0_winBet (h : Nat) (hh : IsC h (0, 0, 0)) (p0 : Int32) (p1 : Int32) (σ : Ms) : MC enV yX0_winBet cX0_winBet 3 none 3 (F0_winBet h p0 p1 σ) σ [.ref h, .int p0, .int p1] := by
  refine MC.v (by decide +kernel) (Nat.le_of_ble_eq_true rfl) ?_
  show VF (K0_winBet) cX0_winBet RX0 (F0_winBet h p0 p1 σ) σ 0 [(0, .ref h), (1, .int p0), (2, .int p1)] []
  unfold F0_winBet
  refine v_aload_n d0_winBet_0 0 rfl rfl ?_
  refine v_iload_n d0_winBet_1 2 rfl rfl ?_
  refine v_callV1i d0_winBet_2 (mc0_mayTake h hh p1 σ) yv0_mayTake mlX0_85 (Recv.obj hh rfl) (by decide) (Nat.le_of_ble_eq_true rfl) fun r1 t2 => ?_
  refine v_if_ne (tgt := 9) d0_winBet_5 (by decide) ?_ ?_
  · refine v_aload_n d0_winBet_9 0 rfl rfl ?_
    refine v_dup d0_winBet_10 rfl ?_
    refine v_getI d0_winBet_11 faX0_43 hh ?_
    refine v_aload_n d0_winBet_14 0 rfl rfl ?_
    refine v_iload_n d0_winBet_15 2 rfl rfl ?_
    refine v_iload_n d0_winBet_16 1 rfl rfl ?_
    refine v_callV2i d0_winBet_17 (mc0_gain h hh p1 p0 t2) yv0_gain mlX0_88 (Recv.obj hh rfl) (by decide) (Nat.le_of_ble_eq_true rfl) fun r3 t4 => ?_
    refine v_iadd d0_winBet_20 ?_
    refine v_putI d0_winBet_21 faX0_43 fp0_10 hh ?_
    refine v_lts fun t5 => ?_
    refine v_aload_n d0_winBet_24 0 rfl rfl ?_
    refine v_dup d0_winBet_25 rfl ?_
    refine v_getI d0_winBet_26 faX0_40 hh ?_
    refine v_iconst d0_winBet_29 ki_1 ?_
    refine v_iload_n d0_winBet_30 2 rfl rfl ?_
    refine v_ishl d0_winBet_31 ?_
    refine v_ior d0_winBet_32 ?_
    refine v_putI d0_winBet_33 faX0_40 fp0_9 hh ?_
    refine v_lts fun t6 => ?_
    exact v_vret d0_winBet_36 rfl
  · exact v_vret d0_winBet_8 rfl
theorem d0_lessen_0 : decode cX0_lessen 0 = .ok (.aload_n 0, 1) := by decide +kernel
theorem d0_lessen_1 : decode cX0_lessen 1 = .ok (.iload_n 1, 1) := by decide +kernel
theorem d0_lessen_2 : decode cX0_lessen 2 = .ok (.iload_n 2, 1) := by decide +kernel
theorem d0_lessen_3 : decode cX0_lessen 3 = .ok (.invokevirtual 92, 3) := by decide +kernel
theorem d0_lessen_6 : decode cX0_lessen 6 = .ok (.ifCond .eq 10, 3) := by decide +kernel
theorem d0_lessen_9 : decode cX0_lessen 9 = .ok (.aload_n 0, 1) := by decide +kernel
theorem d0_lessen_10 : decode cX0_lessen 10 = .ok (.getfield 18, 3) := by decide +kernel
theorem d0_lessen_13 : decode cX0_lessen 13 = .ok (.iload_n 1, 1) := by decide +kernel
theorem d0_lessen_14 : decode cX0_lessen 14 = .ok (.iload_n 2, 1) := by decide +kernel
theorem d0_lessen_15 : decode cX0_lessen 15 = .ok (.iastore, 1) := by decide +kernel
theorem d0_lessen_16 : decode cX0_lessen 16 = .ok (.return_, 1) := by decide +kernel
abbrev K0_lessen : CK Unit := (enV, none, 3, 3, none)
noncomputable def F0_lessen (h : Nat) (p0 : Int32) (p1 : Int32) (σ : Ms) : Option (Unit × Ms) :=
  bn (F0_mayLessen h p0 p1 σ) (fun r1 t2 => if r1 = 0 then (some ((), t2))
  else (ck (ixb p0 4) (lt (sI t2 (h + 3) p0.toNatClampNeg p1) (fun t3 => some ((), t3)))))
set_option maxRecDepth 100000 in
theorem mc0_lessen (h : Nat) (hh : IsC h (0, 0, 0)) (p0 : Int32) (p1 : Int32) (σ : Ms) : MC enV yX0_lessen cX0_lessen 3 none 3 (F0_lessen h p0 p1 σ) σ [.ref h, .int p0, .int p1] := by
  refine MC.v (by decide +kernel) (Nat.le_of_ble_eq_true rfl) ?_
  show VF (K0_lessen) cX0_lessen RX0 (F0_lessen h p0 p1 σ) σ 0 [(0, .ref h), (1, .int p0), (2, .int p1)] []
  unfold F0_lessen
  refine v_aload_n d0_lessen_0 0 rfl rfl ?_
  refine v_iload_n d0_lessen_1 1 rfl rfl ?_
  refine v_iload_n d0_lessen_2 2 rfl rfl ?_
  refine v_callV2i d0_lessen_3 (mc0_mayLessen h hh p0 p1 σ) yv0_mayLessen mlX0_92 (Recv.obj hh rfl) (by decide) (Nat.le_of_ble_eq_true rfl) fun r1 t2 => ?_
  refine v_if_eq (tgt := 16) d0_lessen_6 (by decide) ?_ ?_
  · exact v_vret d0_lessen_16 rfl
  · refine v_aload_n d0_lessen_9 0 rfl rfl ?_
    refine v_getR d0_lessen_10 faX0_18 hh rfl ?_
    refine v_iload_n d0_lessen_13 1 rfl rfl ?_
    refine v_iload_n d0_lessen_14 2 rfl rfl ?_
    refine v_iast d0_lessen_15 (ih0_3 hh) ?_
    refine v_lts fun t3 => ?_
    exact v_vret d0_lessen_16 rfl
theorem d0_spendOne_0 : decode cX0_spendOne 0 = .ok (.aload_n 0, 1) := by decide +kernel
theorem d0_spendOne_1 : decode cX0_spendOne 1 = .ok (.dup, 1) := by decide +kernel
theorem d0_spendOne_2 : decode cX0_spendOne 2 = .ok (.getfield 43, 3) := by decide +kernel
theorem d0_spendOne_5 : decode cX0_spendOne 5 = .ok (.iload_n 1, 1) := by decide +kernel
theorem d0_spendOne_6 : decode cX0_spendOne 6 = .ok (.ifCond .ne 7, 3) := by decide +kernel
theorem d0_spendOne_9 : decode cX0_spendOne 9 = .ok (.iconst (-1), 1) := by decide +kernel
theorem d0_spendOne_10 : decode cX0_spendOne 10 = .ok (.goto 4, 3) := by decide +kernel
theorem d0_spendOne_13 : decode cX0_spendOne 13 = .ok (.iconst 1, 1) := by decide +kernel
theorem d0_spendOne_14 : decode cX0_spendOne 14 = .ok (.iadd, 1) := by decide +kernel
theorem d0_spendOne_15 : decode cX0_spendOne 15 = .ok (.putfield 43, 3) := by decide +kernel
theorem d0_spendOne_18 : decode cX0_spendOne 18 = .ok (.return_, 1) := by decide +kernel
abbrev K0_spendOne : CK Unit := (enV, none, 2, 1, none)
noncomputable def F0_spendOne_b14 (h : Nat) (s1 : Int32) (s2 : Int32) (σ : Ms) : Option (Unit × Ms) :=
  lt (sI σ h 10 (s1 + s2)) (fun t1 => some ((), t1))
noncomputable def F0_spendOne (h : Nat) (p0 : Int32) (σ : Ms) : Option (Unit × Ms) :=
  if p0 ≠ 0 then (F0_spendOne_b14 h (σ.1 h 10) (1 : Int32) σ)
  else (F0_spendOne_b14 h (σ.1 h 10) (-1 : Int32) σ)
set_option maxRecDepth 100000 in
theorem v0_spendOne_b14 (h : Nat) (hh : IsC h (0, 0, 0)) (s1 : Int32) (s2 : Int32) (σ : Ms) : VF (K0_spendOne) cX0_spendOne RX0 (F0_spendOne_b14 h s1 s2 σ) σ 14 [] [.int s2, .int s1, .ref h] := by
  unfold F0_spendOne_b14
  refine v_iadd d0_spendOne_14 ?_
  refine v_putI d0_spendOne_15 faX0_43 fp0_10 hh ?_
  refine v_lts fun t1 => ?_
  exact v_vret d0_spendOne_18 rfl
set_option maxRecDepth 100000 in
theorem mc0_spendOne (h : Nat) (hh : IsC h (0, 0, 0)) (p0 : Int32) (σ : Ms) : MC enV yX0_spendOne cX0_spendOne 2 none 1 (F0_spendOne h p0 σ) σ [.ref h, .int p0] := by
  refine MC.v (by decide +kernel) (Nat.le_of_ble_eq_true rfl) ?_
  show VF (K0_spendOne) cX0_spendOne RX0 (F0_spendOne h p0 σ) σ 0 [(0, .ref h), (1, .int p0)] []
  unfold F0_spendOne
  refine v_aload_n d0_spendOne_0 0 rfl rfl ?_
  refine v_dup d0_spendOne_1 rfl ?_
  refine v_getI d0_spendOne_2 faX0_43 hh ?_
  refine v_iload_n d0_spendOne_5 1 rfl rfl ?_
  refine v_if_ne (tgt := 13) d0_spendOne_6 (by decide) ?_ ?_
  · refine v_iconst d0_spendOne_13 ki_1 ?_
    refine v_sub [] rfl ?_
    exact v0_spendOne_b14 h hh (σ.1 h 10) (1 : Int32) σ
  · refine v_iconst d0_spendOne_9 ki_m1 ?_
    refine v_goto (tgt := 14) d0_spendOne_10 (by decide) ?_
    refine v_sub [] rfl ?_
    exact v0_spendOne_b14 h hh (σ.1 h 10) (-1 : Int32) σ
theorem d0_betFor_0 : decode cX0_betFor 0 = .ok (.aload_n 0, 1) := by decide +kernel
theorem d0_betFor_1 : decode cX0_betFor 1 = .ok (.iload_n 1, 1) := by decide +kernel
theorem d0_betFor_2 : decode cX0_betFor 2 = .ok (.invokevirtual 67, 3) := by decide +kernel
theorem d0_betFor_5 : decode cX0_betFor 5 = .ok (.ifCond .ne 5, 3) := by decide +kernel
theorem d0_betFor_8 : decode cX0_betFor 8 = .ok (.iconst 0, 1) := by decide +kernel
theorem d0_betFor_9 : decode cX0_betFor 9 = .ok (.ireturn, 1) := by decide +kernel
theorem d0_betFor_10 : decode cX0_betFor 10 = .ok (.iload_n 2, 1) := by decide +kernel
theorem d0_betFor_11 : decode cX0_betFor 11 = .ok (.ifCond .ne 12, 3) := by decide +kernel
theorem d0_betFor_14 : decode cX0_betFor 14 = .ok (.aload_n 0, 1) := by decide +kernel
theorem d0_betFor_15 : decode cX0_betFor 15 = .ok (.getfield 21, 3) := by decide +kernel
theorem d0_betFor_18 : decode cX0_betFor 18 = .ok (.iload_n 1, 1) := by decide +kernel
theorem d0_betFor_19 : decode cX0_betFor 19 = .ok (.iaload, 1) := by decide +kernel
theorem d0_betFor_20 : decode cX0_betFor 20 = .ok (.goto 9, 3) := by decide +kernel
theorem d0_betFor_23 : decode cX0_betFor 23 = .ok (.aload_n 0, 1) := by decide +kernel
theorem d0_betFor_24 : decode cX0_betFor 24 = .ok (.getfield 24, 3) := by decide +kernel
theorem d0_betFor_27 : decode cX0_betFor 27 = .ok (.iload_n 1, 1) := by decide +kernel
theorem d0_betFor_28 : decode cX0_betFor 28 = .ok (.iaload, 1) := by decide +kernel
theorem d0_betFor_29 : decode cX0_betFor 29 = .ok (.ireturn, 1) := by decide +kernel
abbrev K0_betFor : CK Int32 := (enI, (some .int), 3, 2, none)
noncomputable def F0_betFor (h : Nat) (p0 : Int32) (p1 : Int32) (σ : Ms) : Option (Int32 × Ms) :=
  bn (F0_hasBet h p0 σ) (fun r1 t2 => if r1 ≠ 0 then (if p1 ≠ 0 then (ck (ixb p0 5) (some ((t2.1 (h + 5) p0.toNatClampNeg), t2)))
  else (ck (ixb p0 5) (some ((t2.1 (h + 4) p0.toNatClampNeg), t2))))
  else (some ((0 : Int32), t2)))
set_option maxRecDepth 100000 in
theorem mc0_betFor (h : Nat) (hh : IsC h (0, 0, 0)) (p0 : Int32) (p1 : Int32) (σ : Ms) : MC enI yX0_betFor cX0_betFor 3 (some .int) 2 (F0_betFor h p0 p1 σ) σ [.ref h, .int p0, .int p1] := by
  refine MC.i (by decide +kernel) (Nat.le_of_ble_eq_true rfl) ?_
  show VF (K0_betFor) cX0_betFor RX0 (F0_betFor h p0 p1 σ) σ 0 [(0, .ref h), (1, .int p0), (2, .int p1)] []
  unfold F0_betFor
  refine v_aload_n d0_betFor_0 0 rfl rfl ?_
  refine v_iload_n d0_betFor_1 1 rfl rfl ?_
  refine v_callV1i d0_betFor_2 (mc0_hasBet h hh p0 σ) yv0_hasBet mlX0_67 (Recv.obj hh rfl) (by decide) (Nat.le_of_ble_eq_true rfl) fun r1 t2 => ?_
  refine v_if_ne (tgt := 10) d0_betFor_5 (by decide) ?_ ?_
  · refine v_iload_n d0_betFor_10 2 rfl rfl ?_
    refine v_if_ne (tgt := 23) d0_betFor_11 (by decide) ?_ ?_
    · refine v_aload_n d0_betFor_23 0 rfl rfl ?_
      refine v_getR d0_betFor_24 faX0_24 hh rfl ?_
      refine v_iload_n d0_betFor_27 1 rfl rfl ?_
      refine v_iald d0_betFor_28 (ih0_5 hh) ?_
      exact v_iret d0_betFor_29 rfl rfl rfl
    · refine v_aload_n d0_betFor_14 0 rfl rfl ?_
      refine v_getR d0_betFor_15 faX0_21 hh rfl ?_
      refine v_iload_n d0_betFor_18 1 rfl rfl ?_
      refine v_iald d0_betFor_19 (ih0_4 hh) ?_
      refine v_goto (tgt := 29) d0_betFor_20 (by decide) ?_
      exact v_iret d0_betFor_29 rfl rfl rfl
  · refine v_iconst d0_betFor_8 ki_0 ?_
    exact v_iret d0_betFor_9 rfl rfl rfl
theorem d0_hottestBut_0 : decode cX0_hottestBut 0 = .ok (.iconst (-1), 1) := by decide +kernel
theorem d0_hottestBut_1 : decode cX0_hottestBut 1 = .ok (.istore_n 2, 1) := by decide +kernel
theorem d0_hottestBut_2 : decode cX0_hottestBut 2 = .ok (.iconst 0, 1) := by decide +kernel
theorem d0_hottestBut_3 : decode cX0_hottestBut 3 = .ok (.istore_n 3, 1) := by decide +kernel
theorem d0_hottestBut_4 : decode cX0_hottestBut 4 = .ok (.iconst 0, 1) := by decide +kernel
theorem d0_hottestBut_5 : decode cX0_hottestBut 5 = .ok (.istore 4, 2) := by decide +kernel
theorem d0_hottestBut_7 : decode cX0_hottestBut 7 = .ok (.iload 4, 2) := by decide +kernel
theorem d0_hottestBut_9 : decode cX0_hottestBut 9 = .ok (.aload_n 0, 1) := by decide +kernel
theorem d0_hottestBut_10 : decode cX0_hottestBut 10 = .ok (.getfield 37, 3) := by decide +kernel
theorem d0_hottestBut_13 : decode cX0_hottestBut 13 = .ok (.if_icmp .ge 53, 3) := by decide +kernel
theorem d0_hottestBut_16 : decode cX0_hottestBut 16 = .ok (.iload 4, 2) := by decide +kernel
theorem d0_hottestBut_18 : decode cX0_hottestBut 18 = .ok (.iconst 5, 1) := by decide +kernel
theorem d0_hottestBut_19 : decode cX0_hottestBut 19 = .ok (.if_icmp .ge 47, 3) := by decide +kernel
theorem d0_hottestBut_22 : decode cX0_hottestBut 22 = .ok (.aload_n 0, 1) := by decide +kernel
theorem d0_hottestBut_23 : decode cX0_hottestBut 23 = .ok (.getfield 21, 3) := by decide +kernel
theorem d0_hottestBut_26 : decode cX0_hottestBut 26 = .ok (.iload 4, 2) := by decide +kernel
theorem d0_hottestBut_28 : decode cX0_hottestBut 28 = .ok (.iaload, 1) := by decide +kernel
theorem d0_hottestBut_29 : decode cX0_hottestBut 29 = .ok (.aload_n 0, 1) := by decide +kernel
theorem d0_hottestBut_30 : decode cX0_hottestBut 30 = .ok (.getfield 24, 3) := by decide +kernel
theorem d0_hottestBut_33 : decode cX0_hottestBut 33 = .ok (.iload 4, 2) := by decide +kernel
theorem d0_hottestBut_35 : decode cX0_hottestBut 35 = .ok (.iaload, 1) := by decide +kernel
theorem d0_hottestBut_36 : decode cX0_hottestBut 36 = .ok (.iadd, 1) := by decide +kernel
theorem d0_hottestBut_37 : decode cX0_hottestBut 37 = .ok (.istore 5, 2) := by decide +kernel
theorem d0_hottestBut_39 : decode cX0_hottestBut 39 = .ok (.iload_n 1, 1) := by decide +kernel
theorem d0_hottestBut_40 : decode cX0_hottestBut 40 = .ok (.iload 4, 2) := by decide +kernel
theorem d0_hottestBut_42 : decode cX0_hottestBut 42 = .ok (.invokestatic 60, 3) := by decide +kernel
theorem d0_hottestBut_45 : decode cX0_hottestBut 45 = .ok (.ifCond .ne 15, 3) := by decide +kernel
theorem d0_hottestBut_48 : decode cX0_hottestBut 48 = .ok (.iload 5, 2) := by decide +kernel
theorem d0_hottestBut_50 : decode cX0_hottestBut 50 = .ok (.iload_n 3, 1) := by decide +kernel
theorem d0_hottestBut_51 : decode cX0_hottestBut 51 = .ok (.if_icmp .le 9, 3) := by decide +kernel
theorem d0_hottestBut_54 : decode cX0_hottestBut 54 = .ok (.iload 4, 2) := by decide +kernel
theorem d0_hottestBut_56 : decode cX0_hottestBut 56 = .ok (.istore_n 2, 1) := by decide +kernel
theorem d0_hottestBut_57 : decode cX0_hottestBut 57 = .ok (.iload 5, 2) := by decide +kernel
theorem d0_hottestBut_59 : decode cX0_hottestBut 59 = .ok (.istore_n 3, 1) := by decide +kernel
theorem d0_hottestBut_60 : decode cX0_hottestBut 60 = .ok (.iinc 4 1, 3) := by decide +kernel
theorem d0_hottestBut_63 : decode cX0_hottestBut 63 = .ok (.goto (-56), 3) := by decide +kernel
theorem d0_hottestBut_66 : decode cX0_hottestBut 66 = .ok (.iload_n 2, 1) := by decide +kernel
theorem d0_hottestBut_67 : decode cX0_hottestBut 67 = .ok (.ireturn, 1) := by decide +kernel
abbrev K0_hottestBut : CK Int32 := (enI, (some .int), 6, 2, none)
noncomputable def F0_hottestBut_b60 (N : Nat) (h : Nat) (k7 : Int32 × Int32 × Int32 × Int32 × Ms → Option (Int32 × Ms)) (l1 : Int32) (l2 : Int32) (l3 : Int32) (l4 : Int32) (σ : Ms) : Option (Int32 × Ms) :=
  k7 (l1, l2, l3, (l4 + (1 : Int32)), σ)
noncomputable def F0_hottestBut_b7B (N : Nat) (h : Nat) (k7 : Int32 × Int32 × Int32 × Int32 × Ms → Option (Int32 × Ms)) (l1 : Int32) (l2 : Int32) (l3 : Int32) (l4 : Int32) (σ : Ms) : Option (Int32 × Ms) :=
  if (σ.1 h 8) ≤ l4 then (some (l2, σ))
  else (if (5 : Int32) ≤ l4 then (some (l2, σ))
  else (ck (ixb l4 5) (ck (ixb l4 5) (lt ((σ.1 (h + 4) l4.toNatClampNeg) + (σ.1 (h + 5) l4.toNatClampNeg)) (fun x1 => bn (F11_isIn l1 l4 σ) (fun r2 t3 => if r2 ≠ 0 then (F0_hottestBut_b60 N h k7 l1 l2 l3 l4 t3)
  else (if x1 ≤ l3 then (F0_hottestBut_b60 N h k7 l1 l2 l3 l4 t3)
  else (F0_hottestBut_b60 N h k7 l1 l4 x1 l4 t3))))))))
noncomputable def F0_hottestBut_b7 (N : Nat) (h : Nat) (l1 : Int32) (l2 : Int32) (l3 : Int32) (l4 : Int32) (σ : Ms) : Option (Int32 × Ms) :=
  fx N (fun k x => F0_hottestBut_b7B N h k x.1 x.2.1 x.2.2.1 x.2.2.2.1 x.2.2.2.2) (l1, l2, l3, l4, σ)
noncomputable def F0_hottestBut (N : Nat) (h : Nat) (p0 : Int32) (σ : Ms) : Option (Int32 × Ms) :=
  F0_hottestBut_b7 N h p0 (-1 : Int32) (0 : Int32) (0 : Int32) σ
set_option maxRecDepth 100000 in
theorem v0_hottestBut_b60 (N : Nat) (h : Nat) (hh : IsC h (0, 0, 0)) (k7 : Int32 × Int32 × Int32 × Int32 × Ms → Option (Int32 × Ms)) (hk7 : ∀ (l1 : Int32) (l2 : Int32) (l3 : Int32) (l4 : Int32) (τ : Ms), VF (K0_hottestBut) cX0_hottestBut RX0 (k7 (l1, l2, l3, l4, τ)) τ 7 [(0, .ref h), (1, .int l1), (2, .int l2), (3, .int l3), (4, .int l4)] []) (l1 : Int32) (l2 : Int32) (l3 : Int32) (l4 : Int32) (σ : Ms) : VF (K0_hottestBut) cX0_hottestBut RX0 (F0_hottestBut_b60 N h k7 l1 l2 l3 l4 σ) σ 60 [(0, .ref h), (1, .int l1), (2, .int l2), (3, .int l3), (4, .int l4)] [] := by
  unfold F0_hottestBut_b60
  refine v_iinc (lv' := [(4, .int (l4 + (1 : Int32))), (0, .ref h), (1, .int l1), (2, .int l2), (3, .int l3)]) d0_hottestBut_60 4 rfl (by rw [ki_1]) (by decide) rfl ?_
  refine v_goto (tgt := 7) d0_hottestBut_63 (by decide) ?_
  refine v_sub [1, 2, 3, 4, 0] rfl ?_
  exact hk7 l1 l2 l3 (l4 + (1 : Int32)) σ
set_option maxRecDepth 100000 in
theorem v0_hottestBut_b7B (N : Nat) (h : Nat) (hh : IsC h (0, 0, 0)) (k7 : Int32 × Int32 × Int32 × Int32 × Ms → Option (Int32 × Ms)) (hk7 : ∀ (l1 : Int32) (l2 : Int32) (l3 : Int32) (l4 : Int32) (τ : Ms), VF (K0_hottestBut) cX0_hottestBut RX0 (k7 (l1, l2, l3, l4, τ)) τ 7 [(0, .ref h), (1, .int l1), (2, .int l2), (3, .int l3), (4, .int l4)] []) (l1 : Int32) (l2 : Int32) (l3 : Int32) (l4 : Int32) (σ : Ms) : VF (K0_hottestBut) cX0_hottestBut RX0 (F0_hottestBut_b7B N h k7 l1 l2 l3 l4 σ) σ 7 [(0, .ref h), (1, .int l1), (2, .int l2), (3, .int l3), (4, .int l4)] [] := by
  unfold F0_hottestBut_b7B
  refine v_iload d0_hottestBut_7 4 rfl ?_
  refine v_aload_n d0_hottestBut_9 0 rfl rfl ?_
  refine v_getI d0_hottestBut_10 faX0_37 hh ?_
  refine v_icmp_ge (tgt := 66) d0_hottestBut_13 (by decide) ?_ ?_
  · refine v_iload_n d0_hottestBut_66 2 rfl rfl ?_
    exact v_iret d0_hottestBut_67 rfl rfl rfl
  · refine v_iload d0_hottestBut_16 4 rfl ?_
    refine v_iconst d0_hottestBut_18 ki_5 ?_
    refine v_icmp_ge (tgt := 66) d0_hottestBut_19 (by decide) ?_ ?_
    · refine v_iload_n d0_hottestBut_66 2 rfl rfl ?_
      exact v_iret d0_hottestBut_67 rfl rfl rfl
    · refine v_aload_n d0_hottestBut_22 0 rfl rfl ?_
      refine v_getR d0_hottestBut_23 faX0_21 hh rfl ?_
      refine v_iload d0_hottestBut_26 4 rfl ?_
      refine v_iald d0_hottestBut_28 (ih0_4 hh) ?_
      refine v_aload_n d0_hottestBut_29 0 rfl rfl ?_
      refine v_getR d0_hottestBut_30 faX0_24 hh rfl ?_
      refine v_iload d0_hottestBut_33 4 rfl ?_
      refine v_iald d0_hottestBut_35 (ih0_5 hh) ?_
      refine v_iadd d0_hottestBut_36 ?_
      refine v_lti fun x1 => ?_
      refine v_istore (lv' := [(5, .int x1), (0, .ref h), (1, .int l1), (2, .int l2), (3, .int l3), (4, .int l4)]) d0_hottestBut_37 (by decide) rfl ?_
      refine v_iload_n d0_hottestBut_39 2 rfl rfl ?_
      refine v_iload d0_hottestBut_40 5 rfl ?_
      refine v_callN2i d0_hottestBut_42 (mc11_isIn l1 l4 σ) ys11_isIn neX0_60 (by decide) (Nat.le_of_ble_eq_true rfl) fun r2 t3 => ?_
      refine v_if_ne (tgt := 60) d0_hottestBut_45 (by decide) ?_ ?_
      · refine v_sub [1, 2, 3, 4, 5] rfl ?_
        exact v0_hottestBut_b60 N h hh k7 hk7 l1 l2 l3 l4 t3
      · refine v_iload d0_hottestBut_48 0 rfl ?_
        refine v_iload_n d0_hottestBut_50 4 rfl rfl ?_
        refine v_icmp_le (tgt := 60) d0_hottestBut_51 (by decide) ?_ ?_
        · refine v_sub [1, 2, 3, 4, 5] rfl ?_
          exact v0_hottestBut_b60 N h hh k7 hk7 l1 l2 l3 l4 t3
        · refine v_iload d0_hottestBut_54 5 rfl ?_
          refine v_istore_n (lv' := [(2, .int l4), (5, .int x1), (0, .ref h), (1, .int l1), (3, .int l3), (4, .int l4)]) d0_hottestBut_56 rfl (by decide) rfl ?_
          refine v_iload d0_hottestBut_57 1 rfl ?_
          refine v_istore_n (lv' := [(3, .int x1), (2, .int l4), (5, .int x1), (0, .ref h), (1, .int l1), (4, .int l4)]) d0_hottestBut_59 rfl (by decide) rfl ?_
          refine v_sub [3, 4, 1, 0, 5] rfl ?_
          exact v0_hottestBut_b60 N h hh k7 hk7 l1 l4 x1 l4 t3
theorem v0_hottestBut_b7 (N : Nat) (h : Nat) (hh : IsC h (0, 0, 0)) (l1 : Int32) (l2 : Int32) (l3 : Int32) (l4 : Int32) (σ : Ms) : VF (K0_hottestBut) cX0_hottestBut RX0 (F0_hottestBut_b7 N h l1 l2 l3 l4 σ) σ 7 [(0, .ref h), (1, .int l1), (2, .int l2), (3, .int l3), (4, .int l4)] [] := v_fx (σo := fun x => x.2.2.2.2) (lo := fun x => [(0, .ref h), (1, .int x.1), (2, .int x.2.1), (3, .int x.2.2.1), (4, .int x.2.2.2.1)]) (fun k hk x => v0_hottestBut_b7B N h hh k (fun l1 l2 l3 l4 τ => hk (l1, l2, l3, l4, τ)) x.1 x.2.1 x.2.2.1 x.2.2.2.1 x.2.2.2.2) N (l1, l2, l3, l4, σ)
set_option maxRecDepth 100000 in
theorem mc0_hottestBut (N : Nat) (h : Nat) (hh : IsC h (0, 0, 0)) (p0 : Int32) (σ : Ms) : MC enI yX0_hottestBut cX0_hottestBut 6 (some .int) 2 (F0_hottestBut N h p0 σ) σ [.ref h, .int p0] := by
  refine MC.i (by decide +kernel) (Nat.le_of_ble_eq_true rfl) ?_
  show VF (K0_hottestBut) cX0_hottestBut RX0 (F0_hottestBut N h p0 σ) σ 0 [(0, .ref h), (1, .int p0)] []
  unfold F0_hottestBut
  refine v_iconst d0_hottestBut_0 ki_m1 ?_
  refine v_istore_n (lv' := [(2, .int (-1 : Int32)), (0, .ref h), (1, .int p0)]) d0_hottestBut_1 rfl (by decide) rfl ?_
  refine v_iconst d0_hottestBut_2 ki_0 ?_
  refine v_istore_n (lv' := [(3, .int (0 : Int32)), (2, .int (-1 : Int32)), (0, .ref h), (1, .int p0)]) d0_hottestBut_3 rfl (by decide) rfl ?_
  refine v_iconst d0_hottestBut_4 ki_0 ?_
  refine v_istore (lv' := [(4, .int (0 : Int32)), (3, .int (0 : Int32)), (2, .int (-1 : Int32)), (0, .ref h), (1, .int p0)]) d0_hottestBut_5 (by decide) rfl ?_
  refine v_sub [3, 4, 2, 1, 0] rfl ?_
  exact v0_hottestBut_b7 N h hh p0 (-1 : Int32) (0 : Int32) (0 : Int32) σ
