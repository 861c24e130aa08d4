theorem d2_takeBet_0 : decode cX2_takeBet 0 = .ok (.aload_n 1, 1) := by decide +kernel
theorem d2_takeBet_1 : decode cX2_takeBet 1 = .ok (.iload_n 3, 1) := by decide +kernel
theorem d2_takeBet_2 : decode cX2_takeBet 2 = .ok (.invokevirtual 101, 3) := by decide +kernel
theorem d2_takeBet_5 : decode cX2_takeBet 5 = .ok (.ifCond .eq 12, 3) := by decide +kernel
theorem d2_takeBet_8 : decode cX2_takeBet 8 = .ok (.aload_n 1, 1) := by decide +kernel
theorem d2_takeBet_9 : decode cX2_takeBet 9 = .ok (.iload_n 2, 1) := by decide +kernel
theorem d2_takeBet_10 : decode cX2_takeBet 10 = .ok (.iload_n 3, 1) := by decide +kernel
theorem d2_takeBet_11 : decode cX2_takeBet 11 = .ok (.invokevirtual 104, 3) := by decide +kernel
theorem d2_takeBet_14 : decode cX2_takeBet 14 = .ok (.goto 13, 3) := by decide +kernel
theorem d2_takeBet_17 : decode cX2_takeBet 17 = .ok (.aload_n 0, 1) := by decide +kernel
theorem d2_takeBet_18 : decode cX2_takeBet 18 = .ok (.dup, 1) := by decide +kernel
theorem d2_takeBet_19 : decode cX2_takeBet 19 = .ok (.getfield 15, 3) := by decide +kernel
theorem d2_takeBet_22 : decode cX2_takeBet 22 = .ok (.iconst 1, 1) := by decide +kernel
theorem d2_takeBet_23 : decode cX2_takeBet 23 = .ok (.iadd, 1) := by decide +kernel
theorem d2_takeBet_24 : decode cX2_takeBet 24 = .ok (.putfield 15, 3) := by decide +kernel
theorem d2_takeBet_27 : decode cX2_takeBet 27 = .ok (.return_, 1) := by decide +kernel
abbrev K2_takeBet : CK Unit := (enV, none, 4, 4, none)
noncomputable def F2_takeBet (h : Nat) (q0 : Nat) (p1 : Int32) (p2 : Int32) (σ : Ms) : Option (Unit × Ms) :=
  bn (F0_mayTake q0 p2 σ) (fun r1 t2 => if r1 = 0 then (lt (sI t2 h 1 ((t2.1 h 1) + (1 : Int32))) (fun t3 => some ((), t3)))
  else (bn (F0_winBet q0 p1 p2 t2) (fun r4 t5 => some ((), t5))))
set_option maxRecDepth 100000 in
theorem mc2_takeBet (h : Nat) (hh : IsC h (0, 1, 0)) (q0 : Nat) (hq0 : IsC q0 (0, 0, 0)) (p1 : Int32) (p2 : Int32) (σ : Ms) : MC enV yX2_takeBet cX2_takeBet 4 none 4 (F2_takeBet h q0 p1 p2 σ) σ [.ref h, .ref q0, .int p1, .int p2] := by
  refine MC.v (by decide +kernel) (Nat.le_of_ble_eq_true rfl) ?_
  show VF (K2_takeBet) cX2_takeBet RX2 (F2_takeBet h q0 p1 p2 σ) σ 0 [(0, .ref h), (1, .ref q0), (2, .int p1), (3, .int p2)] []
  unfold F2_takeBet
  refine v_aload_n d2_takeBet_0 1 rfl rfl ?_
  refine v_iload_n d2_takeBet_1 3 rfl rfl ?_
  refine v_callV1i d2_takeBet_2 (mc0_mayTake q0 hq0 p2 σ) yv0_mayTake mlX2_101 (Recv.obj hq0 rfl) (by decide) (Nat.le_of_ble_eq_true rfl) fun r1 t2 => ?_
  refine v_if_eq (tgt := 17) d2_takeBet_5 (by decide) ?_ ?_
  · refine v_aload_n d2_takeBet_17 0 rfl rfl ?_
    refine v_dup d2_takeBet_18 rfl ?_
    refine v_getI d2_takeBet_19 faX2_15 hh ?_
    refine v_iconst d2_takeBet_22 ki_1 ?_
    refine v_iadd d2_takeBet_23 ?_
    refine v_putI d2_takeBet_24 faX2_15 fp1_1 hh ?_
    refine v_lts fun t3 => ?_
    exact v_vret d2_takeBet_27 rfl
  · refine v_aload_n d2_takeBet_8 1 rfl rfl ?_
    refine v_iload_n d2_takeBet_9 2 rfl rfl ?_
    refine v_iload_n d2_takeBet_10 3 rfl rfl ?_
    refine v_callV2v d2_takeBet_11 (mc0_winBet q0 hq0 p1 p2 t2) yv0_winBet mlX2_104 (Recv.obj hq0 rfl) (by decide) (Nat.le_of_ble_eq_true rfl) fun r4 t5 => ?_
    refine v_goto (tgt := 27) d2_takeBet_14 (by decide) ?_
    exact v_vret d2_takeBet_27 rfl
theorem d2_lessenHeap_0 : decode cX2_lessenHeap 0 = .ok (.aload_n 1, 1) := by decide +kernel
theorem d2_lessenHeap_1 : decode cX2_lessenHeap 1 = .ok (.iload_n 2, 1) := by decide +kernel
theorem d2_lessenHeap_2 : decode cX2_lessenHeap 2 = .ok (.iload_n 3, 1) := by decide +kernel
theorem d2_lessenHeap_3 : decode cX2_lessenHeap 3 = .ok (.invokevirtual 108, 3) := by decide +kernel
theorem d2_lessenHeap_6 : decode cX2_lessenHeap 6 = .ok (.ifCond .eq 12, 3) := by decide +kernel
theorem d2_lessenHeap_9 : decode cX2_lessenHeap 9 = .ok (.aload_n 1, 1) := by decide +kernel
theorem d2_lessenHeap_10 : decode cX2_lessenHeap 10 = .ok (.iload_n 2, 1) := by decide +kernel
theorem d2_lessenHeap_11 : decode cX2_lessenHeap 11 = .ok (.iload_n 3, 1) := by decide +kernel
theorem d2_lessenHeap_12 : decode cX2_lessenHeap 12 = .ok (.invokevirtual 111, 3) := by decide +kernel
theorem d2_lessenHeap_15 : decode cX2_lessenHeap 15 = .ok (.goto 13, 3) := by decide +kernel
theorem d2_lessenHeap_18 : decode cX2_lessenHeap 18 = .ok (.aload_n 0, 1) := by decide +kernel
theorem d2_lessenHeap_19 : decode cX2_lessenHeap 19 = .ok (.dup, 1) := by decide +kernel
theorem d2_lessenHeap_20 : decode cX2_lessenHeap 20 = .ok (.getfield 15, 3) := by decide +kernel
theorem d2_lessenHeap_23 : decode cX2_lessenHeap 23 = .ok (.iconst 1, 1) := by decide +kernel
theorem d2_lessenHeap_24 : decode cX2_lessenHeap 24 = .ok (.iadd, 1) := by decide +kernel
theorem d2_lessenHeap_25 : decode cX2_lessenHeap 25 = .ok (.putfield 15, 3) := by decide +kernel
theorem d2_lessenHeap_28 : decode cX2_lessenHeap 28 = .ok (.return_, 1) := by decide +kernel
abbrev K2_lessenHeap : CK Unit := (enV, none, 4, 4, none)
noncomputable def F2_lessenHeap (h : Nat) (q0 : Nat) (p1 : Int32) (p2 : Int32) (σ : Ms) : Option (Unit × Ms) :=
  bn (F0_mayLessen q0 p1 p2 σ) (fun r1 t2 => if r1 = 0 then (lt (sI t2 h 1 ((t2.1 h 1) + (1 : Int32))) (fun t3 => some ((), t3)))
  else (bn (F0_lessen q0 p1 p2 t2) (fun r4 t5 => some ((), t5))))
set_option maxRecDepth 100000 in
theorem mc2_lessenHeap (h : Nat) (hh : IsC h (0, 1, 0)) (q0 : Nat) (hq0 : IsC q0 (0, 0, 0)) (p1 : Int32) (p2 : Int32) (σ : Ms) : MC enV yX2_lessenHeap cX2_lessenHeap 4 none 4 (F2_lessenHeap h q0 p1 p2 σ) σ [.ref h, .ref q0, .int p1, .int p2] := by
  refine MC.v (by decide +kernel) (Nat.le_of_ble_eq_true rfl) ?_
  show VF (K2_lessenHeap) cX2_lessenHeap RX2 (F2_lessenHeap h q0 p1 p2 σ) σ 0 [(0, .ref h), (1, .ref q0), (2, .int p1), (3, .int p2)] []
  unfold F2_lessenHeap
  refine v_aload_n d2_lessenHeap_0 1 rfl rfl ?_
  refine v_iload_n d2_lessenHeap_1 2 rfl rfl ?_
  refine v_iload_n d2_lessenHeap_2 3 rfl rfl ?_
  refine v_callV2i d2_lessenHeap_3 (mc0_mayLessen q0 hq0 p1 p2 σ) yv0_mayLessen mlX2_108 (Recv.obj hq0 rfl) (by decide) (Nat.le_of_ble_eq_true rfl) fun r1 t2 => ?_
  refine v_if_eq (tgt := 18) d2_lessenHeap_6 (by decide) ?_ ?_
  · refine v_aload_n d2_lessenHeap_18 0 rfl rfl ?_
    refine v_dup d2_lessenHeap_19 rfl ?_
    refine v_getI d2_lessenHeap_20 faX2_15 hh ?_
    refine v_iconst d2_lessenHeap_23 ki_1 ?_
    refine v_iadd d2_lessenHeap_24 ?_
    refine v_putI d2_lessenHeap_25 faX2_15 fp1_1 hh ?_
    refine v_lts fun t3 => ?_
    exact v_vret d2_lessenHeap_28 rfl
  · refine v_aload_n d2_lessenHeap_9 1 rfl rfl ?_
    refine v_iload_n d2_lessenHeap_10 2 rfl rfl ?_
    refine v_iload_n d2_lessenHeap_11 3 rfl rfl ?_
    refine v_callV2v d2_lessenHeap_12 (mc0_lessen q0 hq0 p1 p2 t2) yv0_lessen mlX2_111 (Recv.obj hq0 rfl) (by decide) (Nat.le_of_ble_eq_true rfl) fun r4 t5 => ?_
    refine v_goto (tgt := 28) d2_lessenHeap_15 (by decide) ?_
    exact v_vret d2_lessenHeap_28 rfl
theorem d2_growOne_0 : decode cX2_growOne 0 = .ok (.aload_n 1, 1) := by decide +kernel
theorem d2_growOne_1 : decode cX2_growOne 1 = .ok (.iload_n 2, 1) := by decide +kernel
theorem d2_growOne_2 : decode cX2_growOne 2 = .ok (.iload_n 3, 1) := by decide +kernel
theorem d2_growOne_3 : decode cX2_growOne 3 = .ok (.invokevirtual 114, 3) := by decide +kernel
theorem d2_growOne_6 : decode cX2_growOne 6 = .ok (.ifCond .eq 22, 3) := by decide +kernel
theorem d2_growOne_9 : decode cX2_growOne 9 = .ok (.aload_n 1, 1) := by decide +kernel
theorem d2_growOne_10 : decode cX2_growOne 10 = .ok (.iload_n 2, 1) := by decide +kernel
theorem d2_growOne_11 : decode cX2_growOne 11 = .ok (.iload_n 3, 1) := by decide +kernel
theorem d2_growOne_12 : decode cX2_growOne 12 = .ok (.invokevirtual 117, 3) := by decide +kernel
theorem d2_growOne_15 : decode cX2_growOne 15 = .ok (.aload_n 0, 1) := by decide +kernel
theorem d2_growOne_16 : decode cX2_growOne 16 = .ok (.dup, 1) := by decide +kernel
theorem d2_growOne_17 : decode cX2_growOne 17 = .ok (.getfield 24, 3) := by decide +kernel
theorem d2_growOne_20 : decode cX2_growOne 20 = .ok (.iconst 1, 1) := by decide +kernel
theorem d2_growOne_21 : decode cX2_growOne 21 = .ok (.iadd, 1) := by decide +kernel
theorem d2_growOne_22 : decode cX2_growOne 22 = .ok (.putfield 24, 3) := by decide +kernel
theorem d2_growOne_25 : decode cX2_growOne 25 = .ok (.goto 13, 3) := by decide +kernel
theorem d2_growOne_28 : decode cX2_growOne 28 = .ok (.aload_n 0, 1) := by decide +kernel
theorem d2_growOne_29 : decode cX2_growOne 29 = .ok (.dup, 1) := by decide +kernel
theorem d2_growOne_30 : decode cX2_growOne 30 = .ok (.getfield 15, 3) := by decide +kernel
theorem d2_growOne_33 : decode cX2_growOne 33 = .ok (.iconst 1, 1) := by decide +kernel
theorem d2_growOne_34 : decode cX2_growOne 34 = .ok (.iadd, 1) := by decide +kernel
theorem d2_growOne_35 : decode cX2_growOne 35 = .ok (.putfield 15, 3) := by decide +kernel
theorem d2_growOne_38 : decode cX2_growOne 38 = .ok (.return_, 1) := by decide +kernel
abbrev K2_growOne : CK Unit := (enV, none, 4, 4, none)
noncomputable def F2_growOne (h : Nat) (q0 : Nat) (p1 : Int32) (p2 : Int32) (σ : Ms) : Option (Unit × Ms) :=
  bn (F0_mayGrow q0 p1 p2 σ) (fun r1 t2 => if r1 = 0 then (lt (sI t2 h 1 ((t2.1 h 1) + (1 : Int32))) (fun t3 => some ((), t3)))
  else (bn (F0_addSprig q0 p1 p2 t2) (fun r4 t5 => lt (sI t5 h 4 ((t5.1 h 4) + (1 : Int32))) (fun t6 => some ((), t6)))))
set_option maxRecDepth 100000 in
theorem mc2_growOne (h : Nat) (hh : IsC h (0, 1, 0)) (q0 : Nat) (hq0 : IsC q0 (0, 0, 0)) (p1 : Int32) (p2 : Int32) (σ : Ms) : MC enV yX2_growOne cX2_growOne 4 none 4 (F2_growOne h q0 p1 p2 σ) σ [.ref h, .ref q0, .int p1, .int p2] := by
  refine MC.v (by decide +kernel) (Nat.le_of_ble_eq_true rfl) ?_
  show VF (K2_growOne) cX2_growOne RX2 (F2_growOne h q0 p1 p2 σ) σ 0 [(0, .ref h), (1, .ref q0), (2, .int p1), (3, .int p2)] []
  unfold F2_growOne
  refine v_aload_n d2_growOne_0 1 rfl rfl ?_
  refine v_iload_n d2_growOne_1 2 rfl rfl ?_
  refine v_iload_n d2_growOne_2 3 rfl rfl ?_
  refine v_callV2i d2_growOne_3 (mc0_mayGrow q0 hq0 p1 p2 σ) yv0_mayGrow mlX2_114 (Recv.obj hq0 rfl) (by decide) (Nat.le_of_ble_eq_true rfl) fun r1 t2 => ?_
  refine v_if_eq (tgt := 28) d2_growOne_6 (by decide) ?_ ?_
  · refine v_aload_n d2_growOne_28 0 rfl rfl ?_
    refine v_dup d2_growOne_29 rfl ?_
    refine v_getI d2_growOne_30 faX2_15 hh ?_
    refine v_iconst d2_growOne_33 ki_1 ?_
    refine v_iadd d2_growOne_34 ?_
    refine v_putI d2_growOne_35 faX2_15 fp1_1 hh ?_
    refine v_lts fun t3 => ?_
    exact v_vret d2_growOne_38 rfl
  · refine v_aload_n d2_growOne_9 1 rfl rfl ?_
    refine v_iload_n d2_growOne_10 2 rfl rfl ?_
    refine v_iload_n d2_growOne_11 3 rfl rfl ?_
    refine v_callV2v d2_growOne_12 (mc0_addSprig q0 hq0 p1 p2 t2) yv0_addSprig mlX2_117 (Recv.obj hq0 rfl) (by decide) (Nat.le_of_ble_eq_true rfl) fun r4 t5 => ?_
    refine v_aload_n d2_growOne_15 0 rfl rfl ?_
    refine v_dup d2_growOne_16 rfl ?_
    refine v_getI d2_growOne_17 faX2_24 hh ?_
    refine v_iconst d2_growOne_20 ki_1 ?_
    refine v_iadd d2_growOne_21 ?_
    refine v_putI d2_growOne_22 faX2_24 fp1_4 hh ?_
    refine v_lts fun t6 => ?_
    refine v_goto (tgt := 38) d2_growOne_25 (by decide) ?_
    exact v_vret d2_growOne_38 rfl
theorem d2_draw_0 : decode cX2_draw 0 = .ok (.aload_n 0, 1) := by decide +kernel
theorem d2_draw_1 : decode cX2_draw 1 = .ok (.aload_n 0, 1) := by decide +kernel
theorem d2_draw_2 : decode cX2_draw 2 = .ok (.getfield 31, 3) := by decide +kernel
theorem d2_draw_5 : decode cX2_draw 5 = .ok (.sipush 2971, 3) := by decide +kernel
theorem d2_draw_8 : decode cX2_draw 8 = .ok (.imul, 1) := by decide +kernel
theorem d2_draw_9 : decode cX2_draw 9 = .ok (.sipush 10987, 3) := by decide +kernel
theorem d2_draw_12 : decode cX2_draw 12 = .ok (.iadd, 1) := by decide +kernel
theorem d2_draw_13 : decode cX2_draw 13 = .ok (.ldc 126, 2) := by decide +kernel
theorem d2_draw_15 : decode cX2_draw 15 = .ok (.iand, 1) := by decide +kernel
theorem d2_draw_16 : decode cX2_draw 16 = .ok (.putfield 31, 3) := by decide +kernel
theorem d2_draw_19 : decode cX2_draw 19 = .ok (.iload_n 1, 1) := by decide +kernel
theorem d2_draw_20 : decode cX2_draw 20 = .ok (.ifCond .le 14, 3) := by decide +kernel
theorem d2_draw_23 : decode cX2_draw 23 = .ok (.aload_n 0, 1) := by decide +kernel
theorem d2_draw_24 : decode cX2_draw 24 = .ok (.getfield 31, 3) := by decide +kernel
theorem d2_draw_27 : decode cX2_draw 27 = .ok (.iconst 3, 1) := by decide +kernel
theorem d2_draw_28 : decode cX2_draw 28 = .ok (.ishr, 1) := by decide +kernel
theorem d2_draw_29 : decode cX2_draw 29 = .ok (.iload_n 1, 1) := by decide +kernel
theorem d2_draw_30 : decode cX2_draw 30 = .ok (.irem, 1) := by decide +kernel
theorem d2_draw_31 : decode cX2_draw 31 = .ok (.goto 4, 3) := by decide +kernel
theorem d2_draw_34 : decode cX2_draw 34 = .ok (.iconst 0, 1) := by decide +kernel
theorem d2_draw_35 : decode cX2_draw 35 = .ok (.ireturn, 1) := by decide +kernel
abbrev K2_draw : CK Int32 := (enI, (some .int), 2, 1, none)
noncomputable def F2_draw (h : Nat) (p0 : Int32) (σ : Ms) : Option (Int32 × Ms) :=
  lt (sI σ h 6 ((((σ.1 h 6) * (2971 : Int32)) + (10987 : Int32)) &&& (65535 : Int32))) (fun t1 => if p0 ≤ 0 then (some ((0 : Int32), t1))
  else (ck (!(p0 == 0)) (some ((((t1.1 h 6) >>> ((3 : Int32) &&& 31)) - ((t1.1 h 6) >>> ((3 : Int32) &&& 31)) / p0 * p0), t1))))
set_option maxRecDepth 100000 in
theorem mc2_draw (h : Nat) (hh : IsC h (0, 1, 0)) (p0 : Int32) (σ : Ms) : MC enI yX2_draw cX2_draw 2 (some .int) 1 (F2_draw h p0 σ) σ [.ref h, .int p0] := by
  refine MC.i (by decide +kernel) (Nat.le_of_ble_eq_true rfl) ?_
  show VF (K2_draw) cX2_draw RX2 (F2_draw h p0 σ) σ 0 [(0, .ref h), (1, .int p0)] []
  unfold F2_draw
  refine v_aload_n d2_draw_0 0 rfl rfl ?_
  refine v_aload_n d2_draw_1 0 rfl rfl ?_
  refine v_getI d2_draw_2 faX2_31 hh ?_
  refine v_sipush d2_draw_5 ks_2971 ?_
  refine v_imul d2_draw_8 ?_
  refine v_sipush d2_draw_9 ks_10987 ?_
  refine v_iadd d2_draw_12 ?_
  refine v_ldc d2_draw_13 kcX2_126 ?_
  refine v_iand d2_draw_15 ?_
  refine v_putI d2_draw_16 faX2_31 fp1_6 hh ?_
  refine v_lts fun t1 => ?_
  refine v_iload_n d2_draw_19 1 rfl rfl ?_
  refine v_if_le (tgt := 34) d2_draw_20 (by decide) ?_ ?_
  · refine v_iconst d2_draw_34 ki_0 ?_
    exact v_iret d2_draw_35 rfl rfl rfl
  · refine v_aload_n d2_draw_23 0 rfl rfl ?_
    refine v_getI d2_draw_24 faX2_31 hh ?_
    refine v_iconst d2_draw_27 ki_3 ?_
    refine v_ishr d2_draw_28 ?_
    refine v_iload_n d2_draw_29 1 rfl rfl ?_
    refine v_irem d2_draw_30 ?_
    refine v_goto (tgt := 35) d2_draw_31 (by decide) ?_
    exact v_iret d2_draw_35 rfl rfl rfl
theorem d2_cutAny_0 : decode cX2_cutAny 0 = .ok (.aload_n 1, 1) := by decide +kernel
theorem d2_cutAny_1 : decode cX2_cutAny 1 = .ok (.getfield 120, 3) := by decide +kernel
theorem d2_cutAny_4 : decode cX2_cutAny 4 = .ok (.ifCond .le 26, 3) := by decide +kernel
theorem d2_cutAny_7 : decode cX2_cutAny 7 = .ok (.aload_n 0, 1) := by decide +kernel
theorem d2_cutAny_8 : decode cX2_cutAny 8 = .ok (.iconst 2, 1) := by decide +kernel
theorem d2_cutAny_9 : decode cX2_cutAny 9 = .ok (.invokevirtual 123, 3) := by decide +kernel
theorem d2_cutAny_12 : decode cX2_cutAny 12 = .ok (.istore_n 2, 1) := by decide +kernel
theorem d2_cutAny_13 : decode cX2_cutAny 13 = .ok (.aload_n 0, 1) := by decide +kernel
theorem d2_cutAny_14 : decode cX2_cutAny 14 = .ok (.aload_n 1, 1) := by decide +kernel
theorem d2_cutAny_15 : decode cX2_cutAny 15 = .ok (.iload_n 2, 1) := by decide +kernel
theorem d2_cutAny_16 : decode cX2_cutAny 16 = .ok (.aload_n 0, 1) := by decide +kernel
theorem d2_cutAny_17 : decode cX2_cutAny 17 = .ok (.aload_n 1, 1) := by decide +kernel
theorem d2_cutAny_18 : decode cX2_cutAny 18 = .ok (.getfield 120, 3) := by decide +kernel
theorem d2_cutAny_21 : decode cX2_cutAny 21 = .ok (.invokevirtual 123, 3) := by decide +kernel
theorem d2_cutAny_24 : decode cX2_cutAny 24 = .ok (.invokevirtual 64, 3) := by decide +kernel
theorem d2_cutAny_27 : decode cX2_cutAny 27 = .ok (.goto 13, 3) := by decide +kernel
theorem d2_cutAny_30 : decode cX2_cutAny 30 = .ok (.aload_n 0, 1) := by decide +kernel
theorem d2_cutAny_31 : decode cX2_cutAny 31 = .ok (.dup, 1) := by decide +kernel
theorem d2_cutAny_32 : decode cX2_cutAny 32 = .ok (.getfield 15, 3) := by decide +kernel
theorem d2_cutAny_35 : decode cX2_cutAny 35 = .ok (.iconst 1, 1) := by decide +kernel
theorem d2_cutAny_36 : decode cX2_cutAny 36 = .ok (.iadd, 1) := by decide +kernel
theorem d2_cutAny_37 : decode cX2_cutAny 37 = .ok (.putfield 15, 3) := by decide +kernel
theorem d2_cutAny_40 : decode cX2_cutAny 40 = .ok (.return_, 1) := by decide +kernel
abbrev K2_cutAny : CK Unit := (enV, none, 3, 5, none)
noncomputable def F2_cutAny (N : Nat) (h : Nat) (q0 : Nat) (σ : Ms) : Option (Unit × Ms) :=
  if (σ.1 q0 5) ≤ 0 then (lt (sI σ h 1 ((σ.1 h 1) + (1 : Int32))) (fun t1 => some ((), t1)))
  else (bn (F2_draw h (2 : Int32) σ) (fun r2 t3 => bn (F2_draw h (t3.1 q0 5) t3) (fun r4 t5 => bn (F2_cutOff N h q0 r2 r4 t5) (fun r6 t7 => some ((), t7)))))
set_option maxRecDepth 100000 in
theorem mc2_cutAny (N : Nat) (h : Nat) (hh : IsC h (0, 1, 0)) (q0 : Nat) (hq0 : IsC q0 (0, 0, 0)) (σ : Ms) : MC enV yX2_cutAny cX2_cutAny 3 none 5 (F2_cutAny N h q0 σ) σ [.ref h, .ref q0] := by
  refine MC.v (by decide +kernel) (Nat.le_of_ble_eq_true rfl) ?_
  show VF (K2_cutAny) cX2_cutAny RX2 (F2_cutAny N h q0 σ) σ 0 [(0, .ref h), (1, .ref q0)] []
  unfold F2_cutAny
  refine v_aload_n d2_cutAny_0 1 rfl rfl ?_
  refine v_getI d2_cutAny_1 faX2_120 hq0 ?_
  refine v_if_le (tgt := 30) d2_cutAny_4 (by decide) ?_ ?_
  · refine v_aload_n d2_cutAny_30 0 rfl rfl ?_
    refine v_dup d2_cutAny_31 rfl ?_
    refine v_getI d2_cutAny_32 faX2_15 hh ?_
    refine v_iconst d2_cutAny_35 ki_1 ?_
    refine v_iadd d2_cutAny_36 ?_
    refine v_putI d2_cutAny_37 faX2_15 fp1_1 hh ?_
    refine v_lts fun t1 => ?_
    exact v_vret d2_cutAny_40 rfl
  · refine v_aload_n d2_cutAny_7 0 rfl rfl ?_
    refine v_iconst d2_cutAny_8 ki_2 ?_
    refine v_callV1i d2_cutAny_9 (mc2_draw h hh (2 : Int32) σ) yv2_draw mlX2_123 (Recv.obj hh rfl) (by decide) (Nat.le_of_ble_eq_true rfl) fun r2 t3 => ?_
    refine v_istore_n (lv' := [(2, .int r2), (0, .ref h), (1, .ref q0)]) d2_cutAny_12 rfl (by decide) rfl ?_
    refine v_aload_n d2_cutAny_13 1 rfl rfl ?_
    refine v_aload_n d2_cutAny_14 2 rfl rfl ?_
    refine v_iload_n d2_cutAny_15 0 rfl rfl ?_
    refine v_aload_n d2_cutAny_16 1 rfl rfl ?_
    refine v_aload_n d2_cutAny_17 2 rfl rfl ?_
    refine v_getI d2_cutAny_18 faX2_120 hq0 ?_
    refine v_callV1i d2_cutAny_21 (mc2_draw h hh (t3.1 q0 5) t3) yv2_draw mlX2_123 (Recv.obj hh rfl) (by decide) (Nat.le_of_ble_eq_true rfl) fun r4 t5 => ?_
    refine v_callV3v d2_cutAny_24 (mc2_cutOff N h hh q0 hq0 r2 r4 t5) yv2_cutOff mlX2_64 (Recv.obj hh rfl) (by decide) (Nat.le_of_ble_eq_true rfl) fun r6 t7 => ?_
    refine v_goto (tgt := 40) d2_cutAny_27 (by decide) ?_
    exact v_vret d2_cutAny_40 rfl
theorem dJ13_compare_74951_0 : decode cJ13_compare_74951 0 = .ok (.lload_n 0, 1) := by decide +kernel
theorem dJ13_compare_74951_1 : decode cJ13_compare_74951 1 = .ok (.lload_n 2, 1) := by decide +kernel
theorem dJ13_compare_74951_2 : decode cJ13_compare_74951 2 = .ok (.lcmp, 1) := by decide +kernel
theorem dJ13_compare_74951_3 : decode cJ13_compare_74951 3 = .ok (.ifCond .ge 7, 3) := by decide +kernel
theorem dJ13_compare_74951_6 : decode cJ13_compare_74951 6 = .ok (.iconst (-1), 1) := by decide +kernel
theorem dJ13_compare_74951_7 : decode cJ13_compare_74951 7 = .ok (.goto 14, 3) := by decide +kernel
theorem dJ13_compare_74951_10 : decode cJ13_compare_74951 10 = .ok (.lload_n 0, 1) := by decide +kernel
theorem dJ13_compare_74951_11 : decode cJ13_compare_74951 11 = .ok (.lload_n 2, 1) := by decide +kernel
theorem dJ13_compare_74951_12 : decode cJ13_compare_74951 12 = .ok (.lcmp, 1) := by decide +kernel
theorem dJ13_compare_74951_13 : decode cJ13_compare_74951 13 = .ok (.ifCond .ne 7, 3) := by decide +kernel
theorem dJ13_compare_74951_16 : decode cJ13_compare_74951 16 = .ok (.iconst 0, 1) := by decide +kernel
theorem dJ13_compare_74951_17 : decode cJ13_compare_74951 17 = .ok (.goto 4, 3) := by decide +kernel
theorem dJ13_compare_74951_20 : decode cJ13_compare_74951 20 = .ok (.iconst 1, 1) := by decide +kernel
theorem dJ13_compare_74951_21 : decode cJ13_compare_74951 21 = .ok (.ireturn, 1) := by decide +kernel
abbrev KJ13_compare_74951 : CK Int32 := (enI, (some .int), 4, 1, none)
noncomputable def FJ13_compare_74951 (p0 : Int64) (p1 : Int64) (σ : Ms) : Option (Int32 × Ms) :=
  if 0 ≤ (lg_cmp p0 p1) then (if (lg_cmp p0 p1) ≠ 0 then (some ((1 : Int32), σ))
  else (some ((0 : Int32), σ)))
  else (some ((-1 : Int32), σ))
set_option maxRecDepth 100000 in
theorem mcJ13_compare_74951 (p0 : Int64) (p1 : Int64) (σ : Ms) : MC enI yJ13_compare_74951 cJ13_compare_74951 4 (some .int) 1 (FJ13_compare_74951 p0 p1 σ) σ [.long p0, .long p1] := by
  refine MC.i (by decide +kernel) (Nat.le_of_ble_eq_true rfl) ?_
  show VF (KJ13_compare_74951) cJ13_compare_74951 RJ13 (FJ13_compare_74951 p0 p1 σ) σ 0 [(0, .long p0), (2, .long p1)] []
  unfold FJ13_compare_74951
  refine v_lload_n dJ13_compare_74951_0 0 rfl rfl ?_
  refine v_lload_n dJ13_compare_74951_1 1 rfl rfl ?_
  refine v_lcmp dJ13_compare_74951_2 ?_
  refine v_if_ge (tgt := 10) dJ13_compare_74951_3 (by decide) ?_ ?_
  · refine v_lload_n dJ13_compare_74951_10 0 rfl rfl ?_
    refine v_lload_n dJ13_compare_74951_11 1 rfl rfl ?_
    refine v_lcmp dJ13_compare_74951_12 ?_
    refine v_if_ne (tgt := 20) dJ13_compare_74951_13 (by decide) ?_ ?_
    · refine v_iconst dJ13_compare_74951_20 ki_1 ?_
      exact v_iret dJ13_compare_74951_21 rfl rfl rfl
    · refine v_iconst dJ13_compare_74951_16 ki_0 ?_
      refine v_goto (tgt := 21) dJ13_compare_74951_17 (by decide) ?_
      exact v_iret dJ13_compare_74951_21 rfl rfl rfl
  · refine v_iconst dJ13_compare_74951_6 ki_m1 ?_
    refine v_goto (tgt := 21) dJ13_compare_74951_7 (by decide) ?_
    exact v_iret dJ13_compare_74951_21 rfl rfl rfl
theorem d2_compares_0 : decode cX2_compares 0 = .ok (.iload_n 1, 1) := by decide +kernel
theorem d2_compares_1 : decode cX2_compares 1 = .ok (.ifCond .ne 13, 3) := by decide +kernel
theorem d2_compares_4 : decode cX2_compares 4 = .ok (.iload_n 0, 1) := by decide +kernel
theorem d2_compares_5 : decode cX2_compares 5 = .ok (.ifCond .ge 7, 3) := by decide +kernel
theorem d2_compares_8 : decode cX2_compares 8 = .ok (.iconst 1, 1) := by decide +kernel
theorem d2_compares_9 : decode cX2_compares 9 = .ok (.goto 4, 3) := by decide +kernel
theorem d2_compares_12 : decode cX2_compares 12 = .ok (.iconst 0, 1) := by decide +kernel
theorem d2_compares_13 : decode cX2_compares 13 = .ok (.ireturn, 1) := by decide +kernel
theorem d2_compares_14 : decode cX2_compares 14 = .ok (.iload_n 1, 1) := by decide +kernel
theorem d2_compares_15 : decode cX2_compares 15 = .ok (.iconst 1, 1) := by decide +kernel
theorem d2_compares_16 : decode cX2_compares 16 = .ok (.if_icmp .ne 15, 3) := by decide +kernel
theorem d2_compares_19 : decode cX2_compares 19 = .ok (.iload_n 0, 1) := by decide +kernel
theorem d2_compares_20 : decode cX2_compares 20 = .ok (.ifCond .le 7, 3) := by decide +kernel
theorem d2_compares_23 : decode cX2_compares 23 = .ok (.iconst 1, 1) := by decide +kernel
theorem d2_compares_24 : decode cX2_compares 24 = .ok (.goto 16, 3) := by decide +kernel
theorem d2_compares_27 : decode cX2_compares 27 = .ok (.iconst 0, 1) := by decide +kernel
theorem d2_compares_28 : decode cX2_compares 28 = .ok (.goto 12, 3) := by decide +kernel
theorem d2_compares_31 : decode cX2_compares 31 = .ok (.iload_n 0, 1) := by decide +kernel
theorem d2_compares_32 : decode cX2_compares 32 = .ok (.ifCond .ne 7, 3) := by decide +kernel
theorem d2_compares_35 : decode cX2_compares 35 = .ok (.iconst 1, 1) := by decide +kernel
theorem d2_compares_36 : decode cX2_compares 36 = .ok (.goto 4, 3) := by decide +kernel
theorem d2_compares_39 : decode cX2_compares 39 = .ok (.iconst 0, 1) := by decide +kernel
theorem d2_compares_40 : decode cX2_compares 40 = .ok (.ireturn, 1) := by decide +kernel
abbrev K2_compares : CK Int32 := (enI, (some .boolean), 2, 1, none)
noncomputable def F2_compares (p0 : Int32) (p1 : Int32) (σ : Ms) : Option (Int32 × Ms) :=
  if p1 ≠ 0 then (if p1 ≠ (1 : Int32) then (if p0 ≠ 0 then (some ((0 : Int32), σ))
  else (some ((1 : Int32), σ)))
  else (if p0 ≤ 0 then (some ((0 : Int32), σ))
  else (some ((1 : Int32), σ))))
  else (if 0 ≤ p0 then (some ((0 : Int32), σ))
  else (some ((1 : Int32), σ)))
set_option maxRecDepth 100000 in
theorem mc2_compares (p0 : Int32) (p1 : Int32) (σ : Ms) : MC enI yX2_compares cX2_compares 2 (some .boolean) 1 (F2_compares p0 p1 σ) σ [.int p0, .int p1] := by
  refine MC.i (by decide +kernel) (Nat.le_of_ble_eq_true rfl) ?_
  show VF (K2_compares) cX2_compares RX2 (F2_compares p0 p1 σ) σ 0 [(0, .int p0), (1, .int p1)] []
  unfold F2_compares
  refine v_iload_n d2_compares_0 1 rfl rfl ?_
  refine v_if_ne (tgt := 14) d2_compares_1 (by decide) ?_ ?_
  · refine v_iload_n d2_compares_14 1 rfl rfl ?_
    refine v_iconst d2_compares_15 ki_1 ?_
    refine v_icmp_ne (tgt := 31) d2_compares_16 (by decide) ?_ ?_
    · refine v_iload_n d2_compares_31 0 rfl rfl ?_
      refine v_if_ne (tgt := 39) d2_compares_32 (by decide) ?_ ?_
      · refine v_iconst d2_compares_39 ki_0 ?_
        exact v_iret (ty := .boolean) d2_compares_40 rfl rfl rfl
      · refine v_iconst d2_compares_35 ki_1 ?_
        refine v_goto (tgt := 40) d2_compares_36 (by decide) ?_
        exact v_iret (ty := .boolean) d2_compares_40 rfl rfl rfl
    · refine v_iload_n d2_compares_19 0 rfl rfl ?_
      refine v_if_le (tgt := 27) d2_compares_20 (by decide) ?_ ?_
      · refine v_iconst d2_compares_27 ki_0 ?_
        refine v_goto (tgt := 40) d2_compares_28 (by decide) ?_
        exact v_iret (ty := .boolean) d2_compares_40 rfl rfl rfl
      · refine v_iconst d2_compares_23 ki_1 ?_
        refine v_goto (tgt := 40) d2_compares_24 (by decide) ?_
        exact v_iret (ty := .boolean) d2_compares_40 rfl rfl rfl
  · refine v_iload_n d2_compares_4 0 rfl rfl ?_
    refine v_if_ge (tgt := 12) d2_compares_5 (by decide) ?_ ?_
    · refine v_iconst d2_compares_12 ki_0 ?_
      exact v_iret (ty := .boolean) d2_compares_13 rfl rfl rfl
    · refine v_iconst d2_compares_8 ki_1 ?_
      refine v_goto (tgt := 13) d2_compares_9 (by decide) ?_
      exact v_iret (ty := .boolean) d2_compares_13 rfl rfl rfl
theorem dJ6_compare_7cf53_0 : decode cJ6_compare_7cf53 0 = .ok (.iload_n 0, 1) := by decide +kernel
theorem dJ6_compare_7cf53_1 : decode cJ6_compare_7cf53 1 = .ok (.iload_n 1, 1) := by decide +kernel
theorem dJ6_compare_7cf53_2 : decode cJ6_compare_7cf53 2 = .ok (.if_icmp .ge 7, 3) := by decide +kernel
theorem dJ6_compare_7cf53_5 : decode cJ6_compare_7cf53 5 = .ok (.iconst (-1), 1) := by decide +kernel
theorem dJ6_compare_7cf53_6 : decode cJ6_compare_7cf53 6 = .ok (.goto 13, 3) := by decide +kernel
theorem dJ6_compare_7cf53_9 : decode cJ6_compare_7cf53 9 = .ok (.iload_n 0, 1) := by decide +kernel
theorem dJ6_compare_7cf53_10 : decode cJ6_compare_7cf53 10 = .ok (.iload_n 1, 1) := by decide +kernel
theorem dJ6_compare_7cf53_11 : decode cJ6_compare_7cf53 11 = .ok (.if_icmp .ne 7, 3) := by decide +kernel
theorem dJ6_compare_7cf53_14 : decode cJ6_compare_7cf53 14 = .ok (.iconst 0, 1) := by decide +kernel
theorem dJ6_compare_7cf53_15 : decode cJ6_compare_7cf53 15 = .ok (.goto 4, 3) := by decide +kernel
theorem dJ6_compare_7cf53_18 : decode cJ6_compare_7cf53 18 = .ok (.iconst 1, 1) := by decide +kernel
theorem dJ6_compare_7cf53_19 : decode cJ6_compare_7cf53 19 = .ok (.ireturn, 1) := by decide +kernel
abbrev KJ6_compare_7cf53 : CK Int32 := (enI, (some .int), 2, 1, none)
noncomputable def FJ6_compare_7cf53 (p0 : Int32) (p1 : Int32) (σ : Ms) : Option (Int32 × Ms) :=
  if p1 ≤ p0 then (if p0 ≠ p1 then (some ((1 : Int32), σ))
  else (some ((0 : Int32), σ)))
  else (some ((-1 : Int32), σ))
set_option maxRecDepth 100000 in
theorem mcJ6_compare_7cf53 (p0 : Int32) (p1 : Int32) (σ : Ms) : MC enI yJ6_compare_7cf53 cJ6_compare_7cf53 2 (some .int) 1 (FJ6_compare_7cf53 p0 p1 σ) σ [.int p0, .int p1] := by
  refine MC.i (by decide +kernel) (Nat.le_of_ble_eq_true rfl) ?_
  show VF (KJ6_compare_7cf53) cJ6_compare_7cf53 RJ6 (FJ6_compare_7cf53 p0 p1 σ) σ 0 [(0, .int p0), (1, .int p1)] []
  unfold FJ6_compare_7cf53
  refine v_iload_n dJ6_compare_7cf53_0 0 rfl rfl ?_
  refine v_iload_n dJ6_compare_7cf53_1 1 rfl rfl ?_
  refine v_icmp_ge (tgt := 9) dJ6_compare_7cf53_2 (by decide) ?_ ?_
  · refine v_iload_n dJ6_compare_7cf53_9 0 rfl rfl ?_
    refine v_iload_n dJ6_compare_7cf53_10 1 rfl rfl ?_
    refine v_icmp_ne (tgt := 18) dJ6_compare_7cf53_11 (by decide) ?_ ?_
    · refine v_iconst dJ6_compare_7cf53_18 ki_1 ?_
      exact v_iret dJ6_compare_7cf53_19 rfl rfl rfl
    · refine v_iconst dJ6_compare_7cf53_14 ki_0 ?_
      refine v_goto (tgt := 19) dJ6_compare_7cf53_15 (by decide) ?_
      exact v_iret dJ6_compare_7cf53_19 rfl rfl rfl
  · refine v_iconst dJ6_compare_7cf53_5 ki_m1 ?_
    refine v_goto (tgt := 19) dJ6_compare_7cf53_6 (by decide) ?_
    exact v_iret dJ6_compare_7cf53_19 rfl rfl rfl
theorem d11_other_0 : decode cX11_other 0 = .ok (.iload_n 0, 1) := by decide +kernel
theorem d11_other_1 : decode cX11_other 1 = .ok (.ifCond .ne 7, 3) := by decide +kernel
theorem d11_other_4 : decode cX11_other 4 = .ok (.iconst 1, 1) := by decide +kernel
theorem d11_other_5 : decode cX11_other 5 = .ok (.goto 4, 3) := by decide +kernel
theorem d11_other_8 : decode cX11_other 8 = .ok (.iconst 0, 1) := by decide +kernel
theorem d11_other_9 : decode cX11_other 9 = .ok (.ireturn, 1) := by decide +kernel
abbrev K11_other : CK Int32 := (enI, (some .int), 1, 1, none)
noncomputable def F11_other (p0 : Int32) (σ : Ms) : Option (Int32 × Ms) :=
  if p0 ≠ 0 then (some ((0 : Int32), σ))
  else (some ((1 : Int32), σ))
set_option maxRecDepth 100000 in
theorem mc11_other (p0 : Int32) (σ : Ms) : MC enI yX11_other cX11_other 1 (some .int) 1 (F11_other p0 σ) σ [.int p0] := by
  refine MC.i (by decide +kernel) (Nat.le_of_ble_eq_true rfl) ?_
  show VF (K11_other) cX11_other RX11 (F11_other p0 σ) σ 0 [(0, .int p0)] []
  unfold F11_other
  refine v_iload_n d11_other_0 0 rfl rfl ?_
  refine v_if_ne (tgt := 8) d11_other_1 (by decide) ?_ ?_
  · refine v_iconst d11_other_8 ki_0 ?_
    exact v_iret d11_other_9 rfl rfl rfl
  · refine v_iconst d11_other_4 ki_1 ?_
    refine v_goto (tgt := 9) d11_other_5 (by decide) ?_
    exact v_iret d11_other_9 rfl rfl rfl
theorem d4_settled_0 : decode cX4_settled 0 = .ok (.lload_n 1, 1) := by decide +kernel
theorem d4_settled_1 : decode cX4_settled 1 = .ok (.lstore 5, 2) := by decide +kernel
theorem d4_settled_3 : decode cX4_settled 3 = .ok (.iload_n 3, 1) := by decide +kernel
theorem d4_settled_4 : decode cX4_settled 4 = .ok (.istore 7, 2) := by decide +kernel
theorem d4_settled_6 : decode cX4_settled 6 = .ok (.iload 4, 2) := by decide +kernel
theorem d4_settled_8 : decode cX4_settled 8 = .ok (.istore 8, 2) := by decide +kernel
theorem d4_settled_10 : decode cX4_settled 10 = .ok (.iconst 0, 1) := by decide +kernel
theorem d4_settled_11 : decode cX4_settled 11 = .ok (.istore 9, 2) := by decide +kernel
theorem d4_settled_13 : decode cX4_settled 13 = .ok (.iload 9, 2) := by decide +kernel
theorem d4_settled_15 : decode cX4_settled 15 = .ok (.iconst 5, 1) := by decide +kernel
theorem d4_settled_16 : decode cX4_settled 16 = .ok (.if_icmp .ge 60, 3) := by decide +kernel
theorem d4_settled_19 : decode cX4_settled 19 = .ok (.aload_n 0, 1) := by decide +kernel
theorem d4_settled_20 : decode cX4_settled 20 = .ok (.iload 7, 2) := by decide +kernel
theorem d4_settled_22 : decode cX4_settled 22 = .ok (.invokevirtual 55, 3) := by decide +kernel
theorem d4_settled_25 : decode cX4_settled 25 = .ok (.istore 10, 2) := by decide +kernel
theorem d4_settled_27 : decode cX4_settled 27 = .ok (.iload 10, 2) := by decide +kernel
theorem d4_settled_29 : decode cX4_settled 29 = .ok (.iconst (-1), 1) := by decide +kernel
theorem d4_settled_30 : decode cX4_settled 30 = .ok (.if_icmp .ne 6, 3) := by decide +kernel
theorem d4_settled_33 : decode cX4_settled 33 = .ok (.goto 43, 3) := by decide +kernel
theorem d4_settled_36 : decode cX4_settled 36 = .ok (.lload 5, 2) := by decide +kernel
theorem d4_settled_38 : decode cX4_settled 38 = .ok (.aload_n 0, 1) := by decide +kernel
theorem d4_settled_39 : decode cX4_settled 39 = .ok (.iload 10, 2) := by decide +kernel
theorem d4_settled_41 : decode cX4_settled 41 = .ok (.iload 8, 2) := by decide +kernel
theorem d4_settled_43 : decode cX4_settled 43 = .ok (.invokevirtual 58, 3) := by decide +kernel
theorem d4_settled_46 : decode cX4_settled 46 = .ok (.i2l, 1) := by decide +kernel
theorem d4_settled_47 : decode cX4_settled 47 = .ok (.ldc2_w 62, 3) := by decide +kernel
theorem d4_settled_50 : decode cX4_settled 50 = .ok (.lmul, 1) := by decide +kernel
theorem d4_settled_51 : decode cX4_settled 51 = .ok (.ladd, 1) := by decide +kernel
theorem d4_settled_52 : decode cX4_settled 52 = .ok (.lstore 5, 2) := by decide +kernel
theorem d4_settled_54 : decode cX4_settled 54 = .ok (.iload 7, 2) := by decide +kernel
theorem d4_settled_56 : decode cX4_settled 56 = .ok (.iconst 1, 1) := by decide +kernel
theorem d4_settled_57 : decode cX4_settled 57 = .ok (.iload 10, 2) := by decide +kernel
theorem d4_settled_59 : decode cX4_settled 59 = .ok (.ishl, 1) := by decide +kernel
theorem d4_settled_60 : decode cX4_settled 60 = .ok (.ior, 1) := by decide +kernel
theorem d4_settled_61 : decode cX4_settled 61 = .ok (.istore 7, 2) := by decide +kernel
theorem d4_settled_63 : decode cX4_settled 63 = .ok (.iload 8, 2) := by decide +kernel
theorem d4_settled_65 : decode cX4_settled 65 = .ok (.invokestatic 64, 3) := by decide +kernel
theorem d4_settled_68 : decode cX4_settled 68 = .ok (.istore 8, 2) := by decide +kernel
theorem d4_settled_70 : decode cX4_settled 70 = .ok (.iinc 9 1, 3) := by decide +kernel
theorem d4_settled_73 : decode cX4_settled 73 = .ok (.goto (-60), 3) := by decide +kernel
theorem d4_settled_76 : decode cX4_settled 76 = .ok (.lload 5, 2) := by decide +kernel
theorem d4_settled_78 : decode cX4_settled 78 = .ok (.lreturn, 1) := by decide +kernel
abbrev K4_settled : CK Int64 := (enL, (some .long), 11, 3, none)
noncomputable def F4_settled_b13B (N : Nat) (q0 : Nat) (k13 : Int64 × Int32 × Int32 × Int32 × Ms → Option (Int64 × Ms)) (l5 : Int64) (l7 : Int32) (l8 : Int32) (l9 : Int32) (σ : Ms) : Option (Int64 × Ms) :=
  if (5 : Int32) ≤ l9 then (some (l5, σ))
  else (bn (F0_hottestBut N q0 l7 σ) (fun r1 t2 => if r1 ≠ (-1 : Int32) then (bn (F0_gain q0 r1 l8 t2) (fun r3 t4 => lt (l5 + ((r3.toInt64) * (1073741824 : Int64))) (fun x5 => lt (l7 ||| ((1 : Int32) <<< (r1 &&& 31))) (fun x6 => bn (F11_other l8 t4) (fun r7 t8 => k13 (x5, x6, r7, (l9 + (1 : Int32)), t8))))))
  else (some (l5, t2))))
noncomputable def F4_settled_b13 (N : Nat) (q0 : Nat) (l5 : Int64) (l7 : Int32) (l8 : Int32) (l9 : Int32) (σ : Ms) : Option (Int64 × Ms) :=
  fx N (fun k x => F4_settled_b13B N q0 k x.1 x.2.1 x.2.2.1 x.2.2.2.1 x.2.2.2.2) (l5, l7, l8, l9, σ)
noncomputable def F4_settled (N : Nat) (q0 : Nat) (p1 : Int64) (p2 : Int32) (p3 : Int32) (σ : Ms) : Option (Int64 × Ms) :=
  F4_settled_b13 N q0 p1 p2 p3 (0 : Int32) σ
set_option maxRecDepth 100000 in
theorem v4_settled_b13B (N : Nat) (q0 : Nat) (hq0 : IsC q0 (0, 0, 0)) (k13 : Int64 × Int32 × Int32 × Int32 × Ms → Option (Int64 × Ms)) (hk13 : ∀ (l5 : Int64) (l7 : Int32) (l8 : Int32) (l9 : Int32) (τ : Ms), VF (K4_settled) cX4_settled RX4 (k13 (l5, l7, l8, l9, τ)) τ 13 [(0, .ref q0), (5, .long l5), (7, .int l7), (8, .int l8), (9, .int l9)] []) (l5 : Int64) (l7 : Int32) (l8 : Int32) (l9 : Int32) (σ : Ms) : VF (K4_settled) cX4_settled RX4 (F4_settled_b13B N q0 k13 l5 l7 l8 l9 σ) σ 13 [(0, .ref q0), (5, .long l5), (7, .int l7), (8, .int l8), (9, .int l9)] [] := by
  unfold F4_settled_b13B
  refine v_iload d4_settled_13 4 rfl ?_
  refine v_iconst d4_settled_15 ki_5 ?_
  refine v_icmp_ge (tgt := 76) d4_settled_16 (by decide) ?_ ?_
  · refine v_lload d4_settled_76 1 rfl ?_
    exact v_lret d4_settled_78 rfl rfl
  · refine v_aload_n d4_settled_19 0 rfl rfl ?_
    refine v_iload d4_settled_20 2 rfl ?_
    refine v_callV1i d4_settled_22 (mc0_hottestBut N q0 hq0 l7 σ) yv0_hottestBut mlX4_55 (Recv.obj hq0 rfl) (by decide) (Nat.le_of_ble_eq_true rfl) fun r1 t2 => ?_
    refine v_istore (lv' := [(10, .int r1), (0, .ref q0), (5, .long l5), (7, .int l7), (8, .int l8), (9, .int l9)]) d4_settled_25 (by decide) rfl ?_
    refine v_iload d4_settled_27 0 rfl ?_
    refine v_iconst d4_settled_29 ki_m1 ?_
    refine v_icmp_ne (tgt := 36) d4_settled_30 (by decide) ?_ ?_
    · refine v_lload d4_settled_36 2 rfl ?_
      refine v_aload_n d4_settled_38 1 rfl rfl ?_
      refine v_iload d4_settled_39 0 rfl ?_
      refine v_iload d4_settled_41 4 rfl ?_
      refine v_callV2i d4_settled_43 (mc0_gain q0 hq0 r1 l8 t2) yv0_gain mlX4_58 (Recv.obj hq0 rfl) (by decide) (Nat.le_of_ble_eq_true rfl) fun r3 t4 => ?_
      refine v_i2l d4_settled_46 ?_
      refine v_ldc2 d4_settled_47 klX4_62 ?_
      refine v_lmul d4_settled_50 ?_
      refine v_ladd d4_settled_51 ?_
      refine v_ltl fun x5 => ?_
      refine v_lstore (lv' := [(5, .long x5), (10, .int r1), (0, .ref q0), (7, .int l7), (8, .int l8), (9, .int l9)]) d4_settled_52 (by decide) rfl ?_
      refine v_iload d4_settled_54 3 rfl ?_
      refine v_iconst d4_settled_56 ki_1 ?_
      refine v_iload d4_settled_57 1 rfl ?_
      refine v_ishl d4_settled_59 ?_
      refine v_ior d4_settled_60 ?_
      refine v_lti fun x6 => ?_
      refine v_istore (lv' := [(7, .int x6), (5, .long x5), (10, .int r1), (0, .ref q0), (8, .int l8), (9, .int l9)]) d4_settled_61 (by decide) rfl ?_
      refine v_iload d4_settled_63 4 rfl ?_
      refine v_callN1i d4_settled_65 (mc11_other l8 t4) ys11_other neX4_64 (by decide) (Nat.le_of_ble_eq_true rfl) fun r7 t8 => ?_
      refine v_istore (lv' := [(8, .int r7), (7, .int x6), (5, .long x5), (10, .int r1), (0, .ref q0), (9, .int l9)]) d4_settled_68 (by decide) rfl ?_
      refine v_iinc (lv' := [(9, .int (l9 + (1 : Int32))), (8, .int r7), (7, .int x6), (5, .long x5), (10, .int r1), (0, .ref q0)]) d4_settled_70 5 rfl (by rw [ki_1]) (by decide) rfl ?_
      refine v_goto (tgt := 13) d4_settled_73 (by decide) ?_
      refine v_sub [5, 3, 2, 1, 0] rfl ?_
      exact hk13 x5 x6 r7 (l9 + (1 : Int32)) t8
    · refine v_goto (tgt := 76) d4_settled_33 (by decide) ?_
      refine v_lload d4_settled_76 2 rfl ?_
      exact v_lret d4_settled_78 rfl rfl
theorem v4_settled_b13 (N : Nat) (q0 : Nat) (hq0 : IsC q0 (0, 0, 0)) (l5 : Int64) (l7 : Int32) (l8 : Int32) (l9 : Int32) (σ : Ms) : VF (K4_settled) cX4_settled RX4 (F4_settled_b13 N q0 l5 l7 l8 l9 σ) σ 13 [(0, .ref q0), (5, .long l5), (7, .int l7), (8, .int l8), (9, .int l9)] [] := v_fx (σo := fun x => x.2.2.2.2) (lo := fun x => [(0, .ref q0), (5, .long x.1), (7, .int x.2.1), (8, .int x.2.2.1), (9, .int x.2.2.2.1)]) (fun k hk x => v4_settled_b13B N q0 hq0 k (fun l5 l7 l8 l9 τ => hk (l5, l7, l8, l9, τ)) x.1 x.2.1 x.2.2.1 x.2.2.2.1 x.2.2.2.2) N (l5, l7, l8, l9, σ)
set_option maxRecDepth 100000 in
theorem mc4_settled (N : Nat) (q0 : Nat) (hq0 : IsC q0 (0, 0, 0)) (p1 : Int64) (p2 : Int32) (p3 : Int32) (σ : Ms) : MC enL yX4_settled cX4_settled 11 (some .long) 3 (F4_settled N q0 p1 p2 p3 σ) σ [.ref q0, .long p1, .int p2, .int p3] := by
  refine MC.l (by decide +kernel) (Nat.le_of_ble_eq_true rfl) ?_
  show VF (K4_settled) cX4_settled RX4 (F4_settled N q0 p1 p2 p3 σ) σ 0 [(0, .ref q0), (1, .long p1), (3, .int p2), (4, .int p3)] []
  unfold F4_settled
  refine v_lload_n d4_settled_0 1 rfl rfl ?_
  refine v_lstore (lv' := [(5, .long p1), (0, .ref q0), (1, .long p1), (3, .int p2), (4, .int p3)]) d4_settled_1 (by decide) rfl ?_
  refine v_iload_n d4_settled_3 3 rfl rfl ?_
  refine v_istore (lv' := [(7, .int p2), (5, .long p1), (0, .ref q0), (1, .long p1), (3, .int p2), (4, .int p3)]) d4_settled_4 (by decide) rfl ?_
  refine v_iload d4_settled_6 5 rfl ?_
  refine v_istore (lv' := [(8, .int p3), (7, .int p2), (5, .long p1), (0, .ref q0), (1, .long p1), (3, .int p2), (4, .int p3)]) d4_settled_8 (by decide) rfl ?_
  refine v_iconst d4_settled_10 ki_0 ?_
  refine v_istore (lv' := [(9, .int (0 : Int32)), (8, .int p3), (7, .int p2), (5, .long p1), (0, .ref q0), (1, .long p1), (3, .int p2), (4, .int p3)]) d4_settled_11 (by decide) rfl ?_
  refine v_sub [4, 3, 2, 1, 0] rfl ?_
  exact v4_settled_b13 N q0 hq0 p1 p2 p3 (0 : Int32) σ
theorem d4_isOdd_0 : decode cX4_isOdd 0 = .ok (.aload_n 0, 1) := by decide +kernel
theorem d4_isOdd_1 : decode cX4_isOdd 1 = .ok (.getfield 67, 3) := by decide +kernel
theorem d4_isOdd_4 : decode cX4_isOdd 4 = .ok (.iload_n 1, 1) := by decide +kernel
theorem d4_isOdd_5 : decode cX4_isOdd 5 = .ok (.invokestatic 70, 3) := by decide +kernel
theorem d4_isOdd_8 : decode cX4_isOdd 8 = .ok (.isub, 1) := by decide +kernel
theorem d4_isOdd_9 : decode cX4_isOdd 9 = .ok (.iconst 1, 1) := by decide +kernel
theorem d4_isOdd_10 : decode cX4_isOdd 10 = .ok (.iand, 1) := by decide +kernel
theorem d4_isOdd_11 : decode cX4_isOdd 11 = .ok (.ifCond .eq 7, 3) := by decide +kernel
theorem d4_isOdd_14 : decode cX4_isOdd 14 = .ok (.iconst 1, 1) := by decide +kernel
theorem d4_isOdd_15 : decode cX4_isOdd 15 = .ok (.goto 4, 3) := by decide +kernel
theorem d4_isOdd_18 : decode cX4_isOdd 18 = .ok (.iconst 0, 1) := by decide +kernel
theorem d4_isOdd_19 : decode cX4_isOdd 19 = .ok (.ireturn, 1) := by decide +kernel
abbrev K4_isOdd : CK Int32 := (enI, (some .boolean), 2, 2, none)
noncomputable def F4_isOdd (q0 : Nat) (p1 : Int32) (σ : Ms) : Option (Int32 × Ms) :=
  bn (FJ6_bitCount_0f7a4 p1 σ) (fun r1 t2 => if (((σ.1 q0 8) - r1) &&& (1 : Int32)) = 0 then (some ((0 : Int32), t2))
  else (some ((1 : Int32), t2)))
set_option maxRecDepth 100000 in
theorem mc4_isOdd (q0 : Nat) (hq0 : IsC q0 (0, 0, 0)) (p1 : Int32) (σ : Ms) : MC enI yX4_isOdd cX4_isOdd 2 (some .boolean) 2 (F4_isOdd q0 p1 σ) σ [.ref q0, .int p1] := by
  refine MC.i (by decide +kernel) (Nat.le_of_ble_eq_true rfl) ?_
  show VF (K4_isOdd) cX4_isOdd RX4 (F4_isOdd q0 p1 σ) σ 0 [(0, .ref q0), (1, .int p1)] []
  unfold F4_isOdd
  refine v_aload_n d4_isOdd_0 0 rfl rfl ?_
  refine v_getI d4_isOdd_1 faX4_67 hq0 ?_
  refine v_iload_n d4_isOdd_4 1 rfl rfl ?_
  refine v_callS1i d4_isOdd_5 (mcJ6_bitCount_0f7a4 p1 σ) ysJ6_bitCount_0f7a4 mlX4_70 (by decide) (Nat.le_of_ble_eq_true rfl) fun r1 t2 => ?_
  refine v_isub d4_isOdd_8 ?_
  refine v_iconst d4_isOdd_9 ki_1 ?_
  refine v_iand d4_isOdd_10 ?_
  refine v_if_eq (tgt := 18) d4_isOdd_11 (by decide) ?_ ?_
  · refine v_iconst d4_isOdd_18 ki_0 ?_
    exact v_iret (ty := .boolean) d4_isOdd_19 rfl rfl rfl
  · refine v_iconst d4_isOdd_14 ki_1 ?_
    refine v_goto (tgt := 19) d4_isOdd_15 (by decide) ?_
    exact v_iret (ty := .boolean) d4_isOdd_19 rfl rfl rfl
theorem d4_decides_0 : decode cX4_decides 0 = .ok (.lload_n 0, 1) := by decide +kernel
theorem d4_decides_1 : decode cX4_decides 1 = .ok (.lconst 0, 1) := by decide +kernel
theorem d4_decides_2 : decode cX4_decides 2 = .ok (.lcmp, 1) := by decide +kernel
theorem d4_decides_3 : decode cX4_decides 3 = .ok (.ifCond .eq 33, 3) := by decide +kernel
theorem d4_decides_6 : decode cX4_decides 6 = .ok (.lload_n 0, 1) := by decide +kernel
theorem d4_decides_7 : decode cX4_decides 7 = .ok (.lconst 0, 1) := by decide +kernel
theorem d4_decides_8 : decode cX4_decides 8 = .ok (.lcmp, 1) := by decide +kernel
theorem d4_decides_9 : decode cX4_decides 9 = .ok (.ifCond .le 7, 3) := by decide +kernel
theorem d4_decides_12 : decode cX4_decides 12 = .ok (.iconst 1, 1) := by decide +kernel
theorem d4_decides_13 : decode cX4_decides 13 = .ok (.goto 4, 3) := by decide +kernel
theorem d4_decides_16 : decode cX4_decides 16 = .ok (.iconst 0, 1) := by decide +kernel
theorem d4_decides_17 : decode cX4_decides 17 = .ok (.iload 4, 2) := by decide +kernel
theorem d4_decides_19 : decode cX4_decides 19 = .ok (.ifCond .ne 7, 3) := by decide +kernel
theorem d4_decides_22 : decode cX4_decides 22 = .ok (.iconst 1, 1) := by decide +kernel
theorem d4_decides_23 : decode cX4_decides 23 = .ok (.goto 4, 3) := by decide +kernel
theorem d4_decides_26 : decode cX4_decides 26 = .ok (.iconst 0, 1) := by decide +kernel
theorem d4_decides_27 : decode cX4_decides 27 = .ok (.if_icmp .ne 7, 3) := by decide +kernel
theorem d4_decides_30 : decode cX4_decides 30 = .ok (.iconst 1, 1) := by decide +kernel
theorem d4_decides_31 : decode cX4_decides 31 = .ok (.goto 4, 3) := by decide +kernel
theorem d4_decides_34 : decode cX4_decides 34 = .ok (.iconst 0, 1) := by decide +kernel
theorem d4_decides_35 : decode cX4_decides 35 = .ok (.ireturn, 1) := by decide +kernel
theorem d4_decides_36 : decode cX4_decides 36 = .ok (.iload_n 2, 1) := by decide +kernel
theorem d4_decides_37 : decode cX4_decides 37 = .ok (.ifCond .eq 7, 3) := by decide +kernel
theorem d4_decides_40 : decode cX4_decides 40 = .ok (.iconst 1, 1) := by decide +kernel
theorem d4_decides_41 : decode cX4_decides 41 = .ok (.goto 4, 3) := by decide +kernel
theorem d4_decides_44 : decode cX4_decides 44 = .ok (.iconst 0, 1) := by decide +kernel
theorem d4_decides_45 : decode cX4_decides 45 = .ok (.iload_n 3, 1) := by decide +kernel
theorem d4_decides_46 : decode cX4_decides 46 = .ok (.if_icmp .eq 7, 3) := by decide +kernel
theorem d4_decides_49 : decode cX4_decides 49 = .ok (.iconst 1, 1) := by decide +kernel
theorem d4_decides_50 : decode cX4_decides 50 = .ok (.goto 4, 3) := by decide +kernel
theorem d4_decides_53 : decode cX4_decides 53 = .ok (.iconst 0, 1) := by decide +kernel
theorem d4_decides_54 : decode cX4_decides 54 = .ok (.ireturn, 1) := by decide +kernel
abbrev K4_decides : CK Int32 := (enI, (some .boolean), 5, 1, none)
noncomputable def F4_decides_b45 (l3 : Int32) (s0 : Int32) (σ : Ms) : Option (Int32 × Ms) :=
  if s0 = l3 then (some ((0 : Int32), σ))
  else (some ((1 : Int32), σ))
noncomputable def F4_decides_b27 (s0 : Int32) (s1 : Int32) (σ : Ms) : Option (Int32 × Ms) :=
  if s0 ≠ s1 then (some ((0 : Int32), σ))
  else (some ((1 : Int32), σ))
noncomputable def F4_decides_b17 (l4 : Int32) (s0 : Int32) (σ : Ms) : Option (Int32 × Ms) :=
  if l4 ≠ 0 then (F4_decides_b27 s0 (0 : Int32) σ)
  else (F4_decides_b27 s0 (1 : Int32) σ)
noncomputable def F4_decides (p0 : Int64) (p1 : Int32) (p2 : Int32) (p3 : Int32) (σ : Ms) : Option (Int32 × Ms) :=
  if (lg_cmp p0 (0 : Int64)) = 0 then (if p1 = 0 then (F4_decides_b45 p2 (0 : Int32) σ)
  else (F4_decides_b45 p2 (1 : Int32) σ))
  else (if (lg_cmp p0 (0 : Int64)) ≤ 0 then (F4_decides_b17 p3 (0 : Int32) σ)
  else (F4_decides_b17 p3 (1 : Int32) σ))
set_option maxRecDepth 100000 in
theorem v4_decides_b45 (l3 : Int32) (s0 : Int32) (σ : Ms) : VF (K4_decides) cX4_decides RX4 (F4_decides_b45 l3 s0 σ) σ 45 [(3, .int l3)] [.int s0] := by
  unfold F4_decides_b45
  refine v_iload_n d4_decides_45 0 rfl rfl ?_
  refine v_icmp_eq (tgt := 53) d4_decides_46 (by decide) ?_ ?_
  · refine v_iconst d4_decides_53 ki_0 ?_
    exact v_iret (ty := .boolean) d4_decides_54 rfl rfl rfl
  · refine v_iconst d4_decides_49 ki_1 ?_
    refine v_goto (tgt := 54) d4_decides_50 (by decide) ?_
    exact v_iret (ty := .boolean) d4_decides_54 rfl rfl rfl
set_option maxRecDepth 100000 in
theorem v4_decides_b27 (s0 : Int32) (s1 : Int32) (σ : Ms) : VF (K4_decides) cX4_decides RX4 (F4_decides_b27 s0 s1 σ) σ 27 [] [.int s1, .int s0] := by
  unfold F4_decides_b27
  refine v_icmp_ne (tgt := 34) d4_decides_27 (by decide) ?_ ?_
  · refine v_iconst d4_decides_34 ki_0 ?_
    exact v_iret (ty := .boolean) d4_decides_35 rfl rfl rfl
  · refine v_iconst d4_decides_30 ki_1 ?_
    refine v_goto (tgt := 35) d4_decides_31 (by decide) ?_
    exact v_iret (ty := .boolean) d4_decides_35 rfl rfl rfl
set_option maxRecDepth 100000 in
theorem v4_decides_b17 (l4 : Int32) (s0 : Int32) (σ : Ms) : VF (K4_decides) cX4_decides RX4 (F4_decides_b17 l4 s0 σ) σ 17 [(4, .int l4)] [.int s0] := by
  unfold F4_decides_b17
  refine v_iload d4_decides_17 0 rfl ?_
  refine v_if_ne (tgt := 26) d4_decides_19 (by decide) ?_ ?_
  · refine v_iconst d4_decides_26 ki_0 ?_
    refine v_sub [] rfl ?_
    exact v4_decides_b27 s0 (0 : Int32) σ
  · refine v_iconst d4_decides_22 ki_1 ?_
    refine v_goto (tgt := 27) d4_decides_23 (by decide) ?_
    refine v_sub [] rfl ?_
    exact v4_decides_b27 s0 (1 : Int32) σ
set_option maxRecDepth 100000 in
theorem mc4_decides (p0 : Int64) (p1 : Int32) (p2 : Int32) (p3 : Int32) (σ : Ms) : MC enI yX4_decides cX4_decides 5 (some .boolean) 1 (F4_decides p0 p1 p2 p3 σ) σ [.long p0, .int p1, .int p2, .int p3] := by
  refine MC.i (by decide +kernel) (Nat.le_of_ble_eq_true rfl) ?_
  show VF (K4_decides) cX4_decides RX4 (F4_decides p0 p1 p2 p3 σ) σ 0 [(0, .long p0), (2, .int p1), (3, .int p2), (4, .int p3)] []
  unfold F4_decides
  refine v_lload_n d4_decides_0 0 rfl rfl ?_
  refine v_lconst d4_decides_1 kl_0 ?_
  refine v_lcmp d4_decides_2 ?_
  refine v_if_eq (tgt := 36) d4_decides_3 (by decide) ?_ ?_
  · refine v_iload_n d4_decides_36 1 rfl rfl ?_
    refine v_if_eq (tgt := 44) d4_decides_37 (by decide) ?_ ?_
    · refine v_iconst d4_decides_44 ki_0 ?_
      refine v_sub [2] rfl ?_
      exact v4_decides_b45 p2 (0 : Int32) σ
    · refine v_iconst d4_decides_40 ki_1 ?_
      refine v_goto (tgt := 45) d4_decides_41 (by decide) ?_
      refine v_sub [2] rfl ?_
      exact v4_decides_b45 p2 (1 : Int32) σ
  · refine v_lload_n d4_decides_6 0 rfl rfl ?_
    refine v_lconst d4_decides_7 kl_0 ?_
    refine v_lcmp d4_decides_8 ?_
    refine v_if_le (tgt := 16) d4_decides_9 (by decide) ?_ ?_
    · refine v_iconst d4_decides_16 ki_0 ?_
      refine v_sub [3] rfl ?_
      exact v4_decides_b17 p3 (0 : Int32) σ
    · refine v_iconst d4_decides_12 ki_1 ?_
      refine v_goto (tgt := 17) d4_decides_13 (by decide) ?_
      refine v_sub [3] rfl ?_
      exact v4_decides_b17 p3 (1 : Int32) σ
theorem d4_winsBeginning_0 : decode cX4_winsBeginning 0 = .ok (.aload_n 0, 1) := by decide +kernel
theorem d4_winsBeginning_1 : decode cX4_winsBeginning 1 = .ok (.aload_n 0, 1) := by decide +kernel
theorem d4_winsBeginning_2 : decode cX4_winsBeginning 2 = .ok (.getfield 27, 3) := by decide +kernel
theorem d4_winsBeginning_5 : decode cX4_winsBeginning 5 = .ok (.invokevirtual 32, 3) := by decide +kernel
theorem d4_winsBeginning_8 : decode cX4_winsBeginning 8 = .ok (.lstore_n 2, 1) := by decide +kernel
theorem d4_winsBeginning_9 : decode cX4_winsBeginning 9 = .ok (.aload_n 0, 1) := by decide +kernel
theorem d4_winsBeginning_10 : decode cX4_winsBeginning 10 = .ok (.aload_n 0, 1) := by decide +kernel
theorem d4_winsBeginning_11 : decode cX4_winsBeginning 11 = .ok (.getfield 27, 3) := by decide +kernel
theorem d4_winsBeginning_14 : decode cX4_winsBeginning 14 = .ok (.invokevirtual 36, 3) := by decide +kernel
theorem d4_winsBeginning_17 : decode cX4_winsBeginning 17 = .ok (.istore 4, 2) := by decide +kernel
theorem d4_winsBeginning_19 : decode cX4_winsBeginning 19 = .ok (.aload_n 0, 1) := by decide +kernel
theorem d4_winsBeginning_20 : decode cX4_winsBeginning 20 = .ok (.lload_n 2, 1) := by decide +kernel
theorem d4_winsBeginning_21 : decode cX4_winsBeginning 21 = .ok (.aload_n 0, 1) := by decide +kernel
theorem d4_winsBeginning_22 : decode cX4_winsBeginning 22 = .ok (.getfield 40, 3) := by decide +kernel
theorem d4_winsBeginning_25 : decode cX4_winsBeginning 25 = .ok (.iload_n 1, 1) := by decide +kernel
theorem d4_winsBeginning_26 : decode cX4_winsBeginning 26 = .ok (.invokestatic 43, 3) := by decide +kernel
theorem d4_winsBeginning_29 : decode cX4_winsBeginning 29 = .ok (.iload 4, 2) := by decide +kernel
theorem d4_winsBeginning_31 : decode cX4_winsBeginning 31 = .ok (.aload_n 0, 1) := by decide +kernel
theorem d4_winsBeginning_32 : decode cX4_winsBeginning 32 = .ok (.aload_n 0, 1) := by decide +kernel
theorem d4_winsBeginning_33 : decode cX4_winsBeginning 33 = .ok (.getfield 40, 3) := by decide +kernel
theorem d4_winsBeginning_36 : decode cX4_winsBeginning 36 = .ok (.invokestatic 47, 3) := by decide +kernel
theorem d4_winsBeginning_39 : decode cX4_winsBeginning 39 = .ok (.iload_n 1, 1) := by decide +kernel
theorem d4_winsBeginning_40 : decode cX4_winsBeginning 40 = .ok (.invokestatic 51, 3) := by decide +kernel
theorem d4_winsBeginning_43 : decode cX4_winsBeginning 43 = .ok (.ireturn, 1) := by decide +kernel
abbrev K4_winsBeginning : CK Int32 := (enI, (some .boolean), 5, 4, none)
noncomputable def F4_winsBeginning (N : Nat) (q0 : Nat) (p1 : Int32) (σ : Ms) : Option (Int32 × Ms) :=
  bn (F0_worthWith N q0 (σ.1 q0 6) σ) (fun r1 t2 => bn (F0_nimWith N q0 (t2.1 q0 6) t2) (fun r3 t4 => bn (F4_settled N q0 r1 (t4.1 q0 9) p1 t4) (fun r5 t6 => bn (F4_isOdd q0 (t6.1 q0 9) t6) (fun r7 t8 => bn (F4_decides r5 r3 r7 p1 t8) (fun r9 t10 => ck (nkB r9) (some (r9, t10)))))))
set_option maxRecDepth 100000 in
theorem mc4_winsBeginning (N : Nat) (q0 : Nat) (hq0 : IsC q0 (0, 0, 0)) (p1 : Int32) (σ : Ms) : MC enI yX4_winsBeginning cX4_winsBeginning 5 (some .boolean) 4 (F4_winsBeginning N q0 p1 σ) σ [.ref q0, .int p1] := by
  refine MC.i (by decide +kernel) (Nat.le_of_ble_eq_true rfl) ?_
  show VF (K4_winsBeginning) cX4_winsBeginning RX4 (F4_winsBeginning N q0 p1 σ) σ 0 [(0, .ref q0), (1, .int p1)] []
  unfold F4_winsBeginning
  refine v_aload_n d4_winsBeginning_0 0 rfl rfl ?_
  refine v_aload_n d4_winsBeginning_1 0 rfl rfl ?_
  refine v_getI d4_winsBeginning_2 faX4_27 hq0 ?_
  refine v_callV1l d4_winsBeginning_5 (mc0_worthWith N q0 hq0 (σ.1 q0 6) σ) yv0_worthWith mlX4_32 (Recv.obj hq0 rfl) (by decide) (Nat.le_of_ble_eq_true rfl) fun r1 t2 => ?_
  refine v_lstore_n (lv' := [(2, .long r1), (0, .ref q0), (1, .int p1)]) d4_winsBeginning_8 rfl (by decide) rfl ?_
  refine v_aload_n d4_winsBeginning_9 1 rfl rfl ?_
  refine v_aload_n d4_winsBeginning_10 1 rfl rfl ?_
  refine v_getI d4_winsBeginning_11 faX4_27 hq0 ?_
  refine v_callV1i d4_winsBeginning_14 (mc0_nimWith N q0 hq0 (t2.1 q0 6) t2) yv0_nimWith mlX4_36 (Recv.obj hq0 rfl) (by decide) (Nat.le_of_ble_eq_true rfl) fun r3 t4 => ?_
  refine v_istore (lv' := [(4, .int r3), (2, .long r1), (0, .ref q0), (1, .int p1)]) d4_winsBeginning_17 (by decide) rfl ?_
  refine v_aload_n d4_winsBeginning_19 2 rfl rfl ?_
  refine v_lload_n d4_winsBeginning_20 1 rfl rfl ?_
  refine v_aload_n d4_winsBeginning_21 2 rfl rfl ?_
  refine v_getI d4_winsBeginning_22 faX4_40 hq0 ?_
  refine v_iload_n d4_winsBeginning_25 3 rfl rfl ?_
  refine v_callS4l d4_winsBeginning_26 (mc4_settled N q0 hq0 r1 (t4.1 q0 9) p1 t4) ys4_settled mlX4_43 (by decide) (Nat.le_of_ble_eq_true rfl) fun r5 t6 => ?_
  refine v_iload d4_winsBeginning_29 0 rfl ?_
  refine v_aload_n d4_winsBeginning_31 2 rfl rfl ?_
  refine v_aload_n d4_winsBeginning_32 2 rfl rfl ?_
  refine v_getI d4_winsBeginning_33 faX4_40 hq0 ?_
  refine v_callS2i d4_winsBeginning_36 (mc4_isOdd q0 hq0 (t6.1 q0 9) t6) ys4_isOdd mlX4_47 (by decide) (Nat.le_of_ble_eq_true rfl) fun r7 t8 => ?_
  refine v_iload_n d4_winsBeginning_39 3 rfl rfl ?_
  refine v_callS4i d4_winsBeginning_40 (mc4_decides r5 r3 r7 p1 t8) ys4_decides mlX4_51 (by decide) (Nat.le_of_ble_eq_true rfl) fun r9 t10 => ?_
  exact v_iretB d4_winsBeginning_43 rfl rfl
theorem d2_holds_0 : decode cX2_holds 0 = .ok (.iload_n 1, 1) := by decide +kernel
theorem d2_holds_1 : decode cX2_holds 1 = .ok (.tableswitch 72 0 2 #[27, 33, 55], 27) := by decide +kernel
theorem d2_holds_28 : decode cX2_holds 28 = .ok (.aload_n 0, 1) := by decide +kernel
theorem d2_holds_29 : decode cX2_holds 29 = .ok (.iload_n 2, 1) := by decide +kernel
theorem d2_holds_30 : decode cX2_holds 30 = .ok (.invokevirtual 127, 3) := by decide +kernel
theorem d2_holds_33 : decode cX2_holds 33 = .ok (.ireturn, 1) := by decide +kernel
theorem d2_holds_34 : decode cX2_holds 34 = .ok (.aload_n 0, 1) := by decide +kernel
theorem d2_holds_35 : decode cX2_holds 35 = .ok (.aload_n 0, 1) := by decide +kernel
theorem d2_holds_36 : decode cX2_holds 36 = .ok (.getfield 130, 3) := by decide +kernel
theorem d2_holds_39 : decode cX2_holds 39 = .ok (.invokevirtual 133, 3) := by decide +kernel
theorem d2_holds_42 : decode cX2_holds 42 = .ok (.iload_n 2, 1) := by decide +kernel
theorem d2_holds_43 : decode cX2_holds 43 = .ok (.i2l, 1) := by decide +kernel
theorem d2_holds_44 : decode cX2_holds 44 = .ok (.ldc2_w 137, 3) := by decide +kernel
theorem d2_holds_47 : decode cX2_holds 47 = .ok (.lmul, 1) := by decide +kernel
theorem d2_holds_48 : decode cX2_holds 48 = .ok (.invokestatic 139, 3) := by decide +kernel
theorem d2_holds_51 : decode cX2_holds 51 = .ok (.iload_n 3, 1) := by decide +kernel
theorem d2_holds_52 : decode cX2_holds 52 = .ok (.invokestatic 145, 3) := by decide +kernel
theorem d2_holds_55 : decode cX2_holds 55 = .ok (.ireturn, 1) := by decide +kernel
theorem d2_holds_56 : decode cX2_holds 56 = .ok (.aload_n 0, 1) := by decide +kernel
theorem d2_holds_57 : decode cX2_holds 57 = .ok (.aload_n 0, 1) := by decide +kernel
theorem d2_holds_58 : decode cX2_holds 58 = .ok (.getfield 130, 3) := by decide +kernel
theorem d2_holds_61 : decode cX2_holds 61 = .ok (.invokevirtual 148, 3) := by decide +kernel
theorem d2_holds_64 : decode cX2_holds 64 = .ok (.iload_n 2, 1) := by decide +kernel
theorem d2_holds_65 : decode cX2_holds 65 = .ok (.invokestatic 151, 3) := by decide +kernel
theorem d2_holds_68 : decode cX2_holds 68 = .ok (.iload_n 3, 1) := by decide +kernel
theorem d2_holds_69 : decode cX2_holds 69 = .ok (.invokestatic 145, 3) := by decide +kernel
theorem d2_holds_72 : decode cX2_holds 72 = .ok (.ireturn, 1) := by decide +kernel
theorem d2_holds_73 : decode cX2_holds 73 = .ok (.aload_n 0, 1) := by decide +kernel
theorem d2_holds_74 : decode cX2_holds 74 = .ok (.iload_n 2, 1) := by decide +kernel
theorem d2_holds_75 : decode cX2_holds 75 = .ok (.invokestatic 156, 3) := by decide +kernel
theorem d2_holds_78 : decode cX2_holds 78 = .ok (.ireturn, 1) := by decide +kernel
abbrev K2_holds : CK Int32 := (enI, (some .boolean), 4, 5, none)
noncomputable def F2_holds (N : Nat) (q0 : Nat) (p1 : Int32) (p2 : Int32) (p3 : Int32) (σ : Ms) : Option (Int32 × Ms) :=
  if p1 = (0 : Int32) then (bn (F0_isStanding q0 p2 σ) (fun r1 t2 => ck (nkB r1) (some (r1, t2))))
  else (if p1 = (1 : Int32) then (bn (F0_worthWith N q0 (σ.1 q0 6) σ) (fun r3 t4 => bn (FJ13_compare_74951 r3 ((p2.toInt64) * (1073741824 : Int64)) t4) (fun r5 t6 => bn (F2_compares r5 p3 t6) (fun r7 t8 => ck (nkB r7) (some (r7, t8))))))
  else (if p1 = (2 : Int32) then (bn (F0_nimWith N q0 (σ.1 q0 6) σ) (fun r9 t10 => bn (FJ6_compare_7cf53 r9 p2 t10) (fun r11 t12 => bn (F2_compares r11 p3 t12) (fun r13 t14 => ck (nkB r13) (some (r13, t14))))))
  else (bn (F4_winsBeginning N q0 p2 σ) (fun r15 t16 => ck (nkB r15) (some (r15, t16))))))
set_option maxRecDepth 100000 in
theorem mc2_holds (N : Nat) (q0 : Nat) (hq0 : IsC q0 (0, 0, 0)) (p1 : Int32) (p2 : Int32) (p3 : Int32) (σ : Ms) : MC enI yX2_holds cX2_holds 4 (some .boolean) 5 (F2_holds N q0 p1 p2 p3 σ) σ [.ref q0, .int p1, .int p2, .int p3] := by
  refine MC.i (by decide +kernel) (Nat.le_of_ble_eq_true rfl) ?_
  show VF (K2_holds) cX2_holds RX2 (F2_holds N q0 p1 p2 p3 σ) σ 0 [(0, .ref q0), (1, .int p1), (2, .int p2), (3, .int p3)] []
  unfold F2_holds
  refine v_iload_n d2_holds_0 1 rfl rfl ?_
  refine v_ite _ (fun ht0 => ?_) (fun ht0 => ?_)
  · refine v_tabIn (tgt := 28) d2_holds_1 (0 : Int32) ht0 (by decide) (by decide) rfl (by decide) ?_
    refine v_aload_n d2_holds_28 0 rfl rfl ?_
    refine v_iload_n d2_holds_29 2 rfl rfl ?_
    refine v_callV1i d2_holds_30 (mc0_isStanding q0 hq0 p2 σ) yv0_isStanding mlX2_127 (Recv.obj hq0 rfl) (by decide) (Nat.le_of_ble_eq_true rfl) fun r1 t2 => ?_
    exact v_iretB d2_holds_33 rfl rfl
  refine v_ite _ (fun ht1 => ?_) (fun ht1 => ?_)
  · refine v_tabIn (tgt := 34) d2_holds_1 (1 : Int32) ht1 (by decide) (by decide) rfl (by decide) ?_
    refine v_aload_n d2_holds_34 0 rfl rfl ?_
    refine v_aload_n d2_holds_35 0 rfl rfl ?_
    refine v_getI d2_holds_36 faX2_130 hq0 ?_
    refine v_callV1l d2_holds_39 (mc0_worthWith N q0 hq0 (σ.1 q0 6) σ) yv0_worthWith mlX2_133 (Recv.obj hq0 rfl) (by decide) (Nat.le_of_ble_eq_true rfl) fun r3 t4 => ?_
    refine v_iload_n d2_holds_42 2 rfl rfl ?_
    refine v_i2l d2_holds_43 ?_
    refine v_ldc2 d2_holds_44 klX2_137 ?_
    refine v_lmul d2_holds_47 ?_
    refine v_callS2i d2_holds_48 (mcJ13_compare_74951 r3 ((p2.toInt64) * (1073741824 : Int64)) t4) ysJ13_compare_74951 mlX2_139 (by decide) (Nat.le_of_ble_eq_true rfl) fun r5 t6 => ?_
    refine v_iload_n d2_holds_51 3 rfl rfl ?_
    refine v_callS2i d2_holds_52 (mc2_compares r5 p3 t6) ys2_compares mlX2_145 (by decide) (Nat.le_of_ble_eq_true rfl) fun r7 t8 => ?_
    exact v_iretB d2_holds_55 rfl rfl
  refine v_ite _ (fun ht2 => ?_) (fun ht2 => ?_)
  · refine v_tabIn (tgt := 56) d2_holds_1 (2 : Int32) ht2 (by decide) (by decide) rfl (by decide) ?_
    refine v_aload_n d2_holds_56 0 rfl rfl ?_
    refine v_aload_n d2_holds_57 0 rfl rfl ?_
    refine v_getI d2_holds_58 faX2_130 hq0 ?_
    refine v_callV1i d2_holds_61 (mc0_nimWith N q0 hq0 (σ.1 q0 6) σ) yv0_nimWith mlX2_148 (Recv.obj hq0 rfl) (by decide) (Nat.le_of_ble_eq_true rfl) fun r9 t10 => ?_
    refine v_iload_n d2_holds_64 2 rfl rfl ?_
    refine v_callS2i d2_holds_65 (mcJ6_compare_7cf53 r9 p2 t10) ysJ6_compare_7cf53 mlX2_151 (by decide) (Nat.le_of_ble_eq_true rfl) fun r11 t12 => ?_
    refine v_iload_n d2_holds_68 3 rfl rfl ?_
    refine v_callS2i d2_holds_69 (mc2_compares r11 p3 t12) ys2_compares mlX2_145 (by decide) (Nat.le_of_ble_eq_true rfl) fun r13 t14 => ?_
    exact v_iretB d2_holds_72 rfl rfl
  refine v_tabOut (tgt := 73) d2_holds_1 (by decide) (tab_out 2 (by decide) (by decide) (fun j hj => (match j, hj with | 0, _ => ht0 | 1, _ => ht1 | 2, _ => ht2 | n + 3, h => absurd h (by omega)))) ?_
  refine v_aload_n d2_holds_73 0 rfl rfl ?_
  refine v_iload_n d2_holds_74 2 rfl rfl ?_
  refine v_callS2i d2_holds_75 (mc4_winsBeginning N q0 hq0 p2 σ) ys4_winsBeginning mlX2_156 (by decide) (Nat.le_of_ble_eq_true rfl) fun r15 t16 => ?_
  exact v_iretB d2_holds_78 rfl rfl
theorem d2_doStep_0 : decode cX2_doStep 0 = .ok (.aload_n 2, 1) := by decide +kernel
theorem d2_doStep_1 : decode cX2_doStep 1 = .ok (.getfield 58, 3) := by decide +kernel
theorem d2_doStep_4 : decode cX2_doStep 4 = .ok (.iload_n 3, 1) := by decide +kernel
theorem d2_doStep_5 : decode cX2_doStep 5 = .ok (.iaload, 1) := by decide +kernel
theorem d2_doStep_6 : decode cX2_doStep 6 = .ok (.istore 4, 2) := by decide +kernel
theorem d2_doStep_8 : decode cX2_doStep 8 = .ok (.aload_n 2, 1) := by decide +kernel
theorem d2_doStep_9 : decode cX2_doStep 9 = .ok (.getfield 61, 3) := by decide +kernel
theorem d2_doStep_12 : decode cX2_doStep 12 = .ok (.iload_n 3, 1) := by decide +kernel
theorem d2_doStep_13 : decode cX2_doStep 13 = .ok (.iaload, 1) := by decide +kernel
theorem d2_doStep_14 : decode cX2_doStep 14 = .ok (.istore 5, 2) := by decide +kernel
theorem d2_doStep_16 : decode cX2_doStep 16 = .ok (.aload_n 2, 1) := by decide +kernel
theorem d2_doStep_17 : decode cX2_doStep 17 = .ok (.getfield 44, 3) := by decide +kernel
theorem d2_doStep_20 : decode cX2_doStep 20 = .ok (.iload_n 3, 1) := by decide +kernel
theorem d2_doStep_21 : decode cX2_doStep 21 = .ok (.iaload, 1) := by decide +kernel
theorem d2_doStep_22 : decode cX2_doStep 22 = .ok (.tableswitch 141 0 6 #[42, 54, 66, 78, 90, 98, 130], 42) := by decide +kernel
theorem d2_doStep_64 : decode cX2_doStep 64 = .ok (.aload_n 0, 1) := by decide +kernel
theorem d2_doStep_65 : decode cX2_doStep 65 = .ok (.aload_n 1, 1) := by decide +kernel
theorem d2_doStep_66 : decode cX2_doStep 66 = .ok (.iload 4, 2) := by decide +kernel
theorem d2_doStep_68 : decode cX2_doStep 68 = .ok (.iload 5, 2) := by decide +kernel
theorem d2_doStep_70 : decode cX2_doStep 70 = .ok (.invokevirtual 64, 3) := by decide +kernel
theorem d2_doStep_73 : decode cX2_doStep 73 = .ok (.goto 95, 3) := by decide +kernel
theorem d2_doStep_76 : decode cX2_doStep 76 = .ok (.aload_n 0, 1) := by decide +kernel
theorem d2_doStep_77 : decode cX2_doStep 77 = .ok (.aload_n 1, 1) := by decide +kernel
theorem d2_doStep_78 : decode cX2_doStep 78 = .ok (.iload 4, 2) := by decide +kernel
theorem d2_doStep_80 : decode cX2_doStep 80 = .ok (.iload 5, 2) := by decide +kernel
theorem d2_doStep_82 : decode cX2_doStep 82 = .ok (.invokevirtual 68, 3) := by decide +kernel
theorem d2_doStep_85 : decode cX2_doStep 85 = .ok (.goto 83, 3) := by decide +kernel
theorem d2_doStep_88 : decode cX2_doStep 88 = .ok (.aload_n 0, 1) := by decide +kernel
theorem d2_doStep_89 : decode cX2_doStep 89 = .ok (.aload_n 1, 1) := by decide +kernel
theorem d2_doStep_90 : decode cX2_doStep 90 = .ok (.iload 4, 2) := by decide +kernel
theorem d2_doStep_92 : decode cX2_doStep 92 = .ok (.iload 5, 2) := by decide +kernel
theorem d2_doStep_94 : decode cX2_doStep 94 = .ok (.invokevirtual 71, 3) := by decide +kernel
theorem d2_doStep_97 : decode cX2_doStep 97 = .ok (.goto 71, 3) := by decide +kernel
theorem d2_doStep_100 : decode cX2_doStep 100 = .ok (.aload_n 0, 1) := by decide +kernel
theorem d2_doStep_101 : decode cX2_doStep 101 = .ok (.aload_n 1, 1) := by decide +kernel
theorem d2_doStep_102 : decode cX2_doStep 102 = .ok (.iload 4, 2) := by decide +kernel
theorem d2_doStep_104 : decode cX2_doStep 104 = .ok (.iload 5, 2) := by decide +kernel
theorem d2_doStep_106 : decode cX2_doStep 106 = .ok (.invokevirtual 74, 3) := by decide +kernel
theorem d2_doStep_109 : decode cX2_doStep 109 = .ok (.goto 59, 3) := by decide +kernel
theorem d2_doStep_112 : decode cX2_doStep 112 = .ok (.aload_n 0, 1) := by decide +kernel
theorem d2_doStep_113 : decode cX2_doStep 113 = .ok (.aload_n 1, 1) := by decide +kernel
theorem d2_doStep_114 : decode cX2_doStep 114 = .ok (.invokevirtual 77, 3) := by decide +kernel
theorem d2_doStep_117 : decode cX2_doStep 117 = .ok (.goto 51, 3) := by decide +kernel
theorem d2_doStep_120 : decode cX2_doStep 120 = .ok (.aload_n 1, 1) := by decide +kernel
theorem d2_doStep_121 : decode cX2_doStep 121 = .ok (.iload 4, 2) := by decide +kernel
theorem d2_doStep_123 : decode cX2_doStep 123 = .ok (.iload 5, 2) := by decide +kernel
theorem d2_doStep_125 : decode cX2_doStep 125 = .ok (.aload_n 2, 1) := by decide +kernel
theorem d2_doStep_126 : decode cX2_doStep 126 = .ok (.getfield 81, 3) := by decide +kernel
theorem d2_doStep_129 : decode cX2_doStep 129 = .ok (.iload_n 3, 1) := by decide +kernel
theorem d2_doStep_130 : decode cX2_doStep 130 = .ok (.iaload, 1) := by decide +kernel
theorem d2_doStep_131 : decode cX2_doStep 131 = .ok (.invokestatic 84, 3) := by decide +kernel
theorem d2_doStep_134 : decode cX2_doStep 134 = .ok (.ifCond .eq 9, 3) := by decide +kernel
theorem d2_doStep_137 : decode cX2_doStep 137 = .ok (.iload_n 3, 1) := by decide +kernel
theorem d2_doStep_138 : decode cX2_doStep 138 = .ok (.iconst 1, 1) := by decide +kernel
theorem d2_doStep_139 : decode cX2_doStep 139 = .ok (.iadd, 1) := by decide +kernel
theorem d2_doStep_140 : decode cX2_doStep 140 = .ok (.goto 11, 3) := by decide +kernel
theorem d2_doStep_143 : decode cX2_doStep 143 = .ok (.aload_n 2, 1) := by decide +kernel
theorem d2_doStep_144 : decode cX2_doStep 144 = .ok (.getfield 55, 3) := by decide +kernel
theorem d2_doStep_147 : decode cX2_doStep 147 = .ok (.iload_n 3, 1) := by decide +kernel
theorem d2_doStep_148 : decode cX2_doStep 148 = .ok (.iaload, 1) := by decide +kernel
theorem d2_doStep_149 : decode cX2_doStep 149 = .ok (.iconst 1, 1) := by decide +kernel
theorem d2_doStep_150 : decode cX2_doStep 150 = .ok (.iadd, 1) := by decide +kernel
theorem d2_doStep_151 : decode cX2_doStep 151 = .ok (.ireturn, 1) := by decide +kernel
theorem d2_doStep_152 : decode cX2_doStep 152 = .ok (.aload_n 0, 1) := by decide +kernel
theorem d2_doStep_153 : decode cX2_doStep 153 = .ok (.getfield 36, 3) := by decide +kernel
theorem d2_doStep_156 : decode cX2_doStep 156 = .ok (.iload_n 3, 1) := by decide +kernel
theorem d2_doStep_157 : decode cX2_doStep 157 = .ok (.iload 4, 2) := by decide +kernel
theorem d2_doStep_159 : decode cX2_doStep 159 = .ok (.iastore, 1) := by decide +kernel
theorem d2_doStep_160 : decode cX2_doStep 160 = .ok (.goto 8, 3) := by decide +kernel
theorem d2_doStep_163 : decode cX2_doStep 163 = .ok (.aload_n 2, 1) := by decide +kernel
theorem d2_doStep_164 : decode cX2_doStep 164 = .ok (.getfield 88, 3) := by decide +kernel
theorem d2_doStep_167 : decode cX2_doStep 167 = .ok (.ireturn, 1) := by decide +kernel
theorem d2_doStep_168 : decode cX2_doStep 168 = .ok (.iload_n 3, 1) := by decide +kernel
theorem d2_doStep_169 : decode cX2_doStep 169 = .ok (.iconst 1, 1) := by decide +kernel
theorem d2_doStep_170 : decode cX2_doStep 170 = .ok (.iadd, 1) := by decide +kernel
theorem d2_doStep_171 : decode cX2_doStep 171 = .ok (.ireturn, 1) := by decide +kernel
abbrev K2_doStep : CK Int32 := (enI, (some .int), 6, 6, none)
noncomputable def F2_doStep_b168 (N : Nat) (h : Nat) (q0 : Nat) (q1 : Nat) (l3 : Int32) (σ : Ms) : Option (Int32 × Ms) :=
  some ((l3 + (1 : Int32)), σ)
noncomputable def F2_doStep (N : Nat) (h : Nat) (q0 : Nat) (q1 : Nat) (p2 : Int32) (σ : Ms) : Option (Int32 × Ms) :=
  ck (ixb p2 60) (lt (σ.1 (q1 + 2) p2.toNatClampNeg) (fun x1 => ck (ixb p2 60) (lt (σ.1 (q1 + 3) p2.toNatClampNeg) (fun x2 => ck (ixb p2 60) (if (σ.1 (q1 + 1) p2.toNatClampNeg) = (0 : Int32) then (bn (F2_cutOff N h q0 x1 x2 σ) (fun r3 t4 => F2_doStep_b168 N h q0 q1 p2 t4))
  else (if (σ.1 (q1 + 1) p2.toNatClampNeg) = (1 : Int32) then (bn (F2_takeBet h q0 x1 x2 σ) (fun r5 t6 => F2_doStep_b168 N h q0 q1 p2 t6))
  else (if (σ.1 (q1 + 1) p2.toNatClampNeg) = (2 : Int32) then (bn (F2_lessenHeap h q0 x1 x2 σ) (fun r7 t8 => F2_doStep_b168 N h q0 q1 p2 t8))
  else (if (σ.1 (q1 + 1) p2.toNatClampNeg) = (3 : Int32) then (bn (F2_growOne h q0 x1 x2 σ) (fun r9 t10 => F2_doStep_b168 N h q0 q1 p2 t10))
  else (if (σ.1 (q1 + 1) p2.toNatClampNeg) = (4 : Int32) then (bn (F2_cutAny N h q0 σ) (fun r11 t12 => F2_doStep_b168 N h q0 q1 p2 t12))
  else (if (σ.1 (q1 + 1) p2.toNatClampNeg) = (5 : Int32) then (ck (ixb p2 60) (bn (F2_holds N q0 x1 x2 (σ.1 (q1 + 4) p2.toNatClampNeg) σ) (fun r13 t14 => if r13 = 0 then (ck (ixb p2 60) (some (((t14.1 (q1 + 5) p2.toNatClampNeg) + (1 : Int32)), t14)))
  else (some ((p2 + (1 : Int32)), t14)))))
  else (if (σ.1 (q1 + 1) p2.toNatClampNeg) = (6 : Int32) then (ck (ixb p2 60) (lt (sI σ (h + 1) p2.toNatClampNeg x1) (fun t15 => F2_doStep_b168 N h q0 q1 p2 t15)))
  else (some ((σ.1 q1 2), σ)))))))))))))
set_option maxRecDepth 100000 in
theorem v2_doStep_b168 (N : Nat) (h : Nat) (hh : IsC h (0, 1, 0)) (q0 : Nat) (hq0 : IsC q0 (0, 0, 0)) (q1 : Nat) (hq1 : IsC q1 (0, 3, 0)) (l3 : Int32) (σ : Ms) : VF (K2_doStep) cX2_doStep RX2 (F2_doStep_b168 N h q0 q1 l3 σ) σ 168 [(3, .int l3)] [] := by
  unfold F2_doStep_b168
  refine v_iload_n d2_doStep_168 0 rfl rfl ?_
  refine v_iconst d2_doStep_169 ki_1 ?_
  refine v_iadd d2_doStep_170 ?_
  exact v_iret d2_doStep_171 rfl rfl rfl
set_option maxRecDepth 100000 in
theorem mc2_doStep (N : Nat) (h : Nat) (hh : IsC h (0, 1, 0)) (q0 : Nat) (hq0 : IsC q0 (0, 0, 0)) (q1 : Nat) (hq1 : IsC q1 (0, 3, 0)) (p2 : Int32) (σ : Ms) : MC enI yX2_doStep cX2_doStep 6 (some .int) 6 (F2_doStep N h q0 q1 p2 σ) σ [.ref h, .ref q0, .ref q1, .int p2] := by
  refine MC.i (by decide +kernel) (Nat.le_of_ble_eq_true rfl) ?_
  show VF (K2_doStep) cX2_doStep RX2 (F2_doStep N h q0 q1 p2 σ) σ 0 [(0, .ref h), (1, .ref q0), (2, .ref q1), (3, .int p2)] []
  unfold F2_doStep
  refine v_aload_n d2_doStep_0 2 rfl rfl ?_
  refine v_getR d2_doStep_1 faX2_58 hq1 rfl ?_
  refine v_iload_n d2_doStep_4 3 rfl rfl ?_
  refine v_iald d2_doStep_5 (ih3_2 hq1) ?_
  refine v_lti fun x1 => ?_
  refine v_istore (lv' := [(4, .int x1), (0, .ref h), (1, .ref q0), (2, .ref q1), (3, .int p2)]) d2_doStep_6 (by decide) rfl ?_
  refine v_aload_n d2_doStep_8 3 rfl rfl ?_
  refine v_getR d2_doStep_9 faX2_61 hq1 rfl ?_
  refine v_iload_n d2_doStep_12 4 rfl rfl ?_
  refine v_iald d2_doStep_13 (ih3_3 hq1) ?_
  refine v_lti fun x2 => ?_
  refine v_istore (lv' := [(5, .int x2), (4, .int x1), (0, .ref h), (1, .ref q0), (2, .ref q1), (3, .int p2)]) d2_doStep_14 (by decide) rfl ?_
  refine v_aload_n d2_doStep_16 4 rfl rfl ?_
  refine v_getR d2_doStep_17 faX2_44 hq1 rfl ?_
  refine v_iload_n d2_doStep_20 5 rfl rfl ?_
  refine v_iald d2_doStep_21 (ih3_1 hq1) ?_
  refine v_ite _ (fun ht0 => ?_) (fun ht0 => ?_)
  · refine v_tabIn (tgt := 64) d2_doStep_22 (0 : Int32) ht0 (by decide) (by decide) rfl (by decide) ?_
    refine v_aload_n d2_doStep_64 2 rfl rfl ?_
    refine v_aload_n d2_doStep_65 3 rfl rfl ?_
    refine v_iload d2_doStep_66 1 rfl ?_
    refine v_iload d2_doStep_68 0 rfl ?_
    refine v_callV3v d2_doStep_70 (mc2_cutOff N h hh q0 hq0 x1 x2 σ) yv2_cutOff mlX2_64 (Recv.obj hh rfl) (by decide) (Nat.le_of_ble_eq_true rfl) fun r3 t4 => ?_
    refine v_goto (tgt := 168) d2_doStep_73 (by decide) ?_
    refine v_sub [5] rfl ?_
    exact v2_doStep_b168 N h hh q0 hq0 q1 hq1 p2 t4
  refine v_ite _ (fun ht1 => ?_) (fun ht1 => ?_)
  · refine v_tabIn (tgt := 76) d2_doStep_22 (1 : Int32) ht1 (by decide) (by decide) rfl (by decide) ?_
    refine v_aload_n d2_doStep_76 2 rfl rfl ?_
    refine v_aload_n d2_doStep_77 3 rfl rfl ?_
    refine v_iload d2_doStep_78 1 rfl ?_
    refine v_iload d2_doStep_80 0 rfl ?_
    refine v_callV3v d2_doStep_82 (mc2_takeBet h hh q0 hq0 x1 x2 σ) yv2_takeBet mlX2_68 (Recv.obj hh rfl) (by decide) (Nat.le_of_ble_eq_true rfl) fun r5 t6 => ?_
    refine v_goto (tgt := 168) d2_doStep_85 (by decide) ?_
    refine v_sub [5] rfl ?_
    exact v2_doStep_b168 N h hh q0 hq0 q1 hq1 p2 t6
  refine v_ite _ (fun ht2 => ?_) (fun ht2 => ?_)
  · refine v_tabIn (tgt := 88) d2_doStep_22 (2 : Int32) ht2 (by decide) (by decide) rfl (by decide) ?_
    refine v_aload_n d2_doStep_88 2 rfl rfl ?_
    refine v_aload_n d2_doStep_89 3 rfl rfl ?_
    refine v_iload d2_doStep_90 1 rfl ?_
    refine v_iload d2_doStep_92 0 rfl ?_
    refine v_callV3v d2_doStep_94 (mc2_lessenHeap h hh q0 hq0 x1 x2 σ) yv2_lessenHeap mlX2_71 (Recv.obj hh rfl) (by decide) (Nat.le_of_ble_eq_true rfl) fun r7 t8 => ?_
    refine v_goto (tgt := 168) d2_doStep_97 (by decide) ?_
    refine v_sub [5] rfl ?_
    exact v2_doStep_b168 N h hh q0 hq0 q1 hq1 p2 t8
  refine v_ite _ (fun ht3 => ?_) (fun ht3 => ?_)
  · refine v_tabIn (tgt := 100) d2_doStep_22 (3 : Int32) ht3 (by decide) (by decide) rfl (by decide) ?_
    refine v_aload_n d2_doStep_100 2 rfl rfl ?_
    refine v_aload_n d2_doStep_101 3 rfl rfl ?_
    refine v_iload d2_doStep_102 1 rfl ?_
    refine v_iload d2_doStep_104 0 rfl ?_
    refine v_callV3v d2_doStep_106 (mc2_growOne h hh q0 hq0 x1 x2 σ) yv2_growOne mlX2_74 (Recv.obj hh rfl) (by decide) (Nat.le_of_ble_eq_true rfl) fun r9 t10 => ?_
    refine v_goto (tgt := 168) d2_doStep_109 (by decide) ?_
    refine v_sub [5] rfl ?_
    exact v2_doStep_b168 N h hh q0 hq0 q1 hq1 p2 t10
  refine v_ite _ (fun ht4 => ?_) (fun ht4 => ?_)
  · refine v_tabIn (tgt := 112) d2_doStep_22 (4 : Int32) ht4 (by decide) (by decide) rfl (by decide) ?_
    refine v_aload_n d2_doStep_112 2 rfl rfl ?_
    refine v_aload_n d2_doStep_113 3 rfl rfl ?_
    refine v_callV1v d2_doStep_114 (mc2_cutAny N h hh q0 hq0 σ) yv2_cutAny mlX2_77 (Recv.obj hh rfl) (by decide) (Nat.le_of_ble_eq_true rfl) fun r11 t12 => ?_
    refine v_goto (tgt := 168) d2_doStep_117 (by decide) ?_
    refine v_sub [5] rfl ?_
    exact v2_doStep_b168 N h hh q0 hq0 q1 hq1 p2 t12
  refine v_ite _ (fun ht5 => ?_) (fun ht5 => ?_)
  · refine v_tabIn (tgt := 120) d2_doStep_22 (5 : Int32) ht5 (by decide) (by decide) rfl (by decide) ?_
    refine v_aload_n d2_doStep_120 3 rfl rfl ?_
    refine v_iload d2_doStep_121 1 rfl ?_
    refine v_iload d2_doStep_123 0 rfl ?_
    refine v_aload_n d2_doStep_125 4 rfl rfl ?_
    refine v_getR d2_doStep_126 faX2_81 hq1 rfl ?_
    refine v_iload_n d2_doStep_129 5 rfl rfl ?_
    refine v_iald d2_doStep_130 (ih3_4 hq1) ?_
    refine v_callS4i d2_doStep_131 (mc2_holds N q0 hq0 x1 x2 (σ.1 (q1 + 4) p2.toNatClampNeg) σ) ys2_holds mlX2_84 (by decide) (Nat.le_of_ble_eq_true rfl) fun r13 t14 => ?_
    refine v_if_eq (tgt := 143) d2_doStep_134 (by decide) ?_ ?_
    · refine v_aload_n d2_doStep_143 4 rfl rfl ?_
      refine v_getR d2_doStep_144 faX2_55 hq1 rfl ?_
      refine v_iload_n d2_doStep_147 5 rfl rfl ?_
      refine v_iald d2_doStep_148 (ih3_5 hq1) ?_
      refine v_iconst d2_doStep_149 ki_1 ?_
      refine v_iadd d2_doStep_150 ?_
      exact v_iret d2_doStep_151 rfl rfl rfl
    · refine v_iload_n d2_doStep_137 5 rfl rfl ?_
      refine v_iconst d2_doStep_138 ki_1 ?_
      refine v_iadd d2_doStep_139 ?_
      refine v_goto (tgt := 151) d2_doStep_140 (by decide) ?_
      exact v_iret d2_doStep_151 rfl rfl rfl
  refine v_ite _ (fun ht6 => ?_) (fun ht6 => ?_)
  · refine v_tabIn (tgt := 152) d2_doStep_22 (6 : Int32) ht6 (by decide) (by decide) rfl (by decide) ?_
    refine v_aload_n d2_doStep_152 2 rfl rfl ?_
    refine v_getR d2_doStep_153 faX2_36 hh rfl ?_
    refine v_iload_n d2_doStep_156 5 rfl rfl ?_
    refine v_iload d2_doStep_157 1 rfl ?_
    refine v_iast d2_doStep_159 (ih1_1 hh) ?_
    refine v_lts fun t15 => ?_
    refine v_goto (tgt := 168) d2_doStep_160 (by decide) ?_
    refine v_sub [5] rfl ?_
    exact v2_doStep_b168 N h hh q0 hq0 q1 hq1 p2 t15
  refine v_tabOut (tgt := 163) d2_doStep_22 (by decide) (tab_out 6 (by decide) (by decide) (fun j hj => (match j, hj with | 0, _ => ht0 | 1, _ => ht1 | 2, _ => ht2 | 3, _ => ht3 | 4, _ => ht4 | 5, _ => ht5 | 6, _ => ht6 | n + 7, h => absurd h (by omega)))) ?_
  refine v_aload_n d2_doStep_163 4 rfl rfl ?_
  refine v_getI d2_doStep_164 faX2_88 hq1 ?_
  exact v_iret d2_doStep_167 rfl rfl rfl
