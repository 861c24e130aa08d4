theorem d3_commonDivisor_0 : decode cX3_commonDivisor 0 = .ok (.lload_n 0, 1) := by decide +kernel
theorem d3_commonDivisor_1 : decode cX3_commonDivisor 1 = .ok (.lstore 4, 2) := by decide +kernel
theorem d3_commonDivisor_3 : decode cX3_commonDivisor 3 = .ok (.lload_n 2, 1) := by decide +kernel
theorem d3_commonDivisor_4 : decode cX3_commonDivisor 4 = .ok (.lstore 6, 2) := by decide +kernel
theorem d3_commonDivisor_6 : decode cX3_commonDivisor 6 = .ok (.iconst 0, 1) := by decide +kernel
theorem d3_commonDivisor_7 : decode cX3_commonDivisor 7 = .ok (.istore 8, 2) := by decide +kernel
theorem d3_commonDivisor_9 : decode cX3_commonDivisor 9 = .ok (.iload 8, 2) := by decide +kernel
theorem d3_commonDivisor_11 : decode cX3_commonDivisor 11 = .ok (.bipush 100, 2) := by decide +kernel
theorem d3_commonDivisor_13 : decode cX3_commonDivisor 13 = .ok (.if_icmp .ge 31, 3) := by decide +kernel
theorem d3_commonDivisor_16 : decode cX3_commonDivisor 16 = .ok (.lload 6, 2) := by decide +kernel
theorem d3_commonDivisor_18 : decode cX3_commonDivisor 18 = .ok (.lconst 0, 1) := by decide +kernel
theorem d3_commonDivisor_19 : decode cX3_commonDivisor 19 = .ok (.lcmp, 1) := by decide +kernel
theorem d3_commonDivisor_20 : decode cX3_commonDivisor 20 = .ok (.ifCond .le 24, 3) := by decide +kernel
theorem d3_commonDivisor_23 : decode cX3_commonDivisor 23 = .ok (.lload 4, 2) := by decide +kernel
theorem d3_commonDivisor_25 : decode cX3_commonDivisor 25 = .ok (.lload 6, 2) := by decide +kernel
theorem d3_commonDivisor_27 : decode cX3_commonDivisor 27 = .ok (.lrem, 1) := by decide +kernel
theorem d3_commonDivisor_28 : decode cX3_commonDivisor 28 = .ok (.lstore 9, 2) := by decide +kernel
theorem d3_commonDivisor_30 : decode cX3_commonDivisor 30 = .ok (.lload 6, 2) := by decide +kernel
theorem d3_commonDivisor_32 : decode cX3_commonDivisor 32 = .ok (.lstore 4, 2) := by decide +kernel
theorem d3_commonDivisor_34 : decode cX3_commonDivisor 34 = .ok (.lload 9, 2) := by decide +kernel
theorem d3_commonDivisor_36 : decode cX3_commonDivisor 36 = .ok (.lstore 6, 2) := by decide +kernel
theorem d3_commonDivisor_38 : decode cX3_commonDivisor 38 = .ok (.iinc 8 1, 3) := by decide +kernel
theorem d3_commonDivisor_41 : decode cX3_commonDivisor 41 = .ok (.goto (-32), 3) := by decide +kernel
theorem d3_commonDivisor_44 : decode cX3_commonDivisor 44 = .ok (.lload 4, 2) := by decide +kernel
theorem d3_commonDivisor_46 : decode cX3_commonDivisor 46 = .ok (.lreturn, 1) := by decide +kernel
abbrev K3_commonDivisor : CK Int64 := (enL, (some .long), 11, 1, none)
noncomputable def F3_commonDivisor_b9B (N : Nat) (k9 : Int64 × Int64 × Int32 × Ms → Option (Int64 × Ms)) (l4 : Int64) (l6 : Int64) (l8 : Int32) (σ : Ms) : Option (Int64 × Ms) :=
  if (100 : Int32) ≤ l8 then (some (l4, σ))
  else (if (lg_cmp l6 (0 : Int64)) ≤ 0 then (some (l4, σ))
  else (ck (!(l6 == 0)) (lt (l4 - l4 / l6 * l6) (fun x1 => k9 (l6, x1, (l8 + (1 : Int32)), σ)))))
noncomputable def F3_commonDivisor_b9 (N : Nat) (l4 : Int64) (l6 : Int64) (l8 : Int32) (σ : Ms) : Option (Int64 × Ms) :=
  fx N (fun k x => F3_commonDivisor_b9B N k x.1 x.2.1 x.2.2.1 x.2.2.2) (l4, l6, l8, σ)
noncomputable def F3_commonDivisor (N : Nat) (p0 : Int64) (p1 : Int64) (σ : Ms) : Option (Int64 × Ms) :=
  F3_commonDivisor_b9 N p0 p1 (0 : Int32) σ
set_option maxRecDepth 100000 in
theorem v3_commonDivisor_b9B (N : Nat) (k9 : Int64 × Int64 × Int32 × Ms → Option (Int64 × Ms)) (hk9 : ∀ (l4 : Int64) (l6 : Int64) (l8 : Int32) (τ : Ms), VF (K3_commonDivisor) cX3_commonDivisor RX3 (k9 (l4, l6, l8, τ)) τ 9 [(4, .long l4), (6, .long l6), (8, .int l8)] []) (l4 : Int64) (l6 : Int64) (l8 : Int32) (σ : Ms) : VF (K3_commonDivisor) cX3_commonDivisor RX3 (F3_commonDivisor_b9B N k9 l4 l6 l8 σ) σ 9 [(4, .long l4), (6, .long l6), (8, .int l8)] [] := by
  unfold F3_commonDivisor_b9B
  refine v_iload d3_commonDivisor_9 2 rfl ?_
  refine v_bipush d3_commonDivisor_11 kb_100 ?_
  refine v_icmp_ge (tgt := 44) d3_commonDivisor_13 (by decide) ?_ ?_
  · refine v_lload d3_commonDivisor_44 0 rfl ?_
    exact v_lret d3_commonDivisor_46 rfl rfl
  · refine v_lload d3_commonDivisor_16 1 rfl ?_
    refine v_lconst d3_commonDivisor_18 kl_0 ?_
    refine v_lcmp d3_commonDivisor_19 ?_
    refine v_if_le (tgt := 44) d3_commonDivisor_20 (by decide) ?_ ?_
    · refine v_lload d3_commonDivisor_44 0 rfl ?_
      exact v_lret d3_commonDivisor_46 rfl rfl
    · refine v_lload d3_commonDivisor_23 0 rfl ?_
      refine v_lload d3_commonDivisor_25 1 rfl ?_
      refine v_lrem d3_commonDivisor_27 ?_
      refine v_ltl fun x1 => ?_
      refine v_lstore (lv' := [(9, .long x1), (4, .long l4), (6, .long l6), (8, .int l8)]) d3_commonDivisor_28 (by decide) rfl ?_
      refine v_lload d3_commonDivisor_30 2 rfl ?_
      refine v_lstore (lv' := [(4, .long l6), (9, .long x1), (6, .long l6), (8, .int l8)]) d3_commonDivisor_32 (by decide) rfl ?_
      refine v_lload d3_commonDivisor_34 1 rfl ?_
      refine v_lstore (lv' := [(6, .long x1), (4, .long l6), (9, .long x1), (8, .int l8)]) d3_commonDivisor_36 (by decide) rfl ?_
      refine v_iinc (lv' := [(8, .int (l8 + (1 : Int32))), (6, .long x1), (4, .long l6), (9, .long x1)]) d3_commonDivisor_38 3 rfl (by rw [ki_1]) (by decide) rfl ?_
      refine v_goto (tgt := 9) d3_commonDivisor_41 (by decide) ?_
      refine v_sub [2, 1, 0] rfl ?_
      exact hk9 l6 x1 (l8 + (1 : Int32)) σ
theorem v3_commonDivisor_b9 (N : Nat) (l4 : Int64) (l6 : Int64) (l8 : Int32) (σ : Ms) : VF (K3_commonDivisor) cX3_commonDivisor RX3 (F3_commonDivisor_b9 N l4 l6 l8 σ) σ 9 [(4, .long l4), (6, .long l6), (8, .int l8)] [] := v_fx (σo := fun x => x.2.2.2) (lo := fun x => [(4, .long x.1), (6, .long x.2.1), (8, .int x.2.2.1)]) (fun k hk x => v3_commonDivisor_b9B N k (fun l4 l6 l8 τ => hk (l4, l6, l8, τ)) x.1 x.2.1 x.2.2.1 x.2.2.2) N (l4, l6, l8, σ)
set_option maxRecDepth 100000 in
theorem mc3_commonDivisor (N : Nat) (p0 : Int64) (p1 : Int64) (σ : Ms) : MC enL yX3_commonDivisor cX3_commonDivisor 11 (some .long) 1 (F3_commonDivisor N p0 p1 σ) σ [.long p0, .long p1] := by
  refine MC.l (by decide +kernel) (Nat.le_of_ble_eq_true rfl) ?_
  show VF (K3_commonDivisor) cX3_commonDivisor RX3 (F3_commonDivisor N p0 p1 σ) σ 0 [(0, .long p0), (2, .long p1)] []
  unfold F3_commonDivisor
  refine v_lload_n d3_commonDivisor_0 0 rfl rfl ?_
  refine v_lstore (lv' := [(4, .long p0), (0, .long p0), (2, .long p1)]) d3_commonDivisor_1 (by decide) rfl ?_
  refine v_lload_n d3_commonDivisor_3 2 rfl rfl ?_
  refine v_lstore (lv' := [(6, .long p1), (4, .long p0), (0, .long p0), (2, .long p1)]) d3_commonDivisor_4 (by decide) rfl ?_
  refine v_iconst d3_commonDivisor_6 ki_0 ?_
  refine v_istore (lv' := [(8, .int (0 : Int32)), (6, .long p1), (4, .long p0), (0, .long p0), (2, .long p1)]) d3_commonDivisor_7 (by decide) rfl ?_
  refine v_sub [2, 1, 0] rfl ?_
  exact v3_commonDivisor_b9 N p0 p1 (0 : Int32) σ
theorem d4_wonBy_0 : decode cX4_wonBy 0 = .ok (.iload 5, 2) := by decide +kernel
theorem d4_wonBy_2 : decode cX4_wonBy 2 = .ok (.invokestatic 64, 3) := by decide +kernel
theorem d4_wonBy_5 : decode cX4_wonBy 5 = .ok (.istore 6, 2) := by decide +kernel
theorem d4_wonBy_7 : decode cX4_wonBy 7 = .ok (.aload_n 0, 1) := by decide +kernel
theorem d4_wonBy_8 : decode cX4_wonBy 8 = .ok (.lload_n 1, 1) := by decide +kernel
theorem d4_wonBy_9 : decode cX4_wonBy 9 = .ok (.iload 4, 2) := by decide +kernel
theorem d4_wonBy_11 : decode cX4_wonBy 11 = .ok (.iload 6, 2) := by decide +kernel
theorem d4_wonBy_13 : decode cX4_wonBy 13 = .ok (.invokestatic 43, 3) := by decide +kernel
theorem d4_wonBy_16 : decode cX4_wonBy 16 = .ok (.iload_n 3, 1) := by decide +kernel
theorem d4_wonBy_17 : decode cX4_wonBy 17 = .ok (.aload_n 0, 1) := by decide +kernel
theorem d4_wonBy_18 : decode cX4_wonBy 18 = .ok (.iload 4, 2) := by decide +kernel
theorem d4_wonBy_20 : decode cX4_wonBy 20 = .ok (.invokestatic 47, 3) := by decide +kernel
theorem d4_wonBy_23 : decode cX4_wonBy 23 = .ok (.iload 6, 2) := by decide +kernel
theorem d4_wonBy_25 : decode cX4_wonBy 25 = .ok (.invokestatic 51, 3) := by decide +kernel
theorem d4_wonBy_28 : decode cX4_wonBy 28 = .ok (.ifCond .ne 7, 3) := by decide +kernel
theorem d4_wonBy_31 : decode cX4_wonBy 31 = .ok (.iconst 1, 1) := by decide +kernel
theorem d4_wonBy_32 : decode cX4_wonBy 32 = .ok (.goto 4, 3) := by decide +kernel
theorem d4_wonBy_35 : decode cX4_wonBy 35 = .ok (.iconst 0, 1) := by decide +kernel
theorem d4_wonBy_36 : decode cX4_wonBy 36 = .ok (.ireturn, 1) := by decide +kernel
abbrev K4_wonBy : CK Int32 := (enI, (some .boolean), 7, 4, none)
noncomputable def F4_wonBy (N : Nat) (q0 : Nat) (p1 : Int64) (p2 : Int32) (p3 : Int32) (p4 : Int32) (σ : Ms) : Option (Int32 × Ms) :=
  bn (F11_other p4 σ) (fun r1 t2 => bn (F4_settled N q0 p1 p3 r1 t2) (fun r3 t4 => bn (F4_isOdd q0 p3 t4) (fun r5 t6 => bn (F4_decides r3 p2 r5 r1 t6) (fun r7 t8 => if r7 ≠ 0 then (some ((0 : Int32), t8))
  else (some ((1 : Int32), t8))))))
set_option maxRecDepth 100000 in
theorem mc4_wonBy (N : Nat) (q0 : Nat) (hq0 : IsC q0 (0, 0, 0)) (p1 : Int64) (p2 : Int32) (p3 : Int32) (p4 : Int32) (σ : Ms) : MC enI yX4_wonBy cX4_wonBy 7 (some .boolean) 4 (F4_wonBy N q0 p1 p2 p3 p4 σ) σ [.ref q0, .long p1, .int p2, .int p3, .int p4] := by
  refine MC.i (by decide +kernel) (Nat.le_of_ble_eq_true rfl) ?_
  show VF (K4_wonBy) cX4_wonBy RX4 (F4_wonBy N q0 p1 p2 p3 p4 σ) σ 0 [(0, .ref q0), (1, .long p1), (3, .int p2), (4, .int p3), (5, .int p4)] []
  unfold F4_wonBy
  refine v_iload d4_wonBy_0 4 rfl ?_
  refine v_callN1i d4_wonBy_2 (mc11_other p4 σ) ys11_other neX4_64 (by decide) (Nat.le_of_ble_eq_true rfl) fun r1 t2 => ?_
  refine v_istore (lv' := [(6, .int r1), (0, .ref q0), (1, .long p1), (3, .int p2), (4, .int p3), (5, .int p4)]) d4_wonBy_5 (by decide) rfl ?_
  refine v_aload_n d4_wonBy_7 1 rfl rfl ?_
  refine v_lload_n d4_wonBy_8 2 rfl rfl ?_
  refine v_iload d4_wonBy_9 4 rfl ?_
  refine v_iload d4_wonBy_11 0 rfl ?_
  refine v_callS4l d4_wonBy_13 (mc4_settled N q0 hq0 p1 p3 r1 t2) ys4_settled mlX4_43 (by decide) (Nat.le_of_ble_eq_true rfl) fun r3 t4 => ?_
  refine v_iload_n d4_wonBy_16 3 rfl rfl ?_
  refine v_aload_n d4_wonBy_17 1 rfl rfl ?_
  refine v_iload d4_wonBy_18 4 rfl ?_
  refine v_callS2i d4_wonBy_20 (mc4_isOdd q0 hq0 p3 t4) ys4_isOdd mlX4_47 (by decide) (Nat.le_of_ble_eq_true rfl) fun r5 t6 => ?_
  refine v_iload d4_wonBy_23 0 rfl ?_
  refine v_callS4i d4_wonBy_25 (mc4_decides r3 p2 r5 r1 t6) ys4_decides mlX4_51 (by decide) (Nat.le_of_ble_eq_true rfl) fun r7 t8 => ?_
  refine v_if_ne (tgt := 35) d4_wonBy_28 (by decide) ?_ ?_
  · refine v_iconst d4_wonBy_35 ki_0 ?_
    exact v_iret (ty := .boolean) d4_wonBy_36 rfl rfl rfl
  · refine v_iconst d4_wonBy_31 ki_1 ?_
    refine v_goto (tgt := 36) d4_wonBy_32 (by decide) ?_
    exact v_iret (ty := .boolean) d4_wonBy_36 rfl rfl rfl
theorem d4_note_0 : decode cX4_note 0 = .ok (.aload_n 0, 1) := by decide +kernel
theorem d4_note_1 : decode cX4_note 1 = .ok (.dup, 1) := by decide +kernel
theorem d4_note_2 : decode cX4_note 2 = .ok (.getfield 9, 3) := by decide +kernel
theorem d4_note_5 : decode cX4_note 5 = .ok (.iconst 1, 1) := by decide +kernel
theorem d4_note_6 : decode cX4_note 6 = .ok (.iadd, 1) := by decide +kernel
theorem d4_note_7 : decode cX4_note 7 = .ok (.putfield 9, 3) := by decide +kernel
theorem d4_note_10 : decode cX4_note 10 = .ok (.iload 4, 2) := by decide +kernel
theorem d4_note_12 : decode cX4_note 12 = .ok (.ifCond .ne 4, 3) := by decide +kernel
theorem d4_note_15 : decode cX4_note 15 = .ok (.return_, 1) := by decide +kernel
theorem d4_note_16 : decode cX4_note 16 = .ok (.aload_n 0, 1) := by decide +kernel
theorem d4_note_17 : decode cX4_note 17 = .ok (.getfield 15, 3) := by decide +kernel
theorem d4_note_20 : decode cX4_note 20 = .ok (.ifCond .ne 18, 3) := by decide +kernel
theorem d4_note_23 : decode cX4_note 23 = .ok (.aload_n 0, 1) := by decide +kernel
theorem d4_note_24 : decode cX4_note 24 = .ok (.iload_n 1, 1) := by decide +kernel
theorem d4_note_25 : decode cX4_note 25 = .ok (.putfield 18, 3) := by decide +kernel
theorem d4_note_28 : decode cX4_note 28 = .ok (.aload_n 0, 1) := by decide +kernel
theorem d4_note_29 : decode cX4_note 29 = .ok (.iload_n 2, 1) := by decide +kernel
theorem d4_note_30 : decode cX4_note 30 = .ok (.putfield 21, 3) := by decide +kernel
theorem d4_note_33 : decode cX4_note 33 = .ok (.aload_n 0, 1) := by decide +kernel
theorem d4_note_34 : decode cX4_note 34 = .ok (.iload_n 3, 1) := by decide +kernel
theorem d4_note_35 : decode cX4_note 35 = .ok (.putfield 24, 3) := by decide +kernel
theorem d4_note_38 : decode cX4_note 38 = .ok (.aload_n 0, 1) := by decide +kernel
theorem d4_note_39 : decode cX4_note 39 = .ok (.dup, 1) := by decide +kernel
theorem d4_note_40 : decode cX4_note 40 = .ok (.getfield 15, 3) := by decide +kernel
theorem d4_note_43 : decode cX4_note 43 = .ok (.iconst 1, 1) := by decide +kernel
theorem d4_note_44 : decode cX4_note 44 = .ok (.iadd, 1) := by decide +kernel
theorem d4_note_45 : decode cX4_note 45 = .ok (.putfield 15, 3) := by decide +kernel
theorem d4_note_48 : decode cX4_note 48 = .ok (.return_, 1) := by decide +kernel
abbrev K4_note : CK Unit := (enV, none, 5, 1, none)
noncomputable def F4_note_b38 (σ : Ms) : Option (Unit × Ms) :=
  lt (sI σ 99 1 ((σ.1 99 1) + (1 : Int32))) (fun t1 => some ((), t1))
noncomputable def F4_note (p0 : Int32) (p1 : Int32) (p2 : Int32) (p3 : Int32) (σ : Ms) : Option (Unit × Ms) :=
  lt (sI σ 99 0 ((σ.1 99 0) + (1 : Int32))) (fun t2 => if p3 ≠ 0 then (if (t2.1 99 1) ≠ 0 then (F4_note_b38 t2)
  else (lt (sI t2 99 2 p0) (fun t3 => lt (sI t3 99 3 p1) (fun t4 => lt (sI t4 99 4 p2) (fun t5 => F4_note_b38 t5)))))
  else (some ((), t2)))
set_option maxRecDepth 100000 in
theorem v4_note_b38 (σ : Ms) : VF (K4_note) cX4_note RX4 (F4_note_b38 σ) σ 38 [(0, .ref 99)] [] := by
  unfold F4_note_b38
  refine v_aload_n d4_note_38 0 rfl rfl ?_
  refine v_dup d4_note_39 rfl ?_
  refine v_getI d4_note_40 faX4_15 ic_99 ?_
  refine v_iconst d4_note_43 ki_1 ?_
  refine v_iadd d4_note_44 ?_
  refine v_putI d4_note_45 faX4_15 fp2_1 ic_99 ?_
  refine v_lts fun t1 => ?_
  exact v_vret d4_note_48 rfl
set_option maxRecDepth 100000 in
theorem mc4_note (p0 : Int32) (p1 : Int32) (p2 : Int32) (p3 : Int32) (σ : Ms) : MC enV yX4_note cX4_note 5 none 1 (F4_note p0 p1 p2 p3 σ) σ [.ref 99, .int p0, .int p1, .int p2, .int p3] := by
  refine MC.v (by decide +kernel) (Nat.le_of_ble_eq_true rfl) ?_
  show VF (K4_note) cX4_note RX4 (F4_note p0 p1 p2 p3 σ) σ 0 [(0, .ref 99), (1, .int p0), (2, .int p1), (3, .int p2), (4, .int p3)] []
  unfold F4_note
  refine v_aload_n d4_note_0 0 rfl rfl ?_
  refine v_dup d4_note_1 rfl ?_
  refine v_getI d4_note_2 faX4_9 ic_99 ?_
  refine v_iconst d4_note_5 ki_1 ?_
  refine v_iadd d4_note_6 ?_
  refine v_putI d4_note_7 faX4_9 fp2_0 ic_99 ?_
  refine v_lts fun t2 => ?_
  refine v_iload d4_note_10 4 rfl ?_
  refine v_if_ne (tgt := 16) d4_note_12 (by decide) ?_ ?_
  · refine v_aload_n d4_note_16 0 rfl rfl ?_
    refine v_getI d4_note_17 faX4_15 ic_99 ?_
    refine v_if_ne (tgt := 38) d4_note_20 (by decide) ?_ ?_
    · refine v_sub [0] rfl ?_
      exact v4_note_b38 t2
    · refine v_aload_n d4_note_23 0 rfl rfl ?_
      refine v_iload_n d4_note_24 1 rfl rfl ?_
      refine v_putI d4_note_25 faX4_18 fp2_2 ic_99 ?_
      refine v_lts fun t3 => ?_
      refine v_aload_n d4_note_28 0 rfl rfl ?_
      refine v_iload_n d4_note_29 2 rfl rfl ?_
      refine v_putI d4_note_30 faX4_21 fp2_3 ic_99 ?_
      refine v_lts fun t4 => ?_
      refine v_aload_n d4_note_33 0 rfl rfl ?_
      refine v_iload_n d4_note_34 3 rfl rfl ?_
      refine v_putI d4_note_35 faX4_24 fp2_4 ic_99 ?_
      refine v_lts fun t5 => ?_
      refine v_sub [0] rfl ?_
      exact v4_note_b38 t5
  · exact v_vret d4_note_15 rfl
theorem d4_lookAtCuts_0 : decode cX4_lookAtCuts 0 = .ok (.iconst 0, 1) := by decide +kernel
theorem d4_lookAtCuts_1 : decode cX4_lookAtCuts 1 = .ok (.istore_n 3, 1) := by decide +kernel
theorem d4_lookAtCuts_2 : decode cX4_lookAtCuts 2 = .ok (.iload_n 3, 1) := by decide +kernel
theorem d4_lookAtCuts_3 : decode cX4_lookAtCuts 3 = .ok (.aload_n 1, 1) := by decide +kernel
theorem d4_lookAtCuts_4 : decode cX4_lookAtCuts 4 = .ok (.getfield 100, 3) := by decide +kernel
theorem d4_lookAtCuts_7 : decode cX4_lookAtCuts 7 = .ok (.if_icmp .ge 63, 3) := by decide +kernel
theorem d4_lookAtCuts_10 : decode cX4_lookAtCuts 10 = .ok (.aload_n 1, 1) := by decide +kernel
theorem d4_lookAtCuts_11 : decode cX4_lookAtCuts 11 = .ok (.iload_n 2, 1) := by decide +kernel
theorem d4_lookAtCuts_12 : decode cX4_lookAtCuts 12 = .ok (.iload_n 3, 1) := by decide +kernel
theorem d4_lookAtCuts_13 : decode cX4_lookAtCuts 13 = .ok (.invokevirtual 103, 3) := by decide +kernel
theorem d4_lookAtCuts_16 : decode cX4_lookAtCuts 16 = .ok (.ifCond .ne 6, 3) := by decide +kernel
theorem d4_lookAtCuts_19 : decode cX4_lookAtCuts 19 = .ok (.goto 45, 3) := by decide +kernel
theorem d4_lookAtCuts_22 : decode cX4_lookAtCuts 22 = .ok (.aload_n 1, 1) := by decide +kernel
theorem d4_lookAtCuts_23 : decode cX4_lookAtCuts 23 = .ok (.getfield 27, 3) := by decide +kernel
theorem d4_lookAtCuts_26 : decode cX4_lookAtCuts 26 = .ok (.aload_n 1, 1) := by decide +kernel
theorem d4_lookAtCuts_27 : decode cX4_lookAtCuts 27 = .ok (.iload_n 3, 1) := by decide +kernel
theorem d4_lookAtCuts_28 : decode cX4_lookAtCuts 28 = .ok (.invokevirtual 107, 3) := by decide +kernel
theorem d4_lookAtCuts_31 : decode cX4_lookAtCuts 31 = .ok (.iconst (-1), 1) := by decide +kernel
theorem d4_lookAtCuts_32 : decode cX4_lookAtCuts 32 = .ok (.ixor, 1) := by decide +kernel
theorem d4_lookAtCuts_33 : decode cX4_lookAtCuts 33 = .ok (.iand, 1) := by decide +kernel
theorem d4_lookAtCuts_34 : decode cX4_lookAtCuts 34 = .ok (.istore 4, 2) := by decide +kernel
theorem d4_lookAtCuts_36 : decode cX4_lookAtCuts 36 = .ok (.aload_n 0, 1) := by decide +kernel
theorem d4_lookAtCuts_37 : decode cX4_lookAtCuts 37 = .ok (.iconst 0, 1) := by decide +kernel
theorem d4_lookAtCuts_38 : decode cX4_lookAtCuts 38 = .ok (.iload_n 3, 1) := by decide +kernel
theorem d4_lookAtCuts_39 : decode cX4_lookAtCuts 39 = .ok (.iconst 0, 1) := by decide +kernel
theorem d4_lookAtCuts_40 : decode cX4_lookAtCuts 40 = .ok (.aload_n 1, 1) := by decide +kernel
theorem d4_lookAtCuts_41 : decode cX4_lookAtCuts 41 = .ok (.aload_n 1, 1) := by decide +kernel
theorem d4_lookAtCuts_42 : decode cX4_lookAtCuts 42 = .ok (.iload 4, 2) := by decide +kernel
theorem d4_lookAtCuts_44 : decode cX4_lookAtCuts 44 = .ok (.invokevirtual 32, 3) := by decide +kernel
theorem d4_lookAtCuts_47 : decode cX4_lookAtCuts 47 = .ok (.aload_n 1, 1) := by decide +kernel
theorem d4_lookAtCuts_48 : decode cX4_lookAtCuts 48 = .ok (.iload 4, 2) := by decide +kernel
theorem d4_lookAtCuts_50 : decode cX4_lookAtCuts 50 = .ok (.invokevirtual 36, 3) := by decide +kernel
theorem d4_lookAtCuts_53 : decode cX4_lookAtCuts 53 = .ok (.aload_n 1, 1) := by decide +kernel
theorem d4_lookAtCuts_54 : decode cX4_lookAtCuts 54 = .ok (.getfield 40, 3) := by decide +kernel
theorem d4_lookAtCuts_57 : decode cX4_lookAtCuts 57 = .ok (.iload_n 2, 1) := by decide +kernel
theorem d4_lookAtCuts_58 : decode cX4_lookAtCuts 58 = .ok (.invokestatic 92, 3) := by decide +kernel
theorem d4_lookAtCuts_61 : decode cX4_lookAtCuts 61 = .ok (.invokevirtual 96, 3) := by decide +kernel
theorem d4_lookAtCuts_64 : decode cX4_lookAtCuts 64 = .ok (.iinc 3 1, 3) := by decide +kernel
theorem d4_lookAtCuts_67 : decode cX4_lookAtCuts 67 = .ok (.goto (-65), 3) := by decide +kernel
theorem d4_lookAtCuts_70 : decode cX4_lookAtCuts 70 = .ok (.return_, 1) := by decide +kernel
abbrev K4_lookAtCuts : CK Unit := (enV, none, 5, 5, none)
noncomputable def F4_lookAtCuts_b64 (N : Nat) (q0 : Nat) (k2 : Int32 × Int32 × Ms → Option (Unit × Ms)) (l2 : Int32) (l3 : Int32) (σ : Ms) : Option (Unit × Ms) :=
  k2 (l2, (l3 + (1 : Int32)), σ)
noncomputable def F4_lookAtCuts_b2B (N : Nat) (q0 : Nat) (k2 : Int32 × Int32 × Ms → Option (Unit × Ms)) (l2 : Int32) (l3 : Int32) (σ : Ms) : Option (Unit × Ms) :=
  if (σ.1 q0 5) ≤ l3 then (some ((), σ))
  else (bn (F0_mayCut q0 l2 l3 σ) (fun r1 t2 => if r1 ≠ 0 then (bn (F0_branchSet N q0 l3 t2) (fun r3 t4 => lt ((t2.1 q0 6) &&& (r3 ^^^ (-1 : Int32))) (fun x5 => bn (F0_worthWith N q0 x5 t4) (fun r6 t7 => bn (F0_nimWith N q0 x5 t7) (fun r8 t9 => bn (F4_wonBy N q0 r6 r8 (t9.1 q0 9) l2 t9) (fun r10 t11 => bn (F4_note (0 : Int32) l3 (0 : Int32) r10 t11) (fun r12 t13 => F4_lookAtCuts_b64 N q0 k2 l2 l3 t13)))))))
  else (F4_lookAtCuts_b64 N q0 k2 l2 l3 t2)))
noncomputable def F4_lookAtCuts_b2 (N : Nat) (q0 : Nat) (l2 : Int32) (l3 : Int32) (σ : Ms) : Option (Unit × Ms) :=
  fx N (fun k x => F4_lookAtCuts_b2B N q0 k x.1 x.2.1 x.2.2) (l2, l3, σ)
noncomputable def F4_lookAtCuts (N : Nat) (q0 : Nat) (p1 : Int32) (σ : Ms) : Option (Unit × Ms) :=
  F4_lookAtCuts_b2 N q0 p1 (0 : Int32) σ
set_option maxRecDepth 100000 in
theorem v4_lookAtCuts_b64 (N : Nat) (q0 : Nat) (hq0 : IsC q0 (0, 0, 0)) (k2 : Int32 × Int32 × Ms → Option (Unit × Ms)) (hk2 : ∀ (l2 : Int32) (l3 : Int32) (τ : Ms), VF (K4_lookAtCuts) cX4_lookAtCuts RX4 (k2 (l2, l3, τ)) τ 2 [(0, .ref 99), (1, .ref q0), (2, .int l2), (3, .int l3)] []) (l2 : Int32) (l3 : Int32) (σ : Ms) : VF (K4_lookAtCuts) cX4_lookAtCuts RX4 (F4_lookAtCuts_b64 N q0 k2 l2 l3 σ) σ 64 [(0, .ref 99), (1, .ref q0), (2, .int l2), (3, .int l3)] [] := by
  unfold F4_lookAtCuts_b64
  refine v_iinc (lv' := [(3, .int (l3 + (1 : Int32))), (0, .ref 99), (1, .ref q0), (2, .int l2)]) d4_lookAtCuts_64 3 rfl (by rw [ki_1]) (by decide) rfl ?_
  refine v_goto (tgt := 2) d4_lookAtCuts_67 (by decide) ?_
  refine v_sub [1, 2, 3, 0] rfl ?_
  exact hk2 l2 (l3 + (1 : Int32)) σ
set_option maxRecDepth 100000 in
theorem v4_lookAtCuts_b2B (N : Nat) (q0 : Nat) (hq0 : IsC q0 (0, 0, 0)) (k2 : Int32 × Int32 × Ms → Option (Unit × Ms)) (hk2 : ∀ (l2 : Int32) (l3 : Int32) (τ : Ms), VF (K4_lookAtCuts) cX4_lookAtCuts RX4 (k2 (l2, l3, τ)) τ 2 [(0, .ref 99), (1, .ref q0), (2, .int l2), (3, .int l3)] []) (l2 : Int32) (l3 : Int32) (σ : Ms) : VF (K4_lookAtCuts) cX4_lookAtCuts RX4 (F4_lookAtCuts_b2B N q0 k2 l2 l3 σ) σ 2 [(0, .ref 99), (1, .ref q0), (2, .int l2), (3, .int l3)] [] := by
  unfold F4_lookAtCuts_b2B
  refine v_iload_n d4_lookAtCuts_2 3 rfl rfl ?_
  refine v_aload_n d4_lookAtCuts_3 1 rfl rfl ?_
  refine v_getI d4_lookAtCuts_4 faX4_100 hq0 ?_
  refine v_icmp_ge (tgt := 70) d4_lookAtCuts_7 (by decide) ?_ ?_
  · exact v_vret d4_lookAtCuts_70 rfl
  · refine v_aload_n d4_lookAtCuts_10 1 rfl rfl ?_
    refine v_iload_n d4_lookAtCuts_11 2 rfl rfl ?_
    refine v_iload_n d4_lookAtCuts_12 3 rfl rfl ?_
    refine v_callV2i d4_lookAtCuts_13 (mc0_mayCut q0 hq0 l2 l3 σ) yv0_mayCut mlX4_103 (Recv.obj hq0 rfl) (by decide) (Nat.le_of_ble_eq_true rfl) fun r1 t2 => ?_
    refine v_if_ne (tgt := 22) d4_lookAtCuts_16 (by decide) ?_ ?_
    · refine v_aload_n d4_lookAtCuts_22 1 rfl rfl ?_
      refine v_getI d4_lookAtCuts_23 faX4_27 hq0 ?_
      refine v_aload_n d4_lookAtCuts_26 1 rfl rfl ?_
      refine v_iload_n d4_lookAtCuts_27 3 rfl rfl ?_
      refine v_callV1i d4_lookAtCuts_28 (mc0_branchSet N q0 hq0 l3 t2) yv0_branchSet mlX4_107 (Recv.obj hq0 rfl) (by decide) (Nat.le_of_ble_eq_true rfl) fun r3 t4 => ?_
      refine v_iconst d4_lookAtCuts_31 ki_m1 ?_
      refine v_ixor d4_lookAtCuts_32 ?_
      refine v_iand d4_lookAtCuts_33 ?_
      refine v_lti fun x5 => ?_
      refine v_istore (lv' := [(4, .int x5), (0, .ref 99), (1, .ref q0), (2, .int l2), (3, .int l3)]) d4_lookAtCuts_34 (by decide) rfl ?_
      refine v_aload_n d4_lookAtCuts_36 1 rfl rfl ?_
      refine v_iconst d4_lookAtCuts_37 ki_0 ?_
      refine v_iload_n d4_lookAtCuts_38 4 rfl rfl ?_
      refine v_iconst d4_lookAtCuts_39 ki_0 ?_
      refine v_aload_n d4_lookAtCuts_40 2 rfl rfl ?_
      refine v_aload_n d4_lookAtCuts_41 2 rfl rfl ?_
      refine v_iload d4_lookAtCuts_42 0 rfl ?_
      refine v_callV1l d4_lookAtCuts_44 (mc0_worthWith N q0 hq0 x5 t4) yv0_worthWith mlX4_32 (Recv.obj hq0 rfl) (by decide) (Nat.le_of_ble_eq_true rfl) fun r6 t7 => ?_
      refine v_aload_n d4_lookAtCuts_47 2 rfl rfl ?_
      refine v_iload d4_lookAtCuts_48 0 rfl ?_
      refine v_callV1i d4_lookAtCuts_50 (mc0_nimWith N q0 hq0 x5 t7) yv0_nimWith mlX4_36 (Recv.obj hq0 rfl) (by decide) (Nat.le_of_ble_eq_true rfl) fun r8 t9 => ?_
      refine v_aload_n d4_lookAtCuts_53 2 rfl rfl ?_
      refine v_getI d4_lookAtCuts_54 faX4_40 hq0 ?_
      refine v_iload_n d4_lookAtCuts_57 3 rfl rfl ?_
      refine v_callS5i d4_lookAtCuts_58 (mc4_wonBy N q0 hq0 r6 r8 (t9.1 q0 9) l2 t9) ys4_wonBy mlX4_92 (by decide) (Nat.le_of_ble_eq_true rfl) fun r10 t11 => ?_
      refine v_callV4v d4_lookAtCuts_61 (mc4_note (0 : Int32) l3 (0 : Int32) r10 t11) yv4_note mlX4_96 (Recv.obj ic_99 rfl) (by decide) (Nat.le_of_ble_eq_true rfl) fun r12 t13 => ?_
      refine v_sub [1, 2, 3, 4] rfl ?_
      exact v4_lookAtCuts_b64 N q0 hq0 k2 hk2 l2 l3 t13
    · refine v_goto (tgt := 64) d4_lookAtCuts_19 (by decide) ?_
      exact v4_lookAtCuts_b64 N q0 hq0 k2 hk2 l2 l3 t2
theorem v4_lookAtCuts_b2 (N : Nat) (q0 : Nat) (hq0 : IsC q0 (0, 0, 0)) (l2 : Int32) (l3 : Int32) (σ : Ms) : VF (K4_lookAtCuts) cX4_lookAtCuts RX4 (F4_lookAtCuts_b2 N q0 l2 l3 σ) σ 2 [(0, .ref 99), (1, .ref q0), (2, .int l2), (3, .int l3)] [] := v_fx (σo := fun x => x.2.2) (lo := fun x => [(0, .ref 99), (1, .ref q0), (2, .int x.1), (3, .int x.2.1)]) (fun k hk x => v4_lookAtCuts_b2B N q0 hq0 k (fun l2 l3 τ => hk (l2, l3, τ)) x.1 x.2.1 x.2.2) N (l2, l3, σ)
set_option maxRecDepth 100000 in
theorem mc4_lookAtCuts (N : Nat) (q0 : Nat) (hq0 : IsC q0 (0, 0, 0)) (p1 : Int32) (σ : Ms) : MC enV yX4_lookAtCuts cX4_lookAtCuts 5 none 5 (F4_lookAtCuts N q0 p1 σ) σ [.ref 99, .ref q0, .int p1] := by
  refine MC.v (by decide +kernel) (Nat.le_of_ble_eq_true rfl) ?_
  show VF (K4_lookAtCuts) cX4_lookAtCuts RX4 (F4_lookAtCuts N q0 p1 σ) σ 0 [(0, .ref 99), (1, .ref q0), (2, .int p1)] []
  unfold F4_lookAtCuts
  refine v_iconst d4_lookAtCuts_0 ki_0 ?_
  refine v_istore_n (lv' := [(3, .int (0 : Int32)), (0, .ref 99), (1, .ref q0), (2, .int p1)]) d4_lookAtCuts_1 rfl (by decide) rfl ?_
  refine v_sub [1, 2, 3, 0] rfl ?_
  exact v4_lookAtCuts_b2 N q0 hq0 p1 (0 : Int32) σ
theorem d4_lookAtBets_0 : decode cX4_lookAtBets 0 = .ok (.iconst 0, 1) := by decide +kernel
theorem d4_lookAtBets_1 : decode cX4_lookAtBets 1 = .ok (.istore 6, 2) := by decide +kernel
theorem d4_lookAtBets_3 : decode cX4_lookAtBets 3 = .ok (.iload 6, 2) := by decide +kernel
theorem d4_lookAtBets_5 : decode cX4_lookAtBets 5 = .ok (.aload_n 1, 1) := by decide +kernel
theorem d4_lookAtBets_6 : decode cX4_lookAtBets 6 = .ok (.getfield 67, 3) := by decide +kernel
theorem d4_lookAtBets_9 : decode cX4_lookAtBets 9 = .ok (.if_icmp .ge 63, 3) := by decide +kernel
theorem d4_lookAtBets_12 : decode cX4_lookAtBets 12 = .ok (.aload_n 1, 1) := by decide +kernel
theorem d4_lookAtBets_13 : decode cX4_lookAtBets 13 = .ok (.iload 6, 2) := by decide +kernel
theorem d4_lookAtBets_15 : decode cX4_lookAtBets 15 = .ok (.invokevirtual 110, 3) := by decide +kernel
theorem d4_lookAtBets_18 : decode cX4_lookAtBets 18 = .ok (.ifCond .ne 6, 3) := by decide +kernel
theorem d4_lookAtBets_21 : decode cX4_lookAtBets 21 = .ok (.goto 45, 3) := by decide +kernel
theorem d4_lookAtBets_24 : decode cX4_lookAtBets 24 = .ok (.lload_n 3, 1) := by decide +kernel
theorem d4_lookAtBets_25 : decode cX4_lookAtBets 25 = .ok (.aload_n 1, 1) := by decide +kernel
theorem d4_lookAtBets_26 : decode cX4_lookAtBets 26 = .ok (.iload 6, 2) := by decide +kernel
theorem d4_lookAtBets_28 : decode cX4_lookAtBets 28 = .ok (.iload_n 2, 1) := by decide +kernel
theorem d4_lookAtBets_29 : decode cX4_lookAtBets 29 = .ok (.invokevirtual 58, 3) := by decide +kernel
theorem d4_lookAtBets_32 : decode cX4_lookAtBets 32 = .ok (.i2l, 1) := by decide +kernel
theorem d4_lookAtBets_33 : decode cX4_lookAtBets 33 = .ok (.ldc2_w 62, 3) := by decide +kernel
theorem d4_lookAtBets_36 : decode cX4_lookAtBets 36 = .ok (.lmul, 1) := by decide +kernel
theorem d4_lookAtBets_37 : decode cX4_lookAtBets 37 = .ok (.ladd, 1) := by decide +kernel
theorem d4_lookAtBets_38 : decode cX4_lookAtBets 38 = .ok (.lstore 7, 2) := by decide +kernel
theorem d4_lookAtBets_40 : decode cX4_lookAtBets 40 = .ok (.aload_n 0, 1) := by decide +kernel
theorem d4_lookAtBets_41 : decode cX4_lookAtBets 41 = .ok (.iconst 1, 1) := by decide +kernel
theorem d4_lookAtBets_42 : decode cX4_lookAtBets 42 = .ok (.iload 6, 2) := by decide +kernel
theorem d4_lookAtBets_44 : decode cX4_lookAtBets 44 = .ok (.iconst 0, 1) := by decide +kernel
theorem d4_lookAtBets_45 : decode cX4_lookAtBets 45 = .ok (.aload_n 1, 1) := by decide +kernel
theorem d4_lookAtBets_46 : decode cX4_lookAtBets 46 = .ok (.lload 7, 2) := by decide +kernel
theorem d4_lookAtBets_48 : decode cX4_lookAtBets 48 = .ok (.iload 5, 2) := by decide +kernel
theorem d4_lookAtBets_50 : decode cX4_lookAtBets 50 = .ok (.aload_n 1, 1) := by decide +kernel
theorem d4_lookAtBets_51 : decode cX4_lookAtBets 51 = .ok (.getfield 40, 3) := by decide +kernel
theorem d4_lookAtBets_54 : decode cX4_lookAtBets 54 = .ok (.iconst 1, 1) := by decide +kernel
theorem d4_lookAtBets_55 : decode cX4_lookAtBets 55 = .ok (.iload 6, 2) := by decide +kernel
theorem d4_lookAtBets_57 : decode cX4_lookAtBets 57 = .ok (.ishl, 1) := by decide +kernel
theorem d4_lookAtBets_58 : decode cX4_lookAtBets 58 = .ok (.ior, 1) := by decide +kernel
theorem d4_lookAtBets_59 : decode cX4_lookAtBets 59 = .ok (.iload_n 2, 1) := by decide +kernel
theorem d4_lookAtBets_60 : decode cX4_lookAtBets 60 = .ok (.invokestatic 92, 3) := by decide +kernel
theorem d4_lookAtBets_63 : decode cX4_lookAtBets 63 = .ok (.invokevirtual 96, 3) := by decide +kernel
theorem d4_lookAtBets_66 : decode cX4_lookAtBets 66 = .ok (.iinc 6 1, 3) := by decide +kernel
theorem d4_lookAtBets_69 : decode cX4_lookAtBets 69 = .ok (.goto (-66), 3) := by decide +kernel
theorem d4_lookAtBets_72 : decode cX4_lookAtBets 72 = .ok (.return_, 1) := by decide +kernel
abbrev K4_lookAtBets : CK Unit := (enV, none, 9, 5, none)
noncomputable def F4_lookAtBets_b66 (N : Nat) (q0 : Nat) (k3 : Int32 × Int64 × Int32 × Int32 × Ms → Option (Unit × Ms)) (l2 : Int32) (l3 : Int64) (l5 : Int32) (l6 : Int32) (σ : Ms) : Option (Unit × Ms) :=
  k3 (l2, l3, l5, (l6 + (1 : Int32)), σ)
noncomputable def F4_lookAtBets_b3B (N : Nat) (q0 : Nat) (k3 : Int32 × Int64 × Int32 × Int32 × Ms → Option (Unit × Ms)) (l2 : Int32) (l3 : Int64) (l5 : Int32) (l6 : Int32) (σ : Ms) : Option (Unit × Ms) :=
  if (σ.1 q0 8) ≤ l6 then (some ((), σ))
  else (bn (F0_mayTake q0 l6 σ) (fun r1 t2 => if r1 ≠ 0 then (bn (F0_gain q0 l6 l2 t2) (fun r3 t4 => lt (l3 + ((r3.toInt64) * (1073741824 : Int64))) (fun x5 => bn (F4_wonBy N q0 x5 l5 ((t4.1 q0 9) ||| ((1 : Int32) <<< (l6 &&& 31))) l2 t4) (fun r6 t7 => bn (F4_note (1 : Int32) l6 (0 : Int32) r6 t7) (fun r8 t9 => F4_lookAtBets_b66 N q0 k3 l2 l3 l5 l6 t9)))))
  else (F4_lookAtBets_b66 N q0 k3 l2 l3 l5 l6 t2)))
noncomputable def F4_lookAtBets_b3 (N : Nat) (q0 : Nat) (l2 : Int32) (l3 : Int64) (l5 : Int32) (l6 : Int32) (σ : Ms) : Option (Unit × Ms) :=
  fx N (fun k x => F4_lookAtBets_b3B N q0 k x.1 x.2.1 x.2.2.1 x.2.2.2.1 x.2.2.2.2) (l2, l3, l5, l6, σ)
noncomputable def F4_lookAtBets (N : Nat) (q0 : Nat) (p1 : Int32) (p2 : Int64) (p3 : Int32) (σ : Ms) : Option (Unit × Ms) :=
  F4_lookAtBets_b3 N q0 p1 p2 p3 (0 : Int32) σ
set_option maxRecDepth 100000 in
theorem v4_lookAtBets_b66 (N : Nat) (q0 : Nat) (hq0 : IsC q0 (0, 0, 0)) (k3 : Int32 × Int64 × Int32 × Int32 × Ms → Option (Unit × Ms)) (hk3 : ∀ (l2 : Int32) (l3 : Int64) (l5 : Int32) (l6 : Int32) (τ : Ms), VF (K4_lookAtBets) cX4_lookAtBets RX4 (k3 (l2, l3, l5, l6, τ)) τ 3 [(0, .ref 99), (1, .ref q0), (2, .int l2), (3, .long l3), (5, .int l5), (6, .int l6)] []) (l2 : Int32) (l3 : Int64) (l5 : Int32) (l6 : Int32) (σ : Ms) : VF (K4_lookAtBets) cX4_lookAtBets RX4 (F4_lookAtBets_b66 N q0 k3 l2 l3 l5 l6 σ) σ 66 [(0, .ref 99), (1, .ref q0), (2, .int l2), (3, .long l3), (5, .int l5), (6, .int l6)] [] := by
  unfold F4_lookAtBets_b66
  refine v_iinc (lv' := [(6, .int (l6 + (1 : Int32))), (0, .ref 99), (1, .ref q0), (2, .int l2), (3, .long l3), (5, .int l5)]) d4_lookAtBets_66 5 rfl (by rw [ki_1]) (by decide) rfl ?_
  refine v_goto (tgt := 3) d4_lookAtBets_69 (by decide) ?_
  refine v_sub [1, 2, 3, 4, 5, 0] rfl ?_
  exact hk3 l2 l3 l5 (l6 + (1 : Int32)) σ
set_option maxRecDepth 100000 in
theorem v4_lookAtBets_b3B (N : Nat) (q0 : Nat) (hq0 : IsC q0 (0, 0, 0)) (k3 : Int32 × Int64 × Int32 × Int32 × Ms → Option (Unit × Ms)) (hk3 : ∀ (l2 : Int32) (l3 : Int64) (l5 : Int32) (l6 : Int32) (τ : Ms), VF (K4_lookAtBets) cX4_lookAtBets RX4 (k3 (l2, l3, l5, l6, τ)) τ 3 [(0, .ref 99), (1, .ref q0), (2, .int l2), (3, .long l3), (5, .int l5), (6, .int l6)] []) (l2 : Int32) (l3 : Int64) (l5 : Int32) (l6 : Int32) (σ : Ms) : VF (K4_lookAtBets) cX4_lookAtBets RX4 (F4_lookAtBets_b3B N q0 k3 l2 l3 l5 l6 σ) σ 3 [(0, .ref 99), (1, .ref q0), (2, .int l2), (3, .long l3), (5, .int l5), (6, .int l6)] [] := by
  unfold F4_lookAtBets_b3B
  refine v_iload d4_lookAtBets_3 5 rfl ?_
  refine v_aload_n d4_lookAtBets_5 1 rfl rfl ?_
  refine v_getI d4_lookAtBets_6 faX4_67 hq0 ?_
  refine v_icmp_ge (tgt := 72) d4_lookAtBets_9 (by decide) ?_ ?_
  · exact v_vret d4_lookAtBets_72 rfl
  · refine v_aload_n d4_lookAtBets_12 1 rfl rfl ?_
    refine v_iload d4_lookAtBets_13 5 rfl ?_
    refine v_callV1i d4_lookAtBets_15 (mc0_mayTake q0 hq0 l6 σ) yv0_mayTake mlX4_110 (Recv.obj hq0 rfl) (by decide) (Nat.le_of_ble_eq_true rfl) fun r1 t2 => ?_
    refine v_if_ne (tgt := 24) d4_lookAtBets_18 (by decide) ?_ ?_
    · refine v_lload_n d4_lookAtBets_24 3 rfl rfl ?_
      refine v_aload_n d4_lookAtBets_25 1 rfl rfl ?_
      refine v_iload d4_lookAtBets_26 5 rfl ?_
      refine v_iload_n d4_lookAtBets_28 2 rfl rfl ?_
      refine v_callV2i d4_lookAtBets_29 (mc0_gain q0 hq0 l6 l2 t2) yv0_gain mlX4_58 (Recv.obj hq0 rfl) (by decide) (Nat.le_of_ble_eq_true rfl) fun r3 t4 => ?_
      refine v_i2l d4_lookAtBets_32 ?_
      refine v_ldc2 d4_lookAtBets_33 klX4_62 ?_
      refine v_lmul d4_lookAtBets_36 ?_
      refine v_ladd d4_lookAtBets_37 ?_
      refine v_ltl fun x5 => ?_
      refine v_lstore (lv' := [(7, .long x5), (0, .ref 99), (1, .ref q0), (2, .int l2), (3, .long l3), (5, .int l5), (6, .int l6)]) d4_lookAtBets_38 (by decide) rfl ?_
      refine v_aload_n d4_lookAtBets_40 1 rfl rfl ?_
      refine v_iconst d4_lookAtBets_41 ki_1 ?_
      refine v_iload d4_lookAtBets_42 6 rfl ?_
      refine v_iconst d4_lookAtBets_44 ki_0 ?_
      refine v_aload_n d4_lookAtBets_45 2 rfl rfl ?_
      refine v_lload d4_lookAtBets_46 0 rfl ?_
      refine v_iload d4_lookAtBets_48 5 rfl ?_
      refine v_aload_n d4_lookAtBets_50 2 rfl rfl ?_
      refine v_getI d4_lookAtBets_51 faX4_40 hq0 ?_
      refine v_iconst d4_lookAtBets_54 ki_1 ?_
      refine v_iload d4_lookAtBets_55 6 rfl ?_
      refine v_ishl d4_lookAtBets_57 ?_
      refine v_ior d4_lookAtBets_58 ?_
      refine v_iload_n d4_lookAtBets_59 3 rfl rfl ?_
      refine v_callS5i d4_lookAtBets_60 (mc4_wonBy N q0 hq0 x5 l5 ((t4.1 q0 9) ||| ((1 : Int32) <<< (l6 &&& 31))) l2 t4) ys4_wonBy mlX4_92 (by decide) (Nat.le_of_ble_eq_true rfl) fun r6 t7 => ?_
      refine v_callV4v d4_lookAtBets_63 (mc4_note (1 : Int32) l6 (0 : Int32) r6 t7) yv4_note mlX4_96 (Recv.obj ic_99 rfl) (by decide) (Nat.le_of_ble_eq_true rfl) fun r8 t9 => ?_
      refine v_sub [1, 2, 3, 4, 5, 6] rfl ?_
      exact v4_lookAtBets_b66 N q0 hq0 k3 hk3 l2 l3 l5 l6 t9
    · refine v_goto (tgt := 66) d4_lookAtBets_21 (by decide) ?_
      exact v4_lookAtBets_b66 N q0 hq0 k3 hk3 l2 l3 l5 l6 t2
theorem v4_lookAtBets_b3 (N : Nat) (q0 : Nat) (hq0 : IsC q0 (0, 0, 0)) (l2 : Int32) (l3 : Int64) (l5 : Int32) (l6 : Int32) (σ : Ms) : VF (K4_lookAtBets) cX4_lookAtBets RX4 (F4_lookAtBets_b3 N q0 l2 l3 l5 l6 σ) σ 3 [(0, .ref 99), (1, .ref q0), (2, .int l2), (3, .long l3), (5, .int l5), (6, .int l6)] [] := v_fx (σo := fun x => x.2.2.2.2) (lo := fun x => [(0, .ref 99), (1, .ref q0), (2, .int x.1), (3, .long x.2.1), (5, .int x.2.2.1), (6, .int x.2.2.2.1)]) (fun k hk x => v4_lookAtBets_b3B N q0 hq0 k (fun l2 l3 l5 l6 τ => hk (l2, l3, l5, l6, τ)) x.1 x.2.1 x.2.2.1 x.2.2.2.1 x.2.2.2.2) N (l2, l3, l5, l6, σ)
set_option maxRecDepth 100000 in
theorem mc4_lookAtBets (N : Nat) (q0 : Nat) (hq0 : IsC q0 (0, 0, 0)) (p1 : Int32) (p2 : Int64) (p3 : Int32) (σ : Ms) : MC enV yX4_lookAtBets cX4_lookAtBets 9 none 5 (F4_lookAtBets N q0 p1 p2 p3 σ) σ [.ref 99, .ref q0, .int p1, .long p2, .int p3] := by
  refine MC.v (by decide +kernel) (Nat.le_of_ble_eq_true rfl) ?_
  show VF (K4_lookAtBets) cX4_lookAtBets RX4 (F4_lookAtBets N q0 p1 p2 p3 σ) σ 0 [(0, .ref 99), (1, .ref q0), (2, .int p1), (3, .long p2), (5, .int p3)] []
  unfold F4_lookAtBets
  refine v_iconst d4_lookAtBets_0 ki_0 ?_
  refine v_istore (lv' := [(6, .int (0 : Int32)), (0, .ref 99), (1, .ref q0), (2, .int p1), (3, .long p2), (5, .int p3)]) d4_lookAtBets_1 (by decide) rfl ?_
  refine v_sub [1, 2, 3, 4, 5, 0] rfl ?_
  exact v4_lookAtBets_b3 N q0 hq0 p1 p2 p3 (0 : Int32) σ
theorem d4_lookAtHeaps_0 : decode cX4_lookAtHeaps 0 = .ok (.iconst 0, 1) := by decide +kernel
theorem d4_lookAtHeaps_1 : decode cX4_lookAtHeaps 1 = .ok (.istore 6, 2) := by decide +kernel
theorem d4_lookAtHeaps_3 : decode cX4_lookAtHeaps 3 = .ok (.iload 6, 2) := by decide +kernel
theorem d4_lookAtHeaps_5 : decode cX4_lookAtHeaps 5 = .ok (.iconst 4, 1) := by decide +kernel
theorem d4_lookAtHeaps_6 : decode cX4_lookAtHeaps 6 = .ok (.if_icmp .ge 78, 3) := by decide +kernel
theorem d4_lookAtHeaps_9 : decode cX4_lookAtHeaps 9 = .ok (.aload_n 1, 1) := by decide +kernel
theorem d4_lookAtHeaps_10 : decode cX4_lookAtHeaps 10 = .ok (.iload 6, 2) := by decide +kernel
theorem d4_lookAtHeaps_12 : decode cX4_lookAtHeaps 12 = .ok (.invokevirtual 113, 3) := by decide +kernel
theorem d4_lookAtHeaps_15 : decode cX4_lookAtHeaps 15 = .ok (.ifCond .ne 6, 3) := by decide +kernel
theorem d4_lookAtHeaps_18 : decode cX4_lookAtHeaps 18 = .ok (.goto 60, 3) := by decide +kernel
theorem d4_lookAtHeaps_21 : decode cX4_lookAtHeaps 21 = .ok (.iload 5, 2) := by decide +kernel
theorem d4_lookAtHeaps_23 : decode cX4_lookAtHeaps 23 = .ok (.aload_n 1, 1) := by decide +kernel
theorem d4_lookAtHeaps_24 : decode cX4_lookAtHeaps 24 = .ok (.getfield 116, 3) := by decide +kernel
theorem d4_lookAtHeaps_27 : decode cX4_lookAtHeaps 27 = .ok (.iload 6, 2) := by decide +kernel
theorem d4_lookAtHeaps_29 : decode cX4_lookAtHeaps 29 = .ok (.iaload, 1) := by decide +kernel
theorem d4_lookAtHeaps_30 : decode cX4_lookAtHeaps 30 = .ok (.ixor, 1) := by decide +kernel
theorem d4_lookAtHeaps_31 : decode cX4_lookAtHeaps 31 = .ok (.istore 7, 2) := by decide +kernel
theorem d4_lookAtHeaps_33 : decode cX4_lookAtHeaps 33 = .ok (.iconst 0, 1) := by decide +kernel
theorem d4_lookAtHeaps_34 : decode cX4_lookAtHeaps 34 = .ok (.istore 8, 2) := by decide +kernel
theorem d4_lookAtHeaps_36 : decode cX4_lookAtHeaps 36 = .ok (.iload 8, 2) := by decide +kernel
theorem d4_lookAtHeaps_38 : decode cX4_lookAtHeaps 38 = .ok (.aload_n 1, 1) := by decide +kernel
theorem d4_lookAtHeaps_39 : decode cX4_lookAtHeaps 39 = .ok (.getfield 116, 3) := by decide +kernel
theorem d4_lookAtHeaps_42 : decode cX4_lookAtHeaps 42 = .ok (.iload 6, 2) := by decide +kernel
theorem d4_lookAtHeaps_44 : decode cX4_lookAtHeaps 44 = .ok (.iaload, 1) := by decide +kernel
theorem d4_lookAtHeaps_45 : decode cX4_lookAtHeaps 45 = .ok (.if_icmp .ge 33, 3) := by decide +kernel
theorem d4_lookAtHeaps_48 : decode cX4_lookAtHeaps 48 = .ok (.aload_n 0, 1) := by decide +kernel
theorem d4_lookAtHeaps_49 : decode cX4_lookAtHeaps 49 = .ok (.iconst 2, 1) := by decide +kernel
theorem d4_lookAtHeaps_50 : decode cX4_lookAtHeaps 50 = .ok (.iload 6, 2) := by decide +kernel
theorem d4_lookAtHeaps_52 : decode cX4_lookAtHeaps 52 = .ok (.iload 8, 2) := by decide +kernel
theorem d4_lookAtHeaps_54 : decode cX4_lookAtHeaps 54 = .ok (.aload_n 1, 1) := by decide +kernel
theorem d4_lookAtHeaps_55 : decode cX4_lookAtHeaps 55 = .ok (.lload_n 3, 1) := by decide +kernel
theorem d4_lookAtHeaps_56 : decode cX4_lookAtHeaps 56 = .ok (.iload 7, 2) := by decide +kernel
theorem d4_lookAtHeaps_58 : decode cX4_lookAtHeaps 58 = .ok (.iload 8, 2) := by decide +kernel
theorem d4_lookAtHeaps_60 : decode cX4_lookAtHeaps 60 = .ok (.ixor, 1) := by decide +kernel
theorem d4_lookAtHeaps_61 : decode cX4_lookAtHeaps 61 = .ok (.aload_n 1, 1) := by decide +kernel
theorem d4_lookAtHeaps_62 : decode cX4_lookAtHeaps 62 = .ok (.getfield 40, 3) := by decide +kernel
theorem d4_lookAtHeaps_65 : decode cX4_lookAtHeaps 65 = .ok (.iload_n 2, 1) := by decide +kernel
theorem d4_lookAtHeaps_66 : decode cX4_lookAtHeaps 66 = .ok (.invokestatic 92, 3) := by decide +kernel
theorem d4_lookAtHeaps_69 : decode cX4_lookAtHeaps 69 = .ok (.invokevirtual 96, 3) := by decide +kernel
theorem d4_lookAtHeaps_72 : decode cX4_lookAtHeaps 72 = .ok (.iinc 8 1, 3) := by decide +kernel
theorem d4_lookAtHeaps_75 : decode cX4_lookAtHeaps 75 = .ok (.goto (-39), 3) := by decide +kernel
theorem d4_lookAtHeaps_78 : decode cX4_lookAtHeaps 78 = .ok (.iinc 6 1, 3) := by decide +kernel
theorem d4_lookAtHeaps_81 : decode cX4_lookAtHeaps 81 = .ok (.goto (-78), 3) := by decide +kernel
theorem d4_lookAtHeaps_84 : decode cX4_lookAtHeaps 84 = .ok (.return_, 1) := by decide +kernel
abbrev K4_lookAtHeaps : CK Unit := (enV, none, 9, 5, none)
noncomputable def F4_lookAtHeaps_b78 (N : Nat) (q0 : Nat) (k3 : Int32 × Int64 × Int32 × Int32 × Ms → Option (Unit × Ms)) (l2 : Int32) (l3 : Int64) (l5 : Int32) (l6 : Int32) (σ : Ms) : Option (Unit × Ms) :=
  k3 (l2, l3, l5, (l6 + (1 : Int32)), σ)
noncomputable def F4_lookAtHeaps_b36B (N : Nat) (q0 : Nat) (k3 : Int32 × Int64 × Int32 × Int32 × Ms → Option (Unit × Ms)) (k36 : Int32 × Int64 × Int32 × Int32 × Int32 × Int32 × Ms → Option (Unit × Ms)) (l2 : Int32) (l3 : Int64) (l5 : Int32) (l6 : Int32) (l7 : Int32) (l8 : Int32) (σ : Ms) : Option (Unit × Ms) :=
  ck (ixb l6 4) (if (σ.1 (q0 + 3) l6.toNatClampNeg) ≤ l8 then (F4_lookAtHeaps_b78 N q0 k3 l2 l3 l5 l6 σ)
  else (bn (F4_wonBy N q0 l3 (l7 ^^^ l8) (σ.1 q0 9) l2 σ) (fun r1 t2 => bn (F4_note (2 : Int32) l6 l8 r1 t2) (fun r3 t4 => k36 (l2, l3, l5, l6, l7, (l8 + (1 : Int32)), t4)))))
noncomputable def F4_lookAtHeaps_b36 (N : Nat) (q0 : Nat) (k3 : Int32 × Int64 × Int32 × Int32 × Ms → Option (Unit × Ms)) (l2 : Int32) (l3 : Int64) (l5 : Int32) (l6 : Int32) (l7 : Int32) (l8 : Int32) (σ : Ms) : Option (Unit × Ms) :=
  fx N (fun k x => F4_lookAtHeaps_b36B N q0 k3 k x.1 x.2.1 x.2.2.1 x.2.2.2.1 x.2.2.2.2.1 x.2.2.2.2.2.1 x.2.2.2.2.2.2) (l2, l3, l5, l6, l7, l8, σ)
noncomputable def F4_lookAtHeaps_b3B (N : Nat) (q0 : Nat) (k3 : Int32 × Int64 × Int32 × Int32 × Ms → Option (Unit × Ms)) (l2 : Int32) (l3 : Int64) (l5 : Int32) (l6 : Int32) (σ : Ms) : Option (Unit × Ms) :=
  if (4 : Int32) ≤ l6 then (some ((), σ))
  else (bn (F0_hasHeap q0 l6 σ) (fun r5 t6 => if r5 ≠ 0 then (ck (ixb l6 4) (lt (l5 ^^^ (t6.1 (q0 + 3) l6.toNatClampNeg)) (fun x7 => F4_lookAtHeaps_b36 N q0 k3 l2 l3 l5 l6 x7 (0 : Int32) t6)))
  else (F4_lookAtHeaps_b78 N q0 k3 l2 l3 l5 l6 t6)))
noncomputable def F4_lookAtHeaps_b3 (N : Nat) (q0 : Nat) (l2 : Int32) (l3 : Int64) (l5 : Int32) (l6 : Int32) (σ : Ms) : Option (Unit × Ms) :=
  fx N (fun k x => F4_lookAtHeaps_b3B N q0 k x.1 x.2.1 x.2.2.1 x.2.2.2.1 x.2.2.2.2) (l2, l3, l5, l6, σ)
noncomputable def F4_lookAtHeaps (N : Nat) (q0 : Nat) (p1 : Int32) (p2 : Int64) (p3 : Int32) (σ : Ms) : Option (Unit × Ms) :=
  F4_lookAtHeaps_b3 N q0 p1 p2 p3 (0 : Int32) σ
set_option maxRecDepth 100000 in
theorem v4_lookAtHeaps_b78 (N : Nat) (q0 : Nat) (hq0 : IsC q0 (0, 0, 0)) (k3 : Int32 × Int64 × Int32 × Int32 × Ms → Option (Unit × Ms)) (hk3 : ∀ (l2 : Int32) (l3 : Int64) (l5 : Int32) (l6 : Int32) (τ : Ms), VF (K4_lookAtHeaps) cX4_lookAtHeaps RX4 (k3 (l2, l3, l5, l6, τ)) τ 3 [(0, .ref 99), (1, .ref q0), (2, .int l2), (3, .long l3), (5, .int l5), (6, .int l6)] []) (l2 : Int32) (l3 : Int64) (l5 : Int32) (l6 : Int32) (σ : Ms) : VF (K4_lookAtHeaps) cX4_lookAtHeaps RX4 (F4_lookAtHeaps_b78 N q0 k3 l2 l3 l5 l6 σ) σ 78 [(0, .ref 99), (1, .ref q0), (2, .int l2), (3, .long l3), (5, .int l5), (6, .int l6)] [] := by
  unfold F4_lookAtHeaps_b78
  refine v_iinc (lv' := [(6, .int (l6 + (1 : Int32))), (0, .ref 99), (1, .ref q0), (2, .int l2), (3, .long l3), (5, .int l5)]) d4_lookAtHeaps_78 5 rfl (by rw [ki_1]) (by decide) rfl ?_
  refine v_goto (tgt := 3) d4_lookAtHeaps_81 (by decide) ?_
  refine v_sub [1, 2, 3, 4, 5, 0] rfl ?_
  exact hk3 l2 l3 l5 (l6 + (1 : Int32)) σ
set_option maxRecDepth 100000 in
theorem v4_lookAtHeaps_b36B (N : Nat) (q0 : Nat) (hq0 : IsC q0 (0, 0, 0)) (k3 : Int32 × Int64 × Int32 × Int32 × Ms → Option (Unit × Ms)) (hk3 : ∀ (l2 : Int32) (l3 : Int64) (l5 : Int32) (l6 : Int32) (τ : Ms), VF (K4_lookAtHeaps) cX4_lookAtHeaps RX4 (k3 (l2, l3, l5, l6, τ)) τ 3 [(0, .ref 99), (1, .ref q0), (2, .int l2), (3, .long l3), (5, .int l5), (6, .int l6)] []) (k36 : Int32 × Int64 × Int32 × Int32 × Int32 × Int32 × Ms → Option (Unit × Ms)) (hk36 : ∀ (l2 : Int32) (l3 : Int64) (l5 : Int32) (l6 : Int32) (l7 : Int32) (l8 : Int32) (τ : Ms), VF (K4_lookAtHeaps) cX4_lookAtHeaps RX4 (k36 (l2, l3, l5, l6, l7, l8, τ)) τ 36 [(0, .ref 99), (1, .ref q0), (2, .int l2), (3, .long l3), (5, .int l5), (6, .int l6), (7, .int l7), (8, .int l8)] []) (l2 : Int32) (l3 : Int64) (l5 : Int32) (l6 : Int32) (l7 : Int32) (l8 : Int32) (σ : Ms) : VF (K4_lookAtHeaps) cX4_lookAtHeaps RX4 (F4_lookAtHeaps_b36B N q0 k3 k36 l2 l3 l5 l6 l7 l8 σ) σ 36 [(0, .ref 99), (1, .ref q0), (2, .int l2), (3, .long l3), (5, .int l5), (6, .int l6), (7, .int l7), (8, .int l8)] [] := by
  unfold F4_lookAtHeaps_b36B
  refine v_iload d4_lookAtHeaps_36 7 rfl ?_
  refine v_aload_n d4_lookAtHeaps_38 1 rfl rfl ?_
  refine v_getR d4_lookAtHeaps_39 faX4_116 hq0 rfl ?_
  refine v_iload d4_lookAtHeaps_42 5 rfl ?_
  refine v_iald d4_lookAtHeaps_44 (ih0_3 hq0) ?_
  refine v_icmp_ge (tgt := 78) d4_lookAtHeaps_45 (by decide) ?_ ?_
  · refine v_sub [0, 1, 2, 3, 4, 5] rfl ?_
    exact v4_lookAtHeaps_b78 N q0 hq0 k3 hk3 l2 l3 l5 l6 σ
  · refine v_aload_n d4_lookAtHeaps_48 0 rfl rfl ?_
    refine v_iconst d4_lookAtHeaps_49 ki_2 ?_
    refine v_iload d4_lookAtHeaps_50 5 rfl ?_
    refine v_iload d4_lookAtHeaps_52 7 rfl ?_
    refine v_aload_n d4_lookAtHeaps_54 1 rfl rfl ?_
    refine v_lload_n d4_lookAtHeaps_55 3 rfl rfl ?_
    refine v_iload d4_lookAtHeaps_56 6 rfl ?_
    refine v_iload d4_lookAtHeaps_58 7 rfl ?_
    refine v_ixor d4_lookAtHeaps_60 ?_
    refine v_aload_n d4_lookAtHeaps_61 1 rfl rfl ?_
    refine v_getI d4_lookAtHeaps_62 faX4_40 hq0 ?_
    refine v_iload_n d4_lookAtHeaps_65 2 rfl rfl ?_
    refine v_callS5i d4_lookAtHeaps_66 (mc4_wonBy N q0 hq0 l3 (l7 ^^^ l8) (σ.1 q0 9) l2 σ) ys4_wonBy mlX4_92 (by decide) (Nat.le_of_ble_eq_true rfl) fun r1 t2 => ?_
    refine v_callV4v d4_lookAtHeaps_69 (mc4_note (2 : Int32) l6 l8 r1 t2) yv4_note mlX4_96 (Recv.obj ic_99 rfl) (by decide) (Nat.le_of_ble_eq_true rfl) fun r3 t4 => ?_
    refine v_iinc (lv' := [(8, .int (l8 + (1 : Int32))), (0, .ref 99), (1, .ref q0), (2, .int l2), (3, .long l3), (5, .int l5), (6, .int l6), (7, .int l7)]) d4_lookAtHeaps_72 7 rfl (by rw [ki_1]) (by decide) rfl ?_
    refine v_goto (tgt := 36) d4_lookAtHeaps_75 (by decide) ?_
    refine v_sub [1, 2, 3, 4, 5, 6, 7, 0] rfl ?_
    exact hk36 l2 l3 l5 l6 l7 (l8 + (1 : Int32)) t4
theorem v4_lookAtHeaps_b36 (N : Nat) (q0 : Nat) (hq0 : IsC q0 (0, 0, 0)) (k3 : Int32 × Int64 × Int32 × Int32 × Ms → Option (Unit × Ms)) (hk3 : ∀ (l2 : Int32) (l3 : Int64) (l5 : Int32) (l6 : Int32) (τ : Ms), VF (K4_lookAtHeaps) cX4_lookAtHeaps RX4 (k3 (l2, l3, l5, l6, τ)) τ 3 [(0, .ref 99), (1, .ref q0), (2, .int l2), (3, .long l3), (5, .int l5), (6, .int l6)] []) (l2 : Int32) (l3 : Int64) (l5 : Int32) (l6 : Int32) (l7 : Int32) (l8 : Int32) (σ : Ms) : VF (K4_lookAtHeaps) cX4_lookAtHeaps RX4 (F4_lookAtHeaps_b36 N q0 k3 l2 l3 l5 l6 l7 l8 σ) σ 36 [(0, .ref 99), (1, .ref q0), (2, .int l2), (3, .long l3), (5, .int l5), (6, .int l6), (7, .int l7), (8, .int l8)] [] := v_fx (σo := fun x => x.2.2.2.2.2.2) (lo := fun x => [(0, .ref 99), (1, .ref q0), (2, .int x.1), (3, .long x.2.1), (5, .int x.2.2.1), (6, .int x.2.2.2.1), (7, .int x.2.2.2.2.1), (8, .int x.2.2.2.2.2.1)]) (fun k hk x => v4_lookAtHeaps_b36B N q0 hq0 k3 hk3 k (fun l2 l3 l5 l6 l7 l8 τ => hk (l2, l3, l5, l6, l7, l8, τ)) x.1 x.2.1 x.2.2.1 x.2.2.2.1 x.2.2.2.2.1 x.2.2.2.2.2.1 x.2.2.2.2.2.2) N (l2, l3, l5, l6, l7, l8, σ)
set_option maxRecDepth 100000 in
theorem v4_lookAtHeaps_b3B (N : Nat) (q0 : Nat) (hq0 : IsC q0 (0, 0, 0)) (k3 : Int32 × Int64 × Int32 × Int32 × Ms → Option (Unit × Ms)) (hk3 : ∀ (l2 : Int32) (l3 : Int64) (l5 : Int32) (l6 : Int32) (τ : Ms), VF (K4_lookAtHeaps) cX4_lookAtHeaps RX4 (k3 (l2, l3, l5, l6, τ)) τ 3 [(0, .ref 99), (1, .ref q0), (2, .int l2), (3, .long l3), (5, .int l5), (6, .int l6)] []) (l2 : Int32) (l3 : Int64) (l5 : Int32) (l6 : Int32) (σ : Ms) : VF (K4_lookAtHeaps) cX4_lookAtHeaps RX4 (F4_lookAtHeaps_b3B N q0 k3 l2 l3 l5 l6 σ) σ 3 [(0, .ref 99), (1, .ref q0), (2, .int l2), (3, .long l3), (5, .int l5), (6, .int l6)] [] := by
  unfold F4_lookAtHeaps_b3B
  refine v_iload d4_lookAtHeaps_3 5 rfl ?_
  refine v_iconst d4_lookAtHeaps_5 ki_4 ?_
  refine v_icmp_ge (tgt := 84) d4_lookAtHeaps_6 (by decide) ?_ ?_
  · exact v_vret d4_lookAtHeaps_84 rfl
  · refine v_aload_n d4_lookAtHeaps_9 1 rfl rfl ?_
    refine v_iload d4_lookAtHeaps_10 5 rfl ?_
    refine v_callV1i d4_lookAtHeaps_12 (mc0_hasHeap q0 hq0 l6 σ) yv0_hasHeap mlX4_113 (Recv.obj hq0 rfl) (by decide) (Nat.le_of_ble_eq_true rfl) fun r5 t6 => ?_
    refine v_if_ne (tgt := 21) d4_lookAtHeaps_15 (by decide) ?_ ?_
    · refine v_iload d4_lookAtHeaps_21 4 rfl ?_
      refine v_aload_n d4_lookAtHeaps_23 1 rfl rfl ?_
      refine v_getR d4_lookAtHeaps_24 faX4_116 hq0 rfl ?_
      refine v_iload d4_lookAtHeaps_27 5 rfl ?_
      refine v_iald d4_lookAtHeaps_29 (ih0_3 hq0) ?_
      refine v_ixor d4_lookAtHeaps_30 ?_
      refine v_lti fun x7 => ?_
      refine v_istore (lv' := [(7, .int x7), (0, .ref 99), (1, .ref q0), (2, .int l2), (3, .long l3), (5, .int l5), (6, .int l6)]) d4_lookAtHeaps_31 (by decide) rfl ?_
      refine v_iconst d4_lookAtHeaps_33 ki_0 ?_
      refine v_istore (lv' := [(8, .int (0 : Int32)), (7, .int x7), (0, .ref 99), (1, .ref q0), (2, .int l2), (3, .long l3), (5, .int l5), (6, .int l6)]) d4_lookAtHeaps_34 (by decide) rfl ?_
      refine v_sub [2, 3, 4, 5, 6, 7, 1, 0] rfl ?_
      exact v4_lookAtHeaps_b36 N q0 hq0 k3 hk3 l2 l3 l5 l6 x7 (0 : Int32) t6
    · refine v_goto (tgt := 78) d4_lookAtHeaps_18 (by decide) ?_
      exact v4_lookAtHeaps_b78 N q0 hq0 k3 hk3 l2 l3 l5 l6 t6
theorem v4_lookAtHeaps_b3 (N : Nat) (q0 : Nat) (hq0 : IsC q0 (0, 0, 0)) (l2 : Int32) (l3 : Int64) (l5 : Int32) (l6 : Int32) (σ : Ms) : VF (K4_lookAtHeaps) cX4_lookAtHeaps RX4 (F4_lookAtHeaps_b3 N q0 l2 l3 l5 l6 σ) σ 3 [(0, .ref 99), (1, .ref q0), (2, .int l2), (3, .long l3), (5, .int l5), (6, .int l6)] [] := v_fx (σo := fun x => x.2.2.2.2) (lo := fun x => [(0, .ref 99), (1, .ref q0), (2, .int x.1), (3, .long x.2.1), (5, .int x.2.2.1), (6, .int x.2.2.2.1)]) (fun k hk x => v4_lookAtHeaps_b3B N q0 hq0 k (fun l2 l3 l5 l6 τ => hk (l2, l3, l5, l6, τ)) x.1 x.2.1 x.2.2.1 x.2.2.2.1 x.2.2.2.2) N (l2, l3, l5, l6, σ)
set_option maxRecDepth 100000 in
theorem mc4_lookAtHeaps (N : Nat) (q0 : Nat) (hq0 : IsC q0 (0, 0, 0)) (p1 : Int32) (p2 : Int64) (p3 : Int32) (σ : Ms) : MC enV yX4_lookAtHeaps cX4_lookAtHeaps 9 none 5 (F4_lookAtHeaps N q0 p1 p2 p3 σ) σ [.ref 99, .ref q0, .int p1, .long p2, .int p3] := by
  refine MC.v (by decide +kernel) (Nat.le_of_ble_eq_true rfl) ?_
  show VF (K4_lookAtHeaps) cX4_lookAtHeaps RX4 (F4_lookAtHeaps N q0 p1 p2 p3 σ) σ 0 [(0, .ref 99), (1, .ref q0), (2, .int p1), (3, .long p2), (5, .int p3)] []
  unfold F4_lookAtHeaps
  refine v_iconst d4_lookAtHeaps_0 ki_0 ?_
  refine v_istore (lv' := [(6, .int (0 : Int32)), (0, .ref 99), (1, .ref q0), (2, .int p1), (3, .long p2), (5, .int p3)]) d4_lookAtHeaps_1 (by decide) rfl ?_
  refine v_sub [1, 2, 3, 4, 5, 0] rfl ?_
  exact v4_lookAtHeaps_b3 N q0 hq0 p1 p2 p3 (0 : Int32) σ
theorem d4_look_0 : decode cX4_look 0 = .ok (.aload_n 0, 1) := by decide +kernel
theorem d4_look_1 : decode cX4_look 1 = .ok (.iconst 0, 1) := by decide +kernel
theorem d4_look_2 : decode cX4_look 2 = .ok (.putfield 9, 3) := by decide +kernel
theorem d4_look_5 : decode cX4_look 5 = .ok (.aload_n 0, 1) := by decide +kernel
theorem d4_look_6 : decode cX4_look 6 = .ok (.iconst 0, 1) := by decide +kernel
theorem d4_look_7 : decode cX4_look 7 = .ok (.putfield 15, 3) := by decide +kernel
theorem d4_look_10 : decode cX4_look 10 = .ok (.aload_n 1, 1) := by decide +kernel
theorem d4_look_11 : decode cX4_look 11 = .ok (.aload_n 1, 1) := by decide +kernel
theorem d4_look_12 : decode cX4_look 12 = .ok (.getfield 27, 3) := by decide +kernel
theorem d4_look_15 : decode cX4_look 15 = .ok (.invokevirtual 32, 3) := by decide +kernel
theorem d4_look_18 : decode cX4_look 18 = .ok (.lstore_n 3, 1) := by decide +kernel
theorem d4_look_19 : decode cX4_look 19 = .ok (.aload_n 1, 1) := by decide +kernel
theorem d4_look_20 : decode cX4_look 20 = .ok (.aload_n 1, 1) := by decide +kernel
theorem d4_look_21 : decode cX4_look 21 = .ok (.getfield 27, 3) := by decide +kernel
theorem d4_look_24 : decode cX4_look 24 = .ok (.invokevirtual 36, 3) := by decide +kernel
theorem d4_look_27 : decode cX4_look 27 = .ok (.istore 5, 2) := by decide +kernel
theorem d4_look_29 : decode cX4_look 29 = .ok (.aload_n 0, 1) := by decide +kernel
theorem d4_look_30 : decode cX4_look 30 = .ok (.aload_n 1, 1) := by decide +kernel
theorem d4_look_31 : decode cX4_look 31 = .ok (.iload_n 2, 1) := by decide +kernel
theorem d4_look_32 : decode cX4_look 32 = .ok (.invokevirtual 75, 3) := by decide +kernel
theorem d4_look_35 : decode cX4_look 35 = .ok (.aload_n 0, 1) := by decide +kernel
theorem d4_look_36 : decode cX4_look 36 = .ok (.aload_n 1, 1) := by decide +kernel
theorem d4_look_37 : decode cX4_look 37 = .ok (.iload_n 2, 1) := by decide +kernel
theorem d4_look_38 : decode cX4_look 38 = .ok (.lload_n 3, 1) := by decide +kernel
theorem d4_look_39 : decode cX4_look 39 = .ok (.iload 5, 2) := by decide +kernel
theorem d4_look_41 : decode cX4_look 41 = .ok (.invokevirtual 79, 3) := by decide +kernel
theorem d4_look_44 : decode cX4_look 44 = .ok (.aload_n 0, 1) := by decide +kernel
theorem d4_look_45 : decode cX4_look 45 = .ok (.aload_n 1, 1) := by decide +kernel
theorem d4_look_46 : decode cX4_look 46 = .ok (.iload_n 2, 1) := by decide +kernel
theorem d4_look_47 : decode cX4_look 47 = .ok (.lload_n 3, 1) := by decide +kernel
theorem d4_look_48 : decode cX4_look 48 = .ok (.iload 5, 2) := by decide +kernel
theorem d4_look_50 : decode cX4_look 50 = .ok (.invokevirtual 83, 3) := by decide +kernel
theorem d4_look_53 : decode cX4_look 53 = .ok (.aload_n 1, 1) := by decide +kernel
theorem d4_look_54 : decode cX4_look 54 = .ok (.iload_n 2, 1) := by decide +kernel
theorem d4_look_55 : decode cX4_look 55 = .ok (.invokevirtual 86, 3) := by decide +kernel
theorem d4_look_58 : decode cX4_look 58 = .ok (.ifCond .eq 40, 3) := by decide +kernel
theorem d4_look_61 : decode cX4_look 61 = .ok (.lload_n 3, 1) := by decide +kernel
theorem d4_look_62 : decode cX4_look 62 = .ok (.iload_n 2, 1) := by decide +kernel
theorem d4_look_63 : decode cX4_look 63 = .ok (.ifCond .ne 9, 3) := by decide +kernel
theorem d4_look_66 : decode cX4_look 66 = .ok (.ldc2_w 90, 3) := by decide +kernel
theorem d4_look_69 : decode cX4_look 69 = .ok (.goto 6, 3) := by decide +kernel
theorem d4_look_72 : decode cX4_look 72 = .ok (.ldc2_w 62, 3) := by decide +kernel
theorem d4_look_75 : decode cX4_look 75 = .ok (.ladd, 1) := by decide +kernel
theorem d4_look_76 : decode cX4_look 76 = .ok (.lstore 6, 2) := by decide +kernel
theorem d4_look_78 : decode cX4_look 78 = .ok (.aload_n 0, 1) := by decide +kernel
theorem d4_look_79 : decode cX4_look 79 = .ok (.iconst 3, 1) := by decide +kernel
theorem d4_look_80 : decode cX4_look 80 = .ok (.iconst 0, 1) := by decide +kernel
theorem d4_look_81 : decode cX4_look 81 = .ok (.iconst 0, 1) := by decide +kernel
theorem d4_look_82 : decode cX4_look 82 = .ok (.aload_n 1, 1) := by decide +kernel
theorem d4_look_83 : decode cX4_look 83 = .ok (.lload 6, 2) := by decide +kernel
theorem d4_look_85 : decode cX4_look 85 = .ok (.iload 5, 2) := by decide +kernel
theorem d4_look_87 : decode cX4_look 87 = .ok (.aload_n 1, 1) := by decide +kernel
theorem d4_look_88 : decode cX4_look 88 = .ok (.getfield 40, 3) := by decide +kernel
theorem d4_look_91 : decode cX4_look 91 = .ok (.iload_n 2, 1) := by decide +kernel
theorem d4_look_92 : decode cX4_look 92 = .ok (.invokestatic 92, 3) := by decide +kernel
theorem d4_look_95 : decode cX4_look 95 = .ok (.invokevirtual 96, 3) := by decide +kernel
theorem d4_look_98 : decode cX4_look 98 = .ok (.return_, 1) := by decide +kernel
abbrev K4_look : CK Unit := (enV, none, 8, 6, none)
noncomputable def F4_look_b75 (N : Nat) (q0 : Nat) (l2 : Int32) (l5 : Int32) (s0 : Int64) (s1 : Int64) (σ : Ms) : Option (Unit × Ms) :=
  lt (s0 + s1) (fun x1 => bn (F4_wonBy N q0 x1 l5 (σ.1 q0 9) l2 σ) (fun r2 t3 => bn (F4_note (3 : Int32) (0 : Int32) (0 : Int32) r2 t3) (fun r4 t5 => some ((), t5))))
noncomputable def F4_look (N : Nat) (q0 : Nat) (p1 : Int32) (σ : Ms) : Option (Unit × Ms) :=
  lt (sI σ 99 0 (0 : Int32)) (fun t6 => lt (sI t6 99 1 (0 : Int32)) (fun t7 => bn (F0_worthWith N q0 (t7.1 q0 6) t7) (fun r8 t9 => bn (F0_nimWith N q0 (t9.1 q0 6) t9) (fun r10 t11 => bn (F4_lookAtCuts N q0 p1 t11) (fun r12 t13 => bn (F4_lookAtBets N q0 p1 r8 r10 t13) (fun r14 t15 => bn (F4_lookAtHeaps N q0 p1 r8 r10 t15) (fun r16 t17 => bn (F0_maySpend q0 p1 t17) (fun r18 t19 => if r18 = 0 then (some ((), t19))
  else (if p1 ≠ 0 then (F4_look_b75 N q0 p1 r10 r8 (1073741824 : Int64) t19)
  else (F4_look_b75 N q0 p1 r10 r8 (-1073741824 : Int64) t19))))))))))
set_option maxRecDepth 100000 in
theorem v4_look_b75 (N : Nat) (q0 : Nat) (hq0 : IsC q0 (0, 0, 0)) (l2 : Int32) (l5 : Int32) (s0 : Int64) (s1 : Int64) (σ : Ms) : VF (K4_look) cX4_look RX4 (F4_look_b75 N q0 l2 l5 s0 s1 σ) σ 75 [(0, .ref 99), (1, .ref q0), (2, .int l2), (5, .int l5)] [.long s1, .long s0] := by
  unfold F4_look_b75
  refine v_ladd d4_look_75 ?_
  refine v_ltl fun x1 => ?_
  refine v_lstore (lv' := [(6, .long x1), (0, .ref 99), (1, .ref q0), (2, .int l2), (5, .int l5)]) d4_look_76 (by decide) rfl ?_
  refine v_aload_n d4_look_78 1 rfl rfl ?_
  refine v_iconst d4_look_79 ki_3 ?_
  refine v_iconst d4_look_80 ki_0 ?_
  refine v_iconst d4_look_81 ki_0 ?_
  refine v_aload_n d4_look_82 2 rfl rfl ?_
  refine v_lload d4_look_83 0 rfl ?_
  refine v_iload d4_look_85 4 rfl ?_
  refine v_aload_n d4_look_87 2 rfl rfl ?_
  refine v_getI d4_look_88 faX4_40 hq0 ?_
  refine v_iload_n d4_look_91 3 rfl rfl ?_
  refine v_callS5i d4_look_92 (mc4_wonBy N q0 hq0 x1 l5 (σ.1 q0 9) l2 σ) ys4_wonBy mlX4_92 (by decide) (Nat.le_of_ble_eq_true rfl) fun r2 t3 => ?_
  refine v_callV4v d4_look_95 (mc4_note (3 : Int32) (0 : Int32) (0 : Int32) r2 t3) yv4_note mlX4_96 (Recv.obj ic_99 rfl) (by decide) (Nat.le_of_ble_eq_true rfl) fun r4 t5 => ?_
  exact v_vret d4_look_98 rfl
set_option maxRecDepth 100000 in
theorem mc4_look (N : Nat) (q0 : Nat) (hq0 : IsC q0 (0, 0, 0)) (p1 : Int32) (σ : Ms) : MC enV yX4_look cX4_look 8 none 6 (F4_look N q0 p1 σ) σ [.ref 99, .ref q0, .int p1] := by
  refine MC.v (by decide +kernel) (Nat.le_of_ble_eq_true rfl) ?_
  show VF (K4_look) cX4_look RX4 (F4_look N q0 p1 σ) σ 0 [(0, .ref 99), (1, .ref q0), (2, .int p1)] []
  unfold F4_look
  refine v_aload_n d4_look_0 0 rfl rfl ?_
  refine v_iconst d4_look_1 ki_0 ?_
  refine v_putI d4_look_2 faX4_9 fp2_0 ic_99 ?_
  refine v_lts fun t6 => ?_
  refine v_aload_n d4_look_5 0 rfl rfl ?_
  refine v_iconst d4_look_6 ki_0 ?_
  refine v_putI d4_look_7 faX4_15 fp2_1 ic_99 ?_
  refine v_lts fun t7 => ?_
  refine v_aload_n d4_look_10 1 rfl rfl ?_
  refine v_aload_n d4_look_11 1 rfl rfl ?_
  refine v_getI d4_look_12 faX4_27 hq0 ?_
  refine v_callV1l d4_look_15 (mc0_worthWith N q0 hq0 (t7.1 q0 6) t7) yv0_worthWith mlX4_32 (Recv.obj hq0 rfl) (by decide) (Nat.le_of_ble_eq_true rfl) fun r8 t9 => ?_
  refine v_lstore_n (lv' := [(3, .long r8), (0, .ref 99), (1, .ref q0), (2, .int p1)]) d4_look_18 rfl (by decide) rfl ?_
  refine v_aload_n d4_look_19 2 rfl rfl ?_
  refine v_aload_n d4_look_20 2 rfl rfl ?_
  refine v_getI d4_look_21 faX4_27 hq0 ?_
  refine v_callV1i d4_look_24 (mc0_nimWith N q0 hq0 (t9.1 q0 6) t9) yv0_nimWith mlX4_36 (Recv.obj hq0 rfl) (by decide) (Nat.le_of_ble_eq_true rfl) fun r10 t11 => ?_
  refine v_istore (lv' := [(5, .int r10), (3, .long r8), (0, .ref 99), (1, .ref q0), (2, .int p1)]) d4_look_27 (by decide) rfl ?_
  refine v_aload_n d4_look_29 2 rfl rfl ?_
  refine v_aload_n d4_look_30 3 rfl rfl ?_
  refine v_iload_n d4_look_31 4 rfl rfl ?_
  refine v_callV2v d4_look_32 (mc4_lookAtCuts N q0 hq0 p1 t11) yv4_lookAtCuts mlX4_75 (Recv.obj ic_99 rfl) (by decide) (Nat.le_of_ble_eq_true rfl) fun r12 t13 => ?_
  refine v_aload_n d4_look_35 2 rfl rfl ?_
  refine v_aload_n d4_look_36 3 rfl rfl ?_
  refine v_iload_n d4_look_37 4 rfl rfl ?_
  refine v_lload_n d4_look_38 1 rfl rfl ?_
  refine v_iload d4_look_39 0 rfl ?_
  refine v_callV4v d4_look_41 (mc4_lookAtBets N q0 hq0 p1 r8 r10 t13) yv4_lookAtBets mlX4_79 (Recv.obj ic_99 rfl) (by decide) (Nat.le_of_ble_eq_true rfl) fun r14 t15 => ?_
  refine v_aload_n d4_look_44 2 rfl rfl ?_
  refine v_aload_n d4_look_45 3 rfl rfl ?_
  refine v_iload_n d4_look_46 4 rfl rfl ?_
  refine v_lload_n d4_look_47 1 rfl rfl ?_
  refine v_iload d4_look_48 0 rfl ?_
  refine v_callV4v d4_look_50 (mc4_lookAtHeaps N q0 hq0 p1 r8 r10 t15) yv4_lookAtHeaps mlX4_83 (Recv.obj ic_99 rfl) (by decide) (Nat.le_of_ble_eq_true rfl) fun r16 t17 => ?_
  refine v_aload_n d4_look_53 3 rfl rfl ?_
  refine v_iload_n d4_look_54 4 rfl rfl ?_
  refine v_callV1i d4_look_55 (mc0_maySpend q0 hq0 p1 t17) yv0_maySpend mlX4_86 (Recv.obj hq0 rfl) (by decide) (Nat.le_of_ble_eq_true rfl) fun r18 t19 => ?_
  refine v_if_eq (tgt := 98) d4_look_58 (by decide) ?_ ?_
  · exact v_vret d4_look_98 rfl
  · refine v_lload_n d4_look_61 1 rfl rfl ?_
    refine v_iload_n d4_look_62 4 rfl rfl ?_
    refine v_if_ne (tgt := 72) d4_look_63 (by decide) ?_ ?_
    · refine v_ldc2 d4_look_72 klX4_62 ?_
      refine v_sub [2, 3, 4, 0] rfl ?_
      exact v4_look_b75 N q0 hq0 p1 r10 r8 (1073741824 : Int64) t19
    · refine v_ldc2 d4_look_66 klX4_90 ?_
      refine v_goto (tgt := 75) d4_look_69 (by decide) ?_
      refine v_sub [2, 3, 4, 0] rfl ?_
      exact v4_look_b75 N q0 hq0 p1 r10 r8 (-1073741824 : Int64) t19
theorem d5_copy_0 : decode cX5_copy 0 = .ok (.aload_n 0, 1) := by decide +kernel
theorem d5_copy_1 : decode cX5_copy 1 = .ok (.ifnull 7, 3) := by decide +kernel
theorem d5_copy_4 : decode cX5_copy 4 = .ok (.aload_n 1, 1) := by decide +kernel
theorem d5_copy_5 : decode cX5_copy 5 = .ok (.ifnonnull 4, 3) := by decide +kernel
theorem d5_copy_9 : decode cX5_copy 9 = .ok (.aload_n 1, 1) := by decide +kernel
theorem d5_copy_10 : decode cX5_copy 10 = .ok (.aload_n 0, 1) := by decide +kernel
theorem d5_copy_11 : decode cX5_copy 11 = .ok (.getfield 11, 3) := by decide +kernel
theorem d5_copy_14 : decode cX5_copy 14 = .ok (.putfield 11, 3) := by decide +kernel
theorem d5_copy_17 : decode cX5_copy 17 = .ok (.aload_n 1, 1) := by decide +kernel
theorem d5_copy_18 : decode cX5_copy 18 = .ok (.aload_n 0, 1) := by decide +kernel
theorem d5_copy_19 : decode cX5_copy 19 = .ok (.getfield 15, 3) := by decide +kernel
theorem d5_copy_22 : decode cX5_copy 22 = .ok (.putfield 15, 3) := by decide +kernel
theorem d5_copy_25 : decode cX5_copy 25 = .ok (.aload_n 1, 1) := by decide +kernel
theorem d5_copy_26 : decode cX5_copy 26 = .ok (.aload_n 0, 1) := by decide +kernel
theorem d5_copy_27 : decode cX5_copy 27 = .ok (.getfield 19, 3) := by decide +kernel
theorem d5_copy_30 : decode cX5_copy 30 = .ok (.putfield 19, 3) := by decide +kernel
theorem d5_copy_33 : decode cX5_copy 33 = .ok (.iconst 0, 1) := by decide +kernel
theorem d5_copy_34 : decode cX5_copy 34 = .ok (.istore_n 2, 1) := by decide +kernel
theorem d5_copy_35 : decode cX5_copy 35 = .ok (.iload_n 2, 1) := by decide +kernel
theorem d5_copy_36 : decode cX5_copy 36 = .ok (.bipush 60, 2) := by decide +kernel
theorem d5_copy_38 : decode cX5_copy 38 = .ok (.if_icmp .ge 69, 3) := by decide +kernel
theorem d5_copy_41 : decode cX5_copy 41 = .ok (.aload_n 1, 1) := by decide +kernel
theorem d5_copy_42 : decode cX5_copy 42 = .ok (.getfield 22, 3) := by decide +kernel
theorem d5_copy_45 : decode cX5_copy 45 = .ok (.iload_n 2, 1) := by decide +kernel
theorem d5_copy_46 : decode cX5_copy 46 = .ok (.aload_n 0, 1) := by decide +kernel
theorem d5_copy_47 : decode cX5_copy 47 = .ok (.getfield 22, 3) := by decide +kernel
theorem d5_copy_50 : decode cX5_copy 50 = .ok (.iload_n 2, 1) := by decide +kernel
theorem d5_copy_51 : decode cX5_copy 51 = .ok (.iaload, 1) := by decide +kernel
theorem d5_copy_52 : decode cX5_copy 52 = .ok (.iastore, 1) := by decide +kernel
theorem d5_copy_53 : decode cX5_copy 53 = .ok (.aload_n 1, 1) := by decide +kernel
theorem d5_copy_54 : decode cX5_copy 54 = .ok (.getfield 26, 3) := by decide +kernel
theorem d5_copy_57 : decode cX5_copy 57 = .ok (.iload_n 2, 1) := by decide +kernel
theorem d5_copy_58 : decode cX5_copy 58 = .ok (.aload_n 0, 1) := by decide +kernel
theorem d5_copy_59 : decode cX5_copy 59 = .ok (.getfield 26, 3) := by decide +kernel
theorem d5_copy_62 : decode cX5_copy 62 = .ok (.iload_n 2, 1) := by decide +kernel
theorem d5_copy_63 : decode cX5_copy 63 = .ok (.iaload, 1) := by decide +kernel
theorem d5_copy_64 : decode cX5_copy 64 = .ok (.iastore, 1) := by decide +kernel
theorem d5_copy_65 : decode cX5_copy 65 = .ok (.aload_n 1, 1) := by decide +kernel
theorem d5_copy_66 : decode cX5_copy 66 = .ok (.getfield 29, 3) := by decide +kernel
theorem d5_copy_69 : decode cX5_copy 69 = .ok (.iload_n 2, 1) := by decide +kernel
theorem d5_copy_70 : decode cX5_copy 70 = .ok (.aload_n 0, 1) := by decide +kernel
theorem d5_copy_71 : decode cX5_copy 71 = .ok (.getfield 29, 3) := by decide +kernel
theorem d5_copy_74 : decode cX5_copy 74 = .ok (.iload_n 2, 1) := by decide +kernel
theorem d5_copy_75 : decode cX5_copy 75 = .ok (.iaload, 1) := by decide +kernel
theorem d5_copy_76 : decode cX5_copy 76 = .ok (.iastore, 1) := by decide +kernel
theorem d5_copy_77 : decode cX5_copy 77 = .ok (.aload_n 1, 1) := by decide +kernel
theorem d5_copy_78 : decode cX5_copy 78 = .ok (.getfield 32, 3) := by decide +kernel
theorem d5_copy_81 : decode cX5_copy 81 = .ok (.iload_n 2, 1) := by decide +kernel
theorem d5_copy_82 : decode cX5_copy 82 = .ok (.aload_n 0, 1) := by decide +kernel
theorem d5_copy_83 : decode cX5_copy 83 = .ok (.getfield 32, 3) := by decide +kernel
theorem d5_copy_86 : decode cX5_copy 86 = .ok (.iload_n 2, 1) := by decide +kernel
theorem d5_copy_87 : decode cX5_copy 87 = .ok (.iaload, 1) := by decide +kernel
theorem d5_copy_88 : decode cX5_copy 88 = .ok (.iastore, 1) := by decide +kernel
theorem d5_copy_89 : decode cX5_copy 89 = .ok (.aload_n 1, 1) := by decide +kernel
theorem d5_copy_90 : decode cX5_copy 90 = .ok (.getfield 35, 3) := by decide +kernel
theorem d5_copy_93 : decode cX5_copy 93 = .ok (.iload_n 2, 1) := by decide +kernel
theorem d5_copy_94 : decode cX5_copy 94 = .ok (.aload_n 0, 1) := by decide +kernel
theorem d5_copy_95 : decode cX5_copy 95 = .ok (.getfield 35, 3) := by decide +kernel
theorem d5_copy_98 : decode cX5_copy 98 = .ok (.iload_n 2, 1) := by decide +kernel
theorem d5_copy_99 : decode cX5_copy 99 = .ok (.iaload, 1) := by decide +kernel
theorem d5_copy_100 : decode cX5_copy 100 = .ok (.iastore, 1) := by decide +kernel
theorem d5_copy_101 : decode cX5_copy 101 = .ok (.iinc 2 1, 3) := by decide +kernel
theorem d5_copy_104 : decode cX5_copy 104 = .ok (.goto (-69), 3) := by decide +kernel
theorem d5_copy_107 : decode cX5_copy 107 = .ok (.return_, 1) := by decide +kernel
abbrev K5_copy : CK Unit := (enV, none, 3, 1, none)
noncomputable def F5_copy_b35B (N : Nat) (q0 : Nat) (q1 : Nat) (k35 : Int32 × Ms → Option (Unit × Ms)) (l2 : Int32) (σ : Ms) : Option (Unit × Ms) :=
  if (60 : Int32) ≤ l2 then (some ((), σ))
  else (ck (ixb l2 60) (ck (ixb l2 60) (lt (sI σ (q1 + 1) l2.toNatClampNeg (σ.1 (q0 + 1) l2.toNatClampNeg)) (fun t1 => ck (ixb l2 60) (ck (ixb l2 60) (lt (sI t1 (q1 + 2) l2.toNatClampNeg (t1.1 (q0 + 2) l2.toNatClampNeg)) (fun t2 => ck (ixb l2 60) (ck (ixb l2 60) (lt (sI t2 (q1 + 3) l2.toNatClampNeg (t2.1 (q0 + 3) l2.toNatClampNeg)) (fun t3 => ck (ixb l2 60) (ck (ixb l2 60) (lt (sI t3 (q1 + 4) l2.toNatClampNeg (t3.1 (q0 + 4) l2.toNatClampNeg)) (fun t4 => ck (ixb l2 60) (ck (ixb l2 60) (lt (sI t4 (q1 + 5) l2.toNatClampNeg (t4.1 (q0 + 5) l2.toNatClampNeg)) (fun t5 => k35 ((l2 + (1 : Int32)), t5)))))))))))))))))
noncomputable def F5_copy_b35 (N : Nat) (q0 : Nat) (q1 : Nat) (l2 : Int32) (σ : Ms) : Option (Unit × Ms) :=
  fx N (fun k x => F5_copy_b35B N q0 q1 k x.1 x.2) (l2, σ)
noncomputable def F5_copy (N : Nat) (q0 : Nat) (q1 : Nat) (σ : Ms) : Option (Unit × Ms) :=
  ck (nkB (σ.1 q0 0)) (lt (sI σ q1 0 (σ.1 q0 0)) (fun t6 => lt (sI t6 q1 1 (t6.1 q0 1)) (fun t7 => lt (sI t7 q1 2 (t7.1 q0 2)) (fun t8 => F5_copy_b35 N q0 q1 (0 : Int32) t8))))
set_option maxRecDepth 100000 in
theorem v5_copy_b35B (N : Nat) (q0 : Nat) (hq0 : IsC q0 (0, 3, 0)) (q1 : Nat) (hq1 : IsC q1 (0, 3, 0)) (k35 : Int32 × Ms → Option (Unit × Ms)) (hk35 : ∀ (l2 : Int32) (τ : Ms), VF (K5_copy) cX5_copy RX5 (k35 (l2, τ)) τ 35 [(0, .ref q0), (1, .ref q1), (2, .int l2)] []) (l2 : Int32) (σ : Ms) : VF (K5_copy) cX5_copy RX5 (F5_copy_b35B N q0 q1 k35 l2 σ) σ 35 [(0, .ref q0), (1, .ref q1), (2, .int l2)] [] := by
  unfold F5_copy_b35B
  refine v_iload_n d5_copy_35 2 rfl rfl ?_
  refine v_bipush d5_copy_36 kb_60 ?_
  refine v_icmp_ge (tgt := 107) d5_copy_38 (by decide) ?_ ?_
  · exact v_vret d5_copy_107 rfl
  · refine v_aload_n d5_copy_41 1 rfl rfl ?_
    refine v_getR d5_copy_42 faX5_22 hq1 rfl ?_
    refine v_iload_n d5_copy_45 2 rfl rfl ?_
    refine v_aload_n d5_copy_46 0 rfl rfl ?_
    refine v_getR d5_copy_47 faX5_22 hq0 rfl ?_
    refine v_iload_n d5_copy_50 2 rfl rfl ?_
    refine v_iald d5_copy_51 (ih3_1 hq0) ?_
    refine v_iast d5_copy_52 (ih3_1 hq1) ?_
    refine v_lts fun t1 => ?_
    refine v_aload_n d5_copy_53 1 rfl rfl ?_
    refine v_getR d5_copy_54 faX5_26 hq1 rfl ?_
    refine v_iload_n d5_copy_57 2 rfl rfl ?_
    refine v_aload_n d5_copy_58 0 rfl rfl ?_
    refine v_getR d5_copy_59 faX5_26 hq0 rfl ?_
    refine v_iload_n d5_copy_62 2 rfl rfl ?_
    refine v_iald d5_copy_63 (ih3_2 hq0) ?_
    refine v_iast d5_copy_64 (ih3_2 hq1) ?_
    refine v_lts fun t2 => ?_
    refine v_aload_n d5_copy_65 1 rfl rfl ?_
    refine v_getR d5_copy_66 faX5_29 hq1 rfl ?_
    refine v_iload_n d5_copy_69 2 rfl rfl ?_
    refine v_aload_n d5_copy_70 0 rfl rfl ?_
    refine v_getR d5_copy_71 faX5_29 hq0 rfl ?_
    refine v_iload_n d5_copy_74 2 rfl rfl ?_
    refine v_iald d5_copy_75 (ih3_3 hq0) ?_
    refine v_iast d5_copy_76 (ih3_3 hq1) ?_
    refine v_lts fun t3 => ?_
    refine v_aload_n d5_copy_77 1 rfl rfl ?_
    refine v_getR d5_copy_78 faX5_32 hq1 rfl ?_
    refine v_iload_n d5_copy_81 2 rfl rfl ?_
    refine v_aload_n d5_copy_82 0 rfl rfl ?_
    refine v_getR d5_copy_83 faX5_32 hq0 rfl ?_
    refine v_iload_n d5_copy_86 2 rfl rfl ?_
    refine v_iald d5_copy_87 (ih3_4 hq0) ?_
    refine v_iast d5_copy_88 (ih3_4 hq1) ?_
    refine v_lts fun t4 => ?_
    refine v_aload_n d5_copy_89 1 rfl rfl ?_
    refine v_getR d5_copy_90 faX5_35 hq1 rfl ?_
    refine v_iload_n d5_copy_93 2 rfl rfl ?_
    refine v_aload_n d5_copy_94 0 rfl rfl ?_
    refine v_getR d5_copy_95 faX5_35 hq0 rfl ?_
    refine v_iload_n d5_copy_98 2 rfl rfl ?_
    refine v_iald d5_copy_99 (ih3_5 hq0) ?_
    refine v_iast d5_copy_100 (ih3_5 hq1) ?_
    refine v_lts fun t5 => ?_
    refine v_iinc (lv' := [(2, .int (l2 + (1 : Int32))), (0, .ref q0), (1, .ref q1)]) d5_copy_101 2 rfl (by rw [ki_1]) (by decide) rfl ?_
    refine v_goto (tgt := 35) d5_copy_104 (by decide) ?_
    refine v_sub [1, 2, 0] rfl ?_
    exact hk35 (l2 + (1 : Int32)) t5
theorem v5_copy_b35 (N : Nat) (q0 : Nat) (hq0 : IsC q0 (0, 3, 0)) (q1 : Nat) (hq1 : IsC q1 (0, 3, 0)) (l2 : Int32) (σ : Ms) : VF (K5_copy) cX5_copy RX5 (F5_copy_b35 N q0 q1 l2 σ) σ 35 [(0, .ref q0), (1, .ref q1), (2, .int l2)] [] := v_fx (σo := fun x => x.2) (lo := fun x => [(0, .ref q0), (1, .ref q1), (2, .int x.1)]) (fun k hk x => v5_copy_b35B N q0 hq0 q1 hq1 k (fun l2 τ => hk (l2, τ)) x.1 x.2) N (l2, σ)
set_option maxRecDepth 100000 in
theorem mc5_copy (N : Nat) (q0 : Nat) (hq0 : IsC q0 (0, 3, 0)) (q1 : Nat) (hq1 : IsC q1 (0, 3, 0)) (σ : Ms) : MC enV yX5_copy cX5_copy 3 none 1 (F5_copy N q0 q1 σ) σ [.ref q0, .ref q1] := by
  refine MC.v (by decide +kernel) (Nat.le_of_ble_eq_true rfl) ?_
  show VF (K5_copy) cX5_copy RX5 (F5_copy N q0 q1 σ) σ 0 [(0, .ref q0), (1, .ref q1)] []
  unfold F5_copy
  refine v_aload_n d5_copy_0 0 rfl rfl ?_
  refine v_ifnull d5_copy_1 ?_
  refine v_aload_n d5_copy_4 1 rfl rfl ?_
  refine v_ifnonnull (tgt := 9) d5_copy_5 (by decide) ?_
  refine v_aload_n d5_copy_9 1 rfl rfl ?_
  refine v_aload_n d5_copy_10 0 rfl rfl ?_
  refine v_getI d5_copy_11 faX5_11 hq0 ?_
  refine v_putB d5_copy_14 faX5_11 fp3_0 hq1 ?_
  refine v_lts fun t6 => ?_
  refine v_aload_n d5_copy_17 1 rfl rfl ?_
  refine v_aload_n d5_copy_18 0 rfl rfl ?_
  refine v_getI d5_copy_19 faX5_15 hq0 ?_
  refine v_putI d5_copy_22 faX5_15 fp3_1 hq1 ?_
  refine v_lts fun t7 => ?_
  refine v_aload_n d5_copy_25 1 rfl rfl ?_
  refine v_aload_n d5_copy_26 0 rfl rfl ?_
  refine v_getI d5_copy_27 faX5_19 hq0 ?_
  refine v_putI d5_copy_30 faX5_19 fp3_2 hq1 ?_
  refine v_lts fun t8 => ?_
  refine v_iconst d5_copy_33 ki_0 ?_
  refine v_istore_n (lv' := [(2, .int (0 : Int32)), (0, .ref q0), (1, .ref q1)]) d5_copy_34 rfl (by decide) rfl ?_
  refine v_sub [1, 2, 0] rfl ?_
  exact v5_copy_b35 N q0 hq0 q1 hq1 (0 : Int32) t8
