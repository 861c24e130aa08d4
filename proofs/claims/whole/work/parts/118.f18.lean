theorem d12_tray_0 : decode cX12_tray 0 = .ok (.aload_n 0, 1) := by decide +kernel
theorem d12_tray_1 : decode cX12_tray 1 = .ok (.iconst 0, 1) := by decide +kernel
theorem d12_tray_2 : decode cX12_tray 2 = .ok (.putfield 53, 3) := by decide +kernel
theorem d12_tray_5 : decode cX12_tray 5 = .ok (.aload_n 0, 1) := by decide +kernel
theorem d12_tray_6 : decode cX12_tray 6 = .ok (.iconst 0, 1) := by decide +kernel
theorem d12_tray_7 : decode cX12_tray 7 = .ok (.putfield 56, 3) := by decide +kernel
theorem d12_tray_10 : decode cX12_tray 10 = .ok (.iload_n 1, 1) := by decide +kernel
theorem d12_tray_11 : decode cX12_tray 11 = .ok (.ifCond .lt 17, 3) := by decide +kernel
theorem d12_tray_14 : decode cX12_tray 14 = .ok (.iload_n 1, 1) := by decide +kernel
theorem d12_tray_15 : decode cX12_tray 15 = .ok (.iconst 4, 1) := by decide +kernel
theorem d12_tray_16 : decode cX12_tray 16 = .ok (.if_icmp .ge 12, 3) := by decide +kernel
theorem d12_tray_19 : decode cX12_tray 19 = .ok (.iload_n 2, 1) := by decide +kernel
theorem d12_tray_20 : decode cX12_tray 20 = .ok (.ifCond .lt 8, 3) := by decide +kernel
theorem d12_tray_23 : decode cX12_tray 23 = .ok (.iload_n 2, 1) := by decide +kernel
theorem d12_tray_24 : decode cX12_tray 24 = .ok (.iconst 3, 1) := by decide +kernel
theorem d12_tray_25 : decode cX12_tray 25 = .ok (.if_icmp .le 9, 3) := by decide +kernel
theorem d12_tray_28 : decode cX12_tray 28 = .ok (.aload_n 0, 1) := by decide +kernel
theorem d12_tray_29 : decode cX12_tray 29 = .ok (.iconst 1, 1) := by decide +kernel
theorem d12_tray_30 : decode cX12_tray 30 = .ok (.invokevirtual 68, 3) := by decide +kernel
theorem d12_tray_33 : decode cX12_tray 33 = .ok (.ireturn, 1) := by decide +kernel
theorem d12_tray_34 : decode cX12_tray 34 = .ok (.iload_n 3, 1) := by decide +kernel
theorem d12_tray_35 : decode cX12_tray 35 = .ok (.bipush 60, 2) := by decide +kernel
theorem d12_tray_37 : decode cX12_tray 37 = .ok (.if_icmp .le 9, 3) := by decide +kernel
theorem d12_tray_40 : decode cX12_tray 40 = .ok (.aload_n 0, 1) := by decide +kernel
theorem d12_tray_41 : decode cX12_tray 41 = .ok (.iconst 5, 1) := by decide +kernel
theorem d12_tray_42 : decode cX12_tray 42 = .ok (.invokevirtual 68, 3) := by decide +kernel
theorem d12_tray_45 : decode cX12_tray 45 = .ok (.ireturn, 1) := by decide +kernel
theorem d12_tray_46 : decode cX12_tray 46 = .ok (.iload_n 3, 1) := by decide +kernel
theorem d12_tray_47 : decode cX12_tray 47 = .ok (.ifCond .ge 10, 3) := by decide +kernel
theorem d12_tray_50 : decode cX12_tray 50 = .ok (.aload_n 0, 1) := by decide +kernel
theorem d12_tray_51 : decode cX12_tray 51 = .ok (.bipush 6, 2) := by decide +kernel
theorem d12_tray_53 : decode cX12_tray 53 = .ok (.invokevirtual 68, 3) := by decide +kernel
theorem d12_tray_56 : decode cX12_tray 56 = .ok (.ireturn, 1) := by decide +kernel
theorem d12_tray_57 : decode cX12_tray 57 = .ok (.aload_n 0, 1) := by decide +kernel
theorem d12_tray_58 : decode cX12_tray 58 = .ok (.getfield 13, 3) := by decide +kernel
theorem d12_tray_61 : decode cX12_tray 61 = .ok (.iload_n 1, 1) := by decide +kernel
theorem d12_tray_62 : decode cX12_tray 62 = .ok (.iload_n 2, 1) := by decide +kernel
theorem d12_tray_63 : decode cX12_tray 63 = .ok (.iastore, 1) := by decide +kernel
theorem d12_tray_64 : decode cX12_tray 64 = .ok (.aload_n 0, 1) := by decide +kernel
theorem d12_tray_65 : decode cX12_tray 65 = .ok (.getfield 17, 3) := by decide +kernel
theorem d12_tray_68 : decode cX12_tray 68 = .ok (.iload_n 1, 1) := by decide +kernel
theorem d12_tray_69 : decode cX12_tray 69 = .ok (.iload_n 3, 1) := by decide +kernel
theorem d12_tray_70 : decode cX12_tray 70 = .ok (.iastore, 1) := by decide +kernel
theorem d12_tray_71 : decode cX12_tray 71 = .ok (.iconst 0, 1) := by decide +kernel
theorem d12_tray_72 : decode cX12_tray 72 = .ok (.istore 4, 2) := by decide +kernel
theorem d12_tray_74 : decode cX12_tray 74 = .ok (.iload 4, 2) := by decide +kernel
theorem d12_tray_76 : decode cX12_tray 76 = .ok (.iload_n 3, 1) := by decide +kernel
theorem d12_tray_77 : decode cX12_tray 77 = .ok (.if_icmp .ge 22, 3) := by decide +kernel
theorem d12_tray_80 : decode cX12_tray 80 = .ok (.aload_n 0, 1) := by decide +kernel
theorem d12_tray_81 : decode cX12_tray 81 = .ok (.getfield 20, 3) := by decide +kernel
theorem d12_tray_84 : decode cX12_tray 84 = .ok (.bipush 60, 2) := by decide +kernel
theorem d12_tray_86 : decode cX12_tray 86 = .ok (.iload_n 1, 1) := by decide +kernel
theorem d12_tray_87 : decode cX12_tray 87 = .ok (.imul, 1) := by decide +kernel
theorem d12_tray_88 : decode cX12_tray 88 = .ok (.iload 4, 2) := by decide +kernel
theorem d12_tray_90 : decode cX12_tray 90 = .ok (.iadd, 1) := by decide +kernel
theorem d12_tray_91 : decode cX12_tray 91 = .ok (.lconst 0, 1) := by decide +kernel
theorem d12_tray_92 : decode cX12_tray 92 = .ok (.lastore, 1) := by decide +kernel
theorem d12_tray_93 : decode cX12_tray 93 = .ok (.iinc 4 1, 3) := by decide +kernel
theorem d12_tray_96 : decode cX12_tray 96 = .ok (.goto (-22), 3) := by decide +kernel
theorem d12_tray_99 : decode cX12_tray 99 = .ok (.iconst 1, 1) := by decide +kernel
theorem d12_tray_100 : decode cX12_tray 100 = .ok (.ireturn, 1) := by decide +kernel
abbrev K12_tray : CK Int32 := (enI, (some .boolean), 5, 2, none)
noncomputable def F12_tray_b28 (N : Nat) (σ : Ms) : Option (Int32 × Ms) :=
  bn (F12_no (1 : Int32) σ) (fun r1 t2 => ck (nkB r1) (some (r1, t2)))
noncomputable def F12_tray_b74B (N : Nat) (k74 : Int32 × Int32 × Int32 × Ms → Option (Int32 × Ms)) (l1 : Int32) (l3 : Int32) (l4 : Int32) (σ : Ms) : Option (Int32 × Ms) :=
  if l3 ≤ l4 then (some ((1 : Int32), σ))
  else (ck (ixb (((60 : Int32) * l1) + l4) 240) (lt (sL σ 3 (((60 : Int32) * l1) + l4).toNatClampNeg (0 : Int64)) (fun t3 => k74 (l1, l3, (l4 + (1 : Int32)), t3))))
noncomputable def F12_tray_b74 (N : Nat) (l1 : Int32) (l3 : Int32) (l4 : Int32) (σ : Ms) : Option (Int32 × Ms) :=
  fx N (fun k x => F12_tray_b74B N k x.1 x.2.1 x.2.2.1 x.2.2.2) (l1, l3, l4, σ)
noncomputable def F12_tray (N : Nat) (p0 : Int32) (p1 : Int32) (p2 : Int32) (σ : Ms) : Option (Int32 × Ms) :=
  lt (sI σ 0 1 (0 : Int32)) (fun t4 => lt (sI t4 0 0 (0 : Int32)) (fun t5 => if p0 < 0 then (F12_tray_b28 N t5)
  else (if (4 : Int32) ≤ p0 then (F12_tray_b28 N t5)
  else (if p1 < 0 then (F12_tray_b28 N t5)
  else (if p1 ≤ (3 : Int32) then (if p2 ≤ (60 : Int32) then (if 0 ≤ p2 then (ck (ixb p0 4) (lt (sI t5 1 p0.toNatClampNeg p1) (fun t6 => ck (ixb p0 4) (lt (sI t6 2 p0.toNatClampNeg p2) (fun t7 => F12_tray_b74 N p0 p2 (0 : Int32) t7)))))
  else (bn (F12_no (6 : Int32) t5) (fun r8 t9 => ck (nkB r8) (some (r8, t9)))))
  else (bn (F12_no (5 : Int32) t5) (fun r10 t11 => ck (nkB r10) (some (r10, t11)))))
  else (F12_tray_b28 N t5))))))
set_option maxRecDepth 100000 in
theorem v12_tray_b28 (N : Nat) (σ : Ms) : VF (K12_tray) cX12_tray RX12 (F12_tray_b28 N σ) σ 28 [(0, .ref 0)] [] := by
  unfold F12_tray_b28
  refine v_aload_n d12_tray_28 0 rfl rfl ?_
  refine v_iconst d12_tray_29 ki_1 ?_
  refine v_callV1i d12_tray_30 (mc12_no (1 : Int32) σ) yv12_no mlX12_68 (Recv.obj ic_0 rfl) (by decide) (Nat.le_of_ble_eq_true rfl) fun r1 t2 => ?_
  exact v_iretB d12_tray_33 rfl rfl
set_option maxRecDepth 100000 in
theorem v12_tray_b74B (N : Nat) (k74 : Int32 × Int32 × Int32 × Ms → Option (Int32 × Ms)) (hk74 : ∀ (l1 : Int32) (l3 : Int32) (l4 : Int32) (τ : Ms), VF (K12_tray) cX12_tray RX12 (k74 (l1, l3, l4, τ)) τ 74 [(0, .ref 0), (1, .int l1), (3, .int l3), (4, .int l4)] []) (l1 : Int32) (l3 : Int32) (l4 : Int32) (σ : Ms) : VF (K12_tray) cX12_tray RX12 (F12_tray_b74B N k74 l1 l3 l4 σ) σ 74 [(0, .ref 0), (1, .int l1), (3, .int l3), (4, .int l4)] [] := by
  unfold F12_tray_b74B
  refine v_iload d12_tray_74 3 rfl ?_
  refine v_iload_n d12_tray_76 2 rfl rfl ?_
  refine v_icmp_ge (tgt := 99) d12_tray_77 (by decide) ?_ ?_
  · refine v_iconst d12_tray_99 ki_1 ?_
    exact v_iret (ty := .boolean) d12_tray_100 rfl rfl rfl
  · refine v_aload_n d12_tray_80 0 rfl rfl ?_
    refine v_getR d12_tray_81 faX12_20 ic_0 rfl ?_
    refine v_bipush d12_tray_84 kb_60 ?_
    refine v_iload_n d12_tray_86 1 rfl rfl ?_
    refine v_imul d12_tray_87 ?_
    refine v_iload d12_tray_88 3 rfl ?_
    refine v_iadd d12_tray_90 ?_
    refine v_lconst d12_tray_91 kl_0 ?_
    refine v_last d12_tray_92 ic_3 ?_
    refine v_lts fun t3 => ?_
    refine v_iinc (lv' := [(4, .int (l4 + (1 : Int32))), (0, .ref 0), (1, .int l1), (3, .int l3)]) d12_tray_93 3 rfl (by rw [ki_1]) (by decide) rfl ?_
    refine v_goto (tgt := 74) d12_tray_96 (by decide) ?_
    refine v_sub [1, 2, 3, 0] rfl ?_
    exact hk74 l1 l3 (l4 + (1 : Int32)) t3
theorem v12_tray_b74 (N : Nat) (l1 : Int32) (l3 : Int32) (l4 : Int32) (σ : Ms) : VF (K12_tray) cX12_tray RX12 (F12_tray_b74 N l1 l3 l4 σ) σ 74 [(0, .ref 0), (1, .int l1), (3, .int l3), (4, .int l4)] [] := v_fx (σo := fun x => x.2.2.2) (lo := fun x => [(0, .ref 0), (1, .int x.1), (3, .int x.2.1), (4, .int x.2.2.1)]) (fun k hk x => v12_tray_b74B N k (fun l1 l3 l4 τ => hk (l1, l3, l4, τ)) x.1 x.2.1 x.2.2.1 x.2.2.2) N (l1, l3, l4, σ)
set_option maxRecDepth 100000 in
theorem mc12_tray (N : Nat) (p0 : Int32) (p1 : Int32) (p2 : Int32) (σ : Ms) : MC enI yX12_tray cX12_tray 5 (some .boolean) 2 (F12_tray N p0 p1 p2 σ) σ [.ref 0, .int p0, .int p1, .int p2] := by
  refine MC.i (by decide +kernel) (Nat.le_of_ble_eq_true rfl) ?_
  show VF (K12_tray) cX12_tray RX12 (F12_tray N p0 p1 p2 σ) σ 0 [(0, .ref 0), (1, .int p0), (2, .int p1), (3, .int p2)] []
  unfold F12_tray
  refine v_aload_n d12_tray_0 0 rfl rfl ?_
  refine v_iconst d12_tray_1 ki_0 ?_
  refine v_putI d12_tray_2 faX12_53 fp9_1 ic_0 ?_
  refine v_lts fun t4 => ?_
  refine v_aload_n d12_tray_5 0 rfl rfl ?_
  refine v_iconst d12_tray_6 ki_0 ?_
  refine v_putI d12_tray_7 faX12_56 fp9_0 ic_0 ?_
  refine v_lts fun t5 => ?_
  refine v_iload_n d12_tray_10 1 rfl rfl ?_
  refine v_if_lt (tgt := 28) d12_tray_11 (by decide) ?_ ?_
  · refine v_sub [0] rfl ?_
    exact v12_tray_b28 N t5
  · refine v_iload_n d12_tray_14 1 rfl rfl ?_
    refine v_iconst d12_tray_15 ki_4 ?_
    refine v_icmp_ge (tgt := 28) d12_tray_16 (by decide) ?_ ?_
    · refine v_sub [0] rfl ?_
      exact v12_tray_b28 N t5
    · refine v_iload_n d12_tray_19 2 rfl rfl ?_
      refine v_if_lt (tgt := 28) d12_tray_20 (by decide) ?_ ?_
      · refine v_sub [0] rfl ?_
        exact v12_tray_b28 N t5
      · refine v_iload_n d12_tray_23 2 rfl rfl ?_
        refine v_iconst d12_tray_24 ki_3 ?_
        refine v_icmp_le (tgt := 34) d12_tray_25 (by decide) ?_ ?_
        · refine v_iload_n d12_tray_34 3 rfl rfl ?_
          refine v_bipush d12_tray_35 kb_60 ?_
          refine v_icmp_le (tgt := 46) d12_tray_37 (by decide) ?_ ?_
          · refine v_iload_n d12_tray_46 3 rfl rfl ?_
            refine v_if_ge (tgt := 57) d12_tray_47 (by decide) ?_ ?_
            · refine v_aload_n d12_tray_57 0 rfl rfl ?_
              refine v_getR d12_tray_58 faX12_13 ic_0 rfl ?_
              refine v_iload_n d12_tray_61 1 rfl rfl ?_
              refine v_iload_n d12_tray_62 2 rfl rfl ?_
              refine v_iast d12_tray_63 ic_1 ?_
              refine v_lts fun t6 => ?_
              refine v_aload_n d12_tray_64 0 rfl rfl ?_
              refine v_getR d12_tray_65 faX12_17 ic_0 rfl ?_
              refine v_iload_n d12_tray_68 1 rfl rfl ?_
              refine v_iload_n d12_tray_69 3 rfl rfl ?_
              refine v_iast d12_tray_70 ic_2 ?_
              refine v_lts fun t7 => ?_
              refine v_iconst d12_tray_71 ki_0 ?_
              refine v_istore (lv' := [(4, .int (0 : Int32)), (0, .ref 0), (1, .int p0), (2, .int p1), (3, .int p2)]) d12_tray_72 (by decide) rfl ?_
              refine v_sub [1, 2, 4, 0] rfl ?_
              exact v12_tray_b74 N p0 p2 (0 : Int32) t7
            · refine v_aload_n d12_tray_50 0 rfl rfl ?_
              refine v_bipush d12_tray_51 kb_6 ?_
              refine v_callV1i d12_tray_53 (mc12_no (6 : Int32) t5) yv12_no mlX12_68 (Recv.obj ic_0 rfl) (by decide) (Nat.le_of_ble_eq_true rfl) fun r8 t9 => ?_
              exact v_iretB d12_tray_56 rfl rfl
          · refine v_aload_n d12_tray_40 0 rfl rfl ?_
            refine v_iconst d12_tray_41 ki_5 ?_
            refine v_callV1i d12_tray_42 (mc12_no (5 : Int32) t5) yv12_no mlX12_68 (Recv.obj ic_0 rfl) (by decide) (Nat.le_of_ble_eq_true rfl) fun r10 t11 => ?_
            exact v_iretB d12_tray_45 rfl rfl
        · refine v_sub [0] rfl ?_
          exact v12_tray_b28 N t5
theorem d12_trayed_0 : decode cX12_trayed 0 = .ok (.iload_n 1, 1) := by decide +kernel
theorem d12_trayed_1 : decode cX12_trayed 1 = .ok (.ifCond .lt 8, 3) := by decide +kernel
theorem d12_trayed_4 : decode cX12_trayed 4 = .ok (.iload_n 1, 1) := by decide +kernel
theorem d12_trayed_5 : decode cX12_trayed 5 = .ok (.iconst 4, 1) := by decide +kernel
theorem d12_trayed_6 : decode cX12_trayed 6 = .ok (.if_icmp .lt 7, 3) := by decide +kernel
theorem d12_trayed_9 : decode cX12_trayed 9 = .ok (.iconst 1, 1) := by decide +kernel
theorem d12_trayed_10 : decode cX12_trayed 10 = .ok (.goto 17, 3) := by decide +kernel
theorem d12_trayed_13 : decode cX12_trayed 13 = .ok (.aload_n 0, 1) := by decide +kernel
theorem d12_trayed_14 : decode cX12_trayed 14 = .ok (.getfield 17, 3) := by decide +kernel
theorem d12_trayed_17 : decode cX12_trayed 17 = .ok (.iload_n 1, 1) := by decide +kernel
theorem d12_trayed_18 : decode cX12_trayed 18 = .ok (.iaload, 1) := by decide +kernel
theorem d12_trayed_19 : decode cX12_trayed 19 = .ok (.ifCond .ge 7, 3) := by decide +kernel
theorem d12_trayed_22 : decode cX12_trayed 22 = .ok (.iconst 3, 1) := by decide +kernel
theorem d12_trayed_23 : decode cX12_trayed 23 = .ok (.goto 4, 3) := by decide +kernel
theorem d12_trayed_26 : decode cX12_trayed 26 = .ok (.iconst 0, 1) := by decide +kernel
theorem d12_trayed_27 : decode cX12_trayed 27 = .ok (.ireturn, 1) := by decide +kernel
abbrev K12_trayed : CK Int32 := (enI, (some .int), 2, 1, none)
noncomputable def F12_trayed_b9 (σ : Ms) : Option (Int32 × Ms) :=
  some ((1 : Int32), σ)
noncomputable def F12_trayed (p0 : Int32) (σ : Ms) : Option (Int32 × Ms) :=
  if p0 < 0 then (F12_trayed_b9 σ)
  else (if p0 < (4 : Int32) then (ck (ixb p0 4) (if 0 ≤ (σ.1 2 p0.toNatClampNeg) then (some ((0 : Int32), σ))
  else (some ((3 : Int32), σ))))
  else (F12_trayed_b9 σ))
set_option maxRecDepth 100000 in
theorem v12_trayed_b9 (σ : Ms) : VF (K12_trayed) cX12_trayed RX12 (F12_trayed_b9 σ) σ 9 [] [] := by
  unfold F12_trayed_b9
  refine v_iconst d12_trayed_9 ki_1 ?_
  refine v_goto (tgt := 27) d12_trayed_10 (by decide) ?_
  exact v_iret d12_trayed_27 rfl rfl rfl
set_option maxRecDepth 100000 in
theorem mc12_trayed (p0 : Int32) (σ : Ms) : MC enI yX12_trayed cX12_trayed 2 (some .int) 1 (F12_trayed p0 σ) σ [.ref 0, .int p0] := by
  refine MC.i (by decide +kernel) (Nat.le_of_ble_eq_true rfl) ?_
  show VF (K12_trayed) cX12_trayed RX12 (F12_trayed p0 σ) σ 0 [(0, .ref 0), (1, .int p0)] []
  unfold F12_trayed
  refine v_iload_n d12_trayed_0 1 rfl rfl ?_
  refine v_if_lt (tgt := 9) d12_trayed_1 (by decide) ?_ ?_
  · refine v_sub [] rfl ?_
    exact v12_trayed_b9 σ
  · refine v_iload_n d12_trayed_4 1 rfl rfl ?_
    refine v_iconst d12_trayed_5 ki_4 ?_
    refine v_icmp_lt (tgt := 13) d12_trayed_6 (by decide) ?_ ?_
    · refine v_aload_n d12_trayed_13 0 rfl rfl ?_
      refine v_getR d12_trayed_14 faX12_17 ic_0 rfl ?_
      refine v_iload_n d12_trayed_17 1 rfl rfl ?_
      refine v_iald d12_trayed_18 ic_2 ?_
      refine v_if_ge (tgt := 26) d12_trayed_19 (by decide) ?_ ?_
      · refine v_iconst d12_trayed_26 ki_0 ?_
        exact v_iret d12_trayed_27 rfl rfl rfl
      · refine v_iconst d12_trayed_22 ki_3 ?_
        refine v_goto (tgt := 27) d12_trayed_23 (by decide) ?_
        exact v_iret d12_trayed_27 rfl rfl rfl
    · refine v_sub [] rfl ?_
      exact v12_trayed_b9 σ
theorem d12_placed_0 : decode cX12_placed 0 = .ok (.aload_n 0, 1) := by decide +kernel
theorem d12_placed_1 : decode cX12_placed 1 = .ok (.iload_n 1, 1) := by decide +kernel
theorem d12_placed_2 : decode cX12_placed 2 = .ok (.invokevirtual 72, 3) := by decide +kernel
theorem d12_placed_5 : decode cX12_placed 5 = .ok (.istore_n 3, 1) := by decide +kernel
theorem d12_placed_6 : decode cX12_placed 6 = .ok (.iload_n 3, 1) := by decide +kernel
theorem d12_placed_7 : decode cX12_placed 7 = .ok (.ifCond .le 7, 3) := by decide +kernel
theorem d12_placed_10 : decode cX12_placed 10 = .ok (.iload_n 3, 1) := by decide +kernel
theorem d12_placed_11 : decode cX12_placed 11 = .ok (.goto 22, 3) := by decide +kernel
theorem d12_placed_14 : decode cX12_placed 14 = .ok (.iload_n 2, 1) := by decide +kernel
theorem d12_placed_15 : decode cX12_placed 15 = .ok (.ifCond .lt 13, 3) := by decide +kernel
theorem d12_placed_18 : decode cX12_placed 18 = .ok (.iload_n 2, 1) := by decide +kernel
theorem d12_placed_19 : decode cX12_placed 19 = .ok (.aload_n 0, 1) := by decide +kernel
theorem d12_placed_20 : decode cX12_placed 20 = .ok (.getfield 17, 3) := by decide +kernel
theorem d12_placed_23 : decode cX12_placed 23 = .ok (.iload_n 1, 1) := by decide +kernel
theorem d12_placed_24 : decode cX12_placed 24 = .ok (.iaload, 1) := by decide +kernel
theorem d12_placed_25 : decode cX12_placed 25 = .ok (.if_icmp .lt 7, 3) := by decide +kernel
theorem d12_placed_28 : decode cX12_placed 28 = .ok (.iconst 4, 1) := by decide +kernel
theorem d12_placed_29 : decode cX12_placed 29 = .ok (.goto 4, 3) := by decide +kernel
theorem d12_placed_32 : decode cX12_placed 32 = .ok (.iconst 0, 1) := by decide +kernel
theorem d12_placed_33 : decode cX12_placed 33 = .ok (.ireturn, 1) := by decide +kernel
abbrev K12_placed : CK Int32 := (enI, (some .int), 4, 2, none)
noncomputable def F12_placed_b28 (σ : Ms) : Option (Int32 × Ms) :=
  some ((4 : Int32), σ)
noncomputable def F12_placed (p0 : Int32) (p1 : Int32) (σ : Ms) : Option (Int32 × Ms) :=
  bn (F12_trayed p0 σ) (fun r1 t2 => if r1 ≤ 0 then (if p1 < 0 then (F12_placed_b28 t2)
  else (ck (ixb p0 4) (if p1 < (t2.1 2 p0.toNatClampNeg) then (some ((0 : Int32), t2))
  else (F12_placed_b28 t2))))
  else (some (r1, t2)))
set_option maxRecDepth 100000 in
theorem v12_placed_b28 (σ : Ms) : VF (K12_placed) cX12_placed RX12 (F12_placed_b28 σ) σ 28 [] [] := by
  unfold F12_placed_b28
  refine v_iconst d12_placed_28 ki_4 ?_
  refine v_goto (tgt := 33) d12_placed_29 (by decide) ?_
  exact v_iret d12_placed_33 rfl rfl rfl
set_option maxRecDepth 100000 in
theorem mc12_placed (p0 : Int32) (p1 : Int32) (σ : Ms) : MC enI yX12_placed cX12_placed 4 (some .int) 2 (F12_placed p0 p1 σ) σ [.ref 0, .int p0, .int p1] := by
  refine MC.i (by decide +kernel) (Nat.le_of_ble_eq_true rfl) ?_
  show VF (K12_placed) cX12_placed RX12 (F12_placed p0 p1 σ) σ 0 [(0, .ref 0), (1, .int p0), (2, .int p1)] []
  unfold F12_placed
  refine v_aload_n d12_placed_0 0 rfl rfl ?_
  refine v_iload_n d12_placed_1 1 rfl rfl ?_
  refine v_callV1i d12_placed_2 (mc12_trayed p0 σ) yv12_trayed mlX12_72 (Recv.obj ic_0 rfl) (by decide) (Nat.le_of_ble_eq_true rfl) fun r1 t2 => ?_
  refine v_istore_n (lv' := [(3, .int r1), (0, .ref 0), (1, .int p0), (2, .int p1)]) d12_placed_5 rfl (by decide) rfl ?_
  refine v_iload_n d12_placed_6 0 rfl rfl ?_
  refine v_if_le (tgt := 14) d12_placed_7 (by decide) ?_ ?_
  · refine v_iload_n d12_placed_14 3 rfl rfl ?_
    refine v_if_lt (tgt := 28) d12_placed_15 (by decide) ?_ ?_
    · refine v_sub [] rfl ?_
      exact v12_placed_b28 t2
    · refine v_iload_n d12_placed_18 3 rfl rfl ?_
      refine v_aload_n d12_placed_19 1 rfl rfl ?_
      refine v_getR d12_placed_20 faX12_17 ic_0 rfl ?_
      refine v_iload_n d12_placed_23 2 rfl rfl ?_
      refine v_iald d12_placed_24 ic_2 ?_
      refine v_icmp_lt (tgt := 32) d12_placed_25 (by decide) ?_ ?_
      · refine v_iconst d12_placed_32 ki_0 ?_
        exact v_iret d12_placed_33 rfl rfl rfl
      · refine v_sub [] rfl ?_
        exact v12_placed_b28 t2
  · refine v_iload_n d12_placed_10 0 rfl rfl ?_
    refine v_goto (tgt := 33) d12_placed_11 (by decide) ?_
    exact v_iret d12_placed_33 rfl rfl rfl
theorem d12_write_0 : decode cX12_write 0 = .ok (.aload_n 0, 1) := by decide +kernel
theorem d12_write_1 : decode cX12_write 1 = .ok (.iconst 0, 1) := by decide +kernel
theorem d12_write_2 : decode cX12_write 2 = .ok (.putfield 53, 3) := by decide +kernel
theorem d12_write_5 : decode cX12_write 5 = .ok (.aload_n 0, 1) := by decide +kernel
theorem d12_write_6 : decode cX12_write 6 = .ok (.aload_n 0, 1) := by decide +kernel
theorem d12_write_7 : decode cX12_write 7 = .ok (.iload_n 1, 1) := by decide +kernel
theorem d12_write_8 : decode cX12_write 8 = .ok (.iload_n 2, 1) := by decide +kernel
theorem d12_write_9 : decode cX12_write 9 = .ok (.invokevirtual 76, 3) := by decide +kernel
theorem d12_write_12 : decode cX12_write 12 = .ok (.putfield 56, 3) := by decide +kernel
theorem d12_write_15 : decode cX12_write 15 = .ok (.aload_n 0, 1) := by decide +kernel
theorem d12_write_16 : decode cX12_write 16 = .ok (.getfield 56, 3) := by decide +kernel
theorem d12_write_19 : decode cX12_write 19 = .ok (.ifCond .le 5, 3) := by decide +kernel
theorem d12_write_22 : decode cX12_write 22 = .ok (.iconst 0, 1) := by decide +kernel
theorem d12_write_23 : decode cX12_write 23 = .ok (.ireturn, 1) := by decide +kernel
theorem d12_write_24 : decode cX12_write 24 = .ok (.aload_n 0, 1) := by decide +kernel
theorem d12_write_25 : decode cX12_write 25 = .ok (.getfield 20, 3) := by decide +kernel
theorem d12_write_28 : decode cX12_write 28 = .ok (.bipush 60, 2) := by decide +kernel
theorem d12_write_30 : decode cX12_write 30 = .ok (.iload_n 1, 1) := by decide +kernel
theorem d12_write_31 : decode cX12_write 31 = .ok (.imul, 1) := by decide +kernel
theorem d12_write_32 : decode cX12_write 32 = .ok (.iload_n 2, 1) := by decide +kernel
theorem d12_write_33 : decode cX12_write 33 = .ok (.iadd, 1) := by decide +kernel
theorem d12_write_34 : decode cX12_write 34 = .ok (.aload_n 0, 1) := by decide +kernel
theorem d12_write_35 : decode cX12_write 35 = .ok (.getfield 13, 3) := by decide +kernel
theorem d12_write_38 : decode cX12_write 38 = .ok (.iload_n 1, 1) := by decide +kernel
theorem d12_write_39 : decode cX12_write 39 = .ok (.iaload, 1) := by decide +kernel
theorem d12_write_40 : decode cX12_write 40 = .ok (.lload_n 3, 1) := by decide +kernel
theorem d12_write_41 : decode cX12_write 41 = .ok (.invokestatic 80, 3) := by decide +kernel
theorem d12_write_44 : decode cX12_write 44 = .ok (.lastore, 1) := by decide +kernel
theorem d12_write_45 : decode cX12_write 45 = .ok (.iconst 1, 1) := by decide +kernel
theorem d12_write_46 : decode cX12_write 46 = .ok (.ireturn, 1) := by decide +kernel
abbrev K12_write : CK Int32 := (enI, (some .boolean), 5, 3, none)
noncomputable def F12_write (p0 : Int32) (p1 : Int32) (p2 : Int64) (σ : Ms) : Option (Int32 × Ms) :=
  lt (sI σ 0 1 (0 : Int32)) (fun t1 => bn (F12_placed p0 p1 t1) (fun r2 t3 => lt (sI t3 0 0 r2) (fun t4 => if (t4.1 0 0) ≤ 0 then (ck (ixb p0 4) (bn (F12_trims (t4.1 1 p0.toNatClampNeg) p2 t4) (fun r5 t6 => ck (ixb (((60 : Int32) * p0) + p1) 240) (lt (sL t6 3 (((60 : Int32) * p0) + p1).toNatClampNeg r5) (fun t7 => some ((1 : Int32), t7))))))
  else (some ((0 : Int32), t4)))))
set_option maxRecDepth 100000 in
theorem mc12_write (p0 : Int32) (p1 : Int32) (p2 : Int64) (σ : Ms) : MC enI yX12_write cX12_write 5 (some .boolean) 3 (F12_write p0 p1 p2 σ) σ [.ref 0, .int p0, .int p1, .long p2] := by
  refine MC.i (by decide +kernel) (Nat.le_of_ble_eq_true rfl) ?_
  show VF (K12_write) cX12_write RX12 (F12_write p0 p1 p2 σ) σ 0 [(0, .ref 0), (1, .int p0), (2, .int p1), (3, .long p2)] []
  unfold F12_write
  refine v_aload_n d12_write_0 0 rfl rfl ?_
  refine v_iconst d12_write_1 ki_0 ?_
  refine v_putI d12_write_2 faX12_53 fp9_1 ic_0 ?_
  refine v_lts fun t1 => ?_
  refine v_aload_n d12_write_5 0 rfl rfl ?_
  refine v_aload_n d12_write_6 0 rfl rfl ?_
  refine v_iload_n d12_write_7 1 rfl rfl ?_
  refine v_iload_n d12_write_8 2 rfl rfl ?_
  refine v_callV2i d12_write_9 (mc12_placed p0 p1 t1) yv12_placed mlX12_76 (Recv.obj ic_0 rfl) (by decide) (Nat.le_of_ble_eq_true rfl) fun r2 t3 => ?_
  refine v_putI d12_write_12 faX12_56 fp9_0 ic_0 ?_
  refine v_lts fun t4 => ?_
  refine v_aload_n d12_write_15 0 rfl rfl ?_
  refine v_getI d12_write_16 faX12_56 ic_0 ?_
  refine v_if_le (tgt := 24) d12_write_19 (by decide) ?_ ?_
  · refine v_aload_n d12_write_24 0 rfl rfl ?_
    refine v_getR d12_write_25 faX12_20 ic_0 rfl ?_
    refine v_bipush d12_write_28 kb_60 ?_
    refine v_iload_n d12_write_30 1 rfl rfl ?_
    refine v_imul d12_write_31 ?_
    refine v_iload_n d12_write_32 2 rfl rfl ?_
    refine v_iadd d12_write_33 ?_
    refine v_aload_n d12_write_34 0 rfl rfl ?_
    refine v_getR d12_write_35 faX12_13 ic_0 rfl ?_
    refine v_iload_n d12_write_38 1 rfl rfl ?_
    refine v_iald d12_write_39 ic_1 ?_
    refine v_lload_n d12_write_40 3 rfl rfl ?_
    refine v_callS2l d12_write_41 (mc12_trims (t4.1 1 p0.toNatClampNeg) p2 t4) ys12_trims mlX12_80 (by decide) (Nat.le_of_ble_eq_true rfl) fun r5 t6 => ?_
    refine v_last d12_write_44 ic_3 ?_
    refine v_lts fun t7 => ?_
    refine v_iconst d12_write_45 ki_1 ?_
    exact v_iret (ty := .boolean) d12_write_46 rfl rfl rfl
  · refine v_iconst d12_write_22 ki_0 ?_
    exact v_iret (ty := .boolean) d12_write_23 rfl rfl rfl
theorem d12_read_0 : decode cX12_read 0 = .ok (.aload_n 0, 1) := by decide +kernel
theorem d12_read_1 : decode cX12_read 1 = .ok (.iconst 0, 1) := by decide +kernel
theorem d12_read_2 : decode cX12_read 2 = .ok (.putfield 53, 3) := by decide +kernel
theorem d12_read_5 : decode cX12_read 5 = .ok (.aload_n 0, 1) := by decide +kernel
theorem d12_read_6 : decode cX12_read 6 = .ok (.aload_n 0, 1) := by decide +kernel
theorem d12_read_7 : decode cX12_read 7 = .ok (.iload_n 1, 1) := by decide +kernel
theorem d12_read_8 : decode cX12_read 8 = .ok (.iload_n 2, 1) := by decide +kernel
theorem d12_read_9 : decode cX12_read 9 = .ok (.invokevirtual 76, 3) := by decide +kernel
theorem d12_read_12 : decode cX12_read 12 = .ok (.putfield 56, 3) := by decide +kernel
theorem d12_read_15 : decode cX12_read 15 = .ok (.aload_n 0, 1) := by decide +kernel
theorem d12_read_16 : decode cX12_read 16 = .ok (.getfield 56, 3) := by decide +kernel
theorem d12_read_19 : decode cX12_read 19 = .ok (.ifCond .le 9, 3) := by decide +kernel
theorem d12_read_22 : decode cX12_read 22 = .ok (.ldc2_w 84, 3) := by decide +kernel
theorem d12_read_25 : decode cX12_read 25 = .ok (.goto 14, 3) := by decide +kernel
theorem d12_read_28 : decode cX12_read 28 = .ok (.aload_n 0, 1) := by decide +kernel
theorem d12_read_29 : decode cX12_read 29 = .ok (.getfield 20, 3) := by decide +kernel
theorem d12_read_32 : decode cX12_read 32 = .ok (.bipush 60, 2) := by decide +kernel
theorem d12_read_34 : decode cX12_read 34 = .ok (.iload_n 1, 1) := by decide +kernel
theorem d12_read_35 : decode cX12_read 35 = .ok (.imul, 1) := by decide +kernel
theorem d12_read_36 : decode cX12_read 36 = .ok (.iload_n 2, 1) := by decide +kernel
theorem d12_read_37 : decode cX12_read 37 = .ok (.iadd, 1) := by decide +kernel
theorem d12_read_38 : decode cX12_read 38 = .ok (.laload, 1) := by decide +kernel
theorem d12_read_39 : decode cX12_read 39 = .ok (.lreturn, 1) := by decide +kernel
abbrev K12_read : CK Int64 := (enL, (some .long), 3, 3, none)
noncomputable def F12_read (p0 : Int32) (p1 : Int32) (σ : Ms) : Option (Int64 × Ms) :=
  lt (sI σ 0 1 (0 : Int32)) (fun t1 => bn (F12_placed p0 p1 t1) (fun r2 t3 => lt (sI t3 0 0 r2) (fun t4 => if (t4.1 0 0) ≤ 0 then (ck (ixb (((60 : Int32) * p0) + p1) 240) (some ((t4.2 3 (((60 : Int32) * p0) + p1).toNatClampNeg), t4)))
  else (some ((-1 : Int64), t4)))))
set_option maxRecDepth 100000 in
theorem mc12_read (p0 : Int32) (p1 : Int32) (σ : Ms) : MC enL yX12_read cX12_read 3 (some .long) 3 (F12_read p0 p1 σ) σ [.ref 0, .int p0, .int p1] := by
  refine MC.l (by decide +kernel) (Nat.le_of_ble_eq_true rfl) ?_
  show VF (K12_read) cX12_read RX12 (F12_read p0 p1 σ) σ 0 [(0, .ref 0), (1, .int p0), (2, .int p1)] []
  unfold F12_read
  refine v_aload_n d12_read_0 0 rfl rfl ?_
  refine v_iconst d12_read_1 ki_0 ?_
  refine v_putI d12_read_2 faX12_53 fp9_1 ic_0 ?_
  refine v_lts fun t1 => ?_
  refine v_aload_n d12_read_5 0 rfl rfl ?_
  refine v_aload_n d12_read_6 0 rfl rfl ?_
  refine v_iload_n d12_read_7 1 rfl rfl ?_
  refine v_iload_n d12_read_8 2 rfl rfl ?_
  refine v_callV2i d12_read_9 (mc12_placed p0 p1 t1) yv12_placed mlX12_76 (Recv.obj ic_0 rfl) (by decide) (Nat.le_of_ble_eq_true rfl) fun r2 t3 => ?_
  refine v_putI d12_read_12 faX12_56 fp9_0 ic_0 ?_
  refine v_lts fun t4 => ?_
  refine v_aload_n d12_read_15 0 rfl rfl ?_
  refine v_getI d12_read_16 faX12_56 ic_0 ?_
  refine v_if_le (tgt := 28) d12_read_19 (by decide) ?_ ?_
  · refine v_aload_n d12_read_28 0 rfl rfl ?_
    refine v_getR d12_read_29 faX12_20 ic_0 rfl ?_
    refine v_bipush d12_read_32 kb_60 ?_
    refine v_iload_n d12_read_34 1 rfl rfl ?_
    refine v_imul d12_read_35 ?_
    refine v_iload_n d12_read_36 2 rfl rfl ?_
    refine v_iadd d12_read_37 ?_
    refine v_lald d12_read_38 ic_3 ?_
    exact v_lret d12_read_39 rfl rfl
  · refine v_ldc2 d12_read_22 klX12_84 ?_
    refine v_goto (tgt := 39) d12_read_25 (by decide) ?_
    exact v_lret d12_read_39 rfl rfl
theorem d12_pour_0 : decode cX12_pour 0 = .ok (.aload_n 0, 1) := by decide +kernel
theorem d12_pour_1 : decode cX12_pour 1 = .ok (.iconst 0, 1) := by decide +kernel
theorem d12_pour_2 : decode cX12_pour 2 = .ok (.putfield 53, 3) := by decide +kernel
theorem d12_pour_5 : decode cX12_pour 5 = .ok (.aload_n 0, 1) := by decide +kernel
theorem d12_pour_6 : decode cX12_pour 6 = .ok (.iconst 0, 1) := by decide +kernel
theorem d12_pour_7 : decode cX12_pour 7 = .ok (.putfield 56, 3) := by decide +kernel
theorem d12_pour_10 : decode cX12_pour 10 = .ok (.iload_n 1, 1) := by decide +kernel
theorem d12_pour_11 : decode cX12_pour 11 = .ok (.ifCond .lt 17, 3) := by decide +kernel
theorem d12_pour_14 : decode cX12_pour 14 = .ok (.iload_n 1, 1) := by decide +kernel
theorem d12_pour_15 : decode cX12_pour 15 = .ok (.iconst 4, 1) := by decide +kernel
theorem d12_pour_16 : decode cX12_pour 16 = .ok (.if_icmp .ge 12, 3) := by decide +kernel
theorem d12_pour_19 : decode cX12_pour 19 = .ok (.iload_n 3, 1) := by decide +kernel
theorem d12_pour_20 : decode cX12_pour 20 = .ok (.ifCond .lt 8, 3) := by decide +kernel
theorem d12_pour_23 : decode cX12_pour 23 = .ok (.iload_n 3, 1) := by decide +kernel
theorem d12_pour_24 : decode cX12_pour 24 = .ok (.iconst 4, 1) := by decide +kernel
theorem d12_pour_25 : decode cX12_pour 25 = .ok (.if_icmp .lt 9, 3) := by decide +kernel
theorem d12_pour_28 : decode cX12_pour 28 = .ok (.aload_n 0, 1) := by decide +kernel
theorem d12_pour_29 : decode cX12_pour 29 = .ok (.iconst 1, 1) := by decide +kernel
theorem d12_pour_30 : decode cX12_pour 30 = .ok (.invokevirtual 68, 3) := by decide +kernel
theorem d12_pour_33 : decode cX12_pour 33 = .ok (.ireturn, 1) := by decide +kernel
theorem d12_pour_34 : decode cX12_pour 34 = .ok (.aload_n 0, 1) := by decide +kernel
theorem d12_pour_35 : decode cX12_pour 35 = .ok (.getfield 17, 3) := by decide +kernel
theorem d12_pour_38 : decode cX12_pour 38 = .ok (.iload_n 1, 1) := by decide +kernel
theorem d12_pour_39 : decode cX12_pour 39 = .ok (.iaload, 1) := by decide +kernel
theorem d12_pour_40 : decode cX12_pour 40 = .ok (.ifCond .lt 12, 3) := by decide +kernel
theorem d12_pour_43 : decode cX12_pour 43 = .ok (.aload_n 0, 1) := by decide +kernel
theorem d12_pour_44 : decode cX12_pour 44 = .ok (.getfield 17, 3) := by decide +kernel
theorem d12_pour_47 : decode cX12_pour 47 = .ok (.iload_n 3, 1) := by decide +kernel
theorem d12_pour_48 : decode cX12_pour 48 = .ok (.iaload, 1) := by decide +kernel
theorem d12_pour_49 : decode cX12_pour 49 = .ok (.ifCond .ge 9, 3) := by decide +kernel
theorem d12_pour_52 : decode cX12_pour 52 = .ok (.aload_n 0, 1) := by decide +kernel
theorem d12_pour_53 : decode cX12_pour 53 = .ok (.iconst 3, 1) := by decide +kernel
theorem d12_pour_54 : decode cX12_pour 54 = .ok (.invokevirtual 68, 3) := by decide +kernel
theorem d12_pour_57 : decode cX12_pour 57 = .ok (.ireturn, 1) := by decide +kernel
theorem d12_pour_58 : decode cX12_pour 58 = .ok (.aload_n 0, 1) := by decide +kernel
theorem d12_pour_59 : decode cX12_pour 59 = .ok (.getfield 13, 3) := by decide +kernel
theorem d12_pour_62 : decode cX12_pour 62 = .ok (.iload_n 1, 1) := by decide +kernel
theorem d12_pour_63 : decode cX12_pour 63 = .ok (.iaload, 1) := by decide +kernel
theorem d12_pour_64 : decode cX12_pour 64 = .ok (.aload_n 0, 1) := by decide +kernel
theorem d12_pour_65 : decode cX12_pour 65 = .ok (.getfield 13, 3) := by decide +kernel
theorem d12_pour_68 : decode cX12_pour 68 = .ok (.iload_n 3, 1) := by decide +kernel
theorem d12_pour_69 : decode cX12_pour 69 = .ok (.iaload, 1) := by decide +kernel
theorem d12_pour_70 : decode cX12_pour 70 = .ok (.if_icmp .eq 10, 3) := by decide +kernel
theorem d12_pour_73 : decode cX12_pour 73 = .ok (.aload_n 0, 1) := by decide +kernel
theorem d12_pour_74 : decode cX12_pour 74 = .ok (.bipush 11, 2) := by decide +kernel
theorem d12_pour_76 : decode cX12_pour 76 = .ok (.invokevirtual 68, 3) := by decide +kernel
theorem d12_pour_79 : decode cX12_pour 79 = .ok (.ireturn, 1) := by decide +kernel
theorem d12_pour_80 : decode cX12_pour 80 = .ok (.iload 5, 2) := by decide +kernel
theorem d12_pour_82 : decode cX12_pour 82 = .ok (.ifCond .ge 10, 3) := by decide +kernel
theorem d12_pour_85 : decode cX12_pour 85 = .ok (.aload_n 0, 1) := by decide +kernel
theorem d12_pour_86 : decode cX12_pour 86 = .ok (.bipush 6, 2) := by decide +kernel
theorem d12_pour_88 : decode cX12_pour 88 = .ok (.invokevirtual 68, 3) := by decide +kernel
theorem d12_pour_91 : decode cX12_pour 91 = .ok (.ireturn, 1) := by decide +kernel
theorem d12_pour_92 : decode cX12_pour 92 = .ok (.iload_n 2, 1) := by decide +kernel
theorem d12_pour_93 : decode cX12_pour 93 = .ok (.ifCond .lt 43, 3) := by decide +kernel
theorem d12_pour_96 : decode cX12_pour 96 = .ok (.iload 4, 2) := by decide +kernel
theorem d12_pour_98 : decode cX12_pour 98 = .ok (.ifCond .lt 38, 3) := by decide +kernel
theorem d12_pour_101 : decode cX12_pour 101 = .ok (.iload_n 2, 1) := by decide +kernel
theorem d12_pour_102 : decode cX12_pour 102 = .ok (.i2l, 1) := by decide +kernel
theorem d12_pour_103 : decode cX12_pour 103 = .ok (.iload 5, 2) := by decide +kernel
theorem d12_pour_105 : decode cX12_pour 105 = .ok (.i2l, 1) := by decide +kernel
theorem d12_pour_106 : decode cX12_pour 106 = .ok (.ladd, 1) := by decide +kernel
theorem d12_pour_107 : decode cX12_pour 107 = .ok (.aload_n 0, 1) := by decide +kernel
theorem d12_pour_108 : decode cX12_pour 108 = .ok (.getfield 17, 3) := by decide +kernel
theorem d12_pour_111 : decode cX12_pour 111 = .ok (.iload_n 1, 1) := by decide +kernel
theorem d12_pour_112 : decode cX12_pour 112 = .ok (.iaload, 1) := by decide +kernel
theorem d12_pour_113 : decode cX12_pour 113 = .ok (.i2l, 1) := by decide +kernel
theorem d12_pour_114 : decode cX12_pour 114 = .ok (.lcmp, 1) := by decide +kernel
theorem d12_pour_115 : decode cX12_pour 115 = .ok (.ifCond .gt 21, 3) := by decide +kernel
theorem d12_pour_118 : decode cX12_pour 118 = .ok (.iload 4, 2) := by decide +kernel
theorem d12_pour_120 : decode cX12_pour 120 = .ok (.i2l, 1) := by decide +kernel
theorem d12_pour_121 : decode cX12_pour 121 = .ok (.iload 5, 2) := by decide +kernel
theorem d12_pour_123 : decode cX12_pour 123 = .ok (.i2l, 1) := by decide +kernel
theorem d12_pour_124 : decode cX12_pour 124 = .ok (.ladd, 1) := by decide +kernel
theorem d12_pour_125 : decode cX12_pour 125 = .ok (.aload_n 0, 1) := by decide +kernel
theorem d12_pour_126 : decode cX12_pour 126 = .ok (.getfield 17, 3) := by decide +kernel
theorem d12_pour_129 : decode cX12_pour 129 = .ok (.iload_n 3, 1) := by decide +kernel
theorem d12_pour_130 : decode cX12_pour 130 = .ok (.iaload, 1) := by decide +kernel
theorem d12_pour_131 : decode cX12_pour 131 = .ok (.i2l, 1) := by decide +kernel
theorem d12_pour_132 : decode cX12_pour 132 = .ok (.lcmp, 1) := by decide +kernel
theorem d12_pour_133 : decode cX12_pour 133 = .ok (.ifCond .le 9, 3) := by decide +kernel
theorem d12_pour_136 : decode cX12_pour 136 = .ok (.aload_n 0, 1) := by decide +kernel
theorem d12_pour_137 : decode cX12_pour 137 = .ok (.iconst 4, 1) := by decide +kernel
theorem d12_pour_138 : decode cX12_pour 138 = .ok (.invokevirtual 68, 3) := by decide +kernel
theorem d12_pour_141 : decode cX12_pour 141 = .ok (.ireturn, 1) := by decide +kernel
theorem d12_pour_142 : decode cX12_pour 142 = .ok (.iload_n 2, 1) := by decide +kernel
theorem d12_pour_143 : decode cX12_pour 143 = .ok (.iload 4, 2) := by decide +kernel
theorem d12_pour_145 : decode cX12_pour 145 = .ok (.if_icmp .ge 7, 3) := by decide +kernel
theorem d12_pour_148 : decode cX12_pour 148 = .ok (.iconst 1, 1) := by decide +kernel
theorem d12_pour_149 : decode cX12_pour 149 = .ok (.goto 4, 3) := by decide +kernel
theorem d12_pour_152 : decode cX12_pour 152 = .ok (.iconst 0, 1) := by decide +kernel
theorem d12_pour_153 : decode cX12_pour 153 = .ok (.istore 6, 2) := by decide +kernel
theorem d12_pour_155 : decode cX12_pour 155 = .ok (.iconst 0, 1) := by decide +kernel
theorem d12_pour_156 : decode cX12_pour 156 = .ok (.istore 7, 2) := by decide +kernel
theorem d12_pour_158 : decode cX12_pour 158 = .ok (.iload 7, 2) := by decide +kernel
theorem d12_pour_160 : decode cX12_pour 160 = .ok (.iload 5, 2) := by decide +kernel
theorem d12_pour_162 : decode cX12_pour 162 = .ok (.if_icmp .ge 57, 3) := by decide +kernel
theorem d12_pour_165 : decode cX12_pour 165 = .ok (.iload 6, 2) := by decide +kernel
theorem d12_pour_167 : decode cX12_pour 167 = .ok (.ifCond .eq 13, 3) := by decide +kernel
theorem d12_pour_170 : decode cX12_pour 170 = .ok (.iload 5, 2) := by decide +kernel
theorem d12_pour_172 : decode cX12_pour 172 = .ok (.iconst 1, 1) := by decide +kernel
theorem d12_pour_173 : decode cX12_pour 173 = .ok (.isub, 1) := by decide +kernel
theorem d12_pour_174 : decode cX12_pour 174 = .ok (.iload 7, 2) := by decide +kernel
theorem d12_pour_176 : decode cX12_pour 176 = .ok (.isub, 1) := by decide +kernel
theorem d12_pour_177 : decode cX12_pour 177 = .ok (.goto 5, 3) := by decide +kernel
theorem d12_pour_180 : decode cX12_pour 180 = .ok (.iload 7, 2) := by decide +kernel
theorem d12_pour_182 : decode cX12_pour 182 = .ok (.istore 8, 2) := by decide +kernel
theorem d12_pour_184 : decode cX12_pour 184 = .ok (.aload_n 0, 1) := by decide +kernel
theorem d12_pour_185 : decode cX12_pour 185 = .ok (.getfield 20, 3) := by decide +kernel
theorem d12_pour_188 : decode cX12_pour 188 = .ok (.bipush 60, 2) := by decide +kernel
theorem d12_pour_190 : decode cX12_pour 190 = .ok (.iload_n 3, 1) := by decide +kernel
theorem d12_pour_191 : decode cX12_pour 191 = .ok (.imul, 1) := by decide +kernel
theorem d12_pour_192 : decode cX12_pour 192 = .ok (.iload 4, 2) := by decide +kernel
theorem d12_pour_194 : decode cX12_pour 194 = .ok (.iadd, 1) := by decide +kernel
theorem d12_pour_195 : decode cX12_pour 195 = .ok (.iload 8, 2) := by decide +kernel
theorem d12_pour_197 : decode cX12_pour 197 = .ok (.iadd, 1) := by decide +kernel
theorem d12_pour_198 : decode cX12_pour 198 = .ok (.aload_n 0, 1) := by decide +kernel
theorem d12_pour_199 : decode cX12_pour 199 = .ok (.getfield 20, 3) := by decide +kernel
theorem d12_pour_202 : decode cX12_pour 202 = .ok (.bipush 60, 2) := by decide +kernel
theorem d12_pour_204 : decode cX12_pour 204 = .ok (.iload_n 1, 1) := by decide +kernel
theorem d12_pour_205 : decode cX12_pour 205 = .ok (.imul, 1) := by decide +kernel
theorem d12_pour_206 : decode cX12_pour 206 = .ok (.iload_n 2, 1) := by decide +kernel
theorem d12_pour_207 : decode cX12_pour 207 = .ok (.iadd, 1) := by decide +kernel
theorem d12_pour_208 : decode cX12_pour 208 = .ok (.iload 8, 2) := by decide +kernel
theorem d12_pour_210 : decode cX12_pour 210 = .ok (.iadd, 1) := by decide +kernel
theorem d12_pour_211 : decode cX12_pour 211 = .ok (.laload, 1) := by decide +kernel
theorem d12_pour_212 : decode cX12_pour 212 = .ok (.lastore, 1) := by decide +kernel
theorem d12_pour_213 : decode cX12_pour 213 = .ok (.iinc 7 1, 3) := by decide +kernel
theorem d12_pour_216 : decode cX12_pour 216 = .ok (.goto (-58), 3) := by decide +kernel
theorem d12_pour_219 : decode cX12_pour 219 = .ok (.iconst 1, 1) := by decide +kernel
theorem d12_pour_220 : decode cX12_pour 220 = .ok (.ireturn, 1) := by decide +kernel
abbrev K12_pour : CK Int32 := (enI, (some .boolean), 9, 2, none)
noncomputable def F12_pour_b28 (N : Nat) (σ : Ms) : Option (Int32 × Ms) :=
  bn (F12_no (1 : Int32) σ) (fun r1 t2 => ck (nkB r1) (some (r1, t2)))
noncomputable def F12_pour_b52 (N : Nat) (σ : Ms) : Option (Int32 × Ms) :=
  bn (F12_no (3 : Int32) σ) (fun r3 t4 => ck (nkB r3) (some (r3, t4)))
noncomputable def F12_pour_b136 (N : Nat) (σ : Ms) : Option (Int32 × Ms) :=
  bn (F12_no (4 : Int32) σ) (fun r5 t6 => ck (nkB r5) (some (r5, t6)))
noncomputable def F12_pour_b182 (N : Nat) (k158 : Int32 × Int32 × Int32 × Int32 × Int32 × Int32 × Int32 × Ms → Option (Int32 × Ms)) (l1 : Int32) (l2 : Int32) (l3 : Int32) (l4 : Int32) (l5 : Int32) (l6 : Int32) (l7 : Int32) (s0 : Int32) (σ : Ms) : Option (Int32 × Ms) :=
  ck (ixb ((((60 : Int32) * l1) + l2) + s0) 240) (ck (ixb ((((60 : Int32) * l3) + l4) + s0) 240) (lt (sL σ 3 ((((60 : Int32) * l3) + l4) + s0).toNatClampNeg (σ.2 3 ((((60 : Int32) * l1) + l2) + s0).toNatClampNeg)) (fun t7 => k158 (l1, l2, l3, l4, l5, l6, (l7 + (1 : Int32)), t7))))
noncomputable def F12_pour_b158B (N : Nat) (k158 : Int32 × Int32 × Int32 × Int32 × Int32 × Int32 × Int32 × Ms → Option (Int32 × Ms)) (l1 : Int32) (l2 : Int32) (l3 : Int32) (l4 : Int32) (l5 : Int32) (l6 : Int32) (l7 : Int32) (σ : Ms) : Option (Int32 × Ms) :=
  if l5 ≤ l7 then (some ((1 : Int32), σ))
  else (if l6 = 0 then (F12_pour_b182 N k158 l1 l2 l3 l4 l5 l6 l7 l7 σ)
  else (F12_pour_b182 N k158 l1 l2 l3 l4 l5 l6 l7 ((l5 - (1 : Int32)) - l7) σ))
noncomputable def F12_pour_b158 (N : Nat) (l1 : Int32) (l2 : Int32) (l3 : Int32) (l4 : Int32) (l5 : Int32) (l6 : Int32) (l7 : Int32) (σ : Ms) : Option (Int32 × Ms) :=
  fx N (fun k x => F12_pour_b158B N k x.1 x.2.1 x.2.2.1 x.2.2.2.1 x.2.2.2.2.1 x.2.2.2.2.2.1 x.2.2.2.2.2.2.1 x.2.2.2.2.2.2.2) (l1, l2, l3, l4, l5, l6, l7, σ)
noncomputable def F12_pour_b153 (N : Nat) (l1 : Int32) (l2 : Int32) (l3 : Int32) (l4 : Int32) (l5 : Int32) (s0 : Int32) (σ : Ms) : Option (Int32 × Ms) :=
  F12_pour_b158 N l1 l2 l3 l4 l5 s0 (0 : Int32) σ
noncomputable def F12_pour (N : Nat) (p0 : Int32) (p1 : Int32) (p2 : Int32) (p3 : Int32) (p4 : Int32) (σ : Ms) : Option (Int32 × Ms) :=
  lt (sI σ 0 1 (0 : Int32)) (fun t8 => lt (sI t8 0 0 (0 : Int32)) (fun t9 => if p0 < 0 then (F12_pour_b28 N t9)
  else (if (4 : Int32) ≤ p0 then (F12_pour_b28 N t9)
  else (if p2 < 0 then (F12_pour_b28 N t9)
  else (if p2 < (4 : Int32) then (ck (ixb p0 4) (if (t9.1 2 p0.toNatClampNeg) < 0 then (F12_pour_b52 N t9)
  else (ck (ixb p2 4) (if 0 ≤ (t9.1 2 p2.toNatClampNeg) then (ck (ixb p0 4) (ck (ixb p2 4) (if (t9.1 1 p0.toNatClampNeg) = (t9.1 1 p2.toNatClampNeg) then (if 0 ≤ p4 then (if p1 < 0 then (F12_pour_b136 N t9)
  else (if p3 < 0 then (F12_pour_b136 N t9)
  else (ck (ixb p0 4) (if 0 < (lg_cmp ((p1.toInt64) + (p4.toInt64)) ((t9.1 2 p0.toNatClampNeg).toInt64)) then (F12_pour_b136 N t9)
  else (ck (ixb p2 4) (if (lg_cmp ((p3.toInt64) + (p4.toInt64)) ((t9.1 2 p2.toNatClampNeg).toInt64)) ≤ 0 then (if p3 ≤ p1 then (F12_pour_b153 N p0 p1 p2 p3 p4 (0 : Int32) t9)
  else (F12_pour_b153 N p0 p1 p2 p3 p4 (1 : Int32) t9))
  else (F12_pour_b136 N t9)))))))
  else (bn (F12_no (6 : Int32) t9) (fun r10 t11 => ck (nkB r10) (some (r10, t11)))))
  else (bn (F12_no (11 : Int32) t9) (fun r12 t13 => ck (nkB r12) (some (r12, t13)))))))
  else (F12_pour_b52 N t9)))))
  else (F12_pour_b28 N t9))))))
set_option maxRecDepth 100000 in
theorem v12_pour_b28 (N : Nat) (σ : Ms) : VF (K12_pour) cX12_pour RX12 (F12_pour_b28 N σ) σ 28 [(0, .ref 0)] [] := by
  unfold F12_pour_b28
  refine v_aload_n d12_pour_28 0 rfl rfl ?_
  refine v_iconst d12_pour_29 ki_1 ?_
  refine v_callV1i d12_pour_30 (mc12_no (1 : Int32) σ) yv12_no mlX12_68 (Recv.obj ic_0 rfl) (by decide) (Nat.le_of_ble_eq_true rfl) fun r1 t2 => ?_
  exact v_iretB d12_pour_33 rfl rfl
set_option maxRecDepth 100000 in
theorem v12_pour_b52 (N : Nat) (σ : Ms) : VF (K12_pour) cX12_pour RX12 (F12_pour_b52 N σ) σ 52 [(0, .ref 0)] [] := by
  unfold F12_pour_b52
  refine v_aload_n d12_pour_52 0 rfl rfl ?_
  refine v_iconst d12_pour_53 ki_3 ?_
  refine v_callV1i d12_pour_54 (mc12_no (3 : Int32) σ) yv12_no mlX12_68 (Recv.obj ic_0 rfl) (by decide) (Nat.le_of_ble_eq_true rfl) fun r3 t4 => ?_
  exact v_iretB d12_pour_57 rfl rfl
set_option maxRecDepth 100000 in
theorem v12_pour_b136 (N : Nat) (σ : Ms) : VF (K12_pour) cX12_pour RX12 (F12_pour_b136 N σ) σ 136 [(0, .ref 0)] [] := by
  unfold F12_pour_b136
  refine v_aload_n d12_pour_136 0 rfl rfl ?_
  refine v_iconst d12_pour_137 ki_4 ?_
  refine v_callV1i d12_pour_138 (mc12_no (4 : Int32) σ) yv12_no mlX12_68 (Recv.obj ic_0 rfl) (by decide) (Nat.le_of_ble_eq_true rfl) fun r5 t6 => ?_
  exact v_iretB d12_pour_141 rfl rfl
set_option maxRecDepth 100000 in
theorem v12_pour_b182 (N : Nat) (k158 : Int32 × Int32 × Int32 × Int32 × Int32 × Int32 × Int32 × Ms → Option (Int32 × Ms)) (hk158 : ∀ (l1 : Int32) (l2 : Int32) (l3 : Int32) (l4 : Int32) (l5 : Int32) (l6 : Int32) (l7 : Int32) (τ : Ms), VF (K12_pour) cX12_pour RX12 (k158 (l1, l2, l3, l4, l5, l6, l7, τ)) τ 158 [(0, .ref 0), (1, .int l1), (2, .int l2), (3, .int l3), (4, .int l4), (5, .int l5), (6, .int l6), (7, .int l7)] []) (l1 : Int32) (l2 : Int32) (l3 : Int32) (l4 : Int32) (l5 : Int32) (l6 : Int32) (l7 : Int32) (s0 : Int32) (σ : Ms) : VF (K12_pour) cX12_pour RX12 (F12_pour_b182 N k158 l1 l2 l3 l4 l5 l6 l7 s0 σ) σ 182 [(0, .ref 0), (1, .int l1), (2, .int l2), (3, .int l3), (4, .int l4), (5, .int l5), (6, .int l6), (7, .int l7)] [.int s0] := by
  unfold F12_pour_b182
  refine v_istore (lv' := [(8, .int s0), (0, .ref 0), (1, .int l1), (2, .int l2), (3, .int l3), (4, .int l4), (5, .int l5), (6, .int l6), (7, .int l7)]) d12_pour_182 (by decide) rfl ?_
  refine v_aload_n d12_pour_184 1 rfl rfl ?_
  refine v_getR d12_pour_185 faX12_20 ic_0 rfl ?_
  refine v_bipush d12_pour_188 kb_60 ?_
  refine v_iload_n d12_pour_190 4 rfl rfl ?_
  refine v_imul d12_pour_191 ?_
  refine v_iload d12_pour_192 5 rfl ?_
  refine v_iadd d12_pour_194 ?_
  refine v_iload d12_pour_195 0 rfl ?_
  refine v_iadd d12_pour_197 ?_
  refine v_aload_n d12_pour_198 1 rfl rfl ?_
  refine v_getR d12_pour_199 faX12_20 ic_0 rfl ?_
  refine v_bipush d12_pour_202 kb_60 ?_
  refine v_iload_n d12_pour_204 2 rfl rfl ?_
  refine v_imul d12_pour_205 ?_
  refine v_iload_n d12_pour_206 3 rfl rfl ?_
  refine v_iadd d12_pour_207 ?_
  refine v_iload d12_pour_208 0 rfl ?_
  refine v_iadd d12_pour_210 ?_
  refine v_lald d12_pour_211 ic_3 ?_
  refine v_last d12_pour_212 ic_3 ?_
  refine v_lts fun t7 => ?_
  refine v_iinc (lv' := [(7, .int (l7 + (1 : Int32))), (8, .int s0), (0, .ref 0), (1, .int l1), (2, .int l2), (3, .int l3), (4, .int l4), (5, .int l5), (6, .int l6)]) d12_pour_213 8 rfl (by rw [ki_1]) (by decide) rfl ?_
  refine v_goto (tgt := 158) d12_pour_216 (by decide) ?_
  refine v_sub [2, 3, 4, 5, 6, 7, 8, 0] rfl ?_
  exact hk158 l1 l2 l3 l4 l5 l6 (l7 + (1 : Int32)) t7
set_option maxRecDepth 100000 in
theorem v12_pour_b158B (N : Nat) (k158 : Int32 × Int32 × Int32 × Int32 × Int32 × Int32 × Int32 × Ms → Option (Int32 × Ms)) (hk158 : ∀ (l1 : Int32) (l2 : Int32) (l3 : Int32) (l4 : Int32) (l5 : Int32) (l6 : Int32) (l7 : Int32) (τ : Ms), VF (K12_pour) cX12_pour RX12 (k158 (l1, l2, l3, l4, l5, l6, l7, τ)) τ 158 [(0, .ref 0), (1, .int l1), (2, .int l2), (3, .int l3), (4, .int l4), (5, .int l5), (6, .int l6), (7, .int l7)] []) (l1 : Int32) (l2 : Int32) (l3 : Int32) (l4 : Int32) (l5 : Int32) (l6 : Int32) (l7 : Int32) (σ : Ms) : VF (K12_pour) cX12_pour RX12 (F12_pour_b158B N k158 l1 l2 l3 l4 l5 l6 l7 σ) σ 158 [(0, .ref 0), (1, .int l1), (2, .int l2), (3, .int l3), (4, .int l4), (5, .int l5), (6, .int l6), (7, .int l7)] [] := by
  unfold F12_pour_b158B
  refine v_iload d12_pour_158 7 rfl ?_
  refine v_iload d12_pour_160 5 rfl ?_
  refine v_icmp_ge (tgt := 219) d12_pour_162 (by decide) ?_ ?_
  · refine v_iconst d12_pour_219 ki_1 ?_
    exact v_iret (ty := .boolean) d12_pour_220 rfl rfl rfl
  · refine v_iload d12_pour_165 6 rfl ?_
    refine v_if_eq (tgt := 180) d12_pour_167 (by decide) ?_ ?_
    · refine v_iload d12_pour_180 7 rfl ?_
      exact v12_pour_b182 N k158 hk158 l1 l2 l3 l4 l5 l6 l7 l7 σ
    · refine v_iload d12_pour_170 5 rfl ?_
      refine v_iconst d12_pour_172 ki_1 ?_
      refine v_isub d12_pour_173 ?_
      refine v_iload d12_pour_174 7 rfl ?_
      refine v_isub d12_pour_176 ?_
      refine v_goto (tgt := 182) d12_pour_177 (by decide) ?_
      exact v12_pour_b182 N k158 hk158 l1 l2 l3 l4 l5 l6 l7 ((l5 - (1 : Int32)) - l7) σ
theorem v12_pour_b158 (N : Nat) (l1 : Int32) (l2 : Int32) (l3 : Int32) (l4 : Int32) (l5 : Int32) (l6 : Int32) (l7 : Int32) (σ : Ms) : VF (K12_pour) cX12_pour RX12 (F12_pour_b158 N l1 l2 l3 l4 l5 l6 l7 σ) σ 158 [(0, .ref 0), (1, .int l1), (2, .int l2), (3, .int l3), (4, .int l4), (5, .int l5), (6, .int l6), (7, .int l7)] [] := v_fx (σo := fun x => x.2.2.2.2.2.2.2) (lo := fun x => [(0, .ref 0), (1, .int x.1), (2, .int x.2.1), (3, .int x.2.2.1), (4, .int x.2.2.2.1), (5, .int x.2.2.2.2.1), (6, .int x.2.2.2.2.2.1), (7, .int x.2.2.2.2.2.2.1)]) (fun k hk x => v12_pour_b158B N k (fun l1 l2 l3 l4 l5 l6 l7 τ => hk (l1, l2, l3, l4, l5, l6, l7, τ)) x.1 x.2.1 x.2.2.1 x.2.2.2.1 x.2.2.2.2.1 x.2.2.2.2.2.1 x.2.2.2.2.2.2.1 x.2.2.2.2.2.2.2) N (l1, l2, l3, l4, l5, l6, l7, σ)
set_option maxRecDepth 100000 in
theorem v12_pour_b153 (N : Nat) (l1 : Int32) (l2 : Int32) (l3 : Int32) (l4 : Int32) (l5 : Int32) (s0 : Int32) (σ : Ms) : VF (K12_pour) cX12_pour RX12 (F12_pour_b153 N l1 l2 l3 l4 l5 s0 σ) σ 153 [(0, .ref 0), (1, .int l1), (2, .int l2), (3, .int l3), (4, .int l4), (5, .int l5)] [.int s0] := by
  unfold F12_pour_b153
  refine v_istore (lv' := [(6, .int s0), (0, .ref 0), (1, .int l1), (2, .int l2), (3, .int l3), (4, .int l4), (5, .int l5)]) d12_pour_153 (by decide) rfl ?_
  refine v_iconst d12_pour_155 ki_0 ?_
  refine v_istore (lv' := [(7, .int (0 : Int32)), (6, .int s0), (0, .ref 0), (1, .int l1), (2, .int l2), (3, .int l3), (4, .int l4), (5, .int l5)]) d12_pour_156 (by decide) rfl ?_
  refine v_sub [2, 3, 4, 5, 6, 7, 1, 0] rfl ?_
  exact v12_pour_b158 N l1 l2 l3 l4 l5 s0 (0 : Int32) σ
set_option maxRecDepth 100000 in
theorem mc12_pour (N : Nat) (p0 : Int32) (p1 : Int32) (p2 : Int32) (p3 : Int32) (p4 : Int32) (σ : Ms) : MC enI yX12_pour cX12_pour 9 (some .boolean) 2 (F12_pour N p0 p1 p2 p3 p4 σ) σ [.ref 0, .int p0, .int p1, .int p2, .int p3, .int p4] := by
  refine MC.i (by decide +kernel) (Nat.le_of_ble_eq_true rfl) ?_
  show VF (K12_pour) cX12_pour RX12 (F12_pour N p0 p1 p2 p3 p4 σ) σ 0 [(0, .ref 0), (1, .int p0), (2, .int p1), (3, .int p2), (4, .int p3), (5, .int p4)] []
  unfold F12_pour
  refine v_aload_n d12_pour_0 0 rfl rfl ?_
  refine v_iconst d12_pour_1 ki_0 ?_
  refine v_putI d12_pour_2 faX12_53 fp9_1 ic_0 ?_
  refine v_lts fun t8 => ?_
  refine v_aload_n d12_pour_5 0 rfl rfl ?_
  refine v_iconst d12_pour_6 ki_0 ?_
  refine v_putI d12_pour_7 faX12_56 fp9_0 ic_0 ?_
  refine v_lts fun t9 => ?_
  refine v_iload_n d12_pour_10 1 rfl rfl ?_
  refine v_if_lt (tgt := 28) d12_pour_11 (by decide) ?_ ?_
  · refine v_sub [0] rfl ?_
    exact v12_pour_b28 N t9
  · refine v_iload_n d12_pour_14 1 rfl rfl ?_
    refine v_iconst d12_pour_15 ki_4 ?_
    refine v_icmp_ge (tgt := 28) d12_pour_16 (by decide) ?_ ?_
    · refine v_sub [0] rfl ?_
      exact v12_pour_b28 N t9
    · refine v_iload_n d12_pour_19 3 rfl rfl ?_
      refine v_if_lt (tgt := 28) d12_pour_20 (by decide) ?_ ?_
      · refine v_sub [0] rfl ?_
        exact v12_pour_b28 N t9
      · refine v_iload_n d12_pour_23 3 rfl rfl ?_
        refine v_iconst d12_pour_24 ki_4 ?_
        refine v_icmp_lt (tgt := 34) d12_pour_25 (by decide) ?_ ?_
        · refine v_aload_n d12_pour_34 0 rfl rfl ?_
          refine v_getR d12_pour_35 faX12_17 ic_0 rfl ?_
          refine v_iload_n d12_pour_38 1 rfl rfl ?_
          refine v_iald d12_pour_39 ic_2 ?_
          refine v_if_lt (tgt := 52) d12_pour_40 (by decide) ?_ ?_
          · refine v_sub [0] rfl ?_
            exact v12_pour_b52 N t9
          · refine v_aload_n d12_pour_43 0 rfl rfl ?_
            refine v_getR d12_pour_44 faX12_17 ic_0 rfl ?_
            refine v_iload_n d12_pour_47 3 rfl rfl ?_
            refine v_iald d12_pour_48 ic_2 ?_
            refine v_if_ge (tgt := 58) d12_pour_49 (by decide) ?_ ?_
            · refine v_aload_n d12_pour_58 0 rfl rfl ?_
              refine v_getR d12_pour_59 faX12_13 ic_0 rfl ?_
              refine v_iload_n d12_pour_62 1 rfl rfl ?_
              refine v_iald d12_pour_63 ic_1 ?_
              refine v_aload_n d12_pour_64 0 rfl rfl ?_
              refine v_getR d12_pour_65 faX12_13 ic_0 rfl ?_
              refine v_iload_n d12_pour_68 3 rfl rfl ?_
              refine v_iald d12_pour_69 ic_1 ?_
              refine v_icmp_eq (tgt := 80) d12_pour_70 (by decide) ?_ ?_
              · refine v_iload d12_pour_80 5 rfl ?_
                refine v_if_ge (tgt := 92) d12_pour_82 (by decide) ?_ ?_
                · refine v_iload_n d12_pour_92 2 rfl rfl ?_
                  refine v_if_lt (tgt := 136) d12_pour_93 (by decide) ?_ ?_
                  · refine v_sub [0] rfl ?_
                    exact v12_pour_b136 N t9
                  · refine v_iload d12_pour_96 4 rfl ?_
                    refine v_if_lt (tgt := 136) d12_pour_98 (by decide) ?_ ?_
                    · refine v_sub [0] rfl ?_
                      exact v12_pour_b136 N t9
                    · refine v_iload_n d12_pour_101 2 rfl rfl ?_
                      refine v_i2l d12_pour_102 ?_
                      refine v_iload d12_pour_103 5 rfl ?_
                      refine v_i2l d12_pour_105 ?_
                      refine v_ladd d12_pour_106 ?_
                      refine v_aload_n d12_pour_107 0 rfl rfl ?_
                      refine v_getR d12_pour_108 faX12_17 ic_0 rfl ?_
                      refine v_iload_n d12_pour_111 1 rfl rfl ?_
                      refine v_iald d12_pour_112 ic_2 ?_
                      refine v_i2l d12_pour_113 ?_
                      refine v_lcmp d12_pour_114 ?_
                      refine v_if_gt (tgt := 136) d12_pour_115 (by decide) ?_ ?_
                      · refine v_sub [0] rfl ?_
                        exact v12_pour_b136 N t9
                      · refine v_iload d12_pour_118 4 rfl ?_
                        refine v_i2l d12_pour_120 ?_
                        refine v_iload d12_pour_121 5 rfl ?_
                        refine v_i2l d12_pour_123 ?_
                        refine v_ladd d12_pour_124 ?_
                        refine v_aload_n d12_pour_125 0 rfl rfl ?_
                        refine v_getR d12_pour_126 faX12_17 ic_0 rfl ?_
                        refine v_iload_n d12_pour_129 3 rfl rfl ?_
                        refine v_iald d12_pour_130 ic_2 ?_
                        refine v_i2l d12_pour_131 ?_
                        refine v_lcmp d12_pour_132 ?_
                        refine v_if_le (tgt := 142) d12_pour_133 (by decide) ?_ ?_
                        · refine v_iload_n d12_pour_142 2 rfl rfl ?_
                          refine v_iload d12_pour_143 4 rfl ?_
                          refine v_icmp_ge (tgt := 152) d12_pour_145 (by decide) ?_ ?_
                          · refine v_iconst d12_pour_152 ki_0 ?_
                            exact v12_pour_b153 N p0 p1 p2 p3 p4 (0 : Int32) t9
                          · refine v_iconst d12_pour_148 ki_1 ?_
                            refine v_goto (tgt := 153) d12_pour_149 (by decide) ?_
                            exact v12_pour_b153 N p0 p1 p2 p3 p4 (1 : Int32) t9
                        · refine v_sub [0] rfl ?_
                          exact v12_pour_b136 N t9
                · refine v_aload_n d12_pour_85 0 rfl rfl ?_
                  refine v_bipush d12_pour_86 kb_6 ?_
                  refine v_callV1i d12_pour_88 (mc12_no (6 : Int32) t9) yv12_no mlX12_68 (Recv.obj ic_0 rfl) (by decide) (Nat.le_of_ble_eq_true rfl) fun r10 t11 => ?_
                  exact v_iretB d12_pour_91 rfl rfl
              · refine v_aload_n d12_pour_73 0 rfl rfl ?_
                refine v_bipush d12_pour_74 kb_11 ?_
                refine v_callV1i d12_pour_76 (mc12_no (11 : Int32) t9) yv12_no mlX12_68 (Recv.obj ic_0 rfl) (by decide) (Nat.le_of_ble_eq_true rfl) fun r12 t13 => ?_
                exact v_iretB d12_pour_79 rfl rfl
            · refine v_sub [0] rfl ?_
              exact v12_pour_b52 N t9
        · refine v_sub [0] rfl ?_
          exact v12_pour_b28 N t9
theorem d12_numberOf_0 : decode cX12_numberOf 0 = .ok (.aload_n 0, 1) := by decide +kernel
theorem d12_numberOf_1 : decode cX12_numberOf 1 = .ok (.getfield 20, 3) := by decide +kernel
theorem d12_numberOf_4 : decode cX12_numberOf 4 = .ok (.bipush 60, 2) := by decide +kernel
theorem d12_numberOf_6 : decode cX12_numberOf 6 = .ok (.iload_n 1, 1) := by decide +kernel
theorem d12_numberOf_7 : decode cX12_numberOf 7 = .ok (.imul, 1) := by decide +kernel
theorem d12_numberOf_8 : decode cX12_numberOf 8 = .ok (.iload_n 2, 1) := by decide +kernel
theorem d12_numberOf_9 : decode cX12_numberOf 9 = .ok (.iadd, 1) := by decide +kernel
theorem d12_numberOf_10 : decode cX12_numberOf 10 = .ok (.laload, 1) := by decide +kernel
theorem d12_numberOf_11 : decode cX12_numberOf 11 = .ok (.lreturn, 1) := by decide +kernel
abbrev K12_numberOf : CK Int64 := (enL, (some .long), 3, 1, none)
noncomputable def F12_numberOf (p0 : Int32) (p1 : Int32) (σ : Ms) : Option (Int64 × Ms) :=
  ck (ixb (((60 : Int32) * p0) + p1) 240) (some ((σ.2 3 (((60 : Int32) * p0) + p1).toNatClampNeg), σ))
set_option maxRecDepth 100000 in
theorem mc12_numberOf (p0 : Int32) (p1 : Int32) (σ : Ms) : MC enL yX12_numberOf cX12_numberOf 3 (some .long) 1 (F12_numberOf p0 p1 σ) σ [.ref 0, .int p0, .int p1] := by
  refine MC.l (by decide +kernel) (Nat.le_of_ble_eq_true rfl) ?_
  show VF (K12_numberOf) cX12_numberOf RX12 (F12_numberOf p0 p1 σ) σ 0 [(0, .ref 0), (1, .int p0), (2, .int p1)] []
  unfold F12_numberOf
  refine v_aload_n d12_numberOf_0 0 rfl rfl ?_
  refine v_getR d12_numberOf_1 faX12_20 ic_0 rfl ?_
  refine v_bipush d12_numberOf_4 kb_60 ?_
  refine v_iload_n d12_numberOf_6 1 rfl rfl ?_
  refine v_imul d12_numberOf_7 ?_
  refine v_iload_n d12_numberOf_8 2 rfl rfl ?_
  refine v_iadd d12_numberOf_9 ?_
  refine v_lald d12_numberOf_10 ic_3 ?_
  exact v_lret d12_numberOf_11 rfl rfl
theorem d12_isTray_0 : decode cX12_isTray 0 = .ok (.iload_n 1, 1) := by decide +kernel
theorem d12_isTray_1 : decode cX12_isTray 1 = .ok (.i2l, 1) := by decide +kernel
theorem d12_isTray_2 : decode cX12_isTray 2 = .ok (.lconst 0, 1) := by decide +kernel
theorem d12_isTray_3 : decode cX12_isTray 3 = .ok (.ldc2_w 86, 3) := by decide +kernel
theorem d12_isTray_6 : decode cX12_isTray 6 = .ok (.invokestatic 88, 3) := by decide +kernel
theorem d12_isTray_9 : decode cX12_isTray 9 = .ok (.ireturn, 1) := by decide +kernel
abbrev K12_isTray : CK Int32 := (enI, (some .boolean), 2, 2, none)
noncomputable def F12_isTray (p0 : Int32) (σ : Ms) : Option (Int32 × Ms) :=
  bn (F12_isIn (p0.toInt64) (0 : Int64) (3 : Int64) σ) (fun r1 t2 => ck (nkB r1) (some (r1, t2)))
set_option maxRecDepth 100000 in
theorem mc12_isTray (p0 : Int32) (σ : Ms) : MC enI yX12_isTray cX12_isTray 2 (some .boolean) 2 (F12_isTray p0 σ) σ [.ref 0, .int p0] := by
  refine MC.i (by decide +kernel) (Nat.le_of_ble_eq_true rfl) ?_
  show VF (K12_isTray) cX12_isTray RX12 (F12_isTray p0 σ) σ 0 [(0, .ref 0), (1, .int p0)] []
  unfold F12_isTray
  refine v_iload_n d12_isTray_0 1 rfl rfl ?_
  refine v_i2l d12_isTray_1 ?_
  refine v_lconst d12_isTray_2 kl_0 ?_
  refine v_ldc2 d12_isTray_3 klX12_86 ?_
  refine v_callS3i d12_isTray_6 (mc12_isIn (p0.toInt64) (0 : Int64) (3 : Int64) σ) ys12_isIn mlX12_88 (by decide) (Nat.le_of_ble_eq_true rfl) fun r1 t2 => ?_
  exact v_iretB d12_isTray_9 rfl rfl
theorem d12_has_0 : decode cX12_has 0 = .ok (.iload_n 0, 1) := by decide +kernel
theorem d12_has_1 : decode cX12_has 1 = .ok (.iload_n 1, 1) := by decide +kernel
theorem d12_has_2 : decode cX12_has 2 = .ok (.ishr, 1) := by decide +kernel
theorem d12_has_3 : decode cX12_has 3 = .ok (.iconst 1, 1) := by decide +kernel
theorem d12_has_4 : decode cX12_has 4 = .ok (.iand, 1) := by decide +kernel
theorem d12_has_5 : decode cX12_has 5 = .ok (.iconst 1, 1) := by decide +kernel
theorem d12_has_6 : decode cX12_has 6 = .ok (.if_icmp .ne 7, 3) := by decide +kernel
theorem d12_has_9 : decode cX12_has 9 = .ok (.iconst 1, 1) := by decide +kernel
theorem d12_has_10 : decode cX12_has 10 = .ok (.goto 4, 3) := by decide +kernel
theorem d12_has_13 : decode cX12_has 13 = .ok (.iconst 0, 1) := by decide +kernel
theorem d12_has_14 : decode cX12_has 14 = .ok (.ireturn, 1) := by decide +kernel
abbrev K12_has : CK Int32 := (enI, (some .boolean), 2, 1, none)
noncomputable def F12_has (p0 : Int32) (p1 : Int32) (σ : Ms) : Option (Int32 × Ms) :=
  if ((p0 >>> (p1 &&& 31)) &&& (1 : Int32)) ≠ (1 : Int32) then (some ((0 : Int32), σ))
  else (some ((1 : Int32), σ))
set_option maxRecDepth 100000 in
theorem mc12_has (p0 : Int32) (p1 : Int32) (σ : Ms) : MC enI yX12_has cX12_has 2 (some .boolean) 1 (F12_has p0 p1 σ) σ [.int p0, .int p1] := by
  refine MC.i (by decide +kernel) (Nat.le_of_ble_eq_true rfl) ?_
  show VF (K12_has) cX12_has RX12 (F12_has p0 p1 σ) σ 0 [(0, .int p0), (1, .int p1)] []
  unfold F12_has
  refine v_iload_n d12_has_0 0 rfl rfl ?_
  refine v_iload_n d12_has_1 1 rfl rfl ?_
  refine v_ishr d12_has_2 ?_
  refine v_iconst d12_has_3 ki_1 ?_
  refine v_iand d12_has_4 ?_
  refine v_iconst d12_has_5 ki_1 ?_
  refine v_icmp_ne (tgt := 13) d12_has_6 (by decide) ?_ ?_
  · refine v_iconst d12_has_13 ki_0 ?_
    exact v_iret (ty := .boolean) d12_has_14 rfl rfl rfl
  · refine v_iconst d12_has_9 ki_1 ?_
    refine v_goto (tgt := 14) d12_has_10 (by decide) ?_
    exact v_iret (ty := .boolean) d12_has_14 rfl rfl rfl
