theorem d11_live_0 : decode cX11_live 0 = .ok (.iload_n 1, 1) := by decide +kernel
theorem d11_live_1 : decode cX11_live 1 = .ok (.ifCond .lt 10, 3) := by decide +kernel
theorem d11_live_4 : decode cX11_live 4 = .ok (.iload_n 1, 1) := by decide +kernel
theorem d11_live_5 : decode cX11_live 5 = .ok (.sipush 9999, 3) := by decide +kernel
theorem d11_live_8 : decode cX11_live 8 = .ok (.if_icmp .le 9, 3) := by decide +kernel
theorem d11_live_11 : decode cX11_live 11 = .ok (.aload_n 0, 1) := by decide +kernel
theorem d11_live_12 : decode cX11_live 12 = .ok (.iconst 5, 1) := by decide +kernel
theorem d11_live_13 : decode cX11_live 13 = .ok (.invokevirtual 132, 3) := by decide +kernel
theorem d11_live_16 : decode cX11_live 16 = .ok (.ireturn, 1) := by decide +kernel
theorem d11_live_17 : decode cX11_live 17 = .ok (.aload_n 0, 1) := by decide +kernel
theorem d11_live_18 : decode cX11_live 18 = .ok (.getfield 36, 3) := by decide +kernel
theorem d11_live_21 : decode cX11_live 21 = .ok (.getfield 419, 3) := by decide +kernel
theorem d11_live_24 : decode cX11_live 24 = .ok (.ifCond .ne 10, 3) := by decide +kernel
theorem d11_live_27 : decode cX11_live 27 = .ok (.aload_n 0, 1) := by decide +kernel
theorem d11_live_28 : decode cX11_live 28 = .ok (.bipush 8, 2) := by decide +kernel
theorem d11_live_30 : decode cX11_live 30 = .ok (.invokevirtual 132, 3) := by decide +kernel
theorem d11_live_33 : decode cX11_live 33 = .ok (.ireturn, 1) := by decide +kernel
theorem d11_live_34 : decode cX11_live 34 = .ok (.aload_n 0, 1) := by decide +kernel
theorem d11_live_35 : decode cX11_live 35 = .ok (.getfield 75, 3) := by decide +kernel
theorem d11_live_38 : decode cX11_live 38 = .ok (.aload_n 0, 1) := by decide +kernel
theorem d11_live_39 : decode cX11_live 39 = .ok (.getfield 26, 3) := by decide +kernel
theorem d11_live_42 : decode cX11_live 42 = .ok (.aload_n 0, 1) := by decide +kernel
theorem d11_live_43 : decode cX11_live 43 = .ok (.getfield 36, 3) := by decide +kernel
theorem d11_live_46 : decode cX11_live 46 = .ok (.iload_n 1, 1) := by decide +kernel
theorem d11_live_47 : decode cX11_live 47 = .ok (.invokevirtual 422, 3) := by decide +kernel
theorem d11_live_50 : decode cX11_live 50 = .ok (.aload_n 0, 1) := by decide +kernel
theorem d11_live_51 : decode cX11_live 51 = .ok (.iconst 1, 1) := by decide +kernel
theorem d11_live_52 : decode cX11_live 52 = .ok (.putfield 82, 3) := by decide +kernel
theorem d11_live_55 : decode cX11_live 55 = .ok (.aload_n 0, 1) := by decide +kernel
theorem d11_live_56 : decode cX11_live 56 = .ok (.aload_n 0, 1) := by decide +kernel
theorem d11_live_57 : decode cX11_live 57 = .ok (.getfield 75, 3) := by decide +kernel
theorem d11_live_60 : decode cX11_live 60 = .ok (.getfield 426, 3) := by decide +kernel
theorem d11_live_63 : decode cX11_live 63 = .ok (.invokevirtual 186, 3) := by decide +kernel
theorem d11_live_66 : decode cX11_live 66 = .ok (.ireturn, 1) := by decide +kernel
abbrev K11_live : CK Int32 := (enI, (some .int), 2, 8, none)
noncomputable def F11_live_b11 (N : Nat) (σ : Ms) : Option (Int32 × Ms) :=
  bn (F11_none (5 : Int32) σ) (fun r1 t2 => some (r1, t2))
noncomputable def F11_live (N : Nat) (p0 : Int32) (σ : Ms) : Option (Int32 × Ms) :=
  if p0 < 0 then (F11_live_b11 N σ)
  else (if p0 ≤ (9999 : Int32) then (if (σ.1 62 0) ≠ 0 then (bn (F2_run N 109 22 62 p0 σ) (fun r3 t4 => ck (nkB (1 : Int32)) (lt (sI t4 11 13 (1 : Int32)) (fun t5 => bn (F11_told (t5.1 109 0) t5) (fun r6 t7 => some (r6, t7))))))
  else (bn (F11_none (8 : Int32) σ) (fun r8 t9 => some (r8, t9))))
  else (F11_live_b11 N σ))
set_option maxRecDepth 100000 in
theorem v11_live_b11 (N : Nat) (σ : Ms) : VF (K11_live) cX11_live RX11 (F11_live_b11 N σ) σ 11 [(0, .ref 11)] [] := by
  unfold F11_live_b11
  refine v_aload_n d11_live_11 0 rfl rfl ?_
  refine v_iconst d11_live_12 ki_5 ?_
  refine v_callV1i d11_live_13 (mc11_none (5 : Int32) σ) yv11_none mlX11_132 (Recv.obj ic_11 rfl) (by decide) (Nat.le_of_ble_eq_true rfl) fun r1 t2 => ?_
  exact v_iret d11_live_16 rfl rfl rfl
set_option maxRecDepth 100000 in
theorem mc11_live (N : Nat) (p0 : Int32) (σ : Ms) : MC enI yX11_live cX11_live 2 (some .int) 8 (F11_live N p0 σ) σ [.ref 11, .int p0] := by
  refine MC.i (by decide +kernel) (Nat.le_of_ble_eq_true rfl) ?_
  show VF (K11_live) cX11_live RX11 (F11_live N p0 σ) σ 0 [(0, .ref 11), (1, .int p0)] []
  unfold F11_live
  refine v_iload_n d11_live_0 1 rfl rfl ?_
  refine v_if_lt (tgt := 11) d11_live_1 (by decide) ?_ ?_
  · refine v_sub [0] rfl ?_
    exact v11_live_b11 N σ
  · refine v_iload_n d11_live_4 1 rfl rfl ?_
    refine v_sipush d11_live_5 ks_9999 ?_
    refine v_icmp_le (tgt := 17) d11_live_8 (by decide) ?_ ?_
    · refine v_aload_n d11_live_17 0 rfl rfl ?_
      refine v_getR d11_live_18 faX11_36 ic_11 rfl ?_
      refine v_getI d11_live_21 faX11_419 ic_62 ?_
      refine v_if_ne (tgt := 34) d11_live_24 (by decide) ?_ ?_
      · refine v_aload_n d11_live_34 0 rfl rfl ?_
        refine v_getR d11_live_35 faX11_75 ic_11 rfl ?_
        refine v_aload_n d11_live_38 0 rfl rfl ?_
        refine v_getR d11_live_39 faX11_26 ic_11 rfl ?_
        refine v_aload_n d11_live_42 0 rfl rfl ?_
        refine v_getR d11_live_43 faX11_36 ic_11 rfl ?_
        refine v_iload_n d11_live_46 1 rfl rfl ?_
        refine v_callV3v d11_live_47 (mc2_run N 109 ic_109 22 ic_22 62 ic_62 p0 σ) yv2_run mlX11_422 (Recv.obj ic_109 rfl) (by decide) (Nat.le_of_ble_eq_true rfl) fun r3 t4 => ?_
        refine v_aload_n d11_live_50 0 rfl rfl ?_
        refine v_iconst d11_live_51 ki_1 ?_
        refine v_putB d11_live_52 faX11_82 fp8_13 ic_11 ?_
        refine v_lts fun t5 => ?_
        refine v_aload_n d11_live_55 0 rfl rfl ?_
        refine v_aload_n d11_live_56 0 rfl rfl ?_
        refine v_getR d11_live_57 faX11_75 ic_11 rfl ?_
        refine v_getI d11_live_60 faX11_426 ic_109 ?_
        refine v_callV1i d11_live_63 (mc11_told (t5.1 109 0) t5) yv11_told mlX11_186 (Recv.obj ic_11 rfl) (by decide) (Nat.le_of_ble_eq_true rfl) fun r6 t7 => ?_
        exact v_iret d11_live_66 rfl rfl rfl
      · refine v_aload_n d11_live_27 0 rfl rfl ?_
        refine v_bipush d11_live_28 kb_8 ?_
        refine v_callV1i d11_live_30 (mc11_none (8 : Int32) σ) yv11_none mlX11_132 (Recv.obj ic_11 rfl) (by decide) (Nat.le_of_ble_eq_true rfl) fun r8 t9 => ?_
        exact v_iret d11_live_33 rfl rfl rfl
    · refine v_sub [0] rfl ?_
      exact v11_live_b11 N σ
theorem d11_lived_0 : decode cX11_lived 0 = .ok (.iload_n 1, 1) := by decide +kernel
theorem d11_lived_1 : decode cX11_lived 1 = .ok (.ifCond .lt 8, 3) := by decide +kernel
theorem d11_lived_4 : decode cX11_lived 4 = .ok (.iload_n 1, 1) := by decide +kernel
theorem d11_lived_5 : decode cX11_lived 5 = .ok (.iconst 4, 1) := by decide +kernel
theorem d11_lived_6 : decode cX11_lived 6 = .ok (.if_icmp .le 9, 3) := by decide +kernel
theorem d11_lived_9 : decode cX11_lived 9 = .ok (.aload_n 0, 1) := by decide +kernel
theorem d11_lived_10 : decode cX11_lived 10 = .ok (.iconst 5, 1) := by decide +kernel
theorem d11_lived_11 : decode cX11_lived 11 = .ok (.invokevirtual 132, 3) := by decide +kernel
theorem d11_lived_14 : decode cX11_lived 14 = .ok (.ireturn, 1) := by decide +kernel
theorem d11_lived_15 : decode cX11_lived 15 = .ok (.aload_n 0, 1) := by decide +kernel
theorem d11_lived_16 : decode cX11_lived 16 = .ok (.getfield 82, 3) := by decide +kernel
theorem d11_lived_19 : decode cX11_lived 19 = .ok (.ifCond .ne 10, 3) := by decide +kernel
theorem d11_lived_22 : decode cX11_lived 22 = .ok (.aload_n 0, 1) := by decide +kernel
theorem d11_lived_23 : decode cX11_lived 23 = .ok (.bipush 8, 2) := by decide +kernel
theorem d11_lived_25 : decode cX11_lived 25 = .ok (.invokevirtual 132, 3) := by decide +kernel
theorem d11_lived_28 : decode cX11_lived 28 = .ok (.ireturn, 1) := by decide +kernel
theorem d11_lived_29 : decode cX11_lived 29 = .ok (.iload_n 1, 1) := by decide +kernel
theorem d11_lived_30 : decode cX11_lived 30 = .ok (.tableswitch 78 0 3 #[30, 42, 54, 66], 30) := by decide +kernel
theorem d11_lived_60 : decode cX11_lived 60 = .ok (.aload_n 0, 1) := by decide +kernel
theorem d11_lived_61 : decode cX11_lived 61 = .ok (.aload_n 0, 1) := by decide +kernel
theorem d11_lived_62 : decode cX11_lived 62 = .ok (.getfield 75, 3) := by decide +kernel
theorem d11_lived_65 : decode cX11_lived 65 = .ok (.getfield 427, 3) := by decide +kernel
theorem d11_lived_68 : decode cX11_lived 68 = .ok (.invokevirtual 186, 3) := by decide +kernel
theorem d11_lived_71 : decode cX11_lived 71 = .ok (.ireturn, 1) := by decide +kernel
theorem d11_lived_72 : decode cX11_lived 72 = .ok (.aload_n 0, 1) := by decide +kernel
theorem d11_lived_73 : decode cX11_lived 73 = .ok (.aload_n 0, 1) := by decide +kernel
theorem d11_lived_74 : decode cX11_lived 74 = .ok (.getfield 75, 3) := by decide +kernel
theorem d11_lived_77 : decode cX11_lived 77 = .ok (.getfield 430, 3) := by decide +kernel
theorem d11_lived_80 : decode cX11_lived 80 = .ok (.invokevirtual 186, 3) := by decide +kernel
theorem d11_lived_83 : decode cX11_lived 83 = .ok (.ireturn, 1) := by decide +kernel
theorem d11_lived_84 : decode cX11_lived 84 = .ok (.aload_n 0, 1) := by decide +kernel
theorem d11_lived_85 : decode cX11_lived 85 = .ok (.aload_n 0, 1) := by decide +kernel
theorem d11_lived_86 : decode cX11_lived 86 = .ok (.getfield 75, 3) := by decide +kernel
theorem d11_lived_89 : decode cX11_lived 89 = .ok (.getfield 431, 3) := by decide +kernel
theorem d11_lived_92 : decode cX11_lived 92 = .ok (.invokevirtual 186, 3) := by decide +kernel
theorem d11_lived_95 : decode cX11_lived 95 = .ok (.ireturn, 1) := by decide +kernel
theorem d11_lived_96 : decode cX11_lived 96 = .ok (.aload_n 0, 1) := by decide +kernel
theorem d11_lived_97 : decode cX11_lived 97 = .ok (.aload_n 0, 1) := by decide +kernel
theorem d11_lived_98 : decode cX11_lived 98 = .ok (.getfield 75, 3) := by decide +kernel
theorem d11_lived_101 : decode cX11_lived 101 = .ok (.getfield 434, 3) := by decide +kernel
theorem d11_lived_104 : decode cX11_lived 104 = .ok (.invokevirtual 186, 3) := by decide +kernel
theorem d11_lived_107 : decode cX11_lived 107 = .ok (.ireturn, 1) := by decide +kernel
theorem d11_lived_108 : decode cX11_lived 108 = .ok (.aload_n 0, 1) := by decide +kernel
theorem d11_lived_109 : decode cX11_lived 109 = .ok (.aload_n 0, 1) := by decide +kernel
theorem d11_lived_110 : decode cX11_lived 110 = .ok (.getfield 75, 3) := by decide +kernel
theorem d11_lived_113 : decode cX11_lived 113 = .ok (.getfield 437, 3) := by decide +kernel
theorem d11_lived_116 : decode cX11_lived 116 = .ok (.ifCond .eq 7, 3) := by decide +kernel
theorem d11_lived_119 : decode cX11_lived 119 = .ok (.iconst 1, 1) := by decide +kernel
theorem d11_lived_120 : decode cX11_lived 120 = .ok (.goto 4, 3) := by decide +kernel
theorem d11_lived_123 : decode cX11_lived 123 = .ok (.iconst 0, 1) := by decide +kernel
theorem d11_lived_124 : decode cX11_lived 124 = .ok (.invokevirtual 186, 3) := by decide +kernel
theorem d11_lived_127 : decode cX11_lived 127 = .ok (.ireturn, 1) := by decide +kernel
abbrev K11_lived : CK Int32 := (enI, (some .int), 2, 2, none)
noncomputable def F11_lived_b9 (σ : Ms) : Option (Int32 × Ms) :=
  bn (F11_none (5 : Int32) σ) (fun r1 t2 => some (r1, t2))
noncomputable def F11_lived (p0 : Int32) (σ : Ms) : Option (Int32 × Ms) :=
  if p0 < 0 then (F11_lived_b9 σ)
  else (if p0 ≤ (4 : Int32) then (if (σ.1 11 13) ≠ 0 then (if p0 = (0 : Int32) then (bn (F11_told (σ.1 109 1) σ) (fun r3 t4 => some (r3, t4)))
  else (if p0 = (1 : Int32) then (bn (F11_told (σ.1 109 2) σ) (fun r5 t6 => some (r5, t6)))
  else (if p0 = (2 : Int32) then (bn (F11_told (σ.1 109 3) σ) (fun r7 t8 => some (r7, t8)))
  else (if p0 = (3 : Int32) then (bn (F11_told (σ.1 109 4) σ) (fun r9 t10 => some (r9, t10)))
  else (if (σ.1 109 5) = 0 then (bn (F11_told (0 : Int32) σ) (fun r11 t12 => some (r11, t12)))
  else (bn (F11_told (1 : Int32) σ) (fun r13 t14 => some (r13, t14))))))))
  else (bn (F11_none (8 : Int32) σ) (fun r15 t16 => some (r15, t16))))
  else (F11_lived_b9 σ))
set_option maxRecDepth 100000 in
theorem v11_lived_b9 (σ : Ms) : VF (K11_lived) cX11_lived RX11 (F11_lived_b9 σ) σ 9 [(0, .ref 11)] [] := by
  unfold F11_lived_b9
  refine v_aload_n d11_lived_9 0 rfl rfl ?_
  refine v_iconst d11_lived_10 ki_5 ?_
  refine v_callV1i d11_lived_11 (mc11_none (5 : Int32) σ) yv11_none mlX11_132 (Recv.obj ic_11 rfl) (by decide) (Nat.le_of_ble_eq_true rfl) fun r1 t2 => ?_
  exact v_iret d11_lived_14 rfl rfl rfl
set_option maxRecDepth 100000 in
theorem mc11_lived (p0 : Int32) (σ : Ms) : MC enI yX11_lived cX11_lived 2 (some .int) 2 (F11_lived p0 σ) σ [.ref 11, .int p0] := by
  refine MC.i (by decide +kernel) (Nat.le_of_ble_eq_true rfl) ?_
  show VF (K11_lived) cX11_lived RX11 (F11_lived p0 σ) σ 0 [(0, .ref 11), (1, .int p0)] []
  unfold F11_lived
  refine v_iload_n d11_lived_0 1 rfl rfl ?_
  refine v_if_lt (tgt := 9) d11_lived_1 (by decide) ?_ ?_
  · refine v_sub [0] rfl ?_
    exact v11_lived_b9 σ
  · refine v_iload_n d11_lived_4 1 rfl rfl ?_
    refine v_iconst d11_lived_5 ki_4 ?_
    refine v_icmp_le (tgt := 15) d11_lived_6 (by decide) ?_ ?_
    · refine v_aload_n d11_lived_15 0 rfl rfl ?_
      refine v_getI d11_lived_16 faX11_82 ic_11 ?_
      refine v_if_ne (tgt := 29) d11_lived_19 (by decide) ?_ ?_
      · refine v_iload_n d11_lived_29 1 rfl rfl ?_
        refine v_ite _ (fun ht0 => ?_) (fun ht0 => ?_)
        · refine v_tabIn (tgt := 60) d11_lived_30 (0 : Int32) ht0 (by decide) (by decide) rfl (by decide) ?_
          refine v_aload_n d11_lived_60 0 rfl rfl ?_
          refine v_aload_n d11_lived_61 0 rfl rfl ?_
          refine v_getR d11_lived_62 faX11_75 ic_11 rfl ?_
          refine v_getI d11_lived_65 faX11_427 ic_109 ?_
          refine v_callV1i d11_lived_68 (mc11_told (σ.1 109 1) σ) yv11_told mlX11_186 (Recv.obj ic_11 rfl) (by decide) (Nat.le_of_ble_eq_true rfl) fun r3 t4 => ?_
          exact v_iret d11_lived_71 rfl rfl rfl
        refine v_ite _ (fun ht1 => ?_) (fun ht1 => ?_)
        · refine v_tabIn (tgt := 72) d11_lived_30 (1 : Int32) ht1 (by decide) (by decide) rfl (by decide) ?_
          refine v_aload_n d11_lived_72 0 rfl rfl ?_
          refine v_aload_n d11_lived_73 0 rfl rfl ?_
          refine v_getR d11_lived_74 faX11_75 ic_11 rfl ?_
          refine v_getI d11_lived_77 faX11_430 ic_109 ?_
          refine v_callV1i d11_lived_80 (mc11_told (σ.1 109 2) σ) yv11_told mlX11_186 (Recv.obj ic_11 rfl) (by decide) (Nat.le_of_ble_eq_true rfl) fun r5 t6 => ?_
          exact v_iret d11_lived_83 rfl rfl rfl
        refine v_ite _ (fun ht2 => ?_) (fun ht2 => ?_)
        · refine v_tabIn (tgt := 84) d11_lived_30 (2 : Int32) ht2 (by decide) (by decide) rfl (by decide) ?_
          refine v_aload_n d11_lived_84 0 rfl rfl ?_
          refine v_aload_n d11_lived_85 0 rfl rfl ?_
          refine v_getR d11_lived_86 faX11_75 ic_11 rfl ?_
          refine v_getI d11_lived_89 faX11_431 ic_109 ?_
          refine v_callV1i d11_lived_92 (mc11_told (σ.1 109 3) σ) yv11_told mlX11_186 (Recv.obj ic_11 rfl) (by decide) (Nat.le_of_ble_eq_true rfl) fun r7 t8 => ?_
          exact v_iret d11_lived_95 rfl rfl rfl
        refine v_ite _ (fun ht3 => ?_) (fun ht3 => ?_)
        · refine v_tabIn (tgt := 96) d11_lived_30 (3 : Int32) ht3 (by decide) (by decide) rfl (by decide) ?_
          refine v_aload_n d11_lived_96 0 rfl rfl ?_
          refine v_aload_n d11_lived_97 0 rfl rfl ?_
          refine v_getR d11_lived_98 faX11_75 ic_11 rfl ?_
          refine v_getI d11_lived_101 faX11_434 ic_109 ?_
          refine v_callV1i d11_lived_104 (mc11_told (σ.1 109 4) σ) yv11_told mlX11_186 (Recv.obj ic_11 rfl) (by decide) (Nat.le_of_ble_eq_true rfl) fun r9 t10 => ?_
          exact v_iret d11_lived_107 rfl rfl rfl
        refine v_tabOut (tgt := 108) d11_lived_30 (by decide) (tab_out 3 (by decide) (by decide) (fun j hj => (match j, hj with | 0, _ => ht0 | 1, _ => ht1 | 2, _ => ht2 | 3, _ => ht3 | n + 4, h => absurd h (by omega)))) ?_
        refine v_aload_n d11_lived_108 0 rfl rfl ?_
        refine v_aload_n d11_lived_109 0 rfl rfl ?_
        refine v_getR d11_lived_110 faX11_75 ic_11 rfl ?_
        refine v_getI d11_lived_113 faX11_437 ic_109 ?_
        refine v_if_eq (tgt := 123) d11_lived_116 (by decide) ?_ ?_
        · refine v_iconst d11_lived_123 ki_0 ?_
          refine v_callV1i d11_lived_124 (mc11_told (0 : Int32) σ) yv11_told mlX11_186 (Recv.obj ic_11 rfl) (by decide) (Nat.le_of_ble_eq_true rfl) fun r11 t12 => ?_
          exact v_iret d11_lived_127 rfl rfl rfl
        · refine v_iconst d11_lived_119 ki_1 ?_
          refine v_goto (tgt := 124) d11_lived_120 (by decide) ?_
          refine v_callV1i d11_lived_124 (mc11_told (1 : Int32) σ) yv11_told mlX11_186 (Recv.obj ic_11 rfl) (by decide) (Nat.le_of_ble_eq_true rfl) fun r13 t14 => ?_
          exact v_iret d11_lived_127 rfl rfl rfl
      · refine v_aload_n d11_lived_22 0 rfl rfl ?_
        refine v_bipush d11_lived_23 kb_8 ?_
        refine v_callV1i d11_lived_25 (mc11_none (8 : Int32) σ) yv11_none mlX11_132 (Recv.obj ic_11 rfl) (by decide) (Nat.le_of_ble_eq_true rfl) fun r15 t16 => ?_
        exact v_iret d11_lived_28 rfl rfl rfl
    · refine v_sub [0] rfl ?_
      exact v11_lived_b9 σ
theorem d11_mean_0 : decode cX11_mean 0 = .ok (.iload_n 1, 1) := by decide +kernel
theorem d11_mean_1 : decode cX11_mean 1 = .ok (.ifCond .lt 23, 3) := by decide +kernel
theorem d11_mean_4 : decode cX11_mean 4 = .ok (.iload_n 2, 1) := by decide +kernel
theorem d11_mean_5 : decode cX11_mean 5 = .ok (.iconst 1, 1) := by decide +kernel
theorem d11_mean_6 : decode cX11_mean 6 = .ok (.if_icmp .lt 18, 3) := by decide +kernel
theorem d11_mean_9 : decode cX11_mean 9 = .ok (.iload_n 2, 1) := by decide +kernel
theorem d11_mean_10 : decode cX11_mean 10 = .ok (.bipush 20, 2) := by decide +kernel
theorem d11_mean_12 : decode cX11_mean 12 = .ok (.if_icmp .gt 12, 3) := by decide +kernel
theorem d11_mean_15 : decode cX11_mean 15 = .ok (.iload_n 1, 1) := by decide +kernel
theorem d11_mean_16 : decode cX11_mean 16 = .ok (.sipush 10000, 3) := by decide +kernel
theorem d11_mean_19 : decode cX11_mean 19 = .ok (.iload_n 2, 1) := by decide +kernel
theorem d11_mean_20 : decode cX11_mean 20 = .ok (.isub, 1) := by decide +kernel
theorem d11_mean_21 : decode cX11_mean 21 = .ok (.if_icmp .le 9, 3) := by decide +kernel
theorem d11_mean_24 : decode cX11_mean 24 = .ok (.aload_n 0, 1) := by decide +kernel
theorem d11_mean_25 : decode cX11_mean 25 = .ok (.iconst 5, 1) := by decide +kernel
theorem d11_mean_26 : decode cX11_mean 26 = .ok (.invokevirtual 113, 3) := by decide +kernel
theorem d11_mean_29 : decode cX11_mean 29 = .ok (.ireturn, 1) := by decide +kernel
theorem d11_mean_30 : decode cX11_mean 30 = .ok (.aload_n 0, 1) := by decide +kernel
theorem d11_mean_31 : decode cX11_mean 31 = .ok (.getfield 36, 3) := by decide +kernel
theorem d11_mean_34 : decode cX11_mean 34 = .ok (.getfield 419, 3) := by decide +kernel
theorem d11_mean_37 : decode cX11_mean 37 = .ok (.ifCond .ne 10, 3) := by decide +kernel
theorem d11_mean_40 : decode cX11_mean 40 = .ok (.aload_n 0, 1) := by decide +kernel
theorem d11_mean_41 : decode cX11_mean 41 = .ok (.bipush 8, 2) := by decide +kernel
theorem d11_mean_43 : decode cX11_mean 43 = .ok (.invokevirtual 113, 3) := by decide +kernel
theorem d11_mean_46 : decode cX11_mean 46 = .ok (.ireturn, 1) := by decide +kernel
theorem d11_mean_47 : decode cX11_mean 47 = .ok (.lconst 0, 1) := by decide +kernel
theorem d11_mean_48 : decode cX11_mean 48 = .ok (.lstore_n 3, 1) := by decide +kernel
theorem d11_mean_49 : decode cX11_mean 49 = .ok (.iconst 0, 1) := by decide +kernel
theorem d11_mean_50 : decode cX11_mean 50 = .ok (.istore 5, 2) := by decide +kernel
theorem d11_mean_52 : decode cX11_mean 52 = .ok (.iload 5, 2) := by decide +kernel
theorem d11_mean_54 : decode cX11_mean 54 = .ok (.iload_n 2, 1) := by decide +kernel
theorem d11_mean_55 : decode cX11_mean 55 = .ok (.if_icmp .ge 56, 3) := by decide +kernel
theorem d11_mean_58 : decode cX11_mean 58 = .ok (.aload_n 0, 1) := by decide +kernel
theorem d11_mean_59 : decode cX11_mean 59 = .ok (.getfield 26, 3) := by decide +kernel
theorem d11_mean_62 : decode cX11_mean 62 = .ok (.aload_n 0, 1) := by decide +kernel
theorem d11_mean_63 : decode cX11_mean 63 = .ok (.getfield 30, 3) := by decide +kernel
theorem d11_mean_66 : decode cX11_mean 66 = .ok (.invokestatic 176, 3) := by decide +kernel
theorem d11_mean_69 : decode cX11_mean 69 = .ok (.aload_n 0, 1) := by decide +kernel
theorem d11_mean_70 : decode cX11_mean 70 = .ok (.getfield 79, 3) := by decide +kernel
theorem d11_mean_73 : decode cX11_mean 73 = .ok (.aload_n 0, 1) := by decide +kernel
theorem d11_mean_74 : decode cX11_mean 74 = .ok (.getfield 30, 3) := by decide +kernel
theorem d11_mean_77 : decode cX11_mean 77 = .ok (.aload_n 0, 1) := by decide +kernel
theorem d11_mean_78 : decode cX11_mean 78 = .ok (.getfield 36, 3) := by decide +kernel
theorem d11_mean_81 : decode cX11_mean 81 = .ok (.iload_n 1, 1) := by decide +kernel
theorem d11_mean_82 : decode cX11_mean 82 = .ok (.iload 5, 2) := by decide +kernel
theorem d11_mean_84 : decode cX11_mean 84 = .ok (.iadd, 1) := by decide +kernel
theorem d11_mean_85 : decode cX11_mean 85 = .ok (.invokevirtual 422, 3) := by decide +kernel
theorem d11_mean_88 : decode cX11_mean 88 = .ok (.lload_n 3, 1) := by decide +kernel
theorem d11_mean_89 : decode cX11_mean 89 = .ok (.aload_n 0, 1) := by decide +kernel
theorem d11_mean_90 : decode cX11_mean 90 = .ok (.getfield 30, 3) := by decide +kernel
theorem d11_mean_93 : decode cX11_mean 93 = .ok (.aload_n 0, 1) := by decide +kernel
theorem d11_mean_94 : decode cX11_mean 94 = .ok (.getfield 30, 3) := by decide +kernel
theorem d11_mean_97 : decode cX11_mean 97 = .ok (.getfield 206, 3) := by decide +kernel
theorem d11_mean_100 : decode cX11_mean 100 = .ok (.invokevirtual 306, 3) := by decide +kernel
theorem d11_mean_103 : decode cX11_mean 103 = .ok (.ladd, 1) := by decide +kernel
theorem d11_mean_104 : decode cX11_mean 104 = .ok (.lstore_n 3, 1) := by decide +kernel
theorem d11_mean_105 : decode cX11_mean 105 = .ok (.iinc 5 1, 3) := by decide +kernel
theorem d11_mean_108 : decode cX11_mean 108 = .ok (.goto (-56), 3) := by decide +kernel
theorem d11_mean_111 : decode cX11_mean 111 = .ok (.aload_n 0, 1) := by decide +kernel
theorem d11_mean_112 : decode cX11_mean 112 = .ok (.lload_n 3, 1) := by decide +kernel
theorem d11_mean_113 : decode cX11_mean 113 = .ok (.iload_n 2, 1) := by decide +kernel
theorem d11_mean_114 : decode cX11_mean 114 = .ok (.i2l, 1) := by decide +kernel
theorem d11_mean_115 : decode cX11_mean 115 = .ok (.ldc2_w 440, 3) := by decide +kernel
theorem d11_mean_118 : decode cX11_mean 118 = .ok (.lmul, 1) := by decide +kernel
theorem d11_mean_119 : decode cX11_mean 119 = .ok (.invokevirtual 361, 3) := by decide +kernel
theorem d11_mean_122 : decode cX11_mean 122 = .ok (.ireturn, 1) := by decide +kernel
abbrev K11_mean : CK Int32 := (enI, (some .boolean), 6, 8, none)
noncomputable def F11_mean_b24 (N : Nat) (σ : Ms) : Option (Int32 × Ms) :=
  bn (F11_no (5 : Int32) σ) (fun r1 t2 => ck (nkB r1) (some (r1, t2)))
noncomputable def F11_mean_b52B (N : Nat) (k52 : Int32 × Int32 × Int64 × Int32 × Ms → Option (Int32 × Ms)) (l1 : Int32) (l2 : Int32) (l3 : Int64) (l5 : Int32) (σ : Ms) : Option (Int32 × Ms) :=
  if l2 ≤ l5 then (bn (F11_tellFraction N l3 ((l2.toInt64) * (1073741824 : Int64)) σ) (fun r3 t4 => ck (nkB r3) (some (r3, t4))))
  else (bn (F0_copy N 22 30 σ) (fun r5 t6 => bn (F2_run N 111 30 62 (l1 + l5) t6) (fun r7 t8 => bn (F0_worthWith N 30 (t8.1 30 6) t8) (fun r9 t10 => lt (l3 + r9) (fun x11 => k52 (l1, l2, x11, (l5 + (1 : Int32)), t10))))))
noncomputable def F11_mean_b52 (N : Nat) (l1 : Int32) (l2 : Int32) (l3 : Int64) (l5 : Int32) (σ : Ms) : Option (Int32 × Ms) :=
  fx N (fun k x => F11_mean_b52B N k x.1 x.2.1 x.2.2.1 x.2.2.2.1 x.2.2.2.2) (l1, l2, l3, l5, σ)
noncomputable def F11_mean (N : Nat) (p0 : Int32) (p1 : Int32) (σ : Ms) : Option (Int32 × Ms) :=
  if p0 < 0 then (F11_mean_b24 N σ)
  else (if p1 < (1 : Int32) then (F11_mean_b24 N σ)
  else (if (20 : Int32) < p1 then (F11_mean_b24 N σ)
  else (if p0 ≤ ((10000 : Int32) - p1) then (if (σ.1 62 0) ≠ 0 then (F11_mean_b52 N p0 p1 (0 : Int64) (0 : Int32) σ)
  else (bn (F11_no (8 : Int32) σ) (fun r12 t13 => ck (nkB r12) (some (r12, t13)))))
  else (F11_mean_b24 N σ))))
set_option maxRecDepth 100000 in
theorem v11_mean_b24 (N : Nat) (σ : Ms) : VF (K11_mean) cX11_mean RX11 (F11_mean_b24 N σ) σ 24 [(0, .ref 11)] [] := by
  unfold F11_mean_b24
  refine v_aload_n d11_mean_24 0 rfl rfl ?_
  refine v_iconst d11_mean_25 ki_5 ?_
  refine v_callV1i d11_mean_26 (mc11_no (5 : Int32) σ) yv11_no mlX11_113 (Recv.obj ic_11 rfl) (by decide) (Nat.le_of_ble_eq_true rfl) fun r1 t2 => ?_
  exact v_iretB d11_mean_29 rfl rfl
set_option maxRecDepth 100000 in
theorem v11_mean_b52B (N : Nat) (k52 : Int32 × Int32 × Int64 × Int32 × Ms → Option (Int32 × Ms)) (hk52 : ∀ (l1 : Int32) (l2 : Int32) (l3 : Int64) (l5 : Int32) (τ : Ms), VF (K11_mean) cX11_mean RX11 (k52 (l1, l2, l3, l5, τ)) τ 52 [(0, .ref 11), (1, .int l1), (2, .int l2), (3, .long l3), (5, .int l5)] []) (l1 : Int32) (l2 : Int32) (l3 : Int64) (l5 : Int32) (σ : Ms) : VF (K11_mean) cX11_mean RX11 (F11_mean_b52B N k52 l1 l2 l3 l5 σ) σ 52 [(0, .ref 11), (1, .int l1), (2, .int l2), (3, .long l3), (5, .int l5)] [] := by
  unfold F11_mean_b52B
  refine v_iload d11_mean_52 4 rfl ?_
  refine v_iload_n d11_mean_54 2 rfl rfl ?_
  refine v_icmp_ge (tgt := 111) d11_mean_55 (by decide) ?_ ?_
  · refine v_aload_n d11_mean_111 0 rfl rfl ?_
    refine v_lload_n d11_mean_112 3 rfl rfl ?_
    refine v_iload_n d11_mean_113 2 rfl rfl ?_
    refine v_i2l d11_mean_114 ?_
    refine v_ldc2 d11_mean_115 klX11_440 ?_
    refine v_lmul d11_mean_118 ?_
    refine v_callV2i d11_mean_119 (mc11_tellFraction N l3 ((l2.toInt64) * (1073741824 : Int64)) σ) yv11_tellFraction mlX11_361 (Recv.obj ic_11 rfl) (by decide) (Nat.le_of_ble_eq_true rfl) fun r3 t4 => ?_
    exact v_iretB d11_mean_122 rfl rfl
  · refine v_aload_n d11_mean_58 0 rfl rfl ?_
    refine v_getR d11_mean_59 faX11_26 ic_11 rfl ?_
    refine v_aload_n d11_mean_62 0 rfl rfl ?_
    refine v_getR d11_mean_63 faX11_30 ic_11 rfl ?_
    refine v_callS2v d11_mean_66 (mc0_copy N 22 ic_22 30 ic_30 σ) ys0_copy mlX11_176 (by decide) (Nat.le_of_ble_eq_true rfl) fun r5 t6 => ?_
    refine v_aload_n d11_mean_69 0 rfl rfl ?_
    refine v_getR d11_mean_70 faX11_79 ic_11 rfl ?_
    refine v_aload_n d11_mean_73 0 rfl rfl ?_
    refine v_getR d11_mean_74 faX11_30 ic_11 rfl ?_
    refine v_aload_n d11_mean_77 0 rfl rfl ?_
    refine v_getR d11_mean_78 faX11_36 ic_11 rfl ?_
    refine v_iload_n d11_mean_81 1 rfl rfl ?_
    refine v_iload d11_mean_82 4 rfl ?_
    refine v_iadd d11_mean_84 ?_
    refine v_callV3v d11_mean_85 (mc2_run N 111 ic_111 30 ic_30 62 ic_62 (l1 + l5) t6) yv2_run mlX11_422 (Recv.obj ic_111 rfl) (by decide) (Nat.le_of_ble_eq_true rfl) fun r7 t8 => ?_
    refine v_lload_n d11_mean_88 3 rfl rfl ?_
    refine v_aload_n d11_mean_89 0 rfl rfl ?_
    refine v_getR d11_mean_90 faX11_30 ic_11 rfl ?_
    refine v_aload_n d11_mean_93 0 rfl rfl ?_
    refine v_getR d11_mean_94 faX11_30 ic_11 rfl ?_
    refine v_getI d11_mean_97 faX11_206 ic_30 ?_
    refine v_callV1l d11_mean_100 (mc0_worthWith N 30 ic_30 (t8.1 30 6) t8) yv0_worthWith mlX11_306 (Recv.obj ic_30 rfl) (by decide) (Nat.le_of_ble_eq_true rfl) fun r9 t10 => ?_
    refine v_ladd d11_mean_103 ?_
    refine v_ltl fun x11 => ?_
    refine v_lstore_n (lv' := [(3, .long x11), (0, .ref 11), (1, .int l1), (2, .int l2), (5, .int l5)]) d11_mean_104 rfl (by decide) rfl ?_
    refine v_iinc (lv' := [(5, .int (l5 + (1 : Int32))), (3, .long x11), (0, .ref 11), (1, .int l1), (2, .int l2)]) d11_mean_105 4 rfl (by rw [ki_1]) (by decide) rfl ?_
    refine v_goto (tgt := 52) d11_mean_108 (by decide) ?_
    refine v_sub [2, 3, 4, 1, 0] rfl ?_
    exact hk52 l1 l2 x11 (l5 + (1 : Int32)) t10
theorem v11_mean_b52 (N : Nat) (l1 : Int32) (l2 : Int32) (l3 : Int64) (l5 : Int32) (σ : Ms) : VF (K11_mean) cX11_mean RX11 (F11_mean_b52 N l1 l2 l3 l5 σ) σ 52 [(0, .ref 11), (1, .int l1), (2, .int l2), (3, .long l3), (5, .int l5)] [] := v_fx (σo := fun x => x.2.2.2.2) (lo := fun x => [(0, .ref 11), (1, .int x.1), (2, .int x.2.1), (3, .long x.2.2.1), (5, .int x.2.2.2.1)]) (fun k hk x => v11_mean_b52B N k (fun l1 l2 l3 l5 τ => hk (l1, l2, l3, l5, τ)) x.1 x.2.1 x.2.2.1 x.2.2.2.1 x.2.2.2.2) N (l1, l2, l3, l5, σ)
set_option maxRecDepth 100000 in
theorem mc11_mean (N : Nat) (p0 : Int32) (p1 : Int32) (σ : Ms) : MC enI yX11_mean cX11_mean 6 (some .boolean) 8 (F11_mean N p0 p1 σ) σ [.ref 11, .int p0, .int p1] := by
  refine MC.i (by decide +kernel) (Nat.le_of_ble_eq_true rfl) ?_
  show VF (K11_mean) cX11_mean RX11 (F11_mean N p0 p1 σ) σ 0 [(0, .ref 11), (1, .int p0), (2, .int p1)] []
  unfold F11_mean
  refine v_iload_n d11_mean_0 1 rfl rfl ?_
  refine v_if_lt (tgt := 24) d11_mean_1 (by decide) ?_ ?_
  · refine v_sub [0] rfl ?_
    exact v11_mean_b24 N σ
  · refine v_iload_n d11_mean_4 2 rfl rfl ?_
    refine v_iconst d11_mean_5 ki_1 ?_
    refine v_icmp_lt (tgt := 24) d11_mean_6 (by decide) ?_ ?_
    · refine v_sub [0] rfl ?_
      exact v11_mean_b24 N σ
    · refine v_iload_n d11_mean_9 2 rfl rfl ?_
      refine v_bipush d11_mean_10 kb_20 ?_
      refine v_icmp_gt (tgt := 24) d11_mean_12 (by decide) ?_ ?_
      · refine v_sub [0] rfl ?_
        exact v11_mean_b24 N σ
      · refine v_iload_n d11_mean_15 1 rfl rfl ?_
        refine v_sipush d11_mean_16 ks_10000 ?_
        refine v_iload_n d11_mean_19 2 rfl rfl ?_
        refine v_isub d11_mean_20 ?_
        refine v_icmp_le (tgt := 30) d11_mean_21 (by decide) ?_ ?_
        · refine v_aload_n d11_mean_30 0 rfl rfl ?_
          refine v_getR d11_mean_31 faX11_36 ic_11 rfl ?_
          refine v_getI d11_mean_34 faX11_419 ic_62 ?_
          refine v_if_ne (tgt := 47) d11_mean_37 (by decide) ?_ ?_
          · refine v_lconst d11_mean_47 kl_0 ?_
            refine v_lstore_n (lv' := [(3, .long (0 : Int64)), (0, .ref 11), (1, .int p0), (2, .int p1)]) d11_mean_48 rfl (by decide) rfl ?_
            refine v_iconst d11_mean_49 ki_0 ?_
            refine v_istore (lv' := [(5, .int (0 : Int32)), (3, .long (0 : Int64)), (0, .ref 11), (1, .int p0), (2, .int p1)]) d11_mean_50 (by decide) rfl ?_
            refine v_sub [2, 3, 4, 1, 0] rfl ?_
            exact v11_mean_b52 N p0 p1 (0 : Int64) (0 : Int32) σ
          · refine v_aload_n d11_mean_40 0 rfl rfl ?_
            refine v_bipush d11_mean_41 kb_8 ?_
            refine v_callV1i d11_mean_43 (mc11_no (8 : Int32) σ) yv11_no mlX11_113 (Recv.obj ic_11 rfl) (by decide) (Nat.le_of_ble_eq_true rfl) fun r12 t13 => ?_
            exact v_iretB d11_mean_46 rfl rfl
        · refine v_sub [0] rfl ?_
          exact v11_mean_b24 N σ
theorem d11_mark_0 : decode cX11_mark 0 = .ok (.aload_n 0, 1) := by decide +kernel
theorem d11_mark_1 : decode cX11_mark 1 = .ok (.getfield 86, 3) := by decide +kernel
theorem d11_mark_4 : decode cX11_mark 4 = .ok (.ifCond .lt 11, 3) := by decide +kernel
theorem d11_mark_7 : decode cX11_mark 7 = .ok (.aload_n 0, 1) := by decide +kernel
theorem d11_mark_8 : decode cX11_mark 8 = .ok (.getfield 86, 3) := by decide +kernel
theorem d11_mark_11 : decode cX11_mark 11 = .ok (.iconst 3, 1) := by decide +kernel
theorem d11_mark_12 : decode cX11_mark 12 = .ok (.if_icmp .lt 10, 3) := by decide +kernel
theorem d11_mark_15 : decode cX11_mark 15 = .ok (.aload_n 0, 1) := by decide +kernel
theorem d11_mark_16 : decode cX11_mark 16 = .ok (.bipush 7, 2) := by decide +kernel
theorem d11_mark_18 : decode cX11_mark 18 = .ok (.invokevirtual 132, 3) := by decide +kernel
theorem d11_mark_21 : decode cX11_mark 21 = .ok (.ireturn, 1) := by decide +kernel
theorem d11_mark_22 : decode cX11_mark 22 = .ok (.aload_n 0, 1) := by decide +kernel
theorem d11_mark_23 : decode cX11_mark 23 = .ok (.getfield 26, 3) := by decide +kernel
theorem d11_mark_26 : decode cX11_mark 26 = .ok (.aload_n 0, 1) := by decide +kernel
theorem d11_mark_27 : decode cX11_mark 27 = .ok (.getfield 43, 3) := by decide +kernel
theorem d11_mark_30 : decode cX11_mark 30 = .ok (.aload_n 0, 1) := by decide +kernel
theorem d11_mark_31 : decode cX11_mark 31 = .ok (.getfield 86, 3) := by decide +kernel
theorem d11_mark_34 : decode cX11_mark 34 = .ok (.aaload, 1) := by decide +kernel
theorem d11_mark_35 : decode cX11_mark 35 = .ok (.invokestatic 176, 3) := by decide +kernel
theorem d11_mark_38 : decode cX11_mark 38 = .ok (.aload_n 0, 1) := by decide +kernel
theorem d11_mark_39 : decode cX11_mark 39 = .ok (.getfield 36, 3) := by decide +kernel
theorem d11_mark_42 : decode cX11_mark 42 = .ok (.aload_n 0, 1) := by decide +kernel
theorem d11_mark_43 : decode cX11_mark 43 = .ok (.getfield 47, 3) := by decide +kernel
theorem d11_mark_46 : decode cX11_mark 46 = .ok (.aload_n 0, 1) := by decide +kernel
theorem d11_mark_47 : decode cX11_mark 47 = .ok (.getfield 86, 3) := by decide +kernel
theorem d11_mark_50 : decode cX11_mark 50 = .ok (.aaload, 1) := by decide +kernel
theorem d11_mark_51 : decode cX11_mark 51 = .ok (.invokestatic 194, 3) := by decide +kernel
theorem d11_mark_54 : decode cX11_mark 54 = .ok (.aload_n 0, 1) := by decide +kernel
theorem d11_mark_55 : decode cX11_mark 55 = .ok (.dup, 1) := by decide +kernel
theorem d11_mark_56 : decode cX11_mark 56 = .ok (.getfield 86, 3) := by decide +kernel
theorem d11_mark_59 : decode cX11_mark 59 = .ok (.iconst 1, 1) := by decide +kernel
theorem d11_mark_60 : decode cX11_mark 60 = .ok (.iadd, 1) := by decide +kernel
theorem d11_mark_61 : decode cX11_mark 61 = .ok (.putfield 86, 3) := by decide +kernel
theorem d11_mark_64 : decode cX11_mark 64 = .ok (.aload_n 0, 1) := by decide +kernel
theorem d11_mark_65 : decode cX11_mark 65 = .ok (.aload_n 0, 1) := by decide +kernel
theorem d11_mark_66 : decode cX11_mark 66 = .ok (.getfield 86, 3) := by decide +kernel
theorem d11_mark_69 : decode cX11_mark 69 = .ok (.invokevirtual 186, 3) := by decide +kernel
theorem d11_mark_72 : decode cX11_mark 72 = .ok (.ireturn, 1) := by decide +kernel
abbrev K11_mark : CK Int32 := (enI, (some .int), 1, 2, none)
noncomputable def F11_mark_b15 (N : Nat) (σ : Ms) : Option (Int32 × Ms) :=
  bn (F11_none (7 : Int32) σ) (fun r1 t2 => some (r1, t2))
noncomputable def F11_mark (N : Nat) (σ : Ms) : Option (Int32 × Ms) :=
  if (σ.1 11 14) < 0 then (F11_mark_b15 N σ)
  else (if (σ.1 11 14) < (3 : Int32) then (ck (ixb (σ.1 11 14) 3) (bn (F0_copy N 22 (38 + 8 * (σ.1 11 14).toNatClampNeg) σ) (fun r4 t5 => ck (ixb (t5.1 11 14) 3) (bn (F5_copy N 62 (76 + 7 * (t5.1 11 14).toNatClampNeg) t5) (fun r7 t8 => lt (sI t8 11 14 ((t8.1 11 14) + (1 : Int32))) (fun t9 => bn (F11_told (t9.1 11 14) t9) (fun r10 t11 => some (r10, t11))))))))
  else (F11_mark_b15 N σ))
set_option maxRecDepth 100000 in
theorem v11_mark_b15 (N : Nat) (σ : Ms) : VF (K11_mark) cX11_mark RX11 (F11_mark_b15 N σ) σ 15 [(0, .ref 11)] [] := by
  unfold F11_mark_b15
  refine v_aload_n d11_mark_15 0 rfl rfl ?_
  refine v_bipush d11_mark_16 kb_7 ?_
  refine v_callV1i d11_mark_18 (mc11_none (7 : Int32) σ) yv11_none mlX11_132 (Recv.obj ic_11 rfl) (by decide) (Nat.le_of_ble_eq_true rfl) fun r1 t2 => ?_
  exact v_iret d11_mark_21 rfl rfl rfl
set_option maxRecDepth 100000 in
theorem mc11_mark (N : Nat) (σ : Ms) : MC enI yX11_mark cX11_mark 1 (some .int) 2 (F11_mark N σ) σ [.ref 11] := by
  refine MC.i (by decide +kernel) (Nat.le_of_ble_eq_true rfl) ?_
  show VF (K11_mark) cX11_mark RX11 (F11_mark N σ) σ 0 [(0, .ref 11)] []
  unfold F11_mark
  refine v_aload_n d11_mark_0 0 rfl rfl ?_
  refine v_getI d11_mark_1 faX11_86 ic_11 ?_
  refine v_if_lt (tgt := 15) d11_mark_4 (by decide) ?_ ?_
  · exact v11_mark_b15 N σ
  · refine v_aload_n d11_mark_7 0 rfl rfl ?_
    refine v_getI d11_mark_8 faX11_86 ic_11 ?_
    refine v_iconst d11_mark_11 ki_3 ?_
    refine v_icmp_lt (tgt := 22) d11_mark_12 (by decide) ?_ ?_
    · refine v_aload_n d11_mark_22 0 rfl rfl ?_
      refine v_getR d11_mark_23 faX11_26 ic_11 rfl ?_
      refine v_aload_n d11_mark_26 0 rfl rfl ?_
      refine v_getR d11_mark_27 faX11_43 ic_11 rfl ?_
      refine v_aload_n d11_mark_30 0 rfl rfl ?_
      refine v_getI d11_mark_31 faX11_86 ic_11 ?_
      refine v_aald5 d11_mark_34 ic_97 fun hb3 => ?_
      refine v_callS2v d11_mark_35 (mc0_copy N 22 ic_22 (38 + 8 * (σ.1 11 14).toNatClampNeg) (ia_97 hb3) σ) ys0_copy mlX11_176 (by decide) (Nat.le_of_ble_eq_true rfl) fun r4 t5 => ?_
      refine v_aload_n d11_mark_38 0 rfl rfl ?_
      refine v_getR d11_mark_39 faX11_36 ic_11 rfl ?_
      refine v_aload_n d11_mark_42 0 rfl rfl ?_
      refine v_getR d11_mark_43 faX11_47 ic_11 rfl ?_
      refine v_aload_n d11_mark_46 0 rfl rfl ?_
      refine v_getI d11_mark_47 faX11_86 ic_11 ?_
      refine v_aald6 d11_mark_50 ic_98 fun hb6 => ?_
      refine v_callS2v d11_mark_51 (mc5_copy N 62 ic_62 (76 + 7 * (t5.1 11 14).toNatClampNeg) (ia_98 hb6) t5) ys5_copy mlX11_194 (by decide) (Nat.le_of_ble_eq_true rfl) fun r7 t8 => ?_
      refine v_aload_n d11_mark_54 0 rfl rfl ?_
      refine v_dup d11_mark_55 rfl ?_
      refine v_getI d11_mark_56 faX11_86 ic_11 ?_
      refine v_iconst d11_mark_59 ki_1 ?_
      refine v_iadd d11_mark_60 ?_
      refine v_putI d11_mark_61 faX11_86 fp8_14 ic_11 ?_
      refine v_lts fun t9 => ?_
      refine v_aload_n d11_mark_64 0 rfl rfl ?_
      refine v_aload_n d11_mark_65 0 rfl rfl ?_
      refine v_getI d11_mark_66 faX11_86 ic_11 ?_
      refine v_callV1i d11_mark_69 (mc11_told (t9.1 11 14) t9) yv11_told mlX11_186 (Recv.obj ic_11 rfl) (by decide) (Nat.le_of_ble_eq_true rfl) fun r10 t11 => ?_
      exact v_iret d11_mark_72 rfl rfl rfl
    · exact v11_mark_b15 N σ
theorem d11_back_0 : decode cX11_back 0 = .ok (.aload_n 0, 1) := by decide +kernel
theorem d11_back_1 : decode cX11_back 1 = .ok (.getfield 86, 3) := by decide +kernel
theorem d11_back_4 : decode cX11_back 4 = .ok (.ifCond .le 11, 3) := by decide +kernel
theorem d11_back_7 : decode cX11_back 7 = .ok (.aload_n 0, 1) := by decide +kernel
theorem d11_back_8 : decode cX11_back 8 = .ok (.getfield 86, 3) := by decide +kernel
theorem d11_back_11 : decode cX11_back 11 = .ok (.iconst 3, 1) := by decide +kernel
theorem d11_back_12 : decode cX11_back 12 = .ok (.if_icmp .le 10, 3) := by decide +kernel
theorem d11_back_15 : decode cX11_back 15 = .ok (.aload_n 0, 1) := by decide +kernel
theorem d11_back_16 : decode cX11_back 16 = .ok (.bipush 8, 2) := by decide +kernel
theorem d11_back_18 : decode cX11_back 18 = .ok (.invokevirtual 132, 3) := by decide +kernel
theorem d11_back_21 : decode cX11_back 21 = .ok (.ireturn, 1) := by decide +kernel
theorem d11_back_22 : decode cX11_back 22 = .ok (.aload_n 0, 1) := by decide +kernel
theorem d11_back_23 : decode cX11_back 23 = .ok (.dup, 1) := by decide +kernel
theorem d11_back_24 : decode cX11_back 24 = .ok (.getfield 86, 3) := by decide +kernel
theorem d11_back_27 : decode cX11_back 27 = .ok (.iconst 1, 1) := by decide +kernel
theorem d11_back_28 : decode cX11_back 28 = .ok (.isub, 1) := by decide +kernel
theorem d11_back_29 : decode cX11_back 29 = .ok (.putfield 86, 3) := by decide +kernel
theorem d11_back_32 : decode cX11_back 32 = .ok (.aload_n 0, 1) := by decide +kernel
theorem d11_back_33 : decode cX11_back 33 = .ok (.getfield 43, 3) := by decide +kernel
theorem d11_back_36 : decode cX11_back 36 = .ok (.aload_n 0, 1) := by decide +kernel
theorem d11_back_37 : decode cX11_back 37 = .ok (.getfield 86, 3) := by decide +kernel
theorem d11_back_40 : decode cX11_back 40 = .ok (.aaload, 1) := by decide +kernel
theorem d11_back_41 : decode cX11_back 41 = .ok (.aload_n 0, 1) := by decide +kernel
theorem d11_back_42 : decode cX11_back 42 = .ok (.getfield 26, 3) := by decide +kernel
theorem d11_back_45 : decode cX11_back 45 = .ok (.invokestatic 176, 3) := by decide +kernel
theorem d11_back_48 : decode cX11_back 48 = .ok (.aload_n 0, 1) := by decide +kernel
theorem d11_back_49 : decode cX11_back 49 = .ok (.getfield 47, 3) := by decide +kernel
theorem d11_back_52 : decode cX11_back 52 = .ok (.aload_n 0, 1) := by decide +kernel
theorem d11_back_53 : decode cX11_back 53 = .ok (.getfield 86, 3) := by decide +kernel
theorem d11_back_56 : decode cX11_back 56 = .ok (.aaload, 1) := by decide +kernel
theorem d11_back_57 : decode cX11_back 57 = .ok (.aload_n 0, 1) := by decide +kernel
theorem d11_back_58 : decode cX11_back 58 = .ok (.getfield 36, 3) := by decide +kernel
theorem d11_back_61 : decode cX11_back 61 = .ok (.invokestatic 194, 3) := by decide +kernel
theorem d11_back_64 : decode cX11_back 64 = .ok (.aload_n 0, 1) := by decide +kernel
theorem d11_back_65 : decode cX11_back 65 = .ok (.aload_n 0, 1) := by decide +kernel
theorem d11_back_66 : decode cX11_back 66 = .ok (.getfield 86, 3) := by decide +kernel
theorem d11_back_69 : decode cX11_back 69 = .ok (.invokevirtual 186, 3) := by decide +kernel
theorem d11_back_72 : decode cX11_back 72 = .ok (.ireturn, 1) := by decide +kernel
abbrev K11_back : CK Int32 := (enI, (some .int), 1, 2, none)
noncomputable def F11_back_b15 (N : Nat) (σ : Ms) : Option (Int32 × Ms) :=
  bn (F11_none (8 : Int32) σ) (fun r1 t2 => some (r1, t2))
noncomputable def F11_back (N : Nat) (σ : Ms) : Option (Int32 × Ms) :=
  if (σ.1 11 14) ≤ 0 then (F11_back_b15 N σ)
  else (if (σ.1 11 14) ≤ (3 : Int32) then (lt (sI σ 11 14 ((σ.1 11 14) - (1 : Int32))) (fun t3 => ck (ixb (t3.1 11 14) 3) (bn (F0_copy N (38 + 8 * (t3.1 11 14).toNatClampNeg) 22 t3) (fun r5 t6 => ck (ixb (t6.1 11 14) 3) (bn (F5_copy N (76 + 7 * (t6.1 11 14).toNatClampNeg) 62 t6) (fun r8 t9 => bn (F11_told (t9.1 11 14) t9) (fun r10 t11 => some (r10, t11))))))))
  else (F11_back_b15 N σ))
set_option maxRecDepth 100000 in
theorem v11_back_b15 (N : Nat) (σ : Ms) : VF (K11_back) cX11_back RX11 (F11_back_b15 N σ) σ 15 [(0, .ref 11)] [] := by
  unfold F11_back_b15
  refine v_aload_n d11_back_15 0 rfl rfl ?_
  refine v_bipush d11_back_16 kb_8 ?_
  refine v_callV1i d11_back_18 (mc11_none (8 : Int32) σ) yv11_none mlX11_132 (Recv.obj ic_11 rfl) (by decide) (Nat.le_of_ble_eq_true rfl) fun r1 t2 => ?_
  exact v_iret d11_back_21 rfl rfl rfl
set_option maxRecDepth 100000 in
theorem mc11_back (N : Nat) (σ : Ms) : MC enI yX11_back cX11_back 1 (some .int) 2 (F11_back N σ) σ [.ref 11] := by
  refine MC.i (by decide +kernel) (Nat.le_of_ble_eq_true rfl) ?_
  show VF (K11_back) cX11_back RX11 (F11_back N σ) σ 0 [(0, .ref 11)] []
  unfold F11_back
  refine v_aload_n d11_back_0 0 rfl rfl ?_
  refine v_getI d11_back_1 faX11_86 ic_11 ?_
  refine v_if_le (tgt := 15) d11_back_4 (by decide) ?_ ?_
  · exact v11_back_b15 N σ
  · refine v_aload_n d11_back_7 0 rfl rfl ?_
    refine v_getI d11_back_8 faX11_86 ic_11 ?_
    refine v_iconst d11_back_11 ki_3 ?_
    refine v_icmp_le (tgt := 22) d11_back_12 (by decide) ?_ ?_
    · refine v_aload_n d11_back_22 0 rfl rfl ?_
      refine v_dup d11_back_23 rfl ?_
      refine v_getI d11_back_24 faX11_86 ic_11 ?_
      refine v_iconst d11_back_27 ki_1 ?_
      refine v_isub d11_back_28 ?_
      refine v_putI d11_back_29 faX11_86 fp8_14 ic_11 ?_
      refine v_lts fun t3 => ?_
      refine v_aload_n d11_back_32 0 rfl rfl ?_
      refine v_getR d11_back_33 faX11_43 ic_11 rfl ?_
      refine v_aload_n d11_back_36 0 rfl rfl ?_
      refine v_getI d11_back_37 faX11_86 ic_11 ?_
      refine v_aald5 d11_back_40 ic_97 fun hb4 => ?_
      refine v_aload_n d11_back_41 0 rfl rfl ?_
      refine v_getR d11_back_42 faX11_26 ic_11 rfl ?_
      refine v_callS2v d11_back_45 (mc0_copy N (38 + 8 * (t3.1 11 14).toNatClampNeg) (ia_97 hb4) 22 ic_22 t3) ys0_copy mlX11_176 (by decide) (Nat.le_of_ble_eq_true rfl) fun r5 t6 => ?_
      refine v_aload_n d11_back_48 0 rfl rfl ?_
      refine v_getR d11_back_49 faX11_47 ic_11 rfl ?_
      refine v_aload_n d11_back_52 0 rfl rfl ?_
      refine v_getI d11_back_53 faX11_86 ic_11 ?_
      refine v_aald6 d11_back_56 ic_98 fun hb7 => ?_
      refine v_aload_n d11_back_57 0 rfl rfl ?_
      refine v_getR d11_back_58 faX11_36 ic_11 rfl ?_
      refine v_callS2v d11_back_61 (mc5_copy N (76 + 7 * (t6.1 11 14).toNatClampNeg) (ia_98 hb7) 62 ic_62 t6) ys5_copy mlX11_194 (by decide) (Nat.le_of_ble_eq_true rfl) fun r8 t9 => ?_
      refine v_aload_n d11_back_64 0 rfl rfl ?_
      refine v_aload_n d11_back_65 0 rfl rfl ?_
      refine v_getI d11_back_66 faX11_86 ic_11 ?_
      refine v_callV1i d11_back_69 (mc11_told (t9.1 11 14) t9) yv11_told mlX11_186 (Recv.obj ic_11 rfl) (by decide) (Nat.le_of_ble_eq_true rfl) fun r10 t11 => ?_
      exact v_iret d11_back_72 rfl rfl rfl
    · exact v11_back_b15 N σ
theorem d12_status_0 : decode cX12_status 0 = .ok (.aload_n 0, 1) := by decide +kernel
theorem d12_status_1 : decode cX12_status 1 = .ok (.iconst 0, 1) := by decide +kernel
theorem d12_status_2 : decode cX12_status 2 = .ok (.putfield 53, 3) := by decide +kernel
theorem d12_status_5 : decode cX12_status 5 = .ok (.aload_n 0, 1) := by decide +kernel
theorem d12_status_6 : decode cX12_status 6 = .ok (.getfield 56, 3) := by decide +kernel
theorem d12_status_9 : decode cX12_status 9 = .ok (.ireturn, 1) := by decide +kernel
abbrev K12_status : CK Int32 := (enI, (some .int), 1, 1, none)
noncomputable def F12_status (σ : Ms) : Option (Int32 × Ms) :=
  lt (sI σ 0 1 (0 : Int32)) (fun t1 => some ((t1.1 0 0), t1))
set_option maxRecDepth 100000 in
theorem mc12_status (σ : Ms) : MC enI yX12_status cX12_status 1 (some .int) 1 (F12_status σ) σ [.ref 0] := by
  refine MC.i (by decide +kernel) (Nat.le_of_ble_eq_true rfl) ?_
  show VF (K12_status) cX12_status RX12 (F12_status σ) σ 0 [(0, .ref 0)] []
  unfold F12_status
  refine v_aload_n d12_status_0 0 rfl rfl ?_
  refine v_iconst d12_status_1 ki_0 ?_
  refine v_putI d12_status_2 faX12_53 fp9_1 ic_0 ?_
  refine v_lts fun t1 => ?_
  refine v_aload_n d12_status_5 0 rfl rfl ?_
  refine v_getI d12_status_6 faX12_56 ic_0 ?_
  exact v_iret d12_status_9 rfl rfl rfl
theorem d12_top_0 : decode cX12_top 0 = .ok (.aload_n 0, 1) := by decide +kernel
theorem d12_top_1 : decode cX12_top 1 = .ok (.iconst 0, 1) := by decide +kernel
theorem d12_top_2 : decode cX12_top 2 = .ok (.putfield 53, 3) := by decide +kernel
theorem d12_top_5 : decode cX12_top 5 = .ok (.aload_n 0, 1) := by decide +kernel
theorem d12_top_6 : decode cX12_top 6 = .ok (.getfield 59, 3) := by decide +kernel
theorem d12_top_9 : decode cX12_top 9 = .ok (.lreturn, 1) := by decide +kernel
abbrev K12_top : CK Int64 := (enL, (some .long), 1, 1, none)
noncomputable def F12_top (σ : Ms) : Option (Int64 × Ms) :=
  lt (sI σ 0 1 (0 : Int32)) (fun t1 => some ((t1.2 0 2), t1))
set_option maxRecDepth 100000 in
theorem mc12_top (σ : Ms) : MC enL yX12_top cX12_top 1 (some .long) 1 (F12_top σ) σ [.ref 0] := by
  refine MC.l (by decide +kernel) (Nat.le_of_ble_eq_true rfl) ?_
  show VF (K12_top) cX12_top RX12 (F12_top σ) σ 0 [(0, .ref 0)] []
  unfold F12_top
  refine v_aload_n d12_top_0 0 rfl rfl ?_
  refine v_iconst d12_top_1 ki_0 ?_
  refine v_putI d12_top_2 faX12_53 fp9_1 ic_0 ?_
  refine v_lts fun t1 => ?_
  refine v_aload_n d12_top_5 0 rfl rfl ?_
  refine v_getL d12_top_6 faX12_59 ic_0 ?_
  exact v_lret d12_top_9 rfl rfl
theorem d12_bottom_0 : decode cX12_bottom 0 = .ok (.aload_n 0, 1) := by decide +kernel
theorem d12_bottom_1 : decode cX12_bottom 1 = .ok (.iconst 0, 1) := by decide +kernel
theorem d12_bottom_2 : decode cX12_bottom 2 = .ok (.putfield 53, 3) := by decide +kernel
theorem d12_bottom_5 : decode cX12_bottom 5 = .ok (.aload_n 0, 1) := by decide +kernel
theorem d12_bottom_6 : decode cX12_bottom 6 = .ok (.getfield 7, 3) := by decide +kernel
theorem d12_bottom_9 : decode cX12_bottom 9 = .ok (.lreturn, 1) := by decide +kernel
abbrev K12_bottom : CK Int64 := (enL, (some .long), 1, 1, none)
noncomputable def F12_bottom (σ : Ms) : Option (Int64 × Ms) :=
  lt (sI σ 0 1 (0 : Int32)) (fun t1 => some ((t1.2 0 3), t1))
set_option maxRecDepth 100000 in
theorem mc12_bottom (σ : Ms) : MC enL yX12_bottom cX12_bottom 1 (some .long) 1 (F12_bottom σ) σ [.ref 0] := by
  refine MC.l (by decide +kernel) (Nat.le_of_ble_eq_true rfl) ?_
  show VF (K12_bottom) cX12_bottom RX12 (F12_bottom σ) σ 0 [(0, .ref 0)] []
  unfold F12_bottom
  refine v_aload_n d12_bottom_0 0 rfl rfl ?_
  refine v_iconst d12_bottom_1 ki_0 ?_
  refine v_putI d12_bottom_2 faX12_53 fp9_1 ic_0 ?_
  refine v_lts fun t1 => ?_
  refine v_aload_n d12_bottom_5 0 rfl rfl ?_
  refine v_getL d12_bottom_6 faX12_7 ic_0 ?_
  exact v_lret d12_bottom_9 rfl rfl
theorem d12_refuse_0 : decode cX12_refuse 0 = .ok (.aload_n 0, 1) := by decide +kernel
theorem d12_refuse_1 : decode cX12_refuse 1 = .ok (.iload_n 1, 1) := by decide +kernel
theorem d12_refuse_2 : decode cX12_refuse 2 = .ok (.putfield 56, 3) := by decide +kernel
theorem d12_refuse_5 : decode cX12_refuse 5 = .ok (.iconst (-1), 1) := by decide +kernel
theorem d12_refuse_6 : decode cX12_refuse 6 = .ok (.ireturn, 1) := by decide +kernel
abbrev K12_refuse : CK Int32 := (enI, (some .int), 2, 1, none)
noncomputable def F12_refuse (p0 : Int32) (σ : Ms) : Option (Int32 × Ms) :=
  lt (sI σ 0 0 p0) (fun t1 => some ((-1 : Int32), t1))
set_option maxRecDepth 100000 in
theorem mc12_refuse (p0 : Int32) (σ : Ms) : MC enI yX12_refuse cX12_refuse 2 (some .int) 1 (F12_refuse p0 σ) σ [.ref 0, .int p0] := by
  refine MC.i (by decide +kernel) (Nat.le_of_ble_eq_true rfl) ?_
  show VF (K12_refuse) cX12_refuse RX12 (F12_refuse p0 σ) σ 0 [(0, .ref 0), (1, .int p0)] []
  unfold F12_refuse
  refine v_aload_n d12_refuse_0 0 rfl rfl ?_
  refine v_iload_n d12_refuse_1 1 rfl rfl ?_
  refine v_putI d12_refuse_2 faX12_56 fp9_0 ic_0 ?_
  refine v_lts fun t1 => ?_
  refine v_iconst d12_refuse_5 ki_m1 ?_
  exact v_iret d12_refuse_6 rfl rfl rfl
theorem d12_no_0 : decode cX12_no 0 = .ok (.aload_n 0, 1) := by decide +kernel
theorem d12_no_1 : decode cX12_no 1 = .ok (.iload_n 1, 1) := by decide +kernel
theorem d12_no_2 : decode cX12_no 2 = .ok (.putfield 56, 3) := by decide +kernel
theorem d12_no_5 : decode cX12_no 5 = .ok (.iconst 0, 1) := by decide +kernel
theorem d12_no_6 : decode cX12_no 6 = .ok (.ireturn, 1) := by decide +kernel
abbrev K12_no : CK Int32 := (enI, (some .boolean), 2, 1, none)
noncomputable def F12_no (p0 : Int32) (σ : Ms) : Option (Int32 × Ms) :=
  lt (sI σ 0 0 p0) (fun t1 => some ((0 : Int32), t1))
set_option maxRecDepth 100000 in
theorem mc12_no (p0 : Int32) (σ : Ms) : MC enI yX12_no cX12_no 2 (some .boolean) 1 (F12_no p0 σ) σ [.ref 0, .int p0] := by
  refine MC.i (by decide +kernel) (Nat.le_of_ble_eq_true rfl) ?_
  show VF (K12_no) cX12_no RX12 (F12_no p0 σ) σ 0 [(0, .ref 0), (1, .int p0)] []
  unfold F12_no
  refine v_aload_n d12_no_0 0 rfl rfl ?_
  refine v_iload_n d12_no_1 1 rfl rfl ?_
  refine v_putI d12_no_2 faX12_56 fp9_0 ic_0 ?_
  refine v_lts fun t1 => ?_
  refine v_iconst d12_no_5 ki_0 ?_
  exact v_iret (ty := .boolean) d12_no_6 rfl rfl rfl
theorem d12_isIn_0 : decode cX12_isIn 0 = .ok (.lload_n 0, 1) := by decide +kernel
theorem d12_isIn_1 : decode cX12_isIn 1 = .ok (.lload_n 2, 1) := by decide +kernel
theorem d12_isIn_2 : decode cX12_isIn 2 = .ok (.lcmp, 1) := by decide +kernel
theorem d12_isIn_3 : decode cX12_isIn 3 = .ok (.ifCond .lt 14, 3) := by decide +kernel
theorem d12_isIn_6 : decode cX12_isIn 6 = .ok (.lload_n 0, 1) := by decide +kernel
theorem d12_isIn_7 : decode cX12_isIn 7 = .ok (.lload 4, 2) := by decide +kernel
theorem d12_isIn_9 : decode cX12_isIn 9 = .ok (.lcmp, 1) := by decide +kernel
theorem d12_isIn_10 : decode cX12_isIn 10 = .ok (.ifCond .gt 7, 3) := by decide +kernel
theorem d12_isIn_13 : decode cX12_isIn 13 = .ok (.iconst 1, 1) := by decide +kernel
theorem d12_isIn_14 : decode cX12_isIn 14 = .ok (.goto 4, 3) := by decide +kernel
theorem d12_isIn_17 : decode cX12_isIn 17 = .ok (.iconst 0, 1) := by decide +kernel
theorem d12_isIn_18 : decode cX12_isIn 18 = .ok (.ireturn, 1) := by decide +kernel
abbrev K12_isIn : CK Int32 := (enI, (some .boolean), 6, 1, none)
noncomputable def F12_isIn (p0 : Int64) (p1 : Int64) (p2 : Int64) (σ : Ms) : Option (Int32 × Ms) :=
  if (lg_cmp p0 p1) < 0 then (some ((0 : Int32), σ))
  else (if 0 < (lg_cmp p0 p2) then (some ((0 : Int32), σ))
  else (some ((1 : Int32), σ)))
set_option maxRecDepth 100000 in
theorem mc12_isIn (p0 : Int64) (p1 : Int64) (p2 : Int64) (σ : Ms) : MC enI yX12_isIn cX12_isIn 6 (some .boolean) 1 (F12_isIn p0 p1 p2 σ) σ [.long p0, .long p1, .long p2] := by
  refine MC.i (by decide +kernel) (Nat.le_of_ble_eq_true rfl) ?_
  show VF (K12_isIn) cX12_isIn RX12 (F12_isIn p0 p1 p2 σ) σ 0 [(0, .long p0), (2, .long p1), (4, .long p2)] []
  unfold F12_isIn
  refine v_lload_n d12_isIn_0 0 rfl rfl ?_
  refine v_lload_n d12_isIn_1 1 rfl rfl ?_
  refine v_lcmp d12_isIn_2 ?_
  refine v_if_lt (tgt := 17) d12_isIn_3 (by decide) ?_ ?_
  · refine v_iconst d12_isIn_17 ki_0 ?_
    exact v_iret (ty := .boolean) d12_isIn_18 rfl rfl rfl
  · refine v_lload_n d12_isIn_6 0 rfl rfl ?_
    refine v_lload d12_isIn_7 2 rfl ?_
    refine v_lcmp d12_isIn_9 ?_
    refine v_if_gt (tgt := 17) d12_isIn_10 (by decide) ?_ ?_
    · refine v_iconst d12_isIn_17 ki_0 ?_
      exact v_iret (ty := .boolean) d12_isIn_18 rfl rfl rfl
    · refine v_iconst d12_isIn_13 ki_1 ?_
      refine v_goto (tgt := 18) d12_isIn_14 (by decide) ?_
      exact v_iret (ty := .boolean) d12_isIn_18 rfl rfl rfl
theorem d12_fraction_0 : decode cX12_fraction 0 = .ok (.lload_n 1, 1) := by decide +kernel
theorem d12_fraction_1 : decode cX12_fraction 1 = .ok (.invokestatic 62, 3) := by decide +kernel
theorem d12_fraction_4 : decode cX12_fraction 4 = .ok (.lstore 5, 2) := by decide +kernel
theorem d12_fraction_6 : decode cX12_fraction 6 = .ok (.lload_n 3, 1) := by decide +kernel
theorem d12_fraction_7 : decode cX12_fraction 7 = .ok (.lstore 7, 2) := by decide +kernel
theorem d12_fraction_9 : decode cX12_fraction 9 = .ok (.lload 7, 2) := by decide +kernel
theorem d12_fraction_11 : decode cX12_fraction 11 = .ok (.lconst 0, 1) := by decide +kernel
theorem d12_fraction_12 : decode cX12_fraction 12 = .ok (.lcmp, 1) := by decide +kernel
theorem d12_fraction_13 : decode cX12_fraction 13 = .ok (.ifCond .eq 21, 3) := by decide +kernel
theorem d12_fraction_16 : decode cX12_fraction 16 = .ok (.lload 5, 2) := by decide +kernel
theorem d12_fraction_18 : decode cX12_fraction 18 = .ok (.lload 7, 2) := by decide +kernel
theorem d12_fraction_20 : decode cX12_fraction 20 = .ok (.lrem, 1) := by decide +kernel
theorem d12_fraction_21 : decode cX12_fraction 21 = .ok (.lstore 9, 2) := by decide +kernel
theorem d12_fraction_23 : decode cX12_fraction 23 = .ok (.lload 7, 2) := by decide +kernel
theorem d12_fraction_25 : decode cX12_fraction 25 = .ok (.lstore 5, 2) := by decide +kernel
theorem d12_fraction_27 : decode cX12_fraction 27 = .ok (.lload 9, 2) := by decide +kernel
theorem d12_fraction_29 : decode cX12_fraction 29 = .ok (.lstore 7, 2) := by decide +kernel
theorem d12_fraction_31 : decode cX12_fraction 31 = .ok (.goto (-22), 3) := by decide +kernel
theorem d12_fraction_34 : decode cX12_fraction 34 = .ok (.aload_n 0, 1) := by decide +kernel
theorem d12_fraction_35 : decode cX12_fraction 35 = .ok (.lload_n 1, 1) := by decide +kernel
theorem d12_fraction_36 : decode cX12_fraction 36 = .ok (.lload 5, 2) := by decide +kernel
theorem d12_fraction_38 : decode cX12_fraction 38 = .ok (.ldiv, 1) := by decide +kernel
theorem d12_fraction_39 : decode cX12_fraction 39 = .ok (.putfield 59, 3) := by decide +kernel
theorem d12_fraction_42 : decode cX12_fraction 42 = .ok (.aload_n 0, 1) := by decide +kernel
theorem d12_fraction_43 : decode cX12_fraction 43 = .ok (.lload_n 3, 1) := by decide +kernel
theorem d12_fraction_44 : decode cX12_fraction 44 = .ok (.lload 5, 2) := by decide +kernel
theorem d12_fraction_46 : decode cX12_fraction 46 = .ok (.ldiv, 1) := by decide +kernel
theorem d12_fraction_47 : decode cX12_fraction 47 = .ok (.putfield 7, 3) := by decide +kernel
theorem d12_fraction_50 : decode cX12_fraction 50 = .ok (.iconst 1, 1) := by decide +kernel
theorem d12_fraction_51 : decode cX12_fraction 51 = .ok (.ireturn, 1) := by decide +kernel
abbrev K12_fraction : CK Int32 := (enI, (some .boolean), 11, 2, none)
noncomputable def F12_fraction_b9B (N : Nat) (k9 : Int64 × Int64 × Int64 × Int64 × Ms → Option (Int32 × Ms)) (l1 : Int64) (l3 : Int64) (l5 : Int64) (l7 : Int64) (σ : Ms) : Option (Int32 × Ms) :=
  if (lg_cmp l7 (0 : Int64)) = 0 then (ck (!(l5 == 0)) (lt (sL σ 0 2 (l1 / l5)) (fun t1 => ck (!(l5 == 0)) (lt (sL t1 0 3 (l3 / l5)) (fun t2 => some ((1 : Int32), t2))))))
  else (ck (!(l7 == 0)) (lt (l5 - l5 / l7 * l7) (fun x3 => k9 (l1, l3, l7, x3, σ))))
noncomputable def F12_fraction_b9 (N : Nat) (l1 : Int64) (l3 : Int64) (l5 : Int64) (l7 : Int64) (σ : Ms) : Option (Int32 × Ms) :=
  fx N (fun k x => F12_fraction_b9B N k x.1 x.2.1 x.2.2.1 x.2.2.2.1 x.2.2.2.2) (l1, l3, l5, l7, σ)
noncomputable def F12_fraction (N : Nat) (p0 : Int64) (p1 : Int64) (σ : Ms) : Option (Int32 × Ms) :=
  bn (FJ9_abs_067f4 p0 σ) (fun r4 t5 => F12_fraction_b9 N p0 p1 r4 p1 t5)
set_option maxRecDepth 100000 in
theorem v12_fraction_b9B (N : Nat) (k9 : Int64 × Int64 × Int64 × Int64 × Ms → Option (Int32 × Ms)) (hk9 : ∀ (l1 : Int64) (l3 : Int64) (l5 : Int64) (l7 : Int64) (τ : Ms), VF (K12_fraction) cX12_fraction RX12 (k9 (l1, l3, l5, l7, τ)) τ 9 [(0, .ref 0), (1, .long l1), (3, .long l3), (5, .long l5), (7, .long l7)] []) (l1 : Int64) (l3 : Int64) (l5 : Int64) (l7 : Int64) (σ : Ms) : VF (K12_fraction) cX12_fraction RX12 (F12_fraction_b9B N k9 l1 l3 l5 l7 σ) σ 9 [(0, .ref 0), (1, .long l1), (3, .long l3), (5, .long l5), (7, .long l7)] [] := by
  unfold F12_fraction_b9B
  refine v_lload d12_fraction_9 4 rfl ?_
  refine v_lconst d12_fraction_11 kl_0 ?_
  refine v_lcmp d12_fraction_12 ?_
  refine v_if_eq (tgt := 34) d12_fraction_13 (by decide) ?_ ?_
  · refine v_aload_n d12_fraction_34 0 rfl rfl ?_
    refine v_lload_n d12_fraction_35 1 rfl rfl ?_
    refine v_lload d12_fraction_36 3 rfl ?_
    refine v_ldiv d12_fraction_38 ?_
    refine v_putL d12_fraction_39 faX12_59 fp9_2 ic_0 ?_
    refine v_lts fun t1 => ?_
    refine v_aload_n d12_fraction_42 0 rfl rfl ?_
    refine v_lload_n d12_fraction_43 2 rfl rfl ?_
    refine v_lload d12_fraction_44 3 rfl ?_
    refine v_ldiv d12_fraction_46 ?_
    refine v_putL d12_fraction_47 faX12_7 fp9_3 ic_0 ?_
    refine v_lts fun t2 => ?_
    refine v_iconst d12_fraction_50 ki_1 ?_
    exact v_iret (ty := .boolean) d12_fraction_51 rfl rfl rfl
  · refine v_lload d12_fraction_16 3 rfl ?_
    refine v_lload d12_fraction_18 4 rfl ?_
    refine v_lrem d12_fraction_20 ?_
    refine v_ltl fun x3 => ?_
    refine v_lstore (lv' := [(9, .long x3), (0, .ref 0), (1, .long l1), (3, .long l3), (5, .long l5), (7, .long l7)]) d12_fraction_21 (by decide) rfl ?_
    refine v_lload d12_fraction_23 5 rfl ?_
    refine v_lstore (lv' := [(5, .long l7), (9, .long x3), (0, .ref 0), (1, .long l1), (3, .long l3), (7, .long l7)]) d12_fraction_25 (by decide) rfl ?_
    refine v_lload d12_fraction_27 1 rfl ?_
    refine v_lstore (lv' := [(7, .long x3), (5, .long l7), (9, .long x3), (0, .ref 0), (1, .long l1), (3, .long l3)]) d12_fraction_29 (by decide) rfl ?_
    refine v_goto (tgt := 9) d12_fraction_31 (by decide) ?_
    refine v_sub [3, 4, 5, 1, 0] rfl ?_
    exact hk9 l1 l3 l7 x3 σ
theorem v12_fraction_b9 (N : Nat) (l1 : Int64) (l3 : Int64) (l5 : Int64) (l7 : Int64) (σ : Ms) : VF (K12_fraction) cX12_fraction RX12 (F12_fraction_b9 N l1 l3 l5 l7 σ) σ 9 [(0, .ref 0), (1, .long l1), (3, .long l3), (5, .long l5), (7, .long l7)] [] := v_fx (σo := fun x => x.2.2.2.2) (lo := fun x => [(0, .ref 0), (1, .long x.1), (3, .long x.2.1), (5, .long x.2.2.1), (7, .long x.2.2.2.1)]) (fun k hk x => v12_fraction_b9B N k (fun l1 l3 l5 l7 τ => hk (l1, l3, l5, l7, τ)) x.1 x.2.1 x.2.2.1 x.2.2.2.1 x.2.2.2.2) N (l1, l3, l5, l7, σ)
set_option maxRecDepth 100000 in
theorem mc12_fraction (N : Nat) (p0 : Int64) (p1 : Int64) (σ : Ms) : MC enI yX12_fraction cX12_fraction 11 (some .boolean) 2 (F12_fraction N p0 p1 σ) σ [.ref 0, .long p0, .long p1] := by
  refine MC.i (by decide +kernel) (Nat.le_of_ble_eq_true rfl) ?_
  show VF (K12_fraction) cX12_fraction RX12 (F12_fraction N p0 p1 σ) σ 0 [(0, .ref 0), (1, .long p0), (3, .long p1)] []
  unfold F12_fraction
  refine v_lload_n d12_fraction_0 1 rfl rfl ?_
  refine v_callS1l d12_fraction_1 (mcJ9_abs_067f4 p0 σ) ysJ9_abs_067f4 mlX12_62 (by decide) (Nat.le_of_ble_eq_true rfl) fun r4 t5 => ?_
  refine v_lstore (lv' := [(5, .long r4), (0, .ref 0), (1, .long p0), (3, .long p1)]) d12_fraction_4 (by decide) rfl ?_
  refine v_lload_n d12_fraction_6 3 rfl rfl ?_
  refine v_lstore (lv' := [(7, .long p1), (5, .long r4), (0, .ref 0), (1, .long p0), (3, .long p1)]) d12_fraction_7 (by decide) rfl ?_
  refine v_sub [2, 3, 4, 1, 0] rfl ?_
  exact v12_fraction_b9 N p0 p1 r4 p1 t5
theorem d12_trims_0 : decode cX12_trims 0 = .ok (.iload_n 0, 1) := by decide +kernel
theorem d12_trims_1 : decode cX12_trims 1 = .ok (.ifCond .ne 10, 3) := by decide +kernel
theorem d12_trims_4 : decode cX12_trims 4 = .ok (.lload_n 1, 1) := by decide +kernel
theorem d12_trims_5 : decode cX12_trims 5 = .ok (.l2i, 1) := by decide +kernel
theorem d12_trims_6 : decode cX12_trims 6 = .ok (.i2b, 1) := by decide +kernel
theorem d12_trims_7 : decode cX12_trims 7 = .ok (.i2l, 1) := by decide +kernel
theorem d12_trims_8 : decode cX12_trims 8 = .ok (.goto 27, 3) := by decide +kernel
theorem d12_trims_11 : decode cX12_trims 11 = .ok (.iload_n 0, 1) := by decide +kernel
theorem d12_trims_12 : decode cX12_trims 12 = .ok (.iconst 1, 1) := by decide +kernel
theorem d12_trims_13 : decode cX12_trims 13 = .ok (.if_icmp .ne 10, 3) := by decide +kernel
theorem d12_trims_16 : decode cX12_trims 16 = .ok (.lload_n 1, 1) := by decide +kernel
theorem d12_trims_17 : decode cX12_trims 17 = .ok (.l2i, 1) := by decide +kernel
theorem d12_trims_18 : decode cX12_trims 18 = .ok (.i2s, 1) := by decide +kernel
theorem d12_trims_19 : decode cX12_trims 19 = .ok (.i2l, 1) := by decide +kernel
theorem d12_trims_20 : decode cX12_trims 20 = .ok (.goto 15, 3) := by decide +kernel
theorem d12_trims_23 : decode cX12_trims 23 = .ok (.iload_n 0, 1) := by decide +kernel
theorem d12_trims_24 : decode cX12_trims 24 = .ok (.iconst 2, 1) := by decide +kernel
theorem d12_trims_25 : decode cX12_trims 25 = .ok (.if_icmp .ne 9, 3) := by decide +kernel
theorem d12_trims_28 : decode cX12_trims 28 = .ok (.lload_n 1, 1) := by decide +kernel
theorem d12_trims_29 : decode cX12_trims 29 = .ok (.l2i, 1) := by decide +kernel
theorem d12_trims_30 : decode cX12_trims 30 = .ok (.i2l, 1) := by decide +kernel
theorem d12_trims_31 : decode cX12_trims 31 = .ok (.goto 4, 3) := by decide +kernel
theorem d12_trims_34 : decode cX12_trims 34 = .ok (.lload_n 1, 1) := by decide +kernel
theorem d12_trims_35 : decode cX12_trims 35 = .ok (.lreturn, 1) := by decide +kernel
abbrev K12_trims : CK Int64 := (enL, (some .long), 3, 1, none)
noncomputable def F12_trims (p0 : Int32) (p1 : Int64) (σ : Ms) : Option (Int64 × Ms) :=
  if p0 ≠ 0 then (if p0 ≠ (1 : Int32) then (if p0 ≠ (2 : Int32) then (some (p1, σ))
  else (some (((p1.toInt32).toInt64), σ)))
  else (some ((((p1.toInt32).toInt16.toInt32).toInt64), σ)))
  else (some ((((p1.toInt32).toInt8.toInt32).toInt64), σ))
set_option maxRecDepth 100000 in
theorem mc12_trims (p0 : Int32) (p1 : Int64) (σ : Ms) : MC enL yX12_trims cX12_trims 3 (some .long) 1 (F12_trims p0 p1 σ) σ [.int p0, .long p1] := by
  refine MC.l (by decide +kernel) (Nat.le_of_ble_eq_true rfl) ?_
  show VF (K12_trims) cX12_trims RX12 (F12_trims p0 p1 σ) σ 0 [(0, .int p0), (1, .long p1)] []
  unfold F12_trims
  refine v_iload_n d12_trims_0 0 rfl rfl ?_
  refine v_if_ne (tgt := 11) d12_trims_1 (by decide) ?_ ?_
  · refine v_iload_n d12_trims_11 0 rfl rfl ?_
    refine v_iconst d12_trims_12 ki_1 ?_
    refine v_icmp_ne (tgt := 23) d12_trims_13 (by decide) ?_ ?_
    · refine v_iload_n d12_trims_23 0 rfl rfl ?_
      refine v_iconst d12_trims_24 ki_2 ?_
      refine v_icmp_ne (tgt := 34) d12_trims_25 (by decide) ?_ ?_
      · refine v_lload_n d12_trims_34 1 rfl rfl ?_
        exact v_lret d12_trims_35 rfl rfl
      · refine v_lload_n d12_trims_28 1 rfl rfl ?_
        refine v_l2i d12_trims_29 ?_
        refine v_i2l d12_trims_30 ?_
        refine v_goto (tgt := 35) d12_trims_31 (by decide) ?_
        exact v_lret d12_trims_35 rfl rfl
    · refine v_lload_n d12_trims_16 1 rfl rfl ?_
      refine v_l2i d12_trims_17 ?_
      refine v_i2s d12_trims_18 ?_
      refine v_i2l d12_trims_19 ?_
      refine v_goto (tgt := 35) d12_trims_20 (by decide) ?_
      exact v_lret d12_trims_35 rfl rfl
  · refine v_lload_n d12_trims_4 1 rfl rfl ?_
    refine v_l2i d12_trims_5 ?_
    refine v_i2b d12_trims_6 ?_
    refine v_i2l d12_trims_7 ?_
    refine v_goto (tgt := 35) d12_trims_8 (by decide) ?_
    exact v_lret d12_trims_35 rfl rfl
