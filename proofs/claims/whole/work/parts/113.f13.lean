theorem d11_fault_0 : decode cX11_fault 0 = .ok (.iload_n 1, 1) := by decide +kernel
theorem d11_fault_1 : decode cX11_fault 1 = .ok (.ifCond .ne 8, 3) := by decide +kernel
theorem d11_fault_4 : decode cX11_fault 4 = .ok (.aload_n 0, 1) := by decide +kernel
theorem d11_fault_5 : decode cX11_fault 5 = .ok (.getfield 90, 3) := by decide +kernel
theorem d11_fault_8 : decode cX11_fault 8 = .ok (.ireturn, 1) := by decide +kernel
theorem d11_fault_9 : decode cX11_fault 9 = .ok (.iload_n 1, 1) := by decide +kernel
theorem d11_fault_10 : decode cX11_fault 10 = .ok (.iconst 1, 1) := by decide +kernel
theorem d11_fault_11 : decode cX11_fault 11 = .ok (.if_icmp .ne 8, 3) := by decide +kernel
theorem d11_fault_14 : decode cX11_fault 14 = .ok (.aload_n 0, 1) := by decide +kernel
theorem d11_fault_15 : decode cX11_fault 15 = .ok (.getfield 93, 3) := by decide +kernel
theorem d11_fault_18 : decode cX11_fault 18 = .ok (.ireturn, 1) := by decide +kernel
theorem d11_fault_19 : decode cX11_fault 19 = .ok (.iconst (-1), 1) := by decide +kernel
theorem d11_fault_20 : decode cX11_fault 20 = .ok (.ireturn, 1) := by decide +kernel
abbrev K11_fault : CK Int32 := (enI, (some .int), 2, 1, none)
noncomputable def F11_fault (p0 : Int32) (σ : Ms) : Option (Int32 × Ms) :=
  if p0 ≠ 0 then (if p0 ≠ (1 : Int32) then (some ((-1 : Int32), σ))
  else (some ((σ.1 11 16), σ)))
  else (some ((σ.1 11 15), σ))
set_option maxRecDepth 100000 in
theorem mc11_fault (p0 : Int32) (σ : Ms) : MC enI yX11_fault cX11_fault 2 (some .int) 1 (F11_fault p0 σ) σ [.ref 11, .int p0] := by
  refine MC.i (by decide +kernel) (Nat.le_of_ble_eq_true rfl) ?_
  show VF (K11_fault) cX11_fault RX11 (F11_fault p0 σ) σ 0 [(0, .ref 11), (1, .int p0)] []
  unfold F11_fault
  refine v_iload_n d11_fault_0 1 rfl rfl ?_
  refine v_if_ne (tgt := 9) d11_fault_1 (by decide) ?_ ?_
  · refine v_iload_n d11_fault_9 1 rfl rfl ?_
    refine v_iconst d11_fault_10 ki_1 ?_
    refine v_icmp_ne (tgt := 19) d11_fault_11 (by decide) ?_ ?_
    · refine v_iconst d11_fault_19 ki_m1 ?_
      exact v_iret d11_fault_20 rfl rfl rfl
    · refine v_aload_n d11_fault_14 0 rfl rfl ?_
      refine v_getI d11_fault_15 faX11_93 ic_11 ?_
      exact v_iret d11_fault_18 rfl rfl rfl
  · refine v_aload_n d11_fault_4 0 rfl rfl ?_
    refine v_getI d11_fault_5 faX11_90 ic_11 ?_
    exact v_iret d11_fault_8 rfl rfl rfl
theorem d11_many_0 : decode cX11_many 0 = .ok (.iload_n 1, 1) := by decide +kernel
theorem d11_many_1 : decode cX11_many 1 = .ok (.tableswitch 127 0 6 #[43, 55, 67, 79, 91, 103, 115], 43) := by decide +kernel
theorem d11_many_44 : decode cX11_many 44 = .ok (.aload_n 0, 1) := by decide +kernel
theorem d11_many_45 : decode cX11_many 45 = .ok (.aload_n 0, 1) := by decide +kernel
theorem d11_many_46 : decode cX11_many 46 = .ok (.getfield 26, 3) := by decide +kernel
theorem d11_many_49 : decode cX11_many 49 = .ok (.getfield 183, 3) := by decide +kernel
theorem d11_many_52 : decode cX11_many 52 = .ok (.invokevirtual 186, 3) := by decide +kernel
theorem d11_many_55 : decode cX11_many 55 = .ok (.ireturn, 1) := by decide +kernel
theorem d11_many_56 : decode cX11_many 56 = .ok (.aload_n 0, 1) := by decide +kernel
theorem d11_many_57 : decode cX11_many 57 = .ok (.aload_n 0, 1) := by decide +kernel
theorem d11_many_58 : decode cX11_many 58 = .ok (.getfield 26, 3) := by decide +kernel
theorem d11_many_61 : decode cX11_many 61 = .ok (.getfield 200, 3) := by decide +kernel
theorem d11_many_64 : decode cX11_many 64 = .ok (.invokevirtual 186, 3) := by decide +kernel
theorem d11_many_67 : decode cX11_many 67 = .ok (.ireturn, 1) := by decide +kernel
theorem d11_many_68 : decode cX11_many 68 = .ok (.aload_n 0, 1) := by decide +kernel
theorem d11_many_69 : decode cX11_many 69 = .ok (.aload_n 0, 1) := by decide +kernel
theorem d11_many_70 : decode cX11_many 70 = .ok (.getfield 26, 3) := by decide +kernel
theorem d11_many_73 : decode cX11_many 73 = .ok (.getfield 203, 3) := by decide +kernel
theorem d11_many_76 : decode cX11_many 76 = .ok (.invokevirtual 186, 3) := by decide +kernel
theorem d11_many_79 : decode cX11_many 79 = .ok (.ireturn, 1) := by decide +kernel
theorem d11_many_80 : decode cX11_many 80 = .ok (.aload_n 0, 1) := by decide +kernel
theorem d11_many_81 : decode cX11_many 81 = .ok (.aload_n 0, 1) := by decide +kernel
theorem d11_many_82 : decode cX11_many 82 = .ok (.getfield 26, 3) := by decide +kernel
theorem d11_many_85 : decode cX11_many 85 = .ok (.getfield 206, 3) := by decide +kernel
theorem d11_many_88 : decode cX11_many 88 = .ok (.invokevirtual 186, 3) := by decide +kernel
theorem d11_many_91 : decode cX11_many 91 = .ok (.ireturn, 1) := by decide +kernel
theorem d11_many_92 : decode cX11_many 92 = .ok (.aload_n 0, 1) := by decide +kernel
theorem d11_many_93 : decode cX11_many 93 = .ok (.aload_n 0, 1) := by decide +kernel
theorem d11_many_94 : decode cX11_many 94 = .ok (.getfield 26, 3) := by decide +kernel
theorem d11_many_97 : decode cX11_many 97 = .ok (.getfield 209, 3) := by decide +kernel
theorem d11_many_100 : decode cX11_many 100 = .ok (.invokevirtual 186, 3) := by decide +kernel
theorem d11_many_103 : decode cX11_many 103 = .ok (.ireturn, 1) := by decide +kernel
theorem d11_many_104 : decode cX11_many 104 = .ok (.aload_n 0, 1) := by decide +kernel
theorem d11_many_105 : decode cX11_many 105 = .ok (.aload_n 0, 1) := by decide +kernel
theorem d11_many_106 : decode cX11_many 106 = .ok (.getfield 26, 3) := by decide +kernel
theorem d11_many_109 : decode cX11_many 109 = .ok (.getfield 212, 3) := by decide +kernel
theorem d11_many_112 : decode cX11_many 112 = .ok (.invokevirtual 186, 3) := by decide +kernel
theorem d11_many_115 : decode cX11_many 115 = .ok (.ireturn, 1) := by decide +kernel
theorem d11_many_116 : decode cX11_many 116 = .ok (.aload_n 0, 1) := by decide +kernel
theorem d11_many_117 : decode cX11_many 117 = .ok (.aload_n 0, 1) := by decide +kernel
theorem d11_many_118 : decode cX11_many 118 = .ok (.getfield 26, 3) := by decide +kernel
theorem d11_many_121 : decode cX11_many 121 = .ok (.getfield 215, 3) := by decide +kernel
theorem d11_many_124 : decode cX11_many 124 = .ok (.invokevirtual 186, 3) := by decide +kernel
theorem d11_many_127 : decode cX11_many 127 = .ok (.ireturn, 1) := by decide +kernel
theorem d11_many_128 : decode cX11_many 128 = .ok (.aload_n 0, 1) := by decide +kernel
theorem d11_many_129 : decode cX11_many 129 = .ok (.iconst 5, 1) := by decide +kernel
theorem d11_many_130 : decode cX11_many 130 = .ok (.invokevirtual 132, 3) := by decide +kernel
theorem d11_many_133 : decode cX11_many 133 = .ok (.ireturn, 1) := by decide +kernel
abbrev K11_many : CK Int32 := (enI, (some .int), 2, 2, none)
noncomputable def F11_many (p0 : Int32) (σ : Ms) : Option (Int32 × Ms) :=
  if p0 = (0 : Int32) then (bn (F11_told (σ.1 22 5) σ) (fun r1 t2 => some (r1, t2)))
  else (if p0 = (1 : Int32) then (bn (F11_told (σ.1 22 7) σ) (fun r3 t4 => some (r3, t4)))
  else (if p0 = (2 : Int32) then (bn (F11_told (σ.1 22 8) σ) (fun r5 t6 => some (r5, t6)))
  else (if p0 = (3 : Int32) then (bn (F11_told (σ.1 22 6) σ) (fun r7 t8 => some (r7, t8)))
  else (if p0 = (4 : Int32) then (bn (F11_told (σ.1 22 9) σ) (fun r9 t10 => some (r9, t10)))
  else (if p0 = (5 : Int32) then (bn (F11_told (σ.1 22 11) σ) (fun r11 t12 => some (r11, t12)))
  else (if p0 = (6 : Int32) then (bn (F11_told (σ.1 22 10) σ) (fun r13 t14 => some (r13, t14)))
  else (bn (F11_none (5 : Int32) σ) (fun r15 t16 => some (r15, t16)))))))))
set_option maxRecDepth 100000 in
theorem mc11_many (p0 : Int32) (σ : Ms) : MC enI yX11_many cX11_many 2 (some .int) 2 (F11_many p0 σ) σ [.ref 11, .int p0] := by
  refine MC.i (by decide +kernel) (Nat.le_of_ble_eq_true rfl) ?_
  show VF (K11_many) cX11_many RX11 (F11_many p0 σ) σ 0 [(0, .ref 11), (1, .int p0)] []
  unfold F11_many
  refine v_iload_n d11_many_0 1 rfl rfl ?_
  refine v_ite _ (fun ht0 => ?_) (fun ht0 => ?_)
  · refine v_tabIn (tgt := 44) d11_many_1 (0 : Int32) ht0 (by decide) (by decide) rfl (by decide) ?_
    refine v_aload_n d11_many_44 0 rfl rfl ?_
    refine v_aload_n d11_many_45 0 rfl rfl ?_
    refine v_getR d11_many_46 faX11_26 ic_11 rfl ?_
    refine v_getI d11_many_49 faX11_183 ic_22 ?_
    refine v_callV1i d11_many_52 (mc11_told (σ.1 22 5) σ) yv11_told mlX11_186 (Recv.obj ic_11 rfl) (by decide) (Nat.le_of_ble_eq_true rfl) fun r1 t2 => ?_
    exact v_iret d11_many_55 rfl rfl rfl
  refine v_ite _ (fun ht1 => ?_) (fun ht1 => ?_)
  · refine v_tabIn (tgt := 56) d11_many_1 (1 : Int32) ht1 (by decide) (by decide) rfl (by decide) ?_
    refine v_aload_n d11_many_56 0 rfl rfl ?_
    refine v_aload_n d11_many_57 0 rfl rfl ?_
    refine v_getR d11_many_58 faX11_26 ic_11 rfl ?_
    refine v_getI d11_many_61 faX11_200 ic_22 ?_
    refine v_callV1i d11_many_64 (mc11_told (σ.1 22 7) σ) yv11_told mlX11_186 (Recv.obj ic_11 rfl) (by decide) (Nat.le_of_ble_eq_true rfl) fun r3 t4 => ?_
    exact v_iret d11_many_67 rfl rfl rfl
  refine v_ite _ (fun ht2 => ?_) (fun ht2 => ?_)
  · refine v_tabIn (tgt := 68) d11_many_1 (2 : Int32) ht2 (by decide) (by decide) rfl (by decide) ?_
    refine v_aload_n d11_many_68 0 rfl rfl ?_
    refine v_aload_n d11_many_69 0 rfl rfl ?_
    refine v_getR d11_many_70 faX11_26 ic_11 rfl ?_
    refine v_getI d11_many_73 faX11_203 ic_22 ?_
    refine v_callV1i d11_many_76 (mc11_told (σ.1 22 8) σ) yv11_told mlX11_186 (Recv.obj ic_11 rfl) (by decide) (Nat.le_of_ble_eq_true rfl) fun r5 t6 => ?_
    exact v_iret d11_many_79 rfl rfl rfl
  refine v_ite _ (fun ht3 => ?_) (fun ht3 => ?_)
  · refine v_tabIn (tgt := 80) d11_many_1 (3 : Int32) ht3 (by decide) (by decide) rfl (by decide) ?_
    refine v_aload_n d11_many_80 0 rfl rfl ?_
    refine v_aload_n d11_many_81 0 rfl rfl ?_
    refine v_getR d11_many_82 faX11_26 ic_11 rfl ?_
    refine v_getI d11_many_85 faX11_206 ic_22 ?_
    refine v_callV1i d11_many_88 (mc11_told (σ.1 22 6) σ) yv11_told mlX11_186 (Recv.obj ic_11 rfl) (by decide) (Nat.le_of_ble_eq_true rfl) fun r7 t8 => ?_
    exact v_iret d11_many_91 rfl rfl rfl
  refine v_ite _ (fun ht4 => ?_) (fun ht4 => ?_)
  · refine v_tabIn (tgt := 92) d11_many_1 (4 : Int32) ht4 (by decide) (by decide) rfl (by decide) ?_
    refine v_aload_n d11_many_92 0 rfl rfl ?_
    refine v_aload_n d11_many_93 0 rfl rfl ?_
    refine v_getR d11_many_94 faX11_26 ic_11 rfl ?_
    refine v_getI d11_many_97 faX11_209 ic_22 ?_
    refine v_callV1i d11_many_100 (mc11_told (σ.1 22 9) σ) yv11_told mlX11_186 (Recv.obj ic_11 rfl) (by decide) (Nat.le_of_ble_eq_true rfl) fun r9 t10 => ?_
    exact v_iret d11_many_103 rfl rfl rfl
  refine v_ite _ (fun ht5 => ?_) (fun ht5 => ?_)
  · refine v_tabIn (tgt := 104) d11_many_1 (5 : Int32) ht5 (by decide) (by decide) rfl (by decide) ?_
    refine v_aload_n d11_many_104 0 rfl rfl ?_
    refine v_aload_n d11_many_105 0 rfl rfl ?_
    refine v_getR d11_many_106 faX11_26 ic_11 rfl ?_
    refine v_getI d11_many_109 faX11_212 ic_22 ?_
    refine v_callV1i d11_many_112 (mc11_told (σ.1 22 11) σ) yv11_told mlX11_186 (Recv.obj ic_11 rfl) (by decide) (Nat.le_of_ble_eq_true rfl) fun r11 t12 => ?_
    exact v_iret d11_many_115 rfl rfl rfl
  refine v_ite _ (fun ht6 => ?_) (fun ht6 => ?_)
  · refine v_tabIn (tgt := 116) d11_many_1 (6 : Int32) ht6 (by decide) (by decide) rfl (by decide) ?_
    refine v_aload_n d11_many_116 0 rfl rfl ?_
    refine v_aload_n d11_many_117 0 rfl rfl ?_
    refine v_getR d11_many_118 faX11_26 ic_11 rfl ?_
    refine v_getI d11_many_121 faX11_215 ic_22 ?_
    refine v_callV1i d11_many_124 (mc11_told (σ.1 22 10) σ) yv11_told mlX11_186 (Recv.obj ic_11 rfl) (by decide) (Nat.le_of_ble_eq_true rfl) fun r13 t14 => ?_
    exact v_iret d11_many_127 rfl rfl rfl
  refine v_tabOut (tgt := 128) d11_many_1 (by decide) (tab_out 6 (by decide) (by decide) (fun j hj => (match j, hj with | 0, _ => ht0 | 1, _ => ht1 | 2, _ => ht2 | 3, _ => ht3 | 4, _ => ht4 | 5, _ => ht5 | 6, _ => ht6 | n + 7, h => absurd h (by omega)))) ?_
  refine v_aload_n d11_many_128 0 rfl rfl ?_
  refine v_iconst d11_many_129 ki_5 ?_
  refine v_callV1i d11_many_130 (mc11_none (5 : Int32) σ) yv11_none mlX11_132 (Recv.obj ic_11 rfl) (by decide) (Nat.le_of_ble_eq_true rfl) fun r15 t16 => ?_
  exact v_iret d11_many_133 rfl rfl rfl
theorem d11_sprig_0 : decode cX11_sprig 0 = .ok (.aload_n 0, 1) := by decide +kernel
theorem d11_sprig_1 : decode cX11_sprig 1 = .ok (.getfield 26, 3) := by decide +kernel
theorem d11_sprig_4 : decode cX11_sprig 4 = .ok (.iload_n 1, 1) := by decide +kernel
theorem d11_sprig_5 : decode cX11_sprig 5 = .ok (.invokevirtual 218, 3) := by decide +kernel
theorem d11_sprig_8 : decode cX11_sprig 8 = .ok (.ifCond .ne 9, 3) := by decide +kernel
theorem d11_sprig_11 : decode cX11_sprig 11 = .ok (.aload_n 0, 1) := by decide +kernel
theorem d11_sprig_12 : decode cX11_sprig 12 = .ok (.iconst 2, 1) := by decide +kernel
theorem d11_sprig_13 : decode cX11_sprig 13 = .ok (.invokevirtual 132, 3) := by decide +kernel
theorem d11_sprig_16 : decode cX11_sprig 16 = .ok (.ireturn, 1) := by decide +kernel
theorem d11_sprig_17 : decode cX11_sprig 17 = .ok (.aload_n 0, 1) := by decide +kernel
theorem d11_sprig_18 : decode cX11_sprig 18 = .ok (.getfield 26, 3) := by decide +kernel
theorem d11_sprig_21 : decode cX11_sprig 21 = .ok (.iload_n 1, 1) := by decide +kernel
theorem d11_sprig_22 : decode cX11_sprig 22 = .ok (.invokevirtual 221, 3) := by decide +kernel
theorem d11_sprig_25 : decode cX11_sprig 25 = .ok (.istore_n 3, 1) := by decide +kernel
theorem d11_sprig_26 : decode cX11_sprig 26 = .ok (.iload_n 2, 1) := by decide +kernel
theorem d11_sprig_27 : decode cX11_sprig 27 = .ok (.tableswitch 139 0 4 #[33, 47, 83, 97, 110], 33) := by decide +kernel
theorem d11_sprig_60 : decode cX11_sprig 60 = .ok (.aload_n 0, 1) := by decide +kernel
theorem d11_sprig_61 : decode cX11_sprig 61 = .ok (.aload_n 0, 1) := by decide +kernel
theorem d11_sprig_62 : decode cX11_sprig 62 = .ok (.getfield 26, 3) := by decide +kernel
theorem d11_sprig_65 : decode cX11_sprig 65 = .ok (.getfield 224, 3) := by decide +kernel
theorem d11_sprig_68 : decode cX11_sprig 68 = .ok (.iload_n 1, 1) := by decide +kernel
theorem d11_sprig_69 : decode cX11_sprig 69 = .ok (.iaload, 1) := by decide +kernel
theorem d11_sprig_70 : decode cX11_sprig 70 = .ok (.invokevirtual 186, 3) := by decide +kernel
theorem d11_sprig_73 : decode cX11_sprig 73 = .ok (.ireturn, 1) := by decide +kernel
theorem d11_sprig_74 : decode cX11_sprig 74 = .ok (.aload_n 0, 1) := by decide +kernel
theorem d11_sprig_75 : decode cX11_sprig 75 = .ok (.getfield 26, 3) := by decide +kernel
theorem d11_sprig_78 : decode cX11_sprig 78 = .ok (.getfield 228, 3) := by decide +kernel
theorem d11_sprig_81 : decode cX11_sprig 81 = .ok (.iload_n 1, 1) := by decide +kernel
theorem d11_sprig_82 : decode cX11_sprig 82 = .ok (.iaload, 1) := by decide +kernel
theorem d11_sprig_83 : decode cX11_sprig 83 = .ok (.iconst (-1), 1) := by decide +kernel
theorem d11_sprig_84 : decode cX11_sprig 84 = .ok (.if_icmp .ne 12, 3) := by decide +kernel
theorem d11_sprig_87 : decode cX11_sprig 87 = .ok (.aload_n 0, 1) := by decide +kernel
theorem d11_sprig_88 : decode cX11_sprig 88 = .ok (.bipush 8, 2) := by decide +kernel
theorem d11_sprig_90 : decode cX11_sprig 90 = .ok (.invokevirtual 132, 3) := by decide +kernel
theorem d11_sprig_93 : decode cX11_sprig 93 = .ok (.goto 16, 3) := by decide +kernel
theorem d11_sprig_96 : decode cX11_sprig 96 = .ok (.aload_n 0, 1) := by decide +kernel
theorem d11_sprig_97 : decode cX11_sprig 97 = .ok (.aload_n 0, 1) := by decide +kernel
theorem d11_sprig_98 : decode cX11_sprig 98 = .ok (.getfield 26, 3) := by decide +kernel
theorem d11_sprig_101 : decode cX11_sprig 101 = .ok (.getfield 228, 3) := by decide +kernel
theorem d11_sprig_104 : decode cX11_sprig 104 = .ok (.iload_n 1, 1) := by decide +kernel
theorem d11_sprig_105 : decode cX11_sprig 105 = .ok (.iaload, 1) := by decide +kernel
theorem d11_sprig_106 : decode cX11_sprig 106 = .ok (.invokevirtual 186, 3) := by decide +kernel
theorem d11_sprig_109 : decode cX11_sprig 109 = .ok (.ireturn, 1) := by decide +kernel
theorem d11_sprig_110 : decode cX11_sprig 110 = .ok (.aload_n 0, 1) := by decide +kernel
theorem d11_sprig_111 : decode cX11_sprig 111 = .ok (.iload_n 3, 1) := by decide +kernel
theorem d11_sprig_112 : decode cX11_sprig 112 = .ok (.ifCond .eq 7, 3) := by decide +kernel
theorem d11_sprig_115 : decode cX11_sprig 115 = .ok (.iconst 1, 1) := by decide +kernel
theorem d11_sprig_116 : decode cX11_sprig 116 = .ok (.goto 4, 3) := by decide +kernel
theorem d11_sprig_119 : decode cX11_sprig 119 = .ok (.iconst 0, 1) := by decide +kernel
theorem d11_sprig_120 : decode cX11_sprig 120 = .ok (.invokevirtual 186, 3) := by decide +kernel
theorem d11_sprig_123 : decode cX11_sprig 123 = .ok (.ireturn, 1) := by decide +kernel
theorem d11_sprig_124 : decode cX11_sprig 124 = .ok (.aload_n 0, 1) := by decide +kernel
theorem d11_sprig_125 : decode cX11_sprig 125 = .ok (.aload_n 0, 1) := by decide +kernel
theorem d11_sprig_126 : decode cX11_sprig 126 = .ok (.getfield 26, 3) := by decide +kernel
theorem d11_sprig_129 : decode cX11_sprig 129 = .ok (.iload_n 1, 1) := by decide +kernel
theorem d11_sprig_130 : decode cX11_sprig 130 = .ok (.invokevirtual 231, 3) := by decide +kernel
theorem d11_sprig_133 : decode cX11_sprig 133 = .ok (.invokevirtual 186, 3) := by decide +kernel
theorem d11_sprig_136 : decode cX11_sprig 136 = .ok (.ireturn, 1) := by decide +kernel
theorem d11_sprig_137 : decode cX11_sprig 137 = .ok (.iload_n 3, 1) := by decide +kernel
theorem d11_sprig_138 : decode cX11_sprig 138 = .ok (.ifCond .eq 21, 3) := by decide +kernel
theorem d11_sprig_141 : decode cX11_sprig 141 = .ok (.aload_n 0, 1) := by decide +kernel
theorem d11_sprig_142 : decode cX11_sprig 142 = .ok (.aload_n 0, 1) := by decide +kernel
theorem d11_sprig_143 : decode cX11_sprig 143 = .ok (.getfield 26, 3) := by decide +kernel
theorem d11_sprig_146 : decode cX11_sprig 146 = .ok (.iload_n 1, 1) := by decide +kernel
theorem d11_sprig_147 : decode cX11_sprig 147 = .ok (.invokevirtual 234, 3) := by decide +kernel
theorem d11_sprig_150 : decode cX11_sprig 150 = .ok (.invokestatic 237, 3) := by decide +kernel
theorem d11_sprig_153 : decode cX11_sprig 153 = .ok (.invokevirtual 186, 3) := by decide +kernel
theorem d11_sprig_156 : decode cX11_sprig 156 = .ok (.goto 9, 3) := by decide +kernel
theorem d11_sprig_159 : decode cX11_sprig 159 = .ok (.aload_n 0, 1) := by decide +kernel
theorem d11_sprig_160 : decode cX11_sprig 160 = .ok (.bipush 8, 2) := by decide +kernel
theorem d11_sprig_162 : decode cX11_sprig 162 = .ok (.invokevirtual 132, 3) := by decide +kernel
theorem d11_sprig_165 : decode cX11_sprig 165 = .ok (.ireturn, 1) := by decide +kernel
theorem d11_sprig_166 : decode cX11_sprig 166 = .ok (.aload_n 0, 1) := by decide +kernel
theorem d11_sprig_167 : decode cX11_sprig 167 = .ok (.iconst 5, 1) := by decide +kernel
theorem d11_sprig_168 : decode cX11_sprig 168 = .ok (.invokevirtual 132, 3) := by decide +kernel
theorem d11_sprig_171 : decode cX11_sprig 171 = .ok (.ireturn, 1) := by decide +kernel
abbrev K11_sprig : CK Int32 := (enI, (some .int), 4, 4, none)
noncomputable def F11_sprig (N : Nat) (p0 : Int32) (p1 : Int32) (σ : Ms) : Option (Int32 × Ms) :=
  bn (F0_hasSprig 22 p0 σ) (fun r1 t2 => if r1 ≠ 0 then (bn (F0_isStanding 22 p0 t2) (fun r3 t4 => if p1 = (0 : Int32) then (ck (ixb p0 20) (bn (F11_told (t4.1 23 p0.toNatClampNeg) t4) (fun r5 t6 => some (r5, t6))))
  else (if p1 = (1 : Int32) then (ck (ixb p0 20) (if (t4.1 24 p0.toNatClampNeg) ≠ (-1 : Int32) then (ck (ixb p0 20) (bn (F11_told (t4.1 24 p0.toNatClampNeg) t4) (fun r7 t8 => some (r7, t8))))
  else (bn (F11_none (8 : Int32) t4) (fun r9 t10 => some (r9, t10)))))
  else (if p1 = (2 : Int32) then (if r3 = 0 then (bn (F11_told (0 : Int32) t4) (fun r11 t12 => some (r11, t12)))
  else (bn (F11_told (1 : Int32) t4) (fun r13 t14 => some (r13, t14))))
  else (if p1 = (3 : Int32) then (bn (F0_rightOn N 22 p0 t4) (fun r15 t16 => bn (F11_told r15 t16) (fun r17 t18 => some (r17, t18))))
  else (if p1 = (4 : Int32) then (if r3 = 0 then (bn (F11_none (8 : Int32) t4) (fun r19 t20 => some (r19, t20)))
  else (bn (F0_branchSet N 22 p0 t4) (fun r21 t22 => bn (FJ6_bitCount_0f7a4 r21 t22) (fun r23 t24 => bn (F11_told r23 t24) (fun r25 t26 => some (r25, t26))))))
  else (bn (F11_none (5 : Int32) t4) (fun r27 t28 => some (r27, t28)))))))))
  else (bn (F11_none (2 : Int32) t2) (fun r29 t30 => some (r29, t30))))
set_option maxRecDepth 100000 in
theorem mc11_sprig (N : Nat) (p0 : Int32) (p1 : Int32) (σ : Ms) : MC enI yX11_sprig cX11_sprig 4 (some .int) 4 (F11_sprig N p0 p1 σ) σ [.ref 11, .int p0, .int p1] := by
  refine MC.i (by decide +kernel) (Nat.le_of_ble_eq_true rfl) ?_
  show VF (K11_sprig) cX11_sprig RX11 (F11_sprig N p0 p1 σ) σ 0 [(0, .ref 11), (1, .int p0), (2, .int p1)] []
  unfold F11_sprig
  refine v_aload_n d11_sprig_0 0 rfl rfl ?_
  refine v_getR d11_sprig_1 faX11_26 ic_11 rfl ?_
  refine v_iload_n d11_sprig_4 1 rfl rfl ?_
  refine v_callV1i d11_sprig_5 (mc0_hasSprig 22 ic_22 p0 σ) yv0_hasSprig mlX11_218 (Recv.obj ic_22 rfl) (by decide) (Nat.le_of_ble_eq_true rfl) fun r1 t2 => ?_
  refine v_if_ne (tgt := 17) d11_sprig_8 (by decide) ?_ ?_
  · refine v_aload_n d11_sprig_17 0 rfl rfl ?_
    refine v_getR d11_sprig_18 faX11_26 ic_11 rfl ?_
    refine v_iload_n d11_sprig_21 1 rfl rfl ?_
    refine v_callV1i d11_sprig_22 (mc0_isStanding 22 ic_22 p0 t2) yv0_isStanding mlX11_221 (Recv.obj ic_22 rfl) (by decide) (Nat.le_of_ble_eq_true rfl) fun r3 t4 => ?_
    refine v_istore_n (lv' := [(3, .int r3), (0, .ref 11), (1, .int p0), (2, .int p1)]) d11_sprig_25 rfl (by decide) rfl ?_
    refine v_iload_n d11_sprig_26 3 rfl rfl ?_
    refine v_ite _ (fun ht0 => ?_) (fun ht0 => ?_)
    · refine v_tabIn (tgt := 60) d11_sprig_27 (0 : Int32) ht0 (by decide) (by decide) rfl (by decide) ?_
      refine v_aload_n d11_sprig_60 1 rfl rfl ?_
      refine v_aload_n d11_sprig_61 1 rfl rfl ?_
      refine v_getR d11_sprig_62 faX11_26 ic_11 rfl ?_
      refine v_getR d11_sprig_65 faX11_224 ic_22 rfl ?_
      refine v_iload_n d11_sprig_68 2 rfl rfl ?_
      refine v_iald d11_sprig_69 ic_23 ?_
      refine v_callV1i d11_sprig_70 (mc11_told (t4.1 23 p0.toNatClampNeg) t4) yv11_told mlX11_186 (Recv.obj ic_11 rfl) (by decide) (Nat.le_of_ble_eq_true rfl) fun r5 t6 => ?_
      exact v_iret d11_sprig_73 rfl rfl rfl
    refine v_ite _ (fun ht1 => ?_) (fun ht1 => ?_)
    · refine v_tabIn (tgt := 74) d11_sprig_27 (1 : Int32) ht1 (by decide) (by decide) rfl (by decide) ?_
      refine v_aload_n d11_sprig_74 1 rfl rfl ?_
      refine v_getR d11_sprig_75 faX11_26 ic_11 rfl ?_
      refine v_getR d11_sprig_78 faX11_228 ic_22 rfl ?_
      refine v_iload_n d11_sprig_81 2 rfl rfl ?_
      refine v_iald d11_sprig_82 ic_24 ?_
      refine v_iconst d11_sprig_83 ki_m1 ?_
      refine v_icmp_ne (tgt := 96) d11_sprig_84 (by decide) ?_ ?_
      · refine v_aload_n d11_sprig_96 1 rfl rfl ?_
        refine v_aload_n d11_sprig_97 1 rfl rfl ?_
        refine v_getR d11_sprig_98 faX11_26 ic_11 rfl ?_
        refine v_getR d11_sprig_101 faX11_228 ic_22 rfl ?_
        refine v_iload_n d11_sprig_104 2 rfl rfl ?_
        refine v_iald d11_sprig_105 ic_24 ?_
        refine v_callV1i d11_sprig_106 (mc11_told (t4.1 24 p0.toNatClampNeg) t4) yv11_told mlX11_186 (Recv.obj ic_11 rfl) (by decide) (Nat.le_of_ble_eq_true rfl) fun r7 t8 => ?_
        exact v_iret d11_sprig_109 rfl rfl rfl
      · refine v_aload_n d11_sprig_87 1 rfl rfl ?_
        refine v_bipush d11_sprig_88 kb_8 ?_
        refine v_callV1i d11_sprig_90 (mc11_none (8 : Int32) t4) yv11_none mlX11_132 (Recv.obj ic_11 rfl) (by decide) (Nat.le_of_ble_eq_true rfl) fun r9 t10 => ?_
        refine v_goto (tgt := 109) d11_sprig_93 (by decide) ?_
        exact v_iret d11_sprig_109 rfl rfl rfl
    refine v_ite _ (fun ht2 => ?_) (fun ht2 => ?_)
    · refine v_tabIn (tgt := 110) d11_sprig_27 (2 : Int32) ht2 (by decide) (by decide) rfl (by decide) ?_
      refine v_aload_n d11_sprig_110 1 rfl rfl ?_
      refine v_iload_n d11_sprig_111 0 rfl rfl ?_
      refine v_if_eq (tgt := 119) d11_sprig_112 (by decide) ?_ ?_
      · refine v_iconst d11_sprig_119 ki_0 ?_
        refine v_callV1i d11_sprig_120 (mc11_told (0 : Int32) t4) yv11_told mlX11_186 (Recv.obj ic_11 rfl) (by decide) (Nat.le_of_ble_eq_true rfl) fun r11 t12 => ?_
        exact v_iret d11_sprig_123 rfl rfl rfl
      · refine v_iconst d11_sprig_115 ki_1 ?_
        refine v_goto (tgt := 120) d11_sprig_116 (by decide) ?_
        refine v_callV1i d11_sprig_120 (mc11_told (1 : Int32) t4) yv11_told mlX11_186 (Recv.obj ic_11 rfl) (by decide) (Nat.le_of_ble_eq_true rfl) fun r13 t14 => ?_
        exact v_iret d11_sprig_123 rfl rfl rfl
    refine v_ite _ (fun ht3 => ?_) (fun ht3 => ?_)
    · refine v_tabIn (tgt := 124) d11_sprig_27 (3 : Int32) ht3 (by decide) (by decide) rfl (by decide) ?_
      refine v_aload_n d11_sprig_124 1 rfl rfl ?_
      refine v_aload_n d11_sprig_125 1 rfl rfl ?_
      refine v_getR d11_sprig_126 faX11_26 ic_11 rfl ?_
      refine v_iload_n d11_sprig_129 2 rfl rfl ?_
      refine v_callV1i d11_sprig_130 (mc0_rightOn N 22 ic_22 p0 t4) yv0_rightOn mlX11_231 (Recv.obj ic_22 rfl) (by decide) (Nat.le_of_ble_eq_true rfl) fun r15 t16 => ?_
      refine v_callV1i d11_sprig_133 (mc11_told r15 t16) yv11_told mlX11_186 (Recv.obj ic_11 rfl) (by decide) (Nat.le_of_ble_eq_true rfl) fun r17 t18 => ?_
      exact v_iret d11_sprig_136 rfl rfl rfl
    refine v_ite _ (fun ht4 => ?_) (fun ht4 => ?_)
    · refine v_tabIn (tgt := 137) d11_sprig_27 (4 : Int32) ht4 (by decide) (by decide) rfl (by decide) ?_
      refine v_iload_n d11_sprig_137 0 rfl rfl ?_
      refine v_if_eq (tgt := 159) d11_sprig_138 (by decide) ?_ ?_
      · refine v_aload_n d11_sprig_159 1 rfl rfl ?_
        refine v_bipush d11_sprig_160 kb_8 ?_
        refine v_callV1i d11_sprig_162 (mc11_none (8 : Int32) t4) yv11_none mlX11_132 (Recv.obj ic_11 rfl) (by decide) (Nat.le_of_ble_eq_true rfl) fun r19 t20 => ?_
        exact v_iret d11_sprig_165 rfl rfl rfl
      · refine v_aload_n d11_sprig_141 1 rfl rfl ?_
        refine v_aload_n d11_sprig_142 1 rfl rfl ?_
        refine v_getR d11_sprig_143 faX11_26 ic_11 rfl ?_
        refine v_iload_n d11_sprig_146 2 rfl rfl ?_
        refine v_callV1i d11_sprig_147 (mc0_branchSet N 22 ic_22 p0 t4) yv0_branchSet mlX11_234 (Recv.obj ic_22 rfl) (by decide) (Nat.le_of_ble_eq_true rfl) fun r21 t22 => ?_
        refine v_callS1i d11_sprig_150 (mcJ6_bitCount_0f7a4 r21 t22) ysJ6_bitCount_0f7a4 mlX11_237 (by decide) (Nat.le_of_ble_eq_true rfl) fun r23 t24 => ?_
        refine v_callV1i d11_sprig_153 (mc11_told r23 t24) yv11_told mlX11_186 (Recv.obj ic_11 rfl) (by decide) (Nat.le_of_ble_eq_true rfl) fun r25 t26 => ?_
        refine v_goto (tgt := 165) d11_sprig_156 (by decide) ?_
        exact v_iret d11_sprig_165 rfl rfl rfl
    refine v_tabOut (tgt := 166) d11_sprig_27 (by decide) (tab_out 4 (by decide) (by decide) (fun j hj => (match j, hj with | 0, _ => ht0 | 1, _ => ht1 | 2, _ => ht2 | 3, _ => ht3 | 4, _ => ht4 | n + 5, h => absurd h (by omega)))) ?_
    refine v_aload_n d11_sprig_166 1 rfl rfl ?_
    refine v_iconst d11_sprig_167 ki_5 ?_
    refine v_callV1i d11_sprig_168 (mc11_none (5 : Int32) t4) yv11_none mlX11_132 (Recv.obj ic_11 rfl) (by decide) (Nat.le_of_ble_eq_true rfl) fun r27 t28 => ?_
    exact v_iret d11_sprig_171 rfl rfl rfl
  · refine v_aload_n d11_sprig_11 0 rfl rfl ?_
    refine v_iconst d11_sprig_12 ki_2 ?_
    refine v_callV1i d11_sprig_13 (mc11_none (2 : Int32) t2) yv11_none mlX11_132 (Recv.obj ic_11 rfl) (by decide) (Nat.le_of_ble_eq_true rfl) fun r29 t30 => ?_
    exact v_iret d11_sprig_16 rfl rfl rfl
theorem d11_heap_0 : decode cX11_heap 0 = .ok (.aload_n 0, 1) := by decide +kernel
theorem d11_heap_1 : decode cX11_heap 1 = .ok (.getfield 26, 3) := by decide +kernel
theorem d11_heap_4 : decode cX11_heap 4 = .ok (.iload_n 1, 1) := by decide +kernel
theorem d11_heap_5 : decode cX11_heap 5 = .ok (.invokevirtual 242, 3) := by decide +kernel
theorem d11_heap_8 : decode cX11_heap 8 = .ok (.ifCond .ne 9, 3) := by decide +kernel
theorem d11_heap_11 : decode cX11_heap 11 = .ok (.aload_n 0, 1) := by decide +kernel
theorem d11_heap_12 : decode cX11_heap 12 = .ok (.iconst 2, 1) := by decide +kernel
theorem d11_heap_13 : decode cX11_heap 13 = .ok (.invokevirtual 132, 3) := by decide +kernel
theorem d11_heap_16 : decode cX11_heap 16 = .ok (.ireturn, 1) := by decide +kernel
theorem d11_heap_17 : decode cX11_heap 17 = .ok (.aload_n 0, 1) := by decide +kernel
theorem d11_heap_18 : decode cX11_heap 18 = .ok (.aload_n 0, 1) := by decide +kernel
theorem d11_heap_19 : decode cX11_heap 19 = .ok (.getfield 26, 3) := by decide +kernel
theorem d11_heap_22 : decode cX11_heap 22 = .ok (.getfield 245, 3) := by decide +kernel
theorem d11_heap_25 : decode cX11_heap 25 = .ok (.iload_n 1, 1) := by decide +kernel
theorem d11_heap_26 : decode cX11_heap 26 = .ok (.iaload, 1) := by decide +kernel
theorem d11_heap_27 : decode cX11_heap 27 = .ok (.invokevirtual 186, 3) := by decide +kernel
theorem d11_heap_30 : decode cX11_heap 30 = .ok (.ireturn, 1) := by decide +kernel
abbrev K11_heap : CK Int32 := (enI, (some .int), 2, 2, none)
noncomputable def F11_heap (p0 : Int32) (σ : Ms) : Option (Int32 × Ms) :=
  bn (F0_hasHeap 22 p0 σ) (fun r1 t2 => if r1 ≠ 0 then (ck (ixb p0 4) (bn (F11_told (t2.1 25 p0.toNatClampNeg) t2) (fun r3 t4 => some (r3, t4))))
  else (bn (F11_none (2 : Int32) t2) (fun r5 t6 => some (r5, t6))))
set_option maxRecDepth 100000 in
theorem mc11_heap (p0 : Int32) (σ : Ms) : MC enI yX11_heap cX11_heap 2 (some .int) 2 (F11_heap p0 σ) σ [.ref 11, .int p0] := by
  refine MC.i (by decide +kernel) (Nat.le_of_ble_eq_true rfl) ?_
  show VF (K11_heap) cX11_heap RX11 (F11_heap p0 σ) σ 0 [(0, .ref 11), (1, .int p0)] []
  unfold F11_heap
  refine v_aload_n d11_heap_0 0 rfl rfl ?_
  refine v_getR d11_heap_1 faX11_26 ic_11 rfl ?_
  refine v_iload_n d11_heap_4 1 rfl rfl ?_
  refine v_callV1i d11_heap_5 (mc0_hasHeap 22 ic_22 p0 σ) yv0_hasHeap mlX11_242 (Recv.obj ic_22 rfl) (by decide) (Nat.le_of_ble_eq_true rfl) fun r1 t2 => ?_
  refine v_if_ne (tgt := 17) d11_heap_8 (by decide) ?_ ?_
  · refine v_aload_n d11_heap_17 0 rfl rfl ?_
    refine v_aload_n d11_heap_18 0 rfl rfl ?_
    refine v_getR d11_heap_19 faX11_26 ic_11 rfl ?_
    refine v_getR d11_heap_22 faX11_245 ic_22 rfl ?_
    refine v_iload_n d11_heap_25 1 rfl rfl ?_
    refine v_iald d11_heap_26 ic_25 ?_
    refine v_callV1i d11_heap_27 (mc11_told (t2.1 25 p0.toNatClampNeg) t2) yv11_told mlX11_186 (Recv.obj ic_11 rfl) (by decide) (Nat.le_of_ble_eq_true rfl) fun r3 t4 => ?_
    exact v_iret d11_heap_30 rfl rfl rfl
  · refine v_aload_n d11_heap_11 0 rfl rfl ?_
    refine v_iconst d11_heap_12 ki_2 ?_
    refine v_callV1i d11_heap_13 (mc11_none (2 : Int32) t2) yv11_none mlX11_132 (Recv.obj ic_11 rfl) (by decide) (Nat.le_of_ble_eq_true rfl) fun r5 t6 => ?_
    exact v_iret d11_heap_16 rfl rfl rfl
theorem d11_isSide_0 : decode cX11_isSide 0 = .ok (.iload_n 0, 1) := by decide +kernel
theorem d11_isSide_1 : decode cX11_isSide 1 = .ok (.ifCond .eq 8, 3) := by decide +kernel
theorem d11_isSide_4 : decode cX11_isSide 4 = .ok (.iload_n 0, 1) := by decide +kernel
theorem d11_isSide_5 : decode cX11_isSide 5 = .ok (.iconst 1, 1) := by decide +kernel
theorem d11_isSide_6 : decode cX11_isSide 6 = .ok (.if_icmp .ne 7, 3) := by decide +kernel
theorem d11_isSide_9 : decode cX11_isSide 9 = .ok (.iconst 1, 1) := by decide +kernel
theorem d11_isSide_10 : decode cX11_isSide 10 = .ok (.goto 4, 3) := by decide +kernel
theorem d11_isSide_13 : decode cX11_isSide 13 = .ok (.iconst 0, 1) := by decide +kernel
theorem d11_isSide_14 : decode cX11_isSide 14 = .ok (.ireturn, 1) := by decide +kernel
abbrev K11_isSide : CK Int32 := (enI, (some .boolean), 1, 1, none)
noncomputable def F11_isSide_b9 (σ : Ms) : Option (Int32 × Ms) :=
  some ((1 : Int32), σ)
noncomputable def F11_isSide (p0 : Int32) (σ : Ms) : Option (Int32 × Ms) :=
  if p0 = 0 then (F11_isSide_b9 σ)
  else (if p0 ≠ (1 : Int32) then (some ((0 : Int32), σ))
  else (F11_isSide_b9 σ))
set_option maxRecDepth 100000 in
theorem v11_isSide_b9 (σ : Ms) : VF (K11_isSide) cX11_isSide RX11 (F11_isSide_b9 σ) σ 9 [] [] := by
  unfold F11_isSide_b9
  refine v_iconst d11_isSide_9 ki_1 ?_
  refine v_goto (tgt := 14) d11_isSide_10 (by decide) ?_
  exact v_iret (ty := .boolean) d11_isSide_14 rfl rfl rfl
set_option maxRecDepth 100000 in
theorem mc11_isSide (p0 : Int32) (σ : Ms) : MC enI yX11_isSide cX11_isSide 1 (some .boolean) 1 (F11_isSide p0 σ) σ [.int p0] := by
  refine MC.i (by decide +kernel) (Nat.le_of_ble_eq_true rfl) ?_
  show VF (K11_isSide) cX11_isSide RX11 (F11_isSide p0 σ) σ 0 [(0, .int p0)] []
  unfold F11_isSide
  refine v_iload_n d11_isSide_0 0 rfl rfl ?_
  refine v_if_eq (tgt := 9) d11_isSide_1 (by decide) ?_ ?_
  · refine v_sub [] rfl ?_
    exact v11_isSide_b9 σ
  · refine v_iload_n d11_isSide_4 0 rfl rfl ?_
    refine v_iconst d11_isSide_5 ki_1 ?_
    refine v_icmp_ne (tgt := 13) d11_isSide_6 (by decide) ?_ ?_
    · refine v_iconst d11_isSide_13 ki_0 ?_
      exact v_iret (ty := .boolean) d11_isSide_14 rfl rfl rfl
    · refine v_sub [] rfl ?_
      exact v11_isSide_b9 σ
theorem d11_bet_0 : decode cX11_bet 0 = .ok (.aload_n 0, 1) := by decide +kernel
theorem d11_bet_1 : decode cX11_bet 1 = .ok (.getfield 26, 3) := by decide +kernel
theorem d11_bet_4 : decode cX11_bet 4 = .ok (.iload_n 1, 1) := by decide +kernel
theorem d11_bet_5 : decode cX11_bet 5 = .ok (.invokevirtual 248, 3) := by decide +kernel
theorem d11_bet_8 : decode cX11_bet 8 = .ok (.ifCond .eq 10, 3) := by decide +kernel
theorem d11_bet_11 : decode cX11_bet 11 = .ok (.iload_n 2, 1) := by decide +kernel
theorem d11_bet_12 : decode cX11_bet 12 = .ok (.invokestatic 251, 3) := by decide +kernel
theorem d11_bet_15 : decode cX11_bet 15 = .ok (.ifCond .ne 9, 3) := by decide +kernel
theorem d11_bet_18 : decode cX11_bet 18 = .ok (.aload_n 0, 1) := by decide +kernel
theorem d11_bet_19 : decode cX11_bet 19 = .ok (.iconst 2, 1) := by decide +kernel
theorem d11_bet_20 : decode cX11_bet 20 = .ok (.invokevirtual 132, 3) := by decide +kernel
theorem d11_bet_23 : decode cX11_bet 23 = .ok (.ireturn, 1) := by decide +kernel
theorem d11_bet_24 : decode cX11_bet 24 = .ok (.aload_n 0, 1) := by decide +kernel
theorem d11_bet_25 : decode cX11_bet 25 = .ok (.aload_n 0, 1) := by decide +kernel
theorem d11_bet_26 : decode cX11_bet 26 = .ok (.getfield 26, 3) := by decide +kernel
theorem d11_bet_29 : decode cX11_bet 29 = .ok (.iload_n 1, 1) := by decide +kernel
theorem d11_bet_30 : decode cX11_bet 30 = .ok (.iload_n 2, 1) := by decide +kernel
theorem d11_bet_31 : decode cX11_bet 31 = .ok (.invokevirtual 254, 3) := by decide +kernel
theorem d11_bet_34 : decode cX11_bet 34 = .ok (.invokevirtual 186, 3) := by decide +kernel
theorem d11_bet_37 : decode cX11_bet 37 = .ok (.ireturn, 1) := by decide +kernel
abbrev K11_bet : CK Int32 := (enI, (some .int), 3, 3, none)
noncomputable def F11_bet_b18 (σ : Ms) : Option (Int32 × Ms) :=
  bn (F11_none (2 : Int32) σ) (fun r1 t2 => some (r1, t2))
noncomputable def F11_bet (p0 : Int32) (p1 : Int32) (σ : Ms) : Option (Int32 × Ms) :=
  bn (F0_hasBet 22 p0 σ) (fun r3 t4 => if r3 = 0 then (F11_bet_b18 t4)
  else (bn (F11_isSide p1 t4) (fun r5 t6 => if r5 ≠ 0 then (bn (F0_betFor 22 p0 p1 t6) (fun r7 t8 => bn (F11_told r7 t8) (fun r9 t10 => some (r9, t10))))
  else (F11_bet_b18 t6))))
set_option maxRecDepth 100000 in
theorem v11_bet_b18 (σ : Ms) : VF (K11_bet) cX11_bet RX11 (F11_bet_b18 σ) σ 18 [(0, .ref 11)] [] := by
  unfold F11_bet_b18
  refine v_aload_n d11_bet_18 0 rfl rfl ?_
  refine v_iconst d11_bet_19 ki_2 ?_
  refine v_callV1i d11_bet_20 (mc11_none (2 : Int32) σ) yv11_none mlX11_132 (Recv.obj ic_11 rfl) (by decide) (Nat.le_of_ble_eq_true rfl) fun r1 t2 => ?_
  exact v_iret d11_bet_23 rfl rfl rfl
set_option maxRecDepth 100000 in
theorem mc11_bet (p0 : Int32) (p1 : Int32) (σ : Ms) : MC enI yX11_bet cX11_bet 3 (some .int) 3 (F11_bet p0 p1 σ) σ [.ref 11, .int p0, .int p1] := by
  refine MC.i (by decide +kernel) (Nat.le_of_ble_eq_true rfl) ?_
  show VF (K11_bet) cX11_bet RX11 (F11_bet p0 p1 σ) σ 0 [(0, .ref 11), (1, .int p0), (2, .int p1)] []
  unfold F11_bet
  refine v_aload_n d11_bet_0 0 rfl rfl ?_
  refine v_getR d11_bet_1 faX11_26 ic_11 rfl ?_
  refine v_iload_n d11_bet_4 1 rfl rfl ?_
  refine v_callV1i d11_bet_5 (mc0_hasBet 22 ic_22 p0 σ) yv0_hasBet mlX11_248 (Recv.obj ic_22 rfl) (by decide) (Nat.le_of_ble_eq_true rfl) fun r3 t4 => ?_
  refine v_if_eq (tgt := 18) d11_bet_8 (by decide) ?_ ?_
  · refine v_sub [0] rfl ?_
    exact v11_bet_b18 t4
  · refine v_iload_n d11_bet_11 2 rfl rfl ?_
    refine v_callS1i d11_bet_12 (mc11_isSide p1 t4) ys11_isSide mlX11_251 (by decide) (Nat.le_of_ble_eq_true rfl) fun r5 t6 => ?_
    refine v_if_ne (tgt := 24) d11_bet_15 (by decide) ?_ ?_
    · refine v_aload_n d11_bet_24 0 rfl rfl ?_
      refine v_aload_n d11_bet_25 0 rfl rfl ?_
      refine v_getR d11_bet_26 faX11_26 ic_11 rfl ?_
      refine v_iload_n d11_bet_29 1 rfl rfl ?_
      refine v_iload_n d11_bet_30 2 rfl rfl ?_
      refine v_callV2i d11_bet_31 (mc0_betFor 22 ic_22 p0 p1 t6) yv0_betFor mlX11_254 (Recv.obj ic_22 rfl) (by decide) (Nat.le_of_ble_eq_true rfl) fun r7 t8 => ?_
      refine v_callV1i d11_bet_34 (mc11_told r7 t8) yv11_told mlX11_186 (Recv.obj ic_11 rfl) (by decide) (Nat.le_of_ble_eq_true rfl) fun r9 t10 => ?_
      exact v_iret d11_bet_37 rfl rfl rfl
    · refine v_sub [0] rfl ?_
      exact v11_bet_b18 t6
theorem d11_copyColours_0 : decode cX11_copyColours 0 = .ok (.iload_n 1, 1) := by decide +kernel
theorem d11_copyColours_1 : decode cX11_copyColours 1 = .ok (.invokestatic 106, 3) := by decide +kernel
theorem d11_copyColours_4 : decode cX11_copyColours 4 = .ok (.ifCond .ne 9, 3) := by decide +kernel
theorem d11_copyColours_7 : decode cX11_copyColours 7 = .ok (.aload_n 0, 1) := by decide +kernel
theorem d11_copyColours_8 : decode cX11_copyColours 8 = .ok (.iconst 1, 1) := by decide +kernel
theorem d11_copyColours_9 : decode cX11_copyColours 9 = .ok (.invokevirtual 132, 3) := by decide +kernel
theorem d11_copyColours_12 : decode cX11_copyColours 12 = .ok (.ireturn, 1) := by decide +kernel
theorem d11_copyColours_13 : decode cX11_copyColours 13 = .ok (.aload_n 0, 1) := by decide +kernel
theorem d11_copyColours_14 : decode cX11_copyColours 14 = .ok (.getfield 12, 3) := by decide +kernel
theorem d11_copyColours_17 : decode cX11_copyColours 17 = .ok (.iload_n 1, 1) := by decide +kernel
theorem d11_copyColours_18 : decode cX11_copyColours 18 = .ok (.invokevirtual 140, 3) := by decide +kernel
theorem d11_copyColours_21 : decode cX11_copyColours 21 = .ok (.ifCond .eq 9, 3) := by decide +kernel
theorem d11_copyColours_24 : decode cX11_copyColours 24 = .ok (.aload_n 0, 1) := by decide +kernel
theorem d11_copyColours_25 : decode cX11_copyColours 25 = .ok (.iconst 3, 1) := by decide +kernel
theorem d11_copyColours_26 : decode cX11_copyColours 26 = .ok (.invokevirtual 132, 3) := by decide +kernel
theorem d11_copyColours_29 : decode cX11_copyColours 29 = .ok (.ireturn, 1) := by decide +kernel
theorem d11_copyColours_30 : decode cX11_copyColours 30 = .ok (.aload_n 0, 1) := by decide +kernel
theorem d11_copyColours_31 : decode cX11_copyColours 31 = .ok (.getfield 12, 3) := by decide +kernel
theorem d11_copyColours_34 : decode cX11_copyColours 34 = .ok (.iload_n 1, 1) := by decide +kernel
theorem d11_copyColours_35 : decode cX11_copyColours 35 = .ok (.iconst 0, 1) := by decide +kernel
theorem d11_copyColours_36 : decode cX11_copyColours 36 = .ok (.aload_n 0, 1) := by decide +kernel
theorem d11_copyColours_37 : decode cX11_copyColours 37 = .ok (.getfield 26, 3) := by decide +kernel
theorem d11_copyColours_40 : decode cX11_copyColours 40 = .ok (.getfield 183, 3) := by decide +kernel
theorem d11_copyColours_43 : decode cX11_copyColours 43 = .ok (.invokevirtual 146, 3) := by decide +kernel
theorem d11_copyColours_46 : decode cX11_copyColours 46 = .ok (.ifCond .ne 9, 3) := by decide +kernel
theorem d11_copyColours_49 : decode cX11_copyColours 49 = .ok (.aload_n 0, 1) := by decide +kernel
theorem d11_copyColours_50 : decode cX11_copyColours 50 = .ok (.iconst 4, 1) := by decide +kernel
theorem d11_copyColours_51 : decode cX11_copyColours 51 = .ok (.invokevirtual 132, 3) := by decide +kernel
theorem d11_copyColours_54 : decode cX11_copyColours 54 = .ok (.ireturn, 1) := by decide +kernel
theorem d11_copyColours_55 : decode cX11_copyColours 55 = .ok (.iconst 0, 1) := by decide +kernel
theorem d11_copyColours_56 : decode cX11_copyColours 56 = .ok (.istore_n 2, 1) := by decide +kernel
theorem d11_copyColours_57 : decode cX11_copyColours 57 = .ok (.iload_n 2, 1) := by decide +kernel
theorem d11_copyColours_58 : decode cX11_copyColours 58 = .ok (.aload_n 0, 1) := by decide +kernel
theorem d11_copyColours_59 : decode cX11_copyColours 59 = .ok (.getfield 26, 3) := by decide +kernel
theorem d11_copyColours_62 : decode cX11_copyColours 62 = .ok (.getfield 183, 3) := by decide +kernel
theorem d11_copyColours_65 : decode cX11_copyColours 65 = .ok (.if_icmp .ge 45, 3) := by decide +kernel
theorem d11_copyColours_68 : decode cX11_copyColours 68 = .ok (.aload_n 0, 1) := by decide +kernel
theorem d11_copyColours_69 : decode cX11_copyColours 69 = .ok (.getfield 12, 3) := by decide +kernel
theorem d11_copyColours_72 : decode cX11_copyColours 72 = .ok (.iload_n 1, 1) := by decide +kernel
theorem d11_copyColours_73 : decode cX11_copyColours 73 = .ok (.iload_n 2, 1) := by decide +kernel
theorem d11_copyColours_74 : decode cX11_copyColours 74 = .ok (.aload_n 0, 1) := by decide +kernel
theorem d11_copyColours_75 : decode cX11_copyColours 75 = .ok (.getfield 26, 3) := by decide +kernel
theorem d11_copyColours_78 : decode cX11_copyColours 78 = .ok (.iload_n 2, 1) := by decide +kernel
theorem d11_copyColours_79 : decode cX11_copyColours 79 = .ok (.invokevirtual 221, 3) := by decide +kernel
theorem d11_copyColours_82 : decode cX11_copyColours 82 = .ok (.ifCond .eq 16, 3) := by decide +kernel
theorem d11_copyColours_85 : decode cX11_copyColours 85 = .ok (.aload_n 0, 1) := by decide +kernel
theorem d11_copyColours_86 : decode cX11_copyColours 86 = .ok (.getfield 26, 3) := by decide +kernel
theorem d11_copyColours_89 : decode cX11_copyColours 89 = .ok (.getfield 224, 3) := by decide +kernel
theorem d11_copyColours_92 : decode cX11_copyColours 92 = .ok (.iload_n 2, 1) := by decide +kernel
theorem d11_copyColours_93 : decode cX11_copyColours 93 = .ok (.iaload, 1) := by decide +kernel
theorem d11_copyColours_94 : decode cX11_copyColours 94 = .ok (.i2l, 1) := by decide +kernel
theorem d11_copyColours_95 : decode cX11_copyColours 95 = .ok (.goto 6, 3) := by decide +kernel
theorem d11_copyColours_98 : decode cX11_copyColours 98 = .ok (.ldc2_w 257, 3) := by decide +kernel
theorem d11_copyColours_101 : decode cX11_copyColours 101 = .ok (.invokevirtual 128, 3) := by decide +kernel
theorem d11_copyColours_104 : decode cX11_copyColours 104 = .ok (.iinc 2 1, 3) := by decide +kernel
theorem d11_copyColours_107 : decode cX11_copyColours 107 = .ok (.goto (-50), 3) := by decide +kernel
theorem d11_copyColours_110 : decode cX11_copyColours 110 = .ok (.aload_n 0, 1) := by decide +kernel
theorem d11_copyColours_111 : decode cX11_copyColours 111 = .ok (.aload_n 0, 1) := by decide +kernel
theorem d11_copyColours_112 : decode cX11_copyColours 112 = .ok (.getfield 26, 3) := by decide +kernel
theorem d11_copyColours_115 : decode cX11_copyColours 115 = .ok (.getfield 183, 3) := by decide +kernel
theorem d11_copyColours_118 : decode cX11_copyColours 118 = .ok (.invokevirtual 186, 3) := by decide +kernel
theorem d11_copyColours_121 : decode cX11_copyColours 121 = .ok (.ireturn, 1) := by decide +kernel
abbrev K11_copyColours : CK Int32 := (enI, (some .int), 3, 4, none)
noncomputable def F11_copyColours_b101 (N : Nat) (k57 : Int32 × Int32 × Ms → Option (Int32 × Ms)) (l1 : Int32) (l2 : Int32) (s1 : Int32) (s2 : Int32) (s3 : Int64) (σ : Ms) : Option (Int32 × Ms) :=
  bn (F9_put s1 s2 s3 σ) (fun r1 t2 => k57 (l1, (l2 + (1 : Int32)), t2))
noncomputable def F11_copyColours_b57B (N : Nat) (k57 : Int32 × Int32 × Ms → Option (Int32 × Ms)) (l1 : Int32) (l2 : Int32) (σ : Ms) : Option (Int32 × Ms) :=
  if (σ.1 22 5) ≤ l2 then (bn (F11_told (σ.1 22 5) σ) (fun r3 t4 => some (r3, t4)))
  else (bn (F0_isStanding 22 l2 σ) (fun r5 t6 => if r5 = 0 then (F11_copyColours_b101 N k57 l1 l2 l1 l2 (3 : Int64) t6)
  else (ck (ixb l2 20) (F11_copyColours_b101 N k57 l1 l2 l1 l2 ((t6.1 23 l2.toNatClampNeg).toInt64) t6))))
noncomputable def F11_copyColours_b57 (N : Nat) (l1 : Int32) (l2 : Int32) (σ : Ms) : Option (Int32 × Ms) :=
  fx N (fun k x => F11_copyColours_b57B N k x.1 x.2.1 x.2.2) (l1, l2, σ)
noncomputable def F11_copyColours (N : Nat) (p0 : Int32) (σ : Ms) : Option (Int32 × Ms) :=
  bn (F9_isTray p0 σ) (fun r7 t8 => if r7 ≠ 0 then (bn (F9_isMissing p0 t8) (fun r9 t10 => if r9 = 0 then (bn (F9_holds p0 (0 : Int32) (t10.1 22 5) t10) (fun r11 t12 => if r11 ≠ 0 then (F11_copyColours_b57 N p0 (0 : Int32) t12)
  else (bn (F11_none (4 : Int32) t12) (fun r13 t14 => some (r13, t14)))))
  else (bn (F11_none (3 : Int32) t10) (fun r15 t16 => some (r15, t16)))))
  else (bn (F11_none (1 : Int32) t8) (fun r17 t18 => some (r17, t18))))
set_option maxRecDepth 100000 in
theorem v11_copyColours_b101 (N : Nat) (k57 : Int32 × Int32 × Ms → Option (Int32 × Ms)) (hk57 : ∀ (l1 : Int32) (l2 : Int32) (τ : Ms), VF (K11_copyColours) cX11_copyColours RX11 (k57 (l1, l2, τ)) τ 57 [(0, .ref 11), (1, .int l1), (2, .int l2)] []) (l1 : Int32) (l2 : Int32) (s1 : Int32) (s2 : Int32) (s3 : Int64) (σ : Ms) : VF (K11_copyColours) cX11_copyColours RX11 (F11_copyColours_b101 N k57 l1 l2 s1 s2 s3 σ) σ 101 [(0, .ref 11), (1, .int l1), (2, .int l2)] [.long s3, .int s2, .int s1, .ref 12] := by
  unfold F11_copyColours_b101
  refine v_callV3v d11_copyColours_101 (mc9_put s1 s2 s3 σ) yv9_put mlX11_128 (Recv.obj ic_12 rfl) (by decide) (Nat.le_of_ble_eq_true rfl) fun r1 t2 => ?_
  refine v_iinc (lv' := [(2, .int (l2 + (1 : Int32))), (0, .ref 11), (1, .int l1)]) d11_copyColours_104 2 rfl (by rw [ki_1]) (by decide) rfl ?_
  refine v_goto (tgt := 57) d11_copyColours_107 (by decide) ?_
  refine v_sub [1, 2, 0] rfl ?_
  exact hk57 l1 (l2 + (1 : Int32)) t2
set_option maxRecDepth 100000 in
theorem v11_copyColours_b57B (N : Nat) (k57 : Int32 × Int32 × Ms → Option (Int32 × Ms)) (hk57 : ∀ (l1 : Int32) (l2 : Int32) (τ : Ms), VF (K11_copyColours) cX11_copyColours RX11 (k57 (l1, l2, τ)) τ 57 [(0, .ref 11), (1, .int l1), (2, .int l2)] []) (l1 : Int32) (l2 : Int32) (σ : Ms) : VF (K11_copyColours) cX11_copyColours RX11 (F11_copyColours_b57B N k57 l1 l2 σ) σ 57 [(0, .ref 11), (1, .int l1), (2, .int l2)] [] := by
  unfold F11_copyColours_b57B
  refine v_iload_n d11_copyColours_57 2 rfl rfl ?_
  refine v_aload_n d11_copyColours_58 0 rfl rfl ?_
  refine v_getR d11_copyColours_59 faX11_26 ic_11 rfl ?_
  refine v_getI d11_copyColours_62 faX11_183 ic_22 ?_
  refine v_icmp_ge (tgt := 110) d11_copyColours_65 (by decide) ?_ ?_
  · refine v_aload_n d11_copyColours_110 0 rfl rfl ?_
    refine v_aload_n d11_copyColours_111 0 rfl rfl ?_
    refine v_getR d11_copyColours_112 faX11_26 ic_11 rfl ?_
    refine v_getI d11_copyColours_115 faX11_183 ic_22 ?_
    refine v_callV1i d11_copyColours_118 (mc11_told (σ.1 22 5) σ) yv11_told mlX11_186 (Recv.obj ic_11 rfl) (by decide) (Nat.le_of_ble_eq_true rfl) fun r3 t4 => ?_
    exact v_iret d11_copyColours_121 rfl rfl rfl
  · refine v_aload_n d11_copyColours_68 0 rfl rfl ?_
    refine v_getR d11_copyColours_69 faX11_12 ic_11 rfl ?_
    refine v_iload_n d11_copyColours_72 1 rfl rfl ?_
    refine v_iload_n d11_copyColours_73 2 rfl rfl ?_
    refine v_aload_n d11_copyColours_74 0 rfl rfl ?_
    refine v_getR d11_copyColours_75 faX11_26 ic_11 rfl ?_
    refine v_iload_n d11_copyColours_78 2 rfl rfl ?_
    refine v_callV1i d11_copyColours_79 (mc0_isStanding 22 ic_22 l2 σ) yv0_isStanding mlX11_221 (Recv.obj ic_22 rfl) (by decide) (Nat.le_of_ble_eq_true rfl) fun r5 t6 => ?_
    refine v_if_eq (tgt := 98) d11_copyColours_82 (by decide) ?_ ?_
    · refine v_ldc2 d11_copyColours_98 klX11_257 ?_
      exact v11_copyColours_b101 N k57 hk57 l1 l2 l1 l2 (3 : Int64) t6
    · refine v_aload_n d11_copyColours_85 0 rfl rfl ?_
      refine v_getR d11_copyColours_86 faX11_26 ic_11 rfl ?_
      refine v_getR d11_copyColours_89 faX11_224 ic_22 rfl ?_
      refine v_iload_n d11_copyColours_92 2 rfl rfl ?_
      refine v_iald d11_copyColours_93 ic_23 ?_
      refine v_i2l d11_copyColours_94 ?_
      refine v_goto (tgt := 101) d11_copyColours_95 (by decide) ?_
      exact v11_copyColours_b101 N k57 hk57 l1 l2 l1 l2 ((t6.1 23 l2.toNatClampNeg).toInt64) t6
theorem v11_copyColours_b57 (N : Nat) (l1 : Int32) (l2 : Int32) (σ : Ms) : VF (K11_copyColours) cX11_copyColours RX11 (F11_copyColours_b57 N l1 l2 σ) σ 57 [(0, .ref 11), (1, .int l1), (2, .int l2)] [] := v_fx (σo := fun x => x.2.2) (lo := fun x => [(0, .ref 11), (1, .int x.1), (2, .int x.2.1)]) (fun k hk x => v11_copyColours_b57B N k (fun l1 l2 τ => hk (l1, l2, τ)) x.1 x.2.1 x.2.2) N (l1, l2, σ)
set_option maxRecDepth 100000 in
theorem mc11_copyColours (N : Nat) (p0 : Int32) (σ : Ms) : MC enI yX11_copyColours cX11_copyColours 3 (some .int) 4 (F11_copyColours N p0 σ) σ [.ref 11, .int p0] := by
  refine MC.i (by decide +kernel) (Nat.le_of_ble_eq_true rfl) ?_
  show VF (K11_copyColours) cX11_copyColours RX11 (F11_copyColours N p0 σ) σ 0 [(0, .ref 11), (1, .int p0)] []
  unfold F11_copyColours
  refine v_iload_n d11_copyColours_0 1 rfl rfl ?_
  refine v_callS1i d11_copyColours_1 (mc9_isTray p0 σ) ys9_isTray mlX11_106 (by decide) (Nat.le_of_ble_eq_true rfl) fun r7 t8 => ?_
  refine v_if_ne (tgt := 13) d11_copyColours_4 (by decide) ?_ ?_
  · refine v_aload_n d11_copyColours_13 0 rfl rfl ?_
    refine v_getR d11_copyColours_14 faX11_12 ic_11 rfl ?_
    refine v_iload_n d11_copyColours_17 1 rfl rfl ?_
    refine v_callV1i d11_copyColours_18 (mc9_isMissing p0 t8) yv9_isMissing mlX11_140 (Recv.obj ic_12 rfl) (by decide) (Nat.le_of_ble_eq_true rfl) fun r9 t10 => ?_
    refine v_if_eq (tgt := 30) d11_copyColours_21 (by decide) ?_ ?_
    · refine v_aload_n d11_copyColours_30 0 rfl rfl ?_
      refine v_getR d11_copyColours_31 faX11_12 ic_11 rfl ?_
      refine v_iload_n d11_copyColours_34 1 rfl rfl ?_
      refine v_iconst d11_copyColours_35 ki_0 ?_
      refine v_aload_n d11_copyColours_36 0 rfl rfl ?_
      refine v_getR d11_copyColours_37 faX11_26 ic_11 rfl ?_
      refine v_getI d11_copyColours_40 faX11_183 ic_22 ?_
      refine v_callV3i d11_copyColours_43 (mc9_holds p0 (0 : Int32) (t10.1 22 5) t10) yv9_holds mlX11_146 (Recv.obj ic_12 rfl) (by decide) (Nat.le_of_ble_eq_true rfl) fun r11 t12 => ?_
      refine v_if_ne (tgt := 55) d11_copyColours_46 (by decide) ?_ ?_
      · refine v_iconst d11_copyColours_55 ki_0 ?_
        refine v_istore_n (lv' := [(2, .int (0 : Int32)), (0, .ref 11), (1, .int p0)]) d11_copyColours_56 rfl (by decide) rfl ?_
        refine v_sub [1, 2, 0] rfl ?_
        exact v11_copyColours_b57 N p0 (0 : Int32) t12
      · refine v_aload_n d11_copyColours_49 0 rfl rfl ?_
        refine v_iconst d11_copyColours_50 ki_4 ?_
        refine v_callV1i d11_copyColours_51 (mc11_none (4 : Int32) t12) yv11_none mlX11_132 (Recv.obj ic_11 rfl) (by decide) (Nat.le_of_ble_eq_true rfl) fun r13 t14 => ?_
        exact v_iret d11_copyColours_54 rfl rfl rfl
    · refine v_aload_n d11_copyColours_24 0 rfl rfl ?_
      refine v_iconst d11_copyColours_25 ki_3 ?_
      refine v_callV1i d11_copyColours_26 (mc11_none (3 : Int32) t10) yv11_none mlX11_132 (Recv.obj ic_11 rfl) (by decide) (Nat.le_of_ble_eq_true rfl) fun r15 t16 => ?_
      exact v_iret d11_copyColours_29 rfl rfl rfl
  · refine v_aload_n d11_copyColours_7 0 rfl rfl ?_
    refine v_iconst d11_copyColours_8 ki_1 ?_
    refine v_callV1i d11_copyColours_9 (mc11_none (1 : Int32) t8) yv11_none mlX11_132 (Recv.obj ic_11 rfl) (by decide) (Nat.le_of_ble_eq_true rfl) fun r17 t18 => ?_
    exact v_iret d11_copyColours_12 rfl rfl rfl
theorem d11_cut_0 : decode cX11_cut 0 = .ok (.iload_n 1, 1) := by decide +kernel
theorem d11_cut_1 : decode cX11_cut 1 = .ok (.invokestatic 251, 3) := by decide +kernel
theorem d11_cut_4 : decode cX11_cut 4 = .ok (.ifCond .eq 14, 3) := by decide +kernel
theorem d11_cut_7 : decode cX11_cut 7 = .ok (.aload_n 0, 1) := by decide +kernel
theorem d11_cut_8 : decode cX11_cut 8 = .ok (.getfield 26, 3) := by decide +kernel
theorem d11_cut_11 : decode cX11_cut 11 = .ok (.iload_n 2, 1) := by decide +kernel
theorem d11_cut_12 : decode cX11_cut 12 = .ok (.invokevirtual 218, 3) := by decide +kernel
theorem d11_cut_15 : decode cX11_cut 15 = .ok (.ifCond .ne 9, 3) := by decide +kernel
theorem d11_cut_18 : decode cX11_cut 18 = .ok (.aload_n 0, 1) := by decide +kernel
theorem d11_cut_19 : decode cX11_cut 19 = .ok (.iconst 2, 1) := by decide +kernel
theorem d11_cut_20 : decode cX11_cut 20 = .ok (.invokevirtual 132, 3) := by decide +kernel
theorem d11_cut_23 : decode cX11_cut 23 = .ok (.ireturn, 1) := by decide +kernel
theorem d11_cut_24 : decode cX11_cut 24 = .ok (.aload_n 0, 1) := by decide +kernel
theorem d11_cut_25 : decode cX11_cut 25 = .ok (.getfield 26, 3) := by decide +kernel
theorem d11_cut_28 : decode cX11_cut 28 = .ok (.iload_n 1, 1) := by decide +kernel
theorem d11_cut_29 : decode cX11_cut 29 = .ok (.iload_n 2, 1) := by decide +kernel
theorem d11_cut_30 : decode cX11_cut 30 = .ok (.invokevirtual 259, 3) := by decide +kernel
theorem d11_cut_33 : decode cX11_cut 33 = .ok (.ifCond .ne 10, 3) := by decide +kernel
theorem d11_cut_36 : decode cX11_cut 36 = .ok (.aload_n 0, 1) := by decide +kernel
theorem d11_cut_37 : decode cX11_cut 37 = .ok (.bipush 9, 2) := by decide +kernel
theorem d11_cut_39 : decode cX11_cut 39 = .ok (.invokevirtual 132, 3) := by decide +kernel
theorem d11_cut_42 : decode cX11_cut 42 = .ok (.ireturn, 1) := by decide +kernel
theorem d11_cut_43 : decode cX11_cut 43 = .ok (.aload_n 0, 1) := by decide +kernel
theorem d11_cut_44 : decode cX11_cut 44 = .ok (.aload_n 0, 1) := by decide +kernel
theorem d11_cut_45 : decode cX11_cut 45 = .ok (.getfield 26, 3) := by decide +kernel
theorem d11_cut_48 : decode cX11_cut 48 = .ok (.iload_n 2, 1) := by decide +kernel
theorem d11_cut_49 : decode cX11_cut 49 = .ok (.invokevirtual 263, 3) := by decide +kernel
theorem d11_cut_52 : decode cX11_cut 52 = .ok (.invokevirtual 186, 3) := by decide +kernel
theorem d11_cut_55 : decode cX11_cut 55 = .ok (.ireturn, 1) := by decide +kernel
abbrev K11_cut : CK Int32 := (enI, (some .int), 3, 4, none)
noncomputable def F11_cut_b18 (N : Nat) (σ : Ms) : Option (Int32 × Ms) :=
  bn (F11_none (2 : Int32) σ) (fun r1 t2 => some (r1, t2))
noncomputable def F11_cut (N : Nat) (p0 : Int32) (p1 : Int32) (σ : Ms) : Option (Int32 × Ms) :=
  bn (F11_isSide p0 σ) (fun r3 t4 => if r3 = 0 then (F11_cut_b18 N t4)
  else (bn (F0_hasSprig 22 p1 t4) (fun r5 t6 => if r5 ≠ 0 then (bn (F0_mayCut 22 p0 p1 t6) (fun r7 t8 => if r7 ≠ 0 then (bn (F0_shear N 22 p1 t8) (fun r9 t10 => bn (F11_told r9 t10) (fun r11 t12 => some (r11, t12))))
  else (bn (F11_none (9 : Int32) t8) (fun r13 t14 => some (r13, t14)))))
  else (F11_cut_b18 N t6))))
set_option maxRecDepth 100000 in
theorem v11_cut_b18 (N : Nat) (σ : Ms) : VF (K11_cut) cX11_cut RX11 (F11_cut_b18 N σ) σ 18 [(0, .ref 11)] [] := by
  unfold F11_cut_b18
  refine v_aload_n d11_cut_18 0 rfl rfl ?_
  refine v_iconst d11_cut_19 ki_2 ?_
  refine v_callV1i d11_cut_20 (mc11_none (2 : Int32) σ) yv11_none mlX11_132 (Recv.obj ic_11 rfl) (by decide) (Nat.le_of_ble_eq_true rfl) fun r1 t2 => ?_
  exact v_iret d11_cut_23 rfl rfl rfl
set_option maxRecDepth 100000 in
theorem mc11_cut (N : Nat) (p0 : Int32) (p1 : Int32) (σ : Ms) : MC enI yX11_cut cX11_cut 3 (some .int) 4 (F11_cut N p0 p1 σ) σ [.ref 11, .int p0, .int p1] := by
  refine MC.i (by decide +kernel) (Nat.le_of_ble_eq_true rfl) ?_
  show VF (K11_cut) cX11_cut RX11 (F11_cut N p0 p1 σ) σ 0 [(0, .ref 11), (1, .int p0), (2, .int p1)] []
  unfold F11_cut
  refine v_iload_n d11_cut_0 1 rfl rfl ?_
  refine v_callS1i d11_cut_1 (mc11_isSide p0 σ) ys11_isSide mlX11_251 (by decide) (Nat.le_of_ble_eq_true rfl) fun r3 t4 => ?_
  refine v_if_eq (tgt := 18) d11_cut_4 (by decide) ?_ ?_
  · refine v_sub [0] rfl ?_
    exact v11_cut_b18 N t4
  · refine v_aload_n d11_cut_7 0 rfl rfl ?_
    refine v_getR d11_cut_8 faX11_26 ic_11 rfl ?_
    refine v_iload_n d11_cut_11 2 rfl rfl ?_
    refine v_callV1i d11_cut_12 (mc0_hasSprig 22 ic_22 p1 t4) yv0_hasSprig mlX11_218 (Recv.obj ic_22 rfl) (by decide) (Nat.le_of_ble_eq_true rfl) fun r5 t6 => ?_
    refine v_if_ne (tgt := 24) d11_cut_15 (by decide) ?_ ?_
    · refine v_aload_n d11_cut_24 0 rfl rfl ?_
      refine v_getR d11_cut_25 faX11_26 ic_11 rfl ?_
      refine v_iload_n d11_cut_28 1 rfl rfl ?_
      refine v_iload_n d11_cut_29 2 rfl rfl ?_
      refine v_callV2i d11_cut_30 (mc0_mayCut 22 ic_22 p0 p1 t6) yv0_mayCut mlX11_259 (Recv.obj ic_22 rfl) (by decide) (Nat.le_of_ble_eq_true rfl) fun r7 t8 => ?_
      refine v_if_ne (tgt := 43) d11_cut_33 (by decide) ?_ ?_
      · refine v_aload_n d11_cut_43 0 rfl rfl ?_
        refine v_aload_n d11_cut_44 0 rfl rfl ?_
        refine v_getR d11_cut_45 faX11_26 ic_11 rfl ?_
        refine v_iload_n d11_cut_48 2 rfl rfl ?_
        refine v_callV1i d11_cut_49 (mc0_shear N 22 ic_22 p1 t8) yv0_shear mlX11_263 (Recv.obj ic_22 rfl) (by decide) (Nat.le_of_ble_eq_true rfl) fun r9 t10 => ?_
        refine v_callV1i d11_cut_52 (mc11_told r9 t10) yv11_told mlX11_186 (Recv.obj ic_11 rfl) (by decide) (Nat.le_of_ble_eq_true rfl) fun r11 t12 => ?_
        exact v_iret d11_cut_55 rfl rfl rfl
      · refine v_aload_n d11_cut_36 0 rfl rfl ?_
        refine v_bipush d11_cut_37 kb_9 ?_
        refine v_callV1i d11_cut_39 (mc11_none (9 : Int32) t8) yv11_none mlX11_132 (Recv.obj ic_11 rfl) (by decide) (Nat.le_of_ble_eq_true rfl) fun r13 t14 => ?_
        exact v_iret d11_cut_42 rfl rfl rfl
    · refine v_sub [0] rfl ?_
      exact v11_cut_b18 N t6
theorem d11_take_0 : decode cX11_take 0 = .ok (.iload_n 1, 1) := by decide +kernel
theorem d11_take_1 : decode cX11_take 1 = .ok (.invokestatic 251, 3) := by decide +kernel
theorem d11_take_4 : decode cX11_take 4 = .ok (.ifCond .eq 14, 3) := by decide +kernel
theorem d11_take_7 : decode cX11_take 7 = .ok (.aload_n 0, 1) := by decide +kernel
theorem d11_take_8 : decode cX11_take 8 = .ok (.getfield 26, 3) := by decide +kernel
theorem d11_take_11 : decode cX11_take 11 = .ok (.iload_n 2, 1) := by decide +kernel
theorem d11_take_12 : decode cX11_take 12 = .ok (.invokevirtual 248, 3) := by decide +kernel
theorem d11_take_15 : decode cX11_take 15 = .ok (.ifCond .ne 9, 3) := by decide +kernel
theorem d11_take_18 : decode cX11_take 18 = .ok (.aload_n 0, 1) := by decide +kernel
theorem d11_take_19 : decode cX11_take 19 = .ok (.iconst 2, 1) := by decide +kernel
theorem d11_take_20 : decode cX11_take 20 = .ok (.invokevirtual 132, 3) := by decide +kernel
theorem d11_take_23 : decode cX11_take 23 = .ok (.ireturn, 1) := by decide +kernel
theorem d11_take_24 : decode cX11_take 24 = .ok (.aload_n 0, 1) := by decide +kernel
theorem d11_take_25 : decode cX11_take 25 = .ok (.getfield 26, 3) := by decide +kernel
theorem d11_take_28 : decode cX11_take 28 = .ok (.iload_n 2, 1) := by decide +kernel
theorem d11_take_29 : decode cX11_take 29 = .ok (.invokevirtual 266, 3) := by decide +kernel
theorem d11_take_32 : decode cX11_take 32 = .ok (.ifCond .ne 10, 3) := by decide +kernel
theorem d11_take_35 : decode cX11_take 35 = .ok (.aload_n 0, 1) := by decide +kernel
theorem d11_take_36 : decode cX11_take 36 = .ok (.bipush 9, 2) := by decide +kernel
theorem d11_take_38 : decode cX11_take 38 = .ok (.invokevirtual 132, 3) := by decide +kernel
theorem d11_take_41 : decode cX11_take 41 = .ok (.ireturn, 1) := by decide +kernel
theorem d11_take_42 : decode cX11_take 42 = .ok (.aload_n 0, 1) := by decide +kernel
theorem d11_take_43 : decode cX11_take 43 = .ok (.getfield 26, 3) := by decide +kernel
theorem d11_take_46 : decode cX11_take 46 = .ok (.iload_n 1, 1) := by decide +kernel
theorem d11_take_47 : decode cX11_take 47 = .ok (.iload_n 2, 1) := by decide +kernel
theorem d11_take_48 : decode cX11_take 48 = .ok (.invokevirtual 269, 3) := by decide +kernel
theorem d11_take_51 : decode cX11_take 51 = .ok (.aload_n 0, 1) := by decide +kernel
theorem d11_take_52 : decode cX11_take 52 = .ok (.aload_n 0, 1) := by decide +kernel
theorem d11_take_53 : decode cX11_take 53 = .ok (.getfield 26, 3) := by decide +kernel
theorem d11_take_56 : decode cX11_take 56 = .ok (.getfield 215, 3) := by decide +kernel
theorem d11_take_59 : decode cX11_take 59 = .ok (.invokevirtual 186, 3) := by decide +kernel
theorem d11_take_62 : decode cX11_take 62 = .ok (.ireturn, 1) := by decide +kernel
abbrev K11_take : CK Int32 := (enI, (some .int), 3, 4, none)
noncomputable def F11_take_b18 (σ : Ms) : Option (Int32 × Ms) :=
  bn (F11_none (2 : Int32) σ) (fun r1 t2 => some (r1, t2))
noncomputable def F11_take (p0 : Int32) (p1 : Int32) (σ : Ms) : Option (Int32 × Ms) :=
  bn (F11_isSide p0 σ) (fun r3 t4 => if r3 = 0 then (F11_take_b18 t4)
  else (bn (F0_hasBet 22 p1 t4) (fun r5 t6 => if r5 ≠ 0 then (bn (F0_mayTake 22 p1 t6) (fun r7 t8 => if r7 ≠ 0 then (bn (F0_winBet 22 p0 p1 t8) (fun r9 t10 => bn (F11_told (t10.1 22 10) t10) (fun r11 t12 => some (r11, t12))))
  else (bn (F11_none (9 : Int32) t8) (fun r13 t14 => some (r13, t14)))))
  else (F11_take_b18 t6))))
set_option maxRecDepth 100000 in
theorem v11_take_b18 (σ : Ms) : VF (K11_take) cX11_take RX11 (F11_take_b18 σ) σ 18 [(0, .ref 11)] [] := by
  unfold F11_take_b18
  refine v_aload_n d11_take_18 0 rfl rfl ?_
  refine v_iconst d11_take_19 ki_2 ?_
  refine v_callV1i d11_take_20 (mc11_none (2 : Int32) σ) yv11_none mlX11_132 (Recv.obj ic_11 rfl) (by decide) (Nat.le_of_ble_eq_true rfl) fun r1 t2 => ?_
  exact v_iret d11_take_23 rfl rfl rfl
set_option maxRecDepth 100000 in
theorem mc11_take (p0 : Int32) (p1 : Int32) (σ : Ms) : MC enI yX11_take cX11_take 3 (some .int) 4 (F11_take p0 p1 σ) σ [.ref 11, .int p0, .int p1] := by
  refine MC.i (by decide +kernel) (Nat.le_of_ble_eq_true rfl) ?_
  show VF (K11_take) cX11_take RX11 (F11_take p0 p1 σ) σ 0 [(0, .ref 11), (1, .int p0), (2, .int p1)] []
  unfold F11_take
  refine v_iload_n d11_take_0 1 rfl rfl ?_
  refine v_callS1i d11_take_1 (mc11_isSide p0 σ) ys11_isSide mlX11_251 (by decide) (Nat.le_of_ble_eq_true rfl) fun r3 t4 => ?_
  refine v_if_eq (tgt := 18) d11_take_4 (by decide) ?_ ?_
  · refine v_sub [0] rfl ?_
    exact v11_take_b18 t4
  · refine v_aload_n d11_take_7 0 rfl rfl ?_
    refine v_getR d11_take_8 faX11_26 ic_11 rfl ?_
    refine v_iload_n d11_take_11 2 rfl rfl ?_
    refine v_callV1i d11_take_12 (mc0_hasBet 22 ic_22 p1 t4) yv0_hasBet mlX11_248 (Recv.obj ic_22 rfl) (by decide) (Nat.le_of_ble_eq_true rfl) fun r5 t6 => ?_
    refine v_if_ne (tgt := 24) d11_take_15 (by decide) ?_ ?_
    · refine v_aload_n d11_take_24 0 rfl rfl ?_
      refine v_getR d11_take_25 faX11_26 ic_11 rfl ?_
      refine v_iload_n d11_take_28 2 rfl rfl ?_
      refine v_callV1i d11_take_29 (mc0_mayTake 22 ic_22 p1 t6) yv0_mayTake mlX11_266 (Recv.obj ic_22 rfl) (by decide) (Nat.le_of_ble_eq_true rfl) fun r7 t8 => ?_
      refine v_if_ne (tgt := 42) d11_take_32 (by decide) ?_ ?_
      · refine v_aload_n d11_take_42 0 rfl rfl ?_
        refine v_getR d11_take_43 faX11_26 ic_11 rfl ?_
        refine v_iload_n d11_take_46 1 rfl rfl ?_
        refine v_iload_n d11_take_47 2 rfl rfl ?_
        refine v_callV2v d11_take_48 (mc0_winBet 22 ic_22 p0 p1 t8) yv0_winBet mlX11_269 (Recv.obj ic_22 rfl) (by decide) (Nat.le_of_ble_eq_true rfl) fun r9 t10 => ?_
        refine v_aload_n d11_take_51 0 rfl rfl ?_
        refine v_aload_n d11_take_52 0 rfl rfl ?_
        refine v_getR d11_take_53 faX11_26 ic_11 rfl ?_
        refine v_getI d11_take_56 faX11_215 ic_22 ?_
        refine v_callV1i d11_take_59 (mc11_told (t10.1 22 10) t10) yv11_told mlX11_186 (Recv.obj ic_11 rfl) (by decide) (Nat.le_of_ble_eq_true rfl) fun r11 t12 => ?_
        exact v_iret d11_take_62 rfl rfl rfl
      · refine v_aload_n d11_take_35 0 rfl rfl ?_
        refine v_bipush d11_take_36 kb_9 ?_
        refine v_callV1i d11_take_38 (mc11_none (9 : Int32) t8) yv11_none mlX11_132 (Recv.obj ic_11 rfl) (by decide) (Nat.le_of_ble_eq_true rfl) fun r13 t14 => ?_
        exact v_iret d11_take_41 rfl rfl rfl
    · refine v_sub [0] rfl ?_
      exact v11_take_b18 t6
