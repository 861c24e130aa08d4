theorem d12_isWord_0 : decode cX12_isWord 0 = .ok (.aload_n 0, 1) := by decide +kernel
theorem d12_isWord_1 : decode cX12_isWord 1 = .ok (.getfield 108, 3) := by decide +kernel
theorem d12_isWord_4 : decode cX12_isWord 4 = .ok (.iconst 1, 1) := by decide +kernel
theorem d12_isWord_5 : decode cX12_isWord 5 = .ok (.if_icmp .ne 16, 3) := by decide +kernel
theorem d12_isWord_8 : decode cX12_isWord 8 = .ok (.aload_n 0, 1) := by decide +kernel
theorem d12_isWord_9 : decode cX12_isWord 9 = .ok (.getfield 114, 3) := by decide +kernel
theorem d12_isWord_12 : decode cX12_isWord 12 = .ok (.lload_n 1, 1) := by decide +kernel
theorem d12_isWord_13 : decode cX12_isWord 13 = .ok (.lcmp, 1) := by decide +kernel
theorem d12_isWord_14 : decode cX12_isWord 14 = .ok (.ifCond .ne 7, 3) := by decide +kernel
theorem d12_isWord_17 : decode cX12_isWord 17 = .ok (.iconst 1, 1) := by decide +kernel
theorem d12_isWord_18 : decode cX12_isWord 18 = .ok (.goto 4, 3) := by decide +kernel
theorem d12_isWord_21 : decode cX12_isWord 21 = .ok (.iconst 0, 1) := by decide +kernel
theorem d12_isWord_22 : decode cX12_isWord 22 = .ok (.ireturn, 1) := by decide +kernel
abbrev K12_isWord : CK Int32 := (enI, (some .boolean), 3, 1, none)
noncomputable def F12_isWord (p0 : Int64) (σ : Ms) : Option (Int32 × Ms) :=
  if (σ.1 0 14) ≠ (1 : Int32) then (some ((0 : Int32), σ))
  else (if (lg_cmp (σ.2 0 18) p0) ≠ 0 then (some ((0 : Int32), σ))
  else (some ((1 : Int32), σ)))
set_option maxRecDepth 100000 in
theorem mc12_isWord (p0 : Int64) (σ : Ms) : MC enI yX12_isWord cX12_isWord 3 (some .boolean) 1 (F12_isWord p0 σ) σ [.ref 0, .long p0] := by
  refine MC.i (by decide +kernel) (Nat.le_of_ble_eq_true rfl) ?_
  show VF (K12_isWord) cX12_isWord RX12 (F12_isWord p0 σ) σ 0 [(0, .ref 0), (1, .long p0)] []
  unfold F12_isWord
  refine v_aload_n d12_isWord_0 0 rfl rfl ?_
  refine v_getI d12_isWord_1 faX12_108 ic_0 ?_
  refine v_iconst d12_isWord_4 ki_1 ?_
  refine v_icmp_ne (tgt := 21) d12_isWord_5 (by decide) ?_ ?_
  · refine v_iconst d12_isWord_21 ki_0 ?_
    exact v_iret (ty := .boolean) d12_isWord_22 rfl rfl rfl
  · refine v_aload_n d12_isWord_8 0 rfl rfl ?_
    refine v_getL d12_isWord_9 faX12_114 ic_0 ?_
    refine v_lload_n d12_isWord_12 1 rfl rfl ?_
    refine v_lcmp d12_isWord_13 ?_
    refine v_if_ne (tgt := 21) d12_isWord_14 (by decide) ?_ ?_
    · refine v_iconst d12_isWord_21 ki_0 ?_
      exact v_iret (ty := .boolean) d12_isWord_22 rfl rfl rfl
    · refine v_iconst d12_isWord_17 ki_1 ?_
      refine v_goto (tgt := 22) d12_isWord_18 (by decide) ?_
      exact v_iret (ty := .boolean) d12_isWord_22 rfl rfl rfl
theorem d12_isSprig_0 : decode cX12_isSprig 0 = .ok (.aload_n 0, 1) := by decide +kernel
theorem d12_isSprig_1 : decode cX12_isSprig 1 = .ok (.bipush 115, 2) := by decide +kernel
theorem d12_isSprig_3 : decode cX12_isSprig 3 = .ok (.bipush 112, 2) := by decide +kernel
theorem d12_isSprig_5 : decode cX12_isSprig 5 = .ok (.bipush 114, 2) := by decide +kernel
theorem d12_isSprig_7 : decode cX12_isSprig 7 = .ok (.bipush 105, 2) := by decide +kernel
theorem d12_isSprig_9 : decode cX12_isSprig 9 = .ok (.bipush 103, 2) := by decide +kernel
theorem d12_isSprig_11 : decode cX12_isSprig 11 = .ok (.iconst 0, 1) := by decide +kernel
theorem d12_isSprig_12 : decode cX12_isSprig 12 = .ok (.invokestatic 130, 3) := by decide +kernel
theorem d12_isSprig_15 : decode cX12_isSprig 15 = .ok (.invokevirtual 134, 3) := by decide +kernel
theorem d12_isSprig_18 : decode cX12_isSprig 18 = .ok (.ireturn, 1) := by decide +kernel
abbrev K12_isSprig : CK Int32 := (enI, (some .boolean), 1, 2, none)
noncomputable def F12_isSprig (σ : Ms) : Option (Int32 × Ms) :=
  bn (F12_spelled (115 : Int32) (112 : Int32) (114 : Int32) (105 : Int32) (103 : Int32) (0 : Int32) σ) (fun r1 t2 => bn (F12_isWord r1 t2) (fun r3 t4 => ck (nkB r3) (some (r3, t4))))
set_option maxRecDepth 100000 in
theorem mc12_isSprig (σ : Ms) : MC enI yX12_isSprig cX12_isSprig 1 (some .boolean) 2 (F12_isSprig σ) σ [.ref 0] := by
  refine MC.i (by decide +kernel) (Nat.le_of_ble_eq_true rfl) ?_
  show VF (K12_isSprig) cX12_isSprig RX12 (F12_isSprig σ) σ 0 [(0, .ref 0)] []
  unfold F12_isSprig
  refine v_aload_n d12_isSprig_0 0 rfl rfl ?_
  refine v_bipush d12_isSprig_1 kb_115 ?_
  refine v_bipush d12_isSprig_3 kb_112 ?_
  refine v_bipush d12_isSprig_5 kb_114 ?_
  refine v_bipush d12_isSprig_7 kb_105 ?_
  refine v_bipush d12_isSprig_9 kb_103 ?_
  refine v_iconst d12_isSprig_11 ki_0 ?_
  refine v_callS6l d12_isSprig_12 (mc12_spelled (115 : Int32) (112 : Int32) (114 : Int32) (105 : Int32) (103 : Int32) (0 : Int32) σ) ys12_spelled mlX12_130 (by decide) (Nat.le_of_ble_eq_true rfl) fun r1 t2 => ?_
  refine v_callV1i d12_isSprig_15 (mc12_isWord r1 t2) yv12_isWord mlX12_134 (Recv.obj ic_0 rfl) (by decide) (Nat.le_of_ble_eq_true rfl) fun r3 t4 => ?_
  exact v_iretB d12_isSprig_18 rfl rfl
theorem d12_isHeap_0 : decode cX12_isHeap 0 = .ok (.aload_n 0, 1) := by decide +kernel
theorem d12_isHeap_1 : decode cX12_isHeap 1 = .ok (.bipush 104, 2) := by decide +kernel
theorem d12_isHeap_3 : decode cX12_isHeap 3 = .ok (.bipush 101, 2) := by decide +kernel
theorem d12_isHeap_5 : decode cX12_isHeap 5 = .ok (.bipush 97, 2) := by decide +kernel
theorem d12_isHeap_7 : decode cX12_isHeap 7 = .ok (.bipush 112, 2) := by decide +kernel
theorem d12_isHeap_9 : decode cX12_isHeap 9 = .ok (.iconst 0, 1) := by decide +kernel
theorem d12_isHeap_10 : decode cX12_isHeap 10 = .ok (.iconst 0, 1) := by decide +kernel
theorem d12_isHeap_11 : decode cX12_isHeap 11 = .ok (.invokestatic 130, 3) := by decide +kernel
theorem d12_isHeap_14 : decode cX12_isHeap 14 = .ok (.invokevirtual 134, 3) := by decide +kernel
theorem d12_isHeap_17 : decode cX12_isHeap 17 = .ok (.ireturn, 1) := by decide +kernel
abbrev K12_isHeap : CK Int32 := (enI, (some .boolean), 1, 2, none)
noncomputable def F12_isHeap (σ : Ms) : Option (Int32 × Ms) :=
  bn (F12_spelled (104 : Int32) (101 : Int32) (97 : Int32) (112 : Int32) (0 : Int32) (0 : Int32) σ) (fun r1 t2 => bn (F12_isWord r1 t2) (fun r3 t4 => ck (nkB r3) (some (r3, t4))))
set_option maxRecDepth 100000 in
theorem mc12_isHeap (σ : Ms) : MC enI yX12_isHeap cX12_isHeap 1 (some .boolean) 2 (F12_isHeap σ) σ [.ref 0] := by
  refine MC.i (by decide +kernel) (Nat.le_of_ble_eq_true rfl) ?_
  show VF (K12_isHeap) cX12_isHeap RX12 (F12_isHeap σ) σ 0 [(0, .ref 0)] []
  unfold F12_isHeap
  refine v_aload_n d12_isHeap_0 0 rfl rfl ?_
  refine v_bipush d12_isHeap_1 kb_104 ?_
  refine v_bipush d12_isHeap_3 kb_101 ?_
  refine v_bipush d12_isHeap_5 kb_97 ?_
  refine v_bipush d12_isHeap_7 kb_112 ?_
  refine v_iconst d12_isHeap_9 ki_0 ?_
  refine v_iconst d12_isHeap_10 ki_0 ?_
  refine v_callS6l d12_isHeap_11 (mc12_spelled (104 : Int32) (101 : Int32) (97 : Int32) (112 : Int32) (0 : Int32) (0 : Int32) σ) ys12_spelled mlX12_130 (by decide) (Nat.le_of_ble_eq_true rfl) fun r1 t2 => ?_
  refine v_callV1i d12_isHeap_14 (mc12_isWord r1 t2) yv12_isWord mlX12_134 (Recv.obj ic_0 rfl) (by decide) (Nat.le_of_ble_eq_true rfl) fun r3 t4 => ?_
  exact v_iretB d12_isHeap_17 rfl rfl
theorem d12_isBet_0 : decode cX12_isBet 0 = .ok (.aload_n 0, 1) := by decide +kernel
theorem d12_isBet_1 : decode cX12_isBet 1 = .ok (.bipush 98, 2) := by decide +kernel
theorem d12_isBet_3 : decode cX12_isBet 3 = .ok (.bipush 101, 2) := by decide +kernel
theorem d12_isBet_5 : decode cX12_isBet 5 = .ok (.bipush 116, 2) := by decide +kernel
theorem d12_isBet_7 : decode cX12_isBet 7 = .ok (.iconst 0, 1) := by decide +kernel
theorem d12_isBet_8 : decode cX12_isBet 8 = .ok (.iconst 0, 1) := by decide +kernel
theorem d12_isBet_9 : decode cX12_isBet 9 = .ok (.iconst 0, 1) := by decide +kernel
theorem d12_isBet_10 : decode cX12_isBet 10 = .ok (.invokestatic 130, 3) := by decide +kernel
theorem d12_isBet_13 : decode cX12_isBet 13 = .ok (.invokevirtual 134, 3) := by decide +kernel
theorem d12_isBet_16 : decode cX12_isBet 16 = .ok (.ireturn, 1) := by decide +kernel
abbrev K12_isBet : CK Int32 := (enI, (some .boolean), 1, 2, none)
noncomputable def F12_isBet (σ : Ms) : Option (Int32 × Ms) :=
  bn (F12_spelled (98 : Int32) (101 : Int32) (116 : Int32) (0 : Int32) (0 : Int32) (0 : Int32) σ) (fun r1 t2 => bn (F12_isWord r1 t2) (fun r3 t4 => ck (nkB r3) (some (r3, t4))))
set_option maxRecDepth 100000 in
theorem mc12_isBet (σ : Ms) : MC enI yX12_isBet cX12_isBet 1 (some .boolean) 2 (F12_isBet σ) σ [.ref 0] := by
  refine MC.i (by decide +kernel) (Nat.le_of_ble_eq_true rfl) ?_
  show VF (K12_isBet) cX12_isBet RX12 (F12_isBet σ) σ 0 [(0, .ref 0)] []
  unfold F12_isBet
  refine v_aload_n d12_isBet_0 0 rfl rfl ?_
  refine v_bipush d12_isBet_1 kb_98 ?_
  refine v_bipush d12_isBet_3 kb_101 ?_
  refine v_bipush d12_isBet_5 kb_116 ?_
  refine v_iconst d12_isBet_7 ki_0 ?_
  refine v_iconst d12_isBet_8 ki_0 ?_
  refine v_iconst d12_isBet_9 ki_0 ?_
  refine v_callS6l d12_isBet_10 (mc12_spelled (98 : Int32) (101 : Int32) (116 : Int32) (0 : Int32) (0 : Int32) (0 : Int32) σ) ys12_spelled mlX12_130 (by decide) (Nat.le_of_ble_eq_true rfl) fun r1 t2 => ?_
  refine v_callV1i d12_isBet_13 (mc12_isWord r1 t2) yv12_isWord mlX12_134 (Recv.obj ic_0 rfl) (by decide) (Nat.le_of_ble_eq_true rfl) fun r3 t4 => ?_
  exact v_iretB d12_isBet_16 rfl rfl
theorem d12_isOn_0 : decode cX12_isOn 0 = .ok (.aload_n 0, 1) := by decide +kernel
theorem d12_isOn_1 : decode cX12_isOn 1 = .ok (.bipush 111, 2) := by decide +kernel
theorem d12_isOn_3 : decode cX12_isOn 3 = .ok (.bipush 110, 2) := by decide +kernel
theorem d12_isOn_5 : decode cX12_isOn 5 = .ok (.iconst 0, 1) := by decide +kernel
theorem d12_isOn_6 : decode cX12_isOn 6 = .ok (.iconst 0, 1) := by decide +kernel
theorem d12_isOn_7 : decode cX12_isOn 7 = .ok (.iconst 0, 1) := by decide +kernel
theorem d12_isOn_8 : decode cX12_isOn 8 = .ok (.iconst 0, 1) := by decide +kernel
theorem d12_isOn_9 : decode cX12_isOn 9 = .ok (.invokestatic 130, 3) := by decide +kernel
theorem d12_isOn_12 : decode cX12_isOn 12 = .ok (.invokevirtual 134, 3) := by decide +kernel
theorem d12_isOn_15 : decode cX12_isOn 15 = .ok (.ireturn, 1) := by decide +kernel
abbrev K12_isOn : CK Int32 := (enI, (some .boolean), 1, 2, none)
noncomputable def F12_isOn (σ : Ms) : Option (Int32 × Ms) :=
  bn (F12_spelled (111 : Int32) (110 : Int32) (0 : Int32) (0 : Int32) (0 : Int32) (0 : Int32) σ) (fun r1 t2 => bn (F12_isWord r1 t2) (fun r3 t4 => ck (nkB r3) (some (r3, t4))))
set_option maxRecDepth 100000 in
theorem mc12_isOn (σ : Ms) : MC enI yX12_isOn cX12_isOn 1 (some .boolean) 2 (F12_isOn σ) σ [.ref 0] := by
  refine MC.i (by decide +kernel) (Nat.le_of_ble_eq_true rfl) ?_
  show VF (K12_isOn) cX12_isOn RX12 (F12_isOn σ) σ 0 [(0, .ref 0)] []
  unfold F12_isOn
  refine v_aload_n d12_isOn_0 0 rfl rfl ?_
  refine v_bipush d12_isOn_1 kb_111 ?_
  refine v_bipush d12_isOn_3 kb_110 ?_
  refine v_iconst d12_isOn_5 ki_0 ?_
  refine v_iconst d12_isOn_6 ki_0 ?_
  refine v_iconst d12_isOn_7 ki_0 ?_
  refine v_iconst d12_isOn_8 ki_0 ?_
  refine v_callS6l d12_isOn_9 (mc12_spelled (111 : Int32) (110 : Int32) (0 : Int32) (0 : Int32) (0 : Int32) (0 : Int32) σ) ys12_spelled mlX12_130 (by decide) (Nat.le_of_ble_eq_true rfl) fun r1 t2 => ?_
  refine v_callV1i d12_isOn_12 (mc12_isWord r1 t2) yv12_isWord mlX12_134 (Recv.obj ic_0 rfl) (by decide) (Nat.le_of_ble_eq_true rfl) fun r3 t4 => ?_
  exact v_iretB d12_isOn_15 rfl rfl
theorem d12_colourWord_0 : decode cX12_colourWord 0 = .ok (.aload_n 0, 1) := by decide +kernel
theorem d12_colourWord_1 : decode cX12_colourWord 1 = .ok (.bipush 98, 2) := by decide +kernel
theorem d12_colourWord_3 : decode cX12_colourWord 3 = .ok (.bipush 108, 2) := by decide +kernel
theorem d12_colourWord_5 : decode cX12_colourWord 5 = .ok (.bipush 117, 2) := by decide +kernel
theorem d12_colourWord_7 : decode cX12_colourWord 7 = .ok (.bipush 101, 2) := by decide +kernel
theorem d12_colourWord_9 : decode cX12_colourWord 9 = .ok (.iconst 0, 1) := by decide +kernel
theorem d12_colourWord_10 : decode cX12_colourWord 10 = .ok (.iconst 0, 1) := by decide +kernel
theorem d12_colourWord_11 : decode cX12_colourWord 11 = .ok (.invokestatic 130, 3) := by decide +kernel
theorem d12_colourWord_14 : decode cX12_colourWord 14 = .ok (.invokevirtual 134, 3) := by decide +kernel
theorem d12_colourWord_17 : decode cX12_colourWord 17 = .ok (.ifCond .eq 5, 3) := by decide +kernel
theorem d12_colourWord_20 : decode cX12_colourWord 20 = .ok (.iconst 0, 1) := by decide +kernel
theorem d12_colourWord_21 : decode cX12_colourWord 21 = .ok (.ireturn, 1) := by decide +kernel
theorem d12_colourWord_22 : decode cX12_colourWord 22 = .ok (.aload_n 0, 1) := by decide +kernel
theorem d12_colourWord_23 : decode cX12_colourWord 23 = .ok (.bipush 114, 2) := by decide +kernel
theorem d12_colourWord_25 : decode cX12_colourWord 25 = .ok (.bipush 101, 2) := by decide +kernel
theorem d12_colourWord_27 : decode cX12_colourWord 27 = .ok (.bipush 100, 2) := by decide +kernel
theorem d12_colourWord_29 : decode cX12_colourWord 29 = .ok (.iconst 0, 1) := by decide +kernel
theorem d12_colourWord_30 : decode cX12_colourWord 30 = .ok (.iconst 0, 1) := by decide +kernel
theorem d12_colourWord_31 : decode cX12_colourWord 31 = .ok (.iconst 0, 1) := by decide +kernel
theorem d12_colourWord_32 : decode cX12_colourWord 32 = .ok (.invokestatic 130, 3) := by decide +kernel
theorem d12_colourWord_35 : decode cX12_colourWord 35 = .ok (.invokevirtual 134, 3) := by decide +kernel
theorem d12_colourWord_38 : decode cX12_colourWord 38 = .ok (.ifCond .eq 5, 3) := by decide +kernel
theorem d12_colourWord_41 : decode cX12_colourWord 41 = .ok (.iconst 1, 1) := by decide +kernel
theorem d12_colourWord_42 : decode cX12_colourWord 42 = .ok (.ireturn, 1) := by decide +kernel
theorem d12_colourWord_43 : decode cX12_colourWord 43 = .ok (.aload_n 0, 1) := by decide +kernel
theorem d12_colourWord_44 : decode cX12_colourWord 44 = .ok (.bipush 103, 2) := by decide +kernel
theorem d12_colourWord_46 : decode cX12_colourWord 46 = .ok (.bipush 114, 2) := by decide +kernel
theorem d12_colourWord_48 : decode cX12_colourWord 48 = .ok (.bipush 101, 2) := by decide +kernel
theorem d12_colourWord_50 : decode cX12_colourWord 50 = .ok (.bipush 101, 2) := by decide +kernel
theorem d12_colourWord_52 : decode cX12_colourWord 52 = .ok (.bipush 110, 2) := by decide +kernel
theorem d12_colourWord_54 : decode cX12_colourWord 54 = .ok (.iconst 0, 1) := by decide +kernel
theorem d12_colourWord_55 : decode cX12_colourWord 55 = .ok (.invokestatic 130, 3) := by decide +kernel
theorem d12_colourWord_58 : decode cX12_colourWord 58 = .ok (.invokevirtual 134, 3) := by decide +kernel
theorem d12_colourWord_61 : decode cX12_colourWord 61 = .ok (.ifCond .eq 7, 3) := by decide +kernel
theorem d12_colourWord_64 : decode cX12_colourWord 64 = .ok (.iconst 2, 1) := by decide +kernel
theorem d12_colourWord_65 : decode cX12_colourWord 65 = .ok (.goto 4, 3) := by decide +kernel
theorem d12_colourWord_68 : decode cX12_colourWord 68 = .ok (.iconst (-1), 1) := by decide +kernel
theorem d12_colourWord_69 : decode cX12_colourWord 69 = .ok (.ireturn, 1) := by decide +kernel
abbrev K12_colourWord : CK Int32 := (enI, (some .int), 1, 2, none)
noncomputable def F12_colourWord (σ : Ms) : Option (Int32 × Ms) :=
  bn (F12_spelled (98 : Int32) (108 : Int32) (117 : Int32) (101 : Int32) (0 : Int32) (0 : Int32) σ) (fun r1 t2 => bn (F12_isWord r1 t2) (fun r3 t4 => if r3 = 0 then (bn (F12_spelled (114 : Int32) (101 : Int32) (100 : Int32) (0 : Int32) (0 : Int32) (0 : Int32) t4) (fun r5 t6 => bn (F12_isWord r5 t6) (fun r7 t8 => if r7 = 0 then (bn (F12_spelled (103 : Int32) (114 : Int32) (101 : Int32) (101 : Int32) (110 : Int32) (0 : Int32) t8) (fun r9 t10 => bn (F12_isWord r9 t10) (fun r11 t12 => if r11 = 0 then (some ((-1 : Int32), t12))
  else (some ((2 : Int32), t12)))))
  else (some ((1 : Int32), t8)))))
  else (some ((0 : Int32), t4))))
set_option maxRecDepth 100000 in
theorem mc12_colourWord (σ : Ms) : MC enI yX12_colourWord cX12_colourWord 1 (some .int) 2 (F12_colourWord σ) σ [.ref 0] := by
  refine MC.i (by decide +kernel) (Nat.le_of_ble_eq_true rfl) ?_
  show VF (K12_colourWord) cX12_colourWord RX12 (F12_colourWord σ) σ 0 [(0, .ref 0)] []
  unfold F12_colourWord
  refine v_aload_n d12_colourWord_0 0 rfl rfl ?_
  refine v_bipush d12_colourWord_1 kb_98 ?_
  refine v_bipush d12_colourWord_3 kb_108 ?_
  refine v_bipush d12_colourWord_5 kb_117 ?_
  refine v_bipush d12_colourWord_7 kb_101 ?_
  refine v_iconst d12_colourWord_9 ki_0 ?_
  refine v_iconst d12_colourWord_10 ki_0 ?_
  refine v_callS6l d12_colourWord_11 (mc12_spelled (98 : Int32) (108 : Int32) (117 : Int32) (101 : Int32) (0 : Int32) (0 : Int32) σ) ys12_spelled mlX12_130 (by decide) (Nat.le_of_ble_eq_true rfl) fun r1 t2 => ?_
  refine v_callV1i d12_colourWord_14 (mc12_isWord r1 t2) yv12_isWord mlX12_134 (Recv.obj ic_0 rfl) (by decide) (Nat.le_of_ble_eq_true rfl) fun r3 t4 => ?_
  refine v_if_eq (tgt := 22) d12_colourWord_17 (by decide) ?_ ?_
  · refine v_aload_n d12_colourWord_22 0 rfl rfl ?_
    refine v_bipush d12_colourWord_23 kb_114 ?_
    refine v_bipush d12_colourWord_25 kb_101 ?_
    refine v_bipush d12_colourWord_27 kb_100 ?_
    refine v_iconst d12_colourWord_29 ki_0 ?_
    refine v_iconst d12_colourWord_30 ki_0 ?_
    refine v_iconst d12_colourWord_31 ki_0 ?_
    refine v_callS6l d12_colourWord_32 (mc12_spelled (114 : Int32) (101 : Int32) (100 : Int32) (0 : Int32) (0 : Int32) (0 : Int32) t4) ys12_spelled mlX12_130 (by decide) (Nat.le_of_ble_eq_true rfl) fun r5 t6 => ?_
    refine v_callV1i d12_colourWord_35 (mc12_isWord r5 t6) yv12_isWord mlX12_134 (Recv.obj ic_0 rfl) (by decide) (Nat.le_of_ble_eq_true rfl) fun r7 t8 => ?_
    refine v_if_eq (tgt := 43) d12_colourWord_38 (by decide) ?_ ?_
    · refine v_aload_n d12_colourWord_43 0 rfl rfl ?_
      refine v_bipush d12_colourWord_44 kb_103 ?_
      refine v_bipush d12_colourWord_46 kb_114 ?_
      refine v_bipush d12_colourWord_48 kb_101 ?_
      refine v_bipush d12_colourWord_50 kb_101 ?_
      refine v_bipush d12_colourWord_52 kb_110 ?_
      refine v_iconst d12_colourWord_54 ki_0 ?_
      refine v_callS6l d12_colourWord_55 (mc12_spelled (103 : Int32) (114 : Int32) (101 : Int32) (101 : Int32) (110 : Int32) (0 : Int32) t8) ys12_spelled mlX12_130 (by decide) (Nat.le_of_ble_eq_true rfl) fun r9 t10 => ?_
      refine v_callV1i d12_colourWord_58 (mc12_isWord r9 t10) yv12_isWord mlX12_134 (Recv.obj ic_0 rfl) (by decide) (Nat.le_of_ble_eq_true rfl) fun r11 t12 => ?_
      refine v_if_eq (tgt := 68) d12_colourWord_61 (by decide) ?_ ?_
      · refine v_iconst d12_colourWord_68 ki_m1 ?_
        exact v_iret d12_colourWord_69 rfl rfl rfl
      · refine v_iconst d12_colourWord_64 ki_2 ?_
        refine v_goto (tgt := 69) d12_colourWord_65 (by decide) ?_
        exact v_iret d12_colourWord_69 rfl rfl rfl
    · refine v_iconst d12_colourWord_41 ki_1 ?_
      exact v_iret d12_colourWord_42 rfl rfl rfl
  · refine v_iconst d12_colourWord_20 ki_0 ?_
    exact v_iret d12_colourWord_21 rfl rfl rfl
theorem d12_sideWord_0 : decode cX12_sideWord 0 = .ok (.aload_n 0, 1) := by decide +kernel
theorem d12_sideWord_1 : decode cX12_sideWord 1 = .ok (.bipush 108, 2) := by decide +kernel
theorem d12_sideWord_3 : decode cX12_sideWord 3 = .ok (.bipush 101, 2) := by decide +kernel
theorem d12_sideWord_5 : decode cX12_sideWord 5 = .ok (.bipush 102, 2) := by decide +kernel
theorem d12_sideWord_7 : decode cX12_sideWord 7 = .ok (.bipush 116, 2) := by decide +kernel
theorem d12_sideWord_9 : decode cX12_sideWord 9 = .ok (.iconst 0, 1) := by decide +kernel
theorem d12_sideWord_10 : decode cX12_sideWord 10 = .ok (.iconst 0, 1) := by decide +kernel
theorem d12_sideWord_11 : decode cX12_sideWord 11 = .ok (.invokestatic 130, 3) := by decide +kernel
theorem d12_sideWord_14 : decode cX12_sideWord 14 = .ok (.invokevirtual 134, 3) := by decide +kernel
theorem d12_sideWord_17 : decode cX12_sideWord 17 = .ok (.ifCond .eq 5, 3) := by decide +kernel
theorem d12_sideWord_20 : decode cX12_sideWord 20 = .ok (.iconst 0, 1) := by decide +kernel
theorem d12_sideWord_21 : decode cX12_sideWord 21 = .ok (.ireturn, 1) := by decide +kernel
theorem d12_sideWord_22 : decode cX12_sideWord 22 = .ok (.aload_n 0, 1) := by decide +kernel
theorem d12_sideWord_23 : decode cX12_sideWord 23 = .ok (.bipush 114, 2) := by decide +kernel
theorem d12_sideWord_25 : decode cX12_sideWord 25 = .ok (.bipush 105, 2) := by decide +kernel
theorem d12_sideWord_27 : decode cX12_sideWord 27 = .ok (.bipush 103, 2) := by decide +kernel
theorem d12_sideWord_29 : decode cX12_sideWord 29 = .ok (.bipush 104, 2) := by decide +kernel
theorem d12_sideWord_31 : decode cX12_sideWord 31 = .ok (.bipush 116, 2) := by decide +kernel
theorem d12_sideWord_33 : decode cX12_sideWord 33 = .ok (.iconst 0, 1) := by decide +kernel
theorem d12_sideWord_34 : decode cX12_sideWord 34 = .ok (.invokestatic 130, 3) := by decide +kernel
theorem d12_sideWord_37 : decode cX12_sideWord 37 = .ok (.invokevirtual 134, 3) := by decide +kernel
theorem d12_sideWord_40 : decode cX12_sideWord 40 = .ok (.ifCond .eq 7, 3) := by decide +kernel
theorem d12_sideWord_43 : decode cX12_sideWord 43 = .ok (.iconst 1, 1) := by decide +kernel
theorem d12_sideWord_44 : decode cX12_sideWord 44 = .ok (.goto 4, 3) := by decide +kernel
theorem d12_sideWord_47 : decode cX12_sideWord 47 = .ok (.iconst (-1), 1) := by decide +kernel
theorem d12_sideWord_48 : decode cX12_sideWord 48 = .ok (.ireturn, 1) := by decide +kernel
abbrev K12_sideWord : CK Int32 := (enI, (some .int), 1, 2, none)
noncomputable def F12_sideWord (σ : Ms) : Option (Int32 × Ms) :=
  bn (F12_spelled (108 : Int32) (101 : Int32) (102 : Int32) (116 : Int32) (0 : Int32) (0 : Int32) σ) (fun r1 t2 => bn (F12_isWord r1 t2) (fun r3 t4 => if r3 = 0 then (bn (F12_spelled (114 : Int32) (105 : Int32) (103 : Int32) (104 : Int32) (116 : Int32) (0 : Int32) t4) (fun r5 t6 => bn (F12_isWord r5 t6) (fun r7 t8 => if r7 = 0 then (some ((-1 : Int32), t8))
  else (some ((1 : Int32), t8)))))
  else (some ((0 : Int32), t4))))
set_option maxRecDepth 100000 in
theorem mc12_sideWord (σ : Ms) : MC enI yX12_sideWord cX12_sideWord 1 (some .int) 2 (F12_sideWord σ) σ [.ref 0] := by
  refine MC.i (by decide +kernel) (Nat.le_of_ble_eq_true rfl) ?_
  show VF (K12_sideWord) cX12_sideWord RX12 (F12_sideWord σ) σ 0 [(0, .ref 0)] []
  unfold F12_sideWord
  refine v_aload_n d12_sideWord_0 0 rfl rfl ?_
  refine v_bipush d12_sideWord_1 kb_108 ?_
  refine v_bipush d12_sideWord_3 kb_101 ?_
  refine v_bipush d12_sideWord_5 kb_102 ?_
  refine v_bipush d12_sideWord_7 kb_116 ?_
  refine v_iconst d12_sideWord_9 ki_0 ?_
  refine v_iconst d12_sideWord_10 ki_0 ?_
  refine v_callS6l d12_sideWord_11 (mc12_spelled (108 : Int32) (101 : Int32) (102 : Int32) (116 : Int32) (0 : Int32) (0 : Int32) σ) ys12_spelled mlX12_130 (by decide) (Nat.le_of_ble_eq_true rfl) fun r1 t2 => ?_
  refine v_callV1i d12_sideWord_14 (mc12_isWord r1 t2) yv12_isWord mlX12_134 (Recv.obj ic_0 rfl) (by decide) (Nat.le_of_ble_eq_true rfl) fun r3 t4 => ?_
  refine v_if_eq (tgt := 22) d12_sideWord_17 (by decide) ?_ ?_
  · refine v_aload_n d12_sideWord_22 0 rfl rfl ?_
    refine v_bipush d12_sideWord_23 kb_114 ?_
    refine v_bipush d12_sideWord_25 kb_105 ?_
    refine v_bipush d12_sideWord_27 kb_103 ?_
    refine v_bipush d12_sideWord_29 kb_104 ?_
    refine v_bipush d12_sideWord_31 kb_116 ?_
    refine v_iconst d12_sideWord_33 ki_0 ?_
    refine v_callS6l d12_sideWord_34 (mc12_spelled (114 : Int32) (105 : Int32) (103 : Int32) (104 : Int32) (116 : Int32) (0 : Int32) t4) ys12_spelled mlX12_130 (by decide) (Nat.le_of_ble_eq_true rfl) fun r5 t6 => ?_
    refine v_callV1i d12_sideWord_37 (mc12_isWord r5 t6) yv12_isWord mlX12_134 (Recv.obj ic_0 rfl) (by decide) (Nat.le_of_ble_eq_true rfl) fun r7 t8 => ?_
    refine v_if_eq (tgt := 47) d12_sideWord_40 (by decide) ?_ ?_
    · refine v_iconst d12_sideWord_47 ki_m1 ?_
      exact v_iret d12_sideWord_48 rfl rfl rfl
    · refine v_iconst d12_sideWord_43 ki_1 ?_
      refine v_goto (tgt := 48) d12_sideWord_44 (by decide) ?_
      exact v_iret d12_sideWord_48 rfl rfl rfl
  · refine v_iconst d12_sideWord_20 ki_0 ?_
    exact v_iret d12_sideWord_21 rfl rfl rfl
theorem d12_stepWord_0 : decode cX12_stepWord 0 = .ok (.aload_n 0, 1) := by decide +kernel
theorem d12_stepWord_1 : decode cX12_stepWord 1 = .ok (.bipush 99, 2) := by decide +kernel
theorem d12_stepWord_3 : decode cX12_stepWord 3 = .ok (.bipush 117, 2) := by decide +kernel
theorem d12_stepWord_5 : decode cX12_stepWord 5 = .ok (.bipush 116, 2) := by decide +kernel
theorem d12_stepWord_7 : decode cX12_stepWord 7 = .ok (.iconst 0, 1) := by decide +kernel
theorem d12_stepWord_8 : decode cX12_stepWord 8 = .ok (.iconst 0, 1) := by decide +kernel
theorem d12_stepWord_9 : decode cX12_stepWord 9 = .ok (.iconst 0, 1) := by decide +kernel
theorem d12_stepWord_10 : decode cX12_stepWord 10 = .ok (.invokestatic 130, 3) := by decide +kernel
theorem d12_stepWord_13 : decode cX12_stepWord 13 = .ok (.invokevirtual 134, 3) := by decide +kernel
theorem d12_stepWord_16 : decode cX12_stepWord 16 = .ok (.ifCond .eq 5, 3) := by decide +kernel
theorem d12_stepWord_19 : decode cX12_stepWord 19 = .ok (.iconst 0, 1) := by decide +kernel
theorem d12_stepWord_20 : decode cX12_stepWord 20 = .ok (.ireturn, 1) := by decide +kernel
theorem d12_stepWord_21 : decode cX12_stepWord 21 = .ok (.aload_n 0, 1) := by decide +kernel
theorem d12_stepWord_22 : decode cX12_stepWord 22 = .ok (.bipush 116, 2) := by decide +kernel
theorem d12_stepWord_24 : decode cX12_stepWord 24 = .ok (.bipush 97, 2) := by decide +kernel
theorem d12_stepWord_26 : decode cX12_stepWord 26 = .ok (.bipush 107, 2) := by decide +kernel
theorem d12_stepWord_28 : decode cX12_stepWord 28 = .ok (.bipush 101, 2) := by decide +kernel
theorem d12_stepWord_30 : decode cX12_stepWord 30 = .ok (.iconst 0, 1) := by decide +kernel
theorem d12_stepWord_31 : decode cX12_stepWord 31 = .ok (.iconst 0, 1) := by decide +kernel
theorem d12_stepWord_32 : decode cX12_stepWord 32 = .ok (.invokestatic 130, 3) := by decide +kernel
theorem d12_stepWord_35 : decode cX12_stepWord 35 = .ok (.invokevirtual 134, 3) := by decide +kernel
theorem d12_stepWord_38 : decode cX12_stepWord 38 = .ok (.ifCond .eq 5, 3) := by decide +kernel
theorem d12_stepWord_41 : decode cX12_stepWord 41 = .ok (.iconst 1, 1) := by decide +kernel
theorem d12_stepWord_42 : decode cX12_stepWord 42 = .ok (.ireturn, 1) := by decide +kernel
theorem d12_stepWord_43 : decode cX12_stepWord 43 = .ok (.aload_n 0, 1) := by decide +kernel
theorem d12_stepWord_44 : decode cX12_stepWord 44 = .ok (.bipush 108, 2) := by decide +kernel
theorem d12_stepWord_46 : decode cX12_stepWord 46 = .ok (.bipush 101, 2) := by decide +kernel
theorem d12_stepWord_48 : decode cX12_stepWord 48 = .ok (.bipush 115, 2) := by decide +kernel
theorem d12_stepWord_50 : decode cX12_stepWord 50 = .ok (.bipush 115, 2) := by decide +kernel
theorem d12_stepWord_52 : decode cX12_stepWord 52 = .ok (.iconst 0, 1) := by decide +kernel
theorem d12_stepWord_53 : decode cX12_stepWord 53 = .ok (.iconst 0, 1) := by decide +kernel
theorem d12_stepWord_54 : decode cX12_stepWord 54 = .ok (.invokestatic 130, 3) := by decide +kernel
theorem d12_stepWord_57 : decode cX12_stepWord 57 = .ok (.invokevirtual 134, 3) := by decide +kernel
theorem d12_stepWord_60 : decode cX12_stepWord 60 = .ok (.ifCond .eq 5, 3) := by decide +kernel
theorem d12_stepWord_63 : decode cX12_stepWord 63 = .ok (.iconst 2, 1) := by decide +kernel
theorem d12_stepWord_64 : decode cX12_stepWord 64 = .ok (.ireturn, 1) := by decide +kernel
theorem d12_stepWord_65 : decode cX12_stepWord 65 = .ok (.aload_n 0, 1) := by decide +kernel
theorem d12_stepWord_66 : decode cX12_stepWord 66 = .ok (.bipush 103, 2) := by decide +kernel
theorem d12_stepWord_68 : decode cX12_stepWord 68 = .ok (.bipush 114, 2) := by decide +kernel
theorem d12_stepWord_70 : decode cX12_stepWord 70 = .ok (.bipush 111, 2) := by decide +kernel
theorem d12_stepWord_72 : decode cX12_stepWord 72 = .ok (.bipush 119, 2) := by decide +kernel
theorem d12_stepWord_74 : decode cX12_stepWord 74 = .ok (.iconst 0, 1) := by decide +kernel
theorem d12_stepWord_75 : decode cX12_stepWord 75 = .ok (.iconst 0, 1) := by decide +kernel
theorem d12_stepWord_76 : decode cX12_stepWord 76 = .ok (.invokestatic 130, 3) := by decide +kernel
theorem d12_stepWord_79 : decode cX12_stepWord 79 = .ok (.invokevirtual 134, 3) := by decide +kernel
theorem d12_stepWord_82 : decode cX12_stepWord 82 = .ok (.ifCond .eq 5, 3) := by decide +kernel
theorem d12_stepWord_85 : decode cX12_stepWord 85 = .ok (.iconst 3, 1) := by decide +kernel
theorem d12_stepWord_86 : decode cX12_stepWord 86 = .ok (.ireturn, 1) := by decide +kernel
theorem d12_stepWord_87 : decode cX12_stepWord 87 = .ok (.aload_n 0, 1) := by decide +kernel
theorem d12_stepWord_88 : decode cX12_stepWord 88 = .ok (.bipush 97, 2) := by decide +kernel
theorem d12_stepWord_90 : decode cX12_stepWord 90 = .ok (.bipush 110, 2) := by decide +kernel
theorem d12_stepWord_92 : decode cX12_stepWord 92 = .ok (.bipush 121, 2) := by decide +kernel
theorem d12_stepWord_94 : decode cX12_stepWord 94 = .ok (.iconst 0, 1) := by decide +kernel
theorem d12_stepWord_95 : decode cX12_stepWord 95 = .ok (.iconst 0, 1) := by decide +kernel
theorem d12_stepWord_96 : decode cX12_stepWord 96 = .ok (.iconst 0, 1) := by decide +kernel
theorem d12_stepWord_97 : decode cX12_stepWord 97 = .ok (.invokestatic 130, 3) := by decide +kernel
theorem d12_stepWord_100 : decode cX12_stepWord 100 = .ok (.invokevirtual 134, 3) := by decide +kernel
theorem d12_stepWord_103 : decode cX12_stepWord 103 = .ok (.ifCond .eq 5, 3) := by decide +kernel
theorem d12_stepWord_106 : decode cX12_stepWord 106 = .ok (.iconst 4, 1) := by decide +kernel
theorem d12_stepWord_107 : decode cX12_stepWord 107 = .ok (.ireturn, 1) := by decide +kernel
theorem d12_stepWord_108 : decode cX12_stepWord 108 = .ok (.aload_n 0, 1) := by decide +kernel
theorem d12_stepWord_109 : decode cX12_stepWord 109 = .ok (.bipush 119, 2) := by decide +kernel
theorem d12_stepWord_111 : decode cX12_stepWord 111 = .ok (.bipush 104, 2) := by decide +kernel
theorem d12_stepWord_113 : decode cX12_stepWord 113 = .ok (.bipush 101, 2) := by decide +kernel
theorem d12_stepWord_115 : decode cX12_stepWord 115 = .ok (.bipush 110, 2) := by decide +kernel
theorem d12_stepWord_117 : decode cX12_stepWord 117 = .ok (.iconst 0, 1) := by decide +kernel
theorem d12_stepWord_118 : decode cX12_stepWord 118 = .ok (.iconst 0, 1) := by decide +kernel
theorem d12_stepWord_119 : decode cX12_stepWord 119 = .ok (.invokestatic 130, 3) := by decide +kernel
theorem d12_stepWord_122 : decode cX12_stepWord 122 = .ok (.invokevirtual 134, 3) := by decide +kernel
theorem d12_stepWord_125 : decode cX12_stepWord 125 = .ok (.ifCond .eq 5, 3) := by decide +kernel
theorem d12_stepWord_128 : decode cX12_stepWord 128 = .ok (.iconst 5, 1) := by decide +kernel
theorem d12_stepWord_129 : decode cX12_stepWord 129 = .ok (.ireturn, 1) := by decide +kernel
theorem d12_stepWord_130 : decode cX12_stepWord 130 = .ok (.aload_n 0, 1) := by decide +kernel
theorem d12_stepWord_131 : decode cX12_stepWord 131 = .ok (.bipush 108, 2) := by decide +kernel
theorem d12_stepWord_133 : decode cX12_stepWord 133 = .ok (.bipush 111, 2) := by decide +kernel
theorem d12_stepWord_135 : decode cX12_stepWord 135 = .ok (.bipush 111, 2) := by decide +kernel
theorem d12_stepWord_137 : decode cX12_stepWord 137 = .ok (.bipush 112, 2) := by decide +kernel
theorem d12_stepWord_139 : decode cX12_stepWord 139 = .ok (.iconst 0, 1) := by decide +kernel
theorem d12_stepWord_140 : decode cX12_stepWord 140 = .ok (.iconst 0, 1) := by decide +kernel
theorem d12_stepWord_141 : decode cX12_stepWord 141 = .ok (.invokestatic 130, 3) := by decide +kernel
theorem d12_stepWord_144 : decode cX12_stepWord 144 = .ok (.invokevirtual 134, 3) := by decide +kernel
theorem d12_stepWord_147 : decode cX12_stepWord 147 = .ok (.ifCond .eq 6, 3) := by decide +kernel
theorem d12_stepWord_150 : decode cX12_stepWord 150 = .ok (.bipush 6, 2) := by decide +kernel
theorem d12_stepWord_152 : decode cX12_stepWord 152 = .ok (.ireturn, 1) := by decide +kernel
theorem d12_stepWord_153 : decode cX12_stepWord 153 = .ok (.aload_n 0, 1) := by decide +kernel
theorem d12_stepWord_154 : decode cX12_stepWord 154 = .ok (.bipush 115, 2) := by decide +kernel
theorem d12_stepWord_156 : decode cX12_stepWord 156 = .ok (.bipush 116, 2) := by decide +kernel
theorem d12_stepWord_158 : decode cX12_stepWord 158 = .ok (.bipush 111, 2) := by decide +kernel
theorem d12_stepWord_160 : decode cX12_stepWord 160 = .ok (.bipush 112, 2) := by decide +kernel
theorem d12_stepWord_162 : decode cX12_stepWord 162 = .ok (.iconst 0, 1) := by decide +kernel
theorem d12_stepWord_163 : decode cX12_stepWord 163 = .ok (.iconst 0, 1) := by decide +kernel
theorem d12_stepWord_164 : decode cX12_stepWord 164 = .ok (.invokestatic 130, 3) := by decide +kernel
theorem d12_stepWord_167 : decode cX12_stepWord 167 = .ok (.invokevirtual 134, 3) := by decide +kernel
theorem d12_stepWord_170 : decode cX12_stepWord 170 = .ok (.ifCond .eq 8, 3) := by decide +kernel
theorem d12_stepWord_173 : decode cX12_stepWord 173 = .ok (.bipush 7, 2) := by decide +kernel
theorem d12_stepWord_175 : decode cX12_stepWord 175 = .ok (.goto 4, 3) := by decide +kernel
theorem d12_stepWord_178 : decode cX12_stepWord 178 = .ok (.iconst (-1), 1) := by decide +kernel
theorem d12_stepWord_179 : decode cX12_stepWord 179 = .ok (.ireturn, 1) := by decide +kernel
abbrev K12_stepWord : CK Int32 := (enI, (some .int), 1, 2, none)
noncomputable def F12_stepWord (σ : Ms) : Option (Int32 × Ms) :=
  bn (F12_spelled (99 : Int32) (117 : Int32) (116 : Int32) (0 : Int32) (0 : Int32) (0 : Int32) σ) (fun r1 t2 => bn (F12_isWord r1 t2) (fun r3 t4 => if r3 = 0 then (bn (F12_spelled (116 : Int32) (97 : Int32) (107 : Int32) (101 : Int32) (0 : Int32) (0 : Int32) t4) (fun r5 t6 => bn (F12_isWord r5 t6) (fun r7 t8 => if r7 = 0 then (bn (F12_spelled (108 : Int32) (101 : Int32) (115 : Int32) (115 : Int32) (0 : Int32) (0 : Int32) t8) (fun r9 t10 => bn (F12_isWord r9 t10) (fun r11 t12 => if r11 = 0 then (bn (F12_spelled (103 : Int32) (114 : Int32) (111 : Int32) (119 : Int32) (0 : Int32) (0 : Int32) t12) (fun r13 t14 => bn (F12_isWord r13 t14) (fun r15 t16 => if r15 = 0 then (bn (F12_spelled (97 : Int32) (110 : Int32) (121 : Int32) (0 : Int32) (0 : Int32) (0 : Int32) t16) (fun r17 t18 => bn (F12_isWord r17 t18) (fun r19 t20 => if r19 = 0 then (bn (F12_spelled (119 : Int32) (104 : Int32) (101 : Int32) (110 : Int32) (0 : Int32) (0 : Int32) t20) (fun r21 t22 => bn (F12_isWord r21 t22) (fun r23 t24 => if r23 = 0 then (bn (F12_spelled (108 : Int32) (111 : Int32) (111 : Int32) (112 : Int32) (0 : Int32) (0 : Int32) t24) (fun r25 t26 => bn (F12_isWord r25 t26) (fun r27 t28 => if r27 = 0 then (bn (F12_spelled (115 : Int32) (116 : Int32) (111 : Int32) (112 : Int32) (0 : Int32) (0 : Int32) t28) (fun r29 t30 => bn (F12_isWord r29 t30) (fun r31 t32 => if r31 = 0 then (some ((-1 : Int32), t32))
  else (some ((7 : Int32), t32)))))
  else (some ((6 : Int32), t28)))))
  else (some ((5 : Int32), t24)))))
  else (some ((4 : Int32), t20)))))
  else (some ((3 : Int32), t16)))))
  else (some ((2 : Int32), t12)))))
  else (some ((1 : Int32), t8)))))
  else (some ((0 : Int32), t4))))
set_option maxRecDepth 100000 in
theorem mc12_stepWord (σ : Ms) : MC enI yX12_stepWord cX12_stepWord 1 (some .int) 2 (F12_stepWord σ) σ [.ref 0] := by
  refine MC.i (by decide +kernel) (Nat.le_of_ble_eq_true rfl) ?_
  show VF (K12_stepWord) cX12_stepWord RX12 (F12_stepWord σ) σ 0 [(0, .ref 0)] []
  unfold F12_stepWord
  refine v_aload_n d12_stepWord_0 0 rfl rfl ?_
  refine v_bipush d12_stepWord_1 kb_99 ?_
  refine v_bipush d12_stepWord_3 kb_117 ?_
  refine v_bipush d12_stepWord_5 kb_116 ?_
  refine v_iconst d12_stepWord_7 ki_0 ?_
  refine v_iconst d12_stepWord_8 ki_0 ?_
  refine v_iconst d12_stepWord_9 ki_0 ?_
  refine v_callS6l d12_stepWord_10 (mc12_spelled (99 : Int32) (117 : Int32) (116 : Int32) (0 : Int32) (0 : Int32) (0 : Int32) σ) ys12_spelled mlX12_130 (by decide) (Nat.le_of_ble_eq_true rfl) fun r1 t2 => ?_
  refine v_callV1i d12_stepWord_13 (mc12_isWord r1 t2) yv12_isWord mlX12_134 (Recv.obj ic_0 rfl) (by decide) (Nat.le_of_ble_eq_true rfl) fun r3 t4 => ?_
  refine v_if_eq (tgt := 21) d12_stepWord_16 (by decide) ?_ ?_
  · refine v_aload_n d12_stepWord_21 0 rfl rfl ?_
    refine v_bipush d12_stepWord_22 kb_116 ?_
    refine v_bipush d12_stepWord_24 kb_97 ?_
    refine v_bipush d12_stepWord_26 kb_107 ?_
    refine v_bipush d12_stepWord_28 kb_101 ?_
    refine v_iconst d12_stepWord_30 ki_0 ?_
    refine v_iconst d12_stepWord_31 ki_0 ?_
    refine v_callS6l d12_stepWord_32 (mc12_spelled (116 : Int32) (97 : Int32) (107 : Int32) (101 : Int32) (0 : Int32) (0 : Int32) t4) ys12_spelled mlX12_130 (by decide) (Nat.le_of_ble_eq_true rfl) fun r5 t6 => ?_
    refine v_callV1i d12_stepWord_35 (mc12_isWord r5 t6) yv12_isWord mlX12_134 (Recv.obj ic_0 rfl) (by decide) (Nat.le_of_ble_eq_true rfl) fun r7 t8 => ?_
    refine v_if_eq (tgt := 43) d12_stepWord_38 (by decide) ?_ ?_
    · refine v_aload_n d12_stepWord_43 0 rfl rfl ?_
      refine v_bipush d12_stepWord_44 kb_108 ?_
      refine v_bipush d12_stepWord_46 kb_101 ?_
      refine v_bipush d12_stepWord_48 kb_115 ?_
      refine v_bipush d12_stepWord_50 kb_115 ?_
      refine v_iconst d12_stepWord_52 ki_0 ?_
      refine v_iconst d12_stepWord_53 ki_0 ?_
      refine v_callS6l d12_stepWord_54 (mc12_spelled (108 : Int32) (101 : Int32) (115 : Int32) (115 : Int32) (0 : Int32) (0 : Int32) t8) ys12_spelled mlX12_130 (by decide) (Nat.le_of_ble_eq_true rfl) fun r9 t10 => ?_
      refine v_callV1i d12_stepWord_57 (mc12_isWord r9 t10) yv12_isWord mlX12_134 (Recv.obj ic_0 rfl) (by decide) (Nat.le_of_ble_eq_true rfl) fun r11 t12 => ?_
      refine v_if_eq (tgt := 65) d12_stepWord_60 (by decide) ?_ ?_
      · refine v_aload_n d12_stepWord_65 0 rfl rfl ?_
        refine v_bipush d12_stepWord_66 kb_103 ?_
        refine v_bipush d12_stepWord_68 kb_114 ?_
        refine v_bipush d12_stepWord_70 kb_111 ?_
        refine v_bipush d12_stepWord_72 kb_119 ?_
        refine v_iconst d12_stepWord_74 ki_0 ?_
        refine v_iconst d12_stepWord_75 ki_0 ?_
        refine v_callS6l d12_stepWord_76 (mc12_spelled (103 : Int32) (114 : Int32) (111 : Int32) (119 : Int32) (0 : Int32) (0 : Int32) t12) ys12_spelled mlX12_130 (by decide) (Nat.le_of_ble_eq_true rfl) fun r13 t14 => ?_
        refine v_callV1i d12_stepWord_79 (mc12_isWord r13 t14) yv12_isWord mlX12_134 (Recv.obj ic_0 rfl) (by decide) (Nat.le_of_ble_eq_true rfl) fun r15 t16 => ?_
        refine v_if_eq (tgt := 87) d12_stepWord_82 (by decide) ?_ ?_
        · refine v_aload_n d12_stepWord_87 0 rfl rfl ?_
          refine v_bipush d12_stepWord_88 kb_97 ?_
          refine v_bipush d12_stepWord_90 kb_110 ?_
          refine v_bipush d12_stepWord_92 kb_121 ?_
          refine v_iconst d12_stepWord_94 ki_0 ?_
          refine v_iconst d12_stepWord_95 ki_0 ?_
          refine v_iconst d12_stepWord_96 ki_0 ?_
          refine v_callS6l d12_stepWord_97 (mc12_spelled (97 : Int32) (110 : Int32) (121 : Int32) (0 : Int32) (0 : Int32) (0 : Int32) t16) ys12_spelled mlX12_130 (by decide) (Nat.le_of_ble_eq_true rfl) fun r17 t18 => ?_
          refine v_callV1i d12_stepWord_100 (mc12_isWord r17 t18) yv12_isWord mlX12_134 (Recv.obj ic_0 rfl) (by decide) (Nat.le_of_ble_eq_true rfl) fun r19 t20 => ?_
          refine v_if_eq (tgt := 108) d12_stepWord_103 (by decide) ?_ ?_
          · refine v_aload_n d12_stepWord_108 0 rfl rfl ?_
            refine v_bipush d12_stepWord_109 kb_119 ?_
            refine v_bipush d12_stepWord_111 kb_104 ?_
            refine v_bipush d12_stepWord_113 kb_101 ?_
            refine v_bipush d12_stepWord_115 kb_110 ?_
            refine v_iconst d12_stepWord_117 ki_0 ?_
            refine v_iconst d12_stepWord_118 ki_0 ?_
            refine v_callS6l d12_stepWord_119 (mc12_spelled (119 : Int32) (104 : Int32) (101 : Int32) (110 : Int32) (0 : Int32) (0 : Int32) t20) ys12_spelled mlX12_130 (by decide) (Nat.le_of_ble_eq_true rfl) fun r21 t22 => ?_
            refine v_callV1i d12_stepWord_122 (mc12_isWord r21 t22) yv12_isWord mlX12_134 (Recv.obj ic_0 rfl) (by decide) (Nat.le_of_ble_eq_true rfl) fun r23 t24 => ?_
            refine v_if_eq (tgt := 130) d12_stepWord_125 (by decide) ?_ ?_
            · refine v_aload_n d12_stepWord_130 0 rfl rfl ?_
              refine v_bipush d12_stepWord_131 kb_108 ?_
              refine v_bipush d12_stepWord_133 kb_111 ?_
              refine v_bipush d12_stepWord_135 kb_111 ?_
              refine v_bipush d12_stepWord_137 kb_112 ?_
              refine v_iconst d12_stepWord_139 ki_0 ?_
              refine v_iconst d12_stepWord_140 ki_0 ?_
              refine v_callS6l d12_stepWord_141 (mc12_spelled (108 : Int32) (111 : Int32) (111 : Int32) (112 : Int32) (0 : Int32) (0 : Int32) t24) ys12_spelled mlX12_130 (by decide) (Nat.le_of_ble_eq_true rfl) fun r25 t26 => ?_
              refine v_callV1i d12_stepWord_144 (mc12_isWord r25 t26) yv12_isWord mlX12_134 (Recv.obj ic_0 rfl) (by decide) (Nat.le_of_ble_eq_true rfl) fun r27 t28 => ?_
              refine v_if_eq (tgt := 153) d12_stepWord_147 (by decide) ?_ ?_
              · refine v_aload_n d12_stepWord_153 0 rfl rfl ?_
                refine v_bipush d12_stepWord_154 kb_115 ?_
                refine v_bipush d12_stepWord_156 kb_116 ?_
                refine v_bipush d12_stepWord_158 kb_111 ?_
                refine v_bipush d12_stepWord_160 kb_112 ?_
                refine v_iconst d12_stepWord_162 ki_0 ?_
                refine v_iconst d12_stepWord_163 ki_0 ?_
                refine v_callS6l d12_stepWord_164 (mc12_spelled (115 : Int32) (116 : Int32) (111 : Int32) (112 : Int32) (0 : Int32) (0 : Int32) t28) ys12_spelled mlX12_130 (by decide) (Nat.le_of_ble_eq_true rfl) fun r29 t30 => ?_
                refine v_callV1i d12_stepWord_167 (mc12_isWord r29 t30) yv12_isWord mlX12_134 (Recv.obj ic_0 rfl) (by decide) (Nat.le_of_ble_eq_true rfl) fun r31 t32 => ?_
                refine v_if_eq (tgt := 178) d12_stepWord_170 (by decide) ?_ ?_
                · refine v_iconst d12_stepWord_178 ki_m1 ?_
                  exact v_iret d12_stepWord_179 rfl rfl rfl
                · refine v_bipush d12_stepWord_173 kb_7 ?_
                  refine v_goto (tgt := 179) d12_stepWord_175 (by decide) ?_
                  exact v_iret d12_stepWord_179 rfl rfl rfl
              · refine v_bipush d12_stepWord_150 kb_6 ?_
                exact v_iret d12_stepWord_152 rfl rfl rfl
            · refine v_iconst d12_stepWord_128 ki_5 ?_
              exact v_iret d12_stepWord_129 rfl rfl rfl
          · refine v_iconst d12_stepWord_106 ki_4 ?_
            exact v_iret d12_stepWord_107 rfl rfl rfl
        · refine v_iconst d12_stepWord_85 ki_3 ?_
          exact v_iret d12_stepWord_86 rfl rfl rfl
      · refine v_iconst d12_stepWord_63 ki_2 ?_
        exact v_iret d12_stepWord_64 rfl rfl rfl
    · refine v_iconst d12_stepWord_41 ki_1 ?_
      exact v_iret d12_stepWord_42 rfl rfl rfl
  · refine v_iconst d12_stepWord_19 ki_0 ?_
    exact v_iret d12_stepWord_20 rfl rfl rfl
theorem d12_testWord_0 : decode cX12_testWord 0 = .ok (.aload_n 0, 1) := by decide +kernel
theorem d12_testWord_1 : decode cX12_testWord 1 = .ok (.bipush 115, 2) := by decide +kernel
theorem d12_testWord_3 : decode cX12_testWord 3 = .ok (.bipush 116, 2) := by decide +kernel
theorem d12_testWord_5 : decode cX12_testWord 5 = .ok (.bipush 97, 2) := by decide +kernel
theorem d12_testWord_7 : decode cX12_testWord 7 = .ok (.bipush 110, 2) := by decide +kernel
theorem d12_testWord_9 : decode cX12_testWord 9 = .ok (.bipush 100, 2) := by decide +kernel
theorem d12_testWord_11 : decode cX12_testWord 11 = .ok (.bipush 115, 2) := by decide +kernel
theorem d12_testWord_13 : decode cX12_testWord 13 = .ok (.invokestatic 130, 3) := by decide +kernel
theorem d12_testWord_16 : decode cX12_testWord 16 = .ok (.invokevirtual 134, 3) := by decide +kernel
theorem d12_testWord_19 : decode cX12_testWord 19 = .ok (.ifCond .eq 5, 3) := by decide +kernel
theorem d12_testWord_22 : decode cX12_testWord 22 = .ok (.iconst 0, 1) := by decide +kernel
theorem d12_testWord_23 : decode cX12_testWord 23 = .ok (.ireturn, 1) := by decide +kernel
theorem d12_testWord_24 : decode cX12_testWord 24 = .ok (.aload_n 0, 1) := by decide +kernel
theorem d12_testWord_25 : decode cX12_testWord 25 = .ok (.bipush 119, 2) := by decide +kernel
theorem d12_testWord_27 : decode cX12_testWord 27 = .ok (.bipush 111, 2) := by decide +kernel
theorem d12_testWord_29 : decode cX12_testWord 29 = .ok (.bipush 114, 2) := by decide +kernel
theorem d12_testWord_31 : decode cX12_testWord 31 = .ok (.bipush 116, 2) := by decide +kernel
theorem d12_testWord_33 : decode cX12_testWord 33 = .ok (.bipush 104, 2) := by decide +kernel
theorem d12_testWord_35 : decode cX12_testWord 35 = .ok (.iconst 0, 1) := by decide +kernel
theorem d12_testWord_36 : decode cX12_testWord 36 = .ok (.invokestatic 130, 3) := by decide +kernel
theorem d12_testWord_39 : decode cX12_testWord 39 = .ok (.invokevirtual 134, 3) := by decide +kernel
theorem d12_testWord_42 : decode cX12_testWord 42 = .ok (.ifCond .eq 5, 3) := by decide +kernel
theorem d12_testWord_45 : decode cX12_testWord 45 = .ok (.iconst 1, 1) := by decide +kernel
theorem d12_testWord_46 : decode cX12_testWord 46 = .ok (.ireturn, 1) := by decide +kernel
theorem d12_testWord_47 : decode cX12_testWord 47 = .ok (.aload_n 0, 1) := by decide +kernel
theorem d12_testWord_48 : decode cX12_testWord 48 = .ok (.bipush 110, 2) := by decide +kernel
theorem d12_testWord_50 : decode cX12_testWord 50 = .ok (.bipush 105, 2) := by decide +kernel
theorem d12_testWord_52 : decode cX12_testWord 52 = .ok (.bipush 109, 2) := by decide +kernel
theorem d12_testWord_54 : decode cX12_testWord 54 = .ok (.bipush 98, 2) := by decide +kernel
theorem d12_testWord_56 : decode cX12_testWord 56 = .ok (.bipush 101, 2) := by decide +kernel
theorem d12_testWord_58 : decode cX12_testWord 58 = .ok (.bipush 114, 2) := by decide +kernel
theorem d12_testWord_60 : decode cX12_testWord 60 = .ok (.invokestatic 130, 3) := by decide +kernel
theorem d12_testWord_63 : decode cX12_testWord 63 = .ok (.invokevirtual 134, 3) := by decide +kernel
theorem d12_testWord_66 : decode cX12_testWord 66 = .ok (.ifCond .eq 5, 3) := by decide +kernel
theorem d12_testWord_69 : decode cX12_testWord 69 = .ok (.iconst 2, 1) := by decide +kernel
theorem d12_testWord_70 : decode cX12_testWord 70 = .ok (.ireturn, 1) := by decide +kernel
theorem d12_testWord_71 : decode cX12_testWord 71 = .ok (.aload_n 0, 1) := by decide +kernel
theorem d12_testWord_72 : decode cX12_testWord 72 = .ok (.bipush 119, 2) := by decide +kernel
theorem d12_testWord_74 : decode cX12_testWord 74 = .ok (.bipush 105, 2) := by decide +kernel
theorem d12_testWord_76 : decode cX12_testWord 76 = .ok (.bipush 110, 2) := by decide +kernel
theorem d12_testWord_78 : decode cX12_testWord 78 = .ok (.bipush 115, 2) := by decide +kernel
theorem d12_testWord_80 : decode cX12_testWord 80 = .ok (.iconst 0, 1) := by decide +kernel
theorem d12_testWord_81 : decode cX12_testWord 81 = .ok (.iconst 0, 1) := by decide +kernel
theorem d12_testWord_82 : decode cX12_testWord 82 = .ok (.invokestatic 130, 3) := by decide +kernel
theorem d12_testWord_85 : decode cX12_testWord 85 = .ok (.invokevirtual 134, 3) := by decide +kernel
theorem d12_testWord_88 : decode cX12_testWord 88 = .ok (.ifCond .eq 7, 3) := by decide +kernel
theorem d12_testWord_91 : decode cX12_testWord 91 = .ok (.iconst 3, 1) := by decide +kernel
theorem d12_testWord_92 : decode cX12_testWord 92 = .ok (.goto 4, 3) := by decide +kernel
theorem d12_testWord_95 : decode cX12_testWord 95 = .ok (.iconst (-1), 1) := by decide +kernel
theorem d12_testWord_96 : decode cX12_testWord 96 = .ok (.ireturn, 1) := by decide +kernel
abbrev K12_testWord : CK Int32 := (enI, (some .int), 1, 2, none)
noncomputable def F12_testWord (σ : Ms) : Option (Int32 × Ms) :=
  bn (F12_spelled (115 : Int32) (116 : Int32) (97 : Int32) (110 : Int32) (100 : Int32) (115 : Int32) σ) (fun r1 t2 => bn (F12_isWord r1 t2) (fun r3 t4 => if r3 = 0 then (bn (F12_spelled (119 : Int32) (111 : Int32) (114 : Int32) (116 : Int32) (104 : Int32) (0 : Int32) t4) (fun r5 t6 => bn (F12_isWord r5 t6) (fun r7 t8 => if r7 = 0 then (bn (F12_spelled (110 : Int32) (105 : Int32) (109 : Int32) (98 : Int32) (101 : Int32) (114 : Int32) t8) (fun r9 t10 => bn (F12_isWord r9 t10) (fun r11 t12 => if r11 = 0 then (bn (F12_spelled (119 : Int32) (105 : Int32) (110 : Int32) (115 : Int32) (0 : Int32) (0 : Int32) t12) (fun r13 t14 => bn (F12_isWord r13 t14) (fun r15 t16 => if r15 = 0 then (some ((-1 : Int32), t16))
  else (some ((3 : Int32), t16)))))
  else (some ((2 : Int32), t12)))))
  else (some ((1 : Int32), t8)))))
  else (some ((0 : Int32), t4))))
set_option maxRecDepth 100000 in
theorem mc12_testWord (σ : Ms) : MC enI yX12_testWord cX12_testWord 1 (some .int) 2 (F12_testWord σ) σ [.ref 0] := by
  refine MC.i (by decide +kernel) (Nat.le_of_ble_eq_true rfl) ?_
  show VF (K12_testWord) cX12_testWord RX12 (F12_testWord σ) σ 0 [(0, .ref 0)] []
  unfold F12_testWord
  refine v_aload_n d12_testWord_0 0 rfl rfl ?_
  refine v_bipush d12_testWord_1 kb_115 ?_
  refine v_bipush d12_testWord_3 kb_116 ?_
  refine v_bipush d12_testWord_5 kb_97 ?_
  refine v_bipush d12_testWord_7 kb_110 ?_
  refine v_bipush d12_testWord_9 kb_100 ?_
  refine v_bipush d12_testWord_11 kb_115 ?_
  refine v_callS6l d12_testWord_13 (mc12_spelled (115 : Int32) (116 : Int32) (97 : Int32) (110 : Int32) (100 : Int32) (115 : Int32) σ) ys12_spelled mlX12_130 (by decide) (Nat.le_of_ble_eq_true rfl) fun r1 t2 => ?_
  refine v_callV1i d12_testWord_16 (mc12_isWord r1 t2) yv12_isWord mlX12_134 (Recv.obj ic_0 rfl) (by decide) (Nat.le_of_ble_eq_true rfl) fun r3 t4 => ?_
  refine v_if_eq (tgt := 24) d12_testWord_19 (by decide) ?_ ?_
  · refine v_aload_n d12_testWord_24 0 rfl rfl ?_
    refine v_bipush d12_testWord_25 kb_119 ?_
    refine v_bipush d12_testWord_27 kb_111 ?_
    refine v_bipush d12_testWord_29 kb_114 ?_
    refine v_bipush d12_testWord_31 kb_116 ?_
    refine v_bipush d12_testWord_33 kb_104 ?_
    refine v_iconst d12_testWord_35 ki_0 ?_
    refine v_callS6l d12_testWord_36 (mc12_spelled (119 : Int32) (111 : Int32) (114 : Int32) (116 : Int32) (104 : Int32) (0 : Int32) t4) ys12_spelled mlX12_130 (by decide) (Nat.le_of_ble_eq_true rfl) fun r5 t6 => ?_
    refine v_callV1i d12_testWord_39 (mc12_isWord r5 t6) yv12_isWord mlX12_134 (Recv.obj ic_0 rfl) (by decide) (Nat.le_of_ble_eq_true rfl) fun r7 t8 => ?_
    refine v_if_eq (tgt := 47) d12_testWord_42 (by decide) ?_ ?_
    · refine v_aload_n d12_testWord_47 0 rfl rfl ?_
      refine v_bipush d12_testWord_48 kb_110 ?_
      refine v_bipush d12_testWord_50 kb_105 ?_
      refine v_bipush d12_testWord_52 kb_109 ?_
      refine v_bipush d12_testWord_54 kb_98 ?_
      refine v_bipush d12_testWord_56 kb_101 ?_
      refine v_bipush d12_testWord_58 kb_114 ?_
      refine v_callS6l d12_testWord_60 (mc12_spelled (110 : Int32) (105 : Int32) (109 : Int32) (98 : Int32) (101 : Int32) (114 : Int32) t8) ys12_spelled mlX12_130 (by decide) (Nat.le_of_ble_eq_true rfl) fun r9 t10 => ?_
      refine v_callV1i d12_testWord_63 (mc12_isWord r9 t10) yv12_isWord mlX12_134 (Recv.obj ic_0 rfl) (by decide) (Nat.le_of_ble_eq_true rfl) fun r11 t12 => ?_
      refine v_if_eq (tgt := 71) d12_testWord_66 (by decide) ?_ ?_
      · refine v_aload_n d12_testWord_71 0 rfl rfl ?_
        refine v_bipush d12_testWord_72 kb_119 ?_
        refine v_bipush d12_testWord_74 kb_105 ?_
        refine v_bipush d12_testWord_76 kb_110 ?_
        refine v_bipush d12_testWord_78 kb_115 ?_
        refine v_iconst d12_testWord_80 ki_0 ?_
        refine v_iconst d12_testWord_81 ki_0 ?_
        refine v_callS6l d12_testWord_82 (mc12_spelled (119 : Int32) (105 : Int32) (110 : Int32) (115 : Int32) (0 : Int32) (0 : Int32) t12) ys12_spelled mlX12_130 (by decide) (Nat.le_of_ble_eq_true rfl) fun r13 t14 => ?_
        refine v_callV1i d12_testWord_85 (mc12_isWord r13 t14) yv12_isWord mlX12_134 (Recv.obj ic_0 rfl) (by decide) (Nat.le_of_ble_eq_true rfl) fun r15 t16 => ?_
        refine v_if_eq (tgt := 95) d12_testWord_88 (by decide) ?_ ?_
        · refine v_iconst d12_testWord_95 ki_m1 ?_
          exact v_iret d12_testWord_96 rfl rfl rfl
        · refine v_iconst d12_testWord_91 ki_3 ?_
          refine v_goto (tgt := 96) d12_testWord_92 (by decide) ?_
          exact v_iret d12_testWord_96 rfl rfl rfl
      · refine v_iconst d12_testWord_69 ki_2 ?_
        exact v_iret d12_testWord_70 rfl rfl rfl
    · refine v_iconst d12_testWord_45 ki_1 ?_
      exact v_iret d12_testWord_46 rfl rfl rfl
  · refine v_iconst d12_testWord_22 ki_0 ?_
    exact v_iret d12_testWord_23 rfl rfl rfl
theorem d12_isEnd_0 : decode cX12_isEnd 0 = .ok (.aload_n 0, 1) := by decide +kernel
theorem d12_isEnd_1 : decode cX12_isEnd 1 = .ok (.bipush 101, 2) := by decide +kernel
theorem d12_isEnd_3 : decode cX12_isEnd 3 = .ok (.bipush 110, 2) := by decide +kernel
theorem d12_isEnd_5 : decode cX12_isEnd 5 = .ok (.bipush 100, 2) := by decide +kernel
theorem d12_isEnd_7 : decode cX12_isEnd 7 = .ok (.iconst 0, 1) := by decide +kernel
theorem d12_isEnd_8 : decode cX12_isEnd 8 = .ok (.iconst 0, 1) := by decide +kernel
theorem d12_isEnd_9 : decode cX12_isEnd 9 = .ok (.iconst 0, 1) := by decide +kernel
theorem d12_isEnd_10 : decode cX12_isEnd 10 = .ok (.invokestatic 130, 3) := by decide +kernel
theorem d12_isEnd_13 : decode cX12_isEnd 13 = .ok (.invokevirtual 134, 3) := by decide +kernel
theorem d12_isEnd_16 : decode cX12_isEnd 16 = .ok (.ireturn, 1) := by decide +kernel
abbrev K12_isEnd : CK Int32 := (enI, (some .boolean), 1, 2, none)
noncomputable def F12_isEnd (σ : Ms) : Option (Int32 × Ms) :=
  bn (F12_spelled (101 : Int32) (110 : Int32) (100 : Int32) (0 : Int32) (0 : Int32) (0 : Int32) σ) (fun r1 t2 => bn (F12_isWord r1 t2) (fun r3 t4 => ck (nkB r3) (some (r3, t4))))
set_option maxRecDepth 100000 in
theorem mc12_isEnd (σ : Ms) : MC enI yX12_isEnd cX12_isEnd 1 (some .boolean) 2 (F12_isEnd σ) σ [.ref 0] := by
  refine MC.i (by decide +kernel) (Nat.le_of_ble_eq_true rfl) ?_
  show VF (K12_isEnd) cX12_isEnd RX12 (F12_isEnd σ) σ 0 [(0, .ref 0)] []
  unfold F12_isEnd
  refine v_aload_n d12_isEnd_0 0 rfl rfl ?_
  refine v_bipush d12_isEnd_1 kb_101 ?_
  refine v_bipush d12_isEnd_3 kb_110 ?_
  refine v_bipush d12_isEnd_5 kb_100 ?_
  refine v_iconst d12_isEnd_7 ki_0 ?_
  refine v_iconst d12_isEnd_8 ki_0 ?_
  refine v_iconst d12_isEnd_9 ki_0 ?_
  refine v_callS6l d12_isEnd_10 (mc12_spelled (101 : Int32) (110 : Int32) (100 : Int32) (0 : Int32) (0 : Int32) (0 : Int32) σ) ys12_spelled mlX12_130 (by decide) (Nat.le_of_ble_eq_true rfl) fun r1 t2 => ?_
  refine v_callV1i d12_isEnd_13 (mc12_isWord r1 t2) yv12_isWord mlX12_134 (Recv.obj ic_0 rfl) (by decide) (Nat.le_of_ble_eq_true rfl) fun r3 t4 => ?_
  exact v_iretB d12_isEnd_16 rfl rfl
theorem d12_fail_0 : decode cX12_fail 0 = .ok (.aload_n 0, 1) := by decide +kernel
theorem d12_fail_1 : decode cX12_fail 1 = .ok (.getfield 138, 3) := by decide +kernel
theorem d12_fail_4 : decode cX12_fail 4 = .ok (.ifCond .le 4, 3) := by decide +kernel
theorem d12_fail_7 : decode cX12_fail 7 = .ok (.return_, 1) := by decide +kernel
theorem d12_fail_8 : decode cX12_fail 8 = .ok (.aload_n 0, 1) := by decide +kernel
theorem d12_fail_9 : decode cX12_fail 9 = .ok (.iload_n 1, 1) := by decide +kernel
theorem d12_fail_10 : decode cX12_fail 10 = .ok (.putfield 138, 3) := by decide +kernel
theorem d12_fail_13 : decode cX12_fail 13 = .ok (.aload_n 0, 1) := by decide +kernel
theorem d12_fail_14 : decode cX12_fail 14 = .ok (.iload_n 2, 1) := by decide +kernel
theorem d12_fail_15 : decode cX12_fail 15 = .ok (.putfield 141, 3) := by decide +kernel
theorem d12_fail_18 : decode cX12_fail 18 = .ok (.return_, 1) := by decide +kernel
abbrev K12_fail : CK Unit := (enV, none, 3, 1, none)
noncomputable def F12_fail (p0 : Int32) (p1 : Int32) (σ : Ms) : Option (Unit × Ms) :=
  if (σ.1 0 12) ≤ 0 then (lt (sI σ 0 12 p0) (fun t1 => lt (sI t1 0 13 p1) (fun t2 => some ((), t2))))
  else (some ((), σ))
set_option maxRecDepth 100000 in
theorem mc12_fail (p0 : Int32) (p1 : Int32) (σ : Ms) : MC enV yX12_fail cX12_fail 3 none 1 (F12_fail p0 p1 σ) σ [.ref 0, .int p0, .int p1] := by
  refine MC.v (by decide +kernel) (Nat.le_of_ble_eq_true rfl) ?_
  show VF (K12_fail) cX12_fail RX12 (F12_fail p0 p1 σ) σ 0 [(0, .ref 0), (1, .int p0), (2, .int p1)] []
  unfold F12_fail
  refine v_aload_n d12_fail_0 0 rfl rfl ?_
  refine v_getI d12_fail_1 faX12_138 ic_0 ?_
  refine v_if_le (tgt := 8) d12_fail_4 (by decide) ?_ ?_
  · refine v_aload_n d12_fail_8 0 rfl rfl ?_
    refine v_iload_n d12_fail_9 1 rfl rfl ?_
    refine v_putI d12_fail_10 faX12_138 fp9_12 ic_0 ?_
    refine v_lts fun t1 => ?_
    refine v_aload_n d12_fail_13 0 rfl rfl ?_
    refine v_iload_n d12_fail_14 2 rfl rfl ?_
    refine v_putI d12_fail_15 faX12_141 fp9_13 ic_0 ?_
    refine v_lts fun t2 => ?_
    exact v_vret d12_fail_18 rfl
  · exact v_vret d12_fail_7 rfl
theorem d12_amiss_0 : decode cX12_amiss 0 = .ok (.aload_n 0, 1) := by decide +kernel
theorem d12_amiss_1 : decode cX12_amiss 1 = .ok (.aload_n 0, 1) := by decide +kernel
theorem d12_amiss_2 : decode cX12_amiss 2 = .ok (.getfield 108, 3) := by decide +kernel
theorem d12_amiss_5 : decode cX12_amiss 5 = .ok (.iconst 4, 1) := by decide +kernel
theorem d12_amiss_6 : decode cX12_amiss 6 = .ok (.if_icmp .ne 7, 3) := by decide +kernel
theorem d12_amiss_9 : decode cX12_amiss 9 = .ok (.iconst 1, 1) := by decide +kernel
theorem d12_amiss_10 : decode cX12_amiss 10 = .ok (.goto 4, 3) := by decide +kernel
theorem d12_amiss_13 : decode cX12_amiss 13 = .ok (.iconst 2, 1) := by decide +kernel
theorem d12_amiss_14 : decode cX12_amiss 14 = .ok (.aload_n 0, 1) := by decide +kernel
theorem d12_amiss_15 : decode cX12_amiss 15 = .ok (.getfield 102, 3) := by decide +kernel
theorem d12_amiss_18 : decode cX12_amiss 18 = .ok (.invokevirtual 144, 3) := by decide +kernel
theorem d12_amiss_21 : decode cX12_amiss 21 = .ok (.return_, 1) := by decide +kernel
abbrev K12_amiss : CK Unit := (enV, none, 1, 2, none)
noncomputable def F12_amiss_b14 (s1 : Int32) (σ : Ms) : Option (Unit × Ms) :=
  bn (F12_fail s1 (σ.1 0 15) σ) (fun r1 t2 => some ((), t2))
noncomputable def F12_amiss (σ : Ms) : Option (Unit × Ms) :=
  if (σ.1 0 14) ≠ (4 : Int32) then (F12_amiss_b14 (2 : Int32) σ)
  else (F12_amiss_b14 (1 : Int32) σ)
set_option maxRecDepth 100000 in
theorem v12_amiss_b14 (s1 : Int32) (σ : Ms) : VF (K12_amiss) cX12_amiss RX12 (F12_amiss_b14 s1 σ) σ 14 [(0, .ref 0)] [.int s1, .ref 0] := by
  unfold F12_amiss_b14
  refine v_aload_n d12_amiss_14 0 rfl rfl ?_
  refine v_getI d12_amiss_15 faX12_102 ic_0 ?_
  refine v_callV2v d12_amiss_18 (mc12_fail s1 (σ.1 0 15) σ) yv12_fail mlX12_144 (Recv.obj ic_0 rfl) (by decide) (Nat.le_of_ble_eq_true rfl) fun r1 t2 => ?_
  exact v_vret d12_amiss_21 rfl
set_option maxRecDepth 100000 in
theorem mc12_amiss (σ : Ms) : MC enV yX12_amiss cX12_amiss 1 none 2 (F12_amiss σ) σ [.ref 0] := by
  refine MC.v (by decide +kernel) (Nat.le_of_ble_eq_true rfl) ?_
  show VF (K12_amiss) cX12_amiss RX12 (F12_amiss σ) σ 0 [(0, .ref 0)] []
  unfold F12_amiss
  refine v_aload_n d12_amiss_0 0 rfl rfl ?_
  refine v_aload_n d12_amiss_1 0 rfl rfl ?_
  refine v_getI d12_amiss_2 faX12_108 ic_0 ?_
  refine v_iconst d12_amiss_5 ki_4 ?_
  refine v_icmp_ne (tgt := 13) d12_amiss_6 (by decide) ?_ ?_
  · refine v_iconst d12_amiss_13 ki_2 ?_
    exact v12_amiss_b14 (2 : Int32) σ
  · refine v_iconst d12_amiss_9 ki_1 ?_
    refine v_goto (tgt := 14) d12_amiss_10 (by decide) ?_
    exact v12_amiss_b14 (1 : Int32) σ
theorem d12_must_0 : decode cX12_must 0 = .ok (.aload_n 0, 1) := by decide +kernel
theorem d12_must_1 : decode cX12_must 1 = .ok (.getfield 138, 3) := by decide +kernel
theorem d12_must_4 : decode cX12_must 4 = .ok (.ifCond .le 4, 3) := by decide +kernel
theorem d12_must_7 : decode cX12_must 7 = .ok (.return_, 1) := by decide +kernel
theorem d12_must_8 : decode cX12_must 8 = .ok (.iload_n 1, 1) := by decide +kernel
theorem d12_must_9 : decode cX12_must 9 = .ok (.ifCond .eq 10, 3) := by decide +kernel
theorem d12_must_12 : decode cX12_must 12 = .ok (.aload_n 0, 1) := by decide +kernel
theorem d12_must_13 : decode cX12_must 13 = .ok (.invokevirtual 148, 3) := by decide +kernel
theorem d12_must_16 : decode cX12_must 16 = .ok (.goto 7, 3) := by decide +kernel
theorem d12_must_19 : decode cX12_must 19 = .ok (.aload_n 0, 1) := by decide +kernel
theorem d12_must_20 : decode cX12_must 20 = .ok (.invokevirtual 151, 3) := by decide +kernel
theorem d12_must_23 : decode cX12_must 23 = .ok (.return_, 1) := by decide +kernel
abbrev K12_must : CK Unit := (enV, none, 2, 3, none)
noncomputable def F12_must (N : Nat) (p0 : Int32) (σ : Ms) : Option (Unit × Ms) :=
  if (σ.1 0 12) ≤ 0 then (if p0 = 0 then (bn (F12_amiss σ) (fun r1 t2 => some ((), t2)))
  else (bn (F12_advance N σ) (fun r3 t4 => some ((), t4))))
  else (some ((), σ))
set_option maxRecDepth 100000 in
theorem mc12_must (N : Nat) (p0 : Int32) (σ : Ms) : MC enV yX12_must cX12_must 2 none 3 (F12_must N p0 σ) σ [.ref 0, .int p0] := by
  refine MC.v (by decide +kernel) (Nat.le_of_ble_eq_true rfl) ?_
  show VF (K12_must) cX12_must RX12 (F12_must N p0 σ) σ 0 [(0, .ref 0), (1, .int p0)] []
  unfold F12_must
  refine v_aload_n d12_must_0 0 rfl rfl ?_
  refine v_getI d12_must_1 faX12_138 ic_0 ?_
  refine v_if_le (tgt := 8) d12_must_4 (by decide) ?_ ?_
  · refine v_iload_n d12_must_8 1 rfl rfl ?_
    refine v_if_eq (tgt := 19) d12_must_9 (by decide) ?_ ?_
    · refine v_aload_n d12_must_19 0 rfl rfl ?_
      refine v_callV0v d12_must_20 (mc12_amiss σ) yv12_amiss mlX12_151 (Recv.obj ic_0 rfl) (by decide) (Nat.le_of_ble_eq_true rfl) fun r1 t2 => ?_
      exact v_vret d12_must_23 rfl
    · refine v_aload_n d12_must_12 0 rfl rfl ?_
      refine v_callV0v d12_must_13 (mc12_advance N σ) yv12_advance mlX12_148 (Recv.obj ic_0 rfl) (by decide) (Nat.le_of_ble_eq_true rfl) fun r3 t4 => ?_
      refine v_goto (tgt := 23) d12_must_16 (by decide) ?_
      exact v_vret d12_must_23 rfl
  · exact v_vret d12_must_7 rfl
