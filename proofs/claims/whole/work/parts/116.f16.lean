theorem d11_stalkAt_0 : decode cX11_stalkAt 0 = .ok (.iload_n 1, 1) := by decide +kernel
theorem d11_stalkAt_1 : decode cX11_stalkAt 1 = .ok (.iload_n 2, 1) := by decide +kernel
theorem d11_stalkAt_2 : decode cX11_stalkAt 2 = .ok (.invokestatic 365, 3) := by decide +kernel
theorem d11_stalkAt_5 : decode cX11_stalkAt 5 = .ok (.ifCond .ne 9, 3) := by decide +kernel
theorem d11_stalkAt_8 : decode cX11_stalkAt 8 = .ok (.aload_n 0, 1) := by decide +kernel
theorem d11_stalkAt_9 : decode cX11_stalkAt 9 = .ok (.iconst 5, 1) := by decide +kernel
theorem d11_stalkAt_10 : decode cX11_stalkAt 10 = .ok (.invokevirtual 132, 3) := by decide +kernel
theorem d11_stalkAt_13 : decode cX11_stalkAt 13 = .ok (.ireturn, 1) := by decide +kernel
theorem d11_stalkAt_14 : decode cX11_stalkAt 14 = .ok (.iload_n 1, 1) := by decide +kernel
theorem d11_stalkAt_15 : decode cX11_stalkAt 15 = .ok (.iload_n 2, 1) := by decide +kernel
theorem d11_stalkAt_16 : decode cX11_stalkAt 16 = .ok (.invokestatic 370, 3) := by decide +kernel
theorem d11_stalkAt_19 : decode cX11_stalkAt 19 = .ok (.iload_n 3, 1) := by decide +kernel
theorem d11_stalkAt_20 : decode cX11_stalkAt 20 = .ok (.invokestatic 381, 3) := by decide +kernel
theorem d11_stalkAt_23 : decode cX11_stalkAt 23 = .ok (.istore 4, 2) := by decide +kernel
theorem d11_stalkAt_25 : decode cX11_stalkAt 25 = .ok (.iload 4, 2) := by decide +kernel
theorem d11_stalkAt_27 : decode cX11_stalkAt 27 = .ok (.iconst (-1), 1) := by decide +kernel
theorem d11_stalkAt_28 : decode cX11_stalkAt 28 = .ok (.if_icmp .ne 12, 3) := by decide +kernel
theorem d11_stalkAt_31 : decode cX11_stalkAt 31 = .ok (.aload_n 0, 1) := by decide +kernel
theorem d11_stalkAt_32 : decode cX11_stalkAt 32 = .ok (.bipush 8, 2) := by decide +kernel
theorem d11_stalkAt_34 : decode cX11_stalkAt 34 = .ok (.invokevirtual 132, 3) := by decide +kernel
theorem d11_stalkAt_37 : decode cX11_stalkAt 37 = .ok (.goto 9, 3) := by decide +kernel
theorem d11_stalkAt_40 : decode cX11_stalkAt 40 = .ok (.aload_n 0, 1) := by decide +kernel
theorem d11_stalkAt_41 : decode cX11_stalkAt 41 = .ok (.iload 4, 2) := by decide +kernel
theorem d11_stalkAt_43 : decode cX11_stalkAt 43 = .ok (.invokevirtual 186, 3) := by decide +kernel
theorem d11_stalkAt_46 : decode cX11_stalkAt 46 = .ok (.ireturn, 1) := by decide +kernel
abbrev K11_stalkAt : CK Int32 := (enI, (some .int), 5, 5, none)
noncomputable def F11_stalkAt (N : Nat) (p0 : Int32) (p1 : Int32) (p2 : Int32) (σ : Ms) : Option (Int32 × Ms) :=
  bn (F3_canBe p0 p1 σ) (fun r1 t2 => if r1 ≠ 0 then (bn (F3_of p0 p1 t2) (fun r3 t4 => bn (F3_stalkColour N r3 p2 t4) (fun r5 t6 => if r5 ≠ (-1 : Int32) then (bn (F11_told r5 t6) (fun r7 t8 => some (r7, t8)))
  else (bn (F11_none (8 : Int32) t6) (fun r9 t10 => some (r9, t10))))))
  else (bn (F11_none (5 : Int32) t2) (fun r11 t12 => some (r11, t12))))
set_option maxRecDepth 100000 in
theorem mc11_stalkAt (N : Nat) (p0 : Int32) (p1 : Int32) (p2 : Int32) (σ : Ms) : MC enI yX11_stalkAt cX11_stalkAt 5 (some .int) 5 (F11_stalkAt N p0 p1 p2 σ) σ [.ref 11, .int p0, .int p1, .int p2] := by
  refine MC.i (by decide +kernel) (Nat.le_of_ble_eq_true rfl) ?_
  show VF (K11_stalkAt) cX11_stalkAt RX11 (F11_stalkAt N p0 p1 p2 σ) σ 0 [(0, .ref 11), (1, .int p0), (2, .int p1), (3, .int p2)] []
  unfold F11_stalkAt
  refine v_iload_n d11_stalkAt_0 1 rfl rfl ?_
  refine v_iload_n d11_stalkAt_1 2 rfl rfl ?_
  refine v_callS2i d11_stalkAt_2 (mc3_canBe p0 p1 σ) ys3_canBe mlX11_365 (by decide) (Nat.le_of_ble_eq_true rfl) fun r1 t2 => ?_
  refine v_if_ne (tgt := 14) d11_stalkAt_5 (by decide) ?_ ?_
  · refine v_iload_n d11_stalkAt_14 1 rfl rfl ?_
    refine v_iload_n d11_stalkAt_15 2 rfl rfl ?_
    refine v_callS2l d11_stalkAt_16 (mc3_of p0 p1 t2) ys3_of mlX11_370 (by decide) (Nat.le_of_ble_eq_true rfl) fun r3 t4 => ?_
    refine v_iload_n d11_stalkAt_19 3 rfl rfl ?_
    refine v_callS2i d11_stalkAt_20 (mc3_stalkColour N r3 p2 t4) ys3_stalkColour mlX11_381 (by decide) (Nat.le_of_ble_eq_true rfl) fun r5 t6 => ?_
    refine v_istore (lv' := [(4, .int r5), (0, .ref 11), (1, .int p0), (2, .int p1), (3, .int p2)]) d11_stalkAt_23 (by decide) rfl ?_
    refine v_iload d11_stalkAt_25 0 rfl ?_
    refine v_iconst d11_stalkAt_27 ki_m1 ?_
    refine v_icmp_ne (tgt := 40) d11_stalkAt_28 (by decide) ?_ ?_
    · refine v_aload_n d11_stalkAt_40 1 rfl rfl ?_
      refine v_iload d11_stalkAt_41 0 rfl ?_
      refine v_callV1i d11_stalkAt_43 (mc11_told r5 t6) yv11_told mlX11_186 (Recv.obj ic_11 rfl) (by decide) (Nat.le_of_ble_eq_true rfl) fun r7 t8 => ?_
      exact v_iret d11_stalkAt_46 rfl rfl rfl
    · refine v_aload_n d11_stalkAt_31 1 rfl rfl ?_
      refine v_bipush d11_stalkAt_32 kb_8 ?_
      refine v_callV1i d11_stalkAt_34 (mc11_none (8 : Int32) t6) yv11_none mlX11_132 (Recv.obj ic_11 rfl) (by decide) (Nat.le_of_ble_eq_true rfl) fun r9 t10 => ?_
      refine v_goto (tgt := 46) d11_stalkAt_37 (by decide) ?_
      exact v_iret d11_stalkAt_46 rfl rfl rfl
  · refine v_aload_n d11_stalkAt_8 0 rfl rfl ?_
    refine v_iconst d11_stalkAt_9 ki_5 ?_
    refine v_callV1i d11_stalkAt_10 (mc11_none (5 : Int32) t2) yv11_none mlX11_132 (Recv.obj ic_11 rfl) (by decide) (Nat.le_of_ble_eq_true rfl) fun r11 t12 => ?_
    exact v_iret d11_stalkAt_13 rfl rfl rfl
theorem d11_stalkWorth_0 : decode cX11_stalkWorth 0 = .ok (.iload_n 1, 1) := by decide +kernel
theorem d11_stalkWorth_1 : decode cX11_stalkWorth 1 = .ok (.invokestatic 106, 3) := by decide +kernel
theorem d11_stalkWorth_4 : decode cX11_stalkWorth 4 = .ok (.ifCond .ne 9, 3) := by decide +kernel
theorem d11_stalkWorth_7 : decode cX11_stalkWorth 7 = .ok (.aload_n 0, 1) := by decide +kernel
theorem d11_stalkWorth_8 : decode cX11_stalkWorth 8 = .ok (.iconst 1, 1) := by decide +kernel
theorem d11_stalkWorth_9 : decode cX11_stalkWorth 9 = .ok (.invokevirtual 113, 3) := by decide +kernel
theorem d11_stalkWorth_12 : decode cX11_stalkWorth 12 = .ok (.ireturn, 1) := by decide +kernel
theorem d11_stalkWorth_13 : decode cX11_stalkWorth 13 = .ok (.aload_n 0, 1) := by decide +kernel
theorem d11_stalkWorth_14 : decode cX11_stalkWorth 14 = .ok (.getfield 12, 3) := by decide +kernel
theorem d11_stalkWorth_17 : decode cX11_stalkWorth 17 = .ok (.iload_n 1, 1) := by decide +kernel
theorem d11_stalkWorth_18 : decode cX11_stalkWorth 18 = .ok (.invokevirtual 140, 3) := by decide +kernel
theorem d11_stalkWorth_21 : decode cX11_stalkWorth 21 = .ok (.ifCond .eq 9, 3) := by decide +kernel
theorem d11_stalkWorth_24 : decode cX11_stalkWorth 24 = .ok (.aload_n 0, 1) := by decide +kernel
theorem d11_stalkWorth_25 : decode cX11_stalkWorth 25 = .ok (.iconst 3, 1) := by decide +kernel
theorem d11_stalkWorth_26 : decode cX11_stalkWorth 26 = .ok (.invokevirtual 113, 3) := by decide +kernel
theorem d11_stalkWorth_29 : decode cX11_stalkWorth 29 = .ok (.ireturn, 1) := by decide +kernel
theorem d11_stalkWorth_30 : decode cX11_stalkWorth 30 = .ok (.iload_n 2, 1) := by decide +kernel
theorem d11_stalkWorth_31 : decode cX11_stalkWorth 31 = .ok (.ifCond .lt 22, 3) := by decide +kernel
theorem d11_stalkWorth_34 : decode cX11_stalkWorth 34 = .ok (.aload_n 0, 1) := by decide +kernel
theorem d11_stalkWorth_35 : decode cX11_stalkWorth 35 = .ok (.getfield 12, 3) := by decide +kernel
theorem d11_stalkWorth_38 : decode cX11_stalkWorth 38 = .ok (.iload_n 1, 1) := by decide +kernel
theorem d11_stalkWorth_39 : decode cX11_stalkWorth 39 = .ok (.iconst 0, 1) := by decide +kernel
theorem d11_stalkWorth_40 : decode cX11_stalkWorth 40 = .ok (.iload_n 2, 1) := by decide +kernel
theorem d11_stalkWorth_41 : decode cX11_stalkWorth 41 = .ok (.invokevirtual 146, 3) := by decide +kernel
theorem d11_stalkWorth_44 : decode cX11_stalkWorth 44 = .ok (.ifCond .ne 9, 3) := by decide +kernel
theorem d11_stalkWorth_47 : decode cX11_stalkWorth 47 = .ok (.aload_n 0, 1) := by decide +kernel
theorem d11_stalkWorth_48 : decode cX11_stalkWorth 48 = .ok (.iconst 4, 1) := by decide +kernel
theorem d11_stalkWorth_49 : decode cX11_stalkWorth 49 = .ok (.invokevirtual 113, 3) := by decide +kernel
theorem d11_stalkWorth_52 : decode cX11_stalkWorth 52 = .ok (.ireturn, 1) := by decide +kernel
theorem d11_stalkWorth_53 : decode cX11_stalkWorth 53 = .ok (.iload_n 2, 1) := by decide +kernel
theorem d11_stalkWorth_54 : decode cX11_stalkWorth 54 = .ok (.ifCond .lt 9, 3) := by decide +kernel
theorem d11_stalkWorth_57 : decode cX11_stalkWorth 57 = .ok (.iload_n 2, 1) := by decide +kernel
theorem d11_stalkWorth_58 : decode cX11_stalkWorth 58 = .ok (.bipush 20, 2) := by decide +kernel
theorem d11_stalkWorth_60 : decode cX11_stalkWorth 60 = .ok (.if_icmp .le 9, 3) := by decide +kernel
theorem d11_stalkWorth_63 : decode cX11_stalkWorth 63 = .ok (.aload_n 0, 1) := by decide +kernel
theorem d11_stalkWorth_64 : decode cX11_stalkWorth 64 = .ok (.iconst 5, 1) := by decide +kernel
theorem d11_stalkWorth_65 : decode cX11_stalkWorth 65 = .ok (.invokevirtual 113, 3) := by decide +kernel
theorem d11_stalkWorth_68 : decode cX11_stalkWorth 68 = .ok (.ireturn, 1) := by decide +kernel
theorem d11_stalkWorth_69 : decode cX11_stalkWorth 69 = .ok (.lconst 0, 1) := by decide +kernel
theorem d11_stalkWorth_70 : decode cX11_stalkWorth 70 = .ok (.lstore_n 3, 1) := by decide +kernel
theorem d11_stalkWorth_71 : decode cX11_stalkWorth 71 = .ok (.iload_n 2, 1) := by decide +kernel
theorem d11_stalkWorth_72 : decode cX11_stalkWorth 72 = .ok (.iconst 1, 1) := by decide +kernel
theorem d11_stalkWorth_73 : decode cX11_stalkWorth 73 = .ok (.isub, 1) := by decide +kernel
theorem d11_stalkWorth_74 : decode cX11_stalkWorth 74 = .ok (.istore 5, 2) := by decide +kernel
theorem d11_stalkWorth_76 : decode cX11_stalkWorth 76 = .ok (.iload 5, 2) := by decide +kernel
theorem d11_stalkWorth_78 : decode cX11_stalkWorth 78 = .ok (.ifCond .lt 49, 3) := by decide +kernel
theorem d11_stalkWorth_81 : decode cX11_stalkWorth 81 = .ok (.aload_n 0, 1) := by decide +kernel
theorem d11_stalkWorth_82 : decode cX11_stalkWorth 82 = .ok (.getfield 12, 3) := by decide +kernel
theorem d11_stalkWorth_85 : decode cX11_stalkWorth 85 = .ok (.iload_n 1, 1) := by decide +kernel
theorem d11_stalkWorth_86 : decode cX11_stalkWorth 86 = .ok (.iload 5, 2) := by decide +kernel
theorem d11_stalkWorth_88 : decode cX11_stalkWorth 88 = .ok (.invokevirtual 136, 3) := by decide +kernel
theorem d11_stalkWorth_91 : decode cX11_stalkWorth 91 = .ok (.lstore 6, 2) := by decide +kernel
theorem d11_stalkWorth_93 : decode cX11_stalkWorth 93 = .ok (.lload 6, 2) := by decide +kernel
theorem d11_stalkWorth_95 : decode cX11_stalkWorth 95 = .ok (.lconst 0, 1) := by decide +kernel
theorem d11_stalkWorth_96 : decode cX11_stalkWorth 96 = .ok (.lcmp, 1) := by decide +kernel
theorem d11_stalkWorth_97 : decode cX11_stalkWorth 97 = .ok (.ifCond .eq 16, 3) := by decide +kernel
theorem d11_stalkWorth_100 : decode cX11_stalkWorth 100 = .ok (.lload 6, 2) := by decide +kernel
theorem d11_stalkWorth_102 : decode cX11_stalkWorth 102 = .ok (.lconst 1, 1) := by decide +kernel
theorem d11_stalkWorth_103 : decode cX11_stalkWorth 103 = .ok (.lcmp, 1) := by decide +kernel
theorem d11_stalkWorth_104 : decode cX11_stalkWorth 104 = .ok (.ifCond .eq 9, 3) := by decide +kernel
theorem d11_stalkWorth_107 : decode cX11_stalkWorth 107 = .ok (.aload_n 0, 1) := by decide +kernel
theorem d11_stalkWorth_108 : decode cX11_stalkWorth 108 = .ok (.iconst 5, 1) := by decide +kernel
theorem d11_stalkWorth_109 : decode cX11_stalkWorth 109 = .ok (.invokevirtual 113, 3) := by decide +kernel
theorem d11_stalkWorth_112 : decode cX11_stalkWorth 112 = .ok (.ireturn, 1) := by decide +kernel
theorem d11_stalkWorth_113 : decode cX11_stalkWorth 113 = .ok (.lload 6, 2) := by decide +kernel
theorem d11_stalkWorth_115 : decode cX11_stalkWorth 115 = .ok (.l2i, 1) := by decide +kernel
theorem d11_stalkWorth_116 : decode cX11_stalkWorth 116 = .ok (.lload_n 3, 1) := by decide +kernel
theorem d11_stalkWorth_117 : decode cX11_stalkWorth 117 = .ok (.invokestatic 385, 3) := by decide +kernel
theorem d11_stalkWorth_120 : decode cX11_stalkWorth 120 = .ok (.lstore_n 3, 1) := by decide +kernel
theorem d11_stalkWorth_121 : decode cX11_stalkWorth 121 = .ok (.iinc 5 (-1), 3) := by decide +kernel
theorem d11_stalkWorth_124 : decode cX11_stalkWorth 124 = .ok (.goto (-48), 3) := by decide +kernel
theorem d11_stalkWorth_127 : decode cX11_stalkWorth 127 = .ok (.aload_n 0, 1) := by decide +kernel
theorem d11_stalkWorth_128 : decode cX11_stalkWorth 128 = .ok (.lload_n 3, 1) := by decide +kernel
theorem d11_stalkWorth_129 : decode cX11_stalkWorth 129 = .ok (.invokevirtual 310, 3) := by decide +kernel
theorem d11_stalkWorth_132 : decode cX11_stalkWorth 132 = .ok (.ireturn, 1) := by decide +kernel
abbrev K11_stalkWorth : CK Int32 := (enI, (some .boolean), 8, 4, none)
noncomputable def F11_stalkWorth_b63 (N : Nat) (σ : Ms) : Option (Int32 × Ms) :=
  bn (F11_no (5 : Int32) σ) (fun r1 t2 => ck (nkB r1) (some (r1, t2)))
noncomputable def F11_stalkWorth_b113 (N : Nat) (k76 : Int32 × Int64 × Int32 × Ms → Option (Int32 × Ms)) (l1 : Int32) (l3 : Int64) (l5 : Int32) (l6 : Int64) (σ : Ms) : Option (Int32 × Ms) :=
  bn (F3_branch (l6.toInt32) l3 σ) (fun r3 t4 => k76 (l1, r3, (l5 + (-1 : Int32)), t4))
noncomputable def F11_stalkWorth_b76B (N : Nat) (k76 : Int32 × Int64 × Int32 × Ms → Option (Int32 × Ms)) (l1 : Int32) (l3 : Int64) (l5 : Int32) (σ : Ms) : Option (Int32 × Ms) :=
  if l5 < 0 then (bn (F11_tellNumber N l3 σ) (fun r5 t6 => ck (nkB r5) (some (r5, t6))))
  else (bn (F9_at l1 l5 σ) (fun r7 t8 => if (lg_cmp r7 (0 : Int64)) = 0 then (F11_stalkWorth_b113 N k76 l1 l3 l5 r7 t8)
  else (if (lg_cmp r7 (1 : Int64)) = 0 then (F11_stalkWorth_b113 N k76 l1 l3 l5 r7 t8)
  else (bn (F11_no (5 : Int32) t8) (fun r9 t10 => ck (nkB r9) (some (r9, t10)))))))
noncomputable def F11_stalkWorth_b76 (N : Nat) (l1 : Int32) (l3 : Int64) (l5 : Int32) (σ : Ms) : Option (Int32 × Ms) :=
  fx N (fun k x => F11_stalkWorth_b76B N k x.1 x.2.1 x.2.2.1 x.2.2.2) (l1, l3, l5, σ)
noncomputable def F11_stalkWorth_b53 (N : Nat) (l1 : Int32) (l2 : Int32) (σ : Ms) : Option (Int32 × Ms) :=
  if l2 < 0 then (F11_stalkWorth_b63 N σ)
  else (if l2 ≤ (20 : Int32) then (lt (l2 - (1 : Int32)) (fun x11 => F11_stalkWorth_b76 N l1 (0 : Int64) x11 σ))
  else (F11_stalkWorth_b63 N σ))
noncomputable def F11_stalkWorth (N : Nat) (p0 : Int32) (p1 : Int32) (σ : Ms) : Option (Int32 × Ms) :=
  bn (F9_isTray p0 σ) (fun r12 t13 => if r12 ≠ 0 then (bn (F9_isMissing p0 t13) (fun r14 t15 => if r14 = 0 then (if p1 < 0 then (F11_stalkWorth_b53 N p0 p1 t15)
  else (bn (F9_holds p0 (0 : Int32) p1 t15) (fun r16 t17 => if r16 ≠ 0 then (F11_stalkWorth_b53 N p0 p1 t17)
  else (bn (F11_no (4 : Int32) t17) (fun r18 t19 => ck (nkB r18) (some (r18, t19)))))))
  else (bn (F11_no (3 : Int32) t15) (fun r20 t21 => ck (nkB r20) (some (r20, t21))))))
  else (bn (F11_no (1 : Int32) t13) (fun r22 t23 => ck (nkB r22) (some (r22, t23)))))
set_option maxRecDepth 100000 in
theorem v11_stalkWorth_b63 (N : Nat) (σ : Ms) : VF (K11_stalkWorth) cX11_stalkWorth RX11 (F11_stalkWorth_b63 N σ) σ 63 [(0, .ref 11)] [] := by
  unfold F11_stalkWorth_b63
  refine v_aload_n d11_stalkWorth_63 0 rfl rfl ?_
  refine v_iconst d11_stalkWorth_64 ki_5 ?_
  refine v_callV1i d11_stalkWorth_65 (mc11_no (5 : Int32) σ) yv11_no mlX11_113 (Recv.obj ic_11 rfl) (by decide) (Nat.le_of_ble_eq_true rfl) fun r1 t2 => ?_
  exact v_iretB d11_stalkWorth_68 rfl rfl
set_option maxRecDepth 100000 in
theorem v11_stalkWorth_b113 (N : Nat) (k76 : Int32 × Int64 × Int32 × Ms → Option (Int32 × Ms)) (hk76 : ∀ (l1 : Int32) (l3 : Int64) (l5 : Int32) (τ : Ms), VF (K11_stalkWorth) cX11_stalkWorth RX11 (k76 (l1, l3, l5, τ)) τ 76 [(0, .ref 11), (1, .int l1), (3, .long l3), (5, .int l5)] []) (l1 : Int32) (l3 : Int64) (l5 : Int32) (l6 : Int64) (σ : Ms) : VF (K11_stalkWorth) cX11_stalkWorth RX11 (F11_stalkWorth_b113 N k76 l1 l3 l5 l6 σ) σ 113 [(0, .ref 11), (1, .int l1), (3, .long l3), (5, .int l5), (6, .long l6)] [] := by
  unfold F11_stalkWorth_b113
  refine v_lload d11_stalkWorth_113 4 rfl ?_
  refine v_l2i d11_stalkWorth_115 ?_
  refine v_lload_n d11_stalkWorth_116 2 rfl rfl ?_
  refine v_callS2l d11_stalkWorth_117 (mc3_branch (l6.toInt32) l3 σ) ys3_branch mlX11_385 (by decide) (Nat.le_of_ble_eq_true rfl) fun r3 t4 => ?_
  refine v_lstore_n (lv' := [(3, .long r3), (0, .ref 11), (1, .int l1), (5, .int l5), (6, .long l6)]) d11_stalkWorth_120 rfl (by decide) rfl ?_
  refine v_iinc (lv' := [(5, .int (l5 + (-1 : Int32))), (3, .long r3), (0, .ref 11), (1, .int l1), (6, .long l6)]) d11_stalkWorth_121 3 rfl (by rw [ki_m1]) (by decide) rfl ?_
  refine v_goto (tgt := 76) d11_stalkWorth_124 (by decide) ?_
  refine v_sub [2, 3, 1, 0] rfl ?_
  exact hk76 l1 r3 (l5 + (-1 : Int32)) t4
set_option maxRecDepth 100000 in
theorem v11_stalkWorth_b76B (N : Nat) (k76 : Int32 × Int64 × Int32 × Ms → Option (Int32 × Ms)) (hk76 : ∀ (l1 : Int32) (l3 : Int64) (l5 : Int32) (τ : Ms), VF (K11_stalkWorth) cX11_stalkWorth RX11 (k76 (l1, l3, l5, τ)) τ 76 [(0, .ref 11), (1, .int l1), (3, .long l3), (5, .int l5)] []) (l1 : Int32) (l3 : Int64) (l5 : Int32) (σ : Ms) : VF (K11_stalkWorth) cX11_stalkWorth RX11 (F11_stalkWorth_b76B N k76 l1 l3 l5 σ) σ 76 [(0, .ref 11), (1, .int l1), (3, .long l3), (5, .int l5)] [] := by
  unfold F11_stalkWorth_b76B
  refine v_iload d11_stalkWorth_76 3 rfl ?_
  refine v_if_lt (tgt := 127) d11_stalkWorth_78 (by decide) ?_ ?_
  · refine v_aload_n d11_stalkWorth_127 0 rfl rfl ?_
    refine v_lload_n d11_stalkWorth_128 2 rfl rfl ?_
    refine v_callV1i d11_stalkWorth_129 (mc11_tellNumber N l3 σ) yv11_tellNumber mlX11_310 (Recv.obj ic_11 rfl) (by decide) (Nat.le_of_ble_eq_true rfl) fun r5 t6 => ?_
    exact v_iretB d11_stalkWorth_132 rfl rfl
  · refine v_aload_n d11_stalkWorth_81 0 rfl rfl ?_
    refine v_getR d11_stalkWorth_82 faX11_12 ic_11 rfl ?_
    refine v_iload_n d11_stalkWorth_85 1 rfl rfl ?_
    refine v_iload d11_stalkWorth_86 3 rfl ?_
    refine v_callV2l d11_stalkWorth_88 (mc9_at l1 l5 σ) yv9_at mlX11_136 (Recv.obj ic_12 rfl) (by decide) (Nat.le_of_ble_eq_true rfl) fun r7 t8 => ?_
    refine v_lstore (lv' := [(6, .long r7), (0, .ref 11), (1, .int l1), (3, .long l3), (5, .int l5)]) d11_stalkWorth_91 (by decide) rfl ?_
    refine v_lload d11_stalkWorth_93 0 rfl ?_
    refine v_lconst d11_stalkWorth_95 kl_0 ?_
    refine v_lcmp d11_stalkWorth_96 ?_
    refine v_if_eq (tgt := 113) d11_stalkWorth_97 (by decide) ?_ ?_
    · refine v_sub [1, 2, 3, 4, 0] rfl ?_
      exact v11_stalkWorth_b113 N k76 hk76 l1 l3 l5 r7 t8
    · refine v_lload d11_stalkWorth_100 0 rfl ?_
      refine v_lconst d11_stalkWorth_102 kl_1 ?_
      refine v_lcmp d11_stalkWorth_103 ?_
      refine v_if_eq (tgt := 113) d11_stalkWorth_104 (by decide) ?_ ?_
      · refine v_sub [1, 2, 3, 4, 0] rfl ?_
        exact v11_stalkWorth_b113 N k76 hk76 l1 l3 l5 r7 t8
      · refine v_aload_n d11_stalkWorth_107 1 rfl rfl ?_
        refine v_iconst d11_stalkWorth_108 ki_5 ?_
        refine v_callV1i d11_stalkWorth_109 (mc11_no (5 : Int32) t8) yv11_no mlX11_113 (Recv.obj ic_11 rfl) (by decide) (Nat.le_of_ble_eq_true rfl) fun r9 t10 => ?_
        exact v_iretB d11_stalkWorth_112 rfl rfl
theorem v11_stalkWorth_b76 (N : Nat) (l1 : Int32) (l3 : Int64) (l5 : Int32) (σ : Ms) : VF (K11_stalkWorth) cX11_stalkWorth RX11 (F11_stalkWorth_b76 N l1 l3 l5 σ) σ 76 [(0, .ref 11), (1, .int l1), (3, .long l3), (5, .int l5)] [] := v_fx (σo := fun x => x.2.2.2) (lo := fun x => [(0, .ref 11), (1, .int x.1), (3, .long x.2.1), (5, .int x.2.2.1)]) (fun k hk x => v11_stalkWorth_b76B N k (fun l1 l3 l5 τ => hk (l1, l3, l5, τ)) x.1 x.2.1 x.2.2.1 x.2.2.2) N (l1, l3, l5, σ)
set_option maxRecDepth 100000 in
theorem v11_stalkWorth_b53 (N : Nat) (l1 : Int32) (l2 : Int32) (σ : Ms) : VF (K11_stalkWorth) cX11_stalkWorth RX11 (F11_stalkWorth_b53 N l1 l2 σ) σ 53 [(0, .ref 11), (1, .int l1), (2, .int l2)] [] := by
  unfold F11_stalkWorth_b53
  refine v_iload_n d11_stalkWorth_53 2 rfl rfl ?_
  refine v_if_lt (tgt := 63) d11_stalkWorth_54 (by decide) ?_ ?_
  · refine v_sub [0] rfl ?_
    exact v11_stalkWorth_b63 N σ
  · refine v_iload_n d11_stalkWorth_57 2 rfl rfl ?_
    refine v_bipush d11_stalkWorth_58 kb_20 ?_
    refine v_icmp_le (tgt := 69) d11_stalkWorth_60 (by decide) ?_ ?_
    · refine v_lconst d11_stalkWorth_69 kl_0 ?_
      refine v_lstore_n (lv' := [(3, .long (0 : Int64)), (0, .ref 11), (1, .int l1), (2, .int l2)]) d11_stalkWorth_70 rfl (by decide) rfl ?_
      refine v_iload_n d11_stalkWorth_71 3 rfl rfl ?_
      refine v_iconst d11_stalkWorth_72 ki_1 ?_
      refine v_isub d11_stalkWorth_73 ?_
      refine v_lti fun x11 => ?_
      refine v_istore (lv' := [(5, .int x11), (3, .long (0 : Int64)), (0, .ref 11), (1, .int l1), (2, .int l2)]) d11_stalkWorth_74 (by decide) rfl ?_
      refine v_sub [2, 3, 1, 0] rfl ?_
      exact v11_stalkWorth_b76 N l1 (0 : Int64) x11 σ
    · refine v_sub [0] rfl ?_
      exact v11_stalkWorth_b63 N σ
set_option maxRecDepth 100000 in
theorem mc11_stalkWorth (N : Nat) (p0 : Int32) (p1 : Int32) (σ : Ms) : MC enI yX11_stalkWorth cX11_stalkWorth 8 (some .boolean) 4 (F11_stalkWorth N p0 p1 σ) σ [.ref 11, .int p0, .int p1] := by
  refine MC.i (by decide +kernel) (Nat.le_of_ble_eq_true rfl) ?_
  show VF (K11_stalkWorth) cX11_stalkWorth RX11 (F11_stalkWorth N p0 p1 σ) σ 0 [(0, .ref 11), (1, .int p0), (2, .int p1)] []
  unfold F11_stalkWorth
  refine v_iload_n d11_stalkWorth_0 1 rfl rfl ?_
  refine v_callS1i d11_stalkWorth_1 (mc9_isTray p0 σ) ys9_isTray mlX11_106 (by decide) (Nat.le_of_ble_eq_true rfl) fun r12 t13 => ?_
  refine v_if_ne (tgt := 13) d11_stalkWorth_4 (by decide) ?_ ?_
  · refine v_aload_n d11_stalkWorth_13 0 rfl rfl ?_
    refine v_getR d11_stalkWorth_14 faX11_12 ic_11 rfl ?_
    refine v_iload_n d11_stalkWorth_17 1 rfl rfl ?_
    refine v_callV1i d11_stalkWorth_18 (mc9_isMissing p0 t13) yv9_isMissing mlX11_140 (Recv.obj ic_12 rfl) (by decide) (Nat.le_of_ble_eq_true rfl) fun r14 t15 => ?_
    refine v_if_eq (tgt := 30) d11_stalkWorth_21 (by decide) ?_ ?_
    · refine v_iload_n d11_stalkWorth_30 2 rfl rfl ?_
      refine v_if_lt (tgt := 53) d11_stalkWorth_31 (by decide) ?_ ?_
      · exact v11_stalkWorth_b53 N p0 p1 t15
      · refine v_aload_n d11_stalkWorth_34 0 rfl rfl ?_
        refine v_getR d11_stalkWorth_35 faX11_12 ic_11 rfl ?_
        refine v_iload_n d11_stalkWorth_38 1 rfl rfl ?_
        refine v_iconst d11_stalkWorth_39 ki_0 ?_
        refine v_iload_n d11_stalkWorth_40 2 rfl rfl ?_
        refine v_callV3i d11_stalkWorth_41 (mc9_holds p0 (0 : Int32) p1 t15) yv9_holds mlX11_146 (Recv.obj ic_12 rfl) (by decide) (Nat.le_of_ble_eq_true rfl) fun r16 t17 => ?_
        refine v_if_ne (tgt := 53) d11_stalkWorth_44 (by decide) ?_ ?_
        · exact v11_stalkWorth_b53 N p0 p1 t17
        · refine v_aload_n d11_stalkWorth_47 0 rfl rfl ?_
          refine v_iconst d11_stalkWorth_48 ki_4 ?_
          refine v_callV1i d11_stalkWorth_49 (mc11_no (4 : Int32) t17) yv11_no mlX11_113 (Recv.obj ic_11 rfl) (by decide) (Nat.le_of_ble_eq_true rfl) fun r18 t19 => ?_
          exact v_iretB d11_stalkWorth_52 rfl rfl
    · refine v_aload_n d11_stalkWorth_24 0 rfl rfl ?_
      refine v_iconst d11_stalkWorth_25 ki_3 ?_
      refine v_callV1i d11_stalkWorth_26 (mc11_no (3 : Int32) t15) yv11_no mlX11_113 (Recv.obj ic_11 rfl) (by decide) (Nat.le_of_ble_eq_true rfl) fun r20 t21 => ?_
      exact v_iretB d11_stalkWorth_29 rfl rfl
  · refine v_aload_n d11_stalkWorth_7 0 rfl rfl ?_
    refine v_iconst d11_stalkWorth_8 ki_1 ?_
    refine v_callV1i d11_stalkWorth_9 (mc11_no (1 : Int32) t13) yv11_no mlX11_113 (Recv.obj ic_11 rfl) (by decide) (Nat.le_of_ble_eq_true rfl) fun r22 t23 => ?_
    exact v_iretB d11_stalkWorth_12 rfl rfl
theorem d11_findWays_0 : decode cX11_findWays 0 = .ok (.aload_n 0, 1) := by decide +kernel
theorem d11_findWays_1 : decode cX11_findWays 1 = .ok (.getfield 26, 3) := by decide +kernel
theorem d11_findWays_4 : decode cX11_findWays 4 = .ok (.iload_n 1, 1) := by decide +kernel
theorem d11_findWays_5 : decode cX11_findWays 5 = .ok (.invokestatic 460, 3) := by decide +kernel
theorem d11_findWays_8 : decode cX11_findWays 8 = .ok (.ifCond .eq 11, 3) := by decide +kernel
theorem d11_findWays_11 : decode cX11_findWays 11 = .ok (.iload_n 2, 1) := by decide +kernel
theorem d11_findWays_12 : decode cX11_findWays 12 = .ok (.iload_n 3, 1) := by decide +kernel
theorem d11_findWays_13 : decode cX11_findWays 13 = .ok (.invokestatic 365, 3) := by decide +kernel
theorem d11_findWays_16 : decode cX11_findWays 16 = .ok (.ifCond .ne 5, 3) := by decide +kernel
theorem d11_findWays_19 : decode cX11_findWays 19 = .ok (.iconst 0, 1) := by decide +kernel
theorem d11_findWays_20 : decode cX11_findWays 20 = .ok (.ireturn, 1) := by decide +kernel
theorem d11_findWays_21 : decode cX11_findWays 21 = .ok (.aload_n 0, 1) := by decide +kernel
theorem d11_findWays_22 : decode cX11_findWays 22 = .ok (.getfield 26, 3) := by decide +kernel
theorem d11_findWays_25 : decode cX11_findWays 25 = .ok (.aload_n 0, 1) := by decide +kernel
theorem d11_findWays_26 : decode cX11_findWays 26 = .ok (.getfield 30, 3) := by decide +kernel
theorem d11_findWays_29 : decode cX11_findWays 29 = .ok (.invokestatic 176, 3) := by decide +kernel
theorem d11_findWays_32 : decode cX11_findWays 32 = .ok (.aload_n 0, 1) := by decide +kernel
theorem d11_findWays_33 : decode cX11_findWays 33 = .ok (.getfield 61, 3) := by decide +kernel
theorem d11_findWays_36 : decode cX11_findWays 36 = .ok (.aload_n 0, 1) := by decide +kernel
theorem d11_findWays_37 : decode cX11_findWays 37 = .ok (.getfield 30, 3) := by decide +kernel
theorem d11_findWays_40 : decode cX11_findWays 40 = .ok (.iload_n 1, 1) := by decide +kernel
theorem d11_findWays_41 : decode cX11_findWays 41 = .ok (.iload_n 2, 1) := by decide +kernel
theorem d11_findWays_42 : decode cX11_findWays 42 = .ok (.iload_n 3, 1) := by decide +kernel
theorem d11_findWays_43 : decode cX11_findWays 43 = .ok (.invokestatic 370, 3) := by decide +kernel
theorem d11_findWays_46 : decode cX11_findWays 46 = .ok (.invokevirtual 462, 3) := by decide +kernel
theorem d11_findWays_49 : decode cX11_findWays 49 = .ok (.iconst 1, 1) := by decide +kernel
theorem d11_findWays_50 : decode cX11_findWays 50 = .ok (.ireturn, 1) := by decide +kernel
abbrev K11_findWays : CK Int32 := (enI, (some .boolean), 4, 5, none)
noncomputable def F11_findWays (N : Nat) (p0 : Int32) (p1 : Int32) (p2 : Int32) (σ : Ms) : Option (Int32 × Ms) :=
  bn (F10_canBe N 22 p0 σ) (fun r1 t2 => if r1 = 0 then (some ((0 : Int32), t2))
  else (bn (F3_canBe p1 p2 t2) (fun r3 t4 => if r3 ≠ 0 then (bn (F0_copy N 22 30 t4) (fun r5 t6 => bn (F3_of p1 p2 t6) (fun r7 t8 => bn (F10_find N 30 p0 r7 t8) (fun r9 t10 => some ((1 : Int32), t10)))))
  else (some ((0 : Int32), t4)))))
set_option maxRecDepth 100000 in
theorem mc11_findWays (N : Nat) (p0 : Int32) (p1 : Int32) (p2 : Int32) (σ : Ms) : MC enI yX11_findWays cX11_findWays 4 (some .boolean) 5 (F11_findWays N p0 p1 p2 σ) σ [.ref 11, .int p0, .int p1, .int p2] := by
  refine MC.i (by decide +kernel) (Nat.le_of_ble_eq_true rfl) ?_
  show VF (K11_findWays) cX11_findWays RX11 (F11_findWays N p0 p1 p2 σ) σ 0 [(0, .ref 11), (1, .int p0), (2, .int p1), (3, .int p2)] []
  unfold F11_findWays
  refine v_aload_n d11_findWays_0 0 rfl rfl ?_
  refine v_getR d11_findWays_1 faX11_26 ic_11 rfl ?_
  refine v_iload_n d11_findWays_4 1 rfl rfl ?_
  refine v_callS2i d11_findWays_5 (mc10_canBe N 22 ic_22 p0 σ) ys10_canBe mlX11_460 (by decide) (Nat.le_of_ble_eq_true rfl) fun r1 t2 => ?_
  refine v_if_eq (tgt := 19) d11_findWays_8 (by decide) ?_ ?_
  · refine v_iconst d11_findWays_19 ki_0 ?_
    exact v_iret (ty := .boolean) d11_findWays_20 rfl rfl rfl
  · refine v_iload_n d11_findWays_11 2 rfl rfl ?_
    refine v_iload_n d11_findWays_12 3 rfl rfl ?_
    refine v_callS2i d11_findWays_13 (mc3_canBe p1 p2 t2) ys3_canBe mlX11_365 (by decide) (Nat.le_of_ble_eq_true rfl) fun r3 t4 => ?_
    refine v_if_ne (tgt := 21) d11_findWays_16 (by decide) ?_ ?_
    · refine v_aload_n d11_findWays_21 0 rfl rfl ?_
      refine v_getR d11_findWays_22 faX11_26 ic_11 rfl ?_
      refine v_aload_n d11_findWays_25 0 rfl rfl ?_
      refine v_getR d11_findWays_26 faX11_30 ic_11 rfl ?_
      refine v_callS2v d11_findWays_29 (mc0_copy N 22 ic_22 30 ic_30 t4) ys0_copy mlX11_176 (by decide) (Nat.le_of_ble_eq_true rfl) fun r5 t6 => ?_
      refine v_aload_n d11_findWays_32 0 rfl rfl ?_
      refine v_getR d11_findWays_33 faX11_61 ic_11 rfl ?_
      refine v_aload_n d11_findWays_36 0 rfl rfl ?_
      refine v_getR d11_findWays_37 faX11_30 ic_11 rfl ?_
      refine v_iload_n d11_findWays_40 1 rfl rfl ?_
      refine v_iload_n d11_findWays_41 2 rfl rfl ?_
      refine v_iload_n d11_findWays_42 3 rfl rfl ?_
      refine v_callS2l d11_findWays_43 (mc3_of p1 p2 t6) ys3_of mlX11_370 (by decide) (Nat.le_of_ble_eq_true rfl) fun r7 t8 => ?_
      refine v_callV3v d11_findWays_46 (mc10_find N 30 ic_30 p0 r7 t8) yv10_find mlX11_462 (Recv.obj ic_100 rfl) (by decide) (Nat.le_of_ble_eq_true rfl) fun r9 t10 => ?_
      refine v_iconst d11_findWays_49 ki_1 ?_
      exact v_iret (ty := .boolean) d11_findWays_50 rfl rfl rfl
    · refine v_iconst d11_findWays_19 ki_0 ?_
      exact v_iret (ty := .boolean) d11_findWays_20 rfl rfl rfl
theorem d11_colourings_0 : decode cX11_colourings 0 = .ok (.aload_n 0, 1) := by decide +kernel
theorem d11_colourings_1 : decode cX11_colourings 1 = .ok (.iload_n 1, 1) := by decide +kernel
theorem d11_colourings_2 : decode cX11_colourings 2 = .ok (.iload_n 2, 1) := by decide +kernel
theorem d11_colourings_3 : decode cX11_colourings 3 = .ok (.iload_n 3, 1) := by decide +kernel
theorem d11_colourings_4 : decode cX11_colourings 4 = .ok (.invokevirtual 389, 3) := by decide +kernel
theorem d11_colourings_7 : decode cX11_colourings 7 = .ok (.ifCond .ne 9, 3) := by decide +kernel
theorem d11_colourings_10 : decode cX11_colourings 10 = .ok (.aload_n 0, 1) := by decide +kernel
theorem d11_colourings_11 : decode cX11_colourings 11 = .ok (.iconst 5, 1) := by decide +kernel
theorem d11_colourings_12 : decode cX11_colourings 12 = .ok (.invokevirtual 132, 3) := by decide +kernel
theorem d11_colourings_15 : decode cX11_colourings 15 = .ok (.ireturn, 1) := by decide +kernel
theorem d11_colourings_16 : decode cX11_colourings 16 = .ok (.aload_n 0, 1) := by decide +kernel
theorem d11_colourings_17 : decode cX11_colourings 17 = .ok (.aload_n 0, 1) := by decide +kernel
theorem d11_colourings_18 : decode cX11_colourings 18 = .ok (.getfield 61, 3) := by decide +kernel
theorem d11_colourings_21 : decode cX11_colourings 21 = .ok (.getfield 392, 3) := by decide +kernel
theorem d11_colourings_24 : decode cX11_colourings 24 = .ok (.invokevirtual 186, 3) := by decide +kernel
theorem d11_colourings_27 : decode cX11_colourings 27 = .ok (.ireturn, 1) := by decide +kernel
abbrev K11_colourings : CK Int32 := (enI, (some .int), 4, 6, none)
noncomputable def F11_colourings (N : Nat) (p0 : Int32) (p1 : Int32) (p2 : Int32) (σ : Ms) : Option (Int32 × Ms) :=
  bn (F11_findWays N p0 p1 p2 σ) (fun r1 t2 => if r1 ≠ 0 then (bn (F11_told (t2.1 100 0) t2) (fun r3 t4 => some (r3, t4)))
  else (bn (F11_none (5 : Int32) t2) (fun r5 t6 => some (r5, t6))))
set_option maxRecDepth 100000 in
theorem mc11_colourings (N : Nat) (p0 : Int32) (p1 : Int32) (p2 : Int32) (σ : Ms) : MC enI yX11_colourings cX11_colourings 4 (some .int) 6 (F11_colourings N p0 p1 p2 σ) σ [.ref 11, .int p0, .int p1, .int p2] := by
  refine MC.i (by decide +kernel) (Nat.le_of_ble_eq_true rfl) ?_
  show VF (K11_colourings) cX11_colourings RX11 (F11_colourings N p0 p1 p2 σ) σ 0 [(0, .ref 11), (1, .int p0), (2, .int p1), (3, .int p2)] []
  unfold F11_colourings
  refine v_aload_n d11_colourings_0 0 rfl rfl ?_
  refine v_iload_n d11_colourings_1 1 rfl rfl ?_
  refine v_iload_n d11_colourings_2 2 rfl rfl ?_
  refine v_iload_n d11_colourings_3 3 rfl rfl ?_
  refine v_callV3i d11_colourings_4 (mc11_findWays N p0 p1 p2 σ) yv11_findWays mlX11_389 (Recv.obj ic_11 rfl) (by decide) (Nat.le_of_ble_eq_true rfl) fun r1 t2 => ?_
  refine v_if_ne (tgt := 16) d11_colourings_7 (by decide) ?_ ?_
  · refine v_aload_n d11_colourings_16 0 rfl rfl ?_
    refine v_aload_n d11_colourings_17 0 rfl rfl ?_
    refine v_getR d11_colourings_18 faX11_61 ic_11 rfl ?_
    refine v_getI d11_colourings_21 faX11_392 ic_100 ?_
    refine v_callV1i d11_colourings_24 (mc11_told (t2.1 100 0) t2) yv11_told mlX11_186 (Recv.obj ic_11 rfl) (by decide) (Nat.le_of_ble_eq_true rfl) fun r3 t4 => ?_
    exact v_iret d11_colourings_27 rfl rfl rfl
  · refine v_aload_n d11_colourings_10 0 rfl rfl ?_
    refine v_iconst d11_colourings_11 ki_5 ?_
    refine v_callV1i d11_colourings_12 (mc11_none (5 : Int32) t2) yv11_none mlX11_132 (Recv.obj ic_11 rfl) (by decide) (Nat.le_of_ble_eq_true rfl) fun r5 t6 => ?_
    exact v_iret d11_colourings_15 rfl rfl rfl
theorem d11_firstRed_0 : decode cX11_firstRed 0 = .ok (.aload_n 0, 1) := by decide +kernel
theorem d11_firstRed_1 : decode cX11_firstRed 1 = .ok (.iload_n 1, 1) := by decide +kernel
theorem d11_firstRed_2 : decode cX11_firstRed 2 = .ok (.iload_n 2, 1) := by decide +kernel
theorem d11_firstRed_3 : decode cX11_firstRed 3 = .ok (.iload_n 3, 1) := by decide +kernel
theorem d11_firstRed_4 : decode cX11_firstRed 4 = .ok (.invokevirtual 389, 3) := by decide +kernel
theorem d11_firstRed_7 : decode cX11_firstRed 7 = .ok (.ifCond .ne 9, 3) := by decide +kernel
theorem d11_firstRed_10 : decode cX11_firstRed 10 = .ok (.aload_n 0, 1) := by decide +kernel
theorem d11_firstRed_11 : decode cX11_firstRed 11 = .ok (.iconst 5, 1) := by decide +kernel
theorem d11_firstRed_12 : decode cX11_firstRed 12 = .ok (.invokevirtual 132, 3) := by decide +kernel
theorem d11_firstRed_15 : decode cX11_firstRed 15 = .ok (.ireturn, 1) := by decide +kernel
theorem d11_firstRed_16 : decode cX11_firstRed 16 = .ok (.aload_n 0, 1) := by decide +kernel
theorem d11_firstRed_17 : decode cX11_firstRed 17 = .ok (.getfield 61, 3) := by decide +kernel
theorem d11_firstRed_20 : decode cX11_firstRed 20 = .ok (.getfield 392, 3) := by decide +kernel
theorem d11_firstRed_23 : decode cX11_firstRed 23 = .ok (.ifCond .ne 12, 3) := by decide +kernel
theorem d11_firstRed_26 : decode cX11_firstRed 26 = .ok (.aload_n 0, 1) := by decide +kernel
theorem d11_firstRed_27 : decode cX11_firstRed 27 = .ok (.bipush 8, 2) := by decide +kernel
theorem d11_firstRed_29 : decode cX11_firstRed 29 = .ok (.invokevirtual 132, 3) := by decide +kernel
theorem d11_firstRed_32 : decode cX11_firstRed 32 = .ok (.goto 14, 3) := by decide +kernel
theorem d11_firstRed_35 : decode cX11_firstRed 35 = .ok (.aload_n 0, 1) := by decide +kernel
theorem d11_firstRed_36 : decode cX11_firstRed 36 = .ok (.aload_n 0, 1) := by decide +kernel
theorem d11_firstRed_37 : decode cX11_firstRed 37 = .ok (.getfield 61, 3) := by decide +kernel
theorem d11_firstRed_40 : decode cX11_firstRed 40 = .ok (.getfield 393, 3) := by decide +kernel
theorem d11_firstRed_43 : decode cX11_firstRed 43 = .ok (.invokevirtual 186, 3) := by decide +kernel
theorem d11_firstRed_46 : decode cX11_firstRed 46 = .ok (.ireturn, 1) := by decide +kernel
abbrev K11_firstRed : CK Int32 := (enI, (some .int), 4, 6, none)
noncomputable def F11_firstRed (N : Nat) (p0 : Int32) (p1 : Int32) (p2 : Int32) (σ : Ms) : Option (Int32 × Ms) :=
  bn (F11_findWays N p0 p1 p2 σ) (fun r1 t2 => if r1 ≠ 0 then (if (t2.1 100 0) ≠ 0 then (bn (F11_told (t2.1 100 1) t2) (fun r3 t4 => some (r3, t4)))
  else (bn (F11_none (8 : Int32) t2) (fun r5 t6 => some (r5, t6))))
  else (bn (F11_none (5 : Int32) t2) (fun r7 t8 => some (r7, t8))))
set_option maxRecDepth 100000 in
theorem mc11_firstRed (N : Nat) (p0 : Int32) (p1 : Int32) (p2 : Int32) (σ : Ms) : MC enI yX11_firstRed cX11_firstRed 4 (some .int) 6 (F11_firstRed N p0 p1 p2 σ) σ [.ref 11, .int p0, .int p1, .int p2] := by
  refine MC.i (by decide +kernel) (Nat.le_of_ble_eq_true rfl) ?_
  show VF (K11_firstRed) cX11_firstRed RX11 (F11_firstRed N p0 p1 p2 σ) σ 0 [(0, .ref 11), (1, .int p0), (2, .int p1), (3, .int p2)] []
  unfold F11_firstRed
  refine v_aload_n d11_firstRed_0 0 rfl rfl ?_
  refine v_iload_n d11_firstRed_1 1 rfl rfl ?_
  refine v_iload_n d11_firstRed_2 2 rfl rfl ?_
  refine v_iload_n d11_firstRed_3 3 rfl rfl ?_
  refine v_callV3i d11_firstRed_4 (mc11_findWays N p0 p1 p2 σ) yv11_findWays mlX11_389 (Recv.obj ic_11 rfl) (by decide) (Nat.le_of_ble_eq_true rfl) fun r1 t2 => ?_
  refine v_if_ne (tgt := 16) d11_firstRed_7 (by decide) ?_ ?_
  · refine v_aload_n d11_firstRed_16 0 rfl rfl ?_
    refine v_getR d11_firstRed_17 faX11_61 ic_11 rfl ?_
    refine v_getI d11_firstRed_20 faX11_392 ic_100 ?_
    refine v_if_ne (tgt := 35) d11_firstRed_23 (by decide) ?_ ?_
    · refine v_aload_n d11_firstRed_35 0 rfl rfl ?_
      refine v_aload_n d11_firstRed_36 0 rfl rfl ?_
      refine v_getR d11_firstRed_37 faX11_61 ic_11 rfl ?_
      refine v_getI d11_firstRed_40 faX11_393 ic_100 ?_
      refine v_callV1i d11_firstRed_43 (mc11_told (t2.1 100 1) t2) yv11_told mlX11_186 (Recv.obj ic_11 rfl) (by decide) (Nat.le_of_ble_eq_true rfl) fun r3 t4 => ?_
      exact v_iret d11_firstRed_46 rfl rfl rfl
    · refine v_aload_n d11_firstRed_26 0 rfl rfl ?_
      refine v_bipush d11_firstRed_27 kb_8 ?_
      refine v_callV1i d11_firstRed_29 (mc11_none (8 : Int32) t2) yv11_none mlX11_132 (Recv.obj ic_11 rfl) (by decide) (Nat.le_of_ble_eq_true rfl) fun r5 t6 => ?_
      refine v_goto (tgt := 46) d11_firstRed_32 (by decide) ?_
      exact v_iret d11_firstRed_46 rfl rfl rfl
  · refine v_aload_n d11_firstRed_10 0 rfl rfl ?_
    refine v_iconst d11_firstRed_11 ki_5 ?_
    refine v_callV1i d11_firstRed_12 (mc11_none (5 : Int32) t2) yv11_none mlX11_132 (Recv.obj ic_11 rfl) (by decide) (Nat.le_of_ble_eq_true rfl) fun r7 t8 => ?_
    exact v_iret d11_firstRed_15 rfl rfl rfl
theorem d11_oddsBlue_0 : decode cX11_oddsBlue 0 = .ok (.aload_n 0, 1) := by decide +kernel
theorem d11_oddsBlue_1 : decode cX11_oddsBlue 1 = .ok (.getfield 26, 3) := by decide +kernel
theorem d11_oddsBlue_4 : decode cX11_oddsBlue 4 = .ok (.iload 4, 2) := by decide +kernel
theorem d11_oddsBlue_6 : decode cX11_oddsBlue 6 = .ok (.invokevirtual 218, 3) := by decide +kernel
theorem d11_oddsBlue_9 : decode cX11_oddsBlue 9 = .ok (.ifCond .ne 9, 3) := by decide +kernel
theorem d11_oddsBlue_12 : decode cX11_oddsBlue 12 = .ok (.aload_n 0, 1) := by decide +kernel
theorem d11_oddsBlue_13 : decode cX11_oddsBlue 13 = .ok (.iconst 2, 1) := by decide +kernel
theorem d11_oddsBlue_14 : decode cX11_oddsBlue 14 = .ok (.invokevirtual 113, 3) := by decide +kernel
theorem d11_oddsBlue_17 : decode cX11_oddsBlue 17 = .ok (.ireturn, 1) := by decide +kernel
theorem d11_oddsBlue_18 : decode cX11_oddsBlue 18 = .ok (.aload_n 0, 1) := by decide +kernel
theorem d11_oddsBlue_19 : decode cX11_oddsBlue 19 = .ok (.iload_n 1, 1) := by decide +kernel
theorem d11_oddsBlue_20 : decode cX11_oddsBlue 20 = .ok (.iload_n 2, 1) := by decide +kernel
theorem d11_oddsBlue_21 : decode cX11_oddsBlue 21 = .ok (.iload_n 3, 1) := by decide +kernel
theorem d11_oddsBlue_22 : decode cX11_oddsBlue 22 = .ok (.invokevirtual 389, 3) := by decide +kernel
theorem d11_oddsBlue_25 : decode cX11_oddsBlue 25 = .ok (.ifCond .ne 9, 3) := by decide +kernel
theorem d11_oddsBlue_28 : decode cX11_oddsBlue 28 = .ok (.aload_n 0, 1) := by decide +kernel
theorem d11_oddsBlue_29 : decode cX11_oddsBlue 29 = .ok (.iconst 5, 1) := by decide +kernel
theorem d11_oddsBlue_30 : decode cX11_oddsBlue 30 = .ok (.invokevirtual 113, 3) := by decide +kernel
theorem d11_oddsBlue_33 : decode cX11_oddsBlue 33 = .ok (.ireturn, 1) := by decide +kernel
theorem d11_oddsBlue_34 : decode cX11_oddsBlue 34 = .ok (.aload_n 0, 1) := by decide +kernel
theorem d11_oddsBlue_35 : decode cX11_oddsBlue 35 = .ok (.getfield 61, 3) := by decide +kernel
theorem d11_oddsBlue_38 : decode cX11_oddsBlue 38 = .ok (.getfield 392, 3) := by decide +kernel
theorem d11_oddsBlue_41 : decode cX11_oddsBlue 41 = .ok (.ifCond .ne 10, 3) := by decide +kernel
theorem d11_oddsBlue_44 : decode cX11_oddsBlue 44 = .ok (.aload_n 0, 1) := by decide +kernel
theorem d11_oddsBlue_45 : decode cX11_oddsBlue 45 = .ok (.bipush 8, 2) := by decide +kernel
theorem d11_oddsBlue_47 : decode cX11_oddsBlue 47 = .ok (.invokevirtual 113, 3) := by decide +kernel
theorem d11_oddsBlue_50 : decode cX11_oddsBlue 50 = .ok (.ireturn, 1) := by decide +kernel
theorem d11_oddsBlue_51 : decode cX11_oddsBlue 51 = .ok (.iload_n 1, 1) := by decide +kernel
theorem d11_oddsBlue_52 : decode cX11_oddsBlue 52 = .ok (.iload 4, 2) := by decide +kernel
theorem d11_oddsBlue_54 : decode cX11_oddsBlue 54 = .ok (.invokestatic 396, 3) := by decide +kernel
theorem d11_oddsBlue_57 : decode cX11_oddsBlue 57 = .ok (.ifCond .ne 10, 3) := by decide +kernel
theorem d11_oddsBlue_60 : decode cX11_oddsBlue 60 = .ok (.aload_n 0, 1) := by decide +kernel
theorem d11_oddsBlue_61 : decode cX11_oddsBlue 61 = .ok (.bipush 9, 2) := by decide +kernel
theorem d11_oddsBlue_63 : decode cX11_oddsBlue 63 = .ok (.invokevirtual 113, 3) := by decide +kernel
theorem d11_oddsBlue_66 : decode cX11_oddsBlue 66 = .ok (.ireturn, 1) := by decide +kernel
theorem d11_oddsBlue_67 : decode cX11_oddsBlue 67 = .ok (.aload_n 0, 1) := by decide +kernel
theorem d11_oddsBlue_68 : decode cX11_oddsBlue 68 = .ok (.aload_n 0, 1) := by decide +kernel
theorem d11_oddsBlue_69 : decode cX11_oddsBlue 69 = .ok (.getfield 61, 3) := by decide +kernel
theorem d11_oddsBlue_72 : decode cX11_oddsBlue 72 = .ok (.getfield 399, 3) := by decide +kernel
theorem d11_oddsBlue_75 : decode cX11_oddsBlue 75 = .ok (.iload 4, 2) := by decide +kernel
theorem d11_oddsBlue_77 : decode cX11_oddsBlue 77 = .ok (.iaload, 1) := by decide +kernel
theorem d11_oddsBlue_78 : decode cX11_oddsBlue 78 = .ok (.i2l, 1) := by decide +kernel
theorem d11_oddsBlue_79 : decode cX11_oddsBlue 79 = .ok (.aload_n 0, 1) := by decide +kernel
theorem d11_oddsBlue_80 : decode cX11_oddsBlue 80 = .ok (.getfield 61, 3) := by decide +kernel
theorem d11_oddsBlue_83 : decode cX11_oddsBlue 83 = .ok (.getfield 392, 3) := by decide +kernel
theorem d11_oddsBlue_86 : decode cX11_oddsBlue 86 = .ok (.i2l, 1) := by decide +kernel
theorem d11_oddsBlue_87 : decode cX11_oddsBlue 87 = .ok (.invokevirtual 361, 3) := by decide +kernel
theorem d11_oddsBlue_90 : decode cX11_oddsBlue 90 = .ok (.ireturn, 1) := by decide +kernel
abbrev K11_oddsBlue : CK Int32 := (enI, (some .boolean), 5, 6, none)
noncomputable def F11_oddsBlue (N : Nat) (p0 : Int32) (p1 : Int32) (p2 : Int32) (p3 : Int32) (σ : Ms) : Option (Int32 × Ms) :=
  bn (F0_hasSprig 22 p3 σ) (fun r1 t2 => if r1 ≠ 0 then (bn (F11_findWays N p0 p1 p2 t2) (fun r3 t4 => if r3 ≠ 0 then (if (t4.1 100 0) ≠ 0 then (bn (F11_isIn p0 p3 t4) (fun r5 t6 => if r5 ≠ 0 then (ck (ixb p3 20) (bn (F11_tellFraction N ((t6.1 101 p3.toNatClampNeg).toInt64) ((t6.1 100 0).toInt64) t6) (fun r7 t8 => ck (nkB r7) (some (r7, t8)))))
  else (bn (F11_no (9 : Int32) t6) (fun r9 t10 => ck (nkB r9) (some (r9, t10))))))
  else (bn (F11_no (8 : Int32) t4) (fun r11 t12 => ck (nkB r11) (some (r11, t12)))))
  else (bn (F11_no (5 : Int32) t4) (fun r13 t14 => ck (nkB r13) (some (r13, t14))))))
  else (bn (F11_no (2 : Int32) t2) (fun r15 t16 => ck (nkB r15) (some (r15, t16)))))
set_option maxRecDepth 100000 in
theorem mc11_oddsBlue (N : Nat) (p0 : Int32) (p1 : Int32) (p2 : Int32) (p3 : Int32) (σ : Ms) : MC enI yX11_oddsBlue cX11_oddsBlue 5 (some .boolean) 6 (F11_oddsBlue N p0 p1 p2 p3 σ) σ [.ref 11, .int p0, .int p1, .int p2, .int p3] := by
  refine MC.i (by decide +kernel) (Nat.le_of_ble_eq_true rfl) ?_
  show VF (K11_oddsBlue) cX11_oddsBlue RX11 (F11_oddsBlue N p0 p1 p2 p3 σ) σ 0 [(0, .ref 11), (1, .int p0), (2, .int p1), (3, .int p2), (4, .int p3)] []
  unfold F11_oddsBlue
  refine v_aload_n d11_oddsBlue_0 0 rfl rfl ?_
  refine v_getR d11_oddsBlue_1 faX11_26 ic_11 rfl ?_
  refine v_iload d11_oddsBlue_4 4 rfl ?_
  refine v_callV1i d11_oddsBlue_6 (mc0_hasSprig 22 ic_22 p3 σ) yv0_hasSprig mlX11_218 (Recv.obj ic_22 rfl) (by decide) (Nat.le_of_ble_eq_true rfl) fun r1 t2 => ?_
  refine v_if_ne (tgt := 18) d11_oddsBlue_9 (by decide) ?_ ?_
  · refine v_aload_n d11_oddsBlue_18 0 rfl rfl ?_
    refine v_iload_n d11_oddsBlue_19 1 rfl rfl ?_
    refine v_iload_n d11_oddsBlue_20 2 rfl rfl ?_
    refine v_iload_n d11_oddsBlue_21 3 rfl rfl ?_
    refine v_callV3i d11_oddsBlue_22 (mc11_findWays N p0 p1 p2 t2) yv11_findWays mlX11_389 (Recv.obj ic_11 rfl) (by decide) (Nat.le_of_ble_eq_true rfl) fun r3 t4 => ?_
    refine v_if_ne (tgt := 34) d11_oddsBlue_25 (by decide) ?_ ?_
    · refine v_aload_n d11_oddsBlue_34 0 rfl rfl ?_
      refine v_getR d11_oddsBlue_35 faX11_61 ic_11 rfl ?_
      refine v_getI d11_oddsBlue_38 faX11_392 ic_100 ?_
      refine v_if_ne (tgt := 51) d11_oddsBlue_41 (by decide) ?_ ?_
      · refine v_iload_n d11_oddsBlue_51 1 rfl rfl ?_
        refine v_iload d11_oddsBlue_52 4 rfl ?_
        refine v_callS2i d11_oddsBlue_54 (mc11_isIn p0 p3 t4) ys11_isIn mlX11_396 (by decide) (Nat.le_of_ble_eq_true rfl) fun r5 t6 => ?_
        refine v_if_ne (tgt := 67) d11_oddsBlue_57 (by decide) ?_ ?_
        · refine v_aload_n d11_oddsBlue_67 0 rfl rfl ?_
          refine v_aload_n d11_oddsBlue_68 0 rfl rfl ?_
          refine v_getR d11_oddsBlue_69 faX11_61 ic_11 rfl ?_
          refine v_getR d11_oddsBlue_72 faX11_399 ic_100 rfl ?_
          refine v_iload d11_oddsBlue_75 4 rfl ?_
          refine v_iald d11_oddsBlue_77 ic_101 ?_
          refine v_i2l d11_oddsBlue_78 ?_
          refine v_aload_n d11_oddsBlue_79 0 rfl rfl ?_
          refine v_getR d11_oddsBlue_80 faX11_61 ic_11 rfl ?_
          refine v_getI d11_oddsBlue_83 faX11_392 ic_100 ?_
          refine v_i2l d11_oddsBlue_86 ?_
          refine v_callV2i d11_oddsBlue_87 (mc11_tellFraction N ((t6.1 101 p3.toNatClampNeg).toInt64) ((t6.1 100 0).toInt64) t6) yv11_tellFraction mlX11_361 (Recv.obj ic_11 rfl) (by decide) (Nat.le_of_ble_eq_true rfl) fun r7 t8 => ?_
          exact v_iretB d11_oddsBlue_90 rfl rfl
        · refine v_aload_n d11_oddsBlue_60 0 rfl rfl ?_
          refine v_bipush d11_oddsBlue_61 kb_9 ?_
          refine v_callV1i d11_oddsBlue_63 (mc11_no (9 : Int32) t6) yv11_no mlX11_113 (Recv.obj ic_11 rfl) (by decide) (Nat.le_of_ble_eq_true rfl) fun r9 t10 => ?_
          exact v_iretB d11_oddsBlue_66 rfl rfl
      · refine v_aload_n d11_oddsBlue_44 0 rfl rfl ?_
        refine v_bipush d11_oddsBlue_45 kb_8 ?_
        refine v_callV1i d11_oddsBlue_47 (mc11_no (8 : Int32) t4) yv11_no mlX11_113 (Recv.obj ic_11 rfl) (by decide) (Nat.le_of_ble_eq_true rfl) fun r11 t12 => ?_
        exact v_iretB d11_oddsBlue_50 rfl rfl
    · refine v_aload_n d11_oddsBlue_28 0 rfl rfl ?_
      refine v_iconst d11_oddsBlue_29 ki_5 ?_
      refine v_callV1i d11_oddsBlue_30 (mc11_no (5 : Int32) t4) yv11_no mlX11_113 (Recv.obj ic_11 rfl) (by decide) (Nat.le_of_ble_eq_true rfl) fun r13 t14 => ?_
      exact v_iretB d11_oddsBlue_33 rfl rfl
  · refine v_aload_n d11_oddsBlue_12 0 rfl rfl ?_
    refine v_iconst d11_oddsBlue_13 ki_2 ?_
    refine v_callV1i d11_oddsBlue_14 (mc11_no (2 : Int32) t2) yv11_no mlX11_113 (Recv.obj ic_11 rfl) (by decide) (Nat.le_of_ble_eq_true rfl) fun r15 t16 => ?_
    exact v_iretB d11_oddsBlue_17 rfl rfl
theorem d11_ask_0 : decode cX11_ask 0 = .ok (.aload_n 0, 1) := by decide +kernel
theorem d11_ask_1 : decode cX11_ask 1 = .ok (.iload_n 1, 1) := by decide +kernel
theorem d11_ask_2 : decode cX11_ask 2 = .ok (.iload_n 2, 1) := by decide +kernel
theorem d11_ask_3 : decode cX11_ask 3 = .ok (.iload_n 3, 1) := by decide +kernel
theorem d11_ask_4 : decode cX11_ask 4 = .ok (.invokevirtual 389, 3) := by decide +kernel
theorem d11_ask_7 : decode cX11_ask 7 = .ok (.ifCond .ne 9, 3) := by decide +kernel
theorem d11_ask_10 : decode cX11_ask 10 = .ok (.aload_n 0, 1) := by decide +kernel
theorem d11_ask_11 : decode cX11_ask 11 = .ok (.iconst 5, 1) := by decide +kernel
theorem d11_ask_12 : decode cX11_ask 12 = .ok (.invokevirtual 132, 3) := by decide +kernel
theorem d11_ask_15 : decode cX11_ask 15 = .ok (.ireturn, 1) := by decide +kernel
theorem d11_ask_16 : decode cX11_ask 16 = .ok (.aload_n 0, 1) := by decide +kernel
theorem d11_ask_17 : decode cX11_ask 17 = .ok (.getfield 61, 3) := by decide +kernel
theorem d11_ask_20 : decode cX11_ask 20 = .ok (.getfield 392, 3) := by decide +kernel
theorem d11_ask_23 : decode cX11_ask 23 = .ok (.iconst 2, 1) := by decide +kernel
theorem d11_ask_24 : decode cX11_ask 24 = .ok (.if_icmp .ge 12, 3) := by decide +kernel
theorem d11_ask_27 : decode cX11_ask 27 = .ok (.aload_n 0, 1) := by decide +kernel
theorem d11_ask_28 : decode cX11_ask 28 = .ok (.bipush 8, 2) := by decide +kernel
theorem d11_ask_30 : decode cX11_ask 30 = .ok (.invokevirtual 132, 3) := by decide +kernel
theorem d11_ask_33 : decode cX11_ask 33 = .ok (.goto 15, 3) := by decide +kernel
theorem d11_ask_36 : decode cX11_ask 36 = .ok (.aload_n 0, 1) := by decide +kernel
theorem d11_ask_37 : decode cX11_ask 37 = .ok (.aload_n 0, 1) := by decide +kernel
theorem d11_ask_38 : decode cX11_ask 38 = .ok (.getfield 61, 3) := by decide +kernel
theorem d11_ask_41 : decode cX11_ask 41 = .ok (.iload_n 1, 1) := by decide +kernel
theorem d11_ask_42 : decode cX11_ask 42 = .ok (.invokevirtual 402, 3) := by decide +kernel
theorem d11_ask_45 : decode cX11_ask 45 = .ok (.invokevirtual 186, 3) := by decide +kernel
theorem d11_ask_48 : decode cX11_ask 48 = .ok (.ireturn, 1) := by decide +kernel
abbrev K11_ask : CK Int32 := (enI, (some .int), 4, 6, none)
noncomputable def F11_ask (N : Nat) (p0 : Int32) (p1 : Int32) (p2 : Int32) (σ : Ms) : Option (Int32 × Ms) :=
  bn (F11_findWays N p0 p1 p2 σ) (fun r1 t2 => if r1 ≠ 0 then (if (2 : Int32) ≤ (t2.1 100 0) then (bn (F10_bestParting N p0 t2) (fun r3 t4 => bn (F11_told r3 t4) (fun r5 t6 => some (r5, t6))))
  else (bn (F11_none (8 : Int32) t2) (fun r7 t8 => some (r7, t8))))
  else (bn (F11_none (5 : Int32) t2) (fun r9 t10 => some (r9, t10))))
set_option maxRecDepth 100000 in
theorem mc11_ask (N : Nat) (p0 : Int32) (p1 : Int32) (p2 : Int32) (σ : Ms) : MC enI yX11_ask cX11_ask 4 (some .int) 6 (F11_ask N p0 p1 p2 σ) σ [.ref 11, .int p0, .int p1, .int p2] := by
  refine MC.i (by decide +kernel) (Nat.le_of_ble_eq_true rfl) ?_
  show VF (K11_ask) cX11_ask RX11 (F11_ask N p0 p1 p2 σ) σ 0 [(0, .ref 11), (1, .int p0), (2, .int p1), (3, .int p2)] []
  unfold F11_ask
  refine v_aload_n d11_ask_0 0 rfl rfl ?_
  refine v_iload_n d11_ask_1 1 rfl rfl ?_
  refine v_iload_n d11_ask_2 2 rfl rfl ?_
  refine v_iload_n d11_ask_3 3 rfl rfl ?_
  refine v_callV3i d11_ask_4 (mc11_findWays N p0 p1 p2 σ) yv11_findWays mlX11_389 (Recv.obj ic_11 rfl) (by decide) (Nat.le_of_ble_eq_true rfl) fun r1 t2 => ?_
  refine v_if_ne (tgt := 16) d11_ask_7 (by decide) ?_ ?_
  · refine v_aload_n d11_ask_16 0 rfl rfl ?_
    refine v_getR d11_ask_17 faX11_61 ic_11 rfl ?_
    refine v_getI d11_ask_20 faX11_392 ic_100 ?_
    refine v_iconst d11_ask_23 ki_2 ?_
    refine v_icmp_ge (tgt := 36) d11_ask_24 (by decide) ?_ ?_
    · refine v_aload_n d11_ask_36 0 rfl rfl ?_
      refine v_aload_n d11_ask_37 0 rfl rfl ?_
      refine v_getR d11_ask_38 faX11_61 ic_11 rfl ?_
      refine v_iload_n d11_ask_41 1 rfl rfl ?_
      refine v_callV1i d11_ask_42 (mc10_bestParting N p0 t2) yv10_bestParting mlX11_402 (Recv.obj ic_100 rfl) (by decide) (Nat.le_of_ble_eq_true rfl) fun r3 t4 => ?_
      refine v_callV1i d11_ask_45 (mc11_told r3 t4) yv11_told mlX11_186 (Recv.obj ic_11 rfl) (by decide) (Nat.le_of_ble_eq_true rfl) fun r5 t6 => ?_
      exact v_iret d11_ask_48 rfl rfl rfl
    · refine v_aload_n d11_ask_27 0 rfl rfl ?_
      refine v_bipush d11_ask_28 kb_8 ?_
      refine v_callV1i d11_ask_30 (mc11_none (8 : Int32) t2) yv11_none mlX11_132 (Recv.obj ic_11 rfl) (by decide) (Nat.le_of_ble_eq_true rfl) fun r7 t8 => ?_
      refine v_goto (tgt := 48) d11_ask_33 (by decide) ?_
      exact v_iret d11_ask_48 rfl rfl rfl
  · refine v_aload_n d11_ask_10 0 rfl rfl ?_
    refine v_iconst d11_ask_11 ki_5 ?_
    refine v_callV1i d11_ask_12 (mc11_none (5 : Int32) t2) yv11_none mlX11_132 (Recv.obj ic_11 rfl) (by decide) (Nat.le_of_ble_eq_true rfl) fun r9 t10 => ?_
    exact v_iret d11_ask_15 rfl rfl rfl
theorem d11_balance_0 : decode cX11_balance 0 = .ok (.aload_n 0, 1) := by decide +kernel
theorem d11_balance_1 : decode cX11_balance 1 = .ok (.getfield 68, 3) := by decide +kernel
theorem d11_balance_4 : decode cX11_balance 4 = .ok (.aload_n 0, 1) := by decide +kernel
theorem d11_balance_5 : decode cX11_balance 5 = .ok (.getfield 26, 3) := by decide +kernel
theorem d11_balance_8 : decode cX11_balance 8 = .ok (.invokevirtual 405, 3) := by decide +kernel
theorem d11_balance_11 : decode cX11_balance 11 = .ok (.istore_n 1, 1) := by decide +kernel
theorem d11_balance_12 : decode cX11_balance 12 = .ok (.iload_n 1, 1) := by decide +kernel
theorem d11_balance_13 : decode cX11_balance 13 = .ok (.iconst (-1), 1) := by decide +kernel
theorem d11_balance_14 : decode cX11_balance 14 = .ok (.if_icmp .ne 12, 3) := by decide +kernel
theorem d11_balance_17 : decode cX11_balance 17 = .ok (.aload_n 0, 1) := by decide +kernel
theorem d11_balance_18 : decode cX11_balance 18 = .ok (.bipush 8, 2) := by decide +kernel
theorem d11_balance_20 : decode cX11_balance 20 = .ok (.invokevirtual 132, 3) := by decide +kernel
theorem d11_balance_23 : decode cX11_balance 23 = .ok (.goto 11, 3) := by decide +kernel
theorem d11_balance_26 : decode cX11_balance 26 = .ok (.aload_n 0, 1) := by decide +kernel
theorem d11_balance_27 : decode cX11_balance 27 = .ok (.iload_n 1, 1) := by decide +kernel
theorem d11_balance_28 : decode cX11_balance 28 = .ok (.invokestatic 237, 3) := by decide +kernel
theorem d11_balance_31 : decode cX11_balance 31 = .ok (.invokevirtual 186, 3) := by decide +kernel
theorem d11_balance_34 : decode cX11_balance 34 = .ok (.ireturn, 1) := by decide +kernel
abbrev K11_balance : CK Int32 := (enI, (some .int), 2, 6, none)
noncomputable def F11_balance (N : Nat) (σ : Ms) : Option (Int32 × Ms) :=
  bn (F7_balancing N 22 σ) (fun r1 t2 => if r1 ≠ (-1 : Int32) then (bn (FJ6_bitCount_0f7a4 r1 t2) (fun r3 t4 => bn (F11_told r3 t4) (fun r5 t6 => some (r5, t6))))
  else (bn (F11_none (8 : Int32) t2) (fun r7 t8 => some (r7, t8))))
set_option maxRecDepth 100000 in
theorem mc11_balance (N : Nat) (σ : Ms) : MC enI yX11_balance cX11_balance 2 (some .int) 6 (F11_balance N σ) σ [.ref 11] := by
  refine MC.i (by decide +kernel) (Nat.le_of_ble_eq_true rfl) ?_
  show VF (K11_balance) cX11_balance RX11 (F11_balance N σ) σ 0 [(0, .ref 11)] []
  unfold F11_balance
  refine v_aload_n d11_balance_0 0 rfl rfl ?_
  refine v_getR d11_balance_1 faX11_68 ic_11 rfl ?_
  refine v_aload_n d11_balance_4 0 rfl rfl ?_
  refine v_getR d11_balance_5 faX11_26 ic_11 rfl ?_
  refine v_callV1i d11_balance_8 (mc7_balancing N 22 ic_22 σ) yv7_balancing mlX11_405 (Recv.obj ic_102 rfl) (by decide) (Nat.le_of_ble_eq_true rfl) fun r1 t2 => ?_
  refine v_istore_n (lv' := [(1, .int r1), (0, .ref 11)]) d11_balance_11 rfl (by decide) rfl ?_
  refine v_iload_n d11_balance_12 0 rfl rfl ?_
  refine v_iconst d11_balance_13 ki_m1 ?_
  refine v_icmp_ne (tgt := 26) d11_balance_14 (by decide) ?_ ?_
  · refine v_aload_n d11_balance_26 1 rfl rfl ?_
    refine v_iload_n d11_balance_27 0 rfl rfl ?_
    refine v_callS1i d11_balance_28 (mcJ6_bitCount_0f7a4 r1 t2) ysJ6_bitCount_0f7a4 mlX11_237 (by decide) (Nat.le_of_ble_eq_true rfl) fun r3 t4 => ?_
    refine v_callV1i d11_balance_31 (mc11_told r3 t4) yv11_told mlX11_186 (Recv.obj ic_11 rfl) (by decide) (Nat.le_of_ble_eq_true rfl) fun r5 t6 => ?_
    exact v_iret d11_balance_34 rfl rfl rfl
  · refine v_aload_n d11_balance_17 1 rfl rfl ?_
    refine v_bipush d11_balance_18 kb_8 ?_
    refine v_callV1i d11_balance_20 (mc11_none (8 : Int32) t2) yv11_none mlX11_132 (Recv.obj ic_11 rfl) (by decide) (Nat.le_of_ble_eq_true rfl) fun r7 t8 => ?_
    refine v_goto (tgt := 34) d11_balance_23 (by decide) ?_
    exact v_iret d11_balance_34 rfl rfl rfl
theorem d11_balanceSet_0 : decode cX11_balanceSet 0 = .ok (.aload_n 0, 1) := by decide +kernel
theorem d11_balanceSet_1 : decode cX11_balanceSet 1 = .ok (.getfield 68, 3) := by decide +kernel
theorem d11_balanceSet_4 : decode cX11_balanceSet 4 = .ok (.aload_n 0, 1) := by decide +kernel
theorem d11_balanceSet_5 : decode cX11_balanceSet 5 = .ok (.getfield 26, 3) := by decide +kernel
theorem d11_balanceSet_8 : decode cX11_balanceSet 8 = .ok (.invokevirtual 405, 3) := by decide +kernel
theorem d11_balanceSet_11 : decode cX11_balanceSet 11 = .ok (.istore_n 1, 1) := by decide +kernel
theorem d11_balanceSet_12 : decode cX11_balanceSet 12 = .ok (.iload_n 1, 1) := by decide +kernel
theorem d11_balanceSet_13 : decode cX11_balanceSet 13 = .ok (.iconst (-1), 1) := by decide +kernel
theorem d11_balanceSet_14 : decode cX11_balanceSet 14 = .ok (.if_icmp .ne 12, 3) := by decide +kernel
theorem d11_balanceSet_17 : decode cX11_balanceSet 17 = .ok (.aload_n 0, 1) := by decide +kernel
theorem d11_balanceSet_18 : decode cX11_balanceSet 18 = .ok (.bipush 8, 2) := by decide +kernel
theorem d11_balanceSet_20 : decode cX11_balanceSet 20 = .ok (.invokevirtual 132, 3) := by decide +kernel
theorem d11_balanceSet_23 : decode cX11_balanceSet 23 = .ok (.goto 8, 3) := by decide +kernel
theorem d11_balanceSet_26 : decode cX11_balanceSet 26 = .ok (.aload_n 0, 1) := by decide +kernel
theorem d11_balanceSet_27 : decode cX11_balanceSet 27 = .ok (.iload_n 1, 1) := by decide +kernel
theorem d11_balanceSet_28 : decode cX11_balanceSet 28 = .ok (.invokevirtual 186, 3) := by decide +kernel
theorem d11_balanceSet_31 : decode cX11_balanceSet 31 = .ok (.ireturn, 1) := by decide +kernel
abbrev K11_balanceSet : CK Int32 := (enI, (some .int), 2, 6, none)
noncomputable def F11_balanceSet (N : Nat) (σ : Ms) : Option (Int32 × Ms) :=
  bn (F7_balancing N 22 σ) (fun r1 t2 => if r1 ≠ (-1 : Int32) then (bn (F11_told r1 t2) (fun r3 t4 => some (r3, t4)))
  else (bn (F11_none (8 : Int32) t2) (fun r5 t6 => some (r5, t6))))
set_option maxRecDepth 100000 in
theorem mc11_balanceSet (N : Nat) (σ : Ms) : MC enI yX11_balanceSet cX11_balanceSet 2 (some .int) 6 (F11_balanceSet N σ) σ [.ref 11] := by
  refine MC.i (by decide +kernel) (Nat.le_of_ble_eq_true rfl) ?_
  show VF (K11_balanceSet) cX11_balanceSet RX11 (F11_balanceSet N σ) σ 0 [(0, .ref 11)] []
  unfold F11_balanceSet
  refine v_aload_n d11_balanceSet_0 0 rfl rfl ?_
  refine v_getR d11_balanceSet_1 faX11_68 ic_11 rfl ?_
  refine v_aload_n d11_balanceSet_4 0 rfl rfl ?_
  refine v_getR d11_balanceSet_5 faX11_26 ic_11 rfl ?_
  refine v_callV1i d11_balanceSet_8 (mc7_balancing N 22 ic_22 σ) yv7_balancing mlX11_405 (Recv.obj ic_102 rfl) (by decide) (Nat.le_of_ble_eq_true rfl) fun r1 t2 => ?_
  refine v_istore_n (lv' := [(1, .int r1), (0, .ref 11)]) d11_balanceSet_11 rfl (by decide) rfl ?_
  refine v_iload_n d11_balanceSet_12 0 rfl rfl ?_
  refine v_iconst d11_balanceSet_13 ki_m1 ?_
  refine v_icmp_ne (tgt := 26) d11_balanceSet_14 (by decide) ?_ ?_
  · refine v_aload_n d11_balanceSet_26 1 rfl rfl ?_
    refine v_iload_n d11_balanceSet_27 0 rfl rfl ?_
    refine v_callV1i d11_balanceSet_28 (mc11_told r1 t2) yv11_told mlX11_186 (Recv.obj ic_11 rfl) (by decide) (Nat.le_of_ble_eq_true rfl) fun r3 t4 => ?_
    exact v_iret d11_balanceSet_31 rfl rfl rfl
  · refine v_aload_n d11_balanceSet_17 1 rfl rfl ?_
    refine v_bipush d11_balanceSet_18 kb_8 ?_
    refine v_callV1i d11_balanceSet_20 (mc11_none (8 : Int32) t2) yv11_none mlX11_132 (Recv.obj ic_11 rfl) (by decide) (Nat.le_of_ble_eq_true rfl) fun r5 t6 => ?_
    refine v_goto (tgt := 31) d11_balanceSet_23 (by decide) ?_
    exact v_iret d11_balanceSet_31 rfl rfl rfl
theorem d11_luck_0 : decode cX11_luck 0 = .ok (.iload_n 1, 1) := by decide +kernel
theorem d11_luck_1 : decode cX11_luck 1 = .ok (.invokestatic 251, 3) := by decide +kernel
theorem d11_luck_4 : decode cX11_luck 4 = .ok (.ifCond .ne 9, 3) := by decide +kernel
theorem d11_luck_7 : decode cX11_luck 7 = .ok (.aload_n 0, 1) := by decide +kernel
theorem d11_luck_8 : decode cX11_luck 8 = .ok (.iconst 2, 1) := by decide +kernel
theorem d11_luck_9 : decode cX11_luck 9 = .ok (.invokevirtual 113, 3) := by decide +kernel
theorem d11_luck_12 : decode cX11_luck 12 = .ok (.ireturn, 1) := by decide +kernel
theorem d11_luck_13 : decode cX11_luck 13 = .ok (.aload_n 0, 1) := by decide +kernel
theorem d11_luck_14 : decode cX11_luck 14 = .ok (.getfield 26, 3) := by decide +kernel
theorem d11_luck_17 : decode cX11_luck 17 = .ok (.invokestatic 409, 3) := by decide +kernel
theorem d11_luck_20 : decode cX11_luck 20 = .ok (.ifCond .ne 10, 3) := by decide +kernel
theorem d11_luck_23 : decode cX11_luck 23 = .ok (.aload_n 0, 1) := by decide +kernel
theorem d11_luck_24 : decode cX11_luck 24 = .ok (.bipush 9, 2) := by decide +kernel
theorem d11_luck_26 : decode cX11_luck 26 = .ok (.invokevirtual 113, 3) := by decide +kernel
theorem d11_luck_29 : decode cX11_luck 29 = .ok (.ireturn, 1) := by decide +kernel
theorem d11_luck_30 : decode cX11_luck 30 = .ok (.aload_n 0, 1) := by decide +kernel
theorem d11_luck_31 : decode cX11_luck 31 = .ok (.aload_n 0, 1) := by decide +kernel
theorem d11_luck_32 : decode cX11_luck 32 = .ok (.getfield 68, 3) := by decide +kernel
theorem d11_luck_35 : decode cX11_luck 35 = .ok (.aload_n 0, 1) := by decide +kernel
theorem d11_luck_36 : decode cX11_luck 36 = .ok (.getfield 26, 3) := by decide +kernel
theorem d11_luck_39 : decode cX11_luck 39 = .ok (.iload_n 1, 1) := by decide +kernel
theorem d11_luck_40 : decode cX11_luck 40 = .ok (.invokevirtual 413, 3) := by decide +kernel
theorem d11_luck_43 : decode cX11_luck 43 = .ok (.ldc2_w 417, 3) := by decide +kernel
theorem d11_luck_46 : decode cX11_luck 46 = .ok (.invokevirtual 361, 3) := by decide +kernel
theorem d11_luck_49 : decode cX11_luck 49 = .ok (.ireturn, 1) := by decide +kernel
abbrev K11_luck : CK Int32 := (enI, (some .boolean), 2, 6, none)
noncomputable def F11_luck (N : Nat) (p0 : Int32) (σ : Ms) : Option (Int32 × Ms) :=
  bn (F11_isSide p0 σ) (fun r1 t2 => if r1 ≠ 0 then (bn (F7_leavesToLuck N 22 t2) (fun r3 t4 => if r3 ≠ 0 then (bn (F7_oddsOfLeft N 22 p0 t4) (fun r5 t6 => bn (F11_tellFraction N r5 (46656000000 : Int64) t6) (fun r7 t8 => ck (nkB r7) (some (r7, t8)))))
  else (bn (F11_no (9 : Int32) t4) (fun r9 t10 => ck (nkB r9) (some (r9, t10))))))
  else (bn (F11_no (2 : Int32) t2) (fun r11 t12 => ck (nkB r11) (some (r11, t12)))))
set_option maxRecDepth 100000 in
theorem mc11_luck (N : Nat) (p0 : Int32) (σ : Ms) : MC enI yX11_luck cX11_luck 2 (some .boolean) 6 (F11_luck N p0 σ) σ [.ref 11, .int p0] := by
  refine MC.i (by decide +kernel) (Nat.le_of_ble_eq_true rfl) ?_
  show VF (K11_luck) cX11_luck RX11 (F11_luck N p0 σ) σ 0 [(0, .ref 11), (1, .int p0)] []
  unfold F11_luck
  refine v_iload_n d11_luck_0 1 rfl rfl ?_
  refine v_callS1i d11_luck_1 (mc11_isSide p0 σ) ys11_isSide mlX11_251 (by decide) (Nat.le_of_ble_eq_true rfl) fun r1 t2 => ?_
  refine v_if_ne (tgt := 13) d11_luck_4 (by decide) ?_ ?_
  · refine v_aload_n d11_luck_13 0 rfl rfl ?_
    refine v_getR d11_luck_14 faX11_26 ic_11 rfl ?_
    refine v_callS1i d11_luck_17 (mc7_leavesToLuck N 22 ic_22 t2) ys7_leavesToLuck mlX11_409 (by decide) (Nat.le_of_ble_eq_true rfl) fun r3 t4 => ?_
    refine v_if_ne (tgt := 30) d11_luck_20 (by decide) ?_ ?_
    · refine v_aload_n d11_luck_30 0 rfl rfl ?_
      refine v_aload_n d11_luck_31 0 rfl rfl ?_
      refine v_getR d11_luck_32 faX11_68 ic_11 rfl ?_
      refine v_aload_n d11_luck_35 0 rfl rfl ?_
      refine v_getR d11_luck_36 faX11_26 ic_11 rfl ?_
      refine v_iload_n d11_luck_39 1 rfl rfl ?_
      refine v_callV2l d11_luck_40 (mc7_oddsOfLeft N 22 ic_22 p0 t4) yv7_oddsOfLeft mlX11_413 (Recv.obj ic_102 rfl) (by decide) (Nat.le_of_ble_eq_true rfl) fun r5 t6 => ?_
      refine v_ldc2 d11_luck_43 klX11_417 ?_
      refine v_callV2i d11_luck_46 (mc11_tellFraction N r5 (46656000000 : Int64) t6) yv11_tellFraction mlX11_361 (Recv.obj ic_11 rfl) (by decide) (Nat.le_of_ble_eq_true rfl) fun r7 t8 => ?_
      exact v_iretB d11_luck_49 rfl rfl
    · refine v_aload_n d11_luck_23 0 rfl rfl ?_
      refine v_bipush d11_luck_24 kb_9 ?_
      refine v_callV1i d11_luck_26 (mc11_no (9 : Int32) t4) yv11_no mlX11_113 (Recv.obj ic_11 rfl) (by decide) (Nat.le_of_ble_eq_true rfl) fun r9 t10 => ?_
      exact v_iretB d11_luck_29 rfl rfl
  · refine v_aload_n d11_luck_7 0 rfl rfl ?_
    refine v_iconst d11_luck_8 ki_2 ?_
    refine v_callV1i d11_luck_9 (mc11_no (2 : Int32) t2) yv11_no mlX11_113 (Recv.obj ic_11 rfl) (by decide) (Nat.le_of_ble_eq_true rfl) fun r11 t12 => ?_
    exact v_iretB d11_luck_12 rfl rfl
