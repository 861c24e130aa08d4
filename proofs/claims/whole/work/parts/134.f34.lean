theorem d12_runsSeasons_0 : decode cX12_runsSeasons 0 = .ok (.aload_n 0, 1) := by decide +kernel
theorem d12_runsSeasons_1 : decode cX12_runsSeasons 1 = .ok (.iload_n 1, 1) := by decide +kernel
theorem d12_runsSeasons_2 : decode cX12_runsSeasons 2 = .ok (.putfield 462, 3) := by decide +kernel
theorem d12_runsSeasons_5 : decode cX12_runsSeasons 5 = .ok (.aload_n 0, 1) := by decide +kernel
theorem d12_runsSeasons_6 : decode cX12_runsSeasons 6 = .ok (.iconst 0, 1) := by decide +kernel
theorem d12_runsSeasons_7 : decode cX12_runsSeasons 7 = .ok (.putfield 484, 3) := by decide +kernel
theorem d12_runsSeasons_10 : decode cX12_runsSeasons 10 = .ok (.aload_n 0, 1) := by decide +kernel
theorem d12_runsSeasons_11 : decode cX12_runsSeasons 11 = .ok (.iconst 0, 1) := by decide +kernel
theorem d12_runsSeasons_12 : decode cX12_runsSeasons 12 = .ok (.putfield 494, 3) := by decide +kernel
theorem d12_runsSeasons_15 : decode cX12_runsSeasons 15 = .ok (.aload_n 0, 1) := by decide +kernel
theorem d12_runsSeasons_16 : decode cX12_runsSeasons 16 = .ok (.aload_n 0, 1) := by decide +kernel
theorem d12_runsSeasons_17 : decode cX12_runsSeasons 17 = .ok (.getfield 35, 3) := by decide +kernel
theorem d12_runsSeasons_20 : decode cX12_runsSeasons 20 = .ok (.iconst 4, 1) := by decide +kernel
theorem d12_runsSeasons_21 : decode cX12_runsSeasons 21 = .ok (.iaload, 1) := by decide +kernel
theorem d12_runsSeasons_22 : decode cX12_runsSeasons 22 = .ok (.putfield 509, 3) := by decide +kernel
theorem d12_runsSeasons_25 : decode cX12_runsSeasons 25 = .ok (.aload_n 0, 1) := by decide +kernel
theorem d12_runsSeasons_26 : decode cX12_runsSeasons 26 = .ok (.iconst 0, 1) := by decide +kernel
theorem d12_runsSeasons_27 : decode cX12_runsSeasons 27 = .ok (.putfield 466, 3) := by decide +kernel
theorem d12_runsSeasons_30 : decode cX12_runsSeasons 30 = .ok (.aload_n 0, 1) := by decide +kernel
theorem d12_runsSeasons_31 : decode cX12_runsSeasons 31 = .ok (.iconst 0, 1) := by decide +kernel
theorem d12_runsSeasons_32 : decode cX12_runsSeasons 32 = .ok (.putfield 469, 3) := by decide +kernel
theorem d12_runsSeasons_35 : decode cX12_runsSeasons 35 = .ok (.aload_n 0, 1) := by decide +kernel
theorem d12_runsSeasons_36 : decode cX12_runsSeasons 36 = .ok (.iconst 0, 1) := by decide +kernel
theorem d12_runsSeasons_37 : decode cX12_runsSeasons 37 = .ok (.putfield 491, 3) := by decide +kernel
theorem d12_runsSeasons_40 : decode cX12_runsSeasons 40 = .ok (.aload_n 0, 1) := by decide +kernel
theorem d12_runsSeasons_41 : decode cX12_runsSeasons 41 = .ok (.iconst 0, 1) := by decide +kernel
theorem d12_runsSeasons_42 : decode cX12_runsSeasons 42 = .ok (.putfield 487, 3) := by decide +kernel
theorem d12_runsSeasons_45 : decode cX12_runsSeasons 45 = .ok (.aload_n 0, 1) := by decide +kernel
theorem d12_runsSeasons_46 : decode cX12_runsSeasons 46 = .ok (.iconst 0, 1) := by decide +kernel
theorem d12_runsSeasons_47 : decode cX12_runsSeasons 47 = .ok (.aload_n 0, 1) := by decide +kernel
theorem d12_runsSeasons_48 : decode cX12_runsSeasons 48 = .ok (.getfield 35, 3) := by decide +kernel
theorem d12_runsSeasons_51 : decode cX12_runsSeasons 51 = .ok (.bipush 85, 2) := by decide +kernel
theorem d12_runsSeasons_53 : decode cX12_runsSeasons 53 = .ok (.iaload, 1) := by decide +kernel
theorem d12_runsSeasons_54 : decode cX12_runsSeasons 54 = .ok (.invokevirtual 503, 3) := by decide +kernel
theorem d12_runsSeasons_57 : decode cX12_runsSeasons 57 = .ok (.return_, 1) := by decide +kernel
abbrev K12_runsSeasons : CK Unit := (enV, none, 2, 18, none)
noncomputable def F12_runsSeasons (N : Nat) (p0 : Int32) (σ : Ms) : Option (Unit × Ms) :=
  lt (sI σ 0 39 p0) (fun t1 => lt (sI t1 0 40 (0 : Int32)) (fun t2 => lt (sI t2 0 41 (0 : Int32)) (fun t3 => ck (ixb (4 : Int32) 1780) (lt (sI t3 0 42 (t3.1 5 (4 : Int32).toNatClampNeg)) (fun t4 => lt (sI t4 0 43 (0 : Int32)) (fun t5 => lt (sI t5 0 44 (0 : Int32)) (fun t6 => lt (sI t6 0 45 (0 : Int32)) (fun t7 => ck (nkB (0 : Int32)) (lt (sI t7 0 38 (0 : Int32)) (fun t8 => ck (ixb (85 : Int32) 1780) (bn (F12_doAll N 5 (0 : Int32) (t8.1 5 (85 : Int32).toNatClampNeg) t8) (fun r9 t10 => some ((), t10)))))))))))))
set_option maxRecDepth 100000 in
theorem mc12_runsSeasons (N : Nat) (p0 : Int32) (σ : Ms) : MC enV yX12_runsSeasons cX12_runsSeasons 2 none 18 (F12_runsSeasons N p0 σ) σ [.ref 0, .int p0] := by
  refine MC.v (by decide +kernel) (Nat.le_of_ble_eq_true rfl) ?_
  show VF (K12_runsSeasons) cX12_runsSeasons RX12 (F12_runsSeasons N p0 σ) σ 0 [(0, .ref 0), (1, .int p0)] []
  unfold F12_runsSeasons
  refine v_aload_n d12_runsSeasons_0 0 rfl rfl ?_
  refine v_iload_n d12_runsSeasons_1 1 rfl rfl ?_
  refine v_putI d12_runsSeasons_2 faX12_462 fp9_39 ic_0 ?_
  refine v_lts fun t1 => ?_
  refine v_aload_n d12_runsSeasons_5 0 rfl rfl ?_
  refine v_iconst d12_runsSeasons_6 ki_0 ?_
  refine v_putI d12_runsSeasons_7 faX12_484 fp9_40 ic_0 ?_
  refine v_lts fun t2 => ?_
  refine v_aload_n d12_runsSeasons_10 0 rfl rfl ?_
  refine v_iconst d12_runsSeasons_11 ki_0 ?_
  refine v_putI d12_runsSeasons_12 faX12_494 fp9_41 ic_0 ?_
  refine v_lts fun t3 => ?_
  refine v_aload_n d12_runsSeasons_15 0 rfl rfl ?_
  refine v_aload_n d12_runsSeasons_16 0 rfl rfl ?_
  refine v_getR d12_runsSeasons_17 faX12_35 ic_0 rfl ?_
  refine v_iconst d12_runsSeasons_20 ki_4 ?_
  refine v_iald d12_runsSeasons_21 ic_5 ?_
  refine v_putI d12_runsSeasons_22 faX12_509 fp9_42 ic_0 ?_
  refine v_lts fun t4 => ?_
  refine v_aload_n d12_runsSeasons_25 0 rfl rfl ?_
  refine v_iconst d12_runsSeasons_26 ki_0 ?_
  refine v_putI d12_runsSeasons_27 faX12_466 fp9_43 ic_0 ?_
  refine v_lts fun t5 => ?_
  refine v_aload_n d12_runsSeasons_30 0 rfl rfl ?_
  refine v_iconst d12_runsSeasons_31 ki_0 ?_
  refine v_putI d12_runsSeasons_32 faX12_469 fp9_44 ic_0 ?_
  refine v_lts fun t6 => ?_
  refine v_aload_n d12_runsSeasons_35 0 rfl rfl ?_
  refine v_iconst d12_runsSeasons_36 ki_0 ?_
  refine v_putI d12_runsSeasons_37 faX12_491 fp9_45 ic_0 ?_
  refine v_lts fun t7 => ?_
  refine v_aload_n d12_runsSeasons_40 0 rfl rfl ?_
  refine v_iconst d12_runsSeasons_41 ki_0 ?_
  refine v_putB d12_runsSeasons_42 faX12_487 fp9_38 ic_0 ?_
  refine v_lts fun t8 => ?_
  refine v_aload_n d12_runsSeasons_45 0 rfl rfl ?_
  refine v_iconst d12_runsSeasons_46 ki_0 ?_
  refine v_aload_n d12_runsSeasons_47 0 rfl rfl ?_
  refine v_getR d12_runsSeasons_48 faX12_35 ic_0 rfl ?_
  refine v_bipush d12_runsSeasons_51 kb_85 ?_
  refine v_iald d12_runsSeasons_53 ic_5 ?_
  refine v_callV2v d12_runsSeasons_54 (mc12_doAll N 5 (0 : Int32) (t8.1 5 (85 : Int32).toNatClampNeg) t8) yv12_doAll mlX12_503 (Recv.obj ic_0 rfl) (by decide) (Nat.le_of_ble_eq_true rfl) fun r9 t10 => ?_
  exact v_vret d12_runsSeasons_57 rfl
theorem d12_live_0 : decode cX12_live 0 = .ok (.aload_n 0, 1) := by decide +kernel
theorem d12_live_1 : decode cX12_live 1 = .ok (.iconst 0, 1) := by decide +kernel
theorem d12_live_2 : decode cX12_live 2 = .ok (.putfield 53, 3) := by decide +kernel
theorem d12_live_5 : decode cX12_live 5 = .ok (.aload_n 0, 1) := by decide +kernel
theorem d12_live_6 : decode cX12_live 6 = .ok (.iconst 0, 1) := by decide +kernel
theorem d12_live_7 : decode cX12_live 7 = .ok (.putfield 56, 3) := by decide +kernel
theorem d12_live_10 : decode cX12_live 10 = .ok (.iload_n 1, 1) := by decide +kernel
theorem d12_live_11 : decode cX12_live 11 = .ok (.i2l, 1) := by decide +kernel
theorem d12_live_12 : decode cX12_live 12 = .ok (.lconst 0, 1) := by decide +kernel
theorem d12_live_13 : decode cX12_live 13 = .ok (.ldc2_w 512, 3) := by decide +kernel
theorem d12_live_16 : decode cX12_live 16 = .ok (.invokestatic 88, 3) := by decide +kernel
theorem d12_live_19 : decode cX12_live 19 = .ok (.ifCond .ne 9, 3) := by decide +kernel
theorem d12_live_22 : decode cX12_live 22 = .ok (.aload_n 0, 1) := by decide +kernel
theorem d12_live_23 : decode cX12_live 23 = .ok (.iconst 5, 1) := by decide +kernel
theorem d12_live_24 : decode cX12_live 24 = .ok (.invokevirtual 265, 3) := by decide +kernel
theorem d12_live_27 : decode cX12_live 27 = .ok (.ireturn, 1) := by decide +kernel
theorem d12_live_28 : decode cX12_live 28 = .ok (.aload_n 0, 1) := by decide +kernel
theorem d12_live_29 : decode cX12_live 29 = .ok (.getfield 35, 3) := by decide +kernel
theorem d12_live_32 : decode cX12_live 32 = .ok (.bipush 84, 2) := by decide +kernel
theorem d12_live_34 : decode cX12_live 34 = .ok (.iaload, 1) := by decide +kernel
theorem d12_live_35 : decode cX12_live 35 = .ok (.ifCond .ne 10, 3) := by decide +kernel
theorem d12_live_38 : decode cX12_live 38 = .ok (.aload_n 0, 1) := by decide +kernel
theorem d12_live_39 : decode cX12_live 39 = .ok (.bipush 8, 2) := by decide +kernel
theorem d12_live_41 : decode cX12_live 41 = .ok (.invokevirtual 265, 3) := by decide +kernel
theorem d12_live_44 : decode cX12_live 44 = .ok (.ireturn, 1) := by decide +kernel
theorem d12_live_45 : decode cX12_live 45 = .ok (.aload_n 0, 1) := by decide +kernel
theorem d12_live_46 : decode cX12_live 46 = .ok (.iload_n 1, 1) := by decide +kernel
theorem d12_live_47 : decode cX12_live 47 = .ok (.invokevirtual 514, 3) := by decide +kernel
theorem d12_live_50 : decode cX12_live 50 = .ok (.aload_n 0, 1) := by decide +kernel
theorem d12_live_51 : decode cX12_live 51 = .ok (.getfield 50, 3) := by decide +kernel
theorem d12_live_54 : decode cX12_live 54 = .ok (.iconst 0, 1) := by decide +kernel
theorem d12_live_55 : decode cX12_live 55 = .ok (.aload_n 0, 1) := by decide +kernel
theorem d12_live_56 : decode cX12_live 56 = .ok (.getfield 494, 3) := by decide +kernel
theorem d12_live_59 : decode cX12_live 59 = .ok (.iastore, 1) := by decide +kernel
theorem d12_live_60 : decode cX12_live 60 = .ok (.aload_n 0, 1) := by decide +kernel
theorem d12_live_61 : decode cX12_live 61 = .ok (.getfield 50, 3) := by decide +kernel
theorem d12_live_64 : decode cX12_live 64 = .ok (.iconst 1, 1) := by decide +kernel
theorem d12_live_65 : decode cX12_live 65 = .ok (.aload_n 0, 1) := by decide +kernel
theorem d12_live_66 : decode cX12_live 66 = .ok (.getfield 35, 3) := by decide +kernel
theorem d12_live_69 : decode cX12_live 69 = .ok (.iconst 4, 1) := by decide +kernel
theorem d12_live_70 : decode cX12_live 70 = .ok (.iaload, 1) := by decide +kernel
theorem d12_live_71 : decode cX12_live 71 = .ok (.aload_n 0, 1) := by decide +kernel
theorem d12_live_72 : decode cX12_live 72 = .ok (.getfield 509, 3) := by decide +kernel
theorem d12_live_75 : decode cX12_live 75 = .ok (.isub, 1) := by decide +kernel
theorem d12_live_76 : decode cX12_live 76 = .ok (.iastore, 1) := by decide +kernel
theorem d12_live_77 : decode cX12_live 77 = .ok (.aload_n 0, 1) := by decide +kernel
theorem d12_live_78 : decode cX12_live 78 = .ok (.getfield 50, 3) := by decide +kernel
theorem d12_live_81 : decode cX12_live 81 = .ok (.iconst 2, 1) := by decide +kernel
theorem d12_live_82 : decode cX12_live 82 = .ok (.aload_n 0, 1) := by decide +kernel
theorem d12_live_83 : decode cX12_live 83 = .ok (.getfield 466, 3) := by decide +kernel
theorem d12_live_86 : decode cX12_live 86 = .ok (.iastore, 1) := by decide +kernel
theorem d12_live_87 : decode cX12_live 87 = .ok (.aload_n 0, 1) := by decide +kernel
theorem d12_live_88 : decode cX12_live 88 = .ok (.getfield 50, 3) := by decide +kernel
theorem d12_live_91 : decode cX12_live 91 = .ok (.iconst 3, 1) := by decide +kernel
theorem d12_live_92 : decode cX12_live 92 = .ok (.aload_n 0, 1) := by decide +kernel
theorem d12_live_93 : decode cX12_live 93 = .ok (.getfield 469, 3) := by decide +kernel
theorem d12_live_96 : decode cX12_live 96 = .ok (.iastore, 1) := by decide +kernel
theorem d12_live_97 : decode cX12_live 97 = .ok (.aload_n 0, 1) := by decide +kernel
theorem d12_live_98 : decode cX12_live 98 = .ok (.getfield 50, 3) := by decide +kernel
theorem d12_live_101 : decode cX12_live 101 = .ok (.iconst 4, 1) := by decide +kernel
theorem d12_live_102 : decode cX12_live 102 = .ok (.aload_n 0, 1) := by decide +kernel
theorem d12_live_103 : decode cX12_live 103 = .ok (.getfield 491, 3) := by decide +kernel
theorem d12_live_106 : decode cX12_live 106 = .ok (.iastore, 1) := by decide +kernel
theorem d12_live_107 : decode cX12_live 107 = .ok (.aload_n 0, 1) := by decide +kernel
theorem d12_live_108 : decode cX12_live 108 = .ok (.iconst 1, 1) := by decide +kernel
theorem d12_live_109 : decode cX12_live 109 = .ok (.putfield 517, 3) := by decide +kernel
theorem d12_live_112 : decode cX12_live 112 = .ok (.aload_n 0, 1) := by decide +kernel
theorem d12_live_113 : decode cX12_live 113 = .ok (.getfield 484, 3) := by decide +kernel
theorem d12_live_116 : decode cX12_live 116 = .ok (.ireturn, 1) := by decide +kernel
abbrev K12_live : CK Int32 := (enI, (some .int), 2, 19, none)
noncomputable def F12_live (N : Nat) (p0 : Int32) (σ : Ms) : Option (Int32 × Ms) :=
  lt (sI σ 0 1 (0 : Int32)) (fun t1 => lt (sI t1 0 0 (0 : Int32)) (fun t2 => bn (F12_isIn (p0.toInt64) (0 : Int64) (9999 : Int64) t2) (fun r3 t4 => if r3 ≠ 0 then (ck (ixb (84 : Int32) 1780) (if (t4.1 5 (84 : Int32).toNatClampNeg) ≠ 0 then (bn (F12_runsSeasons N p0 t4) (fun r5 t6 => ck (ixb (0 : Int32) 5) (lt (sI t6 10 (0 : Int32).toNatClampNeg (t6.1 0 41)) (fun t7 => ck (ixb (4 : Int32) 1780) (ck (ixb (1 : Int32) 5) (lt (sI t7 10 (1 : Int32).toNatClampNeg ((t7.1 5 (4 : Int32).toNatClampNeg) - (t7.1 0 42))) (fun t8 => ck (ixb (2 : Int32) 5) (lt (sI t8 10 (2 : Int32).toNatClampNeg (t8.1 0 43)) (fun t9 => ck (ixb (3 : Int32) 5) (lt (sI t9 10 (3 : Int32).toNatClampNeg (t9.1 0 44)) (fun t10 => ck (ixb (4 : Int32) 5) (lt (sI t10 10 (4 : Int32).toNatClampNeg (t10.1 0 45)) (fun t11 => ck (nkB (1 : Int32)) (lt (sI t11 0 37 (1 : Int32)) (fun t12 => some ((t12.1 0 40), t12))))))))))))))))
  else (bn (F12_refuse (8 : Int32) t4) (fun r13 t14 => some (r13, t14)))))
  else (bn (F12_refuse (5 : Int32) t4) (fun r15 t16 => some (r15, t16))))))
set_option maxRecDepth 100000 in
theorem mc12_live (N : Nat) (p0 : Int32) (σ : Ms) : MC enI yX12_live cX12_live 2 (some .int) 19 (F12_live N p0 σ) σ [.ref 0, .int p0] := by
  refine MC.i (by decide +kernel) (Nat.le_of_ble_eq_true rfl) ?_
  show VF (K12_live) cX12_live RX12 (F12_live N p0 σ) σ 0 [(0, .ref 0), (1, .int p0)] []
  unfold F12_live
  refine v_aload_n d12_live_0 0 rfl rfl ?_
  refine v_iconst d12_live_1 ki_0 ?_
  refine v_putI d12_live_2 faX12_53 fp9_1 ic_0 ?_
  refine v_lts fun t1 => ?_
  refine v_aload_n d12_live_5 0 rfl rfl ?_
  refine v_iconst d12_live_6 ki_0 ?_
  refine v_putI d12_live_7 faX12_56 fp9_0 ic_0 ?_
  refine v_lts fun t2 => ?_
  refine v_iload_n d12_live_10 1 rfl rfl ?_
  refine v_i2l d12_live_11 ?_
  refine v_lconst d12_live_12 kl_0 ?_
  refine v_ldc2 d12_live_13 klX12_512 ?_
  refine v_callS3i d12_live_16 (mc12_isIn (p0.toInt64) (0 : Int64) (9999 : Int64) t2) ys12_isIn mlX12_88 (by decide) (Nat.le_of_ble_eq_true rfl) fun r3 t4 => ?_
  refine v_if_ne (tgt := 28) d12_live_19 (by decide) ?_ ?_
  · refine v_aload_n d12_live_28 0 rfl rfl ?_
    refine v_getR d12_live_29 faX12_35 ic_0 rfl ?_
    refine v_bipush d12_live_32 kb_84 ?_
    refine v_iald d12_live_34 ic_5 ?_
    refine v_if_ne (tgt := 45) d12_live_35 (by decide) ?_ ?_
    · refine v_aload_n d12_live_45 0 rfl rfl ?_
      refine v_iload_n d12_live_46 1 rfl rfl ?_
      refine v_callV1v d12_live_47 (mc12_runsSeasons N p0 t4) yv12_runsSeasons mlX12_514 (Recv.obj ic_0 rfl) (by decide) (Nat.le_of_ble_eq_true rfl) fun r5 t6 => ?_
      refine v_aload_n d12_live_50 0 rfl rfl ?_
      refine v_getR d12_live_51 faX12_50 ic_0 rfl ?_
      refine v_iconst d12_live_54 ki_0 ?_
      refine v_aload_n d12_live_55 0 rfl rfl ?_
      refine v_getI d12_live_56 faX12_494 ic_0 ?_
      refine v_iast d12_live_59 ic_10 ?_
      refine v_lts fun t7 => ?_
      refine v_aload_n d12_live_60 0 rfl rfl ?_
      refine v_getR d12_live_61 faX12_50 ic_0 rfl ?_
      refine v_iconst d12_live_64 ki_1 ?_
      refine v_aload_n d12_live_65 0 rfl rfl ?_
      refine v_getR d12_live_66 faX12_35 ic_0 rfl ?_
      refine v_iconst d12_live_69 ki_4 ?_
      refine v_iald d12_live_70 ic_5 ?_
      refine v_aload_n d12_live_71 0 rfl rfl ?_
      refine v_getI d12_live_72 faX12_509 ic_0 ?_
      refine v_isub d12_live_75 ?_
      refine v_iast d12_live_76 ic_10 ?_
      refine v_lts fun t8 => ?_
      refine v_aload_n d12_live_77 0 rfl rfl ?_
      refine v_getR d12_live_78 faX12_50 ic_0 rfl ?_
      refine v_iconst d12_live_81 ki_2 ?_
      refine v_aload_n d12_live_82 0 rfl rfl ?_
      refine v_getI d12_live_83 faX12_466 ic_0 ?_
      refine v_iast d12_live_86 ic_10 ?_
      refine v_lts fun t9 => ?_
      refine v_aload_n d12_live_87 0 rfl rfl ?_
      refine v_getR d12_live_88 faX12_50 ic_0 rfl ?_
      refine v_iconst d12_live_91 ki_3 ?_
      refine v_aload_n d12_live_92 0 rfl rfl ?_
      refine v_getI d12_live_93 faX12_469 ic_0 ?_
      refine v_iast d12_live_96 ic_10 ?_
      refine v_lts fun t10 => ?_
      refine v_aload_n d12_live_97 0 rfl rfl ?_
      refine v_getR d12_live_98 faX12_50 ic_0 rfl ?_
      refine v_iconst d12_live_101 ki_4 ?_
      refine v_aload_n d12_live_102 0 rfl rfl ?_
      refine v_getI d12_live_103 faX12_491 ic_0 ?_
      refine v_iast d12_live_106 ic_10 ?_
      refine v_lts fun t11 => ?_
      refine v_aload_n d12_live_107 0 rfl rfl ?_
      refine v_iconst d12_live_108 ki_1 ?_
      refine v_putB d12_live_109 faX12_517 fp9_37 ic_0 ?_
      refine v_lts fun t12 => ?_
      refine v_aload_n d12_live_112 0 rfl rfl ?_
      refine v_getI d12_live_113 faX12_484 ic_0 ?_
      exact v_iret d12_live_116 rfl rfl rfl
    · refine v_aload_n d12_live_38 0 rfl rfl ?_
      refine v_bipush d12_live_39 kb_8 ?_
      refine v_callV1i d12_live_41 (mc12_refuse (8 : Int32) t4) yv12_refuse mlX12_265 (Recv.obj ic_0 rfl) (by decide) (Nat.le_of_ble_eq_true rfl) fun r13 t14 => ?_
      exact v_iret d12_live_44 rfl rfl rfl
  · refine v_aload_n d12_live_22 0 rfl rfl ?_
    refine v_iconst d12_live_23 ki_5 ?_
    refine v_callV1i d12_live_24 (mc12_refuse (5 : Int32) t4) yv12_refuse mlX12_265 (Recv.obj ic_0 rfl) (by decide) (Nat.le_of_ble_eq_true rfl) fun r15 t16 => ?_
    exact v_iret d12_live_27 rfl rfl rfl
theorem d12_lived_0 : decode cX12_lived 0 = .ok (.aload_n 0, 1) := by decide +kernel
theorem d12_lived_1 : decode cX12_lived 1 = .ok (.iconst 0, 1) := by decide +kernel
theorem d12_lived_2 : decode cX12_lived 2 = .ok (.putfield 53, 3) := by decide +kernel
theorem d12_lived_5 : decode cX12_lived 5 = .ok (.aload_n 0, 1) := by decide +kernel
theorem d12_lived_6 : decode cX12_lived 6 = .ok (.iconst 0, 1) := by decide +kernel
theorem d12_lived_7 : decode cX12_lived 7 = .ok (.putfield 56, 3) := by decide +kernel
theorem d12_lived_10 : decode cX12_lived 10 = .ok (.iload_n 1, 1) := by decide +kernel
theorem d12_lived_11 : decode cX12_lived 11 = .ok (.i2l, 1) := by decide +kernel
theorem d12_lived_12 : decode cX12_lived 12 = .ok (.lconst 0, 1) := by decide +kernel
theorem d12_lived_13 : decode cX12_lived 13 = .ok (.ldc2_w 283, 3) := by decide +kernel
theorem d12_lived_16 : decode cX12_lived 16 = .ok (.invokestatic 88, 3) := by decide +kernel
theorem d12_lived_19 : decode cX12_lived 19 = .ok (.ifCond .ne 9, 3) := by decide +kernel
theorem d12_lived_22 : decode cX12_lived 22 = .ok (.aload_n 0, 1) := by decide +kernel
theorem d12_lived_23 : decode cX12_lived 23 = .ok (.iconst 5, 1) := by decide +kernel
theorem d12_lived_24 : decode cX12_lived 24 = .ok (.invokevirtual 265, 3) := by decide +kernel
theorem d12_lived_27 : decode cX12_lived 27 = .ok (.ireturn, 1) := by decide +kernel
theorem d12_lived_28 : decode cX12_lived 28 = .ok (.aload_n 0, 1) := by decide +kernel
theorem d12_lived_29 : decode cX12_lived 29 = .ok (.getfield 517, 3) := by decide +kernel
theorem d12_lived_32 : decode cX12_lived 32 = .ok (.ifCond .eq 12, 3) := by decide +kernel
theorem d12_lived_35 : decode cX12_lived 35 = .ok (.aload_n 0, 1) := by decide +kernel
theorem d12_lived_36 : decode cX12_lived 36 = .ok (.getfield 50, 3) := by decide +kernel
theorem d12_lived_39 : decode cX12_lived 39 = .ok (.iload_n 1, 1) := by decide +kernel
theorem d12_lived_40 : decode cX12_lived 40 = .ok (.iaload, 1) := by decide +kernel
theorem d12_lived_41 : decode cX12_lived 41 = .ok (.goto 9, 3) := by decide +kernel
theorem d12_lived_44 : decode cX12_lived 44 = .ok (.aload_n 0, 1) := by decide +kernel
theorem d12_lived_45 : decode cX12_lived 45 = .ok (.bipush 8, 2) := by decide +kernel
theorem d12_lived_47 : decode cX12_lived 47 = .ok (.invokevirtual 265, 3) := by decide +kernel
theorem d12_lived_50 : decode cX12_lived 50 = .ok (.ireturn, 1) := by decide +kernel
abbrev K12_lived : CK Int32 := (enI, (some .int), 2, 2, none)
noncomputable def F12_lived (p0 : Int32) (σ : Ms) : Option (Int32 × Ms) :=
  lt (sI σ 0 1 (0 : Int32)) (fun t1 => lt (sI t1 0 0 (0 : Int32)) (fun t2 => bn (F12_isIn (p0.toInt64) (0 : Int64) (4 : Int64) t2) (fun r3 t4 => if r3 ≠ 0 then (if (t4.1 0 37) = 0 then (bn (F12_refuse (8 : Int32) t4) (fun r5 t6 => some (r5, t6)))
  else (ck (ixb p0 5) (some ((t4.1 10 p0.toNatClampNeg), t4))))
  else (bn (F12_refuse (5 : Int32) t4) (fun r7 t8 => some (r7, t8))))))
set_option maxRecDepth 100000 in
theorem mc12_lived (p0 : Int32) (σ : Ms) : MC enI yX12_lived cX12_lived 2 (some .int) 2 (F12_lived p0 σ) σ [.ref 0, .int p0] := by
  refine MC.i (by decide +kernel) (Nat.le_of_ble_eq_true rfl) ?_
  show VF (K12_lived) cX12_lived RX12 (F12_lived p0 σ) σ 0 [(0, .ref 0), (1, .int p0)] []
  unfold F12_lived
  refine v_aload_n d12_lived_0 0 rfl rfl ?_
  refine v_iconst d12_lived_1 ki_0 ?_
  refine v_putI d12_lived_2 faX12_53 fp9_1 ic_0 ?_
  refine v_lts fun t1 => ?_
  refine v_aload_n d12_lived_5 0 rfl rfl ?_
  refine v_iconst d12_lived_6 ki_0 ?_
  refine v_putI d12_lived_7 faX12_56 fp9_0 ic_0 ?_
  refine v_lts fun t2 => ?_
  refine v_iload_n d12_lived_10 1 rfl rfl ?_
  refine v_i2l d12_lived_11 ?_
  refine v_lconst d12_lived_12 kl_0 ?_
  refine v_ldc2 d12_lived_13 klX12_283 ?_
  refine v_callS3i d12_lived_16 (mc12_isIn (p0.toInt64) (0 : Int64) (4 : Int64) t2) ys12_isIn mlX12_88 (by decide) (Nat.le_of_ble_eq_true rfl) fun r3 t4 => ?_
  refine v_if_ne (tgt := 28) d12_lived_19 (by decide) ?_ ?_
  · refine v_aload_n d12_lived_28 0 rfl rfl ?_
    refine v_getI d12_lived_29 faX12_517 ic_0 ?_
    refine v_if_eq (tgt := 44) d12_lived_32 (by decide) ?_ ?_
    · refine v_aload_n d12_lived_44 0 rfl rfl ?_
      refine v_bipush d12_lived_45 kb_8 ?_
      refine v_callV1i d12_lived_47 (mc12_refuse (8 : Int32) t4) yv12_refuse mlX12_265 (Recv.obj ic_0 rfl) (by decide) (Nat.le_of_ble_eq_true rfl) fun r5 t6 => ?_
      exact v_iret d12_lived_50 rfl rfl rfl
    · refine v_aload_n d12_lived_35 0 rfl rfl ?_
      refine v_getR d12_lived_36 faX12_50 ic_0 rfl ?_
      refine v_iload_n d12_lived_39 1 rfl rfl ?_
      refine v_iald d12_lived_40 ic_10 ?_
      refine v_goto (tgt := 50) d12_lived_41 (by decide) ?_
      exact v_iret d12_lived_50 rfl rfl rfl
  · refine v_aload_n d12_lived_22 0 rfl rfl ?_
    refine v_iconst d12_lived_23 ki_5 ?_
    refine v_callV1i d12_lived_24 (mc12_refuse (5 : Int32) t4) yv12_refuse mlX12_265 (Recv.obj ic_0 rfl) (by decide) (Nat.le_of_ble_eq_true rfl) fun r7 t8 => ?_
    exact v_iret d12_lived_27 rfl rfl rfl
theorem d12_mean_0 : decode cX12_mean 0 = .ok (.aload_n 0, 1) := by decide +kernel
theorem d12_mean_1 : decode cX12_mean 1 = .ok (.iconst 0, 1) := by decide +kernel
theorem d12_mean_2 : decode cX12_mean 2 = .ok (.putfield 53, 3) := by decide +kernel
theorem d12_mean_5 : decode cX12_mean 5 = .ok (.aload_n 0, 1) := by decide +kernel
theorem d12_mean_6 : decode cX12_mean 6 = .ok (.iconst 0, 1) := by decide +kernel
theorem d12_mean_7 : decode cX12_mean 7 = .ok (.putfield 56, 3) := by decide +kernel
theorem d12_mean_10 : decode cX12_mean 10 = .ok (.iload_n 2, 1) := by decide +kernel
theorem d12_mean_11 : decode cX12_mean 11 = .ok (.i2l, 1) := by decide +kernel
theorem d12_mean_12 : decode cX12_mean 12 = .ok (.lconst 1, 1) := by decide +kernel
theorem d12_mean_13 : decode cX12_mean 13 = .ok (.ldc2_w 360, 3) := by decide +kernel
theorem d12_mean_16 : decode cX12_mean 16 = .ok (.invokestatic 88, 3) := by decide +kernel
theorem d12_mean_19 : decode cX12_mean 19 = .ok (.ifCond .eq 18, 3) := by decide +kernel
theorem d12_mean_22 : decode cX12_mean 22 = .ok (.iload_n 1, 1) := by decide +kernel
theorem d12_mean_23 : decode cX12_mean 23 = .ok (.i2l, 1) := by decide +kernel
theorem d12_mean_24 : decode cX12_mean 24 = .ok (.lconst 0, 1) := by decide +kernel
theorem d12_mean_25 : decode cX12_mean 25 = .ok (.sipush 10000, 3) := by decide +kernel
theorem d12_mean_28 : decode cX12_mean 28 = .ok (.iload_n 2, 1) := by decide +kernel
theorem d12_mean_29 : decode cX12_mean 29 = .ok (.isub, 1) := by decide +kernel
theorem d12_mean_30 : decode cX12_mean 30 = .ok (.i2l, 1) := by decide +kernel
theorem d12_mean_31 : decode cX12_mean 31 = .ok (.invokestatic 88, 3) := by decide +kernel
theorem d12_mean_34 : decode cX12_mean 34 = .ok (.ifCond .ne 9, 3) := by decide +kernel
theorem d12_mean_37 : decode cX12_mean 37 = .ok (.aload_n 0, 1) := by decide +kernel
theorem d12_mean_38 : decode cX12_mean 38 = .ok (.iconst 5, 1) := by decide +kernel
theorem d12_mean_39 : decode cX12_mean 39 = .ok (.invokevirtual 68, 3) := by decide +kernel
theorem d12_mean_42 : decode cX12_mean 42 = .ok (.ireturn, 1) := by decide +kernel
theorem d12_mean_43 : decode cX12_mean 43 = .ok (.aload_n 0, 1) := by decide +kernel
theorem d12_mean_44 : decode cX12_mean 44 = .ok (.getfield 35, 3) := by decide +kernel
theorem d12_mean_47 : decode cX12_mean 47 = .ok (.bipush 84, 2) := by decide +kernel
theorem d12_mean_49 : decode cX12_mean 49 = .ok (.iaload, 1) := by decide +kernel
theorem d12_mean_50 : decode cX12_mean 50 = .ok (.ifCond .ne 10, 3) := by decide +kernel
theorem d12_mean_53 : decode cX12_mean 53 = .ok (.aload_n 0, 1) := by decide +kernel
theorem d12_mean_54 : decode cX12_mean 54 = .ok (.bipush 8, 2) := by decide +kernel
theorem d12_mean_56 : decode cX12_mean 56 = .ok (.invokevirtual 68, 3) := by decide +kernel
theorem d12_mean_59 : decode cX12_mean 59 = .ok (.ireturn, 1) := by decide +kernel
theorem d12_mean_60 : decode cX12_mean 60 = .ok (.iconst 0, 1) := by decide +kernel
theorem d12_mean_61 : decode cX12_mean 61 = .ok (.istore_n 3, 1) := by decide +kernel
theorem d12_mean_62 : decode cX12_mean 62 = .ok (.iload_n 3, 1) := by decide +kernel
theorem d12_mean_63 : decode cX12_mean 63 = .ok (.bipush 84, 2) := by decide +kernel
theorem d12_mean_65 : decode cX12_mean 65 = .ok (.if_icmp .ge 21, 3) := by decide +kernel
theorem d12_mean_68 : decode cX12_mean 68 = .ok (.aload_n 0, 1) := by decide +kernel
theorem d12_mean_69 : decode cX12_mean 69 = .ok (.getfield 38, 3) := by decide +kernel
theorem d12_mean_72 : decode cX12_mean 72 = .ok (.iload_n 3, 1) := by decide +kernel
theorem d12_mean_73 : decode cX12_mean 73 = .ok (.aload_n 0, 1) := by decide +kernel
theorem d12_mean_74 : decode cX12_mean 74 = .ok (.getfield 35, 3) := by decide +kernel
theorem d12_mean_77 : decode cX12_mean 77 = .ok (.iload_n 3, 1) := by decide +kernel
theorem d12_mean_78 : decode cX12_mean 78 = .ok (.iaload, 1) := by decide +kernel
theorem d12_mean_79 : decode cX12_mean 79 = .ok (.iastore, 1) := by decide +kernel
theorem d12_mean_80 : decode cX12_mean 80 = .ok (.iinc 3 1, 3) := by decide +kernel
theorem d12_mean_83 : decode cX12_mean 83 = .ok (.goto (-21), 3) := by decide +kernel
theorem d12_mean_86 : decode cX12_mean 86 = .ok (.lconst 0, 1) := by decide +kernel
theorem d12_mean_87 : decode cX12_mean 87 = .ok (.lstore_n 3, 1) := by decide +kernel
theorem d12_mean_88 : decode cX12_mean 88 = .ok (.iconst 0, 1) := by decide +kernel
theorem d12_mean_89 : decode cX12_mean 89 = .ok (.istore 5, 2) := by decide +kernel
theorem d12_mean_91 : decode cX12_mean 91 = .ok (.iload 5, 2) := by decide +kernel
theorem d12_mean_93 : decode cX12_mean 93 = .ok (.iload_n 2, 1) := by decide +kernel
theorem d12_mean_94 : decode cX12_mean 94 = .ok (.if_icmp .ge 58, 3) := by decide +kernel
theorem d12_mean_97 : decode cX12_mean 97 = .ok (.aload_n 0, 1) := by decide +kernel
theorem d12_mean_98 : decode cX12_mean 98 = .ok (.iload_n 1, 1) := by decide +kernel
theorem d12_mean_99 : decode cX12_mean 99 = .ok (.iload 5, 2) := by decide +kernel
theorem d12_mean_101 : decode cX12_mean 101 = .ok (.iadd, 1) := by decide +kernel
theorem d12_mean_102 : decode cX12_mean 102 = .ok (.invokevirtual 514, 3) := by decide +kernel
theorem d12_mean_105 : decode cX12_mean 105 = .ok (.aload_n 0, 1) := by decide +kernel
theorem d12_mean_106 : decode cX12_mean 106 = .ok (.invokevirtual 324, 3) := by decide +kernel
theorem d12_mean_109 : decode cX12_mean 109 = .ok (.lload_n 3, 1) := by decide +kernel
theorem d12_mean_110 : decode cX12_mean 110 = .ok (.aload_n 0, 1) := by decide +kernel
theorem d12_mean_111 : decode cX12_mean 111 = .ok (.getfield 312, 3) := by decide +kernel
theorem d12_mean_114 : decode cX12_mean 114 = .ok (.ladd, 1) := by decide +kernel
theorem d12_mean_115 : decode cX12_mean 115 = .ok (.lstore_n 3, 1) := by decide +kernel
theorem d12_mean_116 : decode cX12_mean 116 = .ok (.iconst 0, 1) := by decide +kernel
theorem d12_mean_117 : decode cX12_mean 117 = .ok (.istore 6, 2) := by decide +kernel
theorem d12_mean_119 : decode cX12_mean 119 = .ok (.iload 6, 2) := by decide +kernel
theorem d12_mean_121 : decode cX12_mean 121 = .ok (.bipush 84, 2) := by decide +kernel
theorem d12_mean_123 : decode cX12_mean 123 = .ok (.if_icmp .ge 23, 3) := by decide +kernel
theorem d12_mean_126 : decode cX12_mean 126 = .ok (.aload_n 0, 1) := by decide +kernel
theorem d12_mean_127 : decode cX12_mean 127 = .ok (.getfield 35, 3) := by decide +kernel
theorem d12_mean_130 : decode cX12_mean 130 = .ok (.iload 6, 2) := by decide +kernel
theorem d12_mean_132 : decode cX12_mean 132 = .ok (.aload_n 0, 1) := by decide +kernel
theorem d12_mean_133 : decode cX12_mean 133 = .ok (.getfield 38, 3) := by decide +kernel
theorem d12_mean_136 : decode cX12_mean 136 = .ok (.iload 6, 2) := by decide +kernel
theorem d12_mean_138 : decode cX12_mean 138 = .ok (.iaload, 1) := by decide +kernel
theorem d12_mean_139 : decode cX12_mean 139 = .ok (.iastore, 1) := by decide +kernel
theorem d12_mean_140 : decode cX12_mean 140 = .ok (.iinc 6 1, 3) := by decide +kernel
theorem d12_mean_143 : decode cX12_mean 143 = .ok (.goto (-24), 3) := by decide +kernel
theorem d12_mean_146 : decode cX12_mean 146 = .ok (.iinc 5 1, 3) := by decide +kernel
theorem d12_mean_149 : decode cX12_mean 149 = .ok (.goto (-58), 3) := by decide +kernel
theorem d12_mean_152 : decode cX12_mean 152 = .ok (.aload_n 0, 1) := by decide +kernel
theorem d12_mean_153 : decode cX12_mean 153 = .ok (.lload_n 3, 1) := by decide +kernel
theorem d12_mean_154 : decode cX12_mean 154 = .ok (.iload_n 2, 1) := by decide +kernel
theorem d12_mean_155 : decode cX12_mean 155 = .ok (.i2l, 1) := by decide +kernel
theorem d12_mean_156 : decode cX12_mean 156 = .ok (.ldc2_w 307, 3) := by decide +kernel
theorem d12_mean_159 : decode cX12_mean 159 = .ok (.lmul, 1) := by decide +kernel
theorem d12_mean_160 : decode cX12_mean 160 = .ok (.invokevirtual 327, 3) := by decide +kernel
theorem d12_mean_163 : decode cX12_mean 163 = .ok (.ireturn, 1) := by decide +kernel
abbrev K12_mean : CK Int32 := (enI, (some .boolean), 7, 19, none)
noncomputable def F12_mean_b37 (N : Nat) (σ : Ms) : Option (Int32 × Ms) :=
  bn (F12_no (5 : Int32) σ) (fun r1 t2 => ck (nkB r1) (some (r1, t2)))
noncomputable def F12_mean_b119B (N : Nat) (k91 : Int32 × Int32 × Int64 × Int32 × Ms → Option (Int32 × Ms)) (k119 : Int32 × Int32 × Int64 × Int32 × Int32 × Ms → Option (Int32 × Ms)) (l1 : Int32) (l2 : Int32) (l3 : Int64) (l5 : Int32) (l6 : Int32) (σ : Ms) : Option (Int32 × Ms) :=
  if (84 : Int32) ≤ l6 then (k91 (l1, l2, l3, (l5 + (1 : Int32)), σ))
  else (ck (ixb l6 84) (ck (ixb l6 1780) (lt (sI σ 5 l6.toNatClampNeg (σ.1 6 l6.toNatClampNeg)) (fun t3 => k119 (l1, l2, l3, l5, (l6 + (1 : Int32)), t3)))))
noncomputable def F12_mean_b119 (N : Nat) (k91 : Int32 × Int32 × Int64 × Int32 × Ms → Option (Int32 × Ms)) (l1 : Int32) (l2 : Int32) (l3 : Int64) (l5 : Int32) (l6 : Int32) (σ : Ms) : Option (Int32 × Ms) :=
  fx N (fun k x => F12_mean_b119B N k91 k x.1 x.2.1 x.2.2.1 x.2.2.2.1 x.2.2.2.2.1 x.2.2.2.2.2) (l1, l2, l3, l5, l6, σ)
noncomputable def F12_mean_b91B (N : Nat) (k91 : Int32 × Int32 × Int64 × Int32 × Ms → Option (Int32 × Ms)) (l1 : Int32) (l2 : Int32) (l3 : Int64) (l5 : Int32) (σ : Ms) : Option (Int32 × Ms) :=
  if l2 ≤ l5 then (bn (F12_fraction N l3 ((l2.toInt64) * (1048576 : Int64)) σ) (fun r4 t5 => ck (nkB r4) (some (r4, t5))))
  else (bn (F12_runsSeasons N (l1 + l5) σ) (fun r6 t7 => bn (F12_laysNow N t7) (fun r8 t9 => lt (l3 + (t9.2 0 25)) (fun x10 => F12_mean_b119 N k91 l1 l2 x10 l5 (0 : Int32) t9))))
noncomputable def F12_mean_b91 (N : Nat) (l1 : Int32) (l2 : Int32) (l3 : Int64) (l5 : Int32) (σ : Ms) : Option (Int32 × Ms) :=
  fx N (fun k x => F12_mean_b91B N k x.1 x.2.1 x.2.2.1 x.2.2.2.1 x.2.2.2.2) (l1, l2, l3, l5, σ)
noncomputable def F12_mean_b62B (N : Nat) (k62 : Int32 × Int32 × Int32 × Ms → Option (Int32 × Ms)) (l1 : Int32) (l2 : Int32) (l3 : Int32) (σ : Ms) : Option (Int32 × Ms) :=
  if (84 : Int32) ≤ l3 then (F12_mean_b91 N l1 l2 (0 : Int64) (0 : Int32) σ)
  else (ck (ixb l3 1780) (ck (ixb l3 84) (lt (sI σ 6 l3.toNatClampNeg (σ.1 5 l3.toNatClampNeg)) (fun t11 => k62 (l1, l2, (l3 + (1 : Int32)), t11)))))
noncomputable def F12_mean_b62 (N : Nat) (l1 : Int32) (l2 : Int32) (l3 : Int32) (σ : Ms) : Option (Int32 × Ms) :=
  fx N (fun k x => F12_mean_b62B N k x.1 x.2.1 x.2.2.1 x.2.2.2) (l1, l2, l3, σ)
noncomputable def F12_mean (N : Nat) (p0 : Int32) (p1 : Int32) (σ : Ms) : Option (Int32 × Ms) :=
  lt (sI σ 0 1 (0 : Int32)) (fun t12 => lt (sI t12 0 0 (0 : Int32)) (fun t13 => bn (F12_isIn (p1.toInt64) (1 : Int64) (20 : Int64) t13) (fun r14 t15 => if r14 = 0 then (F12_mean_b37 N t15)
  else (bn (F12_isIn (p0.toInt64) (0 : Int64) (((10000 : Int32) - p1).toInt64) t15) (fun r16 t17 => if r16 ≠ 0 then (ck (ixb (84 : Int32) 1780) (if (t17.1 5 (84 : Int32).toNatClampNeg) ≠ 0 then (F12_mean_b62 N p0 p1 (0 : Int32) t17)
  else (bn (F12_no (8 : Int32) t17) (fun r18 t19 => ck (nkB r18) (some (r18, t19))))))
  else (F12_mean_b37 N t17))))))
set_option maxRecDepth 100000 in
theorem v12_mean_b37 (N : Nat) (σ : Ms) : VF (K12_mean) cX12_mean RX12 (F12_mean_b37 N σ) σ 37 [(0, .ref 0)] [] := by
  unfold F12_mean_b37
  refine v_aload_n d12_mean_37 0 rfl rfl ?_
  refine v_iconst d12_mean_38 ki_5 ?_
  refine v_callV1i d12_mean_39 (mc12_no (5 : Int32) σ) yv12_no mlX12_68 (Recv.obj ic_0 rfl) (by decide) (Nat.le_of_ble_eq_true rfl) fun r1 t2 => ?_
  exact v_iretB d12_mean_42 rfl rfl
set_option maxRecDepth 100000 in
theorem v12_mean_b119B (N : Nat) (k91 : Int32 × Int32 × Int64 × Int32 × Ms → Option (Int32 × Ms)) (hk91 : ∀ (l1 : Int32) (l2 : Int32) (l3 : Int64) (l5 : Int32) (τ : Ms), VF (K12_mean) cX12_mean RX12 (k91 (l1, l2, l3, l5, τ)) τ 91 [(0, .ref 0), (1, .int l1), (2, .int l2), (3, .long l3), (5, .int l5)] []) (k119 : Int32 × Int32 × Int64 × Int32 × Int32 × Ms → Option (Int32 × Ms)) (hk119 : ∀ (l1 : Int32) (l2 : Int32) (l3 : Int64) (l5 : Int32) (l6 : Int32) (τ : Ms), VF (K12_mean) cX12_mean RX12 (k119 (l1, l2, l3, l5, l6, τ)) τ 119 [(0, .ref 0), (1, .int l1), (2, .int l2), (3, .long l3), (5, .int l5), (6, .int l6)] []) (l1 : Int32) (l2 : Int32) (l3 : Int64) (l5 : Int32) (l6 : Int32) (σ : Ms) : VF (K12_mean) cX12_mean RX12 (F12_mean_b119B N k91 k119 l1 l2 l3 l5 l6 σ) σ 119 [(0, .ref 0), (1, .int l1), (2, .int l2), (3, .long l3), (5, .int l5), (6, .int l6)] [] := by
  unfold F12_mean_b119B
  refine v_iload d12_mean_119 5 rfl ?_
  refine v_bipush d12_mean_121 kb_84 ?_
  refine v_icmp_ge (tgt := 146) d12_mean_123 (by decide) ?_ ?_
  · refine v_iinc (lv' := [(5, .int (l5 + (1 : Int32))), (0, .ref 0), (1, .int l1), (2, .int l2), (3, .long l3), (6, .int l6)]) d12_mean_146 4 rfl (by rw [ki_1]) (by decide) rfl ?_
    refine v_goto (tgt := 91) d12_mean_149 (by decide) ?_
    refine v_sub [1, 2, 3, 4, 0] rfl ?_
    exact hk91 l1 l2 l3 (l5 + (1 : Int32)) σ
  · refine v_aload_n d12_mean_126 0 rfl rfl ?_
    refine v_getR d12_mean_127 faX12_35 ic_0 rfl ?_
    refine v_iload d12_mean_130 5 rfl ?_
    refine v_aload_n d12_mean_132 0 rfl rfl ?_
    refine v_getR d12_mean_133 faX12_38 ic_0 rfl ?_
    refine v_iload d12_mean_136 5 rfl ?_
    refine v_iald d12_mean_138 ic_6 ?_
    refine v_iast d12_mean_139 ic_5 ?_
    refine v_lts fun t3 => ?_
    refine v_iinc (lv' := [(6, .int (l6 + (1 : Int32))), (0, .ref 0), (1, .int l1), (2, .int l2), (3, .long l3), (5, .int l5)]) d12_mean_140 5 rfl (by rw [ki_1]) (by decide) rfl ?_
    refine v_goto (tgt := 119) d12_mean_143 (by decide) ?_
    refine v_sub [1, 2, 3, 4, 5, 0] rfl ?_
    exact hk119 l1 l2 l3 l5 (l6 + (1 : Int32)) t3
theorem v12_mean_b119 (N : Nat) (k91 : Int32 × Int32 × Int64 × Int32 × Ms → Option (Int32 × Ms)) (hk91 : ∀ (l1 : Int32) (l2 : Int32) (l3 : Int64) (l5 : Int32) (τ : Ms), VF (K12_mean) cX12_mean RX12 (k91 (l1, l2, l3, l5, τ)) τ 91 [(0, .ref 0), (1, .int l1), (2, .int l2), (3, .long l3), (5, .int l5)] []) (l1 : Int32) (l2 : Int32) (l3 : Int64) (l5 : Int32) (l6 : Int32) (σ : Ms) : VF (K12_mean) cX12_mean RX12 (F12_mean_b119 N k91 l1 l2 l3 l5 l6 σ) σ 119 [(0, .ref 0), (1, .int l1), (2, .int l2), (3, .long l3), (5, .int l5), (6, .int l6)] [] := v_fx (σo := fun x => x.2.2.2.2.2) (lo := fun x => [(0, .ref 0), (1, .int x.1), (2, .int x.2.1), (3, .long x.2.2.1), (5, .int x.2.2.2.1), (6, .int x.2.2.2.2.1)]) (fun k hk x => v12_mean_b119B N k91 hk91 k (fun l1 l2 l3 l5 l6 τ => hk (l1, l2, l3, l5, l6, τ)) x.1 x.2.1 x.2.2.1 x.2.2.2.1 x.2.2.2.2.1 x.2.2.2.2.2) N (l1, l2, l3, l5, l6, σ)
set_option maxRecDepth 100000 in
theorem v12_mean_b91B (N : Nat) (k91 : Int32 × Int32 × Int64 × Int32 × Ms → Option (Int32 × Ms)) (hk91 : ∀ (l1 : Int32) (l2 : Int32) (l3 : Int64) (l5 : Int32) (τ : Ms), VF (K12_mean) cX12_mean RX12 (k91 (l1, l2, l3, l5, τ)) τ 91 [(0, .ref 0), (1, .int l1), (2, .int l2), (3, .long l3), (5, .int l5)] []) (l1 : Int32) (l2 : Int32) (l3 : Int64) (l5 : Int32) (σ : Ms) : VF (K12_mean) cX12_mean RX12 (F12_mean_b91B N k91 l1 l2 l3 l5 σ) σ 91 [(0, .ref 0), (1, .int l1), (2, .int l2), (3, .long l3), (5, .int l5)] [] := by
  unfold F12_mean_b91B
  refine v_iload d12_mean_91 4 rfl ?_
  refine v_iload_n d12_mean_93 2 rfl rfl ?_
  refine v_icmp_ge (tgt := 152) d12_mean_94 (by decide) ?_ ?_
  · refine v_aload_n d12_mean_152 0 rfl rfl ?_
    refine v_lload_n d12_mean_153 3 rfl rfl ?_
    refine v_iload_n d12_mean_154 2 rfl rfl ?_
    refine v_i2l d12_mean_155 ?_
    refine v_ldc2 d12_mean_156 klX12_307 ?_
    refine v_lmul d12_mean_159 ?_
    refine v_callV2i d12_mean_160 (mc12_fraction N l3 ((l2.toInt64) * (1048576 : Int64)) σ) yv12_fraction mlX12_327 (Recv.obj ic_0 rfl) (by decide) (Nat.le_of_ble_eq_true rfl) fun r4 t5 => ?_
    exact v_iretB d12_mean_163 rfl rfl
  · refine v_aload_n d12_mean_97 0 rfl rfl ?_
    refine v_iload_n d12_mean_98 1 rfl rfl ?_
    refine v_iload d12_mean_99 4 rfl ?_
    refine v_iadd d12_mean_101 ?_
    refine v_callV1v d12_mean_102 (mc12_runsSeasons N (l1 + l5) σ) yv12_runsSeasons mlX12_514 (Recv.obj ic_0 rfl) (by decide) (Nat.le_of_ble_eq_true rfl) fun r6 t7 => ?_
    refine v_aload_n d12_mean_105 0 rfl rfl ?_
    refine v_callV0v d12_mean_106 (mc12_laysNow N t7) yv12_laysNow mlX12_324 (Recv.obj ic_0 rfl) (by decide) (Nat.le_of_ble_eq_true rfl) fun r8 t9 => ?_
    refine v_lload_n d12_mean_109 3 rfl rfl ?_
    refine v_aload_n d12_mean_110 0 rfl rfl ?_
    refine v_getL d12_mean_111 faX12_312 ic_0 ?_
    refine v_ladd d12_mean_114 ?_
    refine v_ltl fun x10 => ?_
    refine v_lstore_n (lv' := [(3, .long x10), (0, .ref 0), (1, .int l1), (2, .int l2), (5, .int l5)]) d12_mean_115 rfl (by decide) rfl ?_
    refine v_iconst d12_mean_116 ki_0 ?_
    refine v_istore (lv' := [(6, .int (0 : Int32)), (3, .long x10), (0, .ref 0), (1, .int l1), (2, .int l2), (5, .int l5)]) d12_mean_117 (by decide) rfl ?_
    refine v_sub [2, 3, 4, 1, 5, 0] rfl ?_
    exact v12_mean_b119 N k91 hk91 l1 l2 x10 l5 (0 : Int32) t9
theorem v12_mean_b91 (N : Nat) (l1 : Int32) (l2 : Int32) (l3 : Int64) (l5 : Int32) (σ : Ms) : VF (K12_mean) cX12_mean RX12 (F12_mean_b91 N l1 l2 l3 l5 σ) σ 91 [(0, .ref 0), (1, .int l1), (2, .int l2), (3, .long l3), (5, .int l5)] [] := v_fx (σo := fun x => x.2.2.2.2) (lo := fun x => [(0, .ref 0), (1, .int x.1), (2, .int x.2.1), (3, .long x.2.2.1), (5, .int x.2.2.2.1)]) (fun k hk x => v12_mean_b91B N k (fun l1 l2 l3 l5 τ => hk (l1, l2, l3, l5, τ)) x.1 x.2.1 x.2.2.1 x.2.2.2.1 x.2.2.2.2) N (l1, l2, l3, l5, σ)
set_option maxRecDepth 100000 in
theorem v12_mean_b62B (N : Nat) (k62 : Int32 × Int32 × Int32 × Ms → Option (Int32 × Ms)) (hk62 : ∀ (l1 : Int32) (l2 : Int32) (l3 : Int32) (τ : Ms), VF (K12_mean) cX12_mean RX12 (k62 (l1, l2, l3, τ)) τ 62 [(0, .ref 0), (1, .int l1), (2, .int l2), (3, .int l3)] []) (l1 : Int32) (l2 : Int32) (l3 : Int32) (σ : Ms) : VF (K12_mean) cX12_mean RX12 (F12_mean_b62B N k62 l1 l2 l3 σ) σ 62 [(0, .ref 0), (1, .int l1), (2, .int l2), (3, .int l3)] [] := by
  unfold F12_mean_b62B
  refine v_iload_n d12_mean_62 3 rfl rfl ?_
  refine v_bipush d12_mean_63 kb_84 ?_
  refine v_icmp_ge (tgt := 86) d12_mean_65 (by decide) ?_ ?_
  · refine v_lconst d12_mean_86 kl_0 ?_
    refine v_lstore_n (lv' := [(3, .long (0 : Int64)), (0, .ref 0), (1, .int l1), (2, .int l2)]) d12_mean_87 rfl (by decide) rfl ?_
    refine v_iconst d12_mean_88 ki_0 ?_
    refine v_istore (lv' := [(5, .int (0 : Int32)), (3, .long (0 : Int64)), (0, .ref 0), (1, .int l1), (2, .int l2)]) d12_mean_89 (by decide) rfl ?_
    refine v_sub [2, 3, 4, 1, 0] rfl ?_
    exact v12_mean_b91 N l1 l2 (0 : Int64) (0 : Int32) σ
  · refine v_aload_n d12_mean_68 0 rfl rfl ?_
    refine v_getR d12_mean_69 faX12_38 ic_0 rfl ?_
    refine v_iload_n d12_mean_72 3 rfl rfl ?_
    refine v_aload_n d12_mean_73 0 rfl rfl ?_
    refine v_getR d12_mean_74 faX12_35 ic_0 rfl ?_
    refine v_iload_n d12_mean_77 3 rfl rfl ?_
    refine v_iald d12_mean_78 ic_5 ?_
    refine v_iast d12_mean_79 ic_6 ?_
    refine v_lts fun t11 => ?_
    refine v_iinc (lv' := [(3, .int (l3 + (1 : Int32))), (0, .ref 0), (1, .int l1), (2, .int l2)]) d12_mean_80 3 rfl (by rw [ki_1]) (by decide) rfl ?_
    refine v_goto (tgt := 62) d12_mean_83 (by decide) ?_
    refine v_sub [1, 2, 3, 0] rfl ?_
    exact hk62 l1 l2 (l3 + (1 : Int32)) t11
theorem v12_mean_b62 (N : Nat) (l1 : Int32) (l2 : Int32) (l3 : Int32) (σ : Ms) : VF (K12_mean) cX12_mean RX12 (F12_mean_b62 N l1 l2 l3 σ) σ 62 [(0, .ref 0), (1, .int l1), (2, .int l2), (3, .int l3)] [] := v_fx (σo := fun x => x.2.2.2) (lo := fun x => [(0, .ref 0), (1, .int x.1), (2, .int x.2.1), (3, .int x.2.2.1)]) (fun k hk x => v12_mean_b62B N k (fun l1 l2 l3 τ => hk (l1, l2, l3, τ)) x.1 x.2.1 x.2.2.1 x.2.2.2) N (l1, l2, l3, σ)
set_option maxRecDepth 100000 in
theorem mc12_mean (N : Nat) (p0 : Int32) (p1 : Int32) (σ : Ms) : MC enI yX12_mean cX12_mean 7 (some .boolean) 19 (F12_mean N p0 p1 σ) σ [.ref 0, .int p0, .int p1] := by
  refine MC.i (by decide +kernel) (Nat.le_of_ble_eq_true rfl) ?_
  show VF (K12_mean) cX12_mean RX12 (F12_mean N p0 p1 σ) σ 0 [(0, .ref 0), (1, .int p0), (2, .int p1)] []
  unfold F12_mean
  refine v_aload_n d12_mean_0 0 rfl rfl ?_
  refine v_iconst d12_mean_1 ki_0 ?_
  refine v_putI d12_mean_2 faX12_53 fp9_1 ic_0 ?_
  refine v_lts fun t12 => ?_
  refine v_aload_n d12_mean_5 0 rfl rfl ?_
  refine v_iconst d12_mean_6 ki_0 ?_
  refine v_putI d12_mean_7 faX12_56 fp9_0 ic_0 ?_
  refine v_lts fun t13 => ?_
  refine v_iload_n d12_mean_10 2 rfl rfl ?_
  refine v_i2l d12_mean_11 ?_
  refine v_lconst d12_mean_12 kl_1 ?_
  refine v_ldc2 d12_mean_13 klX12_360 ?_
  refine v_callS3i d12_mean_16 (mc12_isIn (p1.toInt64) (1 : Int64) (20 : Int64) t13) ys12_isIn mlX12_88 (by decide) (Nat.le_of_ble_eq_true rfl) fun r14 t15 => ?_
  refine v_if_eq (tgt := 37) d12_mean_19 (by decide) ?_ ?_
  · refine v_sub [0] rfl ?_
    exact v12_mean_b37 N t15
  · refine v_iload_n d12_mean_22 1 rfl rfl ?_
    refine v_i2l d12_mean_23 ?_
    refine v_lconst d12_mean_24 kl_0 ?_
    refine v_sipush d12_mean_25 ks_10000 ?_
    refine v_iload_n d12_mean_28 2 rfl rfl ?_
    refine v_isub d12_mean_29 ?_
    refine v_i2l d12_mean_30 ?_
    refine v_callS3i d12_mean_31 (mc12_isIn (p0.toInt64) (0 : Int64) (((10000 : Int32) - p1).toInt64) t15) ys12_isIn mlX12_88 (by decide) (Nat.le_of_ble_eq_true rfl) fun r16 t17 => ?_
    refine v_if_ne (tgt := 43) d12_mean_34 (by decide) ?_ ?_
    · refine v_aload_n d12_mean_43 0 rfl rfl ?_
      refine v_getR d12_mean_44 faX12_35 ic_0 rfl ?_
      refine v_bipush d12_mean_47 kb_84 ?_
      refine v_iald d12_mean_49 ic_5 ?_
      refine v_if_ne (tgt := 60) d12_mean_50 (by decide) ?_ ?_
      · refine v_iconst d12_mean_60 ki_0 ?_
        refine v_istore_n (lv' := [(3, .int (0 : Int32)), (0, .ref 0), (1, .int p0), (2, .int p1)]) d12_mean_61 rfl (by decide) rfl ?_
        refine v_sub [1, 2, 3, 0] rfl ?_
        exact v12_mean_b62 N p0 p1 (0 : Int32) t17
      · refine v_aload_n d12_mean_53 0 rfl rfl ?_
        refine v_bipush d12_mean_54 kb_8 ?_
        refine v_callV1i d12_mean_56 (mc12_no (8 : Int32) t17) yv12_no mlX12_68 (Recv.obj ic_0 rfl) (by decide) (Nat.le_of_ble_eq_true rfl) fun r18 t19 => ?_
        exact v_iretB d12_mean_59 rfl rfl
    · refine v_sub [0] rfl ?_
      exact v12_mean_b37 N t17
theorem d12_mark_0 : decode cX12_mark 0 = .ok (.aload_n 0, 1) := by decide +kernel
theorem d12_mark_1 : decode cX12_mark 1 = .ok (.iconst 0, 1) := by decide +kernel
theorem d12_mark_2 : decode cX12_mark 2 = .ok (.putfield 53, 3) := by decide +kernel
theorem d12_mark_5 : decode cX12_mark 5 = .ok (.aload_n 0, 1) := by decide +kernel
theorem d12_mark_6 : decode cX12_mark 6 = .ok (.iconst 0, 1) := by decide +kernel
theorem d12_mark_7 : decode cX12_mark 7 = .ok (.putfield 56, 3) := by decide +kernel
theorem d12_mark_10 : decode cX12_mark 10 = .ok (.aload_n 0, 1) := by decide +kernel
theorem d12_mark_11 : decode cX12_mark 11 = .ok (.getfield 520, 3) := by decide +kernel
theorem d12_mark_14 : decode cX12_mark 14 = .ok (.iconst 3, 1) := by decide +kernel
theorem d12_mark_15 : decode cX12_mark 15 = .ok (.if_icmp .ne 10, 3) := by decide +kernel
theorem d12_mark_18 : decode cX12_mark 18 = .ok (.aload_n 0, 1) := by decide +kernel
theorem d12_mark_19 : decode cX12_mark 19 = .ok (.bipush 7, 2) := by decide +kernel
theorem d12_mark_21 : decode cX12_mark 21 = .ok (.invokevirtual 265, 3) := by decide +kernel
theorem d12_mark_24 : decode cX12_mark 24 = .ok (.ireturn, 1) := by decide +kernel
theorem d12_mark_25 : decode cX12_mark 25 = .ok (.aload_n 0, 1) := by decide +kernel
theorem d12_mark_26 : decode cX12_mark 26 = .ok (.dup, 1) := by decide +kernel
theorem d12_mark_27 : decode cX12_mark 27 = .ok (.getfield 520, 3) := by decide +kernel
theorem d12_mark_30 : decode cX12_mark 30 = .ok (.iconst 1, 1) := by decide +kernel
theorem d12_mark_31 : decode cX12_mark 31 = .ok (.iadd, 1) := by decide +kernel
theorem d12_mark_32 : decode cX12_mark 32 = .ok (.putfield 520, 3) := by decide +kernel
theorem d12_mark_35 : decode cX12_mark 35 = .ok (.aload_n 0, 1) := by decide +kernel
theorem d12_mark_36 : decode cX12_mark 36 = .ok (.iconst 0, 1) := by decide +kernel
theorem d12_mark_37 : decode cX12_mark 37 = .ok (.aload_n 0, 1) := by decide +kernel
theorem d12_mark_38 : decode cX12_mark 38 = .ok (.getfield 520, 3) := by decide +kernel
theorem d12_mark_41 : decode cX12_mark 41 = .ok (.invokevirtual 236, 3) := by decide +kernel
theorem d12_mark_44 : decode cX12_mark 44 = .ok (.aload_n 0, 1) := by decide +kernel
theorem d12_mark_45 : decode cX12_mark 45 = .ok (.getfield 520, 3) := by decide +kernel
theorem d12_mark_48 : decode cX12_mark 48 = .ok (.ireturn, 1) := by decide +kernel
abbrev K12_mark : CK Int32 := (enI, (some .int), 1, 2, none)
noncomputable def F12_mark (N : Nat) (σ : Ms) : Option (Int32 × Ms) :=
  lt (sI σ 0 1 (0 : Int32)) (fun t1 => lt (sI t1 0 0 (0 : Int32)) (fun t2 => if (t2.1 0 21) ≠ (3 : Int32) then (lt (sI t2 0 21 ((t2.1 0 21) + (1 : Int32))) (fun t3 => bn (F12_copy N (0 : Int32) (t3.1 0 21) t3) (fun r4 t5 => some ((t5.1 0 21), t5))))
  else (bn (F12_refuse (7 : Int32) t2) (fun r6 t7 => some (r6, t7)))))
set_option maxRecDepth 100000 in
theorem mc12_mark (N : Nat) (σ : Ms) : MC enI yX12_mark cX12_mark 1 (some .int) 2 (F12_mark N σ) σ [.ref 0] := by
  refine MC.i (by decide +kernel) (Nat.le_of_ble_eq_true rfl) ?_
  show VF (K12_mark) cX12_mark RX12 (F12_mark N σ) σ 0 [(0, .ref 0)] []
  unfold F12_mark
  refine v_aload_n d12_mark_0 0 rfl rfl ?_
  refine v_iconst d12_mark_1 ki_0 ?_
  refine v_putI d12_mark_2 faX12_53 fp9_1 ic_0 ?_
  refine v_lts fun t1 => ?_
  refine v_aload_n d12_mark_5 0 rfl rfl ?_
  refine v_iconst d12_mark_6 ki_0 ?_
  refine v_putI d12_mark_7 faX12_56 fp9_0 ic_0 ?_
  refine v_lts fun t2 => ?_
  refine v_aload_n d12_mark_10 0 rfl rfl ?_
  refine v_getI d12_mark_11 faX12_520 ic_0 ?_
  refine v_iconst d12_mark_14 ki_3 ?_
  refine v_icmp_ne (tgt := 25) d12_mark_15 (by decide) ?_ ?_
  · refine v_aload_n d12_mark_25 0 rfl rfl ?_
    refine v_dup d12_mark_26 rfl ?_
    refine v_getI d12_mark_27 faX12_520 ic_0 ?_
    refine v_iconst d12_mark_30 ki_1 ?_
    refine v_iadd d12_mark_31 ?_
    refine v_putI d12_mark_32 faX12_520 fp9_21 ic_0 ?_
    refine v_lts fun t3 => ?_
    refine v_aload_n d12_mark_35 0 rfl rfl ?_
    refine v_iconst d12_mark_36 ki_0 ?_
    refine v_aload_n d12_mark_37 0 rfl rfl ?_
    refine v_getI d12_mark_38 faX12_520 ic_0 ?_
    refine v_callV2v d12_mark_41 (mc12_copy N (0 : Int32) (t3.1 0 21) t3) yv12_copy mlX12_236 (Recv.obj ic_0 rfl) (by decide) (Nat.le_of_ble_eq_true rfl) fun r4 t5 => ?_
    refine v_aload_n d12_mark_44 0 rfl rfl ?_
    refine v_getI d12_mark_45 faX12_520 ic_0 ?_
    exact v_iret d12_mark_48 rfl rfl rfl
  · refine v_aload_n d12_mark_18 0 rfl rfl ?_
    refine v_bipush d12_mark_19 kb_7 ?_
    refine v_callV1i d12_mark_21 (mc12_refuse (7 : Int32) t2) yv12_refuse mlX12_265 (Recv.obj ic_0 rfl) (by decide) (Nat.le_of_ble_eq_true rfl) fun r6 t7 => ?_
    exact v_iret d12_mark_24 rfl rfl rfl
theorem d12_back_0 : decode cX12_back 0 = .ok (.aload_n 0, 1) := by decide +kernel
theorem d12_back_1 : decode cX12_back 1 = .ok (.iconst 0, 1) := by decide +kernel
theorem d12_back_2 : decode cX12_back 2 = .ok (.putfield 53, 3) := by decide +kernel
theorem d12_back_5 : decode cX12_back 5 = .ok (.aload_n 0, 1) := by decide +kernel
theorem d12_back_6 : decode cX12_back 6 = .ok (.iconst 0, 1) := by decide +kernel
theorem d12_back_7 : decode cX12_back 7 = .ok (.putfield 56, 3) := by decide +kernel
theorem d12_back_10 : decode cX12_back 10 = .ok (.aload_n 0, 1) := by decide +kernel
theorem d12_back_11 : decode cX12_back 11 = .ok (.getfield 520, 3) := by decide +kernel
theorem d12_back_14 : decode cX12_back 14 = .ok (.ifCond .ne 10, 3) := by decide +kernel
theorem d12_back_17 : decode cX12_back 17 = .ok (.aload_n 0, 1) := by decide +kernel
theorem d12_back_18 : decode cX12_back 18 = .ok (.bipush 8, 2) := by decide +kernel
theorem d12_back_20 : decode cX12_back 20 = .ok (.invokevirtual 265, 3) := by decide +kernel
theorem d12_back_23 : decode cX12_back 23 = .ok (.ireturn, 1) := by decide +kernel
theorem d12_back_24 : decode cX12_back 24 = .ok (.aload_n 0, 1) := by decide +kernel
theorem d12_back_25 : decode cX12_back 25 = .ok (.aload_n 0, 1) := by decide +kernel
theorem d12_back_26 : decode cX12_back 26 = .ok (.getfield 520, 3) := by decide +kernel
theorem d12_back_29 : decode cX12_back 29 = .ok (.iconst 0, 1) := by decide +kernel
theorem d12_back_30 : decode cX12_back 30 = .ok (.invokevirtual 236, 3) := by decide +kernel
theorem d12_back_33 : decode cX12_back 33 = .ok (.aload_n 0, 1) := by decide +kernel
theorem d12_back_34 : decode cX12_back 34 = .ok (.dup, 1) := by decide +kernel
theorem d12_back_35 : decode cX12_back 35 = .ok (.getfield 520, 3) := by decide +kernel
theorem d12_back_38 : decode cX12_back 38 = .ok (.iconst 1, 1) := by decide +kernel
theorem d12_back_39 : decode cX12_back 39 = .ok (.isub, 1) := by decide +kernel
theorem d12_back_40 : decode cX12_back 40 = .ok (.putfield 520, 3) := by decide +kernel
theorem d12_back_43 : decode cX12_back 43 = .ok (.aload_n 0, 1) := by decide +kernel
theorem d12_back_44 : decode cX12_back 44 = .ok (.getfield 520, 3) := by decide +kernel
theorem d12_back_47 : decode cX12_back 47 = .ok (.ireturn, 1) := by decide +kernel
abbrev K12_back : CK Int32 := (enI, (some .int), 1, 2, none)
noncomputable def F12_back (N : Nat) (σ : Ms) : Option (Int32 × Ms) :=
  lt (sI σ 0 1 (0 : Int32)) (fun t1 => lt (sI t1 0 0 (0 : Int32)) (fun t2 => if (t2.1 0 21) ≠ 0 then (bn (F12_copy N (t2.1 0 21) (0 : Int32) t2) (fun r3 t4 => lt (sI t4 0 21 ((t4.1 0 21) - (1 : Int32))) (fun t5 => some ((t5.1 0 21), t5))))
  else (bn (F12_refuse (8 : Int32) t2) (fun r6 t7 => some (r6, t7)))))
set_option maxRecDepth 100000 in
theorem mc12_back (N : Nat) (σ : Ms) : MC enI yX12_back cX12_back 1 (some .int) 2 (F12_back N σ) σ [.ref 0] := by
  refine MC.i (by decide +kernel) (Nat.le_of_ble_eq_true rfl) ?_
  show VF (K12_back) cX12_back RX12 (F12_back N σ) σ 0 [(0, .ref 0)] []
  unfold F12_back
  refine v_aload_n d12_back_0 0 rfl rfl ?_
  refine v_iconst d12_back_1 ki_0 ?_
  refine v_putI d12_back_2 faX12_53 fp9_1 ic_0 ?_
  refine v_lts fun t1 => ?_
  refine v_aload_n d12_back_5 0 rfl rfl ?_
  refine v_iconst d12_back_6 ki_0 ?_
  refine v_putI d12_back_7 faX12_56 fp9_0 ic_0 ?_
  refine v_lts fun t2 => ?_
  refine v_aload_n d12_back_10 0 rfl rfl ?_
  refine v_getI d12_back_11 faX12_520 ic_0 ?_
  refine v_if_ne (tgt := 24) d12_back_14 (by decide) ?_ ?_
  · refine v_aload_n d12_back_24 0 rfl rfl ?_
    refine v_aload_n d12_back_25 0 rfl rfl ?_
    refine v_getI d12_back_26 faX12_520 ic_0 ?_
    refine v_iconst d12_back_29 ki_0 ?_
    refine v_callV2v d12_back_30 (mc12_copy N (t2.1 0 21) (0 : Int32) t2) yv12_copy mlX12_236 (Recv.obj ic_0 rfl) (by decide) (Nat.le_of_ble_eq_true rfl) fun r3 t4 => ?_
    refine v_aload_n d12_back_33 0 rfl rfl ?_
    refine v_dup d12_back_34 rfl ?_
    refine v_getI d12_back_35 faX12_520 ic_0 ?_
    refine v_iconst d12_back_38 ki_1 ?_
    refine v_isub d12_back_39 ?_
    refine v_putI d12_back_40 faX12_520 fp9_21 ic_0 ?_
    refine v_lts fun t5 => ?_
    refine v_aload_n d12_back_43 0 rfl rfl ?_
    refine v_getI d12_back_44 faX12_520 ic_0 ?_
    exact v_iret d12_back_47 rfl rfl rfl
  · refine v_aload_n d12_back_17 0 rfl rfl ?_
    refine v_bipush d12_back_18 kb_8 ?_
    refine v_callV1i d12_back_20 (mc12_refuse (8 : Int32) t2) yv12_refuse mlX12_265 (Recv.obj ic_0 rfl) (by decide) (Nat.le_of_ble_eq_true rfl) fun r6 t7 => ?_
    exact v_iret d12_back_23 rfl rfl rfl
