theorem d12_sizeOf_0 : decode cX12_sizeOf 0 = .ok (.iconst 0, 1) := by decide +kernel
theorem d12_sizeOf_1 : decode cX12_sizeOf 1 = .ok (.istore_n 1, 1) := by decide +kernel
theorem d12_sizeOf_2 : decode cX12_sizeOf 2 = .ok (.iconst 0, 1) := by decide +kernel
theorem d12_sizeOf_3 : decode cX12_sizeOf 3 = .ok (.istore_n 2, 1) := by decide +kernel
theorem d12_sizeOf_4 : decode cX12_sizeOf 4 = .ok (.iload_n 2, 1) := by decide +kernel
theorem d12_sizeOf_5 : decode cX12_sizeOf 5 = .ok (.bipush 20, 2) := by decide +kernel
theorem d12_sizeOf_7 : decode cX12_sizeOf 7 = .ok (.if_icmp .ge 25, 3) := by decide +kernel
theorem d12_sizeOf_10 : decode cX12_sizeOf 10 = .ok (.iload_n 1, 1) := by decide +kernel
theorem d12_sizeOf_11 : decode cX12_sizeOf 11 = .ok (.iload_n 0, 1) := by decide +kernel
theorem d12_sizeOf_12 : decode cX12_sizeOf 12 = .ok (.iload_n 2, 1) := by decide +kernel
theorem d12_sizeOf_13 : decode cX12_sizeOf 13 = .ok (.invokestatic 92, 3) := by decide +kernel
theorem d12_sizeOf_16 : decode cX12_sizeOf 16 = .ok (.ifCond .eq 7, 3) := by decide +kernel
theorem d12_sizeOf_19 : decode cX12_sizeOf 19 = .ok (.iconst 1, 1) := by decide +kernel
theorem d12_sizeOf_20 : decode cX12_sizeOf 20 = .ok (.goto 4, 3) := by decide +kernel
theorem d12_sizeOf_23 : decode cX12_sizeOf 23 = .ok (.iconst 0, 1) := by decide +kernel
theorem d12_sizeOf_24 : decode cX12_sizeOf 24 = .ok (.iadd, 1) := by decide +kernel
theorem d12_sizeOf_25 : decode cX12_sizeOf 25 = .ok (.istore_n 1, 1) := by decide +kernel
theorem d12_sizeOf_26 : decode cX12_sizeOf 26 = .ok (.iinc 2 1, 3) := by decide +kernel
theorem d12_sizeOf_29 : decode cX12_sizeOf 29 = .ok (.goto (-25), 3) := by decide +kernel
theorem d12_sizeOf_32 : decode cX12_sizeOf 32 = .ok (.iload_n 1, 1) := by decide +kernel
theorem d12_sizeOf_33 : decode cX12_sizeOf 33 = .ok (.ireturn, 1) := by decide +kernel
abbrev K12_sizeOf : CK Int32 := (enI, (some .int), 3, 2, none)
noncomputable def F12_sizeOf_b24 (N : Nat) (k4 : Int32 × Int32 × Int32 × Ms → Option (Int32 × Ms)) (l0 : Int32) (l2 : Int32) (s0 : Int32) (s1 : Int32) (σ : Ms) : Option (Int32 × Ms) :=
  lt (s0 + s1) (fun x1 => k4 (l0, x1, (l2 + (1 : Int32)), σ))
noncomputable def F12_sizeOf_b4B (N : Nat) (k4 : Int32 × Int32 × Int32 × Ms → Option (Int32 × Ms)) (l0 : Int32) (l1 : Int32) (l2 : Int32) (σ : Ms) : Option (Int32 × Ms) :=
  if (20 : Int32) ≤ l2 then (some (l1, σ))
  else (bn (F12_has l0 l2 σ) (fun r2 t3 => if r2 = 0 then (F12_sizeOf_b24 N k4 l0 l2 l1 (0 : Int32) t3)
  else (F12_sizeOf_b24 N k4 l0 l2 l1 (1 : Int32) t3)))
noncomputable def F12_sizeOf_b4 (N : Nat) (l0 : Int32) (l1 : Int32) (l2 : Int32) (σ : Ms) : Option (Int32 × Ms) :=
  fx N (fun k x => F12_sizeOf_b4B N k x.1 x.2.1 x.2.2.1 x.2.2.2) (l0, l1, l2, σ)
noncomputable def F12_sizeOf (N : Nat) (p0 : Int32) (σ : Ms) : Option (Int32 × Ms) :=
  F12_sizeOf_b4 N p0 (0 : Int32) (0 : Int32) σ
set_option maxRecDepth 100000 in
theorem v12_sizeOf_b24 (N : Nat) (k4 : Int32 × Int32 × Int32 × Ms → Option (Int32 × Ms)) (hk4 : ∀ (l0 : Int32) (l1 : Int32) (l2 : Int32) (τ : Ms), VF (K12_sizeOf) cX12_sizeOf RX12 (k4 (l0, l1, l2, τ)) τ 4 [(0, .int l0), (1, .int l1), (2, .int l2)] []) (l0 : Int32) (l2 : Int32) (s0 : Int32) (s1 : Int32) (σ : Ms) : VF (K12_sizeOf) cX12_sizeOf RX12 (F12_sizeOf_b24 N k4 l0 l2 s0 s1 σ) σ 24 [(0, .int l0), (2, .int l2)] [.int s1, .int s0] := by
  unfold F12_sizeOf_b24
  refine v_iadd d12_sizeOf_24 ?_
  refine v_lti fun x1 => ?_
  refine v_istore_n (lv' := [(1, .int x1), (0, .int l0), (2, .int l2)]) d12_sizeOf_25 rfl (by decide) rfl ?_
  refine v_iinc (lv' := [(2, .int (l2 + (1 : Int32))), (1, .int x1), (0, .int l0)]) d12_sizeOf_26 2 rfl (by rw [ki_1]) (by decide) rfl ?_
  refine v_goto (tgt := 4) d12_sizeOf_29 (by decide) ?_
  refine v_sub [2, 1, 0] rfl ?_
  exact hk4 l0 x1 (l2 + (1 : Int32)) σ
set_option maxRecDepth 100000 in
theorem v12_sizeOf_b4B (N : Nat) (k4 : Int32 × Int32 × Int32 × Ms → Option (Int32 × Ms)) (hk4 : ∀ (l0 : Int32) (l1 : Int32) (l2 : Int32) (τ : Ms), VF (K12_sizeOf) cX12_sizeOf RX12 (k4 (l0, l1, l2, τ)) τ 4 [(0, .int l0), (1, .int l1), (2, .int l2)] []) (l0 : Int32) (l1 : Int32) (l2 : Int32) (σ : Ms) : VF (K12_sizeOf) cX12_sizeOf RX12 (F12_sizeOf_b4B N k4 l0 l1 l2 σ) σ 4 [(0, .int l0), (1, .int l1), (2, .int l2)] [] := by
  unfold F12_sizeOf_b4B
  refine v_iload_n d12_sizeOf_4 2 rfl rfl ?_
  refine v_bipush d12_sizeOf_5 kb_20 ?_
  refine v_icmp_ge (tgt := 32) d12_sizeOf_7 (by decide) ?_ ?_
  · refine v_iload_n d12_sizeOf_32 1 rfl rfl ?_
    exact v_iret d12_sizeOf_33 rfl rfl rfl
  · refine v_iload_n d12_sizeOf_10 1 rfl rfl ?_
    refine v_iload_n d12_sizeOf_11 0 rfl rfl ?_
    refine v_iload_n d12_sizeOf_12 2 rfl rfl ?_
    refine v_callS2i d12_sizeOf_13 (mc12_has l0 l2 σ) ys12_has mlX12_92 (by decide) (Nat.le_of_ble_eq_true rfl) fun r2 t3 => ?_
    refine v_if_eq (tgt := 23) d12_sizeOf_16 (by decide) ?_ ?_
    · refine v_iconst d12_sizeOf_23 ki_0 ?_
      refine v_sub [0, 2] rfl ?_
      exact v12_sizeOf_b24 N k4 hk4 l0 l2 l1 (0 : Int32) t3
    · refine v_iconst d12_sizeOf_19 ki_1 ?_
      refine v_goto (tgt := 24) d12_sizeOf_20 (by decide) ?_
      refine v_sub [0, 2] rfl ?_
      exact v12_sizeOf_b24 N k4 hk4 l0 l2 l1 (1 : Int32) t3
theorem v12_sizeOf_b4 (N : Nat) (l0 : Int32) (l1 : Int32) (l2 : Int32) (σ : Ms) : VF (K12_sizeOf) cX12_sizeOf RX12 (F12_sizeOf_b4 N l0 l1 l2 σ) σ 4 [(0, .int l0), (1, .int l1), (2, .int l2)] [] := v_fx (σo := fun x => x.2.2.2) (lo := fun x => [(0, .int x.1), (1, .int x.2.1), (2, .int x.2.2.1)]) (fun k hk x => v12_sizeOf_b4B N k (fun l0 l1 l2 τ => hk (l0, l1, l2, τ)) x.1 x.2.1 x.2.2.1 x.2.2.2) N (l0, l1, l2, σ)
set_option maxRecDepth 100000 in
theorem mc12_sizeOf (N : Nat) (p0 : Int32) (σ : Ms) : MC enI yX12_sizeOf cX12_sizeOf 3 (some .int) 2 (F12_sizeOf N p0 σ) σ [.int p0] := by
  refine MC.i (by decide +kernel) (Nat.le_of_ble_eq_true rfl) ?_
  show VF (K12_sizeOf) cX12_sizeOf RX12 (F12_sizeOf N p0 σ) σ 0 [(0, .int p0)] []
  unfold F12_sizeOf
  refine v_iconst d12_sizeOf_0 ki_0 ?_
  refine v_istore_n (lv' := [(1, .int (0 : Int32)), (0, .int p0)]) d12_sizeOf_1 rfl (by decide) rfl ?_
  refine v_iconst d12_sizeOf_2 ki_0 ?_
  refine v_istore_n (lv' := [(2, .int (0 : Int32)), (1, .int (0 : Int32)), (0, .int p0)]) d12_sizeOf_3 rfl (by decide) rfl ?_
  refine v_sub [2, 1, 0] rfl ?_
  exact v12_sizeOf_b4 N p0 (0 : Int32) (0 : Int32) σ
theorem d12_look2_0 : decode cX12_look2 0 = .ok (.iload_n 1, 1) := by decide +kernel
theorem d12_look2_1 : decode cX12_look2 1 = .ok (.aload_n 0, 1) := by decide +kernel
theorem d12_look2_2 : decode cX12_look2 2 = .ok (.getfield 96, 3) := by decide +kernel
theorem d12_look2_5 : decode cX12_look2 5 = .ok (.if_icmp .ge 16, 3) := by decide +kernel
theorem d12_look2_8 : decode cX12_look2 8 = .ok (.aload_n 0, 1) := by decide +kernel
theorem d12_look2_9 : decode cX12_look2 9 = .ok (.getfield 24, 3) := by decide +kernel
theorem d12_look2_12 : decode cX12_look2 12 = .ok (.iload_n 1, 1) := by decide +kernel
theorem d12_look2_13 : decode cX12_look2 13 = .ok (.baload, 1) := by decide +kernel
theorem d12_look2_14 : decode cX12_look2 14 = .ok (.sipush 255, 3) := by decide +kernel
theorem d12_look2_17 : decode cX12_look2 17 = .ok (.iand, 1) := by decide +kernel
theorem d12_look2_18 : decode cX12_look2 18 = .ok (.goto 4, 3) := by decide +kernel
theorem d12_look2_21 : decode cX12_look2 21 = .ok (.iconst 0, 1) := by decide +kernel
theorem d12_look2_22 : decode cX12_look2 22 = .ok (.ireturn, 1) := by decide +kernel
abbrev K12_look2 : CK Int32 := (enI, (some .int), 2, 1, none)
noncomputable def F12_look2 (p0 : Int32) (σ : Ms) : Option (Int32 × Ms) :=
  if (σ.1 0 9) ≤ p0 then (some ((0 : Int32), σ))
  else (ck (ixb p0 900) (some (((σ.1 4 p0.toNatClampNeg) &&& (255 : Int32)), σ)))
set_option maxRecDepth 100000 in
theorem mc12_look2 (p0 : Int32) (σ : Ms) : MC enI yX12_look2 cX12_look2 2 (some .int) 1 (F12_look2 p0 σ) σ [.ref 0, .int p0] := by
  refine MC.i (by decide +kernel) (Nat.le_of_ble_eq_true rfl) ?_
  show VF (K12_look2) cX12_look2 RX12 (F12_look2 p0 σ) σ 0 [(0, .ref 0), (1, .int p0)] []
  unfold F12_look2
  refine v_iload_n d12_look2_0 1 rfl rfl ?_
  refine v_aload_n d12_look2_1 0 rfl rfl ?_
  refine v_getI d12_look2_2 faX12_96 ic_0 ?_
  refine v_icmp_ge (tgt := 21) d12_look2_5 (by decide) ?_ ?_
  · refine v_iconst d12_look2_21 ki_0 ?_
    exact v_iret d12_look2_22 rfl rfl rfl
  · refine v_aload_n d12_look2_8 0 rfl rfl ?_
    refine v_getR d12_look2_9 faX12_24 ic_0 rfl ?_
    refine v_iload_n d12_look2_12 1 rfl rfl ?_
    refine v_bald d12_look2_13 ic_4 ?_
    refine v_sipush d12_look2_14 ks_255 ?_
    refine v_iand d12_look2_17 ?_
    refine v_goto (tgt := 22) d12_look2_18 (by decide) ?_
    exact v_iret d12_look2_22 rfl rfl rfl
theorem d12_isLetter_0 : decode cX12_isLetter 0 = .ok (.iload_n 0, 1) := by decide +kernel
theorem d12_isLetter_1 : decode cX12_isLetter 1 = .ok (.bipush 97, 2) := by decide +kernel
theorem d12_isLetter_3 : decode cX12_isLetter 3 = .ok (.if_icmp .lt 13, 3) := by decide +kernel
theorem d12_isLetter_6 : decode cX12_isLetter 6 = .ok (.iload_n 0, 1) := by decide +kernel
theorem d12_isLetter_7 : decode cX12_isLetter 7 = .ok (.bipush 122, 2) := by decide +kernel
theorem d12_isLetter_9 : decode cX12_isLetter 9 = .ok (.if_icmp .gt 7, 3) := by decide +kernel
theorem d12_isLetter_12 : decode cX12_isLetter 12 = .ok (.iconst 1, 1) := by decide +kernel
theorem d12_isLetter_13 : decode cX12_isLetter 13 = .ok (.goto 4, 3) := by decide +kernel
theorem d12_isLetter_16 : decode cX12_isLetter 16 = .ok (.iconst 0, 1) := by decide +kernel
theorem d12_isLetter_17 : decode cX12_isLetter 17 = .ok (.ireturn, 1) := by decide +kernel
abbrev K12_isLetter : CK Int32 := (enI, (some .boolean), 1, 1, none)
noncomputable def F12_isLetter (p0 : Int32) (σ : Ms) : Option (Int32 × Ms) :=
  if p0 < (97 : Int32) then (some ((0 : Int32), σ))
  else (if (122 : Int32) < p0 then (some ((0 : Int32), σ))
  else (some ((1 : Int32), σ)))
set_option maxRecDepth 100000 in
theorem mc12_isLetter (p0 : Int32) (σ : Ms) : MC enI yX12_isLetter cX12_isLetter 1 (some .boolean) 1 (F12_isLetter p0 σ) σ [.int p0] := by
  refine MC.i (by decide +kernel) (Nat.le_of_ble_eq_true rfl) ?_
  show VF (K12_isLetter) cX12_isLetter RX12 (F12_isLetter p0 σ) σ 0 [(0, .int p0)] []
  unfold F12_isLetter
  refine v_iload_n d12_isLetter_0 0 rfl rfl ?_
  refine v_bipush d12_isLetter_1 kb_97 ?_
  refine v_icmp_lt (tgt := 16) d12_isLetter_3 (by decide) ?_ ?_
  · refine v_iconst d12_isLetter_16 ki_0 ?_
    exact v_iret (ty := .boolean) d12_isLetter_17 rfl rfl rfl
  · refine v_iload_n d12_isLetter_6 0 rfl rfl ?_
    refine v_bipush d12_isLetter_7 kb_122 ?_
    refine v_icmp_gt (tgt := 16) d12_isLetter_9 (by decide) ?_ ?_
    · refine v_iconst d12_isLetter_16 ki_0 ?_
      exact v_iret (ty := .boolean) d12_isLetter_17 rfl rfl rfl
    · refine v_iconst d12_isLetter_12 ki_1 ?_
      refine v_goto (tgt := 17) d12_isLetter_13 (by decide) ?_
      exact v_iret (ty := .boolean) d12_isLetter_17 rfl rfl rfl
theorem d12_isDigit_0 : decode cX12_isDigit 0 = .ok (.iload_n 0, 1) := by decide +kernel
theorem d12_isDigit_1 : decode cX12_isDigit 1 = .ok (.bipush 48, 2) := by decide +kernel
theorem d12_isDigit_3 : decode cX12_isDigit 3 = .ok (.if_icmp .lt 13, 3) := by decide +kernel
theorem d12_isDigit_6 : decode cX12_isDigit 6 = .ok (.iload_n 0, 1) := by decide +kernel
theorem d12_isDigit_7 : decode cX12_isDigit 7 = .ok (.bipush 57, 2) := by decide +kernel
theorem d12_isDigit_9 : decode cX12_isDigit 9 = .ok (.if_icmp .gt 7, 3) := by decide +kernel
theorem d12_isDigit_12 : decode cX12_isDigit 12 = .ok (.iconst 1, 1) := by decide +kernel
theorem d12_isDigit_13 : decode cX12_isDigit 13 = .ok (.goto 4, 3) := by decide +kernel
theorem d12_isDigit_16 : decode cX12_isDigit 16 = .ok (.iconst 0, 1) := by decide +kernel
theorem d12_isDigit_17 : decode cX12_isDigit 17 = .ok (.ireturn, 1) := by decide +kernel
abbrev K12_isDigit : CK Int32 := (enI, (some .boolean), 1, 1, none)
noncomputable def F12_isDigit (p0 : Int32) (σ : Ms) : Option (Int32 × Ms) :=
  if p0 < (48 : Int32) then (some ((0 : Int32), σ))
  else (if (57 : Int32) < p0 then (some ((0 : Int32), σ))
  else (some ((1 : Int32), σ)))
set_option maxRecDepth 100000 in
theorem mc12_isDigit (p0 : Int32) (σ : Ms) : MC enI yX12_isDigit cX12_isDigit 1 (some .boolean) 1 (F12_isDigit p0 σ) σ [.int p0] := by
  refine MC.i (by decide +kernel) (Nat.le_of_ble_eq_true rfl) ?_
  show VF (K12_isDigit) cX12_isDigit RX12 (F12_isDigit p0 σ) σ 0 [(0, .int p0)] []
  unfold F12_isDigit
  refine v_iload_n d12_isDigit_0 0 rfl rfl ?_
  refine v_bipush d12_isDigit_1 kb_48 ?_
  refine v_icmp_lt (tgt := 16) d12_isDigit_3 (by decide) ?_ ?_
  · refine v_iconst d12_isDigit_16 ki_0 ?_
    exact v_iret (ty := .boolean) d12_isDigit_17 rfl rfl rfl
  · refine v_iload_n d12_isDigit_6 0 rfl rfl ?_
    refine v_bipush d12_isDigit_7 kb_57 ?_
    refine v_icmp_gt (tgt := 16) d12_isDigit_9 (by decide) ?_ ?_
    · refine v_iconst d12_isDigit_16 ki_0 ?_
      exact v_iret (ty := .boolean) d12_isDigit_17 rfl rfl rfl
    · refine v_iconst d12_isDigit_12 ki_1 ?_
      refine v_goto (tgt := 17) d12_isDigit_13 (by decide) ?_
      exact v_iret (ty := .boolean) d12_isDigit_17 rfl rfl rfl
theorem d12_isSignByte_0 : decode cX12_isSignByte 0 = .ok (.iload_n 1, 1) := by decide +kernel
theorem d12_isSignByte_1 : decode cX12_isSignByte 1 = .ok (.bipush 59, 2) := by decide +kernel
theorem d12_isSignByte_3 : decode cX12_isSignByte 3 = .ok (.if_icmp .eq 21, 3) := by decide +kernel
theorem d12_isSignByte_6 : decode cX12_isSignByte 6 = .ok (.iload_n 1, 1) := by decide +kernel
theorem d12_isSignByte_7 : decode cX12_isSignByte 7 = .ok (.bipush 60, 2) := by decide +kernel
theorem d12_isSignByte_9 : decode cX12_isSignByte 9 = .ok (.if_icmp .eq 15, 3) := by decide +kernel
theorem d12_isSignByte_12 : decode cX12_isSignByte 12 = .ok (.iload_n 1, 1) := by decide +kernel
theorem d12_isSignByte_13 : decode cX12_isSignByte 13 = .ok (.bipush 62, 2) := by decide +kernel
theorem d12_isSignByte_15 : decode cX12_isSignByte 15 = .ok (.if_icmp .eq 9, 3) := by decide +kernel
theorem d12_isSignByte_18 : decode cX12_isSignByte 18 = .ok (.iload_n 1, 1) := by decide +kernel
theorem d12_isSignByte_19 : decode cX12_isSignByte 19 = .ok (.bipush 61, 2) := by decide +kernel
theorem d12_isSignByte_21 : decode cX12_isSignByte 21 = .ok (.if_icmp .ne 7, 3) := by decide +kernel
theorem d12_isSignByte_24 : decode cX12_isSignByte 24 = .ok (.iconst 1, 1) := by decide +kernel
theorem d12_isSignByte_25 : decode cX12_isSignByte 25 = .ok (.goto 4, 3) := by decide +kernel
theorem d12_isSignByte_28 : decode cX12_isSignByte 28 = .ok (.iconst 0, 1) := by decide +kernel
theorem d12_isSignByte_29 : decode cX12_isSignByte 29 = .ok (.ireturn, 1) := by decide +kernel
abbrev K12_isSignByte : CK Int32 := (enI, (some .boolean), 2, 1, none)
noncomputable def F12_isSignByte_b24 (σ : Ms) : Option (Int32 × Ms) :=
  some ((1 : Int32), σ)
noncomputable def F12_isSignByte (p0 : Int32) (σ : Ms) : Option (Int32 × Ms) :=
  if p0 = (59 : Int32) then (F12_isSignByte_b24 σ)
  else (if p0 = (60 : Int32) then (F12_isSignByte_b24 σ)
  else (if p0 = (62 : Int32) then (F12_isSignByte_b24 σ)
  else (if p0 ≠ (61 : Int32) then (some ((0 : Int32), σ))
  else (F12_isSignByte_b24 σ))))
set_option maxRecDepth 100000 in
theorem v12_isSignByte_b24 (σ : Ms) : VF (K12_isSignByte) cX12_isSignByte RX12 (F12_isSignByte_b24 σ) σ 24 [] [] := by
  unfold F12_isSignByte_b24
  refine v_iconst d12_isSignByte_24 ki_1 ?_
  refine v_goto (tgt := 29) d12_isSignByte_25 (by decide) ?_
  exact v_iret (ty := .boolean) d12_isSignByte_29 rfl rfl rfl
set_option maxRecDepth 100000 in
theorem mc12_isSignByte (p0 : Int32) (σ : Ms) : MC enI yX12_isSignByte cX12_isSignByte 2 (some .boolean) 1 (F12_isSignByte p0 σ) σ [.ref 0, .int p0] := by
  refine MC.i (by decide +kernel) (Nat.le_of_ble_eq_true rfl) ?_
  show VF (K12_isSignByte) cX12_isSignByte RX12 (F12_isSignByte p0 σ) σ 0 [(0, .ref 0), (1, .int p0)] []
  unfold F12_isSignByte
  refine v_iload_n d12_isSignByte_0 1 rfl rfl ?_
  refine v_bipush d12_isSignByte_1 kb_59 ?_
  refine v_icmp_eq (tgt := 24) d12_isSignByte_3 (by decide) ?_ ?_
  · refine v_sub [] rfl ?_
    exact v12_isSignByte_b24 σ
  · refine v_iload_n d12_isSignByte_6 1 rfl rfl ?_
    refine v_bipush d12_isSignByte_7 kb_60 ?_
    refine v_icmp_eq (tgt := 24) d12_isSignByte_9 (by decide) ?_ ?_
    · refine v_sub [] rfl ?_
      exact v12_isSignByte_b24 σ
    · refine v_iload_n d12_isSignByte_12 1 rfl rfl ?_
      refine v_bipush d12_isSignByte_13 kb_62 ?_
      refine v_icmp_eq (tgt := 24) d12_isSignByte_15 (by decide) ?_ ?_
      · refine v_sub [] rfl ?_
        exact v12_isSignByte_b24 σ
      · refine v_iload_n d12_isSignByte_18 1 rfl rfl ?_
        refine v_bipush d12_isSignByte_19 kb_61 ?_
        refine v_icmp_ne (tgt := 28) d12_isSignByte_21 (by decide) ?_ ?_
        · refine v_iconst d12_isSignByte_28 ki_0 ?_
          exact v_iret (ty := .boolean) d12_isSignByte_29 rfl rfl rfl
        · refine v_sub [] rfl ?_
          exact v12_isSignByte_b24 σ
theorem d12_advance_0 : decode cX12_advance 0 = .ok (.aload_n 0, 1) := by decide +kernel
theorem d12_advance_1 : decode cX12_advance 1 = .ok (.aload_n 0, 1) := by decide +kernel
theorem d12_advance_2 : decode cX12_advance 2 = .ok (.getfield 99, 3) := by decide +kernel
theorem d12_advance_5 : decode cX12_advance 5 = .ok (.putfield 102, 3) := by decide +kernel
theorem d12_advance_8 : decode cX12_advance 8 = .ok (.aload_n 0, 1) := by decide +kernel
theorem d12_advance_9 : decode cX12_advance 9 = .ok (.getfield 102, 3) := by decide +kernel
theorem d12_advance_12 : decode cX12_advance 12 = .ok (.aload_n 0, 1) := by decide +kernel
theorem d12_advance_13 : decode cX12_advance 13 = .ok (.getfield 96, 3) := by decide +kernel
theorem d12_advance_16 : decode cX12_advance 16 = .ok (.if_icmp .ge 42, 3) := by decide +kernel
theorem d12_advance_19 : decode cX12_advance 19 = .ok (.aload_n 0, 1) := by decide +kernel
theorem d12_advance_20 : decode cX12_advance 20 = .ok (.aload_n 0, 1) := by decide +kernel
theorem d12_advance_21 : decode cX12_advance 21 = .ok (.getfield 102, 3) := by decide +kernel
theorem d12_advance_24 : decode cX12_advance 24 = .ok (.invokevirtual 105, 3) := by decide +kernel
theorem d12_advance_27 : decode cX12_advance 27 = .ok (.bipush 10, 2) := by decide +kernel
theorem d12_advance_29 : decode cX12_advance 29 = .ok (.if_icmp .eq 16, 3) := by decide +kernel
theorem d12_advance_32 : decode cX12_advance 32 = .ok (.aload_n 0, 1) := by decide +kernel
theorem d12_advance_33 : decode cX12_advance 33 = .ok (.aload_n 0, 1) := by decide +kernel
theorem d12_advance_34 : decode cX12_advance 34 = .ok (.getfield 102, 3) := by decide +kernel
theorem d12_advance_37 : decode cX12_advance 37 = .ok (.invokevirtual 105, 3) := by decide +kernel
theorem d12_advance_40 : decode cX12_advance 40 = .ok (.bipush 32, 2) := by decide +kernel
theorem d12_advance_42 : decode cX12_advance 42 = .ok (.if_icmp .ne 16, 3) := by decide +kernel
theorem d12_advance_45 : decode cX12_advance 45 = .ok (.aload_n 0, 1) := by decide +kernel
theorem d12_advance_46 : decode cX12_advance 46 = .ok (.dup, 1) := by decide +kernel
theorem d12_advance_47 : decode cX12_advance 47 = .ok (.getfield 102, 3) := by decide +kernel
theorem d12_advance_50 : decode cX12_advance 50 = .ok (.iconst 1, 1) := by decide +kernel
theorem d12_advance_51 : decode cX12_advance 51 = .ok (.iadd, 1) := by decide +kernel
theorem d12_advance_52 : decode cX12_advance 52 = .ok (.putfield 102, 3) := by decide +kernel
theorem d12_advance_55 : decode cX12_advance 55 = .ok (.goto (-47), 3) := by decide +kernel
theorem d12_advance_58 : decode cX12_advance 58 = .ok (.aload_n 0, 1) := by decide +kernel
theorem d12_advance_59 : decode cX12_advance 59 = .ok (.aload_n 0, 1) := by decide +kernel
theorem d12_advance_60 : decode cX12_advance 60 = .ok (.getfield 102, 3) := by decide +kernel
theorem d12_advance_63 : decode cX12_advance 63 = .ok (.putfield 99, 3) := by decide +kernel
theorem d12_advance_66 : decode cX12_advance 66 = .ok (.aload_n 0, 1) := by decide +kernel
theorem d12_advance_67 : decode cX12_advance 67 = .ok (.getfield 102, 3) := by decide +kernel
theorem d12_advance_70 : decode cX12_advance 70 = .ok (.aload_n 0, 1) := by decide +kernel
theorem d12_advance_71 : decode cX12_advance 71 = .ok (.getfield 96, 3) := by decide +kernel
theorem d12_advance_74 : decode cX12_advance 74 = .ok (.if_icmp .lt 9, 3) := by decide +kernel
theorem d12_advance_77 : decode cX12_advance 77 = .ok (.aload_n 0, 1) := by decide +kernel
theorem d12_advance_78 : decode cX12_advance 78 = .ok (.iconst 0, 1) := by decide +kernel
theorem d12_advance_79 : decode cX12_advance 79 = .ok (.putfield 108, 3) := by decide +kernel
theorem d12_advance_82 : decode cX12_advance 82 = .ok (.return_, 1) := by decide +kernel
theorem d12_advance_83 : decode cX12_advance 83 = .ok (.aload_n 0, 1) := by decide +kernel
theorem d12_advance_84 : decode cX12_advance 84 = .ok (.aload_n 0, 1) := by decide +kernel
theorem d12_advance_85 : decode cX12_advance 85 = .ok (.getfield 102, 3) := by decide +kernel
theorem d12_advance_88 : decode cX12_advance 88 = .ok (.invokevirtual 105, 3) := by decide +kernel
theorem d12_advance_91 : decode cX12_advance 91 = .ok (.istore_n 1, 1) := by decide +kernel
theorem d12_advance_92 : decode cX12_advance 92 = .ok (.iload_n 1, 1) := by decide +kernel
theorem d12_advance_93 : decode cX12_advance 93 = .ok (.invokestatic 111, 3) := by decide +kernel
theorem d12_advance_96 : decode cX12_advance 96 = .ok (.ifCond .eq 86, 3) := by decide +kernel
theorem d12_advance_99 : decode cX12_advance 99 = .ok (.aload_n 0, 1) := by decide +kernel
theorem d12_advance_100 : decode cX12_advance 100 = .ok (.iconst 1, 1) := by decide +kernel
theorem d12_advance_101 : decode cX12_advance 101 = .ok (.putfield 108, 3) := by decide +kernel
theorem d12_advance_104 : decode cX12_advance 104 = .ok (.aload_n 0, 1) := by decide +kernel
theorem d12_advance_105 : decode cX12_advance 105 = .ok (.lconst 0, 1) := by decide +kernel
theorem d12_advance_106 : decode cX12_advance 106 = .ok (.putfield 114, 3) := by decide +kernel
theorem d12_advance_109 : decode cX12_advance 109 = .ok (.aload_n 0, 1) := by decide +kernel
theorem d12_advance_110 : decode cX12_advance 110 = .ok (.aload_n 0, 1) := by decide +kernel
theorem d12_advance_111 : decode cX12_advance 111 = .ok (.getfield 99, 3) := by decide +kernel
theorem d12_advance_114 : decode cX12_advance 114 = .ok (.invokevirtual 105, 3) := by decide +kernel
theorem d12_advance_117 : decode cX12_advance 117 = .ok (.invokestatic 111, 3) := by decide +kernel
theorem d12_advance_120 : decode cX12_advance 120 = .ok (.ifCond .eq 194, 3) := by decide +kernel
theorem d12_advance_123 : decode cX12_advance 123 = .ok (.aload_n 0, 1) := by decide +kernel
theorem d12_advance_124 : decode cX12_advance 124 = .ok (.aload_n 0, 1) := by decide +kernel
theorem d12_advance_125 : decode cX12_advance 125 = .ok (.getfield 99, 3) := by decide +kernel
theorem d12_advance_128 : decode cX12_advance 128 = .ok (.aload_n 0, 1) := by decide +kernel
theorem d12_advance_129 : decode cX12_advance 129 = .ok (.getfield 102, 3) := by decide +kernel
theorem d12_advance_132 : decode cX12_advance 132 = .ok (.isub, 1) := by decide +kernel
theorem d12_advance_133 : decode cX12_advance 133 = .ok (.bipush 8, 2) := by decide +kernel
theorem d12_advance_135 : decode cX12_advance 135 = .ok (.if_icmp .ge 28, 3) := by decide +kernel
theorem d12_advance_138 : decode cX12_advance 138 = .ok (.aload_n 0, 1) := by decide +kernel
theorem d12_advance_139 : decode cX12_advance 139 = .ok (.getfield 114, 3) := by decide +kernel
theorem d12_advance_142 : decode cX12_advance 142 = .ok (.ldc2_w 117, 3) := by decide +kernel
theorem d12_advance_145 : decode cX12_advance 145 = .ok (.lmul, 1) := by decide +kernel
theorem d12_advance_146 : decode cX12_advance 146 = .ok (.aload_n 0, 1) := by decide +kernel
theorem d12_advance_147 : decode cX12_advance 147 = .ok (.aload_n 0, 1) := by decide +kernel
theorem d12_advance_148 : decode cX12_advance 148 = .ok (.getfield 99, 3) := by decide +kernel
theorem d12_advance_151 : decode cX12_advance 151 = .ok (.invokevirtual 105, 3) := by decide +kernel
theorem d12_advance_154 : decode cX12_advance 154 = .ok (.i2l, 1) := by decide +kernel
theorem d12_advance_155 : decode cX12_advance 155 = .ok (.ladd, 1) := by decide +kernel
theorem d12_advance_156 : decode cX12_advance 156 = .ok (.ldc2_w 119, 3) := by decide +kernel
theorem d12_advance_159 : decode cX12_advance 159 = .ok (.lsub, 1) := by decide +kernel
theorem d12_advance_160 : decode cX12_advance 160 = .ok (.goto 6, 3) := by decide +kernel
theorem d12_advance_163 : decode cX12_advance 163 = .ok (.ldc2_w 84, 3) := by decide +kernel
theorem d12_advance_166 : decode cX12_advance 166 = .ok (.putfield 114, 3) := by decide +kernel
theorem d12_advance_169 : decode cX12_advance 169 = .ok (.aload_n 0, 1) := by decide +kernel
theorem d12_advance_170 : decode cX12_advance 170 = .ok (.dup, 1) := by decide +kernel
theorem d12_advance_171 : decode cX12_advance 171 = .ok (.getfield 99, 3) := by decide +kernel
theorem d12_advance_174 : decode cX12_advance 174 = .ok (.iconst 1, 1) := by decide +kernel
theorem d12_advance_175 : decode cX12_advance 175 = .ok (.iadd, 1) := by decide +kernel
theorem d12_advance_176 : decode cX12_advance 176 = .ok (.putfield 99, 3) := by decide +kernel
theorem d12_advance_179 : decode cX12_advance 179 = .ok (.goto (-70), 3) := by decide +kernel
theorem d12_advance_182 : decode cX12_advance 182 = .ok (.iload_n 1, 1) := by decide +kernel
theorem d12_advance_183 : decode cX12_advance 183 = .ok (.invokestatic 121, 3) := by decide +kernel
theorem d12_advance_186 : decode cX12_advance 186 = .ok (.ifCond .eq 96, 3) := by decide +kernel
theorem d12_advance_189 : decode cX12_advance 189 = .ok (.aload_n 0, 1) := by decide +kernel
theorem d12_advance_190 : decode cX12_advance 190 = .ok (.iconst 0, 1) := by decide +kernel
theorem d12_advance_191 : decode cX12_advance 191 = .ok (.putfield 124, 3) := by decide +kernel
theorem d12_advance_194 : decode cX12_advance 194 = .ok (.aload_n 0, 1) := by decide +kernel
theorem d12_advance_195 : decode cX12_advance 195 = .ok (.aload_n 0, 1) := by decide +kernel
theorem d12_advance_196 : decode cX12_advance 196 = .ok (.getfield 99, 3) := by decide +kernel
theorem d12_advance_199 : decode cX12_advance 199 = .ok (.invokevirtual 105, 3) := by decide +kernel
theorem d12_advance_202 : decode cX12_advance 202 = .ok (.invokestatic 121, 3) := by decide +kernel
theorem d12_advance_205 : decode cX12_advance 205 = .ok (.ifCond .eq 52, 3) := by decide +kernel
theorem d12_advance_208 : decode cX12_advance 208 = .ok (.aload_n 0, 1) := by decide +kernel
theorem d12_advance_209 : decode cX12_advance 209 = .ok (.getfield 99, 3) := by decide +kernel
theorem d12_advance_212 : decode cX12_advance 212 = .ok (.aload_n 0, 1) := by decide +kernel
theorem d12_advance_213 : decode cX12_advance 213 = .ok (.getfield 102, 3) := by decide +kernel
theorem d12_advance_216 : decode cX12_advance 216 = .ok (.isub, 1) := by decide +kernel
theorem d12_advance_217 : decode cX12_advance 217 = .ok (.iconst 4, 1) := by decide +kernel
theorem d12_advance_218 : decode cX12_advance 218 = .ok (.if_icmp .ge 26, 3) := by decide +kernel
theorem d12_advance_221 : decode cX12_advance 221 = .ok (.aload_n 0, 1) := by decide +kernel
theorem d12_advance_222 : decode cX12_advance 222 = .ok (.bipush 10, 2) := by decide +kernel
theorem d12_advance_224 : decode cX12_advance 224 = .ok (.aload_n 0, 1) := by decide +kernel
theorem d12_advance_225 : decode cX12_advance 225 = .ok (.getfield 124, 3) := by decide +kernel
theorem d12_advance_228 : decode cX12_advance 228 = .ok (.imul, 1) := by decide +kernel
theorem d12_advance_229 : decode cX12_advance 229 = .ok (.aload_n 0, 1) := by decide +kernel
theorem d12_advance_230 : decode cX12_advance 230 = .ok (.aload_n 0, 1) := by decide +kernel
theorem d12_advance_231 : decode cX12_advance 231 = .ok (.getfield 99, 3) := by decide +kernel
theorem d12_advance_234 : decode cX12_advance 234 = .ok (.invokevirtual 105, 3) := by decide +kernel
theorem d12_advance_237 : decode cX12_advance 237 = .ok (.iadd, 1) := by decide +kernel
theorem d12_advance_238 : decode cX12_advance 238 = .ok (.bipush 48, 2) := by decide +kernel
theorem d12_advance_240 : decode cX12_advance 240 = .ok (.isub, 1) := by decide +kernel
theorem d12_advance_241 : decode cX12_advance 241 = .ok (.putfield 124, 3) := by decide +kernel
theorem d12_advance_244 : decode cX12_advance 244 = .ok (.aload_n 0, 1) := by decide +kernel
theorem d12_advance_245 : decode cX12_advance 245 = .ok (.dup, 1) := by decide +kernel
theorem d12_advance_246 : decode cX12_advance 246 = .ok (.getfield 99, 3) := by decide +kernel
theorem d12_advance_249 : decode cX12_advance 249 = .ok (.iconst 1, 1) := by decide +kernel
theorem d12_advance_250 : decode cX12_advance 250 = .ok (.iadd, 1) := by decide +kernel
theorem d12_advance_251 : decode cX12_advance 251 = .ok (.putfield 99, 3) := by decide +kernel
theorem d12_advance_254 : decode cX12_advance 254 = .ok (.goto (-60), 3) := by decide +kernel
theorem d12_advance_257 : decode cX12_advance 257 = .ok (.aload_n 0, 1) := by decide +kernel
theorem d12_advance_258 : decode cX12_advance 258 = .ok (.aload_n 0, 1) := by decide +kernel
theorem d12_advance_259 : decode cX12_advance 259 = .ok (.getfield 99, 3) := by decide +kernel
theorem d12_advance_262 : decode cX12_advance 262 = .ok (.aload_n 0, 1) := by decide +kernel
theorem d12_advance_263 : decode cX12_advance 263 = .ok (.getfield 102, 3) := by decide +kernel
theorem d12_advance_266 : decode cX12_advance 266 = .ok (.isub, 1) := by decide +kernel
theorem d12_advance_267 : decode cX12_advance 267 = .ok (.iconst 4, 1) := by decide +kernel
theorem d12_advance_268 : decode cX12_advance 268 = .ok (.if_icmp .le 7, 3) := by decide +kernel
theorem d12_advance_271 : decode cX12_advance 271 = .ok (.iconst 4, 1) := by decide +kernel
theorem d12_advance_272 : decode cX12_advance 272 = .ok (.goto 4, 3) := by decide +kernel
theorem d12_advance_275 : decode cX12_advance 275 = .ok (.iconst 2, 1) := by decide +kernel
theorem d12_advance_276 : decode cX12_advance 276 = .ok (.putfield 108, 3) := by decide +kernel
theorem d12_advance_279 : decode cX12_advance 279 = .ok (.goto 35, 3) := by decide +kernel
theorem d12_advance_282 : decode cX12_advance 282 = .ok (.aload_n 0, 1) := by decide +kernel
theorem d12_advance_283 : decode cX12_advance 283 = .ok (.aload_n 0, 1) := by decide +kernel
theorem d12_advance_284 : decode cX12_advance 284 = .ok (.getfield 102, 3) := by decide +kernel
theorem d12_advance_287 : decode cX12_advance 287 = .ok (.iconst 1, 1) := by decide +kernel
theorem d12_advance_288 : decode cX12_advance 288 = .ok (.iadd, 1) := by decide +kernel
theorem d12_advance_289 : decode cX12_advance 289 = .ok (.putfield 99, 3) := by decide +kernel
theorem d12_advance_292 : decode cX12_advance 292 = .ok (.aload_n 0, 1) := by decide +kernel
theorem d12_advance_293 : decode cX12_advance 293 = .ok (.iload_n 1, 1) := by decide +kernel
theorem d12_advance_294 : decode cX12_advance 294 = .ok (.putfield 124, 3) := by decide +kernel
theorem d12_advance_297 : decode cX12_advance 297 = .ok (.aload_n 0, 1) := by decide +kernel
theorem d12_advance_298 : decode cX12_advance 298 = .ok (.aload_n 0, 1) := by decide +kernel
theorem d12_advance_299 : decode cX12_advance 299 = .ok (.iload_n 1, 1) := by decide +kernel
theorem d12_advance_300 : decode cX12_advance 300 = .ok (.invokevirtual 127, 3) := by decide +kernel
theorem d12_advance_303 : decode cX12_advance 303 = .ok (.ifCond .eq 7, 3) := by decide +kernel
theorem d12_advance_306 : decode cX12_advance 306 = .ok (.iconst 3, 1) := by decide +kernel
theorem d12_advance_307 : decode cX12_advance 307 = .ok (.goto 4, 3) := by decide +kernel
theorem d12_advance_310 : decode cX12_advance 310 = .ok (.iconst 4, 1) := by decide +kernel
theorem d12_advance_311 : decode cX12_advance 311 = .ok (.putfield 108, 3) := by decide +kernel
theorem d12_advance_314 : decode cX12_advance 314 = .ok (.return_, 1) := by decide +kernel
abbrev K12_advance : CK Unit := (enV, none, 2, 2, none)
noncomputable def F12_advance_b276 (N : Nat) (s1 : Int32) (σ : Ms) : Option (Unit × Ms) :=
  lt (sI σ 0 14 s1) (fun t1 => some ((), t1))
noncomputable def F12_advance_b244 (N : Nat) (k194 : Ms → Option (Unit × Ms)) (σ : Ms) : Option (Unit × Ms) :=
  lt (sI σ 0 16 ((σ.1 0 16) + (1 : Int32))) (fun t2 => k194 t2)
noncomputable def F12_advance_b194B (N : Nat) (k194 : Ms → Option (Unit × Ms)) (σ : Ms) : Option (Unit × Ms) :=
  bn (F12_look2 (σ.1 0 16) σ) (fun r3 t4 => bn (F12_isDigit r3 t4) (fun r5 t6 => if r5 = 0 then (if ((t6.1 0 16) - (t6.1 0 15)) ≤ (4 : Int32) then (F12_advance_b276 N (2 : Int32) t6)
  else (F12_advance_b276 N (4 : Int32) t6))
  else (if (4 : Int32) ≤ ((t6.1 0 16) - (t6.1 0 15)) then (F12_advance_b244 N k194 t6)
  else (bn (F12_look2 (t6.1 0 16) t6) (fun r7 t8 => lt (sI t8 0 17 ((((10 : Int32) * (t6.1 0 17)) + r7) - (48 : Int32))) (fun t9 => F12_advance_b244 N k194 t9))))))
noncomputable def F12_advance_b194 (N : Nat) (σ : Ms) : Option (Unit × Ms) :=
  fx N (fun k x => F12_advance_b194B N k x) σ
noncomputable def F12_advance_b166 (N : Nat) (k109 : Ms → Option (Unit × Ms)) (s1 : Int64) (σ : Ms) : Option (Unit × Ms) :=
  lt (sL σ 0 18 s1) (fun t10 => lt (sI t10 0 16 ((t10.1 0 16) + (1 : Int32))) (fun t11 => k109 t11))
noncomputable def F12_advance_b109B (N : Nat) (k109 : Ms → Option (Unit × Ms)) (σ : Ms) : Option (Unit × Ms) :=
  bn (F12_look2 (σ.1 0 16) σ) (fun r12 t13 => bn (F12_isLetter r12 t13) (fun r14 t15 => if r14 = 0 then (some ((), t15))
  else (if (8 : Int32) ≤ ((t15.1 0 16) - (t15.1 0 15)) then (F12_advance_b166 N k109 (-1 : Int64) t15)
  else (bn (F12_look2 (t15.1 0 16) t15) (fun r16 t17 => F12_advance_b166 N k109 ((((t15.2 0 18) * (32 : Int64)) + (r16.toInt64)) - (96 : Int64)) t17)))))
noncomputable def F12_advance_b109 (N : Nat) (σ : Ms) : Option (Unit × Ms) :=
  fx N (fun k x => F12_advance_b109B N k x) σ
noncomputable def F12_advance_b58 (N : Nat) (σ : Ms) : Option (Unit × Ms) :=
  lt (sI σ 0 16 (σ.1 0 15)) (fun t18 => if (t18.1 0 15) < (t18.1 0 9) then (bn (F12_look2 (t18.1 0 15) t18) (fun r19 t20 => bn (F12_isLetter r19 t20) (fun r21 t22 => if r21 = 0 then (bn (F12_isDigit r19 t22) (fun r23 t24 => if r23 = 0 then (lt (sI t24 0 16 ((t24.1 0 15) + (1 : Int32))) (fun t25 => lt (sI t25 0 17 r19) (fun t26 => bn (F12_isSignByte r19 t26) (fun r27 t28 => if r27 = 0 then (lt (sI t28 0 14 (4 : Int32)) (fun t29 => some ((), t29)))
  else (lt (sI t28 0 14 (3 : Int32)) (fun t30 => some ((), t30)))))))
  else (lt (sI t24 0 17 (0 : Int32)) (fun t31 => F12_advance_b194 N t31))))
  else (lt (sI t22 0 14 (1 : Int32)) (fun t32 => lt (sL t32 0 18 (0 : Int64)) (fun t33 => F12_advance_b109 N t33))))))
  else (lt (sI t18 0 14 (0 : Int32)) (fun t34 => some ((), t34))))
noncomputable def F12_advance_b45 (N : Nat) (k8 : Ms → Option (Unit × Ms)) (σ : Ms) : Option (Unit × Ms) :=
  lt (sI σ 0 15 ((σ.1 0 15) + (1 : Int32))) (fun t35 => k8 t35)
noncomputable def F12_advance_b8B (N : Nat) (k8 : Ms → Option (Unit × Ms)) (σ : Ms) : Option (Unit × Ms) :=
  if (σ.1 0 9) ≤ (σ.1 0 15) then (F12_advance_b58 N σ)
  else (bn (F12_look2 (σ.1 0 15) σ) (fun r36 t37 => if r36 = (10 : Int32) then (F12_advance_b45 N k8 t37)
  else (bn (F12_look2 (t37.1 0 15) t37) (fun r38 t39 => if r38 ≠ (32 : Int32) then (F12_advance_b58 N t39)
  else (F12_advance_b45 N k8 t39)))))
noncomputable def F12_advance_b8 (N : Nat) (σ : Ms) : Option (Unit × Ms) :=
  fx N (fun k x => F12_advance_b8B N k x) σ
noncomputable def F12_advance (N : Nat) (σ : Ms) : Option (Unit × Ms) :=
  lt (sI σ 0 15 (σ.1 0 16)) (fun t40 => F12_advance_b8 N t40)
set_option maxRecDepth 100000 in
theorem v12_advance_b276 (N : Nat) (s1 : Int32) (σ : Ms) : VF (K12_advance) cX12_advance RX12 (F12_advance_b276 N s1 σ) σ 276 [] [.int s1, .ref 0] := by
  unfold F12_advance_b276
  refine v_putI d12_advance_276 faX12_108 fp9_14 ic_0 ?_
  refine v_lts fun t1 => ?_
  refine v_goto (tgt := 314) d12_advance_279 (by decide) ?_
  exact v_vret d12_advance_314 rfl
set_option maxRecDepth 100000 in
theorem v12_advance_b244 (N : Nat) (k194 : Ms → Option (Unit × Ms)) (hk194 : ∀ (τ : Ms), VF (K12_advance) cX12_advance RX12 (k194 τ) τ 194 [(0, .ref 0)] []) (σ : Ms) : VF (K12_advance) cX12_advance RX12 (F12_advance_b244 N k194 σ) σ 244 [(0, .ref 0)] [] := by
  unfold F12_advance_b244
  refine v_aload_n d12_advance_244 0 rfl rfl ?_
  refine v_dup d12_advance_245 rfl ?_
  refine v_getI d12_advance_246 faX12_99 ic_0 ?_
  refine v_iconst d12_advance_249 ki_1 ?_
  refine v_iadd d12_advance_250 ?_
  refine v_putI d12_advance_251 faX12_99 fp9_16 ic_0 ?_
  refine v_lts fun t2 => ?_
  refine v_goto (tgt := 194) d12_advance_254 (by decide) ?_
  exact hk194 t2
set_option maxRecDepth 100000 in
theorem v12_advance_b194B (N : Nat) (k194 : Ms → Option (Unit × Ms)) (hk194 : ∀ (τ : Ms), VF (K12_advance) cX12_advance RX12 (k194 τ) τ 194 [(0, .ref 0)] []) (σ : Ms) : VF (K12_advance) cX12_advance RX12 (F12_advance_b194B N k194 σ) σ 194 [(0, .ref 0)] [] := by
  unfold F12_advance_b194B
  refine v_aload_n d12_advance_194 0 rfl rfl ?_
  refine v_aload_n d12_advance_195 0 rfl rfl ?_
  refine v_getI d12_advance_196 faX12_99 ic_0 ?_
  refine v_callV1i d12_advance_199 (mc12_look2 (σ.1 0 16) σ) yv12_look2 mlX12_105 (Recv.obj ic_0 rfl) (by decide) (Nat.le_of_ble_eq_true rfl) fun r3 t4 => ?_
  refine v_callS1i d12_advance_202 (mc12_isDigit r3 t4) ys12_isDigit mlX12_121 (by decide) (Nat.le_of_ble_eq_true rfl) fun r5 t6 => ?_
  refine v_if_eq (tgt := 257) d12_advance_205 (by decide) ?_ ?_
  · refine v_aload_n d12_advance_257 0 rfl rfl ?_
    refine v_aload_n d12_advance_258 0 rfl rfl ?_
    refine v_getI d12_advance_259 faX12_99 ic_0 ?_
    refine v_aload_n d12_advance_262 0 rfl rfl ?_
    refine v_getI d12_advance_263 faX12_102 ic_0 ?_
    refine v_isub d12_advance_266 ?_
    refine v_iconst d12_advance_267 ki_4 ?_
    refine v_icmp_le (tgt := 275) d12_advance_268 (by decide) ?_ ?_
    · refine v_iconst d12_advance_275 ki_2 ?_
      refine v_sub [] rfl ?_
      exact v12_advance_b276 N (2 : Int32) t6
    · refine v_iconst d12_advance_271 ki_4 ?_
      refine v_goto (tgt := 276) d12_advance_272 (by decide) ?_
      refine v_sub [] rfl ?_
      exact v12_advance_b276 N (4 : Int32) t6
  · refine v_aload_n d12_advance_208 0 rfl rfl ?_
    refine v_getI d12_advance_209 faX12_99 ic_0 ?_
    refine v_aload_n d12_advance_212 0 rfl rfl ?_
    refine v_getI d12_advance_213 faX12_102 ic_0 ?_
    refine v_isub d12_advance_216 ?_
    refine v_iconst d12_advance_217 ki_4 ?_
    refine v_icmp_ge (tgt := 244) d12_advance_218 (by decide) ?_ ?_
    · exact v12_advance_b244 N k194 hk194 t6
    · refine v_aload_n d12_advance_221 0 rfl rfl ?_
      refine v_bipush d12_advance_222 kb_10 ?_
      refine v_aload_n d12_advance_224 0 rfl rfl ?_
      refine v_getI d12_advance_225 faX12_124 ic_0 ?_
      refine v_imul d12_advance_228 ?_
      refine v_aload_n d12_advance_229 0 rfl rfl ?_
      refine v_aload_n d12_advance_230 0 rfl rfl ?_
      refine v_getI d12_advance_231 faX12_99 ic_0 ?_
      refine v_callV1i d12_advance_234 (mc12_look2 (t6.1 0 16) t6) yv12_look2 mlX12_105 (Recv.obj ic_0 rfl) (by decide) (Nat.le_of_ble_eq_true rfl) fun r7 t8 => ?_
      refine v_iadd d12_advance_237 ?_
      refine v_bipush d12_advance_238 kb_48 ?_
      refine v_isub d12_advance_240 ?_
      refine v_putI d12_advance_241 faX12_124 fp9_17 ic_0 ?_
      refine v_lts fun t9 => ?_
      exact v12_advance_b244 N k194 hk194 t9
theorem v12_advance_b194 (N : Nat) (σ : Ms) : VF (K12_advance) cX12_advance RX12 (F12_advance_b194 N σ) σ 194 [(0, .ref 0)] [] := v_fx (σo := fun x => x) (lo := fun x => [(0, .ref 0)]) (fun k hk x => v12_advance_b194B N k (fun τ => hk τ) x) N σ
set_option maxRecDepth 100000 in
theorem v12_advance_b166 (N : Nat) (k109 : Ms → Option (Unit × Ms)) (hk109 : ∀ (τ : Ms), VF (K12_advance) cX12_advance RX12 (k109 τ) τ 109 [(0, .ref 0)] []) (s1 : Int64) (σ : Ms) : VF (K12_advance) cX12_advance RX12 (F12_advance_b166 N k109 s1 σ) σ 166 [(0, .ref 0)] [.long s1, .ref 0] := by
  unfold F12_advance_b166
  refine v_putL d12_advance_166 faX12_114 fp9_18 ic_0 ?_
  refine v_lts fun t10 => ?_
  refine v_aload_n d12_advance_169 0 rfl rfl ?_
  refine v_dup d12_advance_170 rfl ?_
  refine v_getI d12_advance_171 faX12_99 ic_0 ?_
  refine v_iconst d12_advance_174 ki_1 ?_
  refine v_iadd d12_advance_175 ?_
  refine v_putI d12_advance_176 faX12_99 fp9_16 ic_0 ?_
  refine v_lts fun t11 => ?_
  refine v_goto (tgt := 109) d12_advance_179 (by decide) ?_
  exact hk109 t11
set_option maxRecDepth 100000 in
theorem v12_advance_b109B (N : Nat) (k109 : Ms → Option (Unit × Ms)) (hk109 : ∀ (τ : Ms), VF (K12_advance) cX12_advance RX12 (k109 τ) τ 109 [(0, .ref 0)] []) (σ : Ms) : VF (K12_advance) cX12_advance RX12 (F12_advance_b109B N k109 σ) σ 109 [(0, .ref 0)] [] := by
  unfold F12_advance_b109B
  refine v_aload_n d12_advance_109 0 rfl rfl ?_
  refine v_aload_n d12_advance_110 0 rfl rfl ?_
  refine v_getI d12_advance_111 faX12_99 ic_0 ?_
  refine v_callV1i d12_advance_114 (mc12_look2 (σ.1 0 16) σ) yv12_look2 mlX12_105 (Recv.obj ic_0 rfl) (by decide) (Nat.le_of_ble_eq_true rfl) fun r12 t13 => ?_
  refine v_callS1i d12_advance_117 (mc12_isLetter r12 t13) ys12_isLetter mlX12_111 (by decide) (Nat.le_of_ble_eq_true rfl) fun r14 t15 => ?_
  refine v_if_eq (tgt := 314) d12_advance_120 (by decide) ?_ ?_
  · exact v_vret d12_advance_314 rfl
  · refine v_aload_n d12_advance_123 0 rfl rfl ?_
    refine v_aload_n d12_advance_124 0 rfl rfl ?_
    refine v_getI d12_advance_125 faX12_99 ic_0 ?_
    refine v_aload_n d12_advance_128 0 rfl rfl ?_
    refine v_getI d12_advance_129 faX12_102 ic_0 ?_
    refine v_isub d12_advance_132 ?_
    refine v_bipush d12_advance_133 kb_8 ?_
    refine v_icmp_ge (tgt := 163) d12_advance_135 (by decide) ?_ ?_
    · refine v_ldc2 d12_advance_163 klX12_84 ?_
      exact v12_advance_b166 N k109 hk109 (-1 : Int64) t15
    · refine v_aload_n d12_advance_138 0 rfl rfl ?_
      refine v_getL d12_advance_139 faX12_114 ic_0 ?_
      refine v_ldc2 d12_advance_142 klX12_117 ?_
      refine v_lmul d12_advance_145 ?_
      refine v_aload_n d12_advance_146 0 rfl rfl ?_
      refine v_aload_n d12_advance_147 0 rfl rfl ?_
      refine v_getI d12_advance_148 faX12_99 ic_0 ?_
      refine v_callV1i d12_advance_151 (mc12_look2 (t15.1 0 16) t15) yv12_look2 mlX12_105 (Recv.obj ic_0 rfl) (by decide) (Nat.le_of_ble_eq_true rfl) fun r16 t17 => ?_
      refine v_i2l d12_advance_154 ?_
      refine v_ladd d12_advance_155 ?_
      refine v_ldc2 d12_advance_156 klX12_119 ?_
      refine v_lsub d12_advance_159 ?_
      refine v_goto (tgt := 166) d12_advance_160 (by decide) ?_
      exact v12_advance_b166 N k109 hk109 ((((t15.2 0 18) * (32 : Int64)) + (r16.toInt64)) - (96 : Int64)) t17
theorem v12_advance_b109 (N : Nat) (σ : Ms) : VF (K12_advance) cX12_advance RX12 (F12_advance_b109 N σ) σ 109 [(0, .ref 0)] [] := v_fx (σo := fun x => x) (lo := fun x => [(0, .ref 0)]) (fun k hk x => v12_advance_b109B N k (fun τ => hk τ) x) N σ
set_option maxRecDepth 100000 in
theorem v12_advance_b58 (N : Nat) (σ : Ms) : VF (K12_advance) cX12_advance RX12 (F12_advance_b58 N σ) σ 58 [(0, .ref 0)] [] := by
  unfold F12_advance_b58
  refine v_aload_n d12_advance_58 0 rfl rfl ?_
  refine v_aload_n d12_advance_59 0 rfl rfl ?_
  refine v_getI d12_advance_60 faX12_102 ic_0 ?_
  refine v_putI d12_advance_63 faX12_99 fp9_16 ic_0 ?_
  refine v_lts fun t18 => ?_
  refine v_aload_n d12_advance_66 0 rfl rfl ?_
  refine v_getI d12_advance_67 faX12_102 ic_0 ?_
  refine v_aload_n d12_advance_70 0 rfl rfl ?_
  refine v_getI d12_advance_71 faX12_96 ic_0 ?_
  refine v_icmp_lt (tgt := 83) d12_advance_74 (by decide) ?_ ?_
  · refine v_aload_n d12_advance_83 0 rfl rfl ?_
    refine v_aload_n d12_advance_84 0 rfl rfl ?_
    refine v_getI d12_advance_85 faX12_102 ic_0 ?_
    refine v_callV1i d12_advance_88 (mc12_look2 (t18.1 0 15) t18) yv12_look2 mlX12_105 (Recv.obj ic_0 rfl) (by decide) (Nat.le_of_ble_eq_true rfl) fun r19 t20 => ?_
    refine v_istore_n (lv' := [(1, .int r19), (0, .ref 0)]) d12_advance_91 rfl (by decide) rfl ?_
    refine v_iload_n d12_advance_92 0 rfl rfl ?_
    refine v_callS1i d12_advance_93 (mc12_isLetter r19 t20) ys12_isLetter mlX12_111 (by decide) (Nat.le_of_ble_eq_true rfl) fun r21 t22 => ?_
    refine v_if_eq (tgt := 182) d12_advance_96 (by decide) ?_ ?_
    · refine v_iload_n d12_advance_182 0 rfl rfl ?_
      refine v_callS1i d12_advance_183 (mc12_isDigit r19 t22) ys12_isDigit mlX12_121 (by decide) (Nat.le_of_ble_eq_true rfl) fun r23 t24 => ?_
      refine v_if_eq (tgt := 282) d12_advance_186 (by decide) ?_ ?_
      · refine v_aload_n d12_advance_282 1 rfl rfl ?_
        refine v_aload_n d12_advance_283 1 rfl rfl ?_
        refine v_getI d12_advance_284 faX12_102 ic_0 ?_
        refine v_iconst d12_advance_287 ki_1 ?_
        refine v_iadd d12_advance_288 ?_
        refine v_putI d12_advance_289 faX12_99 fp9_16 ic_0 ?_
        refine v_lts fun t25 => ?_
        refine v_aload_n d12_advance_292 1 rfl rfl ?_
        refine v_iload_n d12_advance_293 0 rfl rfl ?_
        refine v_putI d12_advance_294 faX12_124 fp9_17 ic_0 ?_
        refine v_lts fun t26 => ?_
        refine v_aload_n d12_advance_297 1 rfl rfl ?_
        refine v_aload_n d12_advance_298 1 rfl rfl ?_
        refine v_iload_n d12_advance_299 0 rfl rfl ?_
        refine v_callV1i d12_advance_300 (mc12_isSignByte r19 t26) yv12_isSignByte mlX12_127 (Recv.obj ic_0 rfl) (by decide) (Nat.le_of_ble_eq_true rfl) fun r27 t28 => ?_
        refine v_if_eq (tgt := 310) d12_advance_303 (by decide) ?_ ?_
        · refine v_iconst d12_advance_310 ki_4 ?_
          refine v_putI d12_advance_311 faX12_108 fp9_14 ic_0 ?_
          refine v_lts fun t29 => ?_
          exact v_vret d12_advance_314 rfl
        · refine v_iconst d12_advance_306 ki_3 ?_
          refine v_goto (tgt := 311) d12_advance_307 (by decide) ?_
          refine v_putI d12_advance_311 faX12_108 fp9_14 ic_0 ?_
          refine v_lts fun t30 => ?_
          exact v_vret d12_advance_314 rfl
      · refine v_aload_n d12_advance_189 1 rfl rfl ?_
        refine v_iconst d12_advance_190 ki_0 ?_
        refine v_putI d12_advance_191 faX12_124 fp9_17 ic_0 ?_
        refine v_lts fun t31 => ?_
        refine v_sub [1] rfl ?_
        exact v12_advance_b194 N t31
    · refine v_aload_n d12_advance_99 1 rfl rfl ?_
      refine v_iconst d12_advance_100 ki_1 ?_
      refine v_putI d12_advance_101 faX12_108 fp9_14 ic_0 ?_
      refine v_lts fun t32 => ?_
      refine v_aload_n d12_advance_104 1 rfl rfl ?_
      refine v_lconst d12_advance_105 kl_0 ?_
      refine v_putL d12_advance_106 faX12_114 fp9_18 ic_0 ?_
      refine v_lts fun t33 => ?_
      refine v_sub [1] rfl ?_
      exact v12_advance_b109 N t33
  · refine v_aload_n d12_advance_77 0 rfl rfl ?_
    refine v_iconst d12_advance_78 ki_0 ?_
    refine v_putI d12_advance_79 faX12_108 fp9_14 ic_0 ?_
    refine v_lts fun t34 => ?_
    exact v_vret d12_advance_82 rfl
set_option maxRecDepth 100000 in
theorem v12_advance_b45 (N : Nat) (k8 : Ms → Option (Unit × Ms)) (hk8 : ∀ (τ : Ms), VF (K12_advance) cX12_advance RX12 (k8 τ) τ 8 [(0, .ref 0)] []) (σ : Ms) : VF (K12_advance) cX12_advance RX12 (F12_advance_b45 N k8 σ) σ 45 [(0, .ref 0)] [] := by
  unfold F12_advance_b45
  refine v_aload_n d12_advance_45 0 rfl rfl ?_
  refine v_dup d12_advance_46 rfl ?_
  refine v_getI d12_advance_47 faX12_102 ic_0 ?_
  refine v_iconst d12_advance_50 ki_1 ?_
  refine v_iadd d12_advance_51 ?_
  refine v_putI d12_advance_52 faX12_102 fp9_15 ic_0 ?_
  refine v_lts fun t35 => ?_
  refine v_goto (tgt := 8) d12_advance_55 (by decide) ?_
  exact hk8 t35
set_option maxRecDepth 100000 in
theorem v12_advance_b8B (N : Nat) (k8 : Ms → Option (Unit × Ms)) (hk8 : ∀ (τ : Ms), VF (K12_advance) cX12_advance RX12 (k8 τ) τ 8 [(0, .ref 0)] []) (σ : Ms) : VF (K12_advance) cX12_advance RX12 (F12_advance_b8B N k8 σ) σ 8 [(0, .ref 0)] [] := by
  unfold F12_advance_b8B
  refine v_aload_n d12_advance_8 0 rfl rfl ?_
  refine v_getI d12_advance_9 faX12_102 ic_0 ?_
  refine v_aload_n d12_advance_12 0 rfl rfl ?_
  refine v_getI d12_advance_13 faX12_96 ic_0 ?_
  refine v_icmp_ge (tgt := 58) d12_advance_16 (by decide) ?_ ?_
  · exact v12_advance_b58 N σ
  · refine v_aload_n d12_advance_19 0 rfl rfl ?_
    refine v_aload_n d12_advance_20 0 rfl rfl ?_
    refine v_getI d12_advance_21 faX12_102 ic_0 ?_
    refine v_callV1i d12_advance_24 (mc12_look2 (σ.1 0 15) σ) yv12_look2 mlX12_105 (Recv.obj ic_0 rfl) (by decide) (Nat.le_of_ble_eq_true rfl) fun r36 t37 => ?_
    refine v_bipush d12_advance_27 kb_10 ?_
    refine v_icmp_eq (tgt := 45) d12_advance_29 (by decide) ?_ ?_
    · exact v12_advance_b45 N k8 hk8 t37
    · refine v_aload_n d12_advance_32 0 rfl rfl ?_
      refine v_aload_n d12_advance_33 0 rfl rfl ?_
      refine v_getI d12_advance_34 faX12_102 ic_0 ?_
      refine v_callV1i d12_advance_37 (mc12_look2 (t37.1 0 15) t37) yv12_look2 mlX12_105 (Recv.obj ic_0 rfl) (by decide) (Nat.le_of_ble_eq_true rfl) fun r38 t39 => ?_
      refine v_bipush d12_advance_40 kb_32 ?_
      refine v_icmp_ne (tgt := 58) d12_advance_42 (by decide) ?_ ?_
      · exact v12_advance_b58 N t39
      · exact v12_advance_b45 N k8 hk8 t39
theorem v12_advance_b8 (N : Nat) (σ : Ms) : VF (K12_advance) cX12_advance RX12 (F12_advance_b8 N σ) σ 8 [(0, .ref 0)] [] := v_fx (σo := fun x => x) (lo := fun x => [(0, .ref 0)]) (fun k hk x => v12_advance_b8B N k (fun τ => hk τ) x) N σ
set_option maxRecDepth 100000 in
theorem mc12_advance (N : Nat) (σ : Ms) : MC enV yX12_advance cX12_advance 2 none 2 (F12_advance N σ) σ [.ref 0] := by
  refine MC.v (by decide +kernel) (Nat.le_of_ble_eq_true rfl) ?_
  show VF (K12_advance) cX12_advance RX12 (F12_advance N σ) σ 0 [(0, .ref 0)] []
  unfold F12_advance
  refine v_aload_n d12_advance_0 0 rfl rfl ?_
  refine v_aload_n d12_advance_1 0 rfl rfl ?_
  refine v_getI d12_advance_2 faX12_99 ic_0 ?_
  refine v_putI d12_advance_5 faX12_102 fp9_15 ic_0 ?_
  refine v_lts fun t40 => ?_
  exact v12_advance_b8 N t40
theorem d12_isSign_0 : decode cX12_isSign 0 = .ok (.aload_n 0, 1) := by decide +kernel
theorem d12_isSign_1 : decode cX12_isSign 1 = .ok (.getfield 108, 3) := by decide +kernel
theorem d12_isSign_4 : decode cX12_isSign 4 = .ok (.iconst 3, 1) := by decide +kernel
theorem d12_isSign_5 : decode cX12_isSign 5 = .ok (.if_icmp .ne 15, 3) := by decide +kernel
theorem d12_isSign_8 : decode cX12_isSign 8 = .ok (.aload_n 0, 1) := by decide +kernel
theorem d12_isSign_9 : decode cX12_isSign 9 = .ok (.getfield 124, 3) := by decide +kernel
theorem d12_isSign_12 : decode cX12_isSign 12 = .ok (.iload_n 1, 1) := by decide +kernel
theorem d12_isSign_13 : decode cX12_isSign 13 = .ok (.if_icmp .ne 7, 3) := by decide +kernel
theorem d12_isSign_16 : decode cX12_isSign 16 = .ok (.iconst 1, 1) := by decide +kernel
theorem d12_isSign_17 : decode cX12_isSign 17 = .ok (.goto 4, 3) := by decide +kernel
theorem d12_isSign_20 : decode cX12_isSign 20 = .ok (.iconst 0, 1) := by decide +kernel
theorem d12_isSign_21 : decode cX12_isSign 21 = .ok (.ireturn, 1) := by decide +kernel
abbrev K12_isSign : CK Int32 := (enI, (some .boolean), 2, 1, none)
noncomputable def F12_isSign (p0 : Int32) (σ : Ms) : Option (Int32 × Ms) :=
  if (σ.1 0 14) ≠ (3 : Int32) then (some ((0 : Int32), σ))
  else (if (σ.1 0 17) ≠ p0 then (some ((0 : Int32), σ))
  else (some ((1 : Int32), σ)))
set_option maxRecDepth 100000 in
theorem mc12_isSign (p0 : Int32) (σ : Ms) : MC enI yX12_isSign cX12_isSign 2 (some .boolean) 1 (F12_isSign p0 σ) σ [.ref 0, .int p0] := by
  refine MC.i (by decide +kernel) (Nat.le_of_ble_eq_true rfl) ?_
  show VF (K12_isSign) cX12_isSign RX12 (F12_isSign p0 σ) σ 0 [(0, .ref 0), (1, .int p0)] []
  unfold F12_isSign
  refine v_aload_n d12_isSign_0 0 rfl rfl ?_
  refine v_getI d12_isSign_1 faX12_108 ic_0 ?_
  refine v_iconst d12_isSign_4 ki_3 ?_
  refine v_icmp_ne (tgt := 20) d12_isSign_5 (by decide) ?_ ?_
  · refine v_iconst d12_isSign_20 ki_0 ?_
    exact v_iret (ty := .boolean) d12_isSign_21 rfl rfl rfl
  · refine v_aload_n d12_isSign_8 0 rfl rfl ?_
    refine v_getI d12_isSign_9 faX12_124 ic_0 ?_
    refine v_iload_n d12_isSign_12 1 rfl rfl ?_
    refine v_icmp_ne (tgt := 20) d12_isSign_13 (by decide) ?_ ?_
    · refine v_iconst d12_isSign_20 ki_0 ?_
      exact v_iret (ty := .boolean) d12_isSign_21 rfl rfl rfl
    · refine v_iconst d12_isSign_16 ki_1 ?_
      refine v_goto (tgt := 21) d12_isSign_17 (by decide) ?_
      exact v_iret (ty := .boolean) d12_isSign_21 rfl rfl rfl
theorem d12_spelled_0 : decode cX12_spelled 0 = .ok (.iload_n 0, 1) := by decide +kernel
theorem d12_spelled_1 : decode cX12_spelled 1 = .ok (.i2l, 1) := by decide +kernel
theorem d12_spelled_2 : decode cX12_spelled 2 = .ok (.ldc2_w 119, 3) := by decide +kernel
theorem d12_spelled_5 : decode cX12_spelled 5 = .ok (.lsub, 1) := by decide +kernel
theorem d12_spelled_6 : decode cX12_spelled 6 = .ok (.ldc2_w 117, 3) := by decide +kernel
theorem d12_spelled_9 : decode cX12_spelled 9 = .ok (.lmul, 1) := by decide +kernel
theorem d12_spelled_10 : decode cX12_spelled 10 = .ok (.iload_n 1, 1) := by decide +kernel
theorem d12_spelled_11 : decode cX12_spelled 11 = .ok (.i2l, 1) := by decide +kernel
theorem d12_spelled_12 : decode cX12_spelled 12 = .ok (.ladd, 1) := by decide +kernel
theorem d12_spelled_13 : decode cX12_spelled 13 = .ok (.ldc2_w 119, 3) := by decide +kernel
theorem d12_spelled_16 : decode cX12_spelled 16 = .ok (.lsub, 1) := by decide +kernel
theorem d12_spelled_17 : decode cX12_spelled 17 = .ok (.lstore 6, 2) := by decide +kernel
theorem d12_spelled_19 : decode cX12_spelled 19 = .ok (.iload_n 2, 1) := by decide +kernel
theorem d12_spelled_20 : decode cX12_spelled 20 = .ok (.ifCond .le 19, 3) := by decide +kernel
theorem d12_spelled_23 : decode cX12_spelled 23 = .ok (.lload 6, 2) := by decide +kernel
theorem d12_spelled_25 : decode cX12_spelled 25 = .ok (.ldc2_w 117, 3) := by decide +kernel
theorem d12_spelled_28 : decode cX12_spelled 28 = .ok (.lmul, 1) := by decide +kernel
theorem d12_spelled_29 : decode cX12_spelled 29 = .ok (.iload_n 2, 1) := by decide +kernel
theorem d12_spelled_30 : decode cX12_spelled 30 = .ok (.i2l, 1) := by decide +kernel
theorem d12_spelled_31 : decode cX12_spelled 31 = .ok (.ladd, 1) := by decide +kernel
theorem d12_spelled_32 : decode cX12_spelled 32 = .ok (.ldc2_w 119, 3) := by decide +kernel
theorem d12_spelled_35 : decode cX12_spelled 35 = .ok (.lsub, 1) := by decide +kernel
theorem d12_spelled_36 : decode cX12_spelled 36 = .ok (.goto 5, 3) := by decide +kernel
theorem d12_spelled_39 : decode cX12_spelled 39 = .ok (.lload 6, 2) := by decide +kernel
theorem d12_spelled_41 : decode cX12_spelled 41 = .ok (.lstore 6, 2) := by decide +kernel
theorem d12_spelled_43 : decode cX12_spelled 43 = .ok (.iload_n 3, 1) := by decide +kernel
theorem d12_spelled_44 : decode cX12_spelled 44 = .ok (.ifCond .le 19, 3) := by decide +kernel
theorem d12_spelled_47 : decode cX12_spelled 47 = .ok (.lload 6, 2) := by decide +kernel
theorem d12_spelled_49 : decode cX12_spelled 49 = .ok (.ldc2_w 117, 3) := by decide +kernel
theorem d12_spelled_52 : decode cX12_spelled 52 = .ok (.lmul, 1) := by decide +kernel
theorem d12_spelled_53 : decode cX12_spelled 53 = .ok (.iload_n 3, 1) := by decide +kernel
theorem d12_spelled_54 : decode cX12_spelled 54 = .ok (.i2l, 1) := by decide +kernel
theorem d12_spelled_55 : decode cX12_spelled 55 = .ok (.ladd, 1) := by decide +kernel
theorem d12_spelled_56 : decode cX12_spelled 56 = .ok (.ldc2_w 119, 3) := by decide +kernel
theorem d12_spelled_59 : decode cX12_spelled 59 = .ok (.lsub, 1) := by decide +kernel
theorem d12_spelled_60 : decode cX12_spelled 60 = .ok (.goto 5, 3) := by decide +kernel
theorem d12_spelled_63 : decode cX12_spelled 63 = .ok (.lload 6, 2) := by decide +kernel
theorem d12_spelled_65 : decode cX12_spelled 65 = .ok (.lstore 6, 2) := by decide +kernel
theorem d12_spelled_67 : decode cX12_spelled 67 = .ok (.iload 4, 2) := by decide +kernel
theorem d12_spelled_69 : decode cX12_spelled 69 = .ok (.ifCond .le 20, 3) := by decide +kernel
theorem d12_spelled_72 : decode cX12_spelled 72 = .ok (.lload 6, 2) := by decide +kernel
theorem d12_spelled_74 : decode cX12_spelled 74 = .ok (.ldc2_w 117, 3) := by decide +kernel
theorem d12_spelled_77 : decode cX12_spelled 77 = .ok (.lmul, 1) := by decide +kernel
theorem d12_spelled_78 : decode cX12_spelled 78 = .ok (.iload 4, 2) := by decide +kernel
theorem d12_spelled_80 : decode cX12_spelled 80 = .ok (.i2l, 1) := by decide +kernel
theorem d12_spelled_81 : decode cX12_spelled 81 = .ok (.ladd, 1) := by decide +kernel
theorem d12_spelled_82 : decode cX12_spelled 82 = .ok (.ldc2_w 119, 3) := by decide +kernel
theorem d12_spelled_85 : decode cX12_spelled 85 = .ok (.lsub, 1) := by decide +kernel
theorem d12_spelled_86 : decode cX12_spelled 86 = .ok (.goto 5, 3) := by decide +kernel
theorem d12_spelled_89 : decode cX12_spelled 89 = .ok (.lload 6, 2) := by decide +kernel
theorem d12_spelled_91 : decode cX12_spelled 91 = .ok (.lstore 6, 2) := by decide +kernel
theorem d12_spelled_93 : decode cX12_spelled 93 = .ok (.iload 5, 2) := by decide +kernel
theorem d12_spelled_95 : decode cX12_spelled 95 = .ok (.ifCond .le 20, 3) := by decide +kernel
theorem d12_spelled_98 : decode cX12_spelled 98 = .ok (.lload 6, 2) := by decide +kernel
theorem d12_spelled_100 : decode cX12_spelled 100 = .ok (.ldc2_w 117, 3) := by decide +kernel
theorem d12_spelled_103 : decode cX12_spelled 103 = .ok (.lmul, 1) := by decide +kernel
theorem d12_spelled_104 : decode cX12_spelled 104 = .ok (.iload 5, 2) := by decide +kernel
theorem d12_spelled_106 : decode cX12_spelled 106 = .ok (.i2l, 1) := by decide +kernel
theorem d12_spelled_107 : decode cX12_spelled 107 = .ok (.ladd, 1) := by decide +kernel
theorem d12_spelled_108 : decode cX12_spelled 108 = .ok (.ldc2_w 119, 3) := by decide +kernel
theorem d12_spelled_111 : decode cX12_spelled 111 = .ok (.lsub, 1) := by decide +kernel
theorem d12_spelled_112 : decode cX12_spelled 112 = .ok (.goto 5, 3) := by decide +kernel
theorem d12_spelled_115 : decode cX12_spelled 115 = .ok (.lload 6, 2) := by decide +kernel
theorem d12_spelled_117 : decode cX12_spelled 117 = .ok (.lreturn, 1) := by decide +kernel
abbrev K12_spelled : CK Int64 := (enL, (some .long), 8, 1, none)
noncomputable def F12_spelled_b91 (l5 : Int32) (s0 : Int64) (σ : Ms) : Option (Int64 × Ms) :=
  if l5 ≤ 0 then (some (s0, σ))
  else (some ((((s0 * (32 : Int64)) + (l5.toInt64)) - (96 : Int64)), σ))
noncomputable def F12_spelled_b65 (l4 : Int32) (l5 : Int32) (s0 : Int64) (σ : Ms) : Option (Int64 × Ms) :=
  if l4 ≤ 0 then (F12_spelled_b91 l5 s0 σ)
  else (F12_spelled_b91 l5 (((s0 * (32 : Int64)) + (l4.toInt64)) - (96 : Int64)) σ)
noncomputable def F12_spelled_b41 (l3 : Int32) (l4 : Int32) (l5 : Int32) (s0 : Int64) (σ : Ms) : Option (Int64 × Ms) :=
  if l3 ≤ 0 then (F12_spelled_b65 l4 l5 s0 σ)
  else (F12_spelled_b65 l4 l5 (((s0 * (32 : Int64)) + (l3.toInt64)) - (96 : Int64)) σ)
noncomputable def F12_spelled (p0 : Int32) (p1 : Int32) (p2 : Int32) (p3 : Int32) (p4 : Int32) (p5 : Int32) (σ : Ms) : Option (Int64 × Ms) :=
  lt (((((p0.toInt64) - (96 : Int64)) * (32 : Int64)) + (p1.toInt64)) - (96 : Int64)) (fun x1 => if p2 ≤ 0 then (F12_spelled_b41 p3 p4 p5 x1 σ)
  else (F12_spelled_b41 p3 p4 p5 (((x1 * (32 : Int64)) + (p2.toInt64)) - (96 : Int64)) σ))
set_option maxRecDepth 100000 in
theorem v12_spelled_b91 (l5 : Int32) (s0 : Int64) (σ : Ms) : VF (K12_spelled) cX12_spelled RX12 (F12_spelled_b91 l5 s0 σ) σ 91 [(5, .int l5)] [.long s0] := by
  unfold F12_spelled_b91
  refine v_lstore (lv' := [(6, .long s0), (5, .int l5)]) d12_spelled_91 (by decide) rfl ?_
  refine v_iload d12_spelled_93 1 rfl ?_
  refine v_if_le (tgt := 115) d12_spelled_95 (by decide) ?_ ?_
  · refine v_lload d12_spelled_115 0 rfl ?_
    exact v_lret d12_spelled_117 rfl rfl
  · refine v_lload d12_spelled_98 0 rfl ?_
    refine v_ldc2 d12_spelled_100 klX12_117 ?_
    refine v_lmul d12_spelled_103 ?_
    refine v_iload d12_spelled_104 1 rfl ?_
    refine v_i2l d12_spelled_106 ?_
    refine v_ladd d12_spelled_107 ?_
    refine v_ldc2 d12_spelled_108 klX12_119 ?_
    refine v_lsub d12_spelled_111 ?_
    refine v_goto (tgt := 117) d12_spelled_112 (by decide) ?_
    exact v_lret d12_spelled_117 rfl rfl
set_option maxRecDepth 100000 in
theorem v12_spelled_b65 (l4 : Int32) (l5 : Int32) (s0 : Int64) (σ : Ms) : VF (K12_spelled) cX12_spelled RX12 (F12_spelled_b65 l4 l5 s0 σ) σ 65 [(4, .int l4), (5, .int l5)] [.long s0] := by
  unfold F12_spelled_b65
  refine v_lstore (lv' := [(6, .long s0), (4, .int l4), (5, .int l5)]) d12_spelled_65 (by decide) rfl ?_
  refine v_iload d12_spelled_67 1 rfl ?_
  refine v_if_le (tgt := 89) d12_spelled_69 (by decide) ?_ ?_
  · refine v_lload d12_spelled_89 0 rfl ?_
    refine v_sub [2] rfl ?_
    exact v12_spelled_b91 l5 s0 σ
  · refine v_lload d12_spelled_72 0 rfl ?_
    refine v_ldc2 d12_spelled_74 klX12_117 ?_
    refine v_lmul d12_spelled_77 ?_
    refine v_iload d12_spelled_78 1 rfl ?_
    refine v_i2l d12_spelled_80 ?_
    refine v_ladd d12_spelled_81 ?_
    refine v_ldc2 d12_spelled_82 klX12_119 ?_
    refine v_lsub d12_spelled_85 ?_
    refine v_goto (tgt := 91) d12_spelled_86 (by decide) ?_
    refine v_sub [2] rfl ?_
    exact v12_spelled_b91 l5 (((s0 * (32 : Int64)) + (l4.toInt64)) - (96 : Int64)) σ
set_option maxRecDepth 100000 in
theorem v12_spelled_b41 (l3 : Int32) (l4 : Int32) (l5 : Int32) (s0 : Int64) (σ : Ms) : VF (K12_spelled) cX12_spelled RX12 (F12_spelled_b41 l3 l4 l5 s0 σ) σ 41 [(3, .int l3), (4, .int l4), (5, .int l5)] [.long s0] := by
  unfold F12_spelled_b41
  refine v_lstore (lv' := [(6, .long s0), (3, .int l3), (4, .int l4), (5, .int l5)]) d12_spelled_41 (by decide) rfl ?_
  refine v_iload_n d12_spelled_43 1 rfl rfl ?_
  refine v_if_le (tgt := 63) d12_spelled_44 (by decide) ?_ ?_
  · refine v_lload d12_spelled_63 0 rfl ?_
    refine v_sub [2, 3] rfl ?_
    exact v12_spelled_b65 l4 l5 s0 σ
  · refine v_lload d12_spelled_47 0 rfl ?_
    refine v_ldc2 d12_spelled_49 klX12_117 ?_
    refine v_lmul d12_spelled_52 ?_
    refine v_iload_n d12_spelled_53 1 rfl rfl ?_
    refine v_i2l d12_spelled_54 ?_
    refine v_ladd d12_spelled_55 ?_
    refine v_ldc2 d12_spelled_56 klX12_119 ?_
    refine v_lsub d12_spelled_59 ?_
    refine v_goto (tgt := 65) d12_spelled_60 (by decide) ?_
    refine v_sub [2, 3] rfl ?_
    exact v12_spelled_b65 l4 l5 (((s0 * (32 : Int64)) + (l3.toInt64)) - (96 : Int64)) σ
set_option maxRecDepth 100000 in
theorem mc12_spelled (p0 : Int32) (p1 : Int32) (p2 : Int32) (p3 : Int32) (p4 : Int32) (p5 : Int32) (σ : Ms) : MC enL yX12_spelled cX12_spelled 8 (some .long) 1 (F12_spelled p0 p1 p2 p3 p4 p5 σ) σ [.int p0, .int p1, .int p2, .int p3, .int p4, .int p5] := by
  refine MC.l (by decide +kernel) (Nat.le_of_ble_eq_true rfl) ?_
  show VF (K12_spelled) cX12_spelled RX12 (F12_spelled p0 p1 p2 p3 p4 p5 σ) σ 0 [(0, .int p0), (1, .int p1), (2, .int p2), (3, .int p3), (4, .int p4), (5, .int p5)] []
  unfold F12_spelled
  refine v_iload_n d12_spelled_0 0 rfl rfl ?_
  refine v_i2l d12_spelled_1 ?_
  refine v_ldc2 d12_spelled_2 klX12_119 ?_
  refine v_lsub d12_spelled_5 ?_
  refine v_ldc2 d12_spelled_6 klX12_117 ?_
  refine v_lmul d12_spelled_9 ?_
  refine v_iload_n d12_spelled_10 1 rfl rfl ?_
  refine v_i2l d12_spelled_11 ?_
  refine v_ladd d12_spelled_12 ?_
  refine v_ldc2 d12_spelled_13 klX12_119 ?_
  refine v_lsub d12_spelled_16 ?_
  refine v_ltl fun x1 => ?_
  refine v_lstore (lv' := [(6, .long x1), (0, .int p0), (1, .int p1), (2, .int p2), (3, .int p3), (4, .int p4), (5, .int p5)]) d12_spelled_17 (by decide) rfl ?_
  refine v_iload_n d12_spelled_19 3 rfl rfl ?_
  refine v_if_le (tgt := 39) d12_spelled_20 (by decide) ?_ ?_
  · refine v_lload d12_spelled_39 0 rfl ?_
    refine v_sub [4, 5, 6] rfl ?_
    exact v12_spelled_b41 p3 p4 p5 x1 σ
  · refine v_lload d12_spelled_23 0 rfl ?_
    refine v_ldc2 d12_spelled_25 klX12_117 ?_
    refine v_lmul d12_spelled_28 ?_
    refine v_iload_n d12_spelled_29 3 rfl rfl ?_
    refine v_i2l d12_spelled_30 ?_
    refine v_ladd d12_spelled_31 ?_
    refine v_ldc2 d12_spelled_32 klX12_119 ?_
    refine v_lsub d12_spelled_35 ?_
    refine v_goto (tgt := 41) d12_spelled_36 (by decide) ?_
    refine v_sub [4, 5, 6] rfl ?_
    exact v12_spelled_b41 p3 p4 p5 (((x1 * (32 : Int64)) + (p2.toInt64)) - (96 : Int64)) σ
