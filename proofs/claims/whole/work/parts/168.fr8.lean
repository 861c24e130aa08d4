theorem fr_F12_stalkOf (N : Nat) (p0 : Int64) (p1 : Int32) (σ : Ms) : FR W12_stalkOf σ (F12_stalkOf N p0 p1 σ) :=
  have hσ := Fr_rfl W12_stalkOf σ
  (FR_ck fun z409 => (FR_lv fun x5 => (FR_ck fun z410 => (FR_if (FR_tr2 (fr_F12_stalkOf_b22 _ _ _ _ _ _) (Sub_rfl _) hσ) (FR_tr2 (fr_F12_stalkOf_b22 _ _ _ _ _ _) (Sub_rfl _) hσ)))))
theorem fr_F12_stalkAt_b55 (N : Nat) (l4 : Int64) (s0 : Int32) (σ : Ms) : FR W12_stalkAt σ (F12_stalkAt_b55 N l4 s0 σ) :=
  have hσ := Fr_rfl W12_stalkAt σ
  (FR_if (FR_if (FR_some hσ) (FR_some hσ)) (FR_bn (fr_F12_refuse _ _) (Sub_of [1] rfl) hσ fun r1 t2 ht2 => (FR_some ht2)))
theorem fr_F12_stalkAt_b42 (N : Nat) (l4 : Int64) (σ : Ms) : FR W12_stalkAt σ (F12_stalkAt_b42 N l4 σ) :=
  have hσ := Fr_rfl W12_stalkAt σ
  (FR_tr2 (fr_F12_stalkAt_b55 _ _ _ _) (Sub_rfl _) hσ)
theorem fr_F12_stalkAt (N : Nat) (p0 : Int32) (p1 : Int32) (p2 : Int32) (σ : Ms) : FR W12_stalkAt σ (F12_stalkAt N p0 p1 p2 σ) :=
  have hσ := Fr_rfl W12_stalkAt σ
  (FR_st (fun t3 ht3 => (FR_st (fun t4 ht4 => (FR_bn (fr_F12_isNumber _ _ _) (Sub_nil _) ht4 fun r5 t6 ht6 => (FR_if (FR_bn (fr_F12_partsOf _ _ _) (Sub_nil _) ht6 fun r7 t8 ht8 => (FR_if (FR_tr2 (fr_F12_stalkAt_b42 _ _ _) (Sub_rfl _) ht8) (FR_if (FR_bn (fr_FJ9_abs_067f4 _ _) (Sub_nil _) ht8 fun r9 t10 ht10 => (FR_bn (fr_F12_stalkOf _ _ _ _) (Sub_nil _) ht10 fun r11 t12 ht12 => (FR_tr2 (fr_F12_stalkAt_b55 _ _ _ _) (Sub_rfl _) ht12))) (FR_tr2 (fr_F12_stalkAt_b42 _ _ _) (Sub_rfl _) ht8)))) (FR_bn (fr_F12_refuse _ _) (Sub_of [1] rfl) ht6 fun r13 t14 ht14 => (FR_some ht14))))) (Fr_sI ht3 (In_o 1 rfl)))) (Fr_sI hσ (In_o 0 rfl)))
theorem fr_F12_stalkWorth_b113B (N : Nat) (k113 : Int32 × Int64 × Int32 × Ms → Option (Int32 × Ms)) (hk113 : ∀ x, FR W12_stalkWorth x.2.2.2 (k113 x)) (l1 : Int32) (l3 : Int64) (l5 : Int32) (σ : Ms) : FR W12_stalkWorth σ (F12_stalkWorth_b113B N k113 l1 l3 l5 σ) :=
  have hσ := Fr_rfl W12_stalkWorth σ
  (FR_if (FR_bn (fr_F12_fraction _ _ _ _) (Sub_of [2, 3] rfl) hσ fun r1 t2 ht2 => (FR_ck fun z411 => (FR_some ht2))) (FR_bn (fr_F12_numberOf _ _ _) (Sub_nil _) hσ fun r3 t4 ht4 => (FR_bn (fr_F12_branchWorth _ _ _ _) (Sub_nil _) ht4 fun r5 t6 ht6 => (FR_tr ht6 (hk113 (l1, r5, (l5 + (-1 : Int32)), t6))))))
theorem fr_F12_stalkWorth_b113 (N : Nat) (l1 : Int32) (l3 : Int64) (l5 : Int32) (σ : Ms) : FR W12_stalkWorth σ (F12_stalkWorth_b113 N l1 l3 l5 σ) := by
  unfold F12_stalkWorth_b113
  exact @FR_fx (Int32 × Int64 × Int32 × Ms) (Int32) W12_stalkWorth (fun k x => F12_stalkWorth_b113B N k x.1 x.2.1 x.2.2.1 x.2.2.2) (fun x => x.2.2.2) (fun k hk x => fr_F12_stalkWorth_b113B N k hk x.1 x.2.1 x.2.2.1 x.2.2.2) N (l1, l3, l5, σ)
theorem fr_F12_stalkWorth_b75B (N : Nat) (k75 : Int32 × Int32 × Int32 × Ms → Option (Int32 × Ms)) (hk75 : ∀ x, FR W12_stalkWorth x.2.2.2 (k75 x)) (l1 : Int32) (l2 : Int32) (l3 : Int32) (σ : Ms) : FR W12_stalkWorth σ (F12_stalkWorth_b75B N k75 l1 l2 l3 σ) :=
  have hσ := Fr_rfl W12_stalkWorth σ
  (FR_if (FR_lv fun x7 => (FR_tr2 (fr_F12_stalkWorth_b113 _ _ _ _ _) (Sub_rfl _) hσ)) (FR_bn (fr_F12_numberOf _ _ _) (Sub_nil _) hσ fun r8 t9 ht9 => (FR_bn (fr_F12_isIn _ _ _ _) (Sub_nil _) ht9 fun r10 t11 ht11 => (FR_if (FR_tr ht11 (hk75 (l1, l2, (l3 + (1 : Int32)), t11))) (FR_bn (fr_F12_no _ _) (Sub_of [1] rfl) ht11 fun r12 t13 ht13 => (FR_ck fun z412 => (FR_some ht13)))))))
theorem fr_F12_stalkWorth_b75 (N : Nat) (l1 : Int32) (l2 : Int32) (l3 : Int32) (σ : Ms) : FR W12_stalkWorth σ (F12_stalkWorth_b75 N l1 l2 l3 σ) := by
  unfold F12_stalkWorth_b75
  exact @FR_fx (Int32 × Int32 × Int32 × Ms) (Int32) W12_stalkWorth (fun k x => F12_stalkWorth_b75B N k x.1 x.2.1 x.2.2.1 x.2.2.2) (fun x => x.2.2.2) (fun k hk x => fr_F12_stalkWorth_b75B N k hk x.1 x.2.1 x.2.2.1 x.2.2.2) N (l1, l2, l3, σ)
theorem fr_F12_stalkWorth (N : Nat) (p0 : Int32) (p1 : Int32) (σ : Ms) : FR W12_stalkWorth σ (F12_stalkWorth N p0 p1 σ) :=
  have hσ := Fr_rfl W12_stalkWorth σ
  (FR_st (fun t14 ht14 => (FR_st (fun t15 ht15 => (FR_bn (fr_F12_isTray _ _) (Sub_nil _) ht15 fun r16 t17 ht17 => (FR_if (FR_ck fun z413 => (FR_if (FR_ck fun z414 => (FR_if (FR_bn (fr_F12_isIn _ _ _ _) (Sub_nil _) ht17 fun r18 t19 ht19 => (FR_if (FR_tr2 (fr_F12_stalkWorth_b75 _ _ _ _ _) (Sub_rfl _) ht19) (FR_bn (fr_F12_no _ _) (Sub_of [1] rfl) ht19 fun r20 t21 ht21 => (FR_ck fun z415 => (FR_some ht21))))) (FR_bn (fr_F12_no _ _) (Sub_of [1] rfl) ht17 fun r22 t23 ht23 => (FR_ck fun z416 => (FR_some ht23))))) (FR_bn (fr_F12_no _ _) (Sub_of [1] rfl) ht17 fun r24 t25 ht25 => (FR_ck fun z417 => (FR_some ht25))))) (FR_bn (fr_F12_no _ _) (Sub_of [1] rfl) ht17 fun r26 t27 ht27 => (FR_ck fun z418 => (FR_some ht27)))))) (Fr_sI ht14 (In_o 1 rfl)))) (Fr_sI hσ (In_o 0 rfl)))
theorem fr_F12_isSet_b62 (N : Nat) (k33 : Int32 × Int32 × Ms → Option (Int32 × Ms)) (hk33 : ∀ x, FR W12_isSet x.2.2 (k33 x)) (l1 : Int32) (l2 : Int32) (σ : Ms) : FR W12_isSet σ (F12_isSet_b62 N k33 l1 l2 σ) :=
  have hσ := Fr_rfl W12_isSet σ
  (FR_tr hσ (hk33 (l1, (l2 + (1 : Int32)), σ)))
theorem fr_F12_isSet_b33B (N : Nat) (k33 : Int32 × Int32 × Ms → Option (Int32 × Ms)) (hk33 : ∀ x, FR W12_isSet x.2.2 (k33 x)) (l1 : Int32) (l2 : Int32) (σ : Ms) : FR W12_isSet σ (F12_isSet_b33B N k33 l1 l2 σ) :=
  have hσ := Fr_rfl W12_isSet σ
  (FR_ck fun z419 => (FR_if (FR_some hσ) (FR_bn (fr_F12_has _ _ _) (Sub_nil _) hσ fun r1 t2 ht2 => (FR_if (FR_tr2 (fr_F12_isSet_b62 _ _ hk33 _ _ _) (Sub_rfl _) ht2) (FR_bn (fr_F12_whyNoBranch _ _ _) (Sub_nil _) ht2 fun r3 t4 ht4 => (FR_if (FR_tr2 (fr_F12_isSet_b62 _ _ hk33 _ _ _) (Sub_rfl _) ht4) (FR_some ht4)))))))
theorem fr_F12_isSet_b33 (N : Nat) (l1 : Int32) (l2 : Int32) (σ : Ms) : FR W12_isSet σ (F12_isSet_b33 N l1 l2 σ) := by
  unfold F12_isSet_b33
  exact @FR_fx (Int32 × Int32 × Ms) (Int32) W12_isSet (fun k x => F12_isSet_b33B N k x.1 x.2.1 x.2.2) (fun x => x.2.2) (fun k hk x => fr_F12_isSet_b33B N k hk x.1 x.2.1 x.2.2) N (l1, l2, σ)
theorem fr_F12_isSet (N : Nat) (p0 : Int32) (σ : Ms) : FR W12_isSet σ (F12_isSet N p0 σ) :=
  have hσ := Fr_rfl W12_isSet σ
  (FR_ck fun z420 => (FR_bn (fr_F12_isIn _ _ _ _) (Sub_nil _) hσ fun r5 t6 ht6 => (FR_if (FR_some ht6) (FR_bn (fr_F12_sizeOf _ _ _) (Sub_nil _) ht6 fun r7 t8 ht8 => (FR_if (FR_tr2 (fr_F12_isSet_b33 _ _ _ _) (Sub_rfl _) ht8) (FR_some ht8))))))
theorem fr_F12_laysWays_b148 (N : Nat) (k40 : Int32 × Int64 × Int32 × Int32 × Ms → Option (Unit × Ms)) (hk40 : ∀ x, FR W12_laysWays x.2.2.2.2 (k40 x)) (l1 : Int32) (l2 : Int64) (l4 : Int32) (l5 : Int32) (σ : Ms) : FR W12_laysWays σ (F12_laysWays_b148 N k40 l1 l2 l4 l5 σ) :=
  have hσ := Fr_rfl W12_laysWays σ
  (FR_lv fun x1 => (FR_tr hσ (hk40 (l1, l2, x1, (l5 + (1 : Int32)), σ))))
theorem fr_F12_laysWays_b140 (N : Nat) (k40 : Int32 × Int64 × Int32 × Int32 × Ms → Option (Unit × Ms)) (hk40 : ∀ x, FR W12_laysWays x.2.2.2.2 (k40 x)) (k97 : Int32 × Int64 × Int32 × Int32 × Int32 × Ms → Option (Unit × Ms)) (hk97 : ∀ x, FR W12_laysWays x.2.2.2.2.2 (k97 x)) (l1 : Int32) (l2 : Int64) (l4 : Int32) (l5 : Int32) (l6 : Int32) (s1 : Int32) (s2 : Int32) (s3 : Int32) (σ : Ms) : FR W12_laysWays σ (F12_laysWays_b140 N k40 k97 l1 l2 l4 l5 l6 s1 s2 s3 σ) :=
  have hσ := Fr_rfl W12_laysWays σ
  (FR_ck fun z421 => (FR_st (fun t2 ht2 => (FR_tr ht2 (hk97 (l1, l2, l4, l5, (l6 + (1 : Int32)), t2)))) (Fr_sI hσ (In_a 0 rfl))))
theorem fr_F12_laysWays_b139 (N : Nat) (k40 : Int32 × Int64 × Int32 × Int32 × Ms → Option (Unit × Ms)) (hk40 : ∀ x, FR W12_laysWays x.2.2.2.2 (k40 x)) (k97 : Int32 × Int64 × Int32 × Int32 × Int32 × Ms → Option (Unit × Ms)) (hk97 : ∀ x, FR W12_laysWays x.2.2.2.2.2 (k97 x)) (l1 : Int32) (l2 : Int64) (l4 : Int32) (l5 : Int32) (l6 : Int32) (s1 : Int32) (s2 : Int32) (σ : Ms) : FR W12_laysWays σ (F12_laysWays_b139 N k40 k97 l1 l2 l4 l5 l6 s1 s2 σ) :=
  have hσ := Fr_rfl W12_laysWays σ
  (FR_tr2 (fr_F12_laysWays_b140 _ _ hk40 _ hk97 _ _ _ _ _ _ _ _ _) (Sub_rfl _) hσ)
theorem fr_F12_laysWays_b97B (N : Nat) (k40 : Int32 × Int64 × Int32 × Int32 × Ms → Option (Unit × Ms)) (hk40 : ∀ x, FR W12_laysWays x.2.2.2.2 (k40 x)) (k97 : Int32 × Int64 × Int32 × Int32 × Int32 × Ms → Option (Unit × Ms)) (hk97 : ∀ x, FR W12_laysWays x.2.2.2.2.2 (k97 x)) (l1 : Int32) (l2 : Int64) (l4 : Int32) (l5 : Int32) (l6 : Int32) (σ : Ms) : FR W12_laysWays σ (F12_laysWays_b97B N k40 k97 l1 l2 l4 l5 l6 σ) :=
  have hσ := Fr_rfl W12_laysWays σ
  (FR_ck fun z422 => (FR_if (FR_tr2 (fr_F12_laysWays_b148 _ _ hk40 _ _ _ _ _) (Sub_rfl _) hσ) (FR_ck fun z423 => (FR_bn (fr_F12_has _ _ _) (Sub_nil _) hσ fun r3 t4 ht4 => (FR_if (FR_tr2 (fr_F12_laysWays_b139 _ _ hk40 _ hk97 _ _ _ _ _ _ _ _) (Sub_rfl _) ht4) (FR_bn (fr_F12_has _ _ _) (Sub_nil _) ht4 fun r5 t6 ht6 => (FR_if (FR_tr2 (fr_F12_laysWays_b139 _ _ hk40 _ hk97 _ _ _ _ _ _ _ _) (Sub_rfl _) ht6) (FR_tr2 (fr_F12_laysWays_b140 _ _ hk40 _ hk97 _ _ _ _ _ _ _ _ _) (Sub_rfl _) ht6))))))))
theorem fr_F12_laysWays_b97 (N : Nat) (k40 : Int32 × Int64 × Int32 × Int32 × Ms → Option (Unit × Ms)) (hk40 : ∀ x, FR W12_laysWays x.2.2.2.2 (k40 x)) (l1 : Int32) (l2 : Int64) (l4 : Int32) (l5 : Int32) (l6 : Int32) (σ : Ms) : FR W12_laysWays σ (F12_laysWays_b97 N k40 l1 l2 l4 l5 l6 σ) := by
  unfold F12_laysWays_b97
  exact @FR_fx (Int32 × Int64 × Int32 × Int32 × Int32 × Ms) (Unit) W12_laysWays (fun k x => F12_laysWays_b97B N k40 k x.1 x.2.1 x.2.2.1 x.2.2.2.1 x.2.2.2.2.1 x.2.2.2.2.2) (fun x => x.2.2.2.2.2) (fun k hk x => fr_F12_laysWays_b97B N k40 hk40 k hk x.1 x.2.1 x.2.2.1 x.2.2.2.1 x.2.2.2.2.1 x.2.2.2.2.2) N (l1, l2, l4, l5, l6, σ)
theorem fr_F12_laysWays_b84 (N : Nat) (k40 : Int32 × Int64 × Int32 × Int32 × Ms → Option (Unit × Ms)) (hk40 : ∀ x, FR W12_laysWays x.2.2.2.2 (k40 x)) (l1 : Int32) (l2 : Int64) (l4 : Int32) (l5 : Int32) (σ : Ms) : FR W12_laysWays σ (F12_laysWays_b84 N k40 l1 l2 l4 l5 σ) :=
  have hσ := Fr_rfl W12_laysWays σ
  (FR_st (fun t7 ht7 => (FR_tr2 (fr_F12_laysWays_b97 _ _ hk40 _ _ _ _ _ _) (Sub_rfl _) ht7)) (Fr_sI hσ (In_o 1 rfl)))
theorem fr_F12_laysWays_b40B (N : Nat) (k40 : Int32 × Int64 × Int32 × Int32 × Ms → Option (Unit × Ms)) (hk40 : ∀ x, FR W12_laysWays x.2.2.2.2 (k40 x)) (l1 : Int32) (l2 : Int64) (l4 : Int32) (l5 : Int32) (σ : Ms) : FR W12_laysWays σ (F12_laysWays_b40B N k40 l1 l2 l4 l5 σ) :=
  have hσ := Fr_rfl W12_laysWays σ
  (FR_bn (fr_F12_sizeOf _ _ _) (Sub_nil _) hσ fun r8 t9 ht9 => (FR_if (FR_some ht9) (FR_bn (fr_F12_standing _ _) (Sub_nil _) ht9 fun r10 t11 ht11 => (FR_bn (fr_F12_laysWorths _ _ _ _ _) (Sub_of [3, 4, 5, 6] rfl) ht11 fun r12 t13 ht13 => (FR_if (FR_tr2 (fr_F12_laysWays_b148 _ _ hk40 _ _ _ _ _) (Sub_rfl _) ht13) (FR_if (FR_tr2 (fr_F12_laysWays_b84 _ _ hk40 _ _ _ _ _) (Sub_rfl _) ht13) (FR_st (fun t14 ht14 => (FR_tr2 (fr_F12_laysWays_b84 _ _ hk40 _ _ _ _ _) (Sub_rfl _) ht14)) (Fr_sI ht13 (In_o 2 rfl)))))))))
theorem fr_F12_laysWays_b40 (N : Nat) (l1 : Int32) (l2 : Int64) (l4 : Int32) (l5 : Int32) (σ : Ms) : FR W12_laysWays σ (F12_laysWays_b40 N l1 l2 l4 l5 σ) := by
  unfold F12_laysWays_b40
  exact @FR_fx (Int32 × Int64 × Int32 × Int32 × Ms) (Unit) W12_laysWays (fun k x => F12_laysWays_b40B N k x.1 x.2.1 x.2.2.1 x.2.2.2.1 x.2.2.2.2) (fun x => x.2.2.2.2) (fun k hk x => fr_F12_laysWays_b40B N k hk x.1 x.2.1 x.2.2.1 x.2.2.2.1 x.2.2.2.2) N (l1, l2, l4, l5, σ)
theorem fr_F12_laysWays_b13B (N : Nat) (k13 : Int32 × Int64 × Int32 × Ms → Option (Unit × Ms)) (hk13 : ∀ x, FR W12_laysWays x.2.2.2 (k13 x)) (l1 : Int32) (l2 : Int64) (l4 : Int32) (σ : Ms) : FR W12_laysWays σ (F12_laysWays_b13B N k13 l1 l2 l4 σ) :=
  have hσ := Fr_rfl W12_laysWays σ
  (FR_if (FR_tr2 (fr_F12_laysWays_b40 _ _ _ _ _ _) (Sub_rfl _) hσ) (FR_ck fun z424 => (FR_st (fun t15 ht15 => (FR_tr ht15 (hk13 (l1, l2, (l4 + (1 : Int32)), t15)))) (Fr_sI hσ (In_a 0 rfl)))))
theorem fr_F12_laysWays_b13 (N : Nat) (l1 : Int32) (l2 : Int64) (l4 : Int32) (σ : Ms) : FR W12_laysWays σ (F12_laysWays_b13 N l1 l2 l4 σ) := by
  unfold F12_laysWays_b13
  exact @FR_fx (Int32 × Int64 × Int32 × Ms) (Unit) W12_laysWays (fun k x => F12_laysWays_b13B N k x.1 x.2.1 x.2.2.1 x.2.2.2) (fun x => x.2.2.2) (fun k hk x => fr_F12_laysWays_b13B N k hk x.1 x.2.1 x.2.2.1 x.2.2.2) N (l1, l2, l4, σ)
theorem fr_F12_laysWays (N : Nat) (p0 : Int32) (p1 : Int64) (σ : Ms) : FR W12_laysWays σ (F12_laysWays N p0 p1 σ) :=
  have hσ := Fr_rfl W12_laysWays σ
  (FR_st (fun t16 ht16 => (FR_st (fun t17 ht17 => (FR_tr2 (fr_F12_laysWays_b13 _ _ _ _ _) (Sub_rfl _) ht17)) (Fr_sI ht16 (In_o 2 rfl)))) (Fr_sI hσ (In_o 1 rfl)))
theorem fr_F12_isAsked_b22 (N : Nat) (l1 : Int32) (l2 : Int32) (l3 : Int32) (s1 : Int32) (σ : Ms) : FR W12_isAsked σ (F12_isAsked_b22 N l1 l2 l3 s1 σ) :=
  have hσ := Fr_rfl W12_isAsked σ
  (FR_st (fun t1 ht1 => (FR_if (FR_bn (fr_F12_partsOf _ _ _) (Sub_nil _) ht1 fun r2 t3 ht3 => (FR_bn (fr_F12_laysWays _ _ _ _) (Sub_of [1, 2, 3, 4, 5, 6, 7] rfl) ht3 fun r4 t5 ht5 => (FR_some ht5))) (FR_some ht1))) (Fr_sI hσ (In_o 0 rfl)))
theorem fr_F12_isAsked_b21 (N : Nat) (l1 : Int32) (l2 : Int32) (l3 : Int32) (σ : Ms) : FR W12_isAsked σ (F12_isAsked_b21 N l1 l2 l3 σ) :=
  have hσ := Fr_rfl W12_isAsked σ
  (FR_tr2 (fr_F12_isAsked_b22 _ _ _ _ _ _) (Sub_rfl _) hσ)
theorem fr_F12_isAsked (N : Nat) (p0 : Int32) (p1 : Int32) (p2 : Int32) (σ : Ms) : FR W12_isAsked σ (F12_isAsked N p0 p1 p2 σ) :=
  have hσ := Fr_rfl W12_isAsked σ
  (FR_bn (fr_F12_isSet _ _ _) (Sub_nil _) hσ fun r6 t7 ht7 => (FR_if (FR_tr2 (fr_F12_isAsked_b21 _ _ _ _ _) (Sub_rfl _) ht7) (FR_bn (fr_F12_isNumber _ _ _) (Sub_nil _) ht7 fun r8 t9 ht9 => (FR_if (FR_tr2 (fr_F12_isAsked_b21 _ _ _ _ _) (Sub_rfl _) ht9) (FR_tr2 (fr_F12_isAsked_b22 _ _ _ _ _ _) (Sub_rfl _) ht9)))))
theorem fr_F12_colourings (N : Nat) (p0 : Int32) (p1 : Int32) (p2 : Int32) (σ : Ms) : FR W12_colourings σ (F12_colourings N p0 p1 p2 σ) :=
  have hσ := Fr_rfl W12_colourings σ
  (FR_st (fun t1 ht1 => (FR_bn (fr_F12_isAsked _ _ _ _ _) (Sub_of [1, 2, 3, 4, 5, 6, 7, 8] rfl) ht1 fun r2 t3 ht3 => (FR_if (FR_some ht3) (FR_some ht3)))) (Fr_sI hσ (In_o 0 rfl)))
theorem fr_F12_firstRed (N : Nat) (p0 : Int32) (p1 : Int32) (p2 : Int32) (σ : Ms) : FR W12_firstRed σ (F12_firstRed N p0 p1 p2 σ) :=
  have hσ := Fr_rfl W12_firstRed σ
  (FR_st (fun t1 ht1 => (FR_bn (fr_F12_isAsked _ _ _ _ _) (Sub_of [1, 2, 3, 4, 5, 6, 7, 8] rfl) ht1 fun r2 t3 ht3 => (FR_if (FR_if (FR_some ht3) (FR_bn (fr_F12_refuse _ _) (Sub_of [1] rfl) ht3 fun r4 t5 ht5 => (FR_some ht5))) (FR_some ht3)))) (Fr_sI hσ (In_o 0 rfl)))
theorem fr_F12_oddsBlue (N : Nat) (p0 : Int32) (p1 : Int32) (p2 : Int32) (p3 : Int32) (σ : Ms) : FR W12_oddsBlue σ (F12_oddsBlue N p0 p1 p2 p3 σ) :=
  have hσ := Fr_rfl W12_oddsBlue σ
  (FR_st (fun t1 ht1 => (FR_bn (fr_F12_isSprigAt _ _) (Sub_nil _) ht1 fun r2 t3 ht3 => (FR_if (FR_bn (fr_F12_isAsked _ _ _ _ _) (Sub_of [1, 2, 3, 4, 5, 6, 7, 8] rfl) ht3 fun r4 t5 ht5 => (FR_if (FR_if (FR_bn (fr_F12_has _ _ _) (Sub_nil _) ht5 fun r6 t7 ht7 => (FR_if (FR_bn (fr_F12_no _ _) (Sub_of [1] rfl) ht7 fun r8 t9 ht9 => (FR_ck fun z425 => (FR_some ht9))) (FR_ck fun z426 => (FR_bn (fr_F12_fraction _ _ _ _) (Sub_of [9, 10] rfl) ht7 fun r10 t11 ht11 => (FR_ck fun z427 => (FR_some ht11)))))) (FR_bn (fr_F12_no _ _) (Sub_of [1] rfl) ht5 fun r12 t13 ht13 => (FR_ck fun z428 => (FR_some ht13)))) (FR_some ht5))) (FR_bn (fr_F12_no _ _) (Sub_of [1] rfl) ht3 fun r14 t15 ht15 => (FR_ck fun z429 => (FR_some ht15)))))) (Fr_sI hσ (In_o 0 rfl)))
theorem fr_F12_ask_b108 (N : Nat) (k41 : Int32 × Int32 × Int32 × Int32 × Ms → Option (Int32 × Ms)) (hk41 : ∀ x, FR W12_ask x.2.2.2.2 (k41 x)) (l1 : Int32) (l4 : Int32) (l5 : Int32) (l6 : Int32) (σ : Ms) : FR W12_ask σ (F12_ask_b108 N k41 l1 l4 l5 l6 σ) :=
  have hσ := Fr_rfl W12_ask σ
  (FR_tr hσ (hk41 (l1, l4, l5, (l6 + (1 : Int32)), σ)))
theorem fr_F12_ask_b100 (N : Nat) (k41 : Int32 × Int32 × Int32 × Int32 × Ms → Option (Int32 × Ms)) (hk41 : ∀ x, FR W12_ask x.2.2.2.2 (k41 x)) (l1 : Int32) (l6 : Int32) (l7 : Int32) (σ : Ms) : FR W12_ask σ (F12_ask_b100 N k41 l1 l6 l7 σ) :=
  have hσ := Fr_rfl W12_ask σ
  (FR_tr2 (fr_F12_ask_b108 _ _ hk41 _ _ _ _ _) (Sub_rfl _) hσ)
theorem fr_F12_ask_b41B (N : Nat) (k41 : Int32 × Int32 × Int32 × Int32 × Ms → Option (Int32 × Ms)) (hk41 : ∀ x, FR W12_ask x.2.2.2.2 (k41 x)) (l1 : Int32) (l4 : Int32) (l5 : Int32) (l6 : Int32) (σ : Ms) : FR W12_ask σ (F12_ask_b41B N k41 l1 l4 l5 l6 σ) :=
  have hσ := Fr_rfl W12_ask σ
  (FR_ck fun z430 => (FR_if (FR_some hσ) (FR_ck fun z431 => (FR_ck fun z432 => (FR_bn (fr_FJ9_max_7cf53 _ _ _) (Sub_nil _) hσ fun r1 t2 ht2 => (FR_bn (fr_F12_has _ _ _) (Sub_nil _) ht2 fun r3 t4 ht4 => (FR_if (FR_tr2 (fr_F12_ask_b108 _ _ hk41 _ _ _ _ _) (Sub_rfl _) ht4) (FR_if (FR_tr2 (fr_F12_ask_b100 _ _ hk41 _ _ _ _) (Sub_rfl _) ht4) (FR_if (FR_tr2 (fr_F12_ask_b100 _ _ hk41 _ _ _ _) (Sub_rfl _) ht4) (FR_tr2 (fr_F12_ask_b108 _ _ hk41 _ _ _ _ _) (Sub_rfl _) ht4))))))))))
theorem fr_F12_ask_b41 (N : Nat) (l1 : Int32) (l4 : Int32) (l5 : Int32) (l6 : Int32) (σ : Ms) : FR W12_ask σ (F12_ask_b41 N l1 l4 l5 l6 σ) := by
  unfold F12_ask_b41
  exact @FR_fx (Int32 × Int32 × Int32 × Int32 × Ms) (Int32) W12_ask (fun k x => F12_ask_b41B N k x.1 x.2.1 x.2.2.1 x.2.2.2.1 x.2.2.2.2) (fun x => x.2.2.2.2) (fun k hk x => fr_F12_ask_b41B N k hk x.1 x.2.1 x.2.2.1 x.2.2.2.1 x.2.2.2.2) N (l1, l4, l5, l6, σ)
theorem fr_F12_ask (N : Nat) (p0 : Int32) (p1 : Int32) (p2 : Int32) (σ : Ms) : FR W12_ask σ (F12_ask N p0 p1 p2 σ) :=
  have hσ := Fr_rfl W12_ask σ
  (FR_st (fun t5 ht5 => (FR_bn (fr_F12_isAsked _ _ _ _ _) (Sub_of [1, 2, 3, 4, 5, 6, 7, 8] rfl) ht5 fun r6 t7 ht7 => (FR_if (FR_if (FR_tr2 (fr_F12_ask_b41 _ _ _ _ _ _) (Sub_rfl _) ht7) (FR_bn (fr_F12_refuse _ _) (Sub_of [1] rfl) ht7 fun r8 t9 ht9 => (FR_some ht9))) (FR_some ht7)))) (Fr_sI hσ (In_o 0 rfl)))
theorem fr_F12_isBalanced (N : Nat) (p0 : Int32) (σ : Ms) : FR W12_isBalanced σ (F12_isBalanced N p0 σ) :=
  have hσ := Fr_rfl W12_isBalanced σ
  (FR_bn (fr_F12_standing _ _) (Sub_nil _) hσ fun r1 t2 ht2 => (FR_if (FR_bn (fr_F12_standing _ _) (Sub_nil _) ht2 fun r3 t4 ht4 => (FR_bn (fr_F12_standsBut _ _ _ _) (Sub_nil _) ht4 fun r5 t6 ht6 => (FR_bn (fr_F12_laysWorths _ _ _ _ _) (Sub_of [0, 1, 2, 3] rfl) ht6 fun r7 t8 ht8 => (FR_if (FR_some ht8) (FR_if (FR_some ht8) (FR_some ht8)))))) (FR_some ht2)))
theorem fr_F12_balances_b116B (N : Nat) (k97 : Int32 × Ms → Option (Int32 × Ms)) (hk97 : ∀ x, FR W12_balances x.2 (k97 x)) (k109 : Int32 × Int32 × Ms → Option (Int32 × Ms)) (hk109 : ∀ x, FR W12_balances x.2.2 (k109 x)) (k116 : Int32 × Int32 × Int32 × Ms → Option (Int32 × Ms)) (hk116 : ∀ x, FR W12_balances x.2.2.2 (k116 x)) (l1 : Int32) (l2 : Int32) (l3 : Int32) (σ : Ms) : FR W12_balances σ (F12_balances_b116B N k97 k109 k116 l1 l2 l3 σ) :=
  have hσ := Fr_rfl W12_balances σ
  (FR_if (FR_tr hσ (hk109 (l1, (l2 + (1 : Int32)), σ))) (FR_bn (fr_F12_isBalanced _ _ _) (Sub_of [0, 1, 2, 3] rfl) hσ fun r1 t2 ht2 => (FR_if (FR_tr ht2 (hk116 (l1, l2, (l3 + (1 : Int32)), t2))) (FR_some ht2))))
theorem fr_F12_balances_b116 (N : Nat) (k97 : Int32 × Ms → Option (Int32 × Ms)) (hk97 : ∀ x, FR W12_balances x.2 (k97 x)) (k109 : Int32 × Int32 × Ms → Option (Int32 × Ms)) (hk109 : ∀ x, FR W12_balances x.2.2 (k109 x)) (l1 : Int32) (l2 : Int32) (l3 : Int32) (σ : Ms) : FR W12_balances σ (F12_balances_b116 N k97 k109 l1 l2 l3 σ) := by
  unfold F12_balances_b116
  exact @FR_fx (Int32 × Int32 × Int32 × Ms) (Int32) W12_balances (fun k x => F12_balances_b116B N k97 k109 k x.1 x.2.1 x.2.2.1 x.2.2.2) (fun x => x.2.2.2) (fun k hk x => fr_F12_balances_b116B N k97 hk97 k109 hk109 k hk x.1 x.2.1 x.2.2.1 x.2.2.2) N (l1, l2, l3, σ)
theorem fr_F12_balances_b109B (N : Nat) (k97 : Int32 × Ms → Option (Int32 × Ms)) (hk97 : ∀ x, FR W12_balances x.2 (k97 x)) (k109 : Int32 × Int32 × Ms → Option (Int32 × Ms)) (hk109 : ∀ x, FR W12_balances x.2.2 (k109 x)) (l1 : Int32) (l2 : Int32) (σ : Ms) : FR W12_balances σ (F12_balances_b109B N k97 k109 l1 l2 σ) :=
  have hσ := Fr_rfl W12_balances σ
  (FR_if (FR_tr hσ (hk97 ((l1 + (1 : Int32)), σ))) (FR_tr2 (fr_F12_balances_b116 _ _ hk97 _ hk109 _ _ _ _) (Sub_rfl _) hσ))
theorem fr_F12_balances_b109 (N : Nat) (k97 : Int32 × Ms → Option (Int32 × Ms)) (hk97 : ∀ x, FR W12_balances x.2 (k97 x)) (l1 : Int32) (l2 : Int32) (σ : Ms) : FR W12_balances σ (F12_balances_b109 N k97 l1 l2 σ) := by
  unfold F12_balances_b109
  exact @FR_fx (Int32 × Int32 × Ms) (Int32) W12_balances (fun k x => F12_balances_b109B N k97 k x.1 x.2.1 x.2.2) (fun x => x.2.2) (fun k hk x => fr_F12_balances_b109B N k97 hk97 k hk x.1 x.2.1 x.2.2) N (l1, l2, σ)
theorem fr_F12_balances_b97B (N : Nat) (k97 : Int32 × Ms → Option (Int32 × Ms)) (hk97 : ∀ x, FR W12_balances x.2 (k97 x)) (l1 : Int32) (σ : Ms) : FR W12_balances σ (F12_balances_b97B N k97 l1 σ) :=
  have hσ := Fr_rfl W12_balances σ
  (FR_ck fun z433 => (FR_if (FR_some hσ) (FR_tr2 (fr_F12_balances_b109 _ _ hk97 _ _ _) (Sub_rfl _) hσ)))
theorem fr_F12_balances_b97 (N : Nat) (l1 : Int32) (σ : Ms) : FR W12_balances σ (F12_balances_b97 N l1 σ) := by
  unfold F12_balances_b97
  exact @FR_fx (Int32 × Ms) (Int32) W12_balances (fun k x => F12_balances_b97B N k x.1 x.2) (fun x => x.2) (fun k hk x => fr_F12_balances_b97B N k hk x.1 x.2) N (l1, σ)
theorem fr_F12_balances_b56B (N : Nat) (k44 : Int32 × Ms → Option (Int32 × Ms)) (hk44 : ∀ x, FR W12_balances x.2 (k44 x)) (k56 : Int32 × Int32 × Ms → Option (Int32 × Ms)) (hk56 : ∀ x, FR W12_balances x.2.2 (k56 x)) (l1 : Int32) (l2 : Int32) (σ : Ms) : FR W12_balances σ (F12_balances_b56B N k44 k56 l1 l2 σ) :=
  have hσ := Fr_rfl W12_balances σ
  (FR_if (FR_tr hσ (hk44 ((l1 + (1 : Int32)), σ))) (FR_bn (fr_F12_isBalanced _ _ _) (Sub_of [0, 1, 2, 3] rfl) hσ fun r3 t4 ht4 => (FR_if (FR_tr ht4 (hk56 (l1, (l2 + (1 : Int32)), t4))) (FR_some ht4))))
theorem fr_F12_balances_b56 (N : Nat) (k44 : Int32 × Ms → Option (Int32 × Ms)) (hk44 : ∀ x, FR W12_balances x.2 (k44 x)) (l1 : Int32) (l2 : Int32) (σ : Ms) : FR W12_balances σ (F12_balances_b56 N k44 l1 l2 σ) := by
  unfold F12_balances_b56
  exact @FR_fx (Int32 × Int32 × Ms) (Int32) W12_balances (fun k x => F12_balances_b56B N k44 k x.1 x.2.1 x.2.2) (fun x => x.2.2) (fun k hk x => fr_F12_balances_b56B N k44 hk44 k hk x.1 x.2.1 x.2.2) N (l1, l2, σ)
theorem fr_F12_balances_b44B (N : Nat) (k44 : Int32 × Ms → Option (Int32 × Ms)) (hk44 : ∀ x, FR W12_balances x.2 (k44 x)) (l1 : Int32) (σ : Ms) : FR W12_balances σ (F12_balances_b44B N k44 l1 σ) :=
  have hσ := Fr_rfl W12_balances σ
  (FR_ck fun z434 => (FR_if (FR_tr2 (fr_F12_balances_b97 _ _ _) (Sub_rfl _) hσ) (FR_tr2 (fr_F12_balances_b56 _ _ hk44 _ _ _) (Sub_rfl _) hσ)))
theorem fr_F12_balances_b44 (N : Nat) (l1 : Int32) (σ : Ms) : FR W12_balances σ (F12_balances_b44 N l1 σ) := by
  unfold F12_balances_b44
  exact @FR_fx (Int32 × Ms) (Int32) W12_balances (fun k x => F12_balances_b44B N k x.1 x.2) (fun x => x.2) (fun k hk x => fr_F12_balances_b44B N k hk x.1 x.2) N (l1, σ)
theorem fr_F12_balances_b12B (N : Nat) (k12 : Int32 × Ms → Option (Int32 × Ms)) (hk12 : ∀ x, FR W12_balances x.2 (k12 x)) (l1 : Int32) (σ : Ms) : FR W12_balances σ (F12_balances_b12B N k12 l1 σ) :=
  have hσ := Fr_rfl W12_balances σ
  (FR_ck fun z435 => (FR_if (FR_tr2 (fr_F12_balances_b44 _ _ _) (Sub_rfl _) hσ) (FR_bn (fr_F12_isBalanced _ _ _) (Sub_of [0, 1, 2, 3] rfl) hσ fun r5 t6 ht6 => (FR_if (FR_tr ht6 (hk12 ((l1 + (1 : Int32)), t6))) (FR_some ht6)))))
theorem fr_F12_balances_b12 (N : Nat) (l1 : Int32) (σ : Ms) : FR W12_balances σ (F12_balances_b12 N l1 σ) := by
  unfold F12_balances_b12
  exact @FR_fx (Int32 × Ms) (Int32) W12_balances (fun k x => F12_balances_b12B N k x.1 x.2) (fun x => x.2) (fun k hk x => fr_F12_balances_b12B N k hk x.1 x.2) N (l1, σ)
theorem fr_F12_balances (N : Nat) (σ : Ms) : FR W12_balances σ (F12_balances N σ) :=
  have hσ := Fr_rfl W12_balances σ
  (FR_bn (fr_F12_isBalanced _ _ _) (Sub_of [0, 1, 2, 3] rfl) hσ fun r7 t8 ht8 => (FR_if (FR_tr2 (fr_F12_balances_b12 _ _ _) (Sub_rfl _) ht8) (FR_some ht8)))
theorem fr_F12_balance (N : Nat) (σ : Ms) : FR W12_balance σ (F12_balance N σ) :=
  have hσ := Fr_rfl W12_balance σ
  (FR_st (fun t1 ht1 => (FR_st (fun t2 ht2 => (FR_bn (fr_F12_balances _ _) (Sub_of [2, 3, 4, 5] rfl) ht2 fun r3 t4 ht4 => (FR_if (FR_bn (fr_F12_sizeOf _ _ _) (Sub_nil _) ht4 fun r5 t6 ht6 => (FR_some ht6)) (FR_bn (fr_F12_refuse _ _) (Sub_of [1] rfl) ht4 fun r7 t8 ht8 => (FR_some ht8))))) (Fr_sI ht1 (In_o 1 rfl)))) (Fr_sI hσ (In_o 0 rfl)))
theorem fr_F12_balanceSet (N : Nat) (σ : Ms) : FR W12_balanceSet σ (F12_balanceSet N σ) :=
  have hσ := Fr_rfl W12_balanceSet σ
  (FR_st (fun t1 ht1 => (FR_st (fun t2 ht2 => (FR_bn (fr_F12_balances _ _) (Sub_of [2, 3, 4, 5] rfl) ht2 fun r3 t4 ht4 => (FR_if (FR_some ht4) (FR_bn (fr_F12_refuse _ _) (Sub_of [1] rfl) ht4 fun r5 t6 ht6 => (FR_some ht6))))) (Fr_sI ht1 (In_o 1 rfl)))) (Fr_sI hσ (In_o 0 rfl)))
theorem fr_F12_commonOf (p0 : Int32) (σ : Ms) : FR W12_commonOf σ (F12_commonOf p0 σ) :=
  have hσ := Fr_rfl W12_commonOf σ
  (FR_if (FR_if (FR_if (FR_if (FR_some hσ) (FR_some hσ)) (FR_some hσ)) (FR_some hσ)) (FR_some hσ))
theorem fr_F12_wholeOf_b4B (N : Nat) (k4 : Int32 × Int64 × Int32 × Ms → Option (Int64 × Ms)) (hk4 : ∀ x, FR W12_wholeOf x.2.2.2 (k4 x)) (l0 : Int32) (l1 : Int64) (l3 : Int32) (σ : Ms) : FR W12_wholeOf σ (F12_wholeOf_b4B N k4 l0 l1 l3 σ) :=
  have hσ := Fr_rfl W12_wholeOf σ
  (FR_if (FR_some hσ) (FR_bn (fr_F12_commonOf _ _) (Sub_nil _) hσ fun r1 t2 ht2 => (FR_lv fun x3 => (FR_tr ht2 (hk4 (l0, x3, (l3 + (1 : Int32)), t2))))))
theorem fr_F12_wholeOf_b4 (N : Nat) (l0 : Int32) (l1 : Int64) (l3 : Int32) (σ : Ms) : FR W12_wholeOf σ (F12_wholeOf_b4 N l0 l1 l3 σ) := by
  unfold F12_wholeOf_b4
  exact @FR_fx (Int32 × Int64 × Int32 × Ms) (Int64) W12_wholeOf (fun k x => F12_wholeOf_b4B N k x.1 x.2.1 x.2.2.1 x.2.2.2) (fun x => x.2.2.2) (fun k hk x => fr_F12_wholeOf_b4B N k hk x.1 x.2.1 x.2.2.1 x.2.2.2) N (l0, l1, l3, σ)
theorem fr_F12_wholeOf (N : Nat) (p0 : Int32) (σ : Ms) : FR W12_wholeOf σ (F12_wholeOf N p0 σ) :=
  have hσ := Fr_rfl W12_wholeOf σ
  (FR_tr2 (fr_F12_wholeOf_b4 _ _ _ _ _) (Sub_rfl _) hσ)
theorem fr_F12_luckOf_b91 (N : Nat) (r12_luckOf : Int32 → Int32 → Ms → Option (Int64 × Ms)) (hr12_luckOf : ∀ a0 a1 s, FR W12_luckOf s (r12_luckOf a0 a1 s)) (k14 : Int32 × Int32 × Int32 × Int32 × Int64 × Int32 × Ms → Option (Int64 × Ms)) (hk14 : ∀ x, FR W12_luckOf x.2.2.2.2.2.2 (k14 x)) (l1 : Int32) (l2 : Int32) (l3 : Int32) (l4 : Int32) (l5 : Int64) (l7 : Int32) (σ : Ms) : FR W12_luckOf σ (F12_luckOf_b91 N r12_luckOf k14 l1 l2 l3 l4 l5 l7 σ) :=
  have hσ := Fr_rfl W12_luckOf σ
  (FR_tr hσ (hk14 (l1, l2, l3, l4, l5, (l7 + (1 : Int32)), σ)))
theorem fr_F12_luckOf_b14B (N : Nat) (r12_luckOf : Int32 → Int32 → Ms → Option (Int64 × Ms)) (hr12_luckOf : ∀ a0 a1 s, FR W12_luckOf s (r12_luckOf a0 a1 s)) (k14 : Int32 × Int32 × Int32 × Int32 × Int64 × Int32 × Ms → Option (Int64 × Ms)) (hk14 : ∀ x, FR W12_luckOf x.2.2.2.2.2.2 (k14 x)) (l1 : Int32) (l2 : Int32) (l3 : Int32) (l4 : Int32) (l5 : Int64) (l7 : Int32) (σ : Ms) : FR W12_luckOf σ (F12_luckOf_b14B N r12_luckOf k14 l1 l2 l3 l4 l5 l7 σ) :=
  have hσ := Fr_rfl W12_luckOf σ
  (FR_ck fun z436 => (FR_if (FR_if (FR_bn (fr_F12_commonOf _ _) (Sub_nil _) hσ fun r1 t2 ht2 => (FR_ck fun z437 => (FR_some ht2))) (FR_if (FR_bn (fr_F12_wholeOf _ _ _) (Sub_nil _) hσ fun r3 t4 ht4 => (FR_some ht4)) (FR_some hσ))) (FR_bn (fr_F12_has _ _ _) (Sub_nil _) hσ fun r5 t6 ht6 => (FR_if (FR_tr2 (fr_F12_luckOf_b91 _ _ hr12_luckOf _ hk14 _ _ _ _ _ _ _) (Sub_rfl _) ht6) (FR_bn (fr_F12_may _ _ _) (Sub_nil _) ht6 fun r7 t8 ht8 => (FR_if (FR_bn (fr_F12_standsBut _ _ _ _) (Sub_nil _) ht8 fun r9 t10 ht10 => (FR_bn (hr12_luckOf _ _ _) (Sub_rfl _) ht10 fun r11 t12 ht12 => (FR_bn (fr_F12_wholeOf _ _ _) (Sub_nil _) ht12 fun r13 t14 ht14 => (FR_bn (fr_F12_sizeOf _ _ _) (Sub_nil _) ht14 fun r15 t16 ht16 => (FR_bn (fr_F12_wholeOf _ _ _) (Sub_nil _) ht16 fun r17 t18 ht18 => (FR_ck fun z438 => (FR_lv fun x19 => (FR_tr2 (fr_F12_luckOf_b91 _ _ hr12_luckOf _ hk14 _ _ _ _ _ _ _) (Sub_rfl _) ht18)))))))) (FR_tr2 (fr_F12_luckOf_b91 _ _ hr12_luckOf _ hk14 _ _ _ _ _ _ _) (Sub_rfl _) ht8)))))))
theorem fr_F12_luckOf_b14 (N : Nat) (r12_luckOf : Int32 → Int32 → Ms → Option (Int64 × Ms)) (hr12_luckOf : ∀ a0 a1 s, FR W12_luckOf s (r12_luckOf a0 a1 s)) (l1 : Int32) (l2 : Int32) (l3 : Int32) (l4 : Int32) (l5 : Int64) (l7 : Int32) (σ : Ms) : FR W12_luckOf σ (F12_luckOf_b14 N r12_luckOf l1 l2 l3 l4 l5 l7 σ) := by
  unfold F12_luckOf_b14
  exact @FR_fx (Int32 × Int32 × Int32 × Int32 × Int64 × Int32 × Ms) (Int64) W12_luckOf (fun k x => F12_luckOf_b14B N r12_luckOf k x.1 x.2.1 x.2.2.1 x.2.2.2.1 x.2.2.2.2.1 x.2.2.2.2.2.1 x.2.2.2.2.2.2) (fun x => x.2.2.2.2.2.2) (fun k hk x => fr_F12_luckOf_b14B N r12_luckOf hr12_luckOf k hk x.1 x.2.1 x.2.2.1 x.2.2.2.1 x.2.2.2.2.1 x.2.2.2.2.2.1 x.2.2.2.2.2.2) N (l1, l2, l3, l4, l5, l7, σ)
theorem fr_F12_luckOfB (N : Nat) (r12_luckOf : Int32 → Int32 → Ms → Option (Int64 × Ms)) (hr12_luckOf : ∀ a0 a1 s, FR W12_luckOf s (r12_luckOf a0 a1 s)) (p0 : Int32) (p1 : Int32) (σ : Ms) : FR W12_luckOf σ (F12_luckOfB N r12_luckOf p0 p1 σ) :=
  have hσ := Fr_rfl W12_luckOf σ
  (FR_bn (fr_F12_sizeOf _ _ _) (Sub_nil _) hσ fun r20 t21 ht21 => (FR_tr2 (fr_F12_luckOf_b14 _ _ hr12_luckOf _ _ _ _ _ _ _) (Sub_rfl _) ht21))
theorem fr_F12_luckOf (N D : Nat) (p0 p1 : Int32) (σ : Ms) : FR W12_luckOf σ (F12_luckOf N D p0 p1 σ) := by
  induction D generalizing p0 p1 σ with
  | zero => exact FR_none
  | succ D ih => exact fr_F12_luckOfB N _ ih p0 p1 σ
theorem fr_F12_luck_b100 (N : Nat) (k69 : Int32 × Int32 × Int32 × Ms → Option (Int32 × Ms)) (hk69 : ∀ x, FR W12_luck x.2.2.2 (k69 x)) (l1 : Int32) (l3 : Int32) (s0 : Int32) (σ : Ms) : FR W12_luck σ (F12_luck_b100 N k69 l1 l3 s0 σ) :=
  have hσ := Fr_rfl W12_luck σ
  (FR_tr hσ (hk69 (l1, s0, (l3 + (1 : Int32)), σ)))
theorem fr_F12_luck_b99 (N : Nat) (k69 : Int32 × Int32 × Int32 × Ms → Option (Int32 × Ms)) (hk69 : ∀ x, FR W12_luck x.2.2.2 (k69 x)) (l1 : Int32) (l3 : Int32) (σ : Ms) : FR W12_luck σ (F12_luck_b99 N k69 l1 l3 σ) :=
  have hσ := Fr_rfl W12_luck σ
  (FR_tr2 (fr_F12_luck_b100 _ _ hk69 _ _ _ _) (Sub_rfl _) hσ)
theorem fr_F12_luck_b69B (N : Nat) (k69 : Int32 × Int32 × Int32 × Ms → Option (Int32 × Ms)) (hk69 : ∀ x, FR W12_luck x.2.2.2 (k69 x)) (l1 : Int32) (l2 : Int32) (l3 : Int32) (σ : Ms) : FR W12_luck σ (F12_luck_b69B N k69 l1 l2 l3 σ) :=
  have hσ := Fr_rfl W12_luck σ
  (FR_ck fun z439 => (FR_if (FR_if (FR_bn (fr_F12_no _ _) (Sub_of [1] rfl) hσ fun r1 t2 ht2 => (FR_ck fun z440 => (FR_some ht2))) (FR_bn (fr_F12_standing _ _) (Sub_nil _) hσ fun r3 t4 ht4 => (FR_bn (fr_F12_luckOf _ _ _ _ _) (Sub_nil _) ht4 fun r5 t6 ht6 => (FR_bn (fr_F12_standing _ _) (Sub_nil _) ht6 fun r7 t8 ht8 => (FR_bn (fr_F12_sizeOf _ _ _) (Sub_nil _) ht8 fun r9 t10 ht10 => (FR_bn (fr_F12_wholeOf _ _ _) (Sub_nil _) ht10 fun r11 t12 ht12 => (FR_bn (fr_F12_fraction _ _ _ _) (Sub_of [2, 3] rfl) ht12 fun r13 t14 ht14 => (FR_ck fun z441 => (FR_some ht14))))))))) (FR_if (FR_tr2 (fr_F12_luck_b99 _ _ hk69 _ _ _) (Sub_rfl _) hσ) (FR_ck fun z442 => (FR_if (FR_tr2 (fr_F12_luck_b99 _ _ hk69 _ _ _) (Sub_rfl _) hσ) (FR_tr2 (fr_F12_luck_b100 _ _ hk69 _ _ _ _) (Sub_rfl _) hσ))))))
theorem fr_F12_luck_b69 (N : Nat) (l1 : Int32) (l2 : Int32) (l3 : Int32) (σ : Ms) : FR W12_luck σ (F12_luck_b69 N l1 l2 l3 σ) := by
  unfold F12_luck_b69
  exact @FR_fx (Int32 × Int32 × Int32 × Ms) (Int32) W12_luck (fun k x => F12_luck_b69B N k x.1 x.2.1 x.2.2.1 x.2.2.2) (fun x => x.2.2.2) (fun k hk x => fr_F12_luck_b69B N k hk x.1 x.2.1 x.2.2.1 x.2.2.2) N (l1, l2, l3, σ)
theorem fr_F12_luck_b66 (N : Nat) (l1 : Int32) (s0 : Int32) (σ : Ms) : FR W12_luck σ (F12_luck_b66 N l1 s0 σ) :=
  have hσ := Fr_rfl W12_luck σ
  (FR_tr2 (fr_F12_luck_b69 _ _ _ _ _) (Sub_rfl _) hσ)
theorem fr_F12_luck_b65 (N : Nat) (l1 : Int32) (σ : Ms) : FR W12_luck σ (F12_luck_b65 N l1 σ) :=
  have hσ := Fr_rfl W12_luck σ
  (FR_tr2 (fr_F12_luck_b66 _ _ _ _) (Sub_rfl _) hσ)
theorem fr_F12_luck (N : Nat) (p0 : Int32) (σ : Ms) : FR W12_luck σ (F12_luck N p0 σ) :=
  have hσ := Fr_rfl W12_luck σ
  (FR_st (fun t15 ht15 => (FR_st (fun t16 ht16 => (FR_bn (fr_F12_isSideAt _ _) (Sub_nil _) ht16 fun r17 t18 ht18 => (FR_if (FR_bn (fr_F12_standing _ _) (Sub_nil _) ht18 fun r19 t20 ht20 => (FR_bn (fr_F12_sizeOf _ _ _) (Sub_nil _) ht20 fun r21 t22 ht22 => (FR_if (FR_tr2 (fr_F12_luck_b65 _ _ _) (Sub_rfl _) ht22) (FR_bn (fr_F12_taken _ _) (Sub_nil _) ht22 fun r23 t24 ht24 => (FR_ck fun z443 => (FR_if (FR_tr2 (fr_F12_luck_b65 _ _ _) (Sub_rfl _) ht24) (FR_ck fun z444 => (FR_if (FR_tr2 (fr_F12_luck_b65 _ _ _) (Sub_rfl _) ht24) (FR_tr2 (fr_F12_luck_b66 _ _ _ _) (Sub_rfl _) ht24))))))))) (FR_bn (fr_F12_no _ _) (Sub_of [1] rfl) ht18 fun r25 t26 ht26 => (FR_ck fun z445 => (FR_some ht26)))))) (Fr_sI ht15 (In_o 1 rfl)))) (Fr_sI hσ (In_o 0 rfl)))
theorem fr_F12_draw (p0 : Int32) (σ : Ms) : FR W12_draw σ (F12_draw p0 σ) :=
  have hσ := Fr_rfl W12_draw σ
  (FR_ck fun z446 => (FR_st (fun t1 ht1 => (FR_ck fun z447 => (FR_ck fun z448 => (FR_some ht1)))) (Fr_sI hσ (In_o 0 rfl))))
theorem fr_F12_isCut (N : Nat) (p0 : Int32) (p1 : Int32) (σ : Ms) : FR W12_isCut σ (F12_isCut N p0 p1 σ) :=
  have hσ := Fr_rfl W12_isCut σ
  (FR_bn (fr_F12_cuts _ _ _ _) (Sub_of [1] rfl) hσ fun r1 t2 ht2 => (FR_bn (fr_FJ9_max_7cf53 _ _ _) (Sub_nil _) ht2 fun r3 t4 ht4 => (FR_st (fun t5 ht5 => (FR_if (FR_some ht5) (FR_some ht5))) (Fr_sI ht4 (In_o 0 rfl)))))
theorem fr_F12_isGrown (p0 : Int32) (p1 : Int32) (σ : Ms) : FR W12_isGrown σ (F12_isGrown p0 p1 σ) :=
  have hσ := Fr_rfl W12_isGrown σ
  (FR_ck fun z449 => (FR_if (FR_some hσ) (FR_ck fun z450 => (FR_if (FR_some hσ) (FR_bn (fr_F12_canGrow _ _ _) (Sub_nil _) hσ fun r1 t2 ht2 => (FR_if (FR_bn (fr_F12_grows _ _ _ _) (Sub_of [1] rfl) ht2 fun r3 t4 ht4 => (FR_st (fun t5 ht5 => (FR_some ht5)) (Fr_sI ht4 (In_o 0 rfl)))) (FR_some ht2)))))))
theorem fr_F12_isAny (N : Nat) (σ : Ms) : FR W12_isAny σ (F12_isAny N σ) :=
  have hσ := Fr_rfl W12_isAny σ
  (FR_ck fun z451 => (FR_if (FR_bn (fr_F12_draw _ _) (Sub_of [0] rfl) hσ fun r1 t2 ht2 => (FR_ck fun z452 => (FR_bn (fr_F12_draw _ _) (Sub_of [0] rfl) ht2 fun r3 t4 ht4 => (FR_bn (fr_F12_isCut _ _ _ _) (Sub_of [1, 2] rfl) ht4 fun r5 t6 ht6 => (FR_ck fun z453 => (FR_some ht6)))))) (FR_some hσ)))
theorem fr_F12_does (N : Nat) (p0 : Int32) (σ : Ms) : FR W12_does σ (F12_does N p0 σ) :=
  have hσ := Fr_rfl W12_does σ
  (FR_ck fun z454 => (FR_lv fun x1 => (FR_ck fun z455 => (FR_lv fun x2 => (FR_if (FR_if (FR_if (FR_if (FR_bn (fr_F12_isAny _ _) (Sub_of [0, 1, 2] rfl) hσ fun r3 t4 ht4 => (FR_ck fun z456 => (FR_some ht4))) (FR_ck fun z457 => (FR_bn (fr_F12_isGrown _ _ _) (Sub_of [3, 2] rfl) hσ fun r5 t6 ht6 => (FR_ck fun z458 => (FR_some ht6))))) (FR_ck fun z459 => (FR_bn (fr_F12_lessens _ _ _) (Sub_of [2] rfl) hσ fun r7 t8 ht8 => (FR_ck fun z460 => (FR_some ht8))))) (FR_ck fun z461 => (FR_bn (fr_F12_takes _ _ _) (Sub_of [2] rfl) hσ fun r9 t10 ht10 => (FR_ck fun z462 => (FR_some ht10))))) (FR_ck fun z463 => (FR_bn (fr_F12_isCut _ _ _ _) (Sub_of [1, 2] rfl) hσ fun r11 t12 ht12 => (FR_ck fun z464 => (FR_some ht12)))))))))
theorem fr_F12_holds_b124 (N : Nat) (l1 : Int32) (l4 : Int64) (s0 : Int64) (σ : Ms) : FR W12_holds σ (F12_holds_b124 N l1 l4 s0 σ) :=
  have hσ := Fr_rfl W12_holds σ
  (FR_ck fun z465 => (FR_if (FR_ck fun z466 => (FR_if (FR_if (FR_some hσ) (FR_some hσ)) (FR_if (FR_some hσ) (FR_some hσ)))) (FR_if (FR_some hσ) (FR_some hσ))))
theorem fr_F12_holds_b90 (N : Nat) (l1 : Int32) (l2 : Int32) (s0 : Int64) (σ : Ms) : FR W12_holds σ (F12_holds_b90 N l1 l2 s0 σ) :=
  have hσ := Fr_rfl W12_holds σ
  (FR_if (FR_ck fun z467 => (FR_tr2 (fr_F12_holds_b124 _ _ _ _ _) (Sub_rfl _) hσ)) (FR_ck fun z468 => (FR_tr2 (fr_F12_holds_b124 _ _ _ _ _) (Sub_rfl _) hσ)))
theorem fr_F12_holds (N : Nat) (p0 : Int32) (σ : Ms) : FR W12_holds σ (F12_holds N p0 σ) :=
  have hσ := Fr_rfl W12_holds σ
  (FR_ck fun z469 => (FR_lv fun x1 => (FR_ck fun z470 => (FR_lv fun x2 => (FR_if (FR_if (FR_bn (fr_F12_laysNow _ _) (Sub_of [0, 1, 2, 3] rfl) hσ fun r3 t4 ht4 => (FR_if (FR_tr2 (fr_F12_holds_b90 _ _ _ _ _) (Sub_rfl _) ht4) (FR_tr2 (fr_F12_holds_b90 _ _ _ _ _) (Sub_rfl _) ht4))) (FR_bn (fr_F12_winnerNow _ _ _) (Sub_of [0, 1, 2, 3, 4] rfl) hσ fun r5 t6 ht6 => (FR_if (FR_some ht6) (FR_some ht6)))) (FR_bn (fr_F12_isSprigAt _ _) (Sub_nil _) hσ fun r7 t8 ht8 => (FR_if (FR_some ht8) (FR_ck fun z471 => (FR_if (FR_some ht8) (FR_some ht8))))))))))
theorem fr_F12_doOne_b117B (N : Nat) (r12_doAll : Int32 → Int32 → Ms → Option (Unit × Ms)) (hr12_doAll : ∀ a0 a1 s, FR W12_doAll s (r12_doAll a0 a1 s)) (k117 : Int32 × Int32 × Int32 × Ms → Option (Unit × Ms)) (hk117 : ∀ x, FR W12_doOne x.2.2.2 (k117 x)) (l1 : Int32) (l2 : Int32) (l4 : Int32) (σ : Ms) : FR W12_doOne σ (F12_doOne_b117B N r12_doAll k117 l1 l2 l4 σ) :=
  have hσ := Fr_rfl W12_doOne σ
  (FR_ck fun z472 => (FR_if (FR_some hσ) (FR_if (FR_some hσ) (FR_ck fun z473 => (FR_bn (hr12_doAll _ _ _) (Sub_of [0, 1, 2, 3, 4, 5, 6, 7, 8, 9, 10, 11, 12] rfl) hσ fun r1 t2 ht2 => (FR_tr ht2 (hk117 (l1, l2, (l4 + (1 : Int32)), t2))))))))
theorem fr_F12_doOne_b117 (N : Nat) (r12_doAll : Int32 → Int32 → Ms → Option (Unit × Ms)) (hr12_doAll : ∀ a0 a1 s, FR W12_doAll s (r12_doAll a0 a1 s)) (l1 : Int32) (l2 : Int32) (l4 : Int32) (σ : Ms) : FR W12_doOne σ (F12_doOne_b117 N r12_doAll l1 l2 l4 σ) := by
  unfold F12_doOne_b117
  exact @FR_fx (Int32 × Int32 × Int32 × Ms) (Unit) W12_doOne (fun k x => F12_doOne_b117B N r12_doAll k x.1 x.2.1 x.2.2.1 x.2.2.2) (fun x => x.2.2.2) (fun k hk x => fr_F12_doOne_b117B N r12_doAll hr12_doAll k hk x.1 x.2.1 x.2.2.1 x.2.2.2) N (l1, l2, l4, σ)
theorem fr_F12_doOne_b108 (N : Nat) (r12_doAll : Int32 → Int32 → Ms → Option (Unit × Ms)) (hr12_doAll : ∀ a0 a1 s, FR W12_doAll s (r12_doAll a0 a1 s)) (l1 : Int32) (l2 : Int32) (l3 : Int32) (σ : Ms) : FR W12_doOne σ (F12_doOne_b108 N r12_doAll l1 l2 l3 σ) :=
  have hσ := Fr_rfl W12_doOne σ
  (FR_if (FR_if (FR_some hσ) (FR_ck fun z474 => (FR_st (fun t3 ht3 => (FR_some ht3)) (Fr_sI hσ (In_o 0 rfl))))) (FR_tr2 (fr_F12_doOne_b117 _ _ hr12_doAll _ _ _ _) (Sub_rfl _) hσ))
theorem fr_F12_doOne_b69 (N : Nat) (r12_doAll : Int32 → Int32 → Ms → Option (Unit × Ms)) (hr12_doAll : ∀ a0 a1 s, FR W12_doAll s (r12_doAll a0 a1 s)) (s1 : Int32) (s2 : Int32) (σ : Ms) : FR W12_doOne σ (F12_doOne_b69 N r12_doAll s1 s2 σ) :=
  have hσ := Fr_rfl W12_doOne σ
  (FR_st (fun t4 ht4 => (FR_some ht4)) (Fr_sI hσ (In_o 1 rfl)))
theorem fr_F12_doOneB (N : Nat) (r12_doAll : Int32 → Int32 → Ms → Option (Unit × Ms)) (hr12_doAll : ∀ a0 a1 s, FR W12_doAll s (r12_doAll a0 a1 s)) (p0 : Int32) (σ : Ms) : FR W12_doOne σ (F12_doOneB N r12_doAll p0 σ) :=
  have hσ := Fr_rfl W12_doOne σ
  (FR_if (FR_st (fun t5 ht5 => (FR_lv fun x6 => (FR_ck fun z475 => (FR_lv fun x7 => (FR_if (FR_if (FR_tr2 (fr_F12_doOne_b108 _ _ hr12_doAll _ _ _ _) (Sub_rfl _) ht5) (FR_bn (fr_F12_holds _ _ _) (Sub_of [4, 5, 6, 7, 8] rfl) ht5 fun r8 t9 ht9 => (FR_if (FR_tr2 (fr_F12_doOne_b108 _ _ hr12_doAll _ _ _ _) (Sub_rfl _) ht9) (FR_ck fun z476 => (FR_bn (hr12_doAll _ _ _) (Sub_of [0, 1, 2, 3, 4, 5, 6, 7, 8, 9, 10, 11, 12] rfl) ht9 fun r10 t11 ht11 => (FR_some ht11)))))) (FR_bn (fr_F12_does _ _ _) (Sub_of [9, 10, 11, 12] rfl) ht5 fun r12 t13 ht13 => (FR_if (FR_tr2 (fr_F12_doOne_b69 _ _ hr12_doAll _ _ _) (Sub_rfl _) ht13) (FR_tr2 (fr_F12_doOne_b69 _ _ hr12_doAll _ _ _) (Sub_rfl _) ht13)))))))) (Fr_sI hσ (In_o 2 rfl))) (FR_ck fun z477 => (FR_st (fun t14 ht14 => (FR_st (fun t15 ht15 => (FR_some ht15)) (Fr_sI ht14 (In_o 3 rfl)))) (Fr_sI hσ (In_o 0 rfl)))))
theorem fr_F12_doAll_b2B (N : Nat) (r12_doOne : Int32 → Ms → Option (Unit × Ms)) (hr12_doOne : ∀ a0 s, FR W12_doOne s (r12_doOne a0 s)) (k2 : Int32 × Int32 × Ms → Option (Unit × Ms)) (hk2 : ∀ x, FR W12_doAll x.2.2 (k2 x)) (l2 : Int32) (l3 : Int32) (σ : Ms) : FR W12_doAll σ (F12_doAll_b2B N r12_doOne k2 l2 l3 σ) :=
  have hσ := Fr_rfl W12_doAll σ
  (FR_if (FR_some hσ) (FR_if (FR_some hσ) (FR_bn (hr12_doOne _ _) (Sub_of [0, 1, 2, 3, 4, 5, 6, 7, 8, 9, 10, 11, 12] rfl) hσ fun r1 t2 ht2 => (FR_ck fun z478 => (FR_lv fun x3 => (FR_tr ht2 (hk2 (l2, x3, t2))))))))
theorem fr_F12_doAll_b2 (N : Nat) (r12_doOne : Int32 → Ms → Option (Unit × Ms)) (hr12_doOne : ∀ a0 s, FR W12_doOne s (r12_doOne a0 s)) (l2 : Int32) (l3 : Int32) (σ : Ms) : FR W12_doAll σ (F12_doAll_b2 N r12_doOne l2 l3 σ) := by
  unfold F12_doAll_b2
  exact @FR_fx (Int32 × Int32 × Ms) (Unit) W12_doAll (fun k x => F12_doAll_b2B N r12_doOne k x.1 x.2.1 x.2.2) (fun x => x.2.2) (fun k hk x => fr_F12_doAll_b2B N r12_doOne hr12_doOne k hk x.1 x.2.1 x.2.2) N (l2, l3, σ)
theorem fr_F12_doAllB (N : Nat) (r12_doOne : Int32 → Ms → Option (Unit × Ms)) (hr12_doOne : ∀ a0 s, FR W12_doOne s (r12_doOne a0 s)) (p0 : Int32) (p1 : Int32) (σ : Ms) : FR W12_doAll σ (F12_doAllB N r12_doOne p0 p1 σ) :=
  have hσ := Fr_rfl W12_doAll σ
  (FR_tr2 (fr_F12_doAll_b2 _ _ hr12_doOne _ _ _) (Sub_rfl _) hσ)
theorem fr_F12_doAll (N D : Nat) (p0 p1 : Int32) (σ : Ms) : FR W12_doAll σ (F12_doAll N D p0 p1 σ) := by
  induction D generalizing p0 p1 σ with
  | zero => exact FR_none
  | succ D ih => exact fr_F12_doAllB N _ (fun q τ => fr_F12_doOneB N _ ih q τ) p0 p1 σ
theorem fr_F12_runsSeasons (N : Nat) (p0 : Int32) (σ : Ms) : FR W12_runsSeasons σ (F12_runsSeasons N p0 σ) :=
  have hσ := Fr_rfl W12_runsSeasons σ
  (FR_st (fun t1 ht1 => (FR_st (fun t2 ht2 => (FR_st (fun t3 ht3 => (FR_ck fun z479 => (FR_st (fun t4 ht4 => (FR_st (fun t5 ht5 => (FR_st (fun t6 ht6 => (FR_st (fun t7 ht7 => (FR_ck fun z480 => (FR_st (fun t8 ht8 => (FR_ck fun z481 => (FR_bn (fr_F12_doAll _ _ _ _ _) (Sub_of [7, 2, 1, 6, 8, 9, 10, 11, 12, 0, 4, 13, 5] rfl) ht8 fun r9 t10 ht10 => (FR_some ht10)))) (Fr_sI ht7 (In_o 7 rfl))))) (Fr_sI ht6 (In_o 6 rfl)))) (Fr_sI ht5 (In_o 5 rfl)))) (Fr_sI ht4 (In_o 4 rfl)))) (Fr_sI ht3 (In_o 3 rfl))))) (Fr_sI ht2 (In_o 2 rfl)))) (Fr_sI ht1 (In_o 1 rfl)))) (Fr_sI hσ (In_o 0 rfl)))
theorem fr_F12_live (N : Nat) (p0 : Int32) (σ : Ms) : FR W12_live σ (F12_live N p0 σ) :=
  have hσ := Fr_rfl W12_live σ
  (FR_st (fun t1 ht1 => (FR_st (fun t2 ht2 => (FR_bn (fr_F12_isIn _ _ _ _) (Sub_nil _) ht2 fun r3 t4 ht4 => (FR_if (FR_ck fun z482 => (FR_if (FR_bn (fr_F12_runsSeasons _ _ _) (Sub_of [4, 5, 6, 7, 8, 9, 10, 11, 12, 13, 14, 15, 16, 17] rfl) ht4 fun r5 t6 ht6 => (FR_ck fun z483 => (FR_st (fun t7 ht7 => (FR_ck fun z484 => (FR_ck fun z485 => (FR_st (fun t8 ht8 => (FR_ck fun z486 => (FR_st (fun t9 ht9 => (FR_ck fun z487 => (FR_st (fun t10 ht10 => (FR_ck fun z488 => (FR_st (fun t11 ht11 => (FR_ck fun z489 => (FR_st (fun t12 ht12 => (FR_some ht12)) (Fr_sI ht11 (In_o 3 rfl))))) (Fr_sI ht10 (In_a 2 rfl))))) (Fr_sI ht9 (In_a 2 rfl))))) (Fr_sI ht8 (In_a 2 rfl))))) (Fr_sI ht7 (In_a 2 rfl)))))) (Fr_sI ht6 (In_a 2 rfl))))) (FR_bn (fr_F12_refuse _ _) (Sub_of [1] rfl) ht4 fun r13 t14 ht14 => (FR_some ht14)))) (FR_bn (fr_F12_refuse _ _) (Sub_of [1] rfl) ht4 fun r15 t16 ht16 => (FR_some ht16))))) (Fr_sI ht1 (In_o 1 rfl)))) (Fr_sI hσ (In_o 0 rfl)))
theorem fr_F12_lived (p0 : Int32) (σ : Ms) : FR W12_lived σ (F12_lived p0 σ) :=
  have hσ := Fr_rfl W12_lived σ
  (FR_st (fun t1 ht1 => (FR_st (fun t2 ht2 => (FR_bn (fr_F12_isIn _ _ _ _) (Sub_nil _) ht2 fun r3 t4 ht4 => (FR_if (FR_if (FR_bn (fr_F12_refuse _ _) (Sub_of [1] rfl) ht4 fun r5 t6 ht6 => (FR_some ht6)) (FR_ck fun z490 => (FR_some ht4))) (FR_bn (fr_F12_refuse _ _) (Sub_of [1] rfl) ht4 fun r7 t8 ht8 => (FR_some ht8))))) (Fr_sI ht1 (In_o 1 rfl)))) (Fr_sI hσ (In_o 0 rfl)))
theorem fr_F12_mean_b37 (N : Nat) (σ : Ms) : FR W12_mean σ (F12_mean_b37 N σ) :=
  have hσ := Fr_rfl W12_mean σ
  (FR_bn (fr_F12_no _ _) (Sub_of [3] rfl) hσ fun r1 t2 ht2 => (FR_ck fun z491 => (FR_some ht2)))
theorem fr_F12_mean_b119B (N : Nat) (k91 : Int32 × Int32 × Int64 × Int32 × Ms → Option (Int32 × Ms)) (hk91 : ∀ x, FR W12_mean x.2.2.2.2 (k91 x)) (k119 : Int32 × Int32 × Int64 × Int32 × Int32 × Ms → Option (Int32 × Ms)) (hk119 : ∀ x, FR W12_mean x.2.2.2.2.2 (k119 x)) (l1 : Int32) (l2 : Int32) (l3 : Int64) (l5 : Int32) (l6 : Int32) (σ : Ms) : FR W12_mean σ (F12_mean_b119B N k91 k119 l1 l2 l3 l5 l6 σ) :=
  have hσ := Fr_rfl W12_mean σ
  (FR_if (FR_tr hσ (hk91 (l1, l2, l3, (l5 + (1 : Int32)), σ))) (FR_ck fun z492 => (FR_ck fun z493 => (FR_st (fun t3 ht3 => (FR_tr ht3 (hk119 (l1, l2, l3, l5, (l6 + (1 : Int32)), t3)))) (Fr_sI hσ (In_a 0 rfl))))))
theorem fr_F12_mean_b119 (N : Nat) (k91 : Int32 × Int32 × Int64 × Int32 × Ms → Option (Int32 × Ms)) (hk91 : ∀ x, FR W12_mean x.2.2.2.2 (k91 x)) (l1 : Int32) (l2 : Int32) (l3 : Int64) (l5 : Int32) (l6 : Int32) (σ : Ms) : FR W12_mean σ (F12_mean_b119 N k91 l1 l2 l3 l5 l6 σ) := by
  unfold F12_mean_b119
  exact @FR_fx (Int32 × Int32 × Int64 × Int32 × Int32 × Ms) (Int32) W12_mean (fun k x => F12_mean_b119B N k91 k x.1 x.2.1 x.2.2.1 x.2.2.2.1 x.2.2.2.2.1 x.2.2.2.2.2) (fun x => x.2.2.2.2.2) (fun k hk x => fr_F12_mean_b119B N k91 hk91 k hk x.1 x.2.1 x.2.2.1 x.2.2.2.1 x.2.2.2.2.1 x.2.2.2.2.2) N (l1, l2, l3, l5, l6, σ)
theorem fr_F12_mean_b91B (N : Nat) (k91 : Int32 × Int32 × Int64 × Int32 × Ms → Option (Int32 × Ms)) (hk91 : ∀ x, FR W12_mean x.2.2.2.2 (k91 x)) (l1 : Int32) (l2 : Int32) (l3 : Int64) (l5 : Int32) (σ : Ms) : FR W12_mean σ (F12_mean_b91B N k91 l1 l2 l3 l5 σ) :=
  have hσ := Fr_rfl W12_mean σ
  (FR_if (FR_bn (fr_F12_fraction _ _ _ _) (Sub_of [4, 5] rfl) hσ fun r4 t5 ht5 => (FR_ck fun z494 => (FR_some ht5))) (FR_bn (fr_F12_runsSeasons _ _ _) (Sub_of [6, 7, 8, 9, 10, 11, 12, 13, 14, 15, 16, 17, 18, 0] rfl) hσ fun r6 t7 ht7 => (FR_bn (fr_F12_laysNow _ _) (Sub_of [14, 15, 16, 17] rfl) ht7 fun r8 t9 ht9 => (FR_lv fun x10 => (FR_tr2 (fr_F12_mean_b119 _ _ hk91 _ _ _ _ _ _) (Sub_rfl _) ht9)))))
theorem fr_F12_mean_b91 (N : Nat) (l1 : Int32) (l2 : Int32) (l3 : Int64) (l5 : Int32) (σ : Ms) : FR W12_mean σ (F12_mean_b91 N l1 l2 l3 l5 σ) := by
  unfold F12_mean_b91
  exact @FR_fx (Int32 × Int32 × Int64 × Int32 × Ms) (Int32) W12_mean (fun k x => F12_mean_b91B N k x.1 x.2.1 x.2.2.1 x.2.2.2.1 x.2.2.2.2) (fun x => x.2.2.2.2) (fun k hk x => fr_F12_mean_b91B N k hk x.1 x.2.1 x.2.2.1 x.2.2.2.1 x.2.2.2.2) N (l1, l2, l3, l5, σ)
theorem fr_F12_mean_b62B (N : Nat) (k62 : Int32 × Int32 × Int32 × Ms → Option (Int32 × Ms)) (hk62 : ∀ x, FR W12_mean x.2.2.2 (k62 x)) (l1 : Int32) (l2 : Int32) (l3 : Int32) (σ : Ms) : FR W12_mean σ (F12_mean_b62B N k62 l1 l2 l3 σ) :=
  have hσ := Fr_rfl W12_mean σ
  (FR_if (FR_tr2 (fr_F12_mean_b91 _ _ _ _ _ _) (Sub_rfl _) hσ) (FR_ck fun z495 => (FR_ck fun z496 => (FR_st (fun t11 ht11 => (FR_tr ht11 (hk62 (l1, l2, (l3 + (1 : Int32)), t11)))) (Fr_sI hσ (In_a 1 rfl))))))
theorem fr_F12_mean_b62 (N : Nat) (l1 : Int32) (l2 : Int32) (l3 : Int32) (σ : Ms) : FR W12_mean σ (F12_mean_b62 N l1 l2 l3 σ) := by
  unfold F12_mean_b62
  exact @FR_fx (Int32 × Int32 × Int32 × Ms) (Int32) W12_mean (fun k x => F12_mean_b62B N k x.1 x.2.1 x.2.2.1 x.2.2.2) (fun x => x.2.2.2) (fun k hk x => fr_F12_mean_b62B N k hk x.1 x.2.1 x.2.2.1 x.2.2.2) N (l1, l2, l3, σ)
theorem fr_F12_mean (N : Nat) (p0 : Int32) (p1 : Int32) (σ : Ms) : FR W12_mean σ (F12_mean N p0 p1 σ) :=
  have hσ := Fr_rfl W12_mean σ
  (FR_st (fun t12 ht12 => (FR_st (fun t13 ht13 => (FR_bn (fr_F12_isIn _ _ _ _) (Sub_nil _) ht13 fun r14 t15 ht15 => (FR_if (FR_tr2 (fr_F12_mean_b37 _ _) (Sub_rfl _) ht15) (FR_bn (fr_F12_isIn _ _ _ _) (Sub_nil _) ht15 fun r16 t17 ht17 => (FR_if (FR_ck fun z497 => (FR_if (FR_tr2 (fr_F12_mean_b62 _ _ _ _ _) (Sub_rfl _) ht17) (FR_bn (fr_F12_no _ _) (Sub_of [3] rfl) ht17 fun r18 t19 ht19 => (FR_ck fun z498 => (FR_some ht19))))) (FR_tr2 (fr_F12_mean_b37 _ _) (Sub_rfl _) ht17)))))) (Fr_sI ht12 (In_o 3 rfl)))) (Fr_sI hσ (In_o 2 rfl)))
theorem fr_F12_mark (N : Nat) (σ : Ms) : FR W12_mark σ (F12_mark N σ) :=
  have hσ := Fr_rfl W12_mark σ
  (FR_st (fun t1 ht1 => (FR_st (fun t2 ht2 => (FR_if (FR_st (fun t3 ht3 => (FR_bn (fr_F12_copy _ _ _ _) (Sub_of [3] rfl) ht3 fun r4 t5 ht5 => (FR_some ht5))) (Fr_sI ht2 (In_o 2 rfl))) (FR_bn (fr_F12_refuse _ _) (Sub_of [1] rfl) ht2 fun r6 t7 ht7 => (FR_some ht7)))) (Fr_sI ht1 (In_o 1 rfl)))) (Fr_sI hσ (In_o 0 rfl)))
theorem fr_F12_back (N : Nat) (σ : Ms) : FR W12_back σ (F12_back N σ) :=
  have hσ := Fr_rfl W12_back σ
  (FR_st (fun t1 ht1 => (FR_st (fun t2 ht2 => (FR_if (FR_bn (fr_F12_copy _ _ _ _) (Sub_of [3] rfl) ht2 fun r3 t4 ht4 => (FR_st (fun t5 ht5 => (FR_some ht5)) (Fr_sI ht4 (In_o 2 rfl)))) (FR_bn (fr_F12_refuse _ _) (Sub_of [1] rfl) ht2 fun r6 t7 ht7 => (FR_some ht7)))) (Fr_sI ht1 (In_o 1 rfl)))) (Fr_sI hσ (In_o 0 rfl)))
