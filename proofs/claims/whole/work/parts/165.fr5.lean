theorem fr_F11_stalkWorth_b76 (N : Nat) (l1 : Int32) (l3 : Int64) (l5 : Int32) (σ : Ms) : FR W11_stalkWorth σ (F11_stalkWorth_b76 N l1 l3 l5 σ) := by
  unfold F11_stalkWorth_b76
  exact @FR_fx (Int32 × Int64 × Int32 × Ms) (Int32) W11_stalkWorth (fun k x => F11_stalkWorth_b76B N k x.1 x.2.1 x.2.2.1 x.2.2.2) (fun x => x.2.2.2) (fun k hk x => fr_F11_stalkWorth_b76B N k hk x.1 x.2.1 x.2.2.1 x.2.2.2) N (l1, l3, l5, σ)
theorem fr_F11_stalkWorth_b53 (N : Nat) (l1 : Int32) (l2 : Int32) (σ : Ms) : FR W11_stalkWorth σ (F11_stalkWorth_b53 N l1 l2 σ) :=
  have hσ := Fr_rfl W11_stalkWorth σ
  (FR_if (FR_tr2 (fr_F11_stalkWorth_b63 _ _) (Sub_rfl _) hσ) (FR_if (FR_lv fun x11 => (FR_tr2 (fr_F11_stalkWorth_b76 _ _ _ _ _) (Sub_rfl _) hσ)) (FR_tr2 (fr_F11_stalkWorth_b63 _ _) (Sub_rfl _) hσ)))
theorem fr_F11_stalkWorth (N : Nat) (p0 : Int32) (p1 : Int32) (σ : Ms) : FR W11_stalkWorth σ (F11_stalkWorth N p0 p1 σ) :=
  have hσ := Fr_rfl W11_stalkWorth σ
  (FR_bn (fr_F9_isTray _ _) (Sub_nil _) hσ fun r12 t13 ht13 => (FR_if (FR_bn (fr_F9_isMissing _ _) (Sub_nil _) ht13 fun r14 t15 ht15 => (FR_if (FR_if (FR_tr2 (fr_F11_stalkWorth_b53 _ _ _ _) (Sub_rfl _) ht15) (FR_bn (fr_F9_holds _ _ _ _) (Sub_nil _) ht15 fun r16 t17 ht17 => (FR_if (FR_tr2 (fr_F11_stalkWorth_b53 _ _ _ _) (Sub_rfl _) ht17) (FR_bn (fr_F11_no _ _) (Sub_of [0] rfl) ht17 fun r18 t19 ht19 => (FR_ck fun z184 => (FR_some ht19)))))) (FR_bn (fr_F11_no _ _) (Sub_of [0] rfl) ht15 fun r20 t21 ht21 => (FR_ck fun z185 => (FR_some ht21))))) (FR_bn (fr_F11_no _ _) (Sub_of [0] rfl) ht13 fun r22 t23 ht23 => (FR_ck fun z186 => (FR_some ht23)))))
theorem fr_F11_findWays (N : Nat) (p0 : Int32) (p1 : Int32) (p2 : Int32) (σ : Ms) : FR W11_findWays σ (F11_findWays N p0 p1 p2 σ) :=
  have hσ := Fr_rfl W11_findWays σ
  (FR_bn (fr_F10_canBe 22 _ _ _) (Sub_nil _) hσ fun r1 t2 ht2 => (FR_if (FR_some ht2) (FR_bn (fr_F3_canBe _ _ _) (Sub_nil _) ht2 fun r3 t4 ht4 => (FR_if (FR_bn (fr_F0_copy 22 30 _ _) (Sub_of [0, 1, 2, 3, 4, 5, 6, 7, 8, 9, 10, 11] rfl) ht4 fun r5 t6 ht6 => (FR_bn (fr_F3_of _ _ _) (Sub_nil _) ht6 fun r7 t8 ht8 => (FR_bn (fr_F10_find 30 _ _ _ _) (Sub_of [12, 13, 14, 10, 15] rfl) ht8 fun r9 t10 ht10 => (FR_some ht10)))) (FR_some ht4)))))
theorem fr_F11_colourings (N : Nat) (p0 : Int32) (p1 : Int32) (p2 : Int32) (σ : Ms) : FR W11_colourings σ (F11_colourings N p0 p1 p2 σ) :=
  have hσ := Fr_rfl W11_colourings σ
  (FR_bn (fr_F11_findWays _ _ _ _ _) (Sub_of [0, 1, 2, 3, 4, 5, 6, 7, 8, 9, 10, 11, 12, 13, 14, 15] rfl) hσ fun r1 t2 ht2 => (FR_if (FR_bn (fr_F11_told _ _) (Sub_of [16] rfl) ht2 fun r3 t4 ht4 => (FR_some ht4)) (FR_bn (fr_F11_none _ _) (Sub_of [16] rfl) ht2 fun r5 t6 ht6 => (FR_some ht6))))
theorem fr_F11_firstRed (N : Nat) (p0 : Int32) (p1 : Int32) (p2 : Int32) (σ : Ms) : FR W11_firstRed σ (F11_firstRed N p0 p1 p2 σ) :=
  have hσ := Fr_rfl W11_firstRed σ
  (FR_bn (fr_F11_findWays _ _ _ _ _) (Sub_of [0, 1, 2, 3, 4, 5, 6, 7, 8, 9, 10, 11, 12, 13, 14, 15] rfl) hσ fun r1 t2 ht2 => (FR_if (FR_if (FR_bn (fr_F11_told _ _) (Sub_of [16] rfl) ht2 fun r3 t4 ht4 => (FR_some ht4)) (FR_bn (fr_F11_none _ _) (Sub_of [16] rfl) ht2 fun r5 t6 ht6 => (FR_some ht6))) (FR_bn (fr_F11_none _ _) (Sub_of [16] rfl) ht2 fun r7 t8 ht8 => (FR_some ht8))))
theorem fr_F11_oddsBlue (N : Nat) (p0 : Int32) (p1 : Int32) (p2 : Int32) (p3 : Int32) (σ : Ms) : FR W11_oddsBlue σ (F11_oddsBlue N p0 p1 p2 p3 σ) :=
  have hσ := Fr_rfl W11_oddsBlue σ
  (FR_bn (fr_F0_hasSprig 22 _ _) (Sub_nil _) hσ fun r1 t2 ht2 => (FR_if (FR_bn (fr_F11_findWays _ _ _ _ _) (Sub_of [0, 1, 2, 3, 4, 5, 6, 7, 8, 9, 10, 11, 12, 13, 14, 15] rfl) ht2 fun r3 t4 ht4 => (FR_if (FR_if (FR_bn (fr_F11_isIn _ _ _) (Sub_nil _) ht4 fun r5 t6 ht6 => (FR_if (FR_ck fun z187 => (FR_bn (fr_F11_tellFraction _ _ _ _) (Sub_of [16, 17, 18] rfl) ht6 fun r7 t8 ht8 => (FR_ck fun z188 => (FR_some ht8)))) (FR_bn (fr_F11_no _ _) (Sub_of [18] rfl) ht6 fun r9 t10 ht10 => (FR_ck fun z189 => (FR_some ht10))))) (FR_bn (fr_F11_no _ _) (Sub_of [18] rfl) ht4 fun r11 t12 ht12 => (FR_ck fun z190 => (FR_some ht12)))) (FR_bn (fr_F11_no _ _) (Sub_of [18] rfl) ht4 fun r13 t14 ht14 => (FR_ck fun z191 => (FR_some ht14))))) (FR_bn (fr_F11_no _ _) (Sub_of [18] rfl) ht2 fun r15 t16 ht16 => (FR_ck fun z192 => (FR_some ht16)))))
theorem fr_F11_ask (N : Nat) (p0 : Int32) (p1 : Int32) (p2 : Int32) (σ : Ms) : FR W11_ask σ (F11_ask N p0 p1 p2 σ) :=
  have hσ := Fr_rfl W11_ask σ
  (FR_bn (fr_F11_findWays _ _ _ _ _) (Sub_of [0, 1, 2, 3, 4, 5, 6, 7, 8, 9, 10, 11, 12, 13, 14, 15] rfl) hσ fun r1 t2 ht2 => (FR_if (FR_if (FR_bn (fr_F10_bestParting _ _ _) (Sub_nil _) ht2 fun r3 t4 ht4 => (FR_bn (fr_F11_told _ _) (Sub_of [16] rfl) ht4 fun r5 t6 ht6 => (FR_some ht6))) (FR_bn (fr_F11_none _ _) (Sub_of [16] rfl) ht2 fun r7 t8 ht8 => (FR_some ht8))) (FR_bn (fr_F11_none _ _) (Sub_of [16] rfl) ht2 fun r9 t10 ht10 => (FR_some ht10))))
theorem fr_F11_balance (N : Nat) (σ : Ms) : FR W11_balance σ (F11_balance N σ) :=
  have hσ := Fr_rfl W11_balance σ
  (FR_bn (fr_F7_balancing 22 _ _) (Sub_of [0, 1, 2] rfl) hσ fun r1 t2 ht2 => (FR_if (FR_bn (fr_FJ6_bitCount_0f7a4 _ _) (Sub_nil _) ht2 fun r3 t4 ht4 => (FR_bn (fr_F11_told _ _) (Sub_of [3] rfl) ht4 fun r5 t6 ht6 => (FR_some ht6))) (FR_bn (fr_F11_none _ _) (Sub_of [3] rfl) ht2 fun r7 t8 ht8 => (FR_some ht8))))
theorem fr_F11_balanceSet (N : Nat) (σ : Ms) : FR W11_balanceSet σ (F11_balanceSet N σ) :=
  have hσ := Fr_rfl W11_balanceSet σ
  (FR_bn (fr_F7_balancing 22 _ _) (Sub_of [0, 1, 2] rfl) hσ fun r1 t2 ht2 => (FR_if (FR_bn (fr_F11_told _ _) (Sub_of [3] rfl) ht2 fun r3 t4 ht4 => (FR_some ht4)) (FR_bn (fr_F11_none _ _) (Sub_of [3] rfl) ht2 fun r5 t6 ht6 => (FR_some ht6))))
theorem fr_F11_luck (N : Nat) (p0 : Int32) (σ : Ms) : FR W11_luck σ (F11_luck N p0 σ) :=
  have hσ := Fr_rfl W11_luck σ
  (FR_bn (fr_F11_isSide _ _) (Sub_nil _) hσ fun r1 t2 ht2 => (FR_if (FR_bn (fr_F7_leavesToLuck 22 _ _) (Sub_nil _) ht2 fun r3 t4 ht4 => (FR_if (FR_bn (fr_F7_oddsOfLeft 22 _ _ _) (Sub_of [0, 1, 2, 3] rfl) ht4 fun r5 t6 ht6 => (FR_bn (fr_F11_tellFraction _ _ _ _) (Sub_of [4, 5, 6] rfl) ht6 fun r7 t8 ht8 => (FR_ck fun z193 => (FR_some ht8)))) (FR_bn (fr_F11_no _ _) (Sub_of [6] rfl) ht4 fun r9 t10 ht10 => (FR_ck fun z194 => (FR_some ht10))))) (FR_bn (fr_F11_no _ _) (Sub_of [6] rfl) ht2 fun r11 t12 ht12 => (FR_ck fun z195 => (FR_some ht12)))))
theorem fr_F11_live_b11 (N : Nat) (σ : Ms) : FR W11_live σ (F11_live_b11 N σ) :=
  have hσ := Fr_rfl W11_live σ
  (FR_bn (fr_F11_none _ _) (Sub_of [1] rfl) hσ fun r1 t2 ht2 => (FR_some ht2))
theorem fr_F11_live (N : Nat) (p0 : Int32) (σ : Ms) : FR W11_live σ (F11_live N p0 σ) :=
  have hσ := Fr_rfl W11_live σ
  (FR_if (FR_tr2 (fr_F11_live_b11 _ _) (Sub_rfl _) hσ) (FR_if (FR_if (FR_bn (fr_F2_run 109 22 62 _ _ _) (Sub_of [2, 3, 4, 5, 6, 7, 8, 9, 10, 11, 12, 13, 14, 15, 16, 17, 18, 19] rfl) hσ fun r3 t4 ht4 => (FR_ck fun z196 => (FR_st (fun t5 ht5 => (FR_bn (fr_F11_told _ _) (Sub_of [1] rfl) ht5 fun r6 t7 ht7 => (FR_some ht7))) (Fr_sI ht4 (In_o 0 rfl))))) (FR_bn (fr_F11_none _ _) (Sub_of [1] rfl) hσ fun r8 t9 ht9 => (FR_some ht9))) (FR_tr2 (fr_F11_live_b11 _ _) (Sub_rfl _) hσ)))
theorem fr_F11_lived_b9 (σ : Ms) : FR W11_lived σ (F11_lived_b9 σ) :=
  have hσ := Fr_rfl W11_lived σ
  (FR_bn (fr_F11_none _ _) (Sub_of [0] rfl) hσ fun r1 t2 ht2 => (FR_some ht2))
theorem fr_F11_lived (p0 : Int32) (σ : Ms) : FR W11_lived σ (F11_lived p0 σ) :=
  have hσ := Fr_rfl W11_lived σ
  (FR_if (FR_tr2 (fr_F11_lived_b9 _) (Sub_rfl _) hσ) (FR_if (FR_if (FR_if (FR_bn (fr_F11_told _ _) (Sub_of [0] rfl) hσ fun r3 t4 ht4 => (FR_some ht4)) (FR_if (FR_bn (fr_F11_told _ _) (Sub_of [0] rfl) hσ fun r5 t6 ht6 => (FR_some ht6)) (FR_if (FR_bn (fr_F11_told _ _) (Sub_of [0] rfl) hσ fun r7 t8 ht8 => (FR_some ht8)) (FR_if (FR_bn (fr_F11_told _ _) (Sub_of [0] rfl) hσ fun r9 t10 ht10 => (FR_some ht10)) (FR_if (FR_bn (fr_F11_told _ _) (Sub_of [0] rfl) hσ fun r11 t12 ht12 => (FR_some ht12)) (FR_bn (fr_F11_told _ _) (Sub_of [0] rfl) hσ fun r13 t14 ht14 => (FR_some ht14))))))) (FR_bn (fr_F11_none _ _) (Sub_of [0] rfl) hσ fun r15 t16 ht16 => (FR_some ht16))) (FR_tr2 (fr_F11_lived_b9 _) (Sub_rfl _) hσ)))
theorem fr_F11_mean_b24 (N : Nat) (σ : Ms) : FR W11_mean σ (F11_mean_b24 N σ) :=
  have hσ := Fr_rfl W11_mean σ
  (FR_bn (fr_F11_no _ _) (Sub_of [0] rfl) hσ fun r1 t2 ht2 => (FR_ck fun z197 => (FR_some ht2)))
theorem fr_F11_mean_b52B (N : Nat) (k52 : Int32 × Int32 × Int64 × Int32 × Ms → Option (Int32 × Ms)) (hk52 : ∀ x, FR W11_mean x.2.2.2.2 (k52 x)) (l1 : Int32) (l2 : Int32) (l3 : Int64) (l5 : Int32) (σ : Ms) : FR W11_mean σ (F11_mean_b52B N k52 l1 l2 l3 l5 σ) :=
  have hσ := Fr_rfl W11_mean σ
  (FR_if (FR_bn (fr_F11_tellFraction _ _ _ _) (Sub_of [1, 2, 0] rfl) hσ fun r3 t4 ht4 => (FR_ck fun z198 => (FR_some ht4))) (FR_bn (fr_F0_copy 22 30 _ _) (Sub_of [3, 4, 5, 6, 7, 8, 9, 10, 11, 12, 13, 14] rfl) hσ fun r5 t6 ht6 => (FR_bn (fr_F2_run 111 30 62 _ _ _) (Sub_of [15, 16, 17, 18, 19, 20, 21, 22, 4, 9, 8, 7, 12, 13, 14, 3, 23, 24] rfl) ht6 fun r7 t8 ht8 => (FR_bn (fr_F0_worthWith 30 _ _ _) (Sub_of [23] rfl) ht8 fun r9 t10 ht10 => (FR_lv fun x11 => (FR_tr ht10 (hk52 (l1, l2, x11, (l5 + (1 : Int32)), t10))))))))
theorem fr_F11_mean_b52 (N : Nat) (l1 : Int32) (l2 : Int32) (l3 : Int64) (l5 : Int32) (σ : Ms) : FR W11_mean σ (F11_mean_b52 N l1 l2 l3 l5 σ) := by
  unfold F11_mean_b52
  exact @FR_fx (Int32 × Int32 × Int64 × Int32 × Ms) (Int32) W11_mean (fun k x => F11_mean_b52B N k x.1 x.2.1 x.2.2.1 x.2.2.2.1 x.2.2.2.2) (fun x => x.2.2.2.2) (fun k hk x => fr_F11_mean_b52B N k hk x.1 x.2.1 x.2.2.1 x.2.2.2.1 x.2.2.2.2) N (l1, l2, l3, l5, σ)
theorem fr_F11_mean (N : Nat) (p0 : Int32) (p1 : Int32) (σ : Ms) : FR W11_mean σ (F11_mean N p0 p1 σ) :=
  have hσ := Fr_rfl W11_mean σ
  (FR_if (FR_tr2 (fr_F11_mean_b24 _ _) (Sub_rfl _) hσ) (FR_if (FR_tr2 (fr_F11_mean_b24 _ _) (Sub_rfl _) hσ) (FR_if (FR_tr2 (fr_F11_mean_b24 _ _) (Sub_rfl _) hσ) (FR_if (FR_if (FR_tr2 (fr_F11_mean_b52 _ _ _ _ _ _) (Sub_rfl _) hσ) (FR_bn (fr_F11_no _ _) (Sub_of [0] rfl) hσ fun r12 t13 ht13 => (FR_ck fun z199 => (FR_some ht13)))) (FR_tr2 (fr_F11_mean_b24 _ _) (Sub_rfl _) hσ)))))
theorem fr_F11_mark_b15 (N : Nat) (σ : Ms) : FR W11_mark σ (F11_mark_b15 N σ) :=
  have hσ := Fr_rfl W11_mark σ
  (FR_bn (fr_F11_none _ _) (Sub_of [1] rfl) hσ fun r1 t2 ht2 => (FR_some ht2))
theorem fr_F11_mark (N : Nat) (σ : Ms) : FR W11_mark σ (F11_mark N σ) :=
  have hσ := Fr_rfl W11_mark σ
  (FR_if (FR_tr2 (fr_F11_mark_b15 _ _) (Sub_rfl _) hσ) (FR_if (FR_ck fun z200 => (FR_bn (fr_F0_copy 22 (38 + 8 * (σ.1 11 14).toNatClampNeg) _ _) (Sub_3 (fun n => (W0_copy 22 (38 + 8 * n))) (ixb_lt z200) (Sub_of [2, 5, 8, 11, 14, 17, 20, 23, 26, 29, 32, 35] rfl) (Sub_of [3, 6, 9, 12, 15, 18, 21, 24, 27, 30, 33, 36] rfl) (Sub_of [4, 7, 10, 13, 16, 19, 22, 25, 28, 31, 34, 37] rfl)) hσ fun r4 t5 ht5 => (FR_ck fun z201 => (FR_bn (fr_F5_copy 62 (76 + 7 * (t5.1 11 14).toNatClampNeg) _ _) (Sub_3 (fun n => (W5_copy 62 (76 + 7 * n))) (ixb_lt z201) (Sub_of [38, 41, 44, 47, 50, 53, 56, 59] rfl) (Sub_of [39, 42, 45, 48, 51, 54, 57, 60] rfl) (Sub_of [40, 43, 46, 49, 52, 55, 58, 61] rfl)) ht5 fun r7 t8 ht8 => (FR_st (fun t9 ht9 => (FR_bn (fr_F11_told _ _) (Sub_of [1] rfl) ht9 fun r10 t11 ht11 => (FR_some ht11))) (Fr_sI ht8 (In_o 0 rfl))))))) (FR_tr2 (fr_F11_mark_b15 _ _) (Sub_rfl _) hσ)))
theorem fr_F11_back_b15 (N : Nat) (σ : Ms) : FR W11_back σ (F11_back_b15 N σ) :=
  have hσ := Fr_rfl W11_back σ
  (FR_bn (fr_F11_none _ _) (Sub_of [1] rfl) hσ fun r1 t2 ht2 => (FR_some ht2))
theorem fr_F11_back (N : Nat) (σ : Ms) : FR W11_back σ (F11_back N σ) :=
  have hσ := Fr_rfl W11_back σ
  (FR_if (FR_tr2 (fr_F11_back_b15 _ _) (Sub_rfl _) hσ) (FR_if (FR_st (fun t3 ht3 => (FR_ck fun z202 => (FR_bn (fr_F0_copy (38 + 8 * (t3.1 11 14).toNatClampNeg) 22 _ _) (Sub_3 (fun n => (W0_copy (38 + 8 * n) 22)) (ixb_lt z202) (Sub_of [2, 3, 4, 5, 6, 7, 8, 9, 10, 11, 12, 13] rfl) (Sub_of [2, 3, 4, 5, 6, 7, 8, 9, 10, 11, 12, 13] rfl) (Sub_of [2, 3, 4, 5, 6, 7, 8, 9, 10, 11, 12, 13] rfl)) ht3 fun r5 t6 ht6 => (FR_ck fun z203 => (FR_bn (fr_F5_copy (76 + 7 * (t6.1 11 14).toNatClampNeg) 62 _ _) (Sub_3 (fun n => (W5_copy (76 + 7 * n) 62)) (ixb_lt z203) (Sub_of [14, 15, 16, 17, 18, 19, 20, 21] rfl) (Sub_of [14, 15, 16, 17, 18, 19, 20, 21] rfl) (Sub_of [14, 15, 16, 17, 18, 19, 20, 21] rfl)) ht6 fun r8 t9 ht9 => (FR_bn (fr_F11_told _ _) (Sub_of [1] rfl) ht9 fun r10 t11 ht11 => (FR_some ht11))))))) (Fr_sI hσ (In_o 0 rfl))) (FR_tr2 (fr_F11_back_b15 _ _) (Sub_rfl _) hσ)))
theorem fr_F12_status (σ : Ms) : FR W12_status σ (F12_status σ) :=
  have hσ := Fr_rfl W12_status σ
  (FR_st (fun t1 ht1 => (FR_some ht1)) (Fr_sI hσ (In_o 0 rfl)))
theorem fr_F12_top (σ : Ms) : FR W12_top σ (F12_top σ) :=
  have hσ := Fr_rfl W12_top σ
  (FR_st (fun t1 ht1 => (FR_some ht1)) (Fr_sI hσ (In_o 0 rfl)))
theorem fr_F12_bottom (σ : Ms) : FR W12_bottom σ (F12_bottom σ) :=
  have hσ := Fr_rfl W12_bottom σ
  (FR_st (fun t1 ht1 => (FR_some ht1)) (Fr_sI hσ (In_o 0 rfl)))
theorem fr_F12_refuse (p0 : Int32) (σ : Ms) : FR W12_refuse σ (F12_refuse p0 σ) :=
  have hσ := Fr_rfl W12_refuse σ
  (FR_st (fun t1 ht1 => (FR_some ht1)) (Fr_sI hσ (In_o 0 rfl)))
theorem fr_F12_no (p0 : Int32) (σ : Ms) : FR W12_no σ (F12_no p0 σ) :=
  have hσ := Fr_rfl W12_no σ
  (FR_st (fun t1 ht1 => (FR_some ht1)) (Fr_sI hσ (In_o 0 rfl)))
theorem fr_F12_isIn (p0 : Int64) (p1 : Int64) (p2 : Int64) (σ : Ms) : FR W12_isIn σ (F12_isIn p0 p1 p2 σ) :=
  have hσ := Fr_rfl W12_isIn σ
  (FR_if (FR_some hσ) (FR_if (FR_some hσ) (FR_some hσ)))
theorem fr_F12_fraction_b9B (N : Nat) (k9 : Int64 × Int64 × Int64 × Int64 × Ms → Option (Int32 × Ms)) (hk9 : ∀ x, FR W12_fraction x.2.2.2.2 (k9 x)) (l1 : Int64) (l3 : Int64) (l5 : Int64) (l7 : Int64) (σ : Ms) : FR W12_fraction σ (F12_fraction_b9B N k9 l1 l3 l5 l7 σ) :=
  have hσ := Fr_rfl W12_fraction σ
  (FR_if (FR_ck fun z204 => (FR_st (fun t1 ht1 => (FR_ck fun z205 => (FR_st (fun t2 ht2 => (FR_some ht2)) (Fr_sL ht1 (In_o 1 rfl))))) (Fr_sL hσ (In_o 0 rfl)))) (FR_ck fun z206 => (FR_lv fun x3 => (FR_tr hσ (hk9 (l1, l3, l7, x3, σ))))))
theorem fr_F12_fraction_b9 (N : Nat) (l1 : Int64) (l3 : Int64) (l5 : Int64) (l7 : Int64) (σ : Ms) : FR W12_fraction σ (F12_fraction_b9 N l1 l3 l5 l7 σ) := by
  unfold F12_fraction_b9
  exact @FR_fx (Int64 × Int64 × Int64 × Int64 × Ms) (Int32) W12_fraction (fun k x => F12_fraction_b9B N k x.1 x.2.1 x.2.2.1 x.2.2.2.1 x.2.2.2.2) (fun x => x.2.2.2.2) (fun k hk x => fr_F12_fraction_b9B N k hk x.1 x.2.1 x.2.2.1 x.2.2.2.1 x.2.2.2.2) N (l1, l3, l5, l7, σ)
theorem fr_F12_fraction (N : Nat) (p0 : Int64) (p1 : Int64) (σ : Ms) : FR W12_fraction σ (F12_fraction N p0 p1 σ) :=
  have hσ := Fr_rfl W12_fraction σ
  (FR_bn (fr_FJ9_abs_067f4 _ _) (Sub_nil _) hσ fun r4 t5 ht5 => (FR_tr2 (fr_F12_fraction_b9 _ _ _ _ _ _) (Sub_rfl _) ht5))
theorem fr_F12_trims (p0 : Int32) (p1 : Int64) (σ : Ms) : FR W12_trims σ (F12_trims p0 p1 σ) :=
  have hσ := Fr_rfl W12_trims σ
  (FR_if (FR_if (FR_if (FR_some hσ) (FR_some hσ)) (FR_some hσ)) (FR_some hσ))
theorem fr_F12_tray_b28 (N : Nat) (σ : Ms) : FR W12_tray σ (F12_tray_b28 N σ) :=
  have hσ := Fr_rfl W12_tray σ
  (FR_bn (fr_F12_no _ _) (Sub_of [2] rfl) hσ fun r1 t2 ht2 => (FR_ck fun z207 => (FR_some ht2)))
theorem fr_F12_tray_b74B (N : Nat) (k74 : Int32 × Int32 × Int32 × Ms → Option (Int32 × Ms)) (hk74 : ∀ x, FR W12_tray x.2.2.2 (k74 x)) (l1 : Int32) (l3 : Int32) (l4 : Int32) (σ : Ms) : FR W12_tray σ (F12_tray_b74B N k74 l1 l3 l4 σ) :=
  have hσ := Fr_rfl W12_tray σ
  (FR_if (FR_some hσ) (FR_ck fun z208 => (FR_st (fun t3 ht3 => (FR_tr ht3 (hk74 (l1, l3, (l4 + (1 : Int32)), t3)))) (Fr_sL hσ (In_a 0 rfl)))))
theorem fr_F12_tray_b74 (N : Nat) (l1 : Int32) (l3 : Int32) (l4 : Int32) (σ : Ms) : FR W12_tray σ (F12_tray_b74 N l1 l3 l4 σ) := by
  unfold F12_tray_b74
  exact @FR_fx (Int32 × Int32 × Int32 × Ms) (Int32) W12_tray (fun k x => F12_tray_b74B N k x.1 x.2.1 x.2.2.1 x.2.2.2) (fun x => x.2.2.2) (fun k hk x => fr_F12_tray_b74B N k hk x.1 x.2.1 x.2.2.1 x.2.2.2) N (l1, l3, l4, σ)
theorem fr_F12_tray (N : Nat) (p0 : Int32) (p1 : Int32) (p2 : Int32) (σ : Ms) : FR W12_tray σ (F12_tray N p0 p1 p2 σ) :=
  have hσ := Fr_rfl W12_tray σ
  (FR_st (fun t4 ht4 => (FR_st (fun t5 ht5 => (FR_if (FR_tr2 (fr_F12_tray_b28 _ _) (Sub_rfl _) ht5) (FR_if (FR_tr2 (fr_F12_tray_b28 _ _) (Sub_rfl _) ht5) (FR_if (FR_tr2 (fr_F12_tray_b28 _ _) (Sub_rfl _) ht5) (FR_if (FR_if (FR_if (FR_ck fun z209 => (FR_st (fun t6 ht6 => (FR_ck fun z210 => (FR_st (fun t7 ht7 => (FR_tr2 (fr_F12_tray_b74 _ _ _ _ _) (Sub_rfl _) ht7)) (Fr_sI ht6 (In_a 4 rfl))))) (Fr_sI ht5 (In_a 3 rfl)))) (FR_bn (fr_F12_no _ _) (Sub_of [2] rfl) ht5 fun r8 t9 ht9 => (FR_ck fun z211 => (FR_some ht9)))) (FR_bn (fr_F12_no _ _) (Sub_of [2] rfl) ht5 fun r10 t11 ht11 => (FR_ck fun z212 => (FR_some ht11)))) (FR_tr2 (fr_F12_tray_b28 _ _) (Sub_rfl _) ht5)))))) (Fr_sI ht4 (In_o 2 rfl)))) (Fr_sI hσ (In_o 1 rfl)))
theorem fr_F12_trayed_b9 (σ : Ms) : FR W12_trayed σ (F12_trayed_b9 σ) :=
  have hσ := Fr_rfl W12_trayed σ
  (FR_some hσ)
theorem fr_F12_trayed (p0 : Int32) (σ : Ms) : FR W12_trayed σ (F12_trayed p0 σ) :=
  have hσ := Fr_rfl W12_trayed σ
  (FR_if (FR_tr2 (fr_F12_trayed_b9 _) (Sub_rfl _) hσ) (FR_if (FR_ck fun z213 => (FR_if (FR_some hσ) (FR_some hσ))) (FR_tr2 (fr_F12_trayed_b9 _) (Sub_rfl _) hσ)))
theorem fr_F12_placed_b28 (σ : Ms) : FR W12_placed σ (F12_placed_b28 σ) :=
  have hσ := Fr_rfl W12_placed σ
  (FR_some hσ)
theorem fr_F12_placed (p0 : Int32) (p1 : Int32) (σ : Ms) : FR W12_placed σ (F12_placed p0 p1 σ) :=
  have hσ := Fr_rfl W12_placed σ
  (FR_bn (fr_F12_trayed _ _) (Sub_nil _) hσ fun r1 t2 ht2 => (FR_if (FR_if (FR_tr2 (fr_F12_placed_b28 _) (Sub_rfl _) ht2) (FR_ck fun z214 => (FR_if (FR_some ht2) (FR_tr2 (fr_F12_placed_b28 _) (Sub_rfl _) ht2)))) (FR_some ht2)))
theorem fr_F12_write (p0 : Int32) (p1 : Int32) (p2 : Int64) (σ : Ms) : FR W12_write σ (F12_write p0 p1 p2 σ) :=
  have hσ := Fr_rfl W12_write σ
  (FR_st (fun t1 ht1 => (FR_bn (fr_F12_placed _ _ _) (Sub_nil _) ht1 fun r2 t3 ht3 => (FR_st (fun t4 ht4 => (FR_if (FR_ck fun z215 => (FR_bn (fr_F12_trims _ _ _) (Sub_nil _) ht4 fun r5 t6 ht6 => (FR_ck fun z216 => (FR_st (fun t7 ht7 => (FR_some ht7)) (Fr_sL ht6 (In_a 2 rfl)))))) (FR_some ht4))) (Fr_sI ht3 (In_o 1 rfl))))) (Fr_sI hσ (In_o 0 rfl)))
theorem fr_F12_read (p0 : Int32) (p1 : Int32) (σ : Ms) : FR W12_read σ (F12_read p0 p1 σ) :=
  have hσ := Fr_rfl W12_read σ
  (FR_st (fun t1 ht1 => (FR_bn (fr_F12_placed _ _ _) (Sub_nil _) ht1 fun r2 t3 ht3 => (FR_st (fun t4 ht4 => (FR_if (FR_ck fun z217 => (FR_some ht4)) (FR_some ht4))) (Fr_sI ht3 (In_o 1 rfl))))) (Fr_sI hσ (In_o 0 rfl)))
theorem fr_F12_pour_b28 (N : Nat) (σ : Ms) : FR W12_pour σ (F12_pour_b28 N σ) :=
  have hσ := Fr_rfl W12_pour σ
  (FR_bn (fr_F12_no _ _) (Sub_of [2] rfl) hσ fun r1 t2 ht2 => (FR_ck fun z218 => (FR_some ht2)))
theorem fr_F12_pour_b52 (N : Nat) (σ : Ms) : FR W12_pour σ (F12_pour_b52 N σ) :=
  have hσ := Fr_rfl W12_pour σ
  (FR_bn (fr_F12_no _ _) (Sub_of [2] rfl) hσ fun r3 t4 ht4 => (FR_ck fun z219 => (FR_some ht4)))
theorem fr_F12_pour_b136 (N : Nat) (σ : Ms) : FR W12_pour σ (F12_pour_b136 N σ) :=
  have hσ := Fr_rfl W12_pour σ
  (FR_bn (fr_F12_no _ _) (Sub_of [2] rfl) hσ fun r5 t6 ht6 => (FR_ck fun z220 => (FR_some ht6)))
theorem fr_F12_pour_b182 (N : Nat) (k158 : Int32 × Int32 × Int32 × Int32 × Int32 × Int32 × Int32 × Ms → Option (Int32 × Ms)) (hk158 : ∀ x, FR W12_pour x.2.2.2.2.2.2.2 (k158 x)) (l1 : Int32) (l2 : Int32) (l3 : Int32) (l4 : Int32) (l5 : Int32) (l6 : Int32) (l7 : Int32) (s0 : Int32) (σ : Ms) : FR W12_pour σ (F12_pour_b182 N k158 l1 l2 l3 l4 l5 l6 l7 s0 σ) :=
  have hσ := Fr_rfl W12_pour σ
  (FR_ck fun z221 => (FR_ck fun z222 => (FR_st (fun t7 ht7 => (FR_tr ht7 (hk158 (l1, l2, l3, l4, l5, l6, (l7 + (1 : Int32)), t7)))) (Fr_sL hσ (In_a 0 rfl)))))
theorem fr_F12_pour_b158B (N : Nat) (k158 : Int32 × Int32 × Int32 × Int32 × Int32 × Int32 × Int32 × Ms → Option (Int32 × Ms)) (hk158 : ∀ x, FR W12_pour x.2.2.2.2.2.2.2 (k158 x)) (l1 : Int32) (l2 : Int32) (l3 : Int32) (l4 : Int32) (l5 : Int32) (l6 : Int32) (l7 : Int32) (σ : Ms) : FR W12_pour σ (F12_pour_b158B N k158 l1 l2 l3 l4 l5 l6 l7 σ) :=
  have hσ := Fr_rfl W12_pour σ
  (FR_if (FR_some hσ) (FR_if (FR_tr2 (fr_F12_pour_b182 _ _ hk158 _ _ _ _ _ _ _ _ _) (Sub_rfl _) hσ) (FR_tr2 (fr_F12_pour_b182 _ _ hk158 _ _ _ _ _ _ _ _ _) (Sub_rfl _) hσ)))
theorem fr_F12_pour_b158 (N : Nat) (l1 : Int32) (l2 : Int32) (l3 : Int32) (l4 : Int32) (l5 : Int32) (l6 : Int32) (l7 : Int32) (σ : Ms) : FR W12_pour σ (F12_pour_b158 N l1 l2 l3 l4 l5 l6 l7 σ) := by
  unfold F12_pour_b158
  exact @FR_fx (Int32 × Int32 × Int32 × Int32 × Int32 × Int32 × Int32 × Ms) (Int32) W12_pour (fun k x => F12_pour_b158B N k x.1 x.2.1 x.2.2.1 x.2.2.2.1 x.2.2.2.2.1 x.2.2.2.2.2.1 x.2.2.2.2.2.2.1 x.2.2.2.2.2.2.2) (fun x => x.2.2.2.2.2.2.2) (fun k hk x => fr_F12_pour_b158B N k hk x.1 x.2.1 x.2.2.1 x.2.2.2.1 x.2.2.2.2.1 x.2.2.2.2.2.1 x.2.2.2.2.2.2.1 x.2.2.2.2.2.2.2) N (l1, l2, l3, l4, l5, l6, l7, σ)
theorem fr_F12_pour_b153 (N : Nat) (l1 : Int32) (l2 : Int32) (l3 : Int32) (l4 : Int32) (l5 : Int32) (s0 : Int32) (σ : Ms) : FR W12_pour σ (F12_pour_b153 N l1 l2 l3 l4 l5 s0 σ) :=
  have hσ := Fr_rfl W12_pour σ
  (FR_tr2 (fr_F12_pour_b158 _ _ _ _ _ _ _ _ _) (Sub_rfl _) hσ)
theorem fr_F12_pour (N : Nat) (p0 : Int32) (p1 : Int32) (p2 : Int32) (p3 : Int32) (p4 : Int32) (σ : Ms) : FR W12_pour σ (F12_pour N p0 p1 p2 p3 p4 σ) :=
  have hσ := Fr_rfl W12_pour σ
  (FR_st (fun t8 ht8 => (FR_st (fun t9 ht9 => (FR_if (FR_tr2 (fr_F12_pour_b28 _ _) (Sub_rfl _) ht9) (FR_if (FR_tr2 (fr_F12_pour_b28 _ _) (Sub_rfl _) ht9) (FR_if (FR_tr2 (fr_F12_pour_b28 _ _) (Sub_rfl _) ht9) (FR_if (FR_ck fun z223 => (FR_if (FR_tr2 (fr_F12_pour_b52 _ _) (Sub_rfl _) ht9) (FR_ck fun z224 => (FR_if (FR_ck fun z225 => (FR_ck fun z226 => (FR_if (FR_if (FR_if (FR_tr2 (fr_F12_pour_b136 _ _) (Sub_rfl _) ht9) (FR_if (FR_tr2 (fr_F12_pour_b136 _ _) (Sub_rfl _) ht9) (FR_ck fun z227 => (FR_if (FR_tr2 (fr_F12_pour_b136 _ _) (Sub_rfl _) ht9) (FR_ck fun z228 => (FR_if (FR_if (FR_tr2 (fr_F12_pour_b153 _ _ _ _ _ _ _ _) (Sub_rfl _) ht9) (FR_tr2 (fr_F12_pour_b153 _ _ _ _ _ _ _ _) (Sub_rfl _) ht9)) (FR_tr2 (fr_F12_pour_b136 _ _) (Sub_rfl _) ht9))))))) (FR_bn (fr_F12_no _ _) (Sub_of [2] rfl) ht9 fun r10 t11 ht11 => (FR_ck fun z229 => (FR_some ht11)))) (FR_bn (fr_F12_no _ _) (Sub_of [2] rfl) ht9 fun r12 t13 ht13 => (FR_ck fun z230 => (FR_some ht13)))))) (FR_tr2 (fr_F12_pour_b52 _ _) (Sub_rfl _) ht9))))) (FR_tr2 (fr_F12_pour_b28 _ _) (Sub_rfl _) ht9)))))) (Fr_sI ht8 (In_o 2 rfl)))) (Fr_sI hσ (In_o 1 rfl)))
theorem fr_F12_numberOf (p0 : Int32) (p1 : Int32) (σ : Ms) : FR W12_numberOf σ (F12_numberOf p0 p1 σ) :=
  have hσ := Fr_rfl W12_numberOf σ
  (FR_ck fun z231 => (FR_some hσ))
theorem fr_F12_isTray (p0 : Int32) (σ : Ms) : FR W12_isTray σ (F12_isTray p0 σ) :=
  have hσ := Fr_rfl W12_isTray σ
  (FR_bn (fr_F12_isIn _ _ _ _) (Sub_nil _) hσ fun r1 t2 ht2 => (FR_ck fun z232 => (FR_some ht2)))
theorem fr_F12_has (p0 : Int32) (p1 : Int32) (σ : Ms) : FR W12_has σ (F12_has p0 p1 σ) :=
  have hσ := Fr_rfl W12_has σ
  (FR_if (FR_some hσ) (FR_some hσ))
theorem fr_F12_sizeOf_b24 (N : Nat) (k4 : Int32 × Int32 × Int32 × Ms → Option (Int32 × Ms)) (hk4 : ∀ x, FR W12_sizeOf x.2.2.2 (k4 x)) (l0 : Int32) (l2 : Int32) (s0 : Int32) (s1 : Int32) (σ : Ms) : FR W12_sizeOf σ (F12_sizeOf_b24 N k4 l0 l2 s0 s1 σ) :=
  have hσ := Fr_rfl W12_sizeOf σ
  (FR_lv fun x1 => (FR_tr hσ (hk4 (l0, x1, (l2 + (1 : Int32)), σ))))
theorem fr_F12_sizeOf_b4B (N : Nat) (k4 : Int32 × Int32 × Int32 × Ms → Option (Int32 × Ms)) (hk4 : ∀ x, FR W12_sizeOf x.2.2.2 (k4 x)) (l0 : Int32) (l1 : Int32) (l2 : Int32) (σ : Ms) : FR W12_sizeOf σ (F12_sizeOf_b4B N k4 l0 l1 l2 σ) :=
  have hσ := Fr_rfl W12_sizeOf σ
  (FR_if (FR_some hσ) (FR_bn (fr_F12_has _ _ _) (Sub_nil _) hσ fun r2 t3 ht3 => (FR_if (FR_tr2 (fr_F12_sizeOf_b24 _ _ hk4 _ _ _ _ _) (Sub_rfl _) ht3) (FR_tr2 (fr_F12_sizeOf_b24 _ _ hk4 _ _ _ _ _) (Sub_rfl _) ht3))))
theorem fr_F12_sizeOf_b4 (N : Nat) (l0 : Int32) (l1 : Int32) (l2 : Int32) (σ : Ms) : FR W12_sizeOf σ (F12_sizeOf_b4 N l0 l1 l2 σ) := by
  unfold F12_sizeOf_b4
  exact @FR_fx (Int32 × Int32 × Int32 × Ms) (Int32) W12_sizeOf (fun k x => F12_sizeOf_b4B N k x.1 x.2.1 x.2.2.1 x.2.2.2) (fun x => x.2.2.2) (fun k hk x => fr_F12_sizeOf_b4B N k hk x.1 x.2.1 x.2.2.1 x.2.2.2) N (l0, l1, l2, σ)
theorem fr_F12_sizeOf (N : Nat) (p0 : Int32) (σ : Ms) : FR W12_sizeOf σ (F12_sizeOf N p0 σ) :=
  have hσ := Fr_rfl W12_sizeOf σ
  (FR_tr2 (fr_F12_sizeOf_b4 _ _ _ _ _) (Sub_rfl _) hσ)
theorem fr_F12_look2 (p0 : Int32) (σ : Ms) : FR W12_look2 σ (F12_look2 p0 σ) :=
  have hσ := Fr_rfl W12_look2 σ
  (FR_if (FR_some hσ) (FR_ck fun z233 => (FR_some hσ)))
theorem fr_F12_isLetter (p0 : Int32) (σ : Ms) : FR W12_isLetter σ (F12_isLetter p0 σ) :=
  have hσ := Fr_rfl W12_isLetter σ
  (FR_if (FR_some hσ) (FR_if (FR_some hσ) (FR_some hσ)))
theorem fr_F12_isDigit (p0 : Int32) (σ : Ms) : FR W12_isDigit σ (F12_isDigit p0 σ) :=
  have hσ := Fr_rfl W12_isDigit σ
  (FR_if (FR_some hσ) (FR_if (FR_some hσ) (FR_some hσ)))
theorem fr_F12_isSignByte_b24 (σ : Ms) : FR W12_isSignByte σ (F12_isSignByte_b24 σ) :=
  have hσ := Fr_rfl W12_isSignByte σ
  (FR_some hσ)
theorem fr_F12_isSignByte (p0 : Int32) (σ : Ms) : FR W12_isSignByte σ (F12_isSignByte p0 σ) :=
  have hσ := Fr_rfl W12_isSignByte σ
  (FR_if (FR_tr2 (fr_F12_isSignByte_b24 _) (Sub_rfl _) hσ) (FR_if (FR_tr2 (fr_F12_isSignByte_b24 _) (Sub_rfl _) hσ) (FR_if (FR_tr2 (fr_F12_isSignByte_b24 _) (Sub_rfl _) hσ) (FR_if (FR_some hσ) (FR_tr2 (fr_F12_isSignByte_b24 _) (Sub_rfl _) hσ)))))
theorem fr_F12_advance_b276 (N : Nat) (s1 : Int32) (σ : Ms) : FR W12_advance σ (F12_advance_b276 N s1 σ) :=
  have hσ := Fr_rfl W12_advance σ
  (FR_st (fun t1 ht1 => (FR_some ht1)) (Fr_sI hσ (In_o 0 rfl)))
theorem fr_F12_advance_b244 (N : Nat) (k194 : Ms → Option (Unit × Ms)) (hk194 : ∀ x, FR W12_advance x (k194 x)) (σ : Ms) : FR W12_advance σ (F12_advance_b244 N k194 σ) :=
  have hσ := Fr_rfl W12_advance σ
  (FR_st (fun t2 ht2 => (FR_tr ht2 (hk194 t2))) (Fr_sI hσ (In_o 1 rfl)))
theorem fr_F12_advance_b194B (N : Nat) (k194 : Ms → Option (Unit × Ms)) (hk194 : ∀ x, FR W12_advance x (k194 x)) (σ : Ms) : FR W12_advance σ (F12_advance_b194B N k194 σ) :=
  have hσ := Fr_rfl W12_advance σ
  (FR_bn (fr_F12_look2 _ _) (Sub_nil _) hσ fun r3 t4 ht4 => (FR_bn (fr_F12_isDigit _ _) (Sub_nil _) ht4 fun r5 t6 ht6 => (FR_if (FR_if (FR_tr2 (fr_F12_advance_b276 _ _ _) (Sub_rfl _) ht6) (FR_tr2 (fr_F12_advance_b276 _ _ _) (Sub_rfl _) ht6)) (FR_if (FR_tr2 (fr_F12_advance_b244 _ _ hk194 _) (Sub_rfl _) ht6) (FR_bn (fr_F12_look2 _ _) (Sub_nil _) ht6 fun r7 t8 ht8 => (FR_st (fun t9 ht9 => (FR_tr2 (fr_F12_advance_b244 _ _ hk194 _) (Sub_rfl _) ht9)) (Fr_sI ht8 (In_o 2 rfl))))))))
theorem fr_F12_advance_b194 (N : Nat) (σ : Ms) : FR W12_advance σ (F12_advance_b194 N σ) := by
  unfold F12_advance_b194
  exact @FR_fx (Ms) (Unit) W12_advance (fun k x => F12_advance_b194B N k x) (fun x => x) (fun k hk x => fr_F12_advance_b194B N k hk x) N σ
theorem fr_F12_advance_b166 (N : Nat) (k109 : Ms → Option (Unit × Ms)) (hk109 : ∀ x, FR W12_advance x (k109 x)) (s1 : Int64) (σ : Ms) : FR W12_advance σ (F12_advance_b166 N k109 s1 σ) :=
  have hσ := Fr_rfl W12_advance σ
  (FR_st (fun t10 ht10 => (FR_st (fun t11 ht11 => (FR_tr ht11 (hk109 t11))) (Fr_sI ht10 (In_o 1 rfl)))) (Fr_sL hσ (In_o 3 rfl)))
theorem fr_F12_advance_b109B (N : Nat) (k109 : Ms → Option (Unit × Ms)) (hk109 : ∀ x, FR W12_advance x (k109 x)) (σ : Ms) : FR W12_advance σ (F12_advance_b109B N k109 σ) :=
  have hσ := Fr_rfl W12_advance σ
  (FR_bn (fr_F12_look2 _ _) (Sub_nil _) hσ fun r12 t13 ht13 => (FR_bn (fr_F12_isLetter _ _) (Sub_nil _) ht13 fun r14 t15 ht15 => (FR_if (FR_some ht15) (FR_if (FR_tr2 (fr_F12_advance_b166 _ _ hk109 _ _) (Sub_rfl _) ht15) (FR_bn (fr_F12_look2 _ _) (Sub_nil _) ht15 fun r16 t17 ht17 => (FR_tr2 (fr_F12_advance_b166 _ _ hk109 _ _) (Sub_rfl _) ht17))))))
theorem fr_F12_advance_b109 (N : Nat) (σ : Ms) : FR W12_advance σ (F12_advance_b109 N σ) := by
  unfold F12_advance_b109
  exact @FR_fx (Ms) (Unit) W12_advance (fun k x => F12_advance_b109B N k x) (fun x => x) (fun k hk x => fr_F12_advance_b109B N k hk x) N σ
theorem fr_F12_advance_b58 (N : Nat) (σ : Ms) : FR W12_advance σ (F12_advance_b58 N σ) :=
  have hσ := Fr_rfl W12_advance σ
  (FR_st (fun t18 ht18 => (FR_if (FR_bn (fr_F12_look2 _ _) (Sub_nil _) ht18 fun r19 t20 ht20 => (FR_bn (fr_F12_isLetter _ _) (Sub_nil _) ht20 fun r21 t22 ht22 => (FR_if (FR_bn (fr_F12_isDigit _ _) (Sub_nil _) ht22 fun r23 t24 ht24 => (FR_if (FR_st (fun t25 ht25 => (FR_st (fun t26 ht26 => (FR_bn (fr_F12_isSignByte _ _) (Sub_nil _) ht26 fun r27 t28 ht28 => (FR_if (FR_st (fun t29 ht29 => (FR_some ht29)) (Fr_sI ht28 (In_o 0 rfl))) (FR_st (fun t30 ht30 => (FR_some ht30)) (Fr_sI ht28 (In_o 0 rfl)))))) (Fr_sI ht25 (In_o 2 rfl)))) (Fr_sI ht24 (In_o 1 rfl))) (FR_st (fun t31 ht31 => (FR_tr2 (fr_F12_advance_b194 _ _) (Sub_rfl _) ht31)) (Fr_sI ht24 (In_o 2 rfl))))) (FR_st (fun t32 ht32 => (FR_st (fun t33 ht33 => (FR_tr2 (fr_F12_advance_b109 _ _) (Sub_rfl _) ht33)) (Fr_sL ht32 (In_o 3 rfl)))) (Fr_sI ht22 (In_o 0 rfl)))))) (FR_st (fun t34 ht34 => (FR_some ht34)) (Fr_sI ht18 (In_o 0 rfl))))) (Fr_sI hσ (In_o 1 rfl)))
theorem fr_F12_advance_b45 (N : Nat) (k8 : Ms → Option (Unit × Ms)) (hk8 : ∀ x, FR W12_advance x (k8 x)) (σ : Ms) : FR W12_advance σ (F12_advance_b45 N k8 σ) :=
  have hσ := Fr_rfl W12_advance σ
  (FR_st (fun t35 ht35 => (FR_tr ht35 (hk8 t35))) (Fr_sI hσ (In_o 4 rfl)))
theorem fr_F12_advance_b8B (N : Nat) (k8 : Ms → Option (Unit × Ms)) (hk8 : ∀ x, FR W12_advance x (k8 x)) (σ : Ms) : FR W12_advance σ (F12_advance_b8B N k8 σ) :=
  have hσ := Fr_rfl W12_advance σ
  (FR_if (FR_tr2 (fr_F12_advance_b58 _ _) (Sub_rfl _) hσ) (FR_bn (fr_F12_look2 _ _) (Sub_nil _) hσ fun r36 t37 ht37 => (FR_if (FR_tr2 (fr_F12_advance_b45 _ _ hk8 _) (Sub_rfl _) ht37) (FR_bn (fr_F12_look2 _ _) (Sub_nil _) ht37 fun r38 t39 ht39 => (FR_if (FR_tr2 (fr_F12_advance_b58 _ _) (Sub_rfl _) ht39) (FR_tr2 (fr_F12_advance_b45 _ _ hk8 _) (Sub_rfl _) ht39))))))
theorem fr_F12_advance_b8 (N : Nat) (σ : Ms) : FR W12_advance σ (F12_advance_b8 N σ) := by
  unfold F12_advance_b8
  exact @FR_fx (Ms) (Unit) W12_advance (fun k x => F12_advance_b8B N k x) (fun x => x) (fun k hk x => fr_F12_advance_b8B N k hk x) N σ
theorem fr_F12_advance (N : Nat) (σ : Ms) : FR W12_advance σ (F12_advance N σ) :=
  have hσ := Fr_rfl W12_advance σ
  (FR_st (fun t40 ht40 => (FR_tr2 (fr_F12_advance_b8 _ _) (Sub_rfl _) ht40)) (Fr_sI hσ (In_o 4 rfl)))
theorem fr_F12_isSign (p0 : Int32) (σ : Ms) : FR W12_isSign σ (F12_isSign p0 σ) :=
  have hσ := Fr_rfl W12_isSign σ
  (FR_if (FR_some hσ) (FR_if (FR_some hσ) (FR_some hσ)))
theorem fr_F12_spelled_b91 (l5 : Int32) (s0 : Int64) (σ : Ms) : FR W12_spelled σ (F12_spelled_b91 l5 s0 σ) :=
  have hσ := Fr_rfl W12_spelled σ
  (FR_if (FR_some hσ) (FR_some hσ))
theorem fr_F12_spelled_b65 (l4 : Int32) (l5 : Int32) (s0 : Int64) (σ : Ms) : FR W12_spelled σ (F12_spelled_b65 l4 l5 s0 σ) :=
  have hσ := Fr_rfl W12_spelled σ
  (FR_if (FR_tr2 (fr_F12_spelled_b91 _ _ _) (Sub_rfl _) hσ) (FR_tr2 (fr_F12_spelled_b91 _ _ _) (Sub_rfl _) hσ))
theorem fr_F12_spelled_b41 (l3 : Int32) (l4 : Int32) (l5 : Int32) (s0 : Int64) (σ : Ms) : FR W12_spelled σ (F12_spelled_b41 l3 l4 l5 s0 σ) :=
  have hσ := Fr_rfl W12_spelled σ
  (FR_if (FR_tr2 (fr_F12_spelled_b65 _ _ _ _) (Sub_rfl _) hσ) (FR_tr2 (fr_F12_spelled_b65 _ _ _ _) (Sub_rfl _) hσ))
theorem fr_F12_spelled (p0 : Int32) (p1 : Int32) (p2 : Int32) (p3 : Int32) (p4 : Int32) (p5 : Int32) (σ : Ms) : FR W12_spelled σ (F12_spelled p0 p1 p2 p3 p4 p5 σ) :=
  have hσ := Fr_rfl W12_spelled σ
  (FR_lv fun x1 => (FR_if (FR_tr2 (fr_F12_spelled_b41 _ _ _ _ _) (Sub_rfl _) hσ) (FR_tr2 (fr_F12_spelled_b41 _ _ _ _ _) (Sub_rfl _) hσ)))
theorem fr_F12_isWord (p0 : Int64) (σ : Ms) : FR W12_isWord σ (F12_isWord p0 σ) :=
  have hσ := Fr_rfl W12_isWord σ
  (FR_if (FR_some hσ) (FR_if (FR_some hσ) (FR_some hσ)))
theorem fr_F12_isSprig (σ : Ms) : FR W12_isSprig σ (F12_isSprig σ) :=
  have hσ := Fr_rfl W12_isSprig σ
  (FR_bn (fr_F12_spelled _ _ _ _ _ _ _) (Sub_nil _) hσ fun r1 t2 ht2 => (FR_bn (fr_F12_isWord _ _) (Sub_nil _) ht2 fun r3 t4 ht4 => (FR_ck fun z234 => (FR_some ht4))))
theorem fr_F12_isHeap (σ : Ms) : FR W12_isHeap σ (F12_isHeap σ) :=
  have hσ := Fr_rfl W12_isHeap σ
  (FR_bn (fr_F12_spelled _ _ _ _ _ _ _) (Sub_nil _) hσ fun r1 t2 ht2 => (FR_bn (fr_F12_isWord _ _) (Sub_nil _) ht2 fun r3 t4 ht4 => (FR_ck fun z235 => (FR_some ht4))))
theorem fr_F12_isBet (σ : Ms) : FR W12_isBet σ (F12_isBet σ) :=
  have hσ := Fr_rfl W12_isBet σ
  (FR_bn (fr_F12_spelled _ _ _ _ _ _ _) (Sub_nil _) hσ fun r1 t2 ht2 => (FR_bn (fr_F12_isWord _ _) (Sub_nil _) ht2 fun r3 t4 ht4 => (FR_ck fun z236 => (FR_some ht4))))
theorem fr_F12_isOn (σ : Ms) : FR W12_isOn σ (F12_isOn σ) :=
  have hσ := Fr_rfl W12_isOn σ
  (FR_bn (fr_F12_spelled _ _ _ _ _ _ _) (Sub_nil _) hσ fun r1 t2 ht2 => (FR_bn (fr_F12_isWord _ _) (Sub_nil _) ht2 fun r3 t4 ht4 => (FR_ck fun z237 => (FR_some ht4))))
theorem fr_F12_colourWord (σ : Ms) : FR W12_colourWord σ (F12_colourWord σ) :=
  have hσ := Fr_rfl W12_colourWord σ
  (FR_bn (fr_F12_spelled _ _ _ _ _ _ _) (Sub_nil _) hσ fun r1 t2 ht2 => (FR_bn (fr_F12_isWord _ _) (Sub_nil _) ht2 fun r3 t4 ht4 => (FR_if (FR_bn (fr_F12_spelled _ _ _ _ _ _ _) (Sub_nil _) ht4 fun r5 t6 ht6 => (FR_bn (fr_F12_isWord _ _) (Sub_nil _) ht6 fun r7 t8 ht8 => (FR_if (FR_bn (fr_F12_spelled _ _ _ _ _ _ _) (Sub_nil _) ht8 fun r9 t10 ht10 => (FR_bn (fr_F12_isWord _ _) (Sub_nil _) ht10 fun r11 t12 ht12 => (FR_if (FR_some ht12) (FR_some ht12)))) (FR_some ht8)))) (FR_some ht4))))
theorem fr_F12_sideWord (σ : Ms) : FR W12_sideWord σ (F12_sideWord σ) :=
  have hσ := Fr_rfl W12_sideWord σ
  (FR_bn (fr_F12_spelled _ _ _ _ _ _ _) (Sub_nil _) hσ fun r1 t2 ht2 => (FR_bn (fr_F12_isWord _ _) (Sub_nil _) ht2 fun r3 t4 ht4 => (FR_if (FR_bn (fr_F12_spelled _ _ _ _ _ _ _) (Sub_nil _) ht4 fun r5 t6 ht6 => (FR_bn (fr_F12_isWord _ _) (Sub_nil _) ht6 fun r7 t8 ht8 => (FR_if (FR_some ht8) (FR_some ht8)))) (FR_some ht4))))
theorem fr_F12_stepWord (σ : Ms) : FR W12_stepWord σ (F12_stepWord σ) :=
  have hσ := Fr_rfl W12_stepWord σ
  (FR_bn (fr_F12_spelled _ _ _ _ _ _ _) (Sub_nil _) hσ fun r1 t2 ht2 => (FR_bn (fr_F12_isWord _ _) (Sub_nil _) ht2 fun r3 t4 ht4 => (FR_if (FR_bn (fr_F12_spelled _ _ _ _ _ _ _) (Sub_nil _) ht4 fun r5 t6 ht6 => (FR_bn (fr_F12_isWord _ _) (Sub_nil _) ht6 fun r7 t8 ht8 => (FR_if (FR_bn (fr_F12_spelled _ _ _ _ _ _ _) (Sub_nil _) ht8 fun r9 t10 ht10 => (FR_bn (fr_F12_isWord _ _) (Sub_nil _) ht10 fun r11 t12 ht12 => (FR_if (FR_bn (fr_F12_spelled _ _ _ _ _ _ _) (Sub_nil _) ht12 fun r13 t14 ht14 => (FR_bn (fr_F12_isWord _ _) (Sub_nil _) ht14 fun r15 t16 ht16 => (FR_if (FR_bn (fr_F12_spelled _ _ _ _ _ _ _) (Sub_nil _) ht16 fun r17 t18 ht18 => (FR_bn (fr_F12_isWord _ _) (Sub_nil _) ht18 fun r19 t20 ht20 => (FR_if (FR_bn (fr_F12_spelled _ _ _ _ _ _ _) (Sub_nil _) ht20 fun r21 t22 ht22 => (FR_bn (fr_F12_isWord _ _) (Sub_nil _) ht22 fun r23 t24 ht24 => (FR_if (FR_bn (fr_F12_spelled _ _ _ _ _ _ _) (Sub_nil _) ht24 fun r25 t26 ht26 => (FR_bn (fr_F12_isWord _ _) (Sub_nil _) ht26 fun r27 t28 ht28 => (FR_if (FR_bn (fr_F12_spelled _ _ _ _ _ _ _) (Sub_nil _) ht28 fun r29 t30 ht30 => (FR_bn (fr_F12_isWord _ _) (Sub_nil _) ht30 fun r31 t32 ht32 => (FR_if (FR_some ht32) (FR_some ht32)))) (FR_some ht28)))) (FR_some ht24)))) (FR_some ht20)))) (FR_some ht16)))) (FR_some ht12)))) (FR_some ht8)))) (FR_some ht4))))
theorem fr_F12_testWord (σ : Ms) : FR W12_testWord σ (F12_testWord σ) :=
  have hσ := Fr_rfl W12_testWord σ
  (FR_bn (fr_F12_spelled _ _ _ _ _ _ _) (Sub_nil _) hσ fun r1 t2 ht2 => (FR_bn (fr_F12_isWord _ _) (Sub_nil _) ht2 fun r3 t4 ht4 => (FR_if (FR_bn (fr_F12_spelled _ _ _ _ _ _ _) (Sub_nil _) ht4 fun r5 t6 ht6 => (FR_bn (fr_F12_isWord _ _) (Sub_nil _) ht6 fun r7 t8 ht8 => (FR_if (FR_bn (fr_F12_spelled _ _ _ _ _ _ _) (Sub_nil _) ht8 fun r9 t10 ht10 => (FR_bn (fr_F12_isWord _ _) (Sub_nil _) ht10 fun r11 t12 ht12 => (FR_if (FR_bn (fr_F12_spelled _ _ _ _ _ _ _) (Sub_nil _) ht12 fun r13 t14 ht14 => (FR_bn (fr_F12_isWord _ _) (Sub_nil _) ht14 fun r15 t16 ht16 => (FR_if (FR_some ht16) (FR_some ht16)))) (FR_some ht12)))) (FR_some ht8)))) (FR_some ht4))))
theorem fr_F12_isEnd (σ : Ms) : FR W12_isEnd σ (F12_isEnd σ) :=
  have hσ := Fr_rfl W12_isEnd σ
  (FR_bn (fr_F12_spelled _ _ _ _ _ _ _) (Sub_nil _) hσ fun r1 t2 ht2 => (FR_bn (fr_F12_isWord _ _) (Sub_nil _) ht2 fun r3 t4 ht4 => (FR_ck fun z238 => (FR_some ht4))))
theorem fr_F12_fail (p0 : Int32) (p1 : Int32) (σ : Ms) : FR W12_fail σ (F12_fail p0 p1 σ) :=
  have hσ := Fr_rfl W12_fail σ
  (FR_if (FR_st (fun t1 ht1 => (FR_st (fun t2 ht2 => (FR_some ht2)) (Fr_sI ht1 (In_o 1 rfl)))) (Fr_sI hσ (In_o 0 rfl))) (FR_some hσ))
theorem fr_F12_amiss_b14 (s1 : Int32) (σ : Ms) : FR W12_amiss σ (F12_amiss_b14 s1 σ) :=
  have hσ := Fr_rfl W12_amiss σ
  (FR_bn (fr_F12_fail _ _ _) (Sub_of [0, 1] rfl) hσ fun r1 t2 ht2 => (FR_some ht2))
theorem fr_F12_amiss (σ : Ms) : FR W12_amiss σ (F12_amiss σ) :=
  have hσ := Fr_rfl W12_amiss σ
  (FR_if (FR_tr2 (fr_F12_amiss_b14 _ _) (Sub_rfl _) hσ) (FR_tr2 (fr_F12_amiss_b14 _ _) (Sub_rfl _) hσ))
theorem fr_F12_must (N : Nat) (p0 : Int32) (σ : Ms) : FR W12_must σ (F12_must N p0 σ) :=
  have hσ := Fr_rfl W12_must σ
  (FR_if (FR_if (FR_bn (fr_F12_amiss _) (Sub_of [0, 1] rfl) hσ fun r1 t2 ht2 => (FR_some ht2)) (FR_bn (fr_F12_advance _ _) (Sub_of [2, 3, 4, 5, 6] rfl) hσ fun r3 t4 ht4 => (FR_some ht4))) (FR_some hσ))
theorem fr_F12_mayBe_b19 (l1 : Int32) (l2 : Int32) (σ : Ms) : FR W12_mayBe σ (F12_mayBe_b19 l1 l2 σ) :=
  have hσ := Fr_rfl W12_mayBe σ
  (FR_if (FR_some hσ) (FR_bn (fr_F12_isIn _ _ _ _) (Sub_nil _) hσ fun r1 t2 ht2 => (FR_if (FR_some ht2) (FR_bn (fr_F12_fail _ _ _) (Sub_of [0, 1] rfl) ht2 fun r3 t4 ht4 => (FR_some ht4)))))
theorem fr_F12_mayBe (p0 : Int32) (p1 : Int32) (σ : Ms) : FR W12_mayBe σ (F12_mayBe p0 p1 σ) :=
  have hσ := Fr_rfl W12_mayBe σ
  (FR_if (FR_tr2 (fr_F12_mayBe_b19 _ _ _) (Sub_rfl _) hσ) (FR_if (FR_tr2 (fr_F12_mayBe_b19 _ _ _) (Sub_rfl _) hσ) (FR_bn (fr_F12_amiss _) (Sub_of [0, 1] rfl) hσ fun r5 t6 ht6 => (FR_tr2 (fr_F12_mayBe_b19 _ _ _) (Sub_rfl _) ht6))))
theorem fr_F12_count (N : Nat) (p0 : Int32) (p1 : Int32) (σ : Ms) : FR W12_count σ (F12_count N p0 p1 σ) :=
  have hσ := Fr_rfl W12_count σ
  (FR_bn (fr_F12_mayBe _ _ _) (Sub_of [0, 1] rfl) hσ fun r1 t2 ht2 => (FR_if (FR_lv fun x3 => (FR_bn (fr_F12_advance _ _) (Sub_of [2, 3, 4, 5, 6] rfl) ht2 fun r4 t5 ht5 => (FR_some ht5))) (FR_some ht2)))
theorem fr_F12_perhaps (N : Nat) (p0 : Int32) (σ : Ms) : FR W12_perhaps σ (F12_perhaps N p0 σ) :=
  have hσ := Fr_rfl W12_perhaps σ
  (FR_if (FR_some hσ) (FR_if (FR_bn (fr_F12_advance _ _) (Sub_of [0, 1, 2, 3, 4] rfl) hσ fun r1 t2 ht2 => (FR_some ht2)) (FR_some hσ)))
theorem fr_F12_readColour_b26 (N : Nat) (l1 : Int32) (s1 : Int32) (σ : Ms) : FR W12_readColour σ (F12_readColour_b26 N l1 s1 σ) :=
  have hσ := Fr_rfl W12_readColour σ
  (FR_bn (fr_F12_must _ _ _) (Sub_of [0, 1, 2, 3, 4, 5, 6] rfl) hσ fun r1 t2 ht2 => (FR_bn (fr_FJ9_max_7cf53 _ _ _) (Sub_nil _) ht2 fun r3 t4 ht4 => (FR_some ht4)))
