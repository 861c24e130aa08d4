theorem fr_F12_copyColours_b62 (N : Nat) (l1 : Int32) (l2 : Int32) (σ : Ms) : FR W12_copyColours σ (F12_copyColours_b62 N l1 l2 σ) := by
  unfold F12_copyColours_b62
  exact @FR_fx (Int32 × Int32 × Ms) (Int32) W12_copyColours (fun k x => F12_copyColours_b62B N k x.1 x.2.1 x.2.2) (fun x => x.2.2) (fun k hk x => fr_F12_copyColours_b62B N k hk x.1 x.2.1 x.2.2) N (l1, l2, σ)
theorem fr_F12_copyColours (N : Nat) (p0 : Int32) (σ : Ms) : FR W12_copyColours σ (F12_copyColours N p0 σ) :=
  have hσ := Fr_rfl W12_copyColours σ
  (FR_st (fun t3 ht3 => (FR_st (fun t4 ht4 => (FR_bn (fr_F12_isTray _ _) (Sub_nil _) ht4 fun r5 t6 ht6 => (FR_if (FR_ck fun z316 => (FR_if (FR_ck fun z317 => (FR_ck fun z318 => (FR_if (FR_tr2 (fr_F12_copyColours_b62 _ _ _ _) (Sub_rfl _) ht6) (FR_bn (fr_F12_refuse _ _) (Sub_of [1] rfl) ht6 fun r7 t8 ht8 => (FR_some ht8))))) (FR_bn (fr_F12_refuse _ _) (Sub_of [1] rfl) ht6 fun r9 t10 ht10 => (FR_some ht10)))) (FR_bn (fr_F12_refuse _ _) (Sub_of [1] rfl) ht6 fun r11 t12 ht12 => (FR_some ht12))))) (Fr_sI ht3 (In_o 1 rfl)))) (Fr_sI hσ (In_o 0 rfl)))
theorem fr_F12_blueWorth_b2B (N : Nat) (k2 : Int64 × Int32 × Ms → Option (Int64 × Ms)) (hk2 : ∀ x, FR W12_blueWorth x.2.2 (k2 x)) (l0 : Int64) (l2 : Int32) (σ : Ms) : FR W12_blueWorth σ (F12_blueWorth_b2B N k2 l0 l2 σ) :=
  have hσ := Fr_rfl W12_blueWorth σ
  (FR_if (FR_some hσ) (FR_tr hσ (hk2 (l0, (l2 + (1 : Int32)), σ))))
theorem fr_F12_blueWorth_b2 (N : Nat) (l0 : Int64) (l2 : Int32) (σ : Ms) : FR W12_blueWorth σ (F12_blueWorth_b2 N l0 l2 σ) := by
  unfold F12_blueWorth_b2
  exact @FR_fx (Int64 × Int32 × Ms) (Int64) W12_blueWorth (fun k x => F12_blueWorth_b2B N k x.1 x.2.1 x.2.2) (fun x => x.2.2) (fun k hk x => fr_F12_blueWorth_b2B N k hk x.1 x.2.1 x.2.2) N (l0, l2, σ)
theorem fr_F12_blueWorth (N : Nat) (p0 : Int64) (σ : Ms) : FR W12_blueWorth σ (F12_blueWorth N p0 σ) :=
  have hσ := Fr_rfl W12_blueWorth σ
  (FR_tr2 (fr_F12_blueWorth_b2 _ _ _ _) (Sub_rfl _) hσ)
theorem fr_F12_branchWorth (N : Nat) (p0 : Int32) (p1 : Int64) (σ : Ms) : FR W12_branchWorth σ (F12_branchWorth N p0 p1 σ) :=
  have hσ := Fr_rfl W12_branchWorth σ
  (FR_if (FR_bn (fr_F12_blueWorth _ _ _) (Sub_nil _) hσ fun r1 t2 ht2 => (FR_some ht2)) (FR_bn (fr_F12_blueWorth _ _ _) (Sub_nil _) hσ fun r3 t4 ht4 => (FR_some ht4)))
theorem fr_F12_laysWorths_b286 (N : Nat) (k105 : Int32 × Int32 × Int32 × Int32 × Ms → Option (Unit × Ms)) (hk105 : ∀ x, FR W12_laysWorths x.2.2.2.2 (k105 x)) (l1 : Int32) (l2 : Int32) (l3 : Int32) (l4 : Int32) (σ : Ms) : FR W12_laysWorths σ (F12_laysWorths_b286 N k105 l1 l2 l3 l4 σ) :=
  have hσ := Fr_rfl W12_laysWorths σ
  (FR_tr hσ (hk105 (l1, l2, l3, (l4 + (-1 : Int32)), σ)))
theorem fr_F12_laysWorths_b198 (N : Nat) (k105 : Int32 × Int32 × Int32 × Int32 × Ms → Option (Unit × Ms)) (hk105 : ∀ x, FR W12_laysWorths x.2.2.2.2 (k105 x)) (l1 : Int32) (l2 : Int32) (l3 : Int32) (l4 : Int32) (σ : Ms) : FR W12_laysWorths σ (F12_laysWorths_b198 N k105 l1 l2 l3 l4 σ) :=
  have hσ := Fr_rfl W12_laysWorths σ
  (FR_ck fun z319 => (FR_lv fun x1 => (FR_if (FR_ck fun z320 => (FR_st (fun t2 ht2 => (FR_ck fun z321 => (FR_st (fun t3 ht3 => (FR_tr2 (fr_F12_laysWorths_b286 _ _ hk105 _ _ _ _ _) (Sub_rfl _) ht3)) (Fr_sI ht2 (In_o 1 rfl))))) (Fr_sL hσ (In_o 0 rfl)))) (FR_ck fun z322 => (FR_ck fun z323 => (FR_ck fun z324 => (FR_st (fun t4 ht4 => (FR_ck fun z325 => (FR_ck fun z326 => (FR_ck fun z327 => (FR_st (fun t5 ht5 => (FR_tr2 (fr_F12_laysWorths_b286 _ _ hk105 _ _ _ _ _) (Sub_rfl _) ht5)) (Fr_sI ht4 (In_a 3 rfl))))))) (Fr_sL hσ (In_a 2 rfl)))))))))
theorem fr_F12_laysWorths_b157 (N : Nat) (k105 : Int32 × Int32 × Int32 × Int32 × Ms → Option (Unit × Ms)) (hk105 : ∀ x, FR W12_laysWorths x.2.2.2.2 (k105 x)) (l1 : Int32) (l2 : Int32) (l3 : Int32) (l4 : Int32) (s0 : Int32) (σ : Ms) : FR W12_laysWorths σ (F12_laysWorths_b157 N k105 l1 l2 l3 l4 s0 σ) :=
  have hσ := Fr_rfl W12_laysWorths σ
  (FR_if (FR_ck fun z328 => (FR_bn (fr_F12_branchWorth _ _ _ _) (Sub_nil _) hσ fun r6 t7 ht7 => (FR_ck fun z329 => (FR_st (fun t8 ht8 => (FR_tr2 (fr_F12_laysWorths_b198 _ _ hk105 _ _ _ _ _) (Sub_rfl _) ht8)) (Fr_sL ht7 (In_a 2 rfl)))))) (FR_ck fun z330 => (FR_ck fun z331 => (FR_st (fun t9 ht9 => (FR_tr2 (fr_F12_laysWorths_b198 _ _ hk105 _ _ _ _ _) (Sub_rfl _) ht9)) (Fr_sI hσ (In_a 3 rfl))))))
theorem fr_F12_laysWorths_b105B (N : Nat) (k105 : Int32 × Int32 × Int32 × Int32 × Ms → Option (Unit × Ms)) (hk105 : ∀ x, FR W12_laysWorths x.2.2.2.2 (k105 x)) (l1 : Int32) (l2 : Int32) (l3 : Int32) (l4 : Int32) (σ : Ms) : FR W12_laysWorths σ (F12_laysWorths_b105B N k105 l1 l2 l3 l4 σ) :=
  have hσ := Fr_rfl W12_laysWorths σ
  (FR_if (FR_some hσ) (FR_bn (fr_F12_has _ _ _) (Sub_nil _) hσ fun r10 t11 ht11 => (FR_if (FR_bn (fr_F12_has _ _ _) (Sub_nil _) ht11 fun r12 t13 ht13 => (FR_if (FR_ck fun z332 => (FR_tr2 (fr_F12_laysWorths_b157 _ _ hk105 _ _ _ _ _ _) (Sub_rfl _) ht13)) (FR_bn (fr_F12_has _ _ _) (Sub_nil _) ht13 fun r14 t15 ht15 => (FR_if (FR_tr2 (fr_F12_laysWorths_b157 _ _ hk105 _ _ _ _ _ _) (Sub_rfl _) ht15) (FR_tr2 (fr_F12_laysWorths_b157 _ _ hk105 _ _ _ _ _ _) (Sub_rfl _) ht15))))) (FR_tr2 (fr_F12_laysWorths_b286 _ _ hk105 _ _ _ _ _) (Sub_rfl _) ht11))))
theorem fr_F12_laysWorths_b105 (N : Nat) (l1 : Int32) (l2 : Int32) (l3 : Int32) (l4 : Int32) (σ : Ms) : FR W12_laysWorths σ (F12_laysWorths_b105 N l1 l2 l3 l4 σ) := by
  unfold F12_laysWorths_b105
  exact @FR_fx (Int32 × Int32 × Int32 × Int32 × Ms) (Unit) W12_laysWorths (fun k x => F12_laysWorths_b105B N k x.1 x.2.1 x.2.2.1 x.2.2.2.1 x.2.2.2.2) (fun x => x.2.2.2.2) (fun k hk x => fr_F12_laysWorths_b105B N k hk x.1 x.2.1 x.2.2.1 x.2.2.2.1 x.2.2.2.2) N (l1, l2, l3, l4, σ)
theorem fr_F12_laysWorths_b62B (N : Nat) (k62 : Int32 × Int32 × Int32 × Int32 × Ms → Option (Unit × Ms)) (hk62 : ∀ x, FR W12_laysWorths x.2.2.2.2 (k62 x)) (l1 : Int32) (l2 : Int32) (l3 : Int32) (l4 : Int32) (σ : Ms) : FR W12_laysWorths σ (F12_laysWorths_b62B N k62 l1 l2 l3 l4 σ) :=
  have hσ := Fr_rfl W12_laysWorths σ
  (FR_ck fun z333 => (FR_if (FR_ck fun z334 => (FR_lv fun x16 => (FR_tr2 (fr_F12_laysWorths_b105 _ _ _ _ _ _) (Sub_rfl _) hσ))) (FR_ck fun z335 => (FR_st (fun t17 ht17 => (FR_ck fun z336 => (FR_st (fun t18 ht18 => (FR_tr ht18 (hk62 (l1, l2, l3, (l4 + (1 : Int32)), t18)))) (Fr_sI ht17 (In_a 3 rfl))))) (Fr_sL hσ (In_a 2 rfl))))))
theorem fr_F12_laysWorths_b62 (N : Nat) (l1 : Int32) (l2 : Int32) (l3 : Int32) (l4 : Int32) (σ : Ms) : FR W12_laysWorths σ (F12_laysWorths_b62 N l1 l2 l3 l4 σ) := by
  unfold F12_laysWorths_b62
  exact @FR_fx (Int32 × Int32 × Int32 × Int32 × Ms) (Unit) W12_laysWorths (fun k x => F12_laysWorths_b62B N k x.1 x.2.1 x.2.2.1 x.2.2.2.1 x.2.2.2.2) (fun x => x.2.2.2.2) (fun k hk x => fr_F12_laysWorths_b62B N k hk x.1 x.2.1 x.2.2.1 x.2.2.2.1 x.2.2.2.2) N (l1, l2, l3, l4, σ)
theorem fr_F12_laysWorths_b23B (N : Nat) (k23 : Int32 × Int32 × Int32 × Int32 × Ms → Option (Unit × Ms)) (hk23 : ∀ x, FR W12_laysWorths x.2.2.2.2 (k23 x)) (l1 : Int32) (l2 : Int32) (l3 : Int32) (l4 : Int32) (σ : Ms) : FR W12_laysWorths σ (F12_laysWorths_b23B N k23 l1 l2 l3 l4 σ) :=
  have hσ := Fr_rfl W12_laysWorths σ
  (FR_ck fun z337 => (FR_if (FR_tr2 (fr_F12_laysWorths_b62 _ _ _ _ _ _) (Sub_rfl _) hσ) (FR_ck fun z338 => (FR_st (fun t19 ht19 => (FR_tr ht19 (hk23 (l1, l2, l3, (l4 + (1 : Int32)), t19)))) (Fr_sI hσ (In_o 1 rfl))))))
theorem fr_F12_laysWorths_b23 (N : Nat) (l1 : Int32) (l2 : Int32) (l3 : Int32) (l4 : Int32) (σ : Ms) : FR W12_laysWorths σ (F12_laysWorths_b23 N l1 l2 l3 l4 σ) := by
  unfold F12_laysWorths_b23
  exact @FR_fx (Int32 × Int32 × Int32 × Int32 × Ms) (Unit) W12_laysWorths (fun k x => F12_laysWorths_b23B N k x.1 x.2.1 x.2.2.1 x.2.2.2.1 x.2.2.2.2) (fun x => x.2.2.2.2) (fun k hk x => fr_F12_laysWorths_b23B N k hk x.1 x.2.1 x.2.2.1 x.2.2.2.1 x.2.2.2.2) N (l1, l2, l3, l4, σ)
theorem fr_F12_laysWorths (N : Nat) (p0 : Int32) (p1 : Int32) (p2 : Int32) (σ : Ms) : FR W12_laysWorths σ (F12_laysWorths N p0 p1 p2 σ) :=
  have hσ := Fr_rfl W12_laysWorths σ
  (FR_ck fun z339 => (FR_st (fun t20 ht20 => (FR_st (fun t21 ht21 => (FR_tr2 (fr_F12_laysWorths_b23 _ _ _ _ _ _) (Sub_rfl _) ht21)) (Fr_sI ht20 (In_o 1 rfl)))) (Fr_sL hσ (In_o 0 rfl))))
theorem fr_F12_laysNow (N : Nat) (σ : Ms) : FR W12_laysNow σ (F12_laysNow N σ) :=
  have hσ := Fr_rfl W12_laysNow σ
  (FR_bn (fr_F12_standing _ _) (Sub_nil _) hσ fun r1 t2 ht2 => (FR_bn (fr_F12_laysWorths _ _ _ _ _) (Sub_of [0, 1, 2, 3] rfl) ht2 fun r3 t4 ht4 => (FR_some ht4)))
theorem fr_F12_worth (N : Nat) (σ : Ms) : FR W12_worth σ (F12_worth N σ) :=
  have hσ := Fr_rfl W12_worth σ
  (FR_st (fun t1 ht1 => (FR_st (fun t2 ht2 => (FR_bn (fr_F12_laysNow _ _) (Sub_of [2, 3, 4, 5] rfl) ht2 fun r3 t4 ht4 => (FR_bn (fr_F12_fraction _ _ _ _) (Sub_of [6, 7] rfl) ht4 fun r5 t6 ht6 => (FR_ck fun z340 => (FR_some ht6))))) (Fr_sI ht1 (In_o 1 rfl)))) (Fr_sI hσ (In_o 0 rfl)))
theorem fr_F12_whyNoBranch_b40 (l2 : Int32) (s0 : Int32) (σ : Ms) : FR W12_whyNoBranch σ (F12_whyNoBranch_b40 l2 s0 σ) :=
  have hσ := Fr_rfl W12_whyNoBranch σ
  (FR_if (FR_some hσ) (FR_some hσ))
theorem fr_F12_whyNoBranch (p0 : Int32) (p1 : Int32) (σ : Ms) : FR W12_whyNoBranch σ (F12_whyNoBranch p0 p1 σ) :=
  have hσ := Fr_rfl W12_whyNoBranch σ
  (FR_bn (fr_F12_isSprigAt _ _) (Sub_nil _) hσ fun r1 t2 ht2 => (FR_if (FR_ck fun z341 => (FR_if (FR_some ht2) (FR_ck fun z342 => (FR_if (FR_tr2 (fr_F12_whyNoBranch_b40 _ _ _) (Sub_rfl _) ht2) (FR_tr2 (fr_F12_whyNoBranch_b40 _ _ _) (Sub_rfl _) ht2))))) (FR_some ht2)))
theorem fr_F12_worthOf (N : Nat) (p0 : Int32) (σ : Ms) : FR W12_worthOf σ (F12_worthOf N p0 σ) :=
  have hσ := Fr_rfl W12_worthOf σ
  (FR_st (fun t1 ht1 => (FR_bn (fr_F12_whyNoBranch _ _ _) (Sub_nil _) ht1 fun r2 t3 ht3 => (FR_st (fun t4 ht4 => (FR_if (FR_bn (fr_F12_laysNow _ _) (Sub_of [2, 3, 4, 5] rfl) ht4 fun r5 t6 ht6 => (FR_ck fun z343 => (FR_bn (fr_F12_fraction _ _ _ _) (Sub_of [6, 7] rfl) ht6 fun r7 t8 ht8 => (FR_ck fun z344 => (FR_some ht8))))) (FR_some ht4))) (Fr_sI ht3 (In_o 1 rfl))))) (Fr_sI hσ (In_o 0 rfl)))
theorem fr_F12_nimber (N : Nat) (σ : Ms) : FR W12_nimber σ (F12_nimber N σ) :=
  have hσ := Fr_rfl W12_nimber σ
  (FR_st (fun t1 ht1 => (FR_st (fun t2 ht2 => (FR_bn (fr_F12_laysNow _ _) (Sub_of [2, 3, 4, 5] rfl) ht2 fun r3 t4 ht4 => (FR_some ht4))) (Fr_sI ht1 (In_o 1 rfl)))) (Fr_sI hσ (In_o 0 rfl)))
theorem fr_F12_nimOf (N : Nat) (p0 : Int32) (σ : Ms) : FR W12_nimOf σ (F12_nimOf N p0 σ) :=
  have hσ := Fr_rfl W12_nimOf σ
  (FR_st (fun t1 ht1 => (FR_bn (fr_F12_whyNoBranch _ _ _) (Sub_nil _) ht1 fun r2 t3 ht3 => (FR_st (fun t4 ht4 => (FR_if (FR_bn (fr_F12_laysNow _ _) (Sub_of [2, 3, 4, 5] rfl) ht4 fun r5 t6 ht6 => (FR_ck fun z345 => (FR_some ht6))) (FR_some ht4))) (Fr_sI ht3 (In_o 1 rfl))))) (Fr_sI hσ (In_o 0 rfl)))
theorem fr_F12_compare_b41 (N : Nat) (l1 : Int32) (l2 : Int32) (s1 : Int32) (σ : Ms) : FR W12_compare σ (F12_compare_b41 N l1 l2 s1 σ) :=
  have hσ := Fr_rfl W12_compare σ
  (FR_st (fun t1 ht1 => (FR_if (FR_bn (fr_F12_laysNow _ _) (Sub_of [2, 3, 4, 5] rfl) ht1 fun r2 t3 ht3 => (FR_ck fun z346 => (FR_ck fun z347 => (FR_if (FR_ck fun z348 => (FR_ck fun z349 => (FR_if (FR_some ht3) (FR_some ht3)))) (FR_some ht3))))) (FR_some ht1))) (Fr_sI hσ (In_o 0 rfl)))
theorem fr_F12_compare_b22 (N : Nat) (l1 : Int32) (l2 : Int32) (σ : Ms) : FR W12_compare σ (F12_compare_b22 N l1 l2 σ) :=
  have hσ := Fr_rfl W12_compare σ
  (FR_tr2 (fr_F12_compare_b41 _ _ _ _ _) (Sub_rfl _) hσ)
theorem fr_F12_compare (N : Nat) (p0 : Int32) (p1 : Int32) (σ : Ms) : FR W12_compare σ (F12_compare N p0 p1 σ) :=
  have hσ := Fr_rfl W12_compare σ
  (FR_st (fun t4 ht4 => (FR_bn (fr_F12_isSprigAt _ _) (Sub_nil _) ht4 fun r5 t6 ht6 => (FR_if (FR_tr2 (fr_F12_compare_b22 _ _ _ _) (Sub_rfl _) ht6) (FR_bn (fr_F12_isSprigAt _ _) (Sub_nil _) ht6 fun r7 t8 ht8 => (FR_if (FR_bn (fr_F12_whyNoBranch _ _ _) (Sub_nil _) ht8 fun r9 t10 ht10 => (FR_bn (fr_F12_whyNoBranch _ _ _) (Sub_nil _) ht10 fun r11 t12 ht12 => (FR_bn (fr_FJ9_max_7cf53 _ _ _) (Sub_nil _) ht12 fun r13 t14 ht14 => (FR_tr2 (fr_F12_compare_b41 _ _ _ _ _) (Sub_rfl _) ht14)))) (FR_tr2 (fr_F12_compare_b22 _ _ _ _) (Sub_rfl _) ht8)))))) (Fr_sI hσ (In_o 1 rfl)))
theorem fr_F12_cuts_b94 (N : Nat) (k60 : Int32 × Int32 × Int32 × Ms → Option (Int32 × Ms)) (hk60 : ∀ x, FR W12_cuts x.2.2.2 (k60 x)) (l3 : Int32) (l4 : Int32) (l5 : Int32) (s1 : Int32) (s2 : Int32) (σ : Ms) : FR W12_cuts σ (F12_cuts_b94 N k60 l3 l4 l5 s1 s2 σ) :=
  have hσ := Fr_rfl W12_cuts σ
  (FR_ck fun z350 => (FR_st (fun t1 ht1 => (FR_tr ht1 (hk60 (l3, l4, (l5 + (1 : Int32)), t1)))) (Fr_sI hσ (In_a 0 rfl))))
theorem fr_F12_cuts_b60B (N : Nat) (k60 : Int32 × Int32 × Int32 × Ms → Option (Int32 × Ms)) (hk60 : ∀ x, FR W12_cuts x.2.2.2 (k60 x)) (l3 : Int32) (l4 : Int32) (l5 : Int32) (σ : Ms) : FR W12_cuts σ (F12_cuts_b60B N k60 l3 l4 l5 σ) :=
  have hσ := Fr_rfl W12_cuts σ
  (FR_ck fun z351 => (FR_if (FR_ck fun z352 => (FR_ck fun z353 => (FR_st (fun t2 ht2 => (FR_some ht2)) (Fr_sI hσ (In_a 0 rfl))))) (FR_bn (fr_F12_has _ _ _) (Sub_nil _) hσ fun r3 t4 ht4 => (FR_if (FR_tr2 (fr_F12_cuts_b94 _ _ hk60 _ _ _ _ _ _) (Sub_rfl _) ht4) (FR_tr2 (fr_F12_cuts_b94 _ _ hk60 _ _ _ _ _ _) (Sub_rfl _) ht4)))))
theorem fr_F12_cuts_b60 (N : Nat) (l3 : Int32) (l4 : Int32) (l5 : Int32) (σ : Ms) : FR W12_cuts σ (F12_cuts_b60 N l3 l4 l5 σ) := by
  unfold F12_cuts_b60
  exact @FR_fx (Int32 × Int32 × Int32 × Ms) (Int32) W12_cuts (fun k x => F12_cuts_b60B N k x.1 x.2.1 x.2.2.1 x.2.2.2) (fun x => x.2.2.2) (fun k hk x => fr_F12_cuts_b60B N k hk x.1 x.2.1 x.2.2.1 x.2.2.2) N (l3, l4, l5, σ)
theorem fr_F12_cuts (N : Nat) (p0 : Int32) (p1 : Int32) (σ : Ms) : FR W12_cuts σ (F12_cuts N p0 p1 σ) :=
  have hσ := Fr_rfl W12_cuts σ
  (FR_bn (fr_F12_isSprigAt _ _) (Sub_nil _) hσ fun r5 t6 ht6 => (FR_if (FR_some ht6) (FR_ck fun z354 => (FR_if (FR_some ht6) (FR_bn (fr_F12_may _ _ _) (Sub_nil _) ht6 fun r7 t8 ht8 => (FR_if (FR_bn (fr_F12_standing _ _) (Sub_nil _) ht8 fun r9 t10 ht10 => (FR_bn (fr_F12_standsBut _ _ _ _) (Sub_nil _) ht10 fun r11 t12 ht12 => (FR_bn (fr_F12_standing _ _) (Sub_nil _) ht12 fun r13 t14 ht14 => (FR_bn (fr_F12_sizeOf _ _ _) (Sub_nil _) ht14 fun r15 t16 ht16 => (FR_bn (fr_F12_sizeOf _ _ _) (Sub_nil _) ht16 fun r17 t18 ht18 => (FR_lv fun x19 => (FR_tr2 (fr_F12_cuts_b60 _ _ _ _ _) (Sub_rfl _) ht18))))))) (FR_some ht8)))))))
theorem fr_F12_cut_b25 (N : Nat) (σ : Ms) : FR W12_cut σ (F12_cut_b25 N σ) :=
  have hσ := Fr_rfl W12_cut σ
  (FR_bn (fr_F12_refuse _ _) (Sub_of [1] rfl) hσ fun r1 t2 ht2 => (FR_some ht2))
theorem fr_F12_cut (N : Nat) (p0 : Int32) (p1 : Int32) (σ : Ms) : FR W12_cut σ (F12_cut N p0 p1 σ) :=
  have hσ := Fr_rfl W12_cut σ
  (FR_st (fun t3 ht3 => (FR_st (fun t4 ht4 => (FR_bn (fr_F12_isSideAt _ _) (Sub_nil _) ht4 fun r5 t6 ht6 => (FR_if (FR_tr2 (fr_F12_cut_b25 _ _) (Sub_rfl _) ht6) (FR_bn (fr_F12_isSprigAt _ _) (Sub_nil _) ht6 fun r7 t8 ht8 => (FR_if (FR_bn (fr_F12_cuts _ _ _ _) (Sub_of [2] rfl) ht8 fun r9 t10 ht10 => (FR_if (FR_some ht10) (FR_bn (fr_F12_refuse _ _) (Sub_of [1] rfl) ht10 fun r11 t12 ht12 => (FR_some ht12)))) (FR_tr2 (fr_F12_cut_b25 _ _) (Sub_rfl _) ht8)))))) (Fr_sI ht3 (In_o 1 rfl)))) (Fr_sI hσ (In_o 0 rfl)))
theorem fr_F12_gainBy (p0 : Int32) (p1 : Int32) (σ : Ms) : FR W12_gainBy σ (F12_gainBy p0 p1 σ) :=
  have hσ := Fr_rfl W12_gainBy σ
  (FR_if (FR_ck fun z355 => (FR_some hσ)) (FR_ck fun z356 => (FR_some hσ)))
theorem fr_F12_takes (p0 : Int32) (p1 : Int32) (σ : Ms) : FR W12_takes σ (F12_takes p0 p1 σ) :=
  have hσ := Fr_rfl W12_takes σ
  (FR_bn (fr_F12_isBetAt _ _) (Sub_nil _) hσ fun r1 t2 ht2 => (FR_if (FR_some ht2) (FR_ck fun z357 => (FR_if (FR_ck fun z358 => (FR_st (fun t3 ht3 => (FR_ck fun z359 => (FR_bn (fr_F12_gainBy _ _ _) (Sub_nil _) ht3 fun r4 t5 ht5 => (FR_ck fun z360 => (FR_st (fun t6 ht6 => (FR_some ht6)) (Fr_sI ht5 (In_a 0 rfl))))))) (Fr_sI ht2 (In_a 0 rfl)))) (FR_some ht2)))))
theorem fr_F12_take_b25 (σ : Ms) : FR W12_take σ (F12_take_b25 σ) :=
  have hσ := Fr_rfl W12_take σ
  (FR_bn (fr_F12_refuse _ _) (Sub_of [1] rfl) hσ fun r1 t2 ht2 => (FR_some ht2))
theorem fr_F12_take (p0 : Int32) (p1 : Int32) (σ : Ms) : FR W12_take σ (F12_take p0 p1 σ) :=
  have hσ := Fr_rfl W12_take σ
  (FR_st (fun t3 ht3 => (FR_st (fun t4 ht4 => (FR_bn (fr_F12_isSideAt _ _) (Sub_nil _) ht4 fun r5 t6 ht6 => (FR_if (FR_tr2 (fr_F12_take_b25 _) (Sub_rfl _) ht6) (FR_bn (fr_F12_isBetAt _ _) (Sub_nil _) ht6 fun r7 t8 ht8 => (FR_if (FR_bn (fr_F12_takes _ _ _) (Sub_of [2] rfl) ht8 fun r9 t10 ht10 => (FR_if (FR_bn (fr_F12_refuse _ _) (Sub_of [1] rfl) ht10 fun r11 t12 ht12 => (FR_some ht12)) (FR_ck fun z361 => (FR_some ht10)))) (FR_tr2 (fr_F12_take_b25 _) (Sub_rfl _) ht8)))))) (Fr_sI ht3 (In_o 1 rfl)))) (Fr_sI hσ (In_o 0 rfl)))
theorem fr_F12_lessens (p0 : Int32) (p1 : Int32) (σ : Ms) : FR W12_lessens σ (F12_lessens p0 p1 σ) :=
  have hσ := Fr_rfl W12_lessens σ
  (FR_bn (fr_F12_isHeapAt _ _) (Sub_nil _) hσ fun r1 t2 ht2 => (FR_if (FR_some ht2) (FR_ck fun z362 => (FR_if (FR_ck fun z363 => (FR_st (fun t3 ht3 => (FR_some ht3)) (Fr_sI ht2 (In_a 0 rfl)))) (FR_some ht2)))))
theorem fr_F12_less (N : Nat) (p0 : Int32) (p1 : Int32) (σ : Ms) : FR W12_less σ (F12_less N p0 p1 σ) :=
  have hσ := Fr_rfl W12_less σ
  (FR_st (fun t1 ht1 => (FR_st (fun t2 ht2 => (FR_bn (fr_F12_isHeapAt _ _) (Sub_nil _) ht2 fun r3 t4 ht4 => (FR_if (FR_bn (fr_F12_isIn _ _ _ _) (Sub_nil _) ht4 fun r5 t6 ht6 => (FR_if (FR_bn (fr_F12_lessens _ _ _) (Sub_of [2] rfl) ht6 fun r7 t8 ht8 => (FR_if (FR_bn (fr_F12_laysNow _ _) (Sub_of [3, 4, 5, 6] rfl) ht8 fun r9 t10 ht10 => (FR_some ht10)) (FR_bn (fr_F12_refuse _ _) (Sub_of [1] rfl) ht8 fun r11 t12 ht12 => (FR_some ht12)))) (FR_bn (fr_F12_refuse _ _) (Sub_of [1] rfl) ht6 fun r13 t14 ht14 => (FR_some ht14)))) (FR_bn (fr_F12_refuse _ _) (Sub_of [1] rfl) ht4 fun r15 t16 ht16 => (FR_some ht16))))) (Fr_sI ht1 (In_o 1 rfl)))) (Fr_sI hσ (In_o 0 rfl)))
theorem fr_F12_spending_b17 (l1 : Int32) (σ : Ms) : FR W12_spending σ (F12_spending_b17 l1 σ) :=
  have hσ := Fr_rfl W12_spending σ
  (FR_if (FR_some hσ) (FR_ck fun z364 => (FR_if (FR_some hσ) (FR_some hσ))))
theorem fr_F12_spending (p0 : Int32) (σ : Ms) : FR W12_spending σ (F12_spending p0 σ) :=
  have hσ := Fr_rfl W12_spending σ
  (FR_if (FR_tr2 (fr_F12_spending_b17 _ _) (Sub_rfl _) hσ) (FR_ck fun z365 => (FR_if (FR_tr2 (fr_F12_spending_b17 _ _) (Sub_rfl _) hσ) (FR_some hσ))))
theorem fr_F12_spend (p0 : Int32) (σ : Ms) : FR W12_spend σ (F12_spend p0 σ) :=
  have hσ := Fr_rfl W12_spend σ
  (FR_st (fun t1 ht1 => (FR_st (fun t2 ht2 => (FR_bn (fr_F12_isSideAt _ _) (Sub_nil _) ht2 fun r3 t4 ht4 => (FR_if (FR_bn (fr_F12_spending _ _) (Sub_nil _) ht4 fun r5 t6 ht6 => (FR_if (FR_ck fun z366 => (FR_bn (fr_F12_spending _ _) (Sub_nil _) ht6 fun r7 t8 ht8 => (FR_ck fun z367 => (FR_st (fun t9 ht9 => (FR_ck fun z368 => (FR_some ht9))) (Fr_sI ht8 (In_a 2 rfl)))))) (FR_bn (fr_F12_refuse _ _) (Sub_of [1] rfl) ht6 fun r10 t11 ht11 => (FR_some ht11)))) (FR_bn (fr_F12_refuse _ _) (Sub_of [1] rfl) ht4 fun r12 t13 ht13 => (FR_some ht13))))) (Fr_sI ht1 (In_o 1 rfl)))) (Fr_sI hσ (In_o 0 rfl)))
theorem fr_F12_canGrow_b27 (σ : Ms) : FR W12_canGrow σ (F12_canGrow_b27 σ) :=
  have hσ := Fr_rfl W12_canGrow σ
  (FR_some hσ)
theorem fr_F12_canGrow (p0 : Int32) (p1 : Int32) (σ : Ms) : FR W12_canGrow σ (F12_canGrow p0 p1 σ) :=
  have hσ := Fr_rfl W12_canGrow σ
  (FR_if (FR_tr2 (fr_F12_canGrow_b27 _) (Sub_rfl _) hσ) (FR_ck fun z369 => (FR_if (FR_some hσ) (FR_bn (fr_F12_mayGrow _ _ _ _) (Sub_nil _) hσ fun r1 t2 ht2 => (FR_if (FR_some ht2) (FR_tr2 (fr_F12_canGrow_b27 _) (Sub_rfl _) ht2))))))
theorem fr_F12_grow (p0 : Int32) (p1 : Int32) (σ : Ms) : FR W12_grow σ (F12_grow p0 p1 σ) :=
  have hσ := Fr_rfl W12_grow σ
  (FR_st (fun t1 ht1 => (FR_st (fun t2 ht2 => (FR_ck fun z370 => (FR_bn (fr_F12_isIn _ _ _ _) (Sub_nil _) ht2 fun r3 t4 ht4 => (FR_if (FR_bn (fr_F12_isIn _ _ _ _) (Sub_nil _) ht4 fun r5 t6 ht6 => (FR_if (FR_ck fun z371 => (FR_if (FR_bn (fr_F12_canGrow _ _ _) (Sub_nil _) ht6 fun r7 t8 ht8 => (FR_if (FR_bn (fr_F12_grows _ _ _ _) (Sub_of [2] rfl) ht8 fun r9 t10 ht10 => (FR_ck fun z372 => (FR_some ht10))) (FR_bn (fr_F12_refuse _ _) (Sub_of [1] rfl) ht8 fun r11 t12 ht12 => (FR_some ht12)))) (FR_bn (fr_F12_refuse _ _) (Sub_of [1] rfl) ht6 fun r13 t14 ht14 => (FR_some ht14)))) (FR_bn (fr_F12_refuse _ _) (Sub_of [1] rfl) ht6 fun r15 t16 ht16 => (FR_some ht16)))) (FR_bn (fr_F12_refuse _ _) (Sub_of [1] rfl) ht4 fun r17 t18 ht18 => (FR_some ht18)))))) (Fr_sI ht1 (In_o 1 rfl)))) (Fr_sI hσ (In_o 0 rfl)))
theorem fr_F12_paint (p0 : Int32) (σ : Ms) : FR W12_paint σ (F12_paint p0 σ) :=
  have hσ := Fr_rfl W12_paint σ
  (FR_st (fun t1 ht1 => (FR_bn (fr_F12_whyNoBranch _ _ _) (Sub_nil _) ht1 fun r2 t3 ht3 => (FR_st (fun t4 ht4 => (FR_if (FR_ck fun z373 => (FR_ck fun z374 => (FR_st (fun t5 ht5 => (FR_ck fun z375 => (FR_some ht5))) (Fr_sI ht4 (In_a 2 rfl))))) (FR_some ht4))) (Fr_sI ht3 (In_o 1 rfl))))) (Fr_sI hσ (In_o 0 rfl)))
theorem fr_F12_pile (p0 : Int32) (σ : Ms) : FR W12_pile σ (F12_pile p0 σ) :=
  have hσ := Fr_rfl W12_pile σ
  (FR_st (fun t1 ht1 => (FR_st (fun t2 ht2 => (FR_bn (fr_F12_isIn _ _ _ _) (Sub_nil _) ht2 fun r3 t4 ht4 => (FR_if (FR_ck fun z376 => (FR_lv fun x5 => (FR_if (FR_ck fun z377 => (FR_st (fun t6 ht6 => (FR_ck fun z378 => (FR_ck fun z379 => (FR_st (fun t7 ht7 => (FR_some ht7)) (Fr_sI ht6 (In_a 2 rfl)))))) (Fr_sI ht4 (In_a 2 rfl)))) (FR_bn (fr_F12_refuse _ _) (Sub_of [1] rfl) ht4 fun r8 t9 ht9 => (FR_some ht9))))) (FR_bn (fr_F12_refuse _ _) (Sub_of [1] rfl) ht4 fun r10 t11 ht11 => (FR_some ht11))))) (Fr_sI ht1 (In_o 1 rfl)))) (Fr_sI hσ (In_o 0 rfl)))
theorem fr_F12_offer_b40 (σ : Ms) : FR W12_offer σ (F12_offer_b40 σ) :=
  have hσ := Fr_rfl W12_offer σ
  (FR_bn (fr_F12_refuse _ _) (Sub_of [1] rfl) hσ fun r1 t2 ht2 => (FR_some ht2))
theorem fr_F12_offer (p0 : Int32) (p1 : Int32) (σ : Ms) : FR W12_offer σ (F12_offer p0 p1 σ) :=
  have hσ := Fr_rfl W12_offer σ
  (FR_st (fun t3 ht3 => (FR_st (fun t4 ht4 => (FR_bn (fr_F12_isIn _ _ _ _) (Sub_nil _) ht4 fun r5 t6 ht6 => (FR_if (FR_tr2 (fr_F12_offer_b40 _) (Sub_rfl _) ht6) (FR_bn (fr_F12_isIn _ _ _ _) (Sub_nil _) ht6 fun r7 t8 ht8 => (FR_if (FR_tr2 (fr_F12_offer_b40 _) (Sub_rfl _) ht8) (FR_if (FR_ck fun z380 => (FR_if (FR_bn (fr_F12_offers _ _ _ _) (Sub_of [2] rfl) ht8 fun r9 t10 ht10 => (FR_ck fun z381 => (FR_some ht10))) (FR_bn (fr_F12_refuse _ _) (Sub_of [1] rfl) ht8 fun r11 t12 ht12 => (FR_some ht12)))) (FR_tr2 (fr_F12_offer_b40 _) (Sub_rfl _) ht8))))))) (Fr_sI ht3 (In_o 1 rfl)))) (Fr_sI hσ (In_o 0 rfl)))
theorem fr_F12_heatOf (p0 : Int32) (σ : Ms) : FR W12_heatOf σ (F12_heatOf p0 σ) :=
  have hσ := Fr_rfl W12_heatOf σ
  (FR_ck fun z382 => (FR_ck fun z383 => (FR_some hσ)))
theorem fr_F12_hottestBut_b41 (N : Nat) (k4 : Int32 × Int32 × Int32 × Ms → Option (Int32 × Ms)) (hk4 : ∀ x, FR W12_hottestBut x.2.2.2 (k4 x)) (l1 : Int32) (l2 : Int32) (l3 : Int32) (σ : Ms) : FR W12_hottestBut σ (F12_hottestBut_b41 N k4 l1 l2 l3 σ) :=
  have hσ := Fr_rfl W12_hottestBut σ
  (FR_tr hσ (hk4 (l1, l2, (l3 + (1 : Int32)), σ)))
theorem fr_F12_hottestBut_b39 (N : Nat) (k4 : Int32 × Int32 × Int32 × Ms → Option (Int32 × Ms)) (hk4 : ∀ x, FR W12_hottestBut x.2.2.2 (k4 x)) (l1 : Int32) (l3 : Int32) (σ : Ms) : FR W12_hottestBut σ (F12_hottestBut_b39 N k4 l1 l3 σ) :=
  have hσ := Fr_rfl W12_hottestBut σ
  (FR_tr2 (fr_F12_hottestBut_b41 _ _ hk4 _ _ _ _) (Sub_rfl _) hσ)
theorem fr_F12_hottestBut_b4B (N : Nat) (k4 : Int32 × Int32 × Int32 × Ms → Option (Int32 × Ms)) (hk4 : ∀ x, FR W12_hottestBut x.2.2.2 (k4 x)) (l1 : Int32) (l2 : Int32) (l3 : Int32) (σ : Ms) : FR W12_hottestBut σ (F12_hottestBut_b4B N k4 l1 l2 l3 σ) :=
  have hσ := Fr_rfl W12_hottestBut σ
  (FR_ck fun z384 => (FR_if (FR_some hσ) (FR_bn (fr_F12_has _ _ _) (Sub_nil _) hσ fun r1 t2 ht2 => (FR_if (FR_tr2 (fr_F12_hottestBut_b41 _ _ hk4 _ _ _ _) (Sub_rfl _) ht2) (FR_if (FR_tr2 (fr_F12_hottestBut_b39 _ _ hk4 _ _ _) (Sub_rfl _) ht2) (FR_bn (fr_F12_heatOf _ _) (Sub_nil _) ht2 fun r3 t4 ht4 => (FR_bn (fr_F12_heatOf _ _) (Sub_nil _) ht4 fun r5 t6 ht6 => (FR_if (FR_tr2 (fr_F12_hottestBut_b41 _ _ hk4 _ _ _ _) (Sub_rfl _) ht6) (FR_tr2 (fr_F12_hottestBut_b39 _ _ hk4 _ _ _) (Sub_rfl _) ht6)))))))))
theorem fr_F12_hottestBut_b4 (N : Nat) (l1 : Int32) (l2 : Int32) (l3 : Int32) (σ : Ms) : FR W12_hottestBut σ (F12_hottestBut_b4 N l1 l2 l3 σ) := by
  unfold F12_hottestBut_b4
  exact @FR_fx (Int32 × Int32 × Int32 × Ms) (Int32) W12_hottestBut (fun k x => F12_hottestBut_b4B N k x.1 x.2.1 x.2.2.1 x.2.2.2) (fun x => x.2.2.2) (fun k hk x => fr_F12_hottestBut_b4B N k hk x.1 x.2.1 x.2.2.1 x.2.2.2) N (l1, l2, l3, σ)
theorem fr_F12_hottestBut (N : Nat) (p0 : Int32) (σ : Ms) : FR W12_hottestBut σ (F12_hottestBut N p0 σ) :=
  have hσ := Fr_rfl W12_hottestBut σ
  (FR_tr2 (fr_F12_hottestBut_b4 _ _ _ _ _) (Sub_rfl _) hσ)
theorem fr_F12_endsWith_b74 (N : Nat) (k15 : Int32 × Int32 × Int32 × Ms → Option (Int32 × Ms)) (hk15 : ∀ x, FR W12_endsWith x.2.2.2 (k15 x)) (l5 : Int32) (l6 : Int32) (l7 : Int32) (σ : Ms) : FR W12_endsWith σ (F12_endsWith_b74 N k15 l5 l6 l7 σ) :=
  have hσ := Fr_rfl W12_endsWith σ
  (FR_tr hσ (hk15 (l5, l6, (l7 + (1 : Int32)), σ)))
theorem fr_F12_endsWith_b15B (N : Nat) (k15 : Int32 × Int32 × Int32 × Ms → Option (Int32 × Ms)) (hk15 : ∀ x, FR W12_endsWith x.2.2.2 (k15 x)) (l5 : Int32) (l6 : Int32) (l7 : Int32) (σ : Ms) : FR W12_endsWith σ (F12_endsWith_b15B N k15 l5 l6 l7 σ) :=
  have hσ := Fr_rfl W12_endsWith σ
  (FR_if (FR_some hσ) (FR_bn (fr_F12_hottestBut _ _ _) (Sub_nil _) hσ fun r1 t2 ht2 => (FR_if (FR_bn (fr_F12_gainBy _ _ _) (Sub_nil _) ht2 fun r3 t4 ht4 => (FR_st (fun t5 ht5 => (FR_lv fun x6 => (FR_lv fun x7 => (FR_tr2 (fr_F12_endsWith_b74 _ _ hk15 _ _ _ _) (Sub_rfl _) ht5)))) (Fr_sL ht4 (In_o 0 rfl)))) (FR_tr2 (fr_F12_endsWith_b74 _ _ hk15 _ _ _ _) (Sub_rfl _) ht2))))
theorem fr_F12_endsWith_b15 (N : Nat) (l5 : Int32) (l6 : Int32) (l7 : Int32) (σ : Ms) : FR W12_endsWith σ (F12_endsWith_b15 N l5 l6 l7 σ) := by
  unfold F12_endsWith_b15
  exact @FR_fx (Int32 × Int32 × Int32 × Ms) (Int32) W12_endsWith (fun k x => F12_endsWith_b15B N k x.1 x.2.1 x.2.2.1 x.2.2.2) (fun x => x.2.2.2) (fun k hk x => fr_F12_endsWith_b15B N k hk x.1 x.2.1 x.2.2.1 x.2.2.2) N (l5, l6, l7, σ)
theorem fr_F12_endsWith (N : Nat) (p0 : Int64) (p1 : Int32) (p2 : Int32) (σ : Ms) : FR W12_endsWith σ (F12_endsWith N p0 p1 p2 σ) :=
  have hσ := Fr_rfl W12_endsWith σ
  (FR_st (fun t8 ht8 => (FR_tr2 (fr_F12_endsWith_b15 _ _ _ _ _) (Sub_rfl _) ht8)) (Fr_sL hσ (In_o 0 rfl)))
theorem fr_F12_winnerOf (N : Nat) (p0 : Int64) (p1 : Int32) (p2 : Int32) (p3 : Int32) (σ : Ms) : FR W12_winnerOf σ (F12_winnerOf N p0 p1 p2 p3 σ) :=
  have hσ := Fr_rfl W12_winnerOf σ
  (FR_bn (fr_F12_endsWith _ _ _ _ _) (Sub_of [0] rfl) hσ fun r1 t2 ht2 => (FR_if (FR_if (FR_some ht2) (FR_some ht2)) (FR_if (FR_some ht2) (FR_some ht2))))
theorem fr_F12_winnerNow (N : Nat) (p0 : Int32) (σ : Ms) : FR W12_winnerNow σ (F12_winnerNow N p0 σ) :=
  have hσ := Fr_rfl W12_winnerNow σ
  (FR_bn (fr_F12_laysNow _ _) (Sub_of [0, 1, 2, 3] rfl) hσ fun r1 t2 ht2 => (FR_bn (fr_F12_taken _ _) (Sub_nil _) ht2 fun r3 t4 ht4 => (FR_bn (fr_F12_winnerOf _ _ _ _ _ _) (Sub_of [4] rfl) ht4 fun r5 t6 ht6 => (FR_some ht6))))
theorem fr_F12_outcome (N : Nat) (σ : Ms) : FR W12_outcome σ (F12_outcome N σ) :=
  have hσ := Fr_rfl W12_outcome σ
  (FR_st (fun t1 ht1 => (FR_st (fun t2 ht2 => (FR_bn (fr_F12_winnerNow _ _ _) (Sub_of [2, 3, 4, 5, 6] rfl) ht2 fun r3 t4 ht4 => (FR_bn (fr_F12_winnerNow _ _ _) (Sub_of [2, 3, 4, 5, 6] rfl) ht4 fun r5 t6 ht6 => (FR_if (FR_if (FR_some ht6) (FR_some ht6)) (FR_some ht6))))) (Fr_sI ht1 (In_o 1 rfl)))) (Fr_sI hσ (In_o 0 rfl)))
theorem fr_F12_winner (N : Nat) (p0 : Int32) (σ : Ms) : FR W12_winner σ (F12_winner N p0 σ) :=
  have hσ := Fr_rfl W12_winner σ
  (FR_st (fun t1 ht1 => (FR_st (fun t2 ht2 => (FR_bn (fr_F12_isSideAt _ _) (Sub_nil _) ht2 fun r3 t4 ht4 => (FR_if (FR_bn (fr_F12_refuse _ _) (Sub_of [1] rfl) ht4 fun r5 t6 ht6 => (FR_some ht6)) (FR_bn (fr_F12_winnerNow _ _ _) (Sub_of [2, 3, 4, 5, 6] rfl) ht4 fun r7 t8 ht8 => (FR_some ht8))))) (Fr_sI ht1 (In_o 1 rfl)))) (Fr_sI hσ (In_o 0 rfl)))
theorem fr_F12_counts_b51 (N : Nat) (σ : Ms) : FR W12_counts σ (F12_counts_b51 N σ) :=
  have hσ := Fr_rfl W12_counts σ
  (FR_st (fun t1 ht1 => (FR_some ht1)) (Fr_sI hσ (In_o 0 rfl)))
theorem fr_F12_counts (N : Nat) (p0 : Int32) (p1 : Int32) (p2 : Int32) (p3 : Int32) (p4 : Int64) (p5 : Int32) (p6 : Int32) (σ : Ms) : FR W12_counts σ (F12_counts N p0 p1 p2 p3 p4 p5 p6 σ) :=
  have hσ := Fr_rfl W12_counts σ
  (FR_st (fun t2 ht2 => (FR_bn (fr_F12_winnerOf _ _ _ _ _ _) (Sub_of [5] rfl) ht2 fun r3 t4 ht4 => (FR_if (FR_if (FR_tr2 (fr_F12_counts_b51 _ _) (Sub_rfl _) ht4) (FR_st (fun t5 ht5 => (FR_st (fun t6 ht6 => (FR_st (fun t7 ht7 => (FR_tr2 (fr_F12_counts_b51 _ _) (Sub_rfl _) ht7)) (Fr_sI ht6 (In_o 4 rfl)))) (Fr_sI ht5 (In_o 3 rfl)))) (Fr_sI ht4 (In_o 2 rfl)))) (FR_some ht4)))) (Fr_sI hσ (In_o 1 rfl)))
theorem fr_F12_laysMoves_b188B (N : Nat) (k174 : Int32 × Int64 × Int32 × Int32 × Ms → Option (Unit × Ms)) (hk174 : ∀ x, FR W12_laysMoves x.2.2.2.2 (k174 x)) (k188 : Int32 × Int64 × Int32 × Int32 × Int32 × Ms → Option (Unit × Ms)) (hk188 : ∀ x, FR W12_laysMoves x.2.2.2.2.2 (k188 x)) (l1 : Int32) (l2 : Int64) (l4 : Int32) (l5 : Int32) (l6 : Int32) (σ : Ms) : FR W12_laysMoves σ (F12_laysMoves_b188B N k174 k188 l1 l2 l4 l5 l6 σ) :=
  have hσ := Fr_rfl W12_laysMoves σ
  (FR_ck fun z385 => (FR_if (FR_tr hσ (hk174 (l1, l2, l4, (l5 + (1 : Int32)), σ))) (FR_ck fun z386 => (FR_bn (fr_F12_taken _ _) (Sub_nil _) hσ fun r1 t2 ht2 => (FR_bn (fr_F12_counts _ _ _ _ _ _ _ _ _) (Sub_of [1, 0, 2, 3, 4, 5] rfl) ht2 fun r3 t4 ht4 => (FR_tr ht4 (hk188 (l1, l2, l4, l5, (l6 + (1 : Int32)), t4))))))))
theorem fr_F12_laysMoves_b188 (N : Nat) (k174 : Int32 × Int64 × Int32 × Int32 × Ms → Option (Unit × Ms)) (hk174 : ∀ x, FR W12_laysMoves x.2.2.2.2 (k174 x)) (l1 : Int32) (l2 : Int64) (l4 : Int32) (l5 : Int32) (l6 : Int32) (σ : Ms) : FR W12_laysMoves σ (F12_laysMoves_b188 N k174 l1 l2 l4 l5 l6 σ) := by
  unfold F12_laysMoves_b188
  exact @FR_fx (Int32 × Int64 × Int32 × Int32 × Int32 × Ms) (Unit) W12_laysMoves (fun k x => F12_laysMoves_b188B N k174 k x.1 x.2.1 x.2.2.1 x.2.2.2.1 x.2.2.2.2.1 x.2.2.2.2.2) (fun x => x.2.2.2.2.2) (fun k hk x => fr_F12_laysMoves_b188B N k174 hk174 k hk x.1 x.2.1 x.2.2.1 x.2.2.2.1 x.2.2.2.2.1 x.2.2.2.2.2) N (l1, l2, l4, l5, l6, σ)
theorem fr_F12_laysMoves_b174B (N : Nat) (k174 : Int32 × Int64 × Int32 × Int32 × Ms → Option (Unit × Ms)) (hk174 : ∀ x, FR W12_laysMoves x.2.2.2.2 (k174 x)) (l1 : Int32) (l2 : Int64) (l4 : Int32) (l5 : Int32) (σ : Ms) : FR W12_laysMoves σ (F12_laysMoves_b174B N k174 l1 l2 l4 l5 σ) :=
  have hσ := Fr_rfl W12_laysMoves σ
  (FR_ck fun z387 => (FR_if (FR_bn (fr_F12_spending _ _) (Sub_nil _) hσ fun r5 t6 ht6 => (FR_if (FR_some ht6) (FR_bn (fr_F12_spending _ _) (Sub_nil _) ht6 fun r7 t8 ht8 => (FR_bn (fr_F12_taken _ _) (Sub_nil _) ht8 fun r9 t10 ht10 => (FR_bn (fr_F12_counts _ _ _ _ _ _ _ _ _) (Sub_of [1, 0, 2, 3, 4, 5] rfl) ht10 fun r11 t12 ht12 => (FR_some ht12)))))) (FR_tr2 (fr_F12_laysMoves_b188 _ _ hk174 _ _ _ _ _ _) (Sub_rfl _) hσ)))
theorem fr_F12_laysMoves_b174 (N : Nat) (l1 : Int32) (l2 : Int64) (l4 : Int32) (l5 : Int32) (σ : Ms) : FR W12_laysMoves σ (F12_laysMoves_b174 N l1 l2 l4 l5 σ) := by
  unfold F12_laysMoves_b174
  exact @FR_fx (Int32 × Int64 × Int32 × Int32 × Ms) (Unit) W12_laysMoves (fun k x => F12_laysMoves_b174B N k x.1 x.2.1 x.2.2.1 x.2.2.2.1 x.2.2.2.2) (fun x => x.2.2.2.2) (fun k hk x => fr_F12_laysMoves_b174B N k hk x.1 x.2.1 x.2.2.1 x.2.2.2.1 x.2.2.2.2) N (l1, l2, l4, l5, σ)
theorem fr_F12_laysMoves_b165 (N : Nat) (k107 : Int32 × Int64 × Int32 × Int32 × Ms → Option (Unit × Ms)) (hk107 : ∀ x, FR W12_laysMoves x.2.2.2.2 (k107 x)) (l1 : Int32) (l2 : Int64) (l4 : Int32) (l5 : Int32) (σ : Ms) : FR W12_laysMoves σ (F12_laysMoves_b165 N k107 l1 l2 l4 l5 σ) :=
  have hσ := Fr_rfl W12_laysMoves σ
  (FR_tr hσ (hk107 (l1, l2, l4, (l5 + (1 : Int32)), σ)))
theorem fr_F12_laysMoves_b107B (N : Nat) (k107 : Int32 × Int64 × Int32 × Int32 × Ms → Option (Unit × Ms)) (hk107 : ∀ x, FR W12_laysMoves x.2.2.2.2 (k107 x)) (l1 : Int32) (l2 : Int64) (l4 : Int32) (l5 : Int32) (σ : Ms) : FR W12_laysMoves σ (F12_laysMoves_b107B N k107 l1 l2 l4 l5 σ) :=
  have hσ := Fr_rfl W12_laysMoves σ
  (FR_ck fun z388 => (FR_if (FR_tr2 (fr_F12_laysMoves_b174 _ _ _ _ _ _) (Sub_rfl _) hσ) (FR_ck fun z389 => (FR_if (FR_tr2 (fr_F12_laysMoves_b165 _ _ hk107 _ _ _ _ _) (Sub_rfl _) hσ) (FR_bn (fr_F12_gainBy _ _ _) (Sub_nil _) hσ fun r13 t14 ht14 => (FR_bn (fr_F12_taken _ _) (Sub_nil _) ht14 fun r15 t16 ht16 => (FR_bn (fr_F12_counts _ _ _ _ _ _ _ _ _) (Sub_of [1, 0, 2, 3, 4, 5] rfl) ht16 fun r17 t18 ht18 => (FR_tr2 (fr_F12_laysMoves_b165 _ _ hk107 _ _ _ _ _) (Sub_rfl _) ht18))))))))
theorem fr_F12_laysMoves_b107 (N : Nat) (l1 : Int32) (l2 : Int64) (l4 : Int32) (l5 : Int32) (σ : Ms) : FR W12_laysMoves σ (F12_laysMoves_b107 N l1 l2 l4 l5 σ) := by
  unfold F12_laysMoves_b107
  exact @FR_fx (Int32 × Int64 × Int32 × Int32 × Ms) (Unit) W12_laysMoves (fun k x => F12_laysMoves_b107B N k x.1 x.2.1 x.2.2.1 x.2.2.2.1 x.2.2.2.2) (fun x => x.2.2.2.2) (fun k hk x => fr_F12_laysMoves_b107B N k hk x.1 x.2.1 x.2.2.1 x.2.2.2.1 x.2.2.2.2) N (l1, l2, l4, l5, σ)
theorem fr_F12_laysMoves_b83 (N : Nat) (k12 : Int32 × Int32 × Ms → Option (Unit × Ms)) (hk12 : ∀ x, FR W12_laysMoves x.2.2 (k12 x)) (l1 : Int32) (l2 : Int32) (σ : Ms) : FR W12_laysMoves σ (F12_laysMoves_b83 N k12 l1 l2 σ) :=
  have hσ := Fr_rfl W12_laysMoves σ
  (FR_tr hσ (hk12 (l1, (l2 + (1 : Int32)), σ)))
theorem fr_F12_laysMoves_b12B (N : Nat) (k12 : Int32 × Int32 × Ms → Option (Unit × Ms)) (hk12 : ∀ x, FR W12_laysMoves x.2.2 (k12 x)) (l1 : Int32) (l2 : Int32) (σ : Ms) : FR W12_laysMoves σ (F12_laysMoves_b12B N k12 l1 l2 σ) :=
  have hσ := Fr_rfl W12_laysMoves σ
  (FR_ck fun z390 => (FR_if (FR_bn (fr_F12_laysNow _ _) (Sub_of [6, 7, 8, 9] rfl) hσ fun r19 t20 ht20 => (FR_lv fun x21 => (FR_lv fun x22 => (FR_tr2 (fr_F12_laysMoves_b107 _ _ _ _ _ _) (Sub_rfl _) ht20)))) (FR_ck fun z391 => (FR_if (FR_tr2 (fr_F12_laysMoves_b83 _ _ hk12 _ _ _) (Sub_rfl _) hσ) (FR_bn (fr_F12_may _ _ _) (Sub_nil _) hσ fun r23 t24 ht24 => (FR_if (FR_bn (fr_F12_standing _ _) (Sub_nil _) ht24 fun r25 t26 ht26 => (FR_bn (fr_F12_standsBut _ _ _ _) (Sub_nil _) ht26 fun r27 t28 ht28 => (FR_bn (fr_F12_laysWorths _ _ _ _ _) (Sub_of [6, 7, 8, 9] rfl) ht28 fun r29 t30 ht30 => (FR_bn (fr_F12_taken _ _) (Sub_nil _) ht30 fun r31 t32 ht32 => (FR_bn (fr_F12_counts _ _ _ _ _ _ _ _ _) (Sub_of [1, 0, 2, 3, 4, 5] rfl) ht32 fun r33 t34 ht34 => (FR_tr2 (fr_F12_laysMoves_b83 _ _ hk12 _ _ _) (Sub_rfl _) ht34)))))) (FR_tr2 (fr_F12_laysMoves_b83 _ _ hk12 _ _ _) (Sub_rfl _) ht24)))))))
theorem fr_F12_laysMoves_b12 (N : Nat) (l1 : Int32) (l2 : Int32) (σ : Ms) : FR W12_laysMoves σ (F12_laysMoves_b12 N l1 l2 σ) := by
  unfold F12_laysMoves_b12
  exact @FR_fx (Int32 × Int32 × Ms) (Unit) W12_laysMoves (fun k x => F12_laysMoves_b12B N k x.1 x.2.1 x.2.2) (fun x => x.2.2) (fun k hk x => fr_F12_laysMoves_b12B N k hk x.1 x.2.1 x.2.2) N (l1, l2, σ)
theorem fr_F12_laysMoves (N : Nat) (p0 : Int32) (σ : Ms) : FR W12_laysMoves σ (F12_laysMoves N p0 σ) :=
  have hσ := Fr_rfl W12_laysMoves σ
  (FR_st (fun t35 ht35 => (FR_st (fun t36 ht36 => (FR_tr2 (fr_F12_laysMoves_b12 _ _ _ _) (Sub_rfl _) ht36)) (Fr_sI ht35 (In_o 1 rfl)))) (Fr_sI hσ (In_o 0 rfl)))
theorem fr_F12_moves (N : Nat) (p0 : Int32) (σ : Ms) : FR W12_moves σ (F12_moves N p0 σ) :=
  have hσ := Fr_rfl W12_moves σ
  (FR_st (fun t1 ht1 => (FR_st (fun t2 ht2 => (FR_bn (fr_F12_isSideAt _ _) (Sub_nil _) ht2 fun r3 t4 ht4 => (FR_if (FR_bn (fr_F12_laysMoves _ _ _) (Sub_of [2, 3, 4, 5, 6, 7, 8, 9, 10, 11] rfl) ht4 fun r5 t6 ht6 => (FR_some ht6)) (FR_bn (fr_F12_refuse _ _) (Sub_of [1] rfl) ht4 fun r7 t8 ht8 => (FR_some ht8))))) (Fr_sI ht1 (In_o 1 rfl)))) (Fr_sI hσ (In_o 0 rfl)))
theorem fr_F12_wins (N : Nat) (p0 : Int32) (σ : Ms) : FR W12_wins σ (F12_wins N p0 σ) :=
  have hσ := Fr_rfl W12_wins σ
  (FR_st (fun t1 ht1 => (FR_st (fun t2 ht2 => (FR_bn (fr_F12_isSideAt _ _) (Sub_nil _) ht2 fun r3 t4 ht4 => (FR_if (FR_bn (fr_F12_laysMoves _ _ _) (Sub_of [2, 3, 4, 5, 6, 7, 8, 9, 10, 11] rfl) ht4 fun r5 t6 ht6 => (FR_some ht6)) (FR_bn (fr_F12_refuse _ _) (Sub_of [1] rfl) ht4 fun r7 t8 ht8 => (FR_some ht8))))) (Fr_sI ht1 (In_o 1 rfl)))) (Fr_sI hσ (In_o 0 rfl)))
theorem fr_F12_bestOf (N : Nat) (p0 : Int32) (p1 : Int32) (σ : Ms) : FR W12_bestOf σ (F12_bestOf N p0 p1 σ) :=
  have hσ := Fr_rfl W12_bestOf σ
  (FR_st (fun t1 ht1 => (FR_st (fun t2 ht2 => (FR_bn (fr_F12_isSideAt _ _) (Sub_nil _) ht2 fun r3 t4 ht4 => (FR_if (FR_bn (fr_F12_isIn _ _ _ _) (Sub_nil _) ht4 fun r5 t6 ht6 => (FR_if (FR_bn (fr_F12_laysMoves _ _ _) (Sub_of [2, 3, 4, 5, 6, 7, 8, 9, 10, 11] rfl) ht6 fun r7 t8 ht8 => (FR_if (FR_if (FR_if (FR_some ht8) (FR_some ht8)) (FR_some ht8)) (FR_bn (fr_F12_refuse _ _) (Sub_of [1] rfl) ht8 fun r9 t10 ht10 => (FR_some ht10)))) (FR_bn (fr_F12_refuse _ _) (Sub_of [1] rfl) ht6 fun r11 t12 ht12 => (FR_some ht12)))) (FR_bn (fr_F12_refuse _ _) (Sub_of [1] rfl) ht4 fun r13 t14 ht14 => (FR_some ht14))))) (Fr_sI ht1 (In_o 1 rfl)))) (Fr_sI hσ (In_o 0 rfl)))
theorem fr_F12_stop (N : Nat) (p0 : Int32) (σ : Ms) : FR W12_stop σ (F12_stop N p0 σ) :=
  have hσ := Fr_rfl W12_stop σ
  (FR_st (fun t1 ht1 => (FR_st (fun t2 ht2 => (FR_bn (fr_F12_isSideAt _ _) (Sub_nil _) ht2 fun r3 t4 ht4 => (FR_if (FR_bn (fr_F12_laysNow _ _) (Sub_of [2, 3, 4, 5] rfl) ht4 fun r5 t6 ht6 => (FR_bn (fr_F12_taken _ _) (Sub_nil _) ht6 fun r7 t8 ht8 => (FR_bn (fr_F12_endsWith _ _ _ _ _) (Sub_of [6] rfl) ht8 fun r9 t10 ht10 => (FR_bn (fr_F12_fraction _ _ _ _) (Sub_of [7, 8] rfl) ht10 fun r11 t12 ht12 => (FR_ck fun z392 => (FR_some ht12)))))) (FR_bn (fr_F12_no _ _) (Sub_of [1] rfl) ht4 fun r13 t14 ht14 => (FR_ck fun z393 => (FR_some ht14)))))) (Fr_sI ht1 (In_o 1 rfl)))) (Fr_sI hσ (In_o 0 rfl)))
theorem fr_F12_hottest (N : Nat) (σ : Ms) : FR W12_hottest σ (F12_hottest N σ) :=
  have hσ := Fr_rfl W12_hottest σ
  (FR_st (fun t1 ht1 => (FR_st (fun t2 ht2 => (FR_bn (fr_F12_taken _ _) (Sub_nil _) ht2 fun r3 t4 ht4 => (FR_bn (fr_F12_hottestBut _ _ _) (Sub_nil _) ht4 fun r5 t6 ht6 => (FR_if (FR_some ht6) (FR_bn (fr_F12_refuse _ _) (Sub_of [1] rfl) ht6 fun r7 t8 ht8 => (FR_some ht8)))))) (Fr_sI ht1 (In_o 1 rfl)))) (Fr_sI hσ (In_o 0 rfl)))
theorem fr_F12_heat_b74 (N : Nat) (s1 : Int64) (σ : Ms) : FR W12_heat σ (F12_heat_b74 N s1 σ) :=
  have hσ := Fr_rfl W12_heat σ
  (FR_bn (fr_F12_fraction _ _ _ _) (Sub_of [2, 3] rfl) hσ fun r1 t2 ht2 => (FR_ck fun z394 => (FR_some ht2)))
theorem fr_F12_heat (N : Nat) (p0 : Int32) (p1 : Int32) (σ : Ms) : FR W12_heat σ (F12_heat N p0 p1 σ) :=
  have hσ := Fr_rfl W12_heat σ
  (FR_st (fun t3 ht3 => (FR_st (fun t4 ht4 => (FR_bn (fr_F12_isBetAt _ _) (Sub_nil _) ht4 fun r5 t6 ht6 => (FR_if (FR_bn (fr_F12_isIn _ _ _ _) (Sub_nil _) ht6 fun r7 t8 ht8 => (FR_if (FR_if (FR_ck fun z395 => (FR_ck fun z396 => (FR_tr2 (fr_F12_heat_b74 _ _ _) (Sub_rfl _) ht8))) (FR_bn (fr_F12_heatOf _ _) (Sub_nil _) ht8 fun r9 t10 ht10 => (FR_tr2 (fr_F12_heat_b74 _ _ _) (Sub_rfl _) ht10))) (FR_bn (fr_F12_no _ _) (Sub_of [1] rfl) ht8 fun r11 t12 ht12 => (FR_ck fun z397 => (FR_some ht12))))) (FR_bn (fr_F12_no _ _) (Sub_of [1] rfl) ht6 fun r13 t14 ht14 => (FR_ck fun z398 => (FR_some ht14)))))) (Fr_sI ht3 (In_o 1 rfl)))) (Fr_sI hσ (In_o 0 rfl)))
theorem fr_F12_isNumber (p0 : Int32) (p1 : Int32) (σ : Ms) : FR W12_isNumber σ (F12_isNumber p0 p1 σ) :=
  have hσ := Fr_rfl W12_isNumber σ
  (FR_bn (fr_F12_isIn _ _ _ _) (Sub_nil _) hσ fun r1 t2 ht2 => (FR_if (FR_some ht2) (FR_bn (fr_F12_isIn _ _ _ _) (Sub_nil _) ht2 fun r3 t4 ht4 => (FR_if (FR_some ht4) (FR_some ht4)))))
theorem fr_F12_partsOf (p0 : Int32) (p1 : Int32) (σ : Ms) : FR W12_partsOf σ (F12_partsOf p0 p1 σ) :=
  have hσ := Fr_rfl W12_partsOf σ
  (FR_some hσ)
theorem fr_FJ9_floorDiv_f86c9 (p0 : Int64) (p1 : Int64) (σ : Ms) : FR W9_floorDiv_f86c9 σ (FJ9_floorDiv_f86c9 p0 p1 σ) :=
  have hσ := Fr_rfl W9_floorDiv_f86c9 σ
  (FR_ck fun z399 => (FR_lv fun x1 => (FR_if (FR_some hσ) (FR_if (FR_some hσ) (FR_some hσ)))))
theorem fr_F12_simplest_b27 (N : Nat) (σ : Ms) : FR W12_simplest σ (F12_simplest_b27 N σ) :=
  have hσ := Fr_rfl W12_simplest σ
  (FR_bn (fr_F12_no _ _) (Sub_of [1] rfl) hσ fun r1 t2 ht2 => (FR_ck fun z400 => (FR_some ht2)))
theorem fr_F12_simplest_b134B (N : Nat) (k134 : Int64 × Int64 × Int64 × Int32 × Ms → Option (Int32 × Ms)) (hk134 : ∀ x, FR W12_simplest x.2.2.2.2 (k134 x)) (l5 : Int64) (l7 : Int64) (l13 : Int64) (l15 : Int32) (σ : Ms) : FR W12_simplest σ (F12_simplest_b134B N k134 l5 l7 l13 l15 σ) :=
  have hσ := Fr_rfl W12_simplest σ
  (FR_if (FR_bn (fr_F12_no _ _) (Sub_of [1] rfl) hσ fun r3 t4 ht4 => (FR_ck fun z401 => (FR_some ht4))) (FR_lv fun x5 => (FR_bn (fr_FJ9_floorDiv_f86c9 _ _ _) (Sub_nil _) hσ fun r6 t7 ht7 => (FR_lv fun x8 => (FR_if (FR_tr ht7 (hk134 (l5, l7, x5, (l15 + (1 : Int32)), t7))) (FR_bn (fr_F12_fraction _ _ _ _) (Sub_of [2, 3] rfl) ht7 fun r9 t10 ht10 => (FR_ck fun z402 => (FR_some ht10))))))))
theorem fr_F12_simplest_b134 (N : Nat) (l5 : Int64) (l7 : Int64) (l13 : Int64) (l15 : Int32) (σ : Ms) : FR W12_simplest σ (F12_simplest_b134 N l5 l7 l13 l15 σ) := by
  unfold F12_simplest_b134
  exact @FR_fx (Int64 × Int64 × Int64 × Int32 × Ms) (Int32) W12_simplest (fun k x => F12_simplest_b134B N k x.1 x.2.1 x.2.2.1 x.2.2.2.1 x.2.2.2.2) (fun x => x.2.2.2.2) (fun k hk x => fr_F12_simplest_b134B N k hk x.1 x.2.1 x.2.2.1 x.2.2.2.1 x.2.2.2.2) N (l5, l7, l13, l15, σ)
theorem fr_F12_simplest_b123 (N : Nat) (s1 : Int64) (σ : Ms) : FR W12_simplest σ (F12_simplest_b123 N s1 σ) :=
  have hσ := Fr_rfl W12_simplest σ
  (FR_bn (fr_F12_fraction _ _ _ _) (Sub_of [2, 3] rfl) hσ fun r11 t12 ht12 => (FR_ck fun z403 => (FR_some ht12)))
theorem fr_F12_simplest (N : Nat) (p0 : Int32) (p1 : Int32) (p2 : Int32) (p3 : Int32) (σ : Ms) : FR W12_simplest σ (F12_simplest N p0 p1 p2 p3 σ) :=
  have hσ := Fr_rfl W12_simplest σ
  (FR_st (fun t13 ht13 => (FR_st (fun t14 ht14 => (FR_bn (fr_F12_isNumber _ _ _) (Sub_nil _) ht14 fun r15 t16 ht16 => (FR_if (FR_tr2 (fr_F12_simplest_b27 _ _) (Sub_rfl _) ht16) (FR_bn (fr_F12_isNumber _ _ _) (Sub_nil _) ht16 fun r17 t18 ht18 => (FR_if (FR_bn (fr_F12_partsOf _ _ _) (Sub_nil _) ht18 fun r19 t20 ht20 => (FR_bn (fr_F12_partsOf _ _ _) (Sub_nil _) ht20 fun r21 t22 ht22 => (FR_if (FR_bn (fr_FJ9_floorDiv_f86c9 _ _ _) (Sub_nil _) ht22 fun r23 t24 ht24 => (FR_lv fun x25 => (FR_bn (fr_FJ9_floorDiv_f86c9 _ _ _) (Sub_nil _) ht24 fun r26 t27 ht27 => (FR_lv fun x28 => (FR_if (FR_tr2 (fr_F12_simplest_b134 _ _ _ _ _ _) (Sub_rfl _) ht27) (FR_if (FR_if (FR_tr2 (fr_F12_simplest_b123 _ _ _) (Sub_rfl _) ht27) (FR_tr2 (fr_F12_simplest_b123 _ _ _) (Sub_rfl _) ht27)) (FR_tr2 (fr_F12_simplest_b123 _ _ _) (Sub_rfl _) ht27))))))) (FR_bn (fr_F12_no _ _) (Sub_of [1] rfl) ht22 fun r29 t30 ht30 => (FR_ck fun z404 => (FR_some ht30)))))) (FR_tr2 (fr_F12_simplest_b27 _ _) (Sub_rfl _) ht18)))))) (Fr_sI ht13 (In_o 1 rfl)))) (Fr_sI hσ (In_o 0 rfl)))
theorem fr_F12_birthday_b57B (N : Nat) (k57 : Int64 × Int32 × Int32 × Ms → Option (Int32 × Ms)) (hk57 : ∀ x, FR W12_birthday x.2.2.2 (k57 x)) (l3 : Int64) (l5 : Int32) (l6 : Int32) (σ : Ms) : FR W12_birthday σ (F12_birthday_b57B N k57 l3 l5 l6 σ) :=
  have hσ := Fr_rfl W12_birthday σ
  (FR_ck fun z405 => (FR_if (FR_some hσ) (FR_tr hσ (hk57 (l3, l5, (l6 + (1 : Int32)), σ)))))
theorem fr_F12_birthday_b57 (N : Nat) (l3 : Int64) (l5 : Int32) (l6 : Int32) (σ : Ms) : FR W12_birthday σ (F12_birthday_b57 N l3 l5 l6 σ) := by
  unfold F12_birthday_b57
  exact @FR_fx (Int64 × Int32 × Int32 × Ms) (Int32) W12_birthday (fun k x => F12_birthday_b57B N k x.1 x.2.1 x.2.2.1 x.2.2.2) (fun x => x.2.2.2) (fun k hk x => fr_F12_birthday_b57B N k hk x.1 x.2.1 x.2.2.1 x.2.2.2) N (l3, l5, l6, σ)
theorem fr_F12_birthday (N : Nat) (p0 : Int32) (p1 : Int32) (σ : Ms) : FR W12_birthday σ (F12_birthday N p0 p1 σ) :=
  have hσ := Fr_rfl W12_birthday σ
  (FR_st (fun t1 ht1 => (FR_st (fun t2 ht2 => (FR_bn (fr_F12_isNumber _ _ _) (Sub_nil _) ht2 fun r3 t4 ht4 => (FR_if (FR_bn (fr_F12_partsOf _ _ _) (Sub_nil _) ht4 fun r5 t6 ht6 => (FR_bn (fr_FJ9_abs_067f4 _ _) (Sub_nil _) ht6 fun r7 t8 ht8 => (FR_ck fun z406 => (FR_lv fun x9 => (FR_ck fun z407 => (FR_if (FR_tr2 (fr_F12_birthday_b57 _ _ _ _ _) (Sub_rfl _) ht8) (FR_some ht8))))))) (FR_bn (fr_F12_refuse _ _) (Sub_of [1] rfl) ht4 fun r10 t11 ht11 => (FR_some ht11))))) (Fr_sI ht1 (In_o 1 rfl)))) (Fr_sI hσ (In_o 0 rfl)))
theorem fr_F12_stalkOf_b125 (N : Nat) (k80 : Int64 × Int32 × Int64 × Int64 × Int32 × Ms → Option (Int32 × Ms)) (hk80 : ∀ x, FR W12_stalkOf x.2.2.2.2.2 (k80 x)) (l0 : Int64) (l2 : Int32) (l7 : Int64) (l9 : Int32) (s0 : Int64) (s1 : Int64) (σ : Ms) : FR W12_stalkOf σ (F12_stalkOf_b125 N k80 l0 l2 l7 l9 s0 s1 σ) :=
  have hσ := Fr_rfl W12_stalkOf σ
  (FR_lv fun x1 => (FR_ck fun z408 => (FR_lv fun x2 => (FR_tr hσ (hk80 (l0, l2, x1, x2, (l9 + (1 : Int32)), σ))))))
theorem fr_F12_stalkOf_b99 (N : Nat) (k80 : Int64 × Int32 × Int64 × Int64 × Int32 × Ms → Option (Int32 × Ms)) (hk80 : ∀ x, FR W12_stalkOf x.2.2.2.2.2 (k80 x)) (l0 : Int64) (l2 : Int32) (l5 : Int64) (l7 : Int64) (l9 : Int32) (s0 : Int32) (σ : Ms) : FR W12_stalkOf σ (F12_stalkOf_b99 N k80 l0 l2 l5 l7 l9 s0 σ) :=
  have hσ := Fr_rfl W12_stalkOf σ
  (FR_if (FR_if (FR_tr2 (fr_F12_stalkOf_b125 _ _ hk80 _ _ _ _ _ _ _) (Sub_rfl _) hσ) (FR_tr2 (fr_F12_stalkOf_b125 _ _ hk80 _ _ _ _ _ _ _) (Sub_rfl _) hσ)) (FR_some hσ))
theorem fr_F12_stalkOf_b80B (N : Nat) (k80 : Int64 × Int32 × Int64 × Int64 × Int32 × Ms → Option (Int32 × Ms)) (hk80 : ∀ x, FR W12_stalkOf x.2.2.2.2.2 (k80 x)) (l0 : Int64) (l2 : Int32) (l5 : Int64) (l7 : Int64) (l9 : Int32) (σ : Ms) : FR W12_stalkOf σ (F12_stalkOf_b80B N k80 l0 l2 l5 l7 l9 σ) :=
  have hσ := Fr_rfl W12_stalkOf σ
  (FR_if (FR_some hσ) (FR_if (FR_tr2 (fr_F12_stalkOf_b99 _ _ hk80 _ _ _ _ _ _ _) (Sub_rfl _) hσ) (FR_tr2 (fr_F12_stalkOf_b99 _ _ hk80 _ _ _ _ _ _ _) (Sub_rfl _) hσ)))
theorem fr_F12_stalkOf_b80 (N : Nat) (l0 : Int64) (l2 : Int32) (l5 : Int64) (l7 : Int64) (l9 : Int32) (σ : Ms) : FR W12_stalkOf σ (F12_stalkOf_b80 N l0 l2 l5 l7 l9 σ) := by
  unfold F12_stalkOf_b80
  exact @FR_fx (Int64 × Int32 × Int64 × Int64 × Int32 × Ms) (Int32) W12_stalkOf (fun k x => F12_stalkOf_b80B N k x.1 x.2.1 x.2.2.1 x.2.2.2.1 x.2.2.2.2.1 x.2.2.2.2.2) (fun x => x.2.2.2.2.2) (fun k hk x => fr_F12_stalkOf_b80B N k hk x.1 x.2.1 x.2.2.1 x.2.2.2.1 x.2.2.2.2.1 x.2.2.2.2.2) N (l0, l2, l5, l7, l9, σ)
theorem fr_F12_stalkOf_b37 (N : Nat) (l0 : Int64) (l2 : Int32) (l3 : Int32) (l4 : Int32) (s0 : Int32) (s1 : Int32) (σ : Ms) : FR W12_stalkOf σ (F12_stalkOf_b37 N l0 l2 l3 l4 s0 s1 σ) :=
  have hσ := Fr_rfl W12_stalkOf σ
  (FR_if (FR_if (FR_if (FR_lv fun x3 => (FR_lv fun x4 => (FR_tr2 (fr_F12_stalkOf_b80 _ _ _ _ _ _ _) (Sub_rfl _) hσ))) (FR_some hσ)) (FR_some hσ)) (FR_some hσ))
theorem fr_F12_stalkOf_b22 (N : Nat) (l0 : Int64) (l2 : Int32) (l3 : Int32) (s0 : Int32) (σ : Ms) : FR W12_stalkOf σ (F12_stalkOf_b22 N l0 l2 l3 s0 σ) :=
  have hσ := Fr_rfl W12_stalkOf σ
  (FR_if (FR_tr2 (fr_F12_stalkOf_b37 _ _ _ _ _ _ _ _) (Sub_rfl _) hσ) (FR_tr2 (fr_F12_stalkOf_b37 _ _ _ _ _ _ _ _) (Sub_rfl _) hσ))
