theorem fr_F0_copy_b74B (q0 : Nat) (q1 : Nat) (N : Nat) (k74 : Int32 × Ms → Option (Unit × Ms)) (hk74 : ∀ x, FR (W0_copy q0 q1) x.2 (k74 x)) (l2 : Int32) (σ : Ms) : FR (W0_copy q0 q1) σ (F0_copy_b74B N q0 q1 k74 l2 σ) :=
  have hσ := Fr_rfl (W0_copy q0 q1) σ
  (FR_if (FR_st (fun t1 ht1 => (FR_st (fun t2 ht2 => (FR_st (fun t3 ht3 => (FR_st (fun t4 ht4 => (FR_st (fun t5 ht5 => (FR_st (fun t6 ht6 => (FR_st (fun t7 ht7 => (FR_some ht7)) (Fr_sI ht6 (In_o 6 rfl)))) (Fr_sI ht5 (In_o 5 rfl)))) (Fr_sI ht4 (In_o 4 rfl)))) (Fr_sI ht3 (In_o 3 rfl)))) (Fr_sI ht2 (In_o 2 rfl)))) (Fr_sI ht1 (In_o 1 rfl)))) (Fr_sI hσ (In_o 0 rfl))) (FR_ck fun z1 => (FR_ck fun z2 => (FR_st (fun t8 ht8 => (FR_ck fun z3 => (FR_ck fun z4 => (FR_st (fun t9 ht9 => (FR_tr ht9 (hk74 ((l2 + (1 : Int32)), t9)))) (Fr_sI ht8 (In_a 8 rfl)))))) (Fr_sI hσ (In_a 7 rfl))))))
theorem fr_F0_copy_b74 (q0 : Nat) (q1 : Nat) (N : Nat) (l2 : Int32) (σ : Ms) : FR (W0_copy q0 q1) σ (F0_copy_b74 N q0 q1 l2 σ) := by
  unfold F0_copy_b74
  exact @FR_fx (Int32 × Ms) (Unit) (W0_copy q0 q1) (fun k x => F0_copy_b74B N q0 q1 k x.1 x.2) (fun x => x.2) (fun k hk x => fr_F0_copy_b74B q0 q1 N k hk x.1 x.2) N (l2, σ)
theorem fr_F0_copy_b49B (q0 : Nat) (q1 : Nat) (N : Nat) (k49 : Int32 × Ms → Option (Unit × Ms)) (hk49 : ∀ x, FR (W0_copy q0 q1) x.2 (k49 x)) (l2 : Int32) (σ : Ms) : FR (W0_copy q0 q1) σ (F0_copy_b49B N q0 q1 k49 l2 σ) :=
  have hσ := Fr_rfl (W0_copy q0 q1) σ
  (FR_if (FR_tr2 (fr_F0_copy_b74 q0 q1 _ _ _) (Sub_rfl _) hσ) (FR_ck fun z5 => (FR_ck fun z6 => (FR_st (fun t10 ht10 => (FR_tr ht10 (hk49 ((l2 + (1 : Int32)), t10)))) (Fr_sI hσ (In_a 9 rfl))))))
theorem fr_F0_copy_b49 (q0 : Nat) (q1 : Nat) (N : Nat) (l2 : Int32) (σ : Ms) : FR (W0_copy q0 q1) σ (F0_copy_b49 N q0 q1 l2 σ) := by
  unfold F0_copy_b49
  exact @FR_fx (Int32 × Ms) (Unit) (W0_copy q0 q1) (fun k x => F0_copy_b49B N q0 q1 k x.1 x.2) (fun x => x.2) (fun k hk x => fr_F0_copy_b49B q0 q1 N k hk x.1 x.2) N (l2, σ)
theorem fr_F0_copy_b11B (q0 : Nat) (q1 : Nat) (N : Nat) (k11 : Int32 × Ms → Option (Unit × Ms)) (hk11 : ∀ x, FR (W0_copy q0 q1) x.2 (k11 x)) (l2 : Int32) (σ : Ms) : FR (W0_copy q0 q1) σ (F0_copy_b11B N q0 q1 k11 l2 σ) :=
  have hσ := Fr_rfl (W0_copy q0 q1) σ
  (FR_if (FR_tr2 (fr_F0_copy_b49 q0 q1 _ _ _) (Sub_rfl _) hσ) (FR_ck fun z7 => (FR_ck fun z8 => (FR_st (fun t11 ht11 => (FR_ck fun z9 => (FR_ck fun z10 => (FR_st (fun t12 ht12 => (FR_tr ht12 (hk11 ((l2 + (1 : Int32)), t12)))) (Fr_sI ht11 (In_a 11 rfl)))))) (Fr_sI hσ (In_a 10 rfl))))))
theorem fr_F0_copy_b11 (q0 : Nat) (q1 : Nat) (N : Nat) (l2 : Int32) (σ : Ms) : FR (W0_copy q0 q1) σ (F0_copy_b11 N q0 q1 l2 σ) := by
  unfold F0_copy_b11
  exact @FR_fx (Int32 × Ms) (Unit) (W0_copy q0 q1) (fun k x => F0_copy_b11B N q0 q1 k x.1 x.2) (fun x => x.2) (fun k hk x => fr_F0_copy_b11B q0 q1 N k hk x.1 x.2) N (l2, σ)
theorem fr_F0_copy (q0 : Nat) (q1 : Nat) (N : Nat) (σ : Ms) : FR (W0_copy q0 q1) σ (F0_copy N q0 q1 σ) :=
  have hσ := Fr_rfl (W0_copy q0 q1) σ
  (FR_tr2 (fr_F0_copy_b11 q0 q1 _ _ _) (Sub_rfl _) hσ)
theorem fr_F0_clear (h : Nat) (σ : Ms) : FR (W0_clear h) σ (F0_clear h σ) :=
  have hσ := Fr_rfl (W0_clear h) σ
  (FR_st (fun t1 ht1 => (FR_st (fun t2 ht2 => (FR_st (fun t3 ht3 => (FR_st (fun t4 ht4 => (FR_st (fun t5 ht5 => (FR_st (fun t6 ht6 => (FR_st (fun t7 ht7 => (FR_some ht7)) (Fr_sI ht6 (In_o 6 rfl)))) (Fr_sI ht5 (In_o 5 rfl)))) (Fr_sI ht4 (In_o 4 rfl)))) (Fr_sI ht3 (In_o 3 rfl)))) (Fr_sI ht2 (In_o 2 rfl)))) (Fr_sI ht1 (In_o 1 rfl)))) (Fr_sI hσ (In_o 0 rfl)))
theorem fr_F0_hasSprig (h : Nat) (p0 : Int32) (σ : Ms) : FR (W0_hasSprig h) σ (F0_hasSprig h p0 σ) :=
  have hσ := Fr_rfl (W0_hasSprig h) σ
  (FR_if (FR_some hσ) (FR_if (FR_some hσ) (FR_if (FR_some hσ) (FR_some hσ))))
theorem fr_F0_hasHeap (h : Nat) (p0 : Int32) (σ : Ms) : FR (W0_hasHeap h) σ (F0_hasHeap h p0 σ) :=
  have hσ := Fr_rfl (W0_hasHeap h) σ
  (FR_if (FR_some hσ) (FR_if (FR_some hσ) (FR_if (FR_some hσ) (FR_some hσ))))
theorem fr_F0_hasBet (h : Nat) (p0 : Int32) (σ : Ms) : FR (W0_hasBet h) σ (F0_hasBet h p0 σ) :=
  have hσ := Fr_rfl (W0_hasBet h) σ
  (FR_if (FR_some hσ) (FR_if (FR_some hσ) (FR_if (FR_some hσ) (FR_some hσ))))
theorem fr_F11_isIn (p0 : Int32) (p1 : Int32) (σ : Ms) : FR W11_isIn σ (F11_isIn p0 p1 σ) :=
  have hσ := Fr_rfl W11_isIn σ
  (FR_if (FR_some hσ) (FR_some hσ))
theorem fr_F0_isStanding (h : Nat) (p0 : Int32) (σ : Ms) : FR (W0_isStanding h) σ (F0_isStanding h p0 σ) :=
  have hσ := Fr_rfl (W0_isStanding h) σ
  (FR_bn (fr_F0_hasSprig h _ _) (Sub_nil _) hσ fun r1 t2 ht2 => (FR_if (FR_some ht2) (FR_bn (fr_F11_isIn _ _ _) (Sub_nil _) ht2 fun r3 t4 ht4 => (FR_if (FR_some ht4) (FR_some ht4)))))
theorem fr_F0_hasWorth (h : Nat) (p0 : Int32) (σ : Ms) : FR (W0_hasWorth h) σ (F0_hasWorth h p0 σ) :=
  have hσ := Fr_rfl (W0_hasWorth h) σ
  (FR_bn (fr_F0_isStanding h _ _) (Sub_nil _) hσ fun r1 t2 ht2 => (FR_if (FR_some ht2) (FR_ck fun z11 => (FR_if (FR_some ht2) (FR_some ht2)))))
theorem fr_F0_mayCut_b23 (h : Nat) (s0 : Int32) (s1 : Int32) (σ : Ms) : FR (W0_mayCut h) σ (F0_mayCut_b23 h s0 s1 σ) :=
  have hσ := Fr_rfl (W0_mayCut h) σ
  (FR_if (FR_some hσ) (FR_some hσ))
theorem fr_F0_mayCut (h : Nat) (p0 : Int32) (p1 : Int32) (σ : Ms) : FR (W0_mayCut h) σ (F0_mayCut h p0 p1 σ) :=
  have hσ := Fr_rfl (W0_mayCut h) σ
  (FR_bn (fr_F0_isStanding h _ _) (Sub_nil _) hσ fun r1 t2 ht2 => (FR_if (FR_some ht2) (FR_ck fun z12 => (FR_if (FR_tr2 (fr_F0_mayCut_b23 h _ _ _) (Sub_rfl _) ht2) (FR_tr2 (fr_F0_mayCut_b23 h _ _ _) (Sub_rfl _) ht2)))))
theorem fr_F0_mayTake (h : Nat) (p0 : Int32) (σ : Ms) : FR (W0_mayTake h) σ (F0_mayTake h p0 σ) :=
  have hσ := Fr_rfl (W0_mayTake h) σ
  (FR_bn (fr_F0_hasBet h _ _) (Sub_nil _) hσ fun r1 t2 ht2 => (FR_if (FR_some ht2) (FR_bn (fr_F11_isIn _ _ _) (Sub_nil _) ht2 fun r3 t4 ht4 => (FR_if (FR_some ht4) (FR_some ht4)))))
theorem fr_F0_mayLessen (h : Nat) (p0 : Int32) (p1 : Int32) (σ : Ms) : FR (W0_mayLessen h) σ (F0_mayLessen h p0 p1 σ) :=
  have hσ := Fr_rfl (W0_mayLessen h) σ
  (FR_bn (fr_F0_hasHeap h _ _) (Sub_nil _) hσ fun r1 t2 ht2 => (FR_if (FR_some ht2) (FR_if (FR_some ht2) (FR_ck fun z13 => (FR_if (FR_some ht2) (FR_some ht2))))))
theorem fr_F0_maySpend (h : Nat) (p0 : Int32) (σ : Ms) : FR (W0_maySpend h) σ (F0_maySpend h p0 σ) :=
  have hσ := Fr_rfl (W0_maySpend h) σ
  (FR_if (FR_if (FR_some hσ) (FR_some hσ)) (FR_if (FR_some hσ) (FR_some hσ)))
theorem fr_F0_fits_b40 (h : Nat) (s0 : Int32) (s1 : Int32) (σ : Ms) : FR (W0_fits h) σ (F0_fits_b40 h s0 s1 σ) :=
  have hσ := Fr_rfl (W0_fits h) σ
  (FR_if (FR_some hσ) (FR_some hσ))
theorem fr_F0_fits_b25 (h : Nat) (l2 : Int32) (s0 : Int32) (σ : Ms) : FR (W0_fits h) σ (F0_fits_b25 h l2 s0 σ) :=
  have hσ := Fr_rfl (W0_fits h) σ
  (FR_ck fun z14 => (FR_if (FR_tr2 (fr_F0_fits_b40 h _ _ _) (Sub_rfl _) hσ) (FR_tr2 (fr_F0_fits_b40 h _ _ _) (Sub_rfl _) hσ)))
theorem fr_F0_fits (h : Nat) (p0 : Int32) (p1 : Int32) (σ : Ms) : FR (W0_fits h) σ (F0_fits h p0 p1 σ) :=
  have hσ := Fr_rfl (W0_fits h) σ
  (FR_if (FR_bn (fr_F0_hasSprig h _ _) (Sub_nil _) hσ fun r1 t2 ht2 => (FR_if (FR_some ht2) (FR_if (FR_tr2 (fr_F0_fits_b25 h _ _ _) (Sub_rfl _) ht2) (FR_tr2 (fr_F0_fits_b25 h _ _ _) (Sub_rfl _) ht2)))) (FR_some hσ))
theorem fr_F0_mayGrow_b22 (h : Nat) (l1 : Int32) (l2 : Int32) (σ : Ms) : FR (W0_mayGrow h) σ (F0_mayGrow_b22 h l1 l2 σ) :=
  have hσ := Fr_rfl (W0_mayGrow h) σ
  (FR_bn (fr_F0_fits h _ _ _) (Sub_nil _) hσ fun r1 t2 ht2 => (FR_if (FR_some ht2) (FR_some ht2)))
theorem fr_F0_mayGrow (h : Nat) (p0 : Int32) (p1 : Int32) (σ : Ms) : FR (W0_mayGrow h) σ (F0_mayGrow h p0 p1 σ) :=
  have hσ := Fr_rfl (W0_mayGrow h) σ
  (FR_if (FR_some hσ) (FR_if (FR_tr2 (fr_F0_mayGrow_b22 h _ _ _) (Sub_rfl _) hσ) (FR_bn (fr_F0_isStanding h _ _) (Sub_nil _) hσ fun r3 t4 ht4 => (FR_if (FR_some ht4) (FR_tr2 (fr_F0_mayGrow_b22 h _ _ _) (Sub_rfl _) ht4)))))
theorem fr_F0_canBeBet (p0 : Int32) (p1 : Int32) (σ : Ms) : FR W0_canBeBet σ (F0_canBeBet p0 p1 σ) :=
  have hσ := Fr_rfl W0_canBeBet σ
  (FR_if (FR_some hσ) (FR_if (FR_some hσ) (FR_if (FR_some hσ) (FR_if (FR_some hσ) (FR_if (FR_some hσ) (FR_some hσ))))))
theorem fr_F0_addSprig (h : Nat) (p0 : Int32) (p1 : Int32) (σ : Ms) : FR (W0_addSprig h) σ (F0_addSprig h p0 p1 σ) :=
  have hσ := Fr_rfl (W0_addSprig h) σ
  (FR_if (FR_ck fun z15 => (FR_st (fun t1 ht1 => (FR_ck fun z16 => (FR_st (fun t2 ht2 => (FR_st (fun t3 ht3 => (FR_st (fun t4 ht4 => (FR_some ht4)) (Fr_sI ht3 (In_o 3 rfl)))) (Fr_sI ht2 (In_o 2 rfl)))) (Fr_sI ht1 (In_a 1 rfl))))) (Fr_sI hσ (In_a 0 rfl)))) (FR_some hσ))
theorem fr_F0_addHeap (h : Nat) (p0 : Int32) (σ : Ms) : FR (W0_addHeap h) σ (F0_addHeap h p0 σ) :=
  have hσ := Fr_rfl (W0_addHeap h) σ
  (FR_if (FR_ck fun z17 => (FR_st (fun t1 ht1 => (FR_st (fun t2 ht2 => (FR_some ht2)) (Fr_sI ht1 (In_o 1 rfl)))) (Fr_sI hσ (In_a 0 rfl)))) (FR_some hσ))
theorem fr_F0_addBet (h : Nat) (p0 : Int32) (p1 : Int32) (σ : Ms) : FR (W0_addBet h) σ (F0_addBet h p0 p1 σ) :=
  have hσ := Fr_rfl (W0_addBet h) σ
  (FR_if (FR_ck fun z18 => (FR_st (fun t1 ht1 => (FR_ck fun z19 => (FR_st (fun t2 ht2 => (FR_st (fun t3 ht3 => (FR_some ht3)) (Fr_sI ht2 (In_o 2 rfl)))) (Fr_sI ht1 (In_a 1 rfl))))) (Fr_sI hσ (In_a 0 rfl)))) (FR_some hσ))
theorem fr_F0_branchSet_b71 (h : Nat) (N : Nat) (k23 : Int32 × Int32 × Ms → Option (Int32 × Ms)) (hk23 : ∀ x, FR (W0_branchSet h) x.2.2 (k23 x)) (l2 : Int32) (l3 : Int32) (σ : Ms) : FR (W0_branchSet h) σ (F0_branchSet_b71 N h k23 l2 l3 σ) :=
  have hσ := Fr_rfl (W0_branchSet h) σ
  (FR_tr hσ (hk23 (l2, (l3 + (1 : Int32)), σ)))
theorem fr_F0_branchSet_b23B (h : Nat) (N : Nat) (k23 : Int32 × Int32 × Ms → Option (Int32 × Ms)) (hk23 : ∀ x, FR (W0_branchSet h) x.2.2 (k23 x)) (l2 : Int32) (l3 : Int32) (σ : Ms) : FR (W0_branchSet h) σ (F0_branchSet_b23B N h k23 l2 l3 σ) :=
  have hσ := Fr_rfl (W0_branchSet h) σ
  (FR_if (FR_some hσ) (FR_if (FR_some hσ) (FR_ck fun z20 => (FR_if (FR_tr2 (fr_F0_branchSet_b71 h _ _ hk23 _ _ _) (Sub_rfl _) hσ) (FR_ck fun z21 => (FR_bn (fr_F11_isIn _ _ _) (Sub_nil _) hσ fun r1 t2 ht2 => (FR_if (FR_tr2 (fr_F0_branchSet_b71 h _ _ hk23 _ _ _) (Sub_rfl _) ht2) (FR_lv fun x3 => (FR_tr2 (fr_F0_branchSet_b71 h _ _ hk23 _ _ _) (Sub_rfl _) ht2)))))))))
theorem fr_F0_branchSet_b23 (h : Nat) (N : Nat) (l2 : Int32) (l3 : Int32) (σ : Ms) : FR (W0_branchSet h) σ (F0_branchSet_b23 N h l2 l3 σ) := by
  unfold F0_branchSet_b23
  exact @FR_fx (Int32 × Int32 × Ms) (Int32) (W0_branchSet h) (fun k x => F0_branchSet_b23B N h k x.1 x.2.1 x.2.2) (fun x => x.2.2) (fun k hk x => fr_F0_branchSet_b23B h N k hk x.1 x.2.1 x.2.2) N (l2, l3, σ)
theorem fr_F0_branchSet (h : Nat) (N : Nat) (p0 : Int32) (σ : Ms) : FR (W0_branchSet h) σ (F0_branchSet N h p0 σ) :=
  have hσ := Fr_rfl (W0_branchSet h) σ
  (FR_bn (fr_F0_hasSprig h _ _) (Sub_nil _) hσ fun r4 t5 ht5 => (FR_if (FR_lv fun x6 => (FR_lv fun x7 => (FR_tr2 (fr_F0_branchSet_b23 h _ _ _ _) (Sub_rfl _) ht5))) (FR_some ht5)))
theorem fr_FJ6_bitCount_0f7a4 (p0 : Int32) (σ : Ms) : FR W6_bitCount_0f7a4 σ (FJ6_bitCount_0f7a4 p0 σ) :=
  have hσ := Fr_rfl W6_bitCount_0f7a4 σ
  (FR_lv fun x1 => (FR_lv fun x2 => (FR_lv fun x3 => (FR_lv fun x4 => (FR_lv fun x5 => (FR_some hσ))))))
theorem fr_F0_shear (h : Nat) (N : Nat) (p0 : Int32) (σ : Ms) : FR (W0_shear h) σ (F0_shear N h p0 σ) :=
  have hσ := Fr_rfl (W0_shear h) σ
  (FR_bn (fr_F0_branchSet h _ _ _) (Sub_nil _) hσ fun r1 t2 ht2 => (FR_st (fun t3 ht3 => (FR_st (fun t4 ht4 => (FR_bn (fr_FJ6_bitCount_0f7a4 _ _) (Sub_nil _) ht4 fun r5 t6 ht6 => (FR_some ht6))) (Fr_sI ht3 (In_o 1 rfl)))) (Fr_sI ht2 (In_o 0 rfl))))
theorem fr_F0_gain (h : Nat) (p0 : Int32) (p1 : Int32) (σ : Ms) : FR (W0_gain h) σ (F0_gain h p0 p1 σ) :=
  have hσ := Fr_rfl (W0_gain h) σ
  (FR_bn (fr_F0_hasBet h _ _) (Sub_nil _) hσ fun r1 t2 ht2 => (FR_if (FR_if (FR_ck fun z22 => (FR_some ht2)) (FR_ck fun z23 => (FR_some ht2))) (FR_some ht2)))
theorem fr_F0_winBet (h : Nat) (p0 : Int32) (p1 : Int32) (σ : Ms) : FR (W0_winBet h) σ (F0_winBet h p0 p1 σ) :=
  have hσ := Fr_rfl (W0_winBet h) σ
  (FR_bn (fr_F0_mayTake h _ _) (Sub_nil _) hσ fun r1 t2 ht2 => (FR_if (FR_bn (fr_F0_gain h _ _ _) (Sub_nil _) ht2 fun r3 t4 ht4 => (FR_st (fun t5 ht5 => (FR_st (fun t6 ht6 => (FR_some ht6)) (Fr_sI ht5 (In_o 1 rfl)))) (Fr_sI ht4 (In_o 0 rfl)))) (FR_some ht2)))
theorem fr_F0_lessen (h : Nat) (p0 : Int32) (p1 : Int32) (σ : Ms) : FR (W0_lessen h) σ (F0_lessen h p0 p1 σ) :=
  have hσ := Fr_rfl (W0_lessen h) σ
  (FR_bn (fr_F0_mayLessen h _ _ _) (Sub_nil _) hσ fun r1 t2 ht2 => (FR_if (FR_some ht2) (FR_ck fun z24 => (FR_st (fun t3 ht3 => (FR_some ht3)) (Fr_sI ht2 (In_a 0 rfl))))))
theorem fr_F0_spendOne_b14 (h : Nat) (s1 : Int32) (s2 : Int32) (σ : Ms) : FR (W0_spendOne h) σ (F0_spendOne_b14 h s1 s2 σ) :=
  have hσ := Fr_rfl (W0_spendOne h) σ
  (FR_st (fun t1 ht1 => (FR_some ht1)) (Fr_sI hσ (In_o 0 rfl)))
theorem fr_F0_spendOne (h : Nat) (p0 : Int32) (σ : Ms) : FR (W0_spendOne h) σ (F0_spendOne h p0 σ) :=
  have hσ := Fr_rfl (W0_spendOne h) σ
  (FR_if (FR_tr2 (fr_F0_spendOne_b14 h _ _ _) (Sub_rfl _) hσ) (FR_tr2 (fr_F0_spendOne_b14 h _ _ _) (Sub_rfl _) hσ))
theorem fr_F0_betFor (h : Nat) (p0 : Int32) (p1 : Int32) (σ : Ms) : FR (W0_betFor h) σ (F0_betFor h p0 p1 σ) :=
  have hσ := Fr_rfl (W0_betFor h) σ
  (FR_bn (fr_F0_hasBet h _ _) (Sub_nil _) hσ fun r1 t2 ht2 => (FR_if (FR_if (FR_ck fun z25 => (FR_some ht2)) (FR_ck fun z26 => (FR_some ht2))) (FR_some ht2)))
theorem fr_F0_hottestBut_b60 (h : Nat) (N : Nat) (k7 : Int32 × Int32 × Int32 × Int32 × Ms → Option (Int32 × Ms)) (hk7 : ∀ x, FR (W0_hottestBut h) x.2.2.2.2 (k7 x)) (l1 : Int32) (l2 : Int32) (l3 : Int32) (l4 : Int32) (σ : Ms) : FR (W0_hottestBut h) σ (F0_hottestBut_b60 N h k7 l1 l2 l3 l4 σ) :=
  have hσ := Fr_rfl (W0_hottestBut h) σ
  (FR_tr hσ (hk7 (l1, l2, l3, (l4 + (1 : Int32)), σ)))
theorem fr_F0_hottestBut_b7B (h : Nat) (N : Nat) (k7 : Int32 × Int32 × Int32 × Int32 × Ms → Option (Int32 × Ms)) (hk7 : ∀ x, FR (W0_hottestBut h) x.2.2.2.2 (k7 x)) (l1 : Int32) (l2 : Int32) (l3 : Int32) (l4 : Int32) (σ : Ms) : FR (W0_hottestBut h) σ (F0_hottestBut_b7B N h k7 l1 l2 l3 l4 σ) :=
  have hσ := Fr_rfl (W0_hottestBut h) σ
  (FR_if (FR_some hσ) (FR_if (FR_some hσ) (FR_ck fun z27 => (FR_ck fun z28 => (FR_lv fun x1 => (FR_bn (fr_F11_isIn _ _ _) (Sub_nil _) hσ fun r2 t3 ht3 => (FR_if (FR_tr2 (fr_F0_hottestBut_b60 h _ _ hk7 _ _ _ _ _) (Sub_rfl _) ht3) (FR_if (FR_tr2 (fr_F0_hottestBut_b60 h _ _ hk7 _ _ _ _ _) (Sub_rfl _) ht3) (FR_tr2 (fr_F0_hottestBut_b60 h _ _ hk7 _ _ _ _ _) (Sub_rfl _) ht3)))))))))
theorem fr_F0_hottestBut_b7 (h : Nat) (N : Nat) (l1 : Int32) (l2 : Int32) (l3 : Int32) (l4 : Int32) (σ : Ms) : FR (W0_hottestBut h) σ (F0_hottestBut_b7 N h l1 l2 l3 l4 σ) := by
  unfold F0_hottestBut_b7
  exact @FR_fx (Int32 × Int32 × Int32 × Int32 × Ms) (Int32) (W0_hottestBut h) (fun k x => F0_hottestBut_b7B N h k x.1 x.2.1 x.2.2.1 x.2.2.2.1 x.2.2.2.2) (fun x => x.2.2.2.2) (fun k hk x => fr_F0_hottestBut_b7B h N k hk x.1 x.2.1 x.2.2.1 x.2.2.2.1 x.2.2.2.2) N (l1, l2, l3, l4, σ)
theorem fr_F0_hottestBut (h : Nat) (N : Nat) (p0 : Int32) (σ : Ms) : FR (W0_hottestBut h) σ (F0_hottestBut N h p0 σ) :=
  have hσ := Fr_rfl (W0_hottestBut h) σ
  (FR_tr2 (fr_F0_hottestBut_b7 h _ _ _ _ _ _) (Sub_rfl _) hσ)
theorem fr_F0_rightOn_b36 (h : Nat) (N : Nat) (k4 : Int32 × Int32 × Int32 × Ms → Option (Int32 × Ms)) (hk4 : ∀ x, FR (W0_rightOn h) x.2.2.2 (k4 x)) (l1 : Int32) (l2 : Int32) (l3 : Int32) (σ : Ms) : FR (W0_rightOn h) σ (F0_rightOn_b36 N h k4 l1 l2 l3 σ) :=
  have hσ := Fr_rfl (W0_rightOn h) σ
  (FR_tr hσ (hk4 (l1, l2, (l3 + (1 : Int32)), σ)))
theorem fr_F0_rightOn_b4B (h : Nat) (N : Nat) (k4 : Int32 × Int32 × Int32 × Ms → Option (Int32 × Ms)) (hk4 : ∀ x, FR (W0_rightOn h) x.2.2.2 (k4 x)) (l1 : Int32) (l2 : Int32) (l3 : Int32) (σ : Ms) : FR (W0_rightOn h) σ (F0_rightOn_b4B N h k4 l1 l2 l3 σ) :=
  have hσ := Fr_rfl (W0_rightOn h) σ
  (FR_if (FR_some hσ) (FR_bn (fr_F0_isStanding h _ _) (Sub_nil _) hσ fun r1 t2 ht2 => (FR_if (FR_tr2 (fr_F0_rightOn_b36 h _ _ hk4 _ _ _ _) (Sub_rfl _) ht2) (FR_ck fun z29 => (FR_if (FR_tr2 (fr_F0_rightOn_b36 h _ _ hk4 _ _ _ _) (Sub_rfl _) ht2) (FR_lv fun x3 => (FR_tr2 (fr_F0_rightOn_b36 h _ _ hk4 _ _ _ _) (Sub_rfl _) ht2)))))))
theorem fr_F0_rightOn_b4 (h : Nat) (N : Nat) (l1 : Int32) (l2 : Int32) (l3 : Int32) (σ : Ms) : FR (W0_rightOn h) σ (F0_rightOn_b4 N h l1 l2 l3 σ) := by
  unfold F0_rightOn_b4
  exact @FR_fx (Int32 × Int32 × Int32 × Ms) (Int32) (W0_rightOn h) (fun k x => F0_rightOn_b4B N h k x.1 x.2.1 x.2.2.1 x.2.2.2) (fun x => x.2.2.2) (fun k hk x => fr_F0_rightOn_b4B h N k hk x.1 x.2.1 x.2.2.1 x.2.2.2) N (l1, l2, l3, σ)
theorem fr_F0_rightOn (h : Nat) (N : Nat) (p0 : Int32) (σ : Ms) : FR (W0_rightOn h) σ (F0_rightOn N h p0 σ) :=
  have hσ := Fr_rfl (W0_rightOn h) σ
  (FR_tr2 (fr_F0_rightOn_b4 h _ _ _ _ _) (Sub_rfl _) hσ)
theorem fr_F3_branch_b32 (l0 : Int32) (l3 : Int64) (s0 : Int32) (σ : Ms) : FR W3_branch σ (F3_branch_b32 l0 l3 s0 σ) :=
  have hσ := Fr_rfl W3_branch σ
  (FR_lv fun x1 => (FR_if (FR_some hσ) (FR_some hσ)))
theorem fr_F3_branch_b10 (l0 : Int32) (s0 : Int64) (σ : Ms) : FR W3_branch σ (F3_branch_b10 l0 s0 σ) :=
  have hσ := Fr_rfl W3_branch σ
  (FR_if (FR_tr2 (fr_F3_branch_b32 _ _ _ _) (Sub_rfl _) hσ) (FR_tr2 (fr_F3_branch_b32 _ _ _ _) (Sub_rfl _) hσ))
theorem fr_F3_branch (p0 : Int32) (p1 : Int64) (σ : Ms) : FR W3_branch σ (F3_branch p0 p1 σ) :=
  have hσ := Fr_rfl W3_branch σ
  (FR_if (FR_tr2 (fr_F3_branch_b10 _ _ _) (Sub_rfl _) hσ) (FR_tr2 (fr_F3_branch_b10 _ _ _) (Sub_rfl _) hσ))
theorem fr_F0_worthWith_b137 (h : Nat) (N : Nat) (k42 : Int32 × Int64 × Int32 × Ms → Option (Int64 × Ms)) (hk42 : ∀ x, FR (W0_worthWith h) x.2.2.2 (k42 x)) (l1 : Int32) (l2 : Int64) (l4 : Int32) (σ : Ms) : FR (W0_worthWith h) σ (F0_worthWith_b137 N h k42 l1 l2 l4 σ) :=
  have hσ := Fr_rfl (W0_worthWith h) σ
  (FR_tr hσ (hk42 (l1, l2, (l4 + (-1 : Int32)), σ)))
theorem fr_F0_worthWith_b42B (h : Nat) (N : Nat) (k42 : Int32 × Int64 × Int32 × Ms → Option (Int64 × Ms)) (hk42 : ∀ x, FR (W0_worthWith h) x.2.2.2 (k42 x)) (l1 : Int32) (l2 : Int64) (l4 : Int32) (σ : Ms) : FR (W0_worthWith h) σ (F0_worthWith_b42B N h k42 l1 l2 l4 σ) :=
  have hσ := Fr_rfl (W0_worthWith h) σ
  (FR_if (FR_some hσ) (FR_bn (fr_F11_isIn _ _ _) (Sub_nil _) hσ fun r1 t2 ht2 => (FR_if (FR_tr2 (fr_F0_worthWith_b137 h _ _ hk42 _ _ _ _) (Sub_rfl _) ht2) (FR_bn (fr_F0_hasSprig h _ _) (Sub_nil _) ht2 fun r3 t4 ht4 => (FR_if (FR_tr2 (fr_F0_worthWith_b137 h _ _ hk42 _ _ _ _) (Sub_rfl _) ht4) (FR_ck fun z30 => (FR_if (FR_ck fun z31 => (FR_ck fun z32 => (FR_bn (fr_F3_branch _ _ _) (Sub_nil _) ht4 fun r5 t6 ht6 => (FR_ck fun z33 => (FR_bn (fr_F0_hasSprig h _ _) (Sub_nil _) ht6 fun r7 t8 ht8 => (FR_if (FR_lv fun x9 => (FR_tr2 (fr_F0_worthWith_b137 h _ _ hk42 _ _ _ _) (Sub_rfl _) ht8)) (FR_ck fun z34 => (FR_ck fun z35 => (FR_ck fun z36 => (FR_st (fun t10 ht10 => (FR_tr2 (fr_F0_worthWith_b137 h _ _ hk42 _ _ _ _) (Sub_rfl _) ht10)) (Fr_sL ht8 (In_a 0 rfl)))))))))))) (FR_tr2 (fr_F0_worthWith_b137 h _ _ hk42 _ _ _ _) (Sub_rfl _) ht4))))))))
theorem fr_F0_worthWith_b42 (h : Nat) (N : Nat) (l1 : Int32) (l2 : Int64) (l4 : Int32) (σ : Ms) : FR (W0_worthWith h) σ (F0_worthWith_b42 N h l1 l2 l4 σ) := by
  unfold F0_worthWith_b42
  exact @FR_fx (Int32 × Int64 × Int32 × Ms) (Int64) (W0_worthWith h) (fun k x => F0_worthWith_b42B N h k x.1 x.2.1 x.2.2.1 x.2.2.2) (fun x => x.2.2.2) (fun k hk x => fr_F0_worthWith_b42B h N k hk x.1 x.2.1 x.2.2.1 x.2.2.2) N (l1, l2, l4, σ)
theorem fr_F0_worthWith_b13B (h : Nat) (N : Nat) (k13 : Int32 × Int64 × Int32 × Ms → Option (Int64 × Ms)) (hk13 : ∀ x, FR (W0_worthWith h) x.2.2.2 (k13 x)) (l1 : Int32) (l2 : Int64) (l4 : Int32) (σ : Ms) : FR (W0_worthWith h) σ (F0_worthWith_b13B N h k13 l1 l2 l4 σ) :=
  have hσ := Fr_rfl (W0_worthWith h) σ
  (FR_if (FR_lv fun x11 => (FR_tr2 (fr_F0_worthWith_b42 h _ _ _ _ _) (Sub_rfl _) hσ)) (FR_ck fun z37 => (FR_st (fun t12 ht12 => (FR_tr ht12 (hk13 (l1, l2, (l4 + (1 : Int32)), t12)))) (Fr_sL hσ (In_a 0 rfl)))))
theorem fr_F0_worthWith_b13 (h : Nat) (N : Nat) (l1 : Int32) (l2 : Int64) (l4 : Int32) (σ : Ms) : FR (W0_worthWith h) σ (F0_worthWith_b13 N h l1 l2 l4 σ) := by
  unfold F0_worthWith_b13
  exact @FR_fx (Int32 × Int64 × Int32 × Ms) (Int64) (W0_worthWith h) (fun k x => F0_worthWith_b13B N h k x.1 x.2.1 x.2.2.1 x.2.2.2) (fun x => x.2.2.2) (fun k hk x => fr_F0_worthWith_b13B h N k hk x.1 x.2.1 x.2.2.1 x.2.2.2) N (l1, l2, l4, σ)
theorem fr_F0_worthWith (h : Nat) (N : Nat) (p0 : Int32) (σ : Ms) : FR (W0_worthWith h) σ (F0_worthWith N h p0 σ) :=
  have hσ := Fr_rfl (W0_worthWith h) σ
  (FR_lv fun x13 => (FR_tr2 (fr_F0_worthWith_b13 h _ _ _ _ _) (Sub_rfl _) hσ))
theorem fr_F0_branchWorth (h : Nat) (N : Nat) (p0 : Int32) (σ : Ms) : FR (W0_branchWorth h) σ (F0_branchWorth N h p0 σ) :=
  have hσ := Fr_rfl (W0_branchWorth h) σ
  (FR_bn (fr_F0_hasWorth h _ _) (Sub_nil _) hσ fun r1 t2 ht2 => (FR_if (FR_bn (fr_F0_worthWith h _ _ _) (Sub_of [0] rfl) ht2 fun r3 t4 ht4 => (FR_ck fun z38 => (FR_ck fun z39 => (FR_bn (fr_F3_branch _ _ _) (Sub_nil _) ht4 fun r5 t6 ht6 => (FR_some ht6))))) (FR_some ht2)))
theorem fr_F0_nimWith_b140 (h : Nat) (N : Nat) (k60 : Int32 × Int32 × Int32 × Ms → Option (Int32 × Ms)) (hk60 : ∀ x, FR (W0_nimWith h) x.2.2.2 (k60 x)) (l1 : Int32) (l2 : Int32) (l3 : Int32) (σ : Ms) : FR (W0_nimWith h) σ (F0_nimWith_b140 N h k60 l1 l2 l3 σ) :=
  have hσ := Fr_rfl (W0_nimWith h) σ
  (FR_tr hσ (hk60 (l1, l2, (l3 + (-1 : Int32)), σ)))
theorem fr_F0_nimWith_b60B (h : Nat) (N : Nat) (k60 : Int32 × Int32 × Int32 × Ms → Option (Int32 × Ms)) (hk60 : ∀ x, FR (W0_nimWith h) x.2.2.2 (k60 x)) (l1 : Int32) (l2 : Int32) (l3 : Int32) (σ : Ms) : FR (W0_nimWith h) σ (F0_nimWith_b60B N h k60 l1 l2 l3 σ) :=
  have hσ := Fr_rfl (W0_nimWith h) σ
  (FR_if (FR_some hσ) (FR_bn (fr_F11_isIn _ _ _) (Sub_nil _) hσ fun r1 t2 ht2 => (FR_if (FR_tr2 (fr_F0_nimWith_b140 h _ _ hk60 _ _ _ _) (Sub_rfl _) ht2) (FR_bn (fr_F0_hasSprig h _ _) (Sub_nil _) ht2 fun r3 t4 ht4 => (FR_if (FR_tr2 (fr_F0_nimWith_b140 h _ _ hk60 _ _ _ _) (Sub_rfl _) ht4) (FR_ck fun z40 => (FR_if (FR_ck fun z41 => (FR_lv fun x5 => (FR_ck fun z42 => (FR_bn (fr_F0_hasSprig h _ _) (Sub_nil _) ht4 fun r6 t7 ht7 => (FR_if (FR_lv fun x8 => (FR_tr2 (fr_F0_nimWith_b140 h _ _ hk60 _ _ _ _) (Sub_rfl _) ht7)) (FR_ck fun z43 => (FR_ck fun z44 => (FR_ck fun z45 => (FR_st (fun t9 ht9 => (FR_tr2 (fr_F0_nimWith_b140 h _ _ hk60 _ _ _ _) (Sub_rfl _) ht9)) (Fr_sI ht7 (In_a 0 rfl))))))))))) (FR_tr2 (fr_F0_nimWith_b140 h _ _ hk60 _ _ _ _) (Sub_rfl _) ht4))))))))
theorem fr_F0_nimWith_b60 (h : Nat) (N : Nat) (l1 : Int32) (l2 : Int32) (l3 : Int32) (σ : Ms) : FR (W0_nimWith h) σ (F0_nimWith_b60 N h l1 l2 l3 σ) := by
  unfold F0_nimWith_b60
  exact @FR_fx (Int32 × Int32 × Int32 × Ms) (Int32) (W0_nimWith h) (fun k x => F0_nimWith_b60B N h k x.1 x.2.1 x.2.2.1 x.2.2.2) (fun x => x.2.2.2) (fun k hk x => fr_F0_nimWith_b60B h N k hk x.1 x.2.1 x.2.2.1 x.2.2.2) N (l1, l2, l3, σ)
theorem fr_F0_nimWith_b34B (h : Nat) (N : Nat) (k34 : Int32 × Int32 × Int32 × Ms → Option (Int32 × Ms)) (hk34 : ∀ x, FR (W0_nimWith h) x.2.2.2 (k34 x)) (l1 : Int32) (l2 : Int32) (l3 : Int32) (σ : Ms) : FR (W0_nimWith h) σ (F0_nimWith_b34B N h k34 l1 l2 l3 σ) :=
  have hσ := Fr_rfl (W0_nimWith h) σ
  (FR_if (FR_lv fun x10 => (FR_tr2 (fr_F0_nimWith_b60 h _ _ _ _ _) (Sub_rfl _) hσ)) (FR_ck fun z46 => (FR_st (fun t11 ht11 => (FR_tr ht11 (hk34 (l1, l2, (l3 + (1 : Int32)), t11)))) (Fr_sI hσ (In_a 0 rfl)))))
theorem fr_F0_nimWith_b34 (h : Nat) (N : Nat) (l1 : Int32) (l2 : Int32) (l3 : Int32) (σ : Ms) : FR (W0_nimWith h) σ (F0_nimWith_b34 N h l1 l2 l3 σ) := by
  unfold F0_nimWith_b34
  exact @FR_fx (Int32 × Int32 × Int32 × Ms) (Int32) (W0_nimWith h) (fun k x => F0_nimWith_b34B N h k x.1 x.2.1 x.2.2.1 x.2.2.2) (fun x => x.2.2.2) (fun k hk x => fr_F0_nimWith_b34B h N k hk x.1 x.2.1 x.2.2.1 x.2.2.2) N (l1, l2, l3, σ)
theorem fr_F0_nimWith_b26 (h : Nat) (N : Nat) (k4 : Int32 × Int32 × Int32 × Ms → Option (Int32 × Ms)) (hk4 : ∀ x, FR (W0_nimWith h) x.2.2.2 (k4 x)) (l1 : Int32) (l2 : Int32) (l3 : Int32) (σ : Ms) : FR (W0_nimWith h) σ (F0_nimWith_b26 N h k4 l1 l2 l3 σ) :=
  have hσ := Fr_rfl (W0_nimWith h) σ
  (FR_tr hσ (hk4 (l1, l2, (l3 + (1 : Int32)), σ)))
theorem fr_F0_nimWith_b4B (h : Nat) (N : Nat) (k4 : Int32 × Int32 × Int32 × Ms → Option (Int32 × Ms)) (hk4 : ∀ x, FR (W0_nimWith h) x.2.2.2 (k4 x)) (l1 : Int32) (l2 : Int32) (l3 : Int32) (σ : Ms) : FR (W0_nimWith h) σ (F0_nimWith_b4B N h k4 l1 l2 l3 σ) :=
  have hσ := Fr_rfl (W0_nimWith h) σ
  (FR_if (FR_tr2 (fr_F0_nimWith_b34 h _ _ _ _ _) (Sub_rfl _) hσ) (FR_bn (fr_F0_hasHeap h _ _) (Sub_nil _) hσ fun r12 t13 ht13 => (FR_if (FR_tr2 (fr_F0_nimWith_b26 h _ _ hk4 _ _ _ _) (Sub_rfl _) ht13) (FR_ck fun z47 => (FR_lv fun x14 => (FR_tr2 (fr_F0_nimWith_b26 h _ _ hk4 _ _ _ _) (Sub_rfl _) ht13))))))
theorem fr_F0_nimWith_b4 (h : Nat) (N : Nat) (l1 : Int32) (l2 : Int32) (l3 : Int32) (σ : Ms) : FR (W0_nimWith h) σ (F0_nimWith_b4 N h l1 l2 l3 σ) := by
  unfold F0_nimWith_b4
  exact @FR_fx (Int32 × Int32 × Int32 × Ms) (Int32) (W0_nimWith h) (fun k x => F0_nimWith_b4B N h k x.1 x.2.1 x.2.2.1 x.2.2.2) (fun x => x.2.2.2) (fun k hk x => fr_F0_nimWith_b4B h N k hk x.1 x.2.1 x.2.2.1 x.2.2.2) N (l1, l2, l3, σ)
theorem fr_F0_nimWith (h : Nat) (N : Nat) (p0 : Int32) (σ : Ms) : FR (W0_nimWith h) σ (F0_nimWith N h p0 σ) :=
  have hσ := Fr_rfl (W0_nimWith h) σ
  (FR_tr2 (fr_F0_nimWith_b4 h _ _ _ _ _) (Sub_rfl _) hσ)
theorem fr_F0_branchNim (h : Nat) (N : Nat) (p0 : Int32) (σ : Ms) : FR (W0_branchNim h) σ (F0_branchNim N h p0 σ) :=
  have hσ := Fr_rfl (W0_branchNim h) σ
  (FR_bn (fr_F0_isStanding h _ _) (Sub_nil _) hσ fun r1 t2 ht2 => (FR_if (FR_bn (fr_F0_nimWith h _ _ _) (Sub_of [0] rfl) ht2 fun r3 t4 ht4 => (FR_ck fun z48 => (FR_some ht4))) (FR_some ht2)))
theorem fr_F8_goesOn (σ : Ms) : FR W8_goesOn σ (F8_goesOn σ) :=
  have hσ := Fr_rfl W8_goesOn σ
  (FR_if (FR_some hσ) (FR_if (FR_some hσ) (FR_some hσ)))
theorem fr_FJ0_coder_7d493 (i : Nat) (σ : Ms) : FR (W0_coder_7d493 i) σ (FJ0_coder_7d493 i σ) :=
  have hσ := Fr_rfl (W0_coder_7d493 i) σ
  (FR_if (FR_ck fun z49 => (FR_some hσ)) (FR_ck fun z50 => (FR_some hσ)))
theorem fr_FJ0_length_8abf5 (i : Nat) (σ : Ms) : FR (W0_length_8abf5 i) σ (FJ0_length_8abf5 i σ) :=
  have hσ := Fr_rfl (W0_length_8abf5 i) σ
  (FR_bn (fr_FJ0_coder_7d493 i _) (Sub_nil _) hσ fun r1 t2 ht2 => (FR_some ht2))
theorem fr_F8_charAt (p0 : Int32) (σ : Ms) : FR W8_charAt σ (F8_charAt p0 σ) :=
  have hσ := Fr_rfl W8_charAt σ
  (FR_if (FR_some hσ) (FR_if (FR_some hσ) (FR_if (FR_some hσ) (FR_ck fun z51 => (FR_some hσ)))))
theorem fr_FJ0_isLatin1_aae02 (i : Nat) (σ : Ms) : FR (W0_isLatin1_aae02 i) σ (FJ0_isLatin1_aae02 i σ) :=
  have hσ := Fr_rfl (W0_isLatin1_aae02 i) σ
  (FR_if (FR_some hσ) (FR_if (FR_some hσ) (FR_some hσ)))
theorem fr_FJ3_checkIndex_8e157 (p0 : Int32) (p1 : Int32) (σ : Ms) : FR W3_checkIndex_8e157 σ (FJ3_checkIndex_8e157 p0 p1 σ) :=
  have hσ := Fr_rfl W3_checkIndex_8e157 σ
  (FR_if FR_none (FR_if (FR_some hσ) FR_none))
theorem fr_FJ0_checkIndex_df160 (p0 : Int32) (p1 : Int32) (σ : Ms) : FR W0_checkIndex_df160 σ (FJ0_checkIndex_df160 p0 p1 σ) :=
  have hσ := Fr_rfl W0_checkIndex_df160 σ
  (FR_bn (fr_FJ3_checkIndex_8e157 _ _ _) (Sub_nil _) hσ fun r1 t2 ht2 => (FR_some ht2))
theorem fr_FJ1_charAt_3b067 (i : Nat) (p1 : Int32) (σ : Ms) : FR (W1_charAt_3b067 i) σ (FJ1_charAt_3b067 i p1 σ) :=
  have hσ := Fr_rfl (W1_charAt_3b067 i) σ
  (FR_bn (fr_FJ0_checkIndex_df160 _ _ _) (Sub_nil _) hσ fun r1 t2 ht2 => (FR_ck fun z52 => (FR_ck fun z53 => (FR_some ht2))))
theorem fr_FJ0_charAt_5068e (i : Nat) (p0 : Int32) (σ : Ms) : FR (W0_charAt_5068e i) σ (FJ0_charAt_5068e i p0 σ) :=
  have hσ := Fr_rfl (W0_charAt_5068e i) σ
  (FR_bn (fr_FJ0_isLatin1_aae02 i _) (Sub_nil _) hσ fun r1 t2 ht2 => (FR_if FR_none (FR_bn (fr_FJ1_charAt_3b067 i _ _) (Sub_nil _) ht2 fun r3 t4 ht4 => (FR_ck fun z54 => (FR_some ht4)))))
theorem fr_F8_isWord_b28B (i : Nat) (N : Nat) (k28 : Int32 × Ms → Option (Int32 × Ms)) (hk28 : ∀ x, FR (W8_isWord i) x.2 (k28 x)) (l2 : Int32) (σ : Ms) : FR (W8_isWord i) σ (F8_isWord_b28B N i k28 l2 σ) :=
  have hσ := Fr_rfl (W8_isWord i) σ
  (FR_bn (fr_FJ0_length_8abf5 i _) (Sub_nil _) hσ fun r1 t2 ht2 => (FR_if (FR_some ht2) (FR_bn (fr_F8_charAt _ _) (Sub_nil _) ht2 fun r3 t4 ht4 => (FR_bn (fr_FJ0_charAt_5068e i _ _) (Sub_nil _) ht4 fun r5 t6 ht6 => (FR_if (FR_tr ht6 (hk28 ((l2 + (1 : Int32)), t6))) (FR_some ht6))))))
theorem fr_F8_isWord_b28 (i : Nat) (N : Nat) (l2 : Int32) (σ : Ms) : FR (W8_isWord i) σ (F8_isWord_b28 N i l2 σ) := by
  unfold F8_isWord_b28
  exact @FR_fx (Int32 × Ms) (Int32) (W8_isWord i) (fun k x => F8_isWord_b28B N i k x.1 x.2) (fun x => x.2) (fun k hk x => fr_F8_isWord_b28B i N k hk x.1 x.2) N (l2, σ)
theorem fr_F8_isWord (i : Nat) (N : Nat) (σ : Ms) : FR (W8_isWord i) σ (F8_isWord N i σ) :=
  have hσ := Fr_rfl (W8_isWord i) σ
  (FR_if (FR_some hσ) (FR_bn (fr_FJ0_length_8abf5 i _) (Sub_nil _) hσ fun r7 t8 ht8 => (FR_if (FR_tr2 (fr_F8_isWord_b28 i _ _ _) (Sub_rfl _) ht8) (FR_some ht8))))
theorem fr_F8_refuse_b22 (s1 : Int32) (σ : Ms) : FR W8_refuse σ (F8_refuse_b22 s1 σ) :=
  have hσ := Fr_rfl W8_refuse σ
  (FR_st (fun t1 ht1 => (FR_st (fun t2 ht2 => (FR_some ht2)) (Fr_sI ht1 (In_o 1 rfl)))) (Fr_sI hσ (In_o 0 rfl)))
theorem fr_F8_refuse (p0 : Int32) (σ : Ms) : FR W8_refuse σ (F8_refuse p0 σ) :=
  have hσ := Fr_rfl W8_refuse σ
  (FR_if (FR_if (FR_tr2 (fr_F8_refuse_b22 _ _) (Sub_rfl _) hσ) (FR_tr2 (fr_F8_refuse_b22 _ _) (Sub_rfl _) hσ)) (FR_some hσ))
theorem fr_F8_isBlank_b12 (σ : Ms) : FR W8_isBlank σ (F8_isBlank_b12 σ) :=
  have hσ := Fr_rfl W8_isBlank σ
  (FR_some hσ)
theorem fr_F8_isBlank (p0 : Int32) (σ : Ms) : FR W8_isBlank σ (F8_isBlank p0 σ) :=
  have hσ := Fr_rfl W8_isBlank σ
  (FR_if (FR_tr2 (fr_F8_isBlank_b12 _) (Sub_rfl _) hσ) (FR_if (FR_some hσ) (FR_tr2 (fr_F8_isBlank_b12 _) (Sub_rfl _) hσ)))
theorem fr_F8_isLetter (p0 : Int32) (σ : Ms) : FR W8_isLetter σ (F8_isLetter p0 σ) :=
  have hσ := Fr_rfl W8_isLetter σ
  (FR_if (FR_some hσ) (FR_if (FR_some hσ) (FR_some hσ)))
theorem fr_F8_isDigit (p0 : Int32) (σ : Ms) : FR W8_isDigit σ (F8_isDigit p0 σ) :=
  have hσ := Fr_rfl W8_isDigit σ
  (FR_if (FR_some hσ) (FR_if (FR_some hσ) (FR_some hσ)))
theorem fr_F8_readNumber_b79 (N : Nat) (σ : Ms) : FR W8_readNumber σ (F8_readNumber_b79 N σ) :=
  have hσ := Fr_rfl W8_readNumber σ
  (FR_if (FR_st (fun t1 ht1 => (FR_some ht1)) (Fr_sI hσ (In_o 0 rfl))) (FR_st (fun t2 ht2 => (FR_some ht2)) (Fr_sI hσ (In_o 0 rfl))))
theorem fr_F8_readNumber_b66 (N : Nat) (k5 : Ms → Option (Unit × Ms)) (hk5 : ∀ x, FR W8_readNumber x (k5 x)) (σ : Ms) : FR W8_readNumber σ (F8_readNumber_b66 N k5 σ) :=
  have hσ := Fr_rfl W8_readNumber σ
  (FR_st (fun t3 ht3 => (FR_tr ht3 (hk5 t3))) (Fr_sI hσ (In_o 1 rfl)))
theorem fr_F8_readNumber_b5B (N : Nat) (k5 : Ms → Option (Unit × Ms)) (hk5 : ∀ x, FR W8_readNumber x (k5 x)) (σ : Ms) : FR W8_readNumber σ (F8_readNumber_b5B N k5 σ) :=
  have hσ := Fr_rfl W8_readNumber σ
  (FR_if (FR_tr2 (fr_F8_readNumber_b79 _ _) (Sub_rfl _) hσ) (FR_bn (fr_F8_charAt _ _) (Sub_nil _) hσ fun r4 t5 ht5 => (FR_bn (fr_F8_isDigit _ _) (Sub_nil _) ht5 fun r6 t7 ht7 => (FR_if (FR_tr2 (fr_F8_readNumber_b79 _ _) (Sub_rfl _) ht7) (FR_if (FR_tr2 (fr_F8_readNumber_b66 _ _ hk5 _) (Sub_rfl _) ht7) (FR_bn (fr_F8_charAt _ _) (Sub_nil _) ht7 fun r8 t9 ht9 => (FR_st (fun t10 ht10 => (FR_tr2 (fr_F8_readNumber_b66 _ _ hk5 _) (Sub_rfl _) ht10)) (Fr_sI ht9 (In_o 2 rfl)))))))))
theorem fr_F8_readNumber_b5 (N : Nat) (σ : Ms) : FR W8_readNumber σ (F8_readNumber_b5 N σ) := by
  unfold F8_readNumber_b5
  exact @FR_fx (Ms) (Unit) W8_readNumber (fun k x => F8_readNumber_b5B N k x) (fun x => x) (fun k hk x => fr_F8_readNumber_b5B N k hk x) N σ
theorem fr_F8_readNumber (N : Nat) (σ : Ms) : FR W8_readNumber σ (F8_readNumber N σ) :=
  have hσ := Fr_rfl W8_readNumber σ
  (FR_st (fun t11 ht11 => (FR_tr2 (fr_F8_readNumber_b5 _ _) (Sub_rfl _) ht11)) (Fr_sI hσ (In_o 2 rfl)))
theorem fr_F8_isSign_b24 (σ : Ms) : FR W8_isSign σ (F8_isSign_b24 σ) :=
  have hσ := Fr_rfl W8_isSign σ
  (FR_some hσ)
theorem fr_F8_isSign (p0 : Int32) (σ : Ms) : FR W8_isSign σ (F8_isSign p0 σ) :=
  have hσ := Fr_rfl W8_isSign σ
  (FR_if (FR_tr2 (fr_F8_isSign_b24 _) (Sub_rfl _) hσ) (FR_if (FR_tr2 (fr_F8_isSign_b24 _) (Sub_rfl _) hσ) (FR_if (FR_tr2 (fr_F8_isSign_b24 _) (Sub_rfl _) hσ) (FR_if (FR_some hσ) (FR_tr2 (fr_F8_isSign_b24 _) (Sub_rfl _) hσ)))))
theorem fr_F8_step_b167 (N : Nat) (s1 : Int32) (σ : Ms) : FR W8_step σ (F8_step_b167 N s1 σ) :=
  have hσ := Fr_rfl W8_step σ
  (FR_st (fun t1 ht1 => (FR_st (fun t2 ht2 => (FR_some ht2)) (Fr_sI ht1 (In_o 1 rfl)))) (Fr_sI hσ (In_o 0 rfl)))
theorem fr_F8_step_b102B (N : Nat) (k102 : Ms → Option (Unit × Ms)) (hk102 : ∀ x, FR W8_step x (k102 x)) (σ : Ms) : FR W8_step σ (F8_step_b102B N k102 σ) :=
  have hσ := Fr_rfl W8_step σ
  (FR_if (FR_some hσ) (FR_bn (fr_F8_charAt _ _) (Sub_nil _) hσ fun r3 t4 ht4 => (FR_bn (fr_F8_isLetter _ _) (Sub_nil _) ht4 fun r5 t6 ht6 => (FR_if (FR_some ht6) (FR_st (fun t7 ht7 => (FR_tr ht7 (hk102 t7))) (Fr_sI ht6 (In_o 1 rfl)))))))
theorem fr_F8_step_b102 (N : Nat) (σ : Ms) : FR W8_step σ (F8_step_b102 N σ) := by
  unfold F8_step_b102
  exact @FR_fx (Ms) (Unit) W8_step (fun k x => F8_step_b102B N k x) (fun x => x) (fun k hk x => fr_F8_step_b102B N k hk x) N σ
theorem fr_F8_step_b54 (N : Nat) (σ : Ms) : FR W8_step σ (F8_step_b54 N σ) :=
  have hσ := Fr_rfl W8_step σ
  (FR_st (fun t8 ht8 => (FR_bn (fr_F8_charAt _ _) (Sub_nil _) ht8 fun r9 t10 ht10 => (FR_if (FR_bn (fr_F8_isLetter _ _) (Sub_nil _) ht10 fun r11 t12 ht12 => (FR_if (FR_bn (fr_F8_isDigit _ _) (Sub_nil _) ht12 fun r13 t14 ht14 => (FR_if (FR_bn (fr_F8_isSign _ _) (Sub_nil _) ht14 fun r15 t16 ht16 => (FR_if (FR_tr2 (fr_F8_step_b167 _ _ _) (Sub_rfl _) ht16) (FR_tr2 (fr_F8_step_b167 _ _ _) (Sub_rfl _) ht16))) (FR_bn (fr_F8_readNumber _ _) (Sub_of [0, 1, 3] rfl) ht14 fun r17 t18 ht18 => (FR_some ht18)))) (FR_st (fun t19 ht19 => (FR_tr2 (fr_F8_step_b102 _ _) (Sub_rfl _) ht19)) (Fr_sI ht12 (In_o 0 rfl))))) (FR_st (fun t20 ht20 => (FR_some ht20)) (Fr_sI ht10 (In_o 0 rfl)))))) (Fr_sI hσ (In_o 1 rfl)))
theorem fr_F8_step_b16B (N : Nat) (k16 : Ms → Option (Unit × Ms)) (hk16 : ∀ x, FR W8_step x (k16 x)) (σ : Ms) : FR W8_step σ (F8_step_b16B N k16 σ) :=
  have hσ := Fr_rfl W8_step σ
  (FR_if (FR_tr2 (fr_F8_step_b54 _ _) (Sub_rfl _) hσ) (FR_bn (fr_F8_charAt _ _) (Sub_nil _) hσ fun r21 t22 ht22 => (FR_bn (fr_F8_isBlank _ _) (Sub_nil _) ht22 fun r23 t24 ht24 => (FR_if (FR_tr2 (fr_F8_step_b54 _ _) (Sub_rfl _) ht24) (FR_st (fun t25 ht25 => (FR_tr ht25 (hk16 t25))) (Fr_sI ht24 (In_o 2 rfl)))))))
theorem fr_F8_step_b16 (N : Nat) (σ : Ms) : FR W8_step σ (F8_step_b16 N σ) := by
  unfold F8_step_b16
  exact @FR_fx (Ms) (Unit) W8_step (fun k x => F8_step_b16B N k x) (fun x => x) (fun k hk x => fr_F8_step_b16B N k hk x) N σ
