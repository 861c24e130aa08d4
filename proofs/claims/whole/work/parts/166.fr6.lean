theorem fr_F12_readColour_b15 (N : Nat) (s0 : Int32) (σ : Ms) : FR W12_readColour σ (F12_readColour_b15 N s0 σ) :=
  have hσ := Fr_rfl W12_readColour σ
  (FR_if (FR_tr2 (fr_F12_readColour_b26 _ _ _ _) (Sub_rfl _) hσ) (FR_tr2 (fr_F12_readColour_b26 _ _ _ _) (Sub_rfl _) hσ))
theorem fr_F12_readColour (N : Nat) (σ : Ms) : FR W12_readColour σ (F12_readColour N σ) :=
  have hσ := Fr_rfl W12_readColour σ
  (FR_if (FR_bn (fr_F12_colourWord _) (Sub_nil _) hσ fun r5 t6 ht6 => (FR_tr2 (fr_F12_readColour_b15 _ _ _) (Sub_rfl _) ht6)) (FR_tr2 (fr_F12_readColour_b15 _ _ _) (Sub_rfl _) hσ))
theorem fr_F12_readSide_b26 (N : Nat) (l1 : Int32) (s1 : Int32) (σ : Ms) : FR W12_readSide σ (F12_readSide_b26 N l1 s1 σ) :=
  have hσ := Fr_rfl W12_readSide σ
  (FR_bn (fr_F12_must _ _ _) (Sub_of [0, 1, 2, 3, 4, 5, 6] rfl) hσ fun r1 t2 ht2 => (FR_bn (fr_FJ9_max_7cf53 _ _ _) (Sub_nil _) ht2 fun r3 t4 ht4 => (FR_some ht4)))
theorem fr_F12_readSide_b15 (N : Nat) (s0 : Int32) (σ : Ms) : FR W12_readSide σ (F12_readSide_b15 N s0 σ) :=
  have hσ := Fr_rfl W12_readSide σ
  (FR_if (FR_tr2 (fr_F12_readSide_b26 _ _ _ _) (Sub_rfl _) hσ) (FR_tr2 (fr_F12_readSide_b26 _ _ _ _) (Sub_rfl _) hσ))
theorem fr_F12_readSide (N : Nat) (σ : Ms) : FR W12_readSide σ (F12_readSide N σ) :=
  have hσ := Fr_rfl W12_readSide σ
  (FR_if (FR_bn (fr_F12_sideWord _) (Sub_nil _) hσ fun r5 t6 ht6 => (FR_tr2 (fr_F12_readSide_b15 _ _ _) (Sub_rfl _) ht6)) (FR_tr2 (fr_F12_readSide_b15 _ _ _) (Sub_rfl _) hσ))
theorem fr_F12_lay_b2B (N : Nat) (k2 : Int32 × Int32 × Ms → Option (Unit × Ms)) (hk2 : ∀ x, FR W12_lay x.2.2 (k2 x)) (l1 : Int32) (l2 : Int32) (σ : Ms) : FR W12_lay σ (F12_lay_b2B N k2 l1 l2 σ) :=
  have hσ := Fr_rfl W12_lay σ
  (FR_if (FR_some hσ) (FR_ck fun z239 => (FR_st (fun t1 ht1 => (FR_st (fun t2 ht2 => (FR_tr ht2 (hk2 (l1, (l2 + (-1 : Int32)), t2)))) (Fr_sI ht1 (In_o 1 rfl)))) (Fr_sI hσ (In_a 0 rfl)))))
theorem fr_F12_lay_b2 (N : Nat) (l1 : Int32) (l2 : Int32) (σ : Ms) : FR W12_lay σ (F12_lay_b2 N l1 l2 σ) := by
  unfold F12_lay_b2
  exact @FR_fx (Int32 × Int32 × Ms) (Unit) W12_lay (fun k x => F12_lay_b2B N k x.1 x.2.1 x.2.2) (fun x => x.2.2) (fun k hk x => fr_F12_lay_b2B N k hk x.1 x.2.1 x.2.2) N (l1, l2, σ)
theorem fr_F12_lay (N : Nat) (p0 : Int32) (σ : Ms) : FR W12_lay σ (F12_lay N p0 σ) :=
  have hσ := Fr_rfl W12_lay σ
  (FR_tr2 (fr_F12_lay_b2 _ _ _ _) (Sub_rfl _) hσ)
theorem fr_F12_feed (N : Nat) (p0 : Int32) (p1 : Int32) (p2 : Int32) (p3 : Int32) (p4 : Int32) (σ : Ms) : FR W12_feed σ (F12_feed N p0 p1 p2 p3 p4 σ) :=
  have hσ := Fr_rfl W12_feed σ
  (FR_st (fun t1 ht1 => (FR_if (FR_bn (fr_F12_lay _ _ _) (Sub_of [1, 2] rfl) ht1 fun r2 t3 ht3 => (FR_bn (fr_F12_lay _ _ _) (Sub_of [1, 2] rfl) ht3 fun r4 t5 ht5 => (FR_bn (fr_F12_lay _ _ _) (Sub_of [1, 2] rfl) ht5 fun r6 t7 ht7 => (FR_bn (fr_F12_lay _ _ _) (Sub_of [1, 2] rfl) ht7 fun r8 t9 ht9 => (FR_bn (fr_F12_lay _ _ _) (Sub_of [1, 2] rfl) ht9 fun r10 t11 ht11 => (FR_some ht11)))))) (FR_some ht1))) (Fr_sI hσ (In_o 0 rfl)))
theorem fr_F12_starts_b17 (N : Nat) (σ : Ms) : FR W12_starts σ (F12_starts_b17 N σ) :=
  have hσ := Fr_rfl W12_starts σ
  (FR_bn (fr_F12_no _ _) (Sub_of [4] rfl) hσ fun r1 t2 ht2 => (FR_ck fun z240 => (FR_some ht2)))
theorem fr_F12_starts (N : Nat) (p0 : Int32) (p1 : Int32) (σ : Ms) : FR W12_starts σ (F12_starts N p0 p1 σ) :=
  have hσ := Fr_rfl W12_starts σ
  (FR_if (FR_tr2 (fr_F12_starts_b17 _ _) (Sub_rfl _) hσ) (FR_if (FR_tr2 (fr_F12_starts_b17 _ _) (Sub_rfl _) hσ) (FR_if (FR_st (fun t3 ht3 => (FR_st (fun t4 ht4 => (FR_st (fun t5 ht5 => (FR_st (fun t6 ht6 => (FR_bn (fr_F12_advance _ _) (Sub_of [5, 2, 6, 7, 8] rfl) ht6 fun r7 t8 ht8 => (FR_some ht8))) (Fr_sI ht5 (In_o 3 rfl)))) (Fr_sI ht4 (In_o 2 rfl)))) (Fr_sI ht3 (In_o 1 rfl)))) (Fr_sI hσ (In_o 0 rfl))) (FR_tr2 (fr_F12_starts_b17 _ _) (Sub_rfl _) hσ))))
theorem fr_F12_isWell_b43 (σ : Ms) : FR W12_isWell σ (F12_isWell_b43 σ) :=
  have hσ := Fr_rfl W12_isWell σ
  (FR_some hσ)
theorem fr_F12_isWell_b24 (s1 : Int32) (σ : Ms) : FR W12_isWell σ (F12_isWell_b24 s1 σ) :=
  have hσ := Fr_rfl W12_isWell σ
  (FR_st (fun t1 ht1 => (FR_if (FR_tr2 (fr_F12_isWell_b43 _) (Sub_rfl _) ht1) (FR_bn (fr_F12_no _ _) (Sub_of [2] rfl) ht1 fun r2 t3 ht3 => (FR_if (FR_some ht3) (FR_tr2 (fr_F12_isWell_b43 _) (Sub_rfl _) ht3))))) (Fr_sI hσ (In_o 0 rfl)))
theorem fr_F12_isWell (σ : Ms) : FR W12_isWell σ (F12_isWell σ) :=
  have hσ := Fr_rfl W12_isWell σ
  (FR_st (fun t4 ht4 => (FR_if (FR_tr2 (fr_F12_isWell_b24 _ _) (Sub_rfl _) ht4) (FR_tr2 (fr_F12_isWell_b24 _ _) (Sub_rfl _) ht4))) (Fr_sI hσ (In_o 1 rfl)))
theorem fr_F12_fault (p0 : Int32) (σ : Ms) : FR W12_fault σ (F12_fault p0 σ) :=
  have hσ := Fr_rfl W12_fault σ
  (FR_st (fun t1 ht1 => (FR_if (FR_if (FR_some ht1) (FR_some ht1)) (FR_some ht1))) (Fr_sI hσ (In_o 0 rfl)))
theorem fr_F12_grows (p0 : Int32) (p1 : Int32) (p2 : Int32) (σ : Ms) : FR W12_grows σ (F12_grows p0 p1 p2 σ) :=
  have hσ := Fr_rfl W12_grows σ
  (FR_lv fun x1 => (FR_ck fun z241 => (FR_lv fun x2 => (FR_ck fun z242 => (FR_st (fun t3 ht3 => (FR_ck fun z243 => (FR_st (fun t4 ht4 => (FR_ck fun z244 => (FR_st (fun t5 ht5 => (FR_ck fun z245 => (FR_ck fun z246 => (FR_st (fun t6 ht6 => (FR_some ht6)) (Fr_sI ht5 (In_a 0 rfl)))))) (Fr_sI ht4 (In_a 0 rfl))))) (Fr_sI ht3 (In_a 0 rfl))))) (Fr_sI hσ (In_a 0 rfl)))))))
theorem fr_F12_mayGrow_b40 (σ : Ms) : FR W12_mayGrow σ (F12_mayGrow_b40 σ) :=
  have hσ := Fr_rfl W12_mayGrow σ
  (FR_some hσ)
theorem fr_F12_mayGrow_b37 (s0 : Int32) (s1 : Int32) (σ : Ms) : FR W12_mayGrow σ (F12_mayGrow_b37 s0 s1 σ) :=
  have hσ := Fr_rfl W12_mayGrow σ
  (FR_if (FR_some hσ) (FR_tr2 (fr_F12_mayGrow_b40 _) (Sub_rfl _) hσ))
theorem fr_F12_mayGrow_b14 (l1 : Int32) (l3 : Int32) (s0 : Int32) (σ : Ms) : FR W12_mayGrow σ (F12_mayGrow_b14 l1 l3 s0 σ) :=
  have hσ := Fr_rfl W12_mayGrow σ
  (FR_ck fun z247 => (FR_if (FR_tr2 (fr_F12_mayGrow_b37 _ _ _) (Sub_rfl _) hσ) (FR_tr2 (fr_F12_mayGrow_b37 _ _ _) (Sub_rfl _) hσ)))
theorem fr_F12_mayGrow (p0 : Int32) (p1 : Int32) (p2 : Int32) (σ : Ms) : FR W12_mayGrow σ (F12_mayGrow p0 p1 p2 σ) :=
  have hσ := Fr_rfl W12_mayGrow σ
  (FR_if (FR_tr2 (fr_F12_mayGrow_b40 _) (Sub_rfl _) hσ) (FR_if (FR_tr2 (fr_F12_mayGrow_b14 _ _ _ _) (Sub_rfl _) hσ) (FR_tr2 (fr_F12_mayGrow_b14 _ _ _ _) (Sub_rfl _) hσ)))
theorem fr_F12_another_b24 (N : Nat) (σ : Ms) : FR W12_another σ (F12_another_b24 N σ) :=
  have hσ := Fr_rfl W12_another σ
  (FR_bn (fr_F12_must _ _ _) (Sub_of [0, 1, 2, 3, 4, 5, 6] rfl) hσ fun r1 t2 ht2 => (FR_some ht2))
theorem fr_F12_another (N : Nat) (p0 : Int32) (p1 : Int32) (σ : Ms) : FR W12_another σ (F12_another N p0 p1 σ) :=
  have hσ := Fr_rfl W12_another σ
  (FR_ck fun z248 => (FR_if (FR_tr2 (fr_F12_another_b24 _ _) (Sub_rfl _) hσ) (FR_bn (fr_F12_fail _ _ _) (Sub_of [0, 1] rfl) hσ fun r3 t4 ht4 => (FR_tr2 (fr_F12_another_b24 _ _) (Sub_rfl _) ht4))))
theorem fr_F12_readSprig_b85 (N : Nat) (l1 : Int32) (l2 : Int32) (σ : Ms) : FR W12_readSprig σ (F12_readSprig_b85 N l1 l2 σ) :=
  have hσ := Fr_rfl W12_readSprig σ
  (FR_if (FR_some hσ) (FR_bn (fr_F12_grows _ _ _ _) (Sub_of [0] rfl) hσ fun r1 t2 ht2 => (FR_some ht2)))
theorem fr_F12_readSprig_b69 (N : Nat) (l1 : Int32) (σ : Ms) : FR W12_readSprig σ (F12_readSprig_b69 N l1 σ) :=
  have hσ := Fr_rfl W12_readSprig σ
  (FR_ck fun z249 => (FR_bn (fr_F12_count _ _ _ _) (Sub_of [1, 2, 3, 4, 5, 6, 7] rfl) hσ fun r3 t4 ht4 => (FR_tr2 (fr_F12_readSprig_b85 _ _ _ _) (Sub_rfl _) ht4)))
theorem fr_F12_readSprig (N : Nat) (σ : Ms) : FR W12_readSprig σ (F12_readSprig N σ) :=
  have hσ := Fr_rfl W12_readSprig σ
  (FR_bn (fr_F12_another _ _ _ _) (Sub_of [1, 2, 3, 4, 5, 6, 7] rfl) hσ fun r5 t6 ht6 => (FR_bn (fr_F12_readColour _ _) (Sub_of [1, 2, 3, 4, 5, 6, 7] rfl) ht6 fun r7 t8 ht8 => (FR_bn (fr_F12_isOn _) (Sub_nil _) ht8 fun r9 t10 ht10 => (FR_bn (fr_F12_perhaps _ _ _) (Sub_of [3, 4, 5, 6, 7] rfl) ht10 fun r11 t12 ht12 => (FR_if (FR_tr2 (fr_F12_readSprig_b85 _ _ _ _) (Sub_rfl _) ht12) (FR_ck fun z250 => (FR_bn (fr_F12_mayBe _ _ _) (Sub_of [1, 2] rfl) ht12 fun r13 t14 ht14 => (FR_if (FR_tr2 (fr_F12_readSprig_b69 _ _ _) (Sub_rfl _) ht14) (FR_bn (fr_F12_mayGrow _ _ _ _) (Sub_nil _) ht14 fun r15 t16 ht16 => (FR_if (FR_tr2 (fr_F12_readSprig_b69 _ _ _) (Sub_rfl _) ht16) (FR_bn (fr_F12_fail _ _ _) (Sub_of [1, 2] rfl) ht16 fun r17 t18 ht18 => (FR_tr2 (fr_F12_readSprig_b69 _ _ _) (Sub_rfl _) ht18))))))))))))
theorem fr_F12_readHeap (N : Nat) (σ : Ms) : FR W12_readHeap σ (F12_readHeap N σ) :=
  have hσ := Fr_rfl W12_readHeap σ
  (FR_bn (fr_F12_another _ _ _ _) (Sub_of [1, 2, 3, 4, 5, 6, 7] rfl) hσ fun r1 t2 ht2 => (FR_bn (fr_F12_count _ _ _ _) (Sub_of [1, 2, 3, 4, 5, 6, 7] rfl) ht2 fun r3 t4 ht4 => (FR_if (FR_ck fun z251 => (FR_ck fun z252 => (FR_st (fun t5 ht5 => (FR_ck fun z253 => (FR_ck fun z254 => (FR_st (fun t6 ht6 => (FR_some ht6)) (Fr_sI ht5 (In_a 0 rfl)))))) (Fr_sI ht4 (In_a 0 rfl))))) (FR_some ht4))))
theorem fr_F12_offers (p0 : Int32) (p1 : Int32) (p2 : Int32) (σ : Ms) : FR W12_offers σ (F12_offers p0 p1 p2 σ) :=
  have hσ := Fr_rfl W12_offers σ
  (FR_lv fun x1 => (FR_ck fun z255 => (FR_lv fun x2 => (FR_ck fun z256 => (FR_st (fun t3 ht3 => (FR_ck fun z257 => (FR_st (fun t4 ht4 => (FR_ck fun z258 => (FR_st (fun t5 ht5 => (FR_ck fun z259 => (FR_ck fun z260 => (FR_st (fun t6 ht6 => (FR_some ht6)) (Fr_sI ht5 (In_a 0 rfl)))))) (Fr_sI ht4 (In_a 0 rfl))))) (Fr_sI ht3 (In_a 0 rfl))))) (Fr_sI hσ (In_a 0 rfl)))))))
theorem fr_F12_readBet_b24 (N : Nat) (l1 : Int32) (s1 : Int32) (σ : Ms) : FR W12_readBet σ (F12_readBet_b24 N l1 s1 σ) :=
  have hσ := Fr_rfl W12_readBet σ
  (FR_bn (fr_F12_count _ _ _ _) (Sub_of [0, 1, 2, 3, 4, 5, 6] rfl) hσ fun r1 t2 ht2 => (FR_if (FR_some ht2) (FR_bn (fr_F12_offers _ _ _ _) (Sub_of [7] rfl) ht2 fun r3 t4 ht4 => (FR_some ht4))))
theorem fr_F12_readBet (N : Nat) (σ : Ms) : FR W12_readBet σ (F12_readBet N σ) :=
  have hσ := Fr_rfl W12_readBet σ
  (FR_bn (fr_F12_another _ _ _ _) (Sub_of [0, 1, 2, 3, 4, 5, 6] rfl) hσ fun r5 t6 ht6 => (FR_bn (fr_F12_count _ _ _ _) (Sub_of [0, 1, 2, 3, 4, 5, 6] rfl) ht6 fun r7 t8 ht8 => (FR_if (FR_tr2 (fr_F12_readBet_b24 _ _ _ _) (Sub_rfl _) ht8) (FR_tr2 (fr_F12_readBet_b24 _ _ _ _) (Sub_rfl _) ht8))))
theorem fr_F12_readPart (N : Nat) (σ : Ms) : FR W12_readPart σ (F12_readPart N σ) :=
  have hσ := Fr_rfl W12_readPart σ
  (FR_bn (fr_F12_isSprig _) (Sub_nil _) hσ fun r1 t2 ht2 => (FR_if (FR_bn (fr_F12_isHeap _) (Sub_nil _) ht2 fun r3 t4 ht4 => (FR_if (FR_bn (fr_F12_isBet _) (Sub_nil _) ht4 fun r5 t6 ht6 => (FR_if (FR_bn (fr_F12_amiss _) (Sub_of [0, 1] rfl) ht6 fun r7 t8 ht8 => (FR_some ht8)) (FR_bn (fr_F12_readBet _ _) (Sub_of [0, 1, 2, 3, 4, 5, 6, 7] rfl) ht6 fun r9 t10 ht10 => (FR_some ht10)))) (FR_bn (fr_F12_readHeap _ _) (Sub_of [7, 0, 1, 2, 3, 4, 5, 6] rfl) ht4 fun r11 t12 ht12 => (FR_some ht12)))) (FR_bn (fr_F12_readSprig _ _) (Sub_of [7, 0, 1, 2, 3, 4, 5, 6] rfl) ht2 fun r13 t14 ht14 => (FR_some ht14))))
theorem fr_F12_copy_b2B (N : Nat) (k2 : Int32 × Int32 × Int32 × Ms → Option (Unit × Ms)) (hk2 : ∀ x, FR W12_copy x.2.2.2 (k2 x)) (l1 : Int32) (l2 : Int32) (l3 : Int32) (σ : Ms) : FR W12_copy σ (F12_copy_b2B N k2 l1 l2 l3 σ) :=
  have hσ := Fr_rfl W12_copy σ
  (FR_if (FR_some hσ) (FR_ck fun z261 => (FR_ck fun z262 => (FR_st (fun t1 ht1 => (FR_tr ht1 (hk2 (l1, l2, (l3 + (1 : Int32)), t1)))) (Fr_sI hσ (In_a 0 rfl))))))
theorem fr_F12_copy_b2 (N : Nat) (l1 : Int32) (l2 : Int32) (l3 : Int32) (σ : Ms) : FR W12_copy σ (F12_copy_b2 N l1 l2 l3 σ) := by
  unfold F12_copy_b2
  exact @FR_fx (Int32 × Int32 × Int32 × Ms) (Unit) W12_copy (fun k x => F12_copy_b2B N k x.1 x.2.1 x.2.2.1 x.2.2.2) (fun x => x.2.2.2) (fun k hk x => fr_F12_copy_b2B N k hk x.1 x.2.1 x.2.2.1 x.2.2.2) N (l1, l2, l3, σ)
theorem fr_F12_copy (N : Nat) (p0 : Int32) (p1 : Int32) (σ : Ms) : FR W12_copy σ (F12_copy N p0 p1 σ) :=
  have hσ := Fr_rfl W12_copy σ
  (FR_tr2 (fr_F12_copy_b2 _ _ _ _ _) (Sub_rfl _) hσ)
theorem fr_F12_hedge_b80 (N : Nat) (σ : Ms) : FR W12_hedge σ (F12_hedge_b80 N σ) :=
  have hσ := Fr_rfl W12_hedge σ
  (FR_bn (fr_F12_isWell _) (Sub_of [3, 4, 2] rfl) hσ fun r1 t2 ht2 => (FR_if (FR_bn (fr_F12_copy _ _ _ _) (Sub_of [0] rfl) ht2 fun r3 t4 ht4 => (FR_ck fun z263 => (FR_some ht4))) (FR_some ht2)))
theorem fr_F12_hedge_b49B (N : Nat) (k49 : Ms → Option (Int32 × Ms)) (hk49 : ∀ x, FR W12_hedge x (k49 x)) (σ : Ms) : FR W12_hedge σ (F12_hedge_b49B N k49 σ) :=
  have hσ := Fr_rfl W12_hedge σ
  (FR_if (FR_tr2 (fr_F12_hedge_b80 _ _) (Sub_rfl _) hσ) (FR_if (FR_tr2 (fr_F12_hedge_b80 _ _) (Sub_rfl _) hσ) (FR_bn (fr_F12_readPart _ _) (Sub_of [5, 6, 7, 8, 9, 10, 11, 0] rfl) hσ fun r5 t6 ht6 => (FR_bn (fr_F12_isSign _ _) (Sub_nil _) ht6 fun r7 t8 ht8 => (FR_bn (fr_F12_must _ _ _) (Sub_of [5, 6, 7, 8, 9, 10, 11] rfl) ht8 fun r9 t10 ht10 => (FR_tr ht10 (hk49 t10)))))))
theorem fr_F12_hedge_b49 (N : Nat) (σ : Ms) : FR W12_hedge σ (F12_hedge_b49 N σ) := by
  unfold F12_hedge_b49
  exact @FR_fx (Ms) (Int32) W12_hedge (fun k x => F12_hedge_b49B N k x) (fun x => x) (fun k hk x => fr_F12_hedge_b49B N k hk x) N σ
theorem fr_F12_hedge_b25B (N : Nat) (k25 : Int32 × Ms → Option (Int32 × Ms)) (hk25 : ∀ x, FR W12_hedge x.2 (k25 x)) (l2 : Int32) (σ : Ms) : FR W12_hedge σ (F12_hedge_b25B N k25 l2 σ) :=
  have hσ := Fr_rfl W12_hedge σ
  (FR_if (FR_tr2 (fr_F12_hedge_b49 _ _) (Sub_rfl _) hσ) (FR_ck fun z264 => (FR_st (fun t11 ht11 => (FR_tr ht11 (hk25 ((l2 + (1 : Int32)), t11)))) (Fr_sI hσ (In_a 0 rfl)))))
theorem fr_F12_hedge_b25 (N : Nat) (l2 : Int32) (σ : Ms) : FR W12_hedge σ (F12_hedge_b25 N l2 σ) := by
  unfold F12_hedge_b25
  exact @FR_fx (Int32 × Ms) (Int32) W12_hedge (fun k x => F12_hedge_b25B N k x.1 x.2) (fun x => x.2) (fun k hk x => fr_F12_hedge_b25B N k hk x.1 x.2) N (l2, σ)
theorem fr_F12_hedge (N : Nat) (p0 : Int32) (σ : Ms) : FR W12_hedge σ (F12_hedge N p0 σ) :=
  have hσ := Fr_rfl W12_hedge σ
  (FR_st (fun t12 ht12 => (FR_st (fun t13 ht13 => (FR_bn (fr_F12_starts _ _ _ _) (Sub_of [12, 13, 8, 5, 2, 7, 9, 10, 11] rfl) ht13 fun r14 t15 ht15 => (FR_if (FR_tr2 (fr_F12_hedge_b25 _ _ _) (Sub_rfl _) ht15) (FR_some ht15)))) (Fr_sI ht12 (In_o 2 rfl)))) (Fr_sI hσ (In_o 1 rfl)))
theorem fr_F12_readTest_b166 (N : Nat) (s1 : Int32) (s3 : Int32) (s4 : Int32) (σ : Ms) : FR W12_readTest σ (F12_readTest_b166 N s1 s3 s4 σ) :=
  have hσ := Fr_rfl W12_readTest σ
  (FR_bn (fr_F12_count _ _ _ _) (Sub_of [1, 2, 3, 4, 5, 6, 7] rfl) hσ fun r1 t2 ht2 => (FR_ck fun z265 => (FR_st (fun t3 ht3 => (FR_some ht3)) (Fr_sI ht2 (In_a 0 rfl)))))
theorem fr_F12_readTest_b141 (N : Nat) (l1 : Int32) (l2 : Int32) (s1 : Int32) (σ : Ms) : FR W12_readTest σ (F12_readTest_b141 N l1 l2 s1 σ) :=
  have hσ := Fr_rfl W12_readTest σ
  (FR_bn (fr_F12_must _ _ _) (Sub_of [1, 2, 3, 4, 5, 6, 7] rfl) hσ fun r4 t5 ht5 => (FR_if (FR_tr2 (fr_F12_readTest_b166 _ _ _ _ _) (Sub_rfl _) ht5) (FR_tr2 (fr_F12_readTest_b166 _ _ _ _ _) (Sub_rfl _) ht5)))
theorem fr_F12_readTest_b136 (N : Nat) (l1 : Int32) (l2 : Int32) (σ : Ms) : FR W12_readTest σ (F12_readTest_b136 N l1 l2 σ) :=
  have hσ := Fr_rfl W12_readTest σ
  (FR_tr2 (fr_F12_readTest_b141 _ _ _ _ _) (Sub_rfl _) hσ)
theorem fr_F12_readTest_b107 (N : Nat) (l1 : Int32) (l2 : Int32) (s1 : Int32) (s2 : Int32) (σ : Ms) : FR W12_readTest σ (F12_readTest_b107 N l1 l2 s1 s2 σ) :=
  have hσ := Fr_rfl W12_readTest σ
  (FR_ck fun z266 => (FR_st (fun t6 ht6 => (FR_bn (fr_F12_isSign _ _) (Sub_nil _) ht6 fun r7 t8 ht8 => (FR_if (FR_tr2 (fr_F12_readTest_b136 _ _ _ _) (Sub_rfl _) ht8) (FR_bn (fr_F12_isSign _ _) (Sub_nil _) ht8 fun r9 t10 ht10 => (FR_if (FR_tr2 (fr_F12_readTest_b136 _ _ _ _) (Sub_rfl _) ht10) (FR_bn (fr_F12_isSign _ _) (Sub_nil _) ht10 fun r11 t12 ht12 => (FR_if (FR_tr2 (fr_F12_readTest_b141 _ _ _ _ _) (Sub_rfl _) ht12) (FR_tr2 (fr_F12_readTest_b136 _ _ _ _) (Sub_rfl _) ht12)))))))) (Fr_sI hσ (In_a 0 rfl))))
theorem fr_F12_readTest_b66 (N : Nat) (l1 : Int32) (l2 : Int32) (σ : Ms) : FR W12_readTest σ (F12_readTest_b66 N l1 l2 σ) :=
  have hσ := Fr_rfl W12_readTest σ
  (FR_if (FR_some hσ) (FR_if (FR_some hσ) (FR_if (FR_if (FR_tr2 (fr_F12_readTest_b107 _ _ _ _ _ _) (Sub_rfl _) hσ) (FR_tr2 (fr_F12_readTest_b107 _ _ _ _ _ _) (Sub_rfl _) hσ)) (FR_some hσ))))
theorem fr_F12_readTest_b15 (N : Nat) (l1 : Int32) (l2 : Int32) (s1 : Int32) (σ : Ms) : FR W12_readTest σ (F12_readTest_b15 N l1 l2 s1 σ) :=
  have hσ := Fr_rfl W12_readTest σ
  (FR_bn (fr_F12_must _ _ _) (Sub_of [1, 2, 3, 4, 5, 6, 7] rfl) hσ fun r13 t14 ht14 => (FR_ck fun z267 => (FR_st (fun t15 ht15 => (FR_if (FR_if (FR_tr2 (fr_F12_readTest_b66 _ _ _ _) (Sub_rfl _) ht15) (FR_bn (fr_F12_readSide _ _) (Sub_of [1, 2, 3, 4, 5, 6, 7] rfl) ht15 fun r16 t17 ht17 => (FR_ck fun z268 => (FR_st (fun t18 ht18 => (FR_tr2 (fr_F12_readTest_b66 _ _ _ _) (Sub_rfl _) ht18)) (Fr_sI ht17 (In_a 0 rfl)))))) (FR_bn (fr_F12_count _ _ _ _) (Sub_of [1, 2, 3, 4, 5, 6, 7] rfl) ht15 fun r19 t20 ht20 => (FR_ck fun z269 => (FR_st (fun t21 ht21 => (FR_tr2 (fr_F12_readTest_b66 _ _ _ _) (Sub_rfl _) ht21)) (Fr_sI ht20 (In_a 0 rfl))))))) (Fr_sI ht14 (In_a 0 rfl)))))
theorem fr_F12_readTest (N : Nat) (p0 : Int32) (σ : Ms) : FR W12_readTest σ (F12_readTest N p0 σ) :=
  have hσ := Fr_rfl W12_readTest σ
  (FR_bn (fr_F12_testWord _) (Sub_nil _) hσ fun r22 t23 ht23 => (FR_if (FR_tr2 (fr_F12_readTest_b15 _ _ _ _ _) (Sub_rfl _) ht23) (FR_tr2 (fr_F12_readTest_b15 _ _ _ _ _) (Sub_rfl _) ht23)))
theorem fr_F12_readRest_b47 (N : Nat) (s1 : Int32) (s3 : Int32) (s4 : Int32) (σ : Ms) : FR W12_readRest σ (F12_readRest_b47 N s1 s3 s4 σ) :=
  have hσ := Fr_rfl W12_readRest σ
  (FR_bn (fr_F12_count _ _ _ _) (Sub_of [1, 2, 3, 4, 5, 6, 7] rfl) hσ fun r1 t2 ht2 => (FR_ck fun z270 => (FR_st (fun t3 ht3 => (FR_some ht3)) (Fr_sI ht2 (In_a 0 rfl)))))
theorem fr_F12_readRest_b16 (N : Nat) (l1 : Int32) (l2 : Int32) (σ : Ms) : FR W12_readRest σ (F12_readRest_b16 N l1 l2 σ) :=
  have hσ := Fr_rfl W12_readRest σ
  (FR_bn (fr_F12_readSide _ _) (Sub_of [1, 2, 3, 4, 5, 6, 7] rfl) hσ fun r4 t5 ht5 => (FR_ck fun z271 => (FR_st (fun t6 ht6 => (FR_if (FR_tr2 (fr_F12_readRest_b47 _ _ _ _ _) (Sub_rfl _) ht6) (FR_tr2 (fr_F12_readRest_b47 _ _ _ _ _) (Sub_rfl _) ht6))) (Fr_sI ht5 (In_a 0 rfl)))))
theorem fr_F12_readRest_b137 (N : Nat) (s1 : Int32) (s2 : Int32) (σ : Ms) : FR W12_readRest σ (F12_readRest_b137 N s1 s2 σ) :=
  have hσ := Fr_rfl W12_readRest σ
  (FR_ck fun z272 => (FR_st (fun t7 ht7 => (FR_some ht7)) (Fr_sI hσ (In_a 0 rfl))))
theorem fr_F12_readRest (N : Nat) (p0 : Int32) (σ : Ms) : FR W12_readRest σ (F12_readRest N p0 σ) :=
  have hσ := Fr_rfl W12_readRest σ
  (FR_ck fun z273 => (FR_lv fun x8 => (FR_if (FR_tr2 (fr_F12_readRest_b16 _ _ _ _) (Sub_rfl _) hσ) (FR_if (FR_if (FR_if (FR_if (FR_if (FR_some hσ) (FR_bn (fr_F12_readTest _ _ _) (Sub_of [0, 1, 2, 3, 4, 5, 6, 7] rfl) hσ fun r9 t10 ht10 => (FR_some ht10))) (FR_bn (fr_F12_count _ _ _ _) (Sub_of [1, 2, 3, 4, 5, 6, 7] rfl) hσ fun r11 t12 ht12 => (FR_ck fun z274 => (FR_st (fun t13 ht13 => (FR_some ht13)) (Fr_sI ht12 (In_a 0 rfl)))))) (FR_bn (fr_F12_readColour _ _) (Sub_of [1, 2, 3, 4, 5, 6, 7] rfl) hσ fun r14 t15 ht15 => (FR_ck fun z275 => (FR_st (fun t16 ht16 => (FR_bn (fr_F12_isOn _) (Sub_nil _) ht16 fun r17 t18 ht18 => (FR_bn (fr_F12_perhaps _ _ _) (Sub_of [3, 4, 5, 6, 7] rfl) ht18 fun r19 t20 ht20 => (FR_if (FR_tr2 (fr_F12_readRest_b137 _ _ _ _) (Sub_rfl _) ht20) (FR_bn (fr_F12_count _ _ _ _) (Sub_of [1, 2, 3, 4, 5, 6, 7] rfl) ht20 fun r21 t22 ht22 => (FR_tr2 (fr_F12_readRest_b137 _ _ _ _) (Sub_rfl _) ht22)))))) (Fr_sI ht15 (In_a 0 rfl)))))) (FR_bn (fr_F12_count _ _ _ _) (Sub_of [1, 2, 3, 4, 5, 6, 7] rfl) hσ fun r23 t24 ht24 => (FR_ck fun z276 => (FR_st (fun t25 ht25 => (FR_bn (fr_F12_count _ _ _ _) (Sub_of [1, 2, 3, 4, 5, 6, 7] rfl) ht25 fun r26 t27 ht27 => (FR_ck fun z277 => (FR_st (fun t28 ht28 => (FR_some ht28)) (Fr_sI ht27 (In_a 0 rfl)))))) (Fr_sI ht24 (In_a 0 rfl)))))) (FR_tr2 (fr_F12_readRest_b16 _ _ _ _) (Sub_rfl _) hσ)))))
theorem fr_F12_readStep_b191 (N : Nat) (r12_readStep : Int32 → Ms → Option (Unit × Ms)) (hr12_readStep : ∀ a0 s, FR W12_readStep s (r12_readStep a0 s)) (l4 : Int32) (σ : Ms) : FR W12_readStep σ (F12_readStep_b191 N r12_readStep l4 σ) :=
  have hσ := Fr_rfl W12_readStep σ
  (FR_ck fun z278 => (FR_st (fun t1 ht1 => (FR_some ht1)) (Fr_sI hσ (In_a 0 rfl))))
theorem fr_F12_readStep_b169 (N : Nat) (r12_readStep : Int32 → Ms → Option (Unit × Ms)) (hr12_readStep : ∀ a0 s, FR W12_readStep s (r12_readStep a0 s)) (l3 : Int32) (l4 : Int32) (σ : Ms) : FR W12_readStep σ (F12_readStep_b169 N r12_readStep l3 l4 σ) :=
  have hσ := Fr_rfl W12_readStep σ
  (FR_if (FR_tr2 (fr_F12_readStep_b191 _ _ hr12_readStep _ _) (Sub_rfl _) hσ) (FR_bn (fr_F12_isEnd _) (Sub_nil _) hσ fun r2 t3 ht3 => (FR_bn (fr_F12_must _ _ _) (Sub_of [2, 3, 4, 5, 6, 7, 8] rfl) ht3 fun r4 t5 ht5 => (FR_bn (fr_F12_isSign _ _) (Sub_nil _) ht5 fun r6 t7 ht7 => (FR_bn (fr_F12_must _ _ _) (Sub_of [2, 3, 4, 5, 6, 7, 8] rfl) ht7 fun r8 t9 ht9 => (FR_tr2 (fr_F12_readStep_b191 _ _ hr12_readStep _ _) (Sub_rfl _) ht9))))))
theorem fr_F12_readStep_b141B (N : Nat) (r12_readStep : Int32 → Ms → Option (Unit × Ms)) (hr12_readStep : ∀ a0 s, FR W12_readStep s (r12_readStep a0 s)) (k141 : Int32 × Int32 × Int32 × Ms → Option (Unit × Ms)) (hk141 : ∀ x, FR W12_readStep x.2.2.2 (k141 x)) (l1 : Int32) (l3 : Int32) (l4 : Int32) (σ : Ms) : FR W12_readStep σ (F12_readStep_b141B N r12_readStep k141 l1 l3 l4 σ) :=
  have hσ := Fr_rfl W12_readStep σ
  (FR_if (FR_tr2 (fr_F12_readStep_b169 _ _ hr12_readStep _ _ _) (Sub_rfl _) hσ) (FR_if (FR_tr2 (fr_F12_readStep_b169 _ _ hr12_readStep _ _ _) (Sub_rfl _) hσ) (FR_bn (fr_F12_isEnd _) (Sub_nil _) hσ fun r10 t11 ht11 => (FR_if (FR_tr2 (fr_F12_readStep_b169 _ _ hr12_readStep _ _ _) (Sub_rfl _) ht11) (FR_bn (hr12_readStep _ _) (Sub_rfl _) ht11 fun r12 t13 ht13 => (FR_tr ht13 (hk141 (l1, l3, l4, t13))))))))
theorem fr_F12_readStep_b141 (N : Nat) (r12_readStep : Int32 → Ms → Option (Unit × Ms)) (hr12_readStep : ∀ a0 s, FR W12_readStep s (r12_readStep a0 s)) (l1 : Int32) (l3 : Int32) (l4 : Int32) (σ : Ms) : FR W12_readStep σ (F12_readStep_b141 N r12_readStep l1 l3 l4 σ) := by
  unfold F12_readStep_b141
  exact @FR_fx (Int32 × Int32 × Int32 × Ms) (Unit) W12_readStep (fun k x => F12_readStep_b141B N r12_readStep k x.1 x.2.1 x.2.2.1 x.2.2.2) (fun x => x.2.2.2) (fun k hk x => fr_F12_readStep_b141B N r12_readStep hr12_readStep k hk x.1 x.2.1 x.2.2.1 x.2.2.2) N (l1, l3, l4, σ)
theorem fr_F12_readStep_b82 (N : Nat) (r12_readStep : Int32 → Ms → Option (Unit × Ms)) (hr12_readStep : ∀ a0 s, FR W12_readStep s (r12_readStep a0 s)) (l1 : Int32) (l2 : Int32) (l3 : Int32) (σ : Ms) : FR W12_readStep σ (F12_readStep_b82 N r12_readStep l1 l2 l3 σ) :=
  have hσ := Fr_rfl W12_readStep σ
  (FR_if (FR_lv fun x14 => (FR_st (fun t15 ht15 => (FR_bn (fr_F12_advance _ _) (Sub_of [4, 5, 6, 7, 8] rfl) ht15 fun r16 t17 ht17 => (FR_ck fun z279 => (FR_st (fun t18 ht18 => (FR_bn (fr_F12_readRest _ _ _) (Sub_of [0, 2, 3, 4, 5, 6, 7, 8] rfl) ht18 fun r19 t20 ht20 => (FR_bn (fr_F12_isSign _ _) (Sub_nil _) ht20 fun r21 t22 ht22 => (FR_bn (fr_F12_must _ _ _) (Sub_of [2, 3, 4, 5, 6, 7, 8] rfl) ht22 fun r23 t24 ht24 => (FR_tr2 (fr_F12_readStep_b141 _ _ hr12_readStep _ _ _ _) (Sub_rfl _) ht24))))) (Fr_sI ht17 (In_a 0 rfl)))))) (Fr_sI hσ (In_o 1 rfl)))) (FR_some hσ))
theorem fr_F12_readStep_b56 (N : Nat) (r12_readStep : Int32 → Ms → Option (Unit × Ms)) (hr12_readStep : ∀ a0 s, FR W12_readStep s (r12_readStep a0 s)) (l1 : Int32) (l2 : Int32) (l3 : Int32) (σ : Ms) : FR W12_readStep σ (F12_readStep_b56 N r12_readStep l1 l2 l3 σ) :=
  have hσ := Fr_rfl W12_readStep σ
  (FR_if (FR_tr2 (fr_F12_readStep_b82 _ _ hr12_readStep _ _ _ _) (Sub_rfl _) hσ) (FR_if (FR_tr2 (fr_F12_readStep_b82 _ _ hr12_readStep _ _ _ _) (Sub_rfl _) hσ) (FR_if (FR_tr2 (fr_F12_readStep_b82 _ _ hr12_readStep _ _ _ _) (Sub_rfl _) hσ) (FR_bn (fr_F12_fail _ _ _) (Sub_of [2, 3] rfl) hσ fun r25 t26 ht26 => (FR_tr2 (fr_F12_readStep_b82 _ _ hr12_readStep _ _ _ _) (Sub_rfl _) ht26)))))
theorem fr_F12_readStep_b30 (N : Nat) (r12_readStep : Int32 → Ms → Option (Unit × Ms)) (hr12_readStep : ∀ a0 s, FR W12_readStep s (r12_readStep a0 s)) (l1 : Int32) (l2 : Int32) (l3 : Int32) (σ : Ms) : FR W12_readStep σ (F12_readStep_b30 N r12_readStep l1 l2 l3 σ) :=
  have hσ := Fr_rfl W12_readStep σ
  (FR_if (FR_tr2 (fr_F12_readStep_b56 _ _ hr12_readStep _ _ _ _) (Sub_rfl _) hσ) (FR_if (FR_tr2 (fr_F12_readStep_b56 _ _ hr12_readStep _ _ _ _) (Sub_rfl _) hσ) (FR_bn (fr_F12_fail _ _ _) (Sub_of [2, 3] rfl) hσ fun r27 t28 ht28 => (FR_tr2 (fr_F12_readStep_b56 _ _ hr12_readStep _ _ _ _) (Sub_rfl _) ht28))))
theorem fr_F12_readStep_b21 (N : Nat) (r12_readStep : Int32 → Ms → Option (Unit × Ms)) (hr12_readStep : ∀ a0 s, FR W12_readStep s (r12_readStep a0 s)) (l1 : Int32) (l2 : Int32) (s0 : Int32) (σ : Ms) : FR W12_readStep σ (F12_readStep_b21 N r12_readStep l1 l2 s0 σ) :=
  have hσ := Fr_rfl W12_readStep σ
  (FR_if (FR_tr2 (fr_F12_readStep_b30 _ _ hr12_readStep _ _ _ _) (Sub_rfl _) hσ) (FR_bn (fr_F12_amiss _) (Sub_of [2, 3] rfl) hσ fun r29 t30 ht30 => (FR_tr2 (fr_F12_readStep_b30 _ _ hr12_readStep _ _ _ _) (Sub_rfl _) ht30)))
theorem fr_F12_readStep_b16 (N : Nat) (r12_readStep : Int32 → Ms → Option (Unit × Ms)) (hr12_readStep : ∀ a0 s, FR W12_readStep s (r12_readStep a0 s)) (l1 : Int32) (l2 : Int32) (σ : Ms) : FR W12_readStep σ (F12_readStep_b16 N r12_readStep l1 l2 σ) :=
  have hσ := Fr_rfl W12_readStep σ
  (FR_tr2 (fr_F12_readStep_b21 _ _ hr12_readStep _ _ _ _) (Sub_rfl _) hσ)
theorem fr_F12_readStepB (N : Nat) (r12_readStep : Int32 → Ms → Option (Unit × Ms)) (hr12_readStep : ∀ a0 s, FR W12_readStep s (r12_readStep a0 s)) (p0 : Int32) (σ : Ms) : FR W12_readStep σ (F12_readStepB N r12_readStep p0 σ) :=
  have hσ := Fr_rfl W12_readStep σ
  (FR_bn (fr_F12_stepWord _) (Sub_nil _) hσ fun r31 t32 ht32 => (FR_if (FR_tr2 (fr_F12_readStep_b16 _ _ hr12_readStep _ _ _) (Sub_rfl _) ht32) (FR_if (FR_tr2 (fr_F12_readStep_b21 _ _ hr12_readStep _ _ _ _) (Sub_rfl _) ht32) (FR_tr2 (fr_F12_readStep_b16 _ _ hr12_readStep _ _ _) (Sub_rfl _) ht32))))
theorem fr_F12_readStep (N D : Nat) (p0 : Int32) (σ : Ms) : FR W12_readStep σ (F12_readStep N D p0 σ) := by
  induction D generalizing p0 σ with
  | zero => exact FR_none
  | succ D ih => exact fr_F12_readStepB N _ ih p0 σ
theorem fr_F12_seasons_b80B (N : Nat) (k80 : Int32 × Ms → Option (Int32 × Ms)) (hk80 : ∀ x, FR W12_seasons x.2 (k80 x)) (l2 : Int32) (σ : Ms) : FR W12_seasons σ (F12_seasons_b80B N k80 l2 σ) :=
  have hσ := Fr_rfl W12_seasons σ
  (FR_if (FR_some hσ) (FR_ck fun z280 => (FR_ck fun z281 => (FR_st (fun t1 ht1 => (FR_tr ht1 (hk80 ((l2 + (1 : Int32)), t1)))) (Fr_sI hσ (In_a 0 rfl))))))
theorem fr_F12_seasons_b80 (N : Nat) (l2 : Int32) (σ : Ms) : FR W12_seasons σ (F12_seasons_b80 N l2 σ) := by
  unfold F12_seasons_b80
  exact @FR_fx (Int32 × Ms) (Int32) W12_seasons (fun k x => F12_seasons_b80B N k x.1 x.2) (fun x => x.2) (fun k hk x => fr_F12_seasons_b80B N k hk x.1 x.2) N (l2, σ)
theorem fr_F12_seasons_b50 (N : Nat) (σ : Ms) : FR W12_seasons σ (F12_seasons_b50 N σ) :=
  have hσ := Fr_rfl W12_seasons σ
  (FR_bn (fr_F12_isWell _) (Sub_of [4, 5, 2] rfl) hσ fun r2 t3 ht3 => (FR_if (FR_ck fun z282 => (FR_st (fun t4 ht4 => (FR_ck fun z283 => (FR_st (fun t5 ht5 => (FR_tr2 (fr_F12_seasons_b80 _ _ _) (Sub_rfl _) ht5)) (Fr_sI ht4 (In_a 0 rfl))))) (Fr_sI ht3 (In_a 0 rfl)))) (FR_some ht3)))
theorem fr_F12_seasons_b28B (N : Nat) (k28 : Ms → Option (Int32 × Ms)) (hk28 : ∀ x, FR W12_seasons x (k28 x)) (σ : Ms) : FR W12_seasons σ (F12_seasons_b28B N k28 σ) :=
  have hσ := Fr_rfl W12_seasons σ
  (FR_if (FR_tr2 (fr_F12_seasons_b50 _ _) (Sub_rfl _) hσ) (FR_if (FR_tr2 (fr_F12_seasons_b50 _ _) (Sub_rfl _) hσ) (FR_bn (fr_F12_readStep _ _ _ _) (Sub_of [0, 3, 6, 7, 8, 9, 10, 11, 12] rfl) hσ fun r6 t7 ht7 => (FR_tr ht7 (hk28 t7)))))
theorem fr_F12_seasons_b28 (N : Nat) (σ : Ms) : FR W12_seasons σ (F12_seasons_b28 N σ) := by
  unfold F12_seasons_b28
  exact @FR_fx (Ms) (Int32) W12_seasons (fun k x => F12_seasons_b28B N k x) (fun x => x) (fun k hk x => fr_F12_seasons_b28B N k hk x) N σ
theorem fr_F12_seasons (N : Nat) (p0 : Int32) (σ : Ms) : FR W12_seasons σ (F12_seasons N p0 σ) :=
  have hσ := Fr_rfl W12_seasons σ
  (FR_st (fun t8 ht8 => (FR_st (fun t9 ht9 => (FR_bn (fr_F12_starts _ _ _ _) (Sub_of [13, 14, 9, 6, 2, 8, 10, 11, 12] rfl) ht9 fun r10 t11 ht11 => (FR_if (FR_st (fun t12 ht12 => (FR_tr2 (fr_F12_seasons_b28 _ _) (Sub_rfl _) ht12)) (Fr_sI ht11 (In_o 3 rfl))) (FR_some ht11)))) (Fr_sI ht8 (In_o 2 rfl)))) (Fr_sI hσ (In_o 1 rfl)))
theorem fr_F12_isSideAt_b9 (σ : Ms) : FR W12_isSideAt σ (F12_isSideAt_b9 σ) :=
  have hσ := Fr_rfl W12_isSideAt σ
  (FR_some hσ)
theorem fr_F12_isSideAt (p0 : Int32) (σ : Ms) : FR W12_isSideAt σ (F12_isSideAt p0 σ) :=
  have hσ := Fr_rfl W12_isSideAt σ
  (FR_if (FR_tr2 (fr_F12_isSideAt_b9 _) (Sub_rfl _) hσ) (FR_if (FR_some hσ) (FR_tr2 (fr_F12_isSideAt_b9 _) (Sub_rfl _) hσ)))
theorem fr_F12_isSprigAt (p0 : Int32) (σ : Ms) : FR W12_isSprigAt σ (F12_isSprigAt p0 σ) :=
  have hσ := Fr_rfl W12_isSprigAt σ
  (FR_ck fun z284 => (FR_bn (fr_F12_isIn _ _ _ _) (Sub_nil _) hσ fun r1 t2 ht2 => (FR_ck fun z285 => (FR_some ht2))))
theorem fr_F12_isHeapAt (p0 : Int32) (σ : Ms) : FR W12_isHeapAt σ (F12_isHeapAt p0 σ) :=
  have hσ := Fr_rfl W12_isHeapAt σ
  (FR_ck fun z286 => (FR_bn (fr_F12_isIn _ _ _ _) (Sub_nil _) hσ fun r1 t2 ht2 => (FR_ck fun z287 => (FR_some ht2))))
theorem fr_F12_isBetAt (p0 : Int32) (σ : Ms) : FR W12_isBetAt σ (F12_isBetAt p0 σ) :=
  have hσ := Fr_rfl W12_isBetAt σ
  (FR_ck fun z288 => (FR_bn (fr_F12_isIn _ _ _ _) (Sub_nil _) hσ fun r1 t2 ht2 => (FR_ck fun z289 => (FR_some ht2))))
theorem fr_F12_standing_b4B (N : Nat) (k4 : Int32 × Int32 × Ms → Option (Int32 × Ms)) (hk4 : ∀ x, FR W12_standing x.2.2 (k4 x)) (l1 : Int32) (l2 : Int32) (σ : Ms) : FR W12_standing σ (F12_standing_b4B N k4 l1 l2 σ) :=
  have hσ := Fr_rfl W12_standing σ
  (FR_ck fun z290 => (FR_if (FR_some hσ) (FR_ck fun z291 => (FR_lv fun x1 => (FR_tr hσ (hk4 (x1, (l2 + (1 : Int32)), σ)))))))
theorem fr_F12_standing_b4 (N : Nat) (l1 : Int32) (l2 : Int32) (σ : Ms) : FR W12_standing σ (F12_standing_b4 N l1 l2 σ) := by
  unfold F12_standing_b4
  exact @FR_fx (Int32 × Int32 × Ms) (Int32) W12_standing (fun k x => F12_standing_b4B N k x.1 x.2.1 x.2.2) (fun x => x.2.2) (fun k hk x => fr_F12_standing_b4B N k hk x.1 x.2.1 x.2.2) N (l1, l2, σ)
theorem fr_F12_standing (N : Nat) (σ : Ms) : FR W12_standing σ (F12_standing N σ) :=
  have hσ := Fr_rfl W12_standing σ
  (FR_tr2 (fr_F12_standing_b4 _ _ _ _) (Sub_rfl _) hσ)
theorem fr_F12_taken_b4B (N : Nat) (k4 : Int32 × Int32 × Ms → Option (Int32 × Ms)) (hk4 : ∀ x, FR W12_taken x.2.2 (k4 x)) (l1 : Int32) (l2 : Int32) (σ : Ms) : FR W12_taken σ (F12_taken_b4B N k4 l1 l2 σ) :=
  have hσ := Fr_rfl W12_taken σ
  (FR_ck fun z292 => (FR_if (FR_some hσ) (FR_ck fun z293 => (FR_lv fun x1 => (FR_tr hσ (hk4 (x1, (l2 + (1 : Int32)), σ)))))))
theorem fr_F12_taken_b4 (N : Nat) (l1 : Int32) (l2 : Int32) (σ : Ms) : FR W12_taken σ (F12_taken_b4 N l1 l2 σ) := by
  unfold F12_taken_b4
  exact @FR_fx (Int32 × Int32 × Ms) (Int32) W12_taken (fun k x => F12_taken_b4B N k x.1 x.2.1 x.2.2) (fun x => x.2.2) (fun k hk x => fr_F12_taken_b4B N k hk x.1 x.2.1 x.2.2) N (l1, l2, σ)
theorem fr_F12_taken (N : Nat) (σ : Ms) : FR W12_taken σ (F12_taken N σ) :=
  have hσ := Fr_rfl W12_taken σ
  (FR_tr2 (fr_F12_taken_b4 _ _ _ _) (Sub_rfl _) hσ)
theorem fr_F12_standsBut_b75 (N : Nat) (k5 : Int32 × Int32 × Int32 × Int32 × Ms → Option (Int32 × Ms)) (hk5 : ∀ x, FR W12_standsBut x.2.2.2.2 (k5 x)) (l1 : Int32) (l2 : Int32) (l4 : Int32) (s0 : Int32) (s1 : Int32) (σ : Ms) : FR W12_standsBut σ (F12_standsBut_b75 N k5 l1 l2 l4 s0 s1 σ) :=
  have hσ := Fr_rfl W12_standsBut σ
  (FR_lv fun x1 => (FR_tr hσ (hk5 (l1, l2, x1, (l4 + (1 : Int32)), σ))))
theorem fr_F12_standsBut_b74 (N : Nat) (k5 : Int32 × Int32 × Int32 × Int32 × Ms → Option (Int32 × Ms)) (hk5 : ∀ x, FR W12_standsBut x.2.2.2.2 (k5 x)) (l1 : Int32) (l2 : Int32) (l4 : Int32) (s0 : Int32) (σ : Ms) : FR W12_standsBut σ (F12_standsBut_b74 N k5 l1 l2 l4 s0 σ) :=
  have hσ := Fr_rfl W12_standsBut σ
  (FR_tr2 (fr_F12_standsBut_b75 _ _ hk5 _ _ _ _ _ _) (Sub_rfl _) hσ)
theorem fr_F12_standsBut_b67 (N : Nat) (k5 : Int32 × Int32 × Int32 × Int32 × Ms → Option (Int32 × Ms)) (hk5 : ∀ x, FR W12_standsBut x.2.2.2.2 (k5 x)) (l1 : Int32) (l2 : Int32) (l4 : Int32) (s0 : Int32) (σ : Ms) : FR W12_standsBut σ (F12_standsBut_b67 N k5 l1 l2 l4 s0 σ) :=
  have hσ := Fr_rfl W12_standsBut σ
  (FR_tr2 (fr_F12_standsBut_b75 _ _ hk5 _ _ _ _ _ _) (Sub_rfl _) hσ)
theorem fr_F12_standsBut_b5B (N : Nat) (k5 : Int32 × Int32 × Int32 × Int32 × Ms → Option (Int32 × Ms)) (hk5 : ∀ x, FR W12_standsBut x.2.2.2.2 (k5 x)) (l1 : Int32) (l2 : Int32) (l3 : Int32) (l4 : Int32) (σ : Ms) : FR W12_standsBut σ (F12_standsBut_b5B N k5 l1 l2 l3 l4 σ) :=
  have hσ := Fr_rfl W12_standsBut σ
  (FR_ck fun z294 => (FR_if (FR_some hσ) (FR_bn (fr_F12_has _ _ _) (Sub_nil _) hσ fun r2 t3 ht3 => (FR_if (FR_tr2 (fr_F12_standsBut_b74 _ _ hk5 _ _ _ _ _) (Sub_rfl _) ht3) (FR_bn (fr_F12_has _ _ _) (Sub_nil _) ht3 fun r4 t5 ht5 => (FR_if (FR_tr2 (fr_F12_standsBut_b74 _ _ hk5 _ _ _ _ _) (Sub_rfl _) ht5) (FR_ck fun z295 => (FR_if (FR_tr2 (fr_F12_standsBut_b67 _ _ hk5 _ _ _ _ _) (Sub_rfl _) ht5) (FR_ck fun z296 => (FR_bn (fr_F12_has _ _ _) (Sub_nil _) ht5 fun r6 t7 ht7 => (FR_if (FR_tr2 (fr_F12_standsBut_b74 _ _ hk5 _ _ _ _ _) (Sub_rfl _) ht7) (FR_tr2 (fr_F12_standsBut_b67 _ _ hk5 _ _ _ _ _) (Sub_rfl _) ht7))))))))))))
theorem fr_F12_standsBut_b5 (N : Nat) (l1 : Int32) (l2 : Int32) (l3 : Int32) (l4 : Int32) (σ : Ms) : FR W12_standsBut σ (F12_standsBut_b5 N l1 l2 l3 l4 σ) := by
  unfold F12_standsBut_b5
  exact @FR_fx (Int32 × Int32 × Int32 × Int32 × Ms) (Int32) W12_standsBut (fun k x => F12_standsBut_b5B N k x.1 x.2.1 x.2.2.1 x.2.2.2.1 x.2.2.2.2) (fun x => x.2.2.2.2) (fun k hk x => fr_F12_standsBut_b5B N k hk x.1 x.2.1 x.2.2.1 x.2.2.2.1 x.2.2.2.2) N (l1, l2, l3, l4, σ)
theorem fr_F12_standsBut (N : Nat) (p0 : Int32) (p1 : Int32) (σ : Ms) : FR W12_standsBut σ (F12_standsBut N p0 p1 σ) :=
  have hσ := Fr_rfl W12_standsBut σ
  (FR_tr2 (fr_F12_standsBut_b5 _ _ _ _ _ _) (Sub_rfl _) hσ)
theorem fr_F12_may_b24 (σ : Ms) : FR W12_may σ (F12_may_b24 σ) :=
  have hσ := Fr_rfl W12_may σ
  (FR_some hσ)
theorem fr_F12_may (p0 : Int32) (p1 : Int32) (σ : Ms) : FR W12_may σ (F12_may p0 p1 σ) :=
  have hσ := Fr_rfl W12_may σ
  (FR_ck fun z297 => (FR_if (FR_tr2 (fr_F12_may_b24 _) (Sub_rfl _) hσ) (FR_ck fun z298 => (FR_if (FR_some hσ) (FR_tr2 (fr_F12_may_b24 _) (Sub_rfl _) hσ)))))
theorem fr_F12_many (N : Nat) (p0 : Int32) (σ : Ms) : FR W12_many σ (F12_many N p0 σ) :=
  have hσ := Fr_rfl W12_many σ
  (FR_st (fun t1 ht1 => (FR_st (fun t2 ht2 => (FR_bn (fr_F12_isIn _ _ _ _) (Sub_nil _) ht2 fun r3 t4 ht4 => (FR_if (FR_if (FR_if (FR_if (FR_if (FR_ck fun z299 => (FR_some ht4)) (FR_ck fun z300 => (FR_some ht4))) (FR_bn (fr_F12_taken _ _) (Sub_nil _) ht4 fun r5 t6 ht6 => (FR_some ht6))) (FR_bn (fr_F12_standing _ _) (Sub_nil _) ht4 fun r7 t8 ht8 => (FR_some ht8))) (FR_ck fun z301 => (FR_some ht4))) (FR_bn (fr_F12_refuse _ _) (Sub_of [1] rfl) ht4 fun r9 t10 ht10 => (FR_some ht10))))) (Fr_sI ht1 (In_o 1 rfl)))) (Fr_sI hσ (In_o 0 rfl)))
theorem fr_F12_rightOn_b50 (N : Nat) (k4 : Int32 × Int32 × Int32 × Ms → Option (Int32 × Ms)) (hk4 : ∀ x, FR W12_rightOn x.2.2.2 (k4 x)) (l1 : Int32) (l3 : Int32) (s0 : Int32) (s1 : Int32) (σ : Ms) : FR W12_rightOn σ (F12_rightOn_b50 N k4 l1 l3 s0 s1 σ) :=
  have hσ := Fr_rfl W12_rightOn σ
  (FR_lv fun x1 => (FR_tr hσ (hk4 (l1, x1, (l3 + (1 : Int32)), σ))))
theorem fr_F12_rightOn_b49 (N : Nat) (k4 : Int32 × Int32 × Int32 × Ms → Option (Int32 × Ms)) (hk4 : ∀ x, FR W12_rightOn x.2.2.2 (k4 x)) (l1 : Int32) (l3 : Int32) (s0 : Int32) (σ : Ms) : FR W12_rightOn σ (F12_rightOn_b49 N k4 l1 l3 s0 σ) :=
  have hσ := Fr_rfl W12_rightOn σ
  (FR_tr2 (fr_F12_rightOn_b50 _ _ hk4 _ _ _ _ _) (Sub_rfl _) hσ)
theorem fr_F12_rightOn_b4B (N : Nat) (k4 : Int32 × Int32 × Int32 × Ms → Option (Int32 × Ms)) (hk4 : ∀ x, FR W12_rightOn x.2.2.2 (k4 x)) (l1 : Int32) (l2 : Int32) (l3 : Int32) (σ : Ms) : FR W12_rightOn σ (F12_rightOn_b4B N k4 l1 l2 l3 σ) :=
  have hσ := Fr_rfl W12_rightOn σ
  (FR_ck fun z302 => (FR_if (FR_some hσ) (FR_ck fun z303 => (FR_if (FR_tr2 (fr_F12_rightOn_b49 _ _ hk4 _ _ _ _) (Sub_rfl _) hσ) (FR_ck fun z304 => (FR_if (FR_tr2 (fr_F12_rightOn_b49 _ _ hk4 _ _ _ _) (Sub_rfl _) hσ) (FR_tr2 (fr_F12_rightOn_b50 _ _ hk4 _ _ _ _ _) (Sub_rfl _) hσ)))))))
theorem fr_F12_rightOn_b4 (N : Nat) (l1 : Int32) (l2 : Int32) (l3 : Int32) (σ : Ms) : FR W12_rightOn σ (F12_rightOn_b4 N l1 l2 l3 σ) := by
  unfold F12_rightOn_b4
  exact @FR_fx (Int32 × Int32 × Int32 × Ms) (Int32) W12_rightOn (fun k x => F12_rightOn_b4B N k x.1 x.2.1 x.2.2.1 x.2.2.2) (fun x => x.2.2.2) (fun k hk x => fr_F12_rightOn_b4B N k hk x.1 x.2.1 x.2.2.1 x.2.2.2) N (l1, l2, l3, σ)
theorem fr_F12_rightOn (N : Nat) (p0 : Int32) (σ : Ms) : FR W12_rightOn σ (F12_rightOn N p0 σ) :=
  have hσ := Fr_rfl W12_rightOn σ
  (FR_tr2 (fr_F12_rightOn_b4 _ _ _ _ _) (Sub_rfl _) hσ)
theorem fr_F12_fallsBy (N : Nat) (p0 : Int32) (σ : Ms) : FR W12_fallsBy σ (F12_fallsBy N p0 σ) :=
  have hσ := Fr_rfl W12_fallsBy σ
  (FR_bn (fr_F12_standing _ _) (Sub_nil _) hσ fun r1 t2 ht2 => (FR_bn (fr_F12_standing _ _) (Sub_nil _) ht2 fun r3 t4 ht4 => (FR_bn (fr_F12_standsBut _ _ _ _) (Sub_nil _) ht4 fun r5 t6 ht6 => (FR_bn (fr_F12_sizeOf _ _ _) (Sub_nil _) ht6 fun r7 t8 ht8 => (FR_some ht8)))))
theorem fr_F12_sprig (N : Nat) (p0 : Int32) (p1 : Int32) (σ : Ms) : FR W12_sprig σ (F12_sprig N p0 p1 σ) :=
  have hσ := Fr_rfl W12_sprig σ
  (FR_st (fun t1 ht1 => (FR_st (fun t2 ht2 => (FR_bn (fr_F12_isSprigAt _ _) (Sub_nil _) ht2 fun r3 t4 ht4 => (FR_if (FR_bn (fr_F12_isIn _ _ _ _) (Sub_nil _) ht4 fun r5 t6 ht6 => (FR_if (FR_if (FR_if (FR_if (FR_if (FR_ck fun z305 => (FR_if (FR_bn (fr_F12_fallsBy _ _ _) (Sub_nil _) ht6 fun r7 t8 ht8 => (FR_some ht8)) (FR_bn (fr_F12_refuse _ _) (Sub_of [1] rfl) ht6 fun r9 t10 ht10 => (FR_some ht10)))) (FR_bn (fr_F12_rightOn _ _ _) (Sub_nil _) ht6 fun r11 t12 ht12 => (FR_some ht12))) (FR_ck fun z306 => (FR_some ht6))) (FR_ck fun z307 => (FR_if (FR_ck fun z308 => (FR_some ht6)) (FR_bn (fr_F12_refuse _ _) (Sub_of [1] rfl) ht6 fun r13 t14 ht14 => (FR_some ht14))))) (FR_ck fun z309 => (FR_some ht6))) (FR_bn (fr_F12_refuse _ _) (Sub_of [1] rfl) ht6 fun r15 t16 ht16 => (FR_some ht16)))) (FR_bn (fr_F12_refuse _ _) (Sub_of [1] rfl) ht4 fun r17 t18 ht18 => (FR_some ht18))))) (Fr_sI ht1 (In_o 1 rfl)))) (Fr_sI hσ (In_o 0 rfl)))
theorem fr_F12_heap (p0 : Int32) (σ : Ms) : FR W12_heap σ (F12_heap p0 σ) :=
  have hσ := Fr_rfl W12_heap σ
  (FR_st (fun t1 ht1 => (FR_st (fun t2 ht2 => (FR_bn (fr_F12_isHeapAt _ _) (Sub_nil _) ht2 fun r3 t4 ht4 => (FR_if (FR_bn (fr_F12_refuse _ _) (Sub_of [1] rfl) ht4 fun r5 t6 ht6 => (FR_some ht6)) (FR_ck fun z310 => (FR_some ht4))))) (Fr_sI ht1 (In_o 1 rfl)))) (Fr_sI hσ (In_o 0 rfl)))
theorem fr_F12_bet_b41 (σ : Ms) : FR W12_bet σ (F12_bet_b41 σ) :=
  have hσ := Fr_rfl W12_bet σ
  (FR_bn (fr_F12_refuse _ _) (Sub_of [1] rfl) hσ fun r1 t2 ht2 => (FR_some ht2))
theorem fr_F12_bet (p0 : Int32) (p1 : Int32) (σ : Ms) : FR W12_bet σ (F12_bet p0 p1 σ) :=
  have hσ := Fr_rfl W12_bet σ
  (FR_st (fun t3 ht3 => (FR_st (fun t4 ht4 => (FR_bn (fr_F12_isBetAt _ _) (Sub_nil _) ht4 fun r5 t6 ht6 => (FR_if (FR_tr2 (fr_F12_bet_b41 _) (Sub_rfl _) ht6) (FR_bn (fr_F12_isSideAt _ _) (Sub_nil _) ht6 fun r7 t8 ht8 => (FR_if (FR_tr2 (fr_F12_bet_b41 _) (Sub_rfl _) ht8) (FR_ck fun z311 => (FR_some ht8))))))) (Fr_sI ht3 (In_o 1 rfl)))) (Fr_sI hσ (In_o 0 rfl)))
theorem fr_F12_copyColours_b103 (N : Nat) (k62 : Int32 × Int32 × Ms → Option (Int32 × Ms)) (hk62 : ∀ x, FR W12_copyColours x.2.2 (k62 x)) (l1 : Int32) (l2 : Int32) (s1 : Int32) (s2 : Int32) (s3 : Int64) (σ : Ms) : FR W12_copyColours σ (F12_copyColours_b103 N k62 l1 l2 s1 s2 s3 σ) :=
  have hσ := Fr_rfl W12_copyColours σ
  (FR_bn (fr_F12_write _ _ _ _) (Sub_of [0, 1, 2] rfl) hσ fun r1 t2 ht2 => (FR_tr ht2 (hk62 (l1, (l2 + (1 : Int32)), t2))))
theorem fr_F12_copyColours_b62B (N : Nat) (k62 : Int32 × Int32 × Ms → Option (Int32 × Ms)) (hk62 : ∀ x, FR W12_copyColours x.2.2 (k62 x)) (l1 : Int32) (l2 : Int32) (σ : Ms) : FR W12_copyColours σ (F12_copyColours_b62B N k62 l1 l2 σ) :=
  have hσ := Fr_rfl W12_copyColours σ
  (FR_ck fun z312 => (FR_if (FR_ck fun z313 => (FR_some hσ)) (FR_ck fun z314 => (FR_if (FR_tr2 (fr_F12_copyColours_b103 _ _ hk62 _ _ _ _ _ _) (Sub_rfl _) hσ) (FR_ck fun z315 => (FR_tr2 (fr_F12_copyColours_b103 _ _ hk62 _ _ _ _ _ _) (Sub_rfl _) hσ))))))
