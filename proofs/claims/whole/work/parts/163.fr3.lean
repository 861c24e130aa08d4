theorem fr_F5_copy_b35 (q0 : Nat) (q1 : Nat) (N : Nat) (l2 : Int32) (σ : Ms) : FR (W5_copy q0 q1) σ (F5_copy_b35 N q0 q1 l2 σ) := by
  unfold F5_copy_b35
  exact @FR_fx (Int32 × Ms) (Unit) (W5_copy q0 q1) (fun k x => F5_copy_b35B N q0 q1 k x.1 x.2) (fun x => x.2) (fun k hk x => fr_F5_copy_b35B q0 q1 N k hk x.1 x.2) N (l2, σ)
theorem fr_F5_copy (q0 : Nat) (q1 : Nat) (N : Nat) (σ : Ms) : FR (W5_copy q0 q1) σ (F5_copy N q0 q1 σ) :=
  have hσ := Fr_rfl (W5_copy q0 q1) σ
  (FR_ck fun z88 => (FR_st (fun t6 ht6 => (FR_st (fun t7 ht7 => (FR_st (fun t8 ht8 => (FR_tr2 (fr_F5_copy_b35 q0 q1 _ _ _) (Sub_rfl _) ht8)) (Fr_sI ht7 (In_o 7 rfl)))) (Fr_sI ht6 (In_o 6 rfl)))) (Fr_sI hσ (In_o 5 rfl))))
theorem fr_F5_forget (h : Nat) (σ : Ms) : FR (W5_forget h) σ (F5_forget h σ) :=
  have hσ := Fr_rfl (W5_forget h) σ
  (FR_ck fun z89 => (FR_st (fun t1 ht1 => (FR_some ht1)) (Fr_sI hσ (In_o 0 rfl))))
theorem fr_F5_begin (h : Nat) (σ : Ms) : FR (W5_begin h) σ (F5_begin h σ) :=
  have hσ := Fr_rfl (W5_begin h) σ
  (FR_ck fun z90 => (FR_st (fun t1 ht1 => (FR_st (fun t2 ht2 => (FR_st (fun t3 ht3 => (FR_st (fun t4 ht4 => (FR_some ht4)) (Fr_sI ht3 (In_o 3 rfl)))) (Fr_sI ht2 (In_o 2 rfl)))) (Fr_sI ht1 (In_o 1 rfl)))) (Fr_sI hσ (In_o 0 rfl))))
theorem fr_F5_isBlock_b11 (σ : Ms) : FR W5_isBlock σ (F5_isBlock_b11 σ) :=
  have hσ := Fr_rfl W5_isBlock σ
  (FR_some hσ)
theorem fr_F5_isBlock (p0 : Int32) (σ : Ms) : FR W5_isBlock σ (F5_isBlock p0 σ) :=
  have hσ := Fr_rfl W5_isBlock σ
  (FR_if (FR_tr2 (fr_F5_isBlock_b11 _) (Sub_rfl _) hσ) (FR_if (FR_some hσ) (FR_tr2 (fr_F5_isBlock_b11 _) (Sub_rfl _) hσ)))
theorem fr_F5_add_b108 (h : Nat) (σ : Ms) : FR (W5_add h) σ (F5_add_b108 h σ) :=
  have hσ := Fr_rfl (W5_add h) σ
  (FR_st (fun t1 ht1 => (FR_st (fun t2 ht2 => (FR_some ht2)) (Fr_sI ht1 (In_o 1 rfl)))) (Fr_sI hσ (In_o 0 rfl)))
theorem fr_F5_add (h : Nat) (p0 : Int32) (p1 : Int32) (p2 : Int32) (p3 : Int32) (σ : Ms) : FR (W5_add h) σ (F5_add h p0 p1 p2 p3 σ) :=
  have hσ := Fr_rfl (W5_add h) σ
  (FR_if (FR_some hσ) (FR_if (FR_ck fun z91 => (FR_st (fun t3 ht3 => (FR_ck fun z92 => (FR_st (fun t4 ht4 => (FR_ck fun z93 => (FR_st (fun t5 ht5 => (FR_ck fun z94 => (FR_st (fun t6 ht6 => (FR_ck fun z95 => (FR_st (fun t7 ht7 => (FR_bn (fr_F5_isBlock _ _) (Sub_nil _) ht7 fun r8 t9 ht9 => (FR_if (FR_tr2 (fr_F5_add_b108 h _) (Sub_rfl _) ht9) (FR_if (FR_tr2 (fr_F5_add_b108 h _) (Sub_rfl _) ht9) (FR_ck fun z96 => (FR_st (fun t10 ht10 => (FR_st (fun t11 ht11 => (FR_tr2 (fr_F5_add_b108 h _) (Sub_rfl _) ht11)) (Fr_sI ht10 (In_o 8 rfl)))) (Fr_sI ht9 (In_a 7 rfl)))))))) (Fr_sI ht6 (In_a 6 rfl))))) (Fr_sI ht5 (In_a 5 rfl))))) (Fr_sI ht4 (In_a 4 rfl))))) (Fr_sI ht3 (In_a 3 rfl))))) (Fr_sI hσ (In_a 2 rfl)))) (FR_some hσ)))
theorem fr_F5_close_b84 (h : Nat) (σ : Ms) : FR (W5_close h) σ (F5_close_b84 h σ) :=
  have hσ := Fr_rfl (W5_close h) σ
  (FR_st (fun t1 ht1 => (FR_some ht1)) (Fr_sI hσ (In_o 0 rfl)))
theorem fr_F5_close (h : Nat) (σ : Ms) : FR (W5_close h) σ (F5_close h σ) :=
  have hσ := Fr_rfl (W5_close h) σ
  (FR_if (FR_some hσ) (FR_if (FR_some hσ) (FR_if (FR_st (fun t2 ht2 => (FR_ck fun z97 => (FR_lv fun x3 => (FR_ck fun z98 => (FR_st (fun t4 ht4 => (FR_ck fun z99 => (FR_st (fun t5 ht5 => (FR_bn (fr_F5_hasEntry h _ _) (Sub_nil _) ht5 fun r6 t7 ht7 => (FR_if (FR_tr2 (fr_F5_close_b84 h _) (Sub_rfl _) ht7) (FR_ck fun z100 => (FR_st (fun t8 ht8 => (FR_tr2 (fr_F5_close_b84 h _) (Sub_rfl _) ht8)) (Fr_sI ht7 (In_a 3 rfl))))))) (Fr_sI ht4 (In_a 3 rfl))))) (Fr_sI ht2 (In_a 2 rfl))))))) (Fr_sI hσ (In_o 1 rfl))) (FR_some hσ))))
theorem fr_F6_parseEnd_b12 (q1 : Nat) (N : Nat) (σ : Ms) : FR (W6_parseEnd q1) σ (F6_parseEnd_b12 N q1 σ) :=
  have hσ := Fr_rfl (W6_parseEnd q1) σ
  (FR_bn (fr_F8_step _ _) (Sub_of [0, 1, 2, 3] rfl) hσ fun r1 t2 ht2 => (FR_bn (fr_F8_takeClose _ _) (Sub_of [4, 5, 0, 1, 2, 3] rfl) ht2 fun r3 t4 ht4 => (FR_if (FR_some ht4) (FR_bn (fr_F5_close q1 _) (Sub_of [6, 7, 8, 9] rfl) ht4 fun r5 t6 ht6 => (FR_some ht6)))))
theorem fr_F6_parseEnd (q1 : Nat) (N : Nat) (σ : Ms) : FR (W6_parseEnd q1) σ (F6_parseEnd N q1 σ) :=
  have hσ := Fr_rfl (W6_parseEnd q1) σ
  (FR_if (FR_tr2 (fr_F6_parseEnd_b12 q1 _ _) (Sub_rfl _) hσ) (FR_bn (fr_F8_refuse _ _) (Sub_of [4, 5] rfl) hσ fun r7 t8 ht8 => (FR_tr2 (fr_F6_parseEnd_b12 q1 _ _) (Sub_rfl _) ht8)))
theorem fr_F6_kindHere (N : Nat) (σ : Ms) : FR W6_kindHere σ (F6_kindHere N σ) :=
  have hσ := Fr_rfl W6_kindHere σ
  (FR_bn (fr_F8_isWord 10 _ _) (Sub_nil _) hσ fun r1 t2 ht2 => (FR_if (FR_bn (fr_F8_isWord 11 _ _) (Sub_nil _) ht2 fun r3 t4 ht4 => (FR_if (FR_bn (fr_F8_isWord 12 _ _) (Sub_nil _) ht4 fun r5 t6 ht6 => (FR_if (FR_bn (fr_F8_isWord 13 _ _) (Sub_nil _) ht6 fun r7 t8 ht8 => (FR_if (FR_bn (fr_F8_isWord 14 _ _) (Sub_nil _) ht8 fun r9 t10 ht10 => (FR_if (FR_bn (fr_F8_isWord 15 _ _) (Sub_nil _) ht10 fun r11 t12 ht12 => (FR_if (FR_bn (fr_F8_isWord 16 _ _) (Sub_nil _) ht12 fun r13 t14 ht14 => (FR_if (FR_bn (fr_F8_isWord 17 _ _) (Sub_nil _) ht14 fun r15 t16 ht16 => (FR_if (FR_some ht16) (FR_some ht16))) (FR_some ht14))) (FR_some ht12))) (FR_some ht10))) (FR_some ht8))) (FR_some ht6))) (FR_some ht4))) (FR_some ht2)))
theorem fr_F8_takeSide_b38 (N : Nat) (l1 : Int32) (σ : Ms) : FR W8_takeSide σ (F8_takeSide_b38 N l1 σ) :=
  have hσ := Fr_rfl W8_takeSide σ
  (FR_bn (fr_F8_step _ _) (Sub_of [0, 1, 2, 3] rfl) hσ fun r1 t2 ht2 => (FR_some ht2))
theorem fr_F8_takeSide_b27 (N : Nat) (s0 : Int32) (σ : Ms) : FR W8_takeSide σ (F8_takeSide_b27 N s0 σ) :=
  have hσ := Fr_rfl W8_takeSide σ
  (FR_if (FR_tr2 (fr_F8_takeSide_b38 _ _ _) (Sub_rfl _) hσ) (FR_bn (fr_F8_refuse _ _) (Sub_of [4, 5] rfl) hσ fun r3 t4 ht4 => (FR_tr2 (fr_F8_takeSide_b38 _ _ _) (Sub_rfl _) ht4)))
theorem fr_F8_takeSide (N : Nat) (σ : Ms) : FR W8_takeSide σ (F8_takeSide N σ) :=
  have hσ := Fr_rfl W8_takeSide σ
  (FR_bn (fr_F8_isWord 7 _ _) (Sub_nil _) hσ fun r5 t6 ht6 => (FR_if (FR_bn (fr_F8_isWord 8 _ _) (Sub_nil _) ht6 fun r7 t8 ht8 => (FR_if (FR_tr2 (fr_F8_takeSide_b27 _ _ _) (Sub_rfl _) ht8) (FR_tr2 (fr_F8_takeSide_b27 _ _ _) (Sub_rfl _) ht8))) (FR_tr2 (fr_F8_takeSide_b27 _ _ _) (Sub_rfl _) ht6)))
theorem fr_F6_parseDeed (q1 : Nat) (N : Nat) (p2 : Int32) (p3 : Int32) (σ : Ms) : FR (W6_parseDeed q1) σ (F6_parseDeed N q1 p2 p3 σ) :=
  have hσ := Fr_rfl (W6_parseDeed q1) σ
  (FR_bn (fr_F8_takeSide _ _) (Sub_of [0, 1, 2, 3, 4, 5] rfl) hσ fun r1 t2 ht2 => (FR_bn (fr_F8_takeNumber _ _ _ _) (Sub_of [0, 1, 2, 3, 4, 5] rfl) ht2 fun r3 t4 ht4 => (FR_bn (fr_F5_add q1 _ _ _ _ _) (Sub_of [6, 7, 8, 9, 10, 11, 12, 13, 14] rfl) ht4 fun r5 t6 ht6 => (FR_some ht6))))
theorem fr_F6_parseLess (q1 : Nat) (N : Nat) (σ : Ms) : FR (W6_parseLess q1) σ (F6_parseLess N q1 σ) :=
  have hσ := Fr_rfl (W6_parseLess q1) σ
  (FR_bn (fr_F8_takeNumber _ _ _ _) (Sub_of [0, 1, 2, 3, 4, 5] rfl) hσ fun r1 t2 ht2 => (FR_bn (fr_F8_takeNumber _ _ _ _) (Sub_of [0, 1, 2, 3, 4, 5] rfl) ht2 fun r3 t4 ht4 => (FR_bn (fr_F5_add q1 _ _ _ _ _) (Sub_of [6, 7, 8, 9, 10, 11, 12, 13, 14] rfl) ht4 fun r5 t6 ht6 => (FR_some ht6))))
theorem fr_F6_parseGrow_b28 (q1 : Nat) (N : Nat) (l2 : Int32) (l3 : Int32) (σ : Ms) : FR (W6_parseGrow q1) σ (F6_parseGrow_b28 N q1 l2 l3 σ) :=
  have hσ := Fr_rfl (W6_parseGrow q1) σ
  (FR_bn (fr_F5_add q1 _ _ _ _ _) (Sub_of [0, 1, 2, 3, 4, 5, 6, 7, 8] rfl) hσ fun r1 t2 ht2 => (FR_some ht2))
theorem fr_F6_parseGrow (q1 : Nat) (N : Nat) (σ : Ms) : FR (W6_parseGrow q1) σ (F6_parseGrow N q1 σ) :=
  have hσ := Fr_rfl (W6_parseGrow q1) σ
  (FR_bn (fr_F8_takeColour _ _) (Sub_of [9, 10, 11, 12, 13, 14] rfl) hσ fun r3 t4 ht4 => (FR_bn (fr_F8_isWord 3 _ _) (Sub_nil _) ht4 fun r5 t6 ht6 => (FR_if (FR_tr2 (fr_F6_parseGrow_b28 q1 _ _ _ _) (Sub_rfl _) ht6) (FR_bn (fr_F8_step _ _) (Sub_of [9, 10, 11, 12] rfl) ht6 fun r7 t8 ht8 => (FR_bn (fr_F8_takeNumber _ _ _ _) (Sub_of [9, 10, 11, 12, 13, 14] rfl) ht8 fun r9 t10 ht10 => (FR_tr2 (fr_F6_parseGrow_b28 q1 _ _ _ _) (Sub_rfl _) ht10))))))
theorem fr_F6_testHere (N : Nat) (σ : Ms) : FR W6_testHere σ (F6_testHere N σ) :=
  have hσ := Fr_rfl W6_testHere σ
  (FR_bn (fr_F8_isWord 18 _ _) (Sub_nil _) hσ fun r1 t2 ht2 => (FR_if (FR_bn (fr_F8_isWord 19 _ _) (Sub_nil _) ht2 fun r3 t4 ht4 => (FR_if (FR_bn (fr_F8_isWord 20 _ _) (Sub_nil _) ht4 fun r5 t6 ht6 => (FR_if (FR_bn (fr_F8_isWord 21 _ _) (Sub_nil _) ht6 fun r7 t8 ht8 => (FR_if (FR_some ht8) (FR_some ht8))) (FR_some ht6))) (FR_some ht4))) (FR_some ht2)))
theorem fr_F6_takeComparison_b51 (N : Nat) (l1 : Int32) (σ : Ms) : FR W6_takeComparison σ (F6_takeComparison_b51 N l1 σ) :=
  have hσ := Fr_rfl W6_takeComparison σ
  (FR_bn (fr_F8_step _ _) (Sub_of [0, 1, 2, 3] rfl) hσ fun r1 t2 ht2 => (FR_some ht2))
theorem fr_F6_takeComparison_b40 (N : Nat) (s0 : Int32) (σ : Ms) : FR W6_takeComparison σ (F6_takeComparison_b40 N s0 σ) :=
  have hσ := Fr_rfl W6_takeComparison σ
  (FR_if (FR_tr2 (fr_F6_takeComparison_b51 _ _ _) (Sub_rfl _) hσ) (FR_bn (fr_F8_refuse _ _) (Sub_of [4, 5] rfl) hσ fun r3 t4 ht4 => (FR_tr2 (fr_F6_takeComparison_b51 _ _ _) (Sub_rfl _) ht4)))
theorem fr_F6_takeComparison (N : Nat) (σ : Ms) : FR W6_takeComparison σ (F6_takeComparison N σ) :=
  have hσ := Fr_rfl W6_takeComparison σ
  (FR_bn (fr_F8_isMark _ _) (Sub_nil _) hσ fun r5 t6 ht6 => (FR_if (FR_bn (fr_F8_isMark _ _) (Sub_nil _) ht6 fun r7 t8 ht8 => (FR_if (FR_bn (fr_F8_isMark _ _) (Sub_nil _) ht8 fun r9 t10 ht10 => (FR_if (FR_tr2 (fr_F6_takeComparison_b40 _ _ _) (Sub_rfl _) ht10) (FR_tr2 (fr_F6_takeComparison_b40 _ _ _) (Sub_rfl _) ht10))) (FR_tr2 (fr_F6_takeComparison_b40 _ _ _) (Sub_rfl _) ht8))) (FR_tr2 (fr_F6_takeComparison_b40 _ _ _) (Sub_rfl _) ht6)))
theorem fr_F6_parseWhen_b110 (q1 : Nat) (N : Nat) (l2 : Int32) (l3 : Int32) (l4 : Int32) (σ : Ms) : FR (W6_parseWhen q1) σ (F6_parseWhen_b110 N q1 l2 l3 l4 σ) :=
  have hσ := Fr_rfl (W6_parseWhen q1) σ
  (FR_bn (fr_F5_add q1 _ _ _ _ _) (Sub_of [0, 1, 2, 3, 4, 5, 6, 7, 8] rfl) hσ fun r1 t2 ht2 => (FR_some ht2))
theorem fr_F6_parseWhen_b37 (q1 : Nat) (N : Nat) (l2 : Int32) (s0 : Int32) (σ : Ms) : FR (W6_parseWhen q1) σ (F6_parseWhen_b37 N q1 l2 s0 σ) :=
  have hσ := Fr_rfl (W6_parseWhen q1) σ
  (FR_if (FR_bn (fr_F8_takeNumber _ _ _ _) (Sub_of [9, 10, 11, 12, 13, 14] rfl) hσ fun r3 t4 ht4 => (FR_tr2 (fr_F6_parseWhen_b110 q1 _ _ _ _ _) (Sub_rfl _) ht4)) (FR_if (FR_bn (fr_F8_takeNumber _ _ _ _) (Sub_of [9, 10, 11, 12, 13, 14] rfl) hσ fun r5 t6 ht6 => (FR_tr2 (fr_F6_parseWhen_b110 q1 _ _ _ _ _) (Sub_rfl _) ht6)) (FR_if (FR_bn (fr_F8_takeNumber _ _ _ _) (Sub_of [9, 10, 11, 12, 13, 14] rfl) hσ fun r7 t8 ht8 => (FR_tr2 (fr_F6_parseWhen_b110 q1 _ _ _ _ _) (Sub_rfl _) ht8)) (FR_bn (fr_F8_takeSide _ _) (Sub_of [9, 10, 11, 12, 13, 14] rfl) hσ fun r9 t10 ht10 => (FR_tr2 (fr_F6_parseWhen_b110 q1 _ _ _ _ _) (Sub_rfl _) ht10)))))
theorem fr_F6_parseWhen_b29 (q1 : Nat) (N : Nat) (l2 : Int32) (σ : Ms) : FR (W6_parseWhen q1) σ (F6_parseWhen_b29 N q1 l2 σ) :=
  have hσ := Fr_rfl (W6_parseWhen q1) σ
  (FR_bn (fr_F6_takeComparison _ _) (Sub_of [9, 10, 11, 12, 13, 14] rfl) hσ fun r11 t12 ht12 => (FR_tr2 (fr_F6_parseWhen_b37 q1 _ _ _ _) (Sub_rfl _) ht12))
theorem fr_F6_parseWhen_b15 (q1 : Nat) (N : Nat) (l2 : Int32) (σ : Ms) : FR (W6_parseWhen q1) σ (F6_parseWhen_b15 N q1 l2 σ) :=
  have hσ := Fr_rfl (W6_parseWhen q1) σ
  (FR_bn (fr_F8_step _ _) (Sub_of [9, 10, 11, 12] rfl) hσ fun r13 t14 ht14 => (FR_if (FR_tr2 (fr_F6_parseWhen_b29 q1 _ _ _) (Sub_rfl _) ht14) (FR_if (FR_tr2 (fr_F6_parseWhen_b37 q1 _ _ _ _) (Sub_rfl _) ht14) (FR_tr2 (fr_F6_parseWhen_b29 q1 _ _ _) (Sub_rfl _) ht14))))
theorem fr_F6_parseWhen (q1 : Nat) (N : Nat) (σ : Ms) : FR (W6_parseWhen q1) σ (F6_parseWhen N q1 σ) :=
  have hσ := Fr_rfl (W6_parseWhen q1) σ
  (FR_bn (fr_F6_testHere _ _) (Sub_nil _) hσ fun r15 t16 ht16 => (FR_if (FR_tr2 (fr_F6_parseWhen_b15 q1 _ _ _) (Sub_rfl _) ht16) (FR_bn (fr_F8_refuse _ _) (Sub_of [13, 14] rfl) ht16 fun r17 t18 ht18 => (FR_tr2 (fr_F6_parseWhen_b15 q1 _ _ _) (Sub_rfl _) ht18))))
theorem fr_F6_parseStep_b170 (q1 : Nat) (N : Nat) (σ : Ms) : FR (W6_parseStep q1) σ (F6_parseStep_b170 N q1 σ) :=
  have hσ := Fr_rfl (W6_parseStep q1) σ
  (FR_bn (fr_F8_takeClose _ _) (Sub_of [0, 1, 2, 3, 4, 5] rfl) hσ fun r1 t2 ht2 => (FR_some ht2))
theorem fr_F6_parseStep_b51 (q1 : Nat) (N : Nat) (l2 : Int32) (σ : Ms) : FR (W6_parseStep q1) σ (F6_parseStep_b51 N q1 l2 σ) :=
  have hσ := Fr_rfl (W6_parseStep q1) σ
  (FR_bn (fr_F8_step _ _) (Sub_of [2, 3, 4, 5] rfl) hσ fun r3 t4 ht4 => (FR_if (FR_bn (fr_F6_parseDeed q1 _ _ _ _) (Sub_of [2, 3, 4, 5, 0, 1, 6, 7, 8, 9, 10, 11, 12, 13, 14] rfl) ht4 fun r5 t6 ht6 => (FR_tr2 (fr_F6_parseStep_b170 q1 _ _) (Sub_rfl _) ht6)) (FR_if (FR_bn (fr_F6_parseDeed q1 _ _ _ _) (Sub_of [2, 3, 4, 5, 0, 1, 6, 7, 8, 9, 10, 11, 12, 13, 14] rfl) ht4 fun r7 t8 ht8 => (FR_tr2 (fr_F6_parseStep_b170 q1 _ _) (Sub_rfl _) ht8)) (FR_if (FR_bn (fr_F6_parseLess q1 _ _) (Sub_of [2, 3, 4, 5, 0, 1, 6, 7, 8, 9, 10, 11, 12, 13, 14] rfl) ht4 fun r9 t10 ht10 => (FR_tr2 (fr_F6_parseStep_b170 q1 _ _) (Sub_rfl _) ht10)) (FR_if (FR_bn (fr_F6_parseGrow q1 _ _) (Sub_of [6, 7, 8, 9, 10, 11, 12, 13, 14, 2, 3, 4, 5, 0, 1] rfl) ht4 fun r11 t12 ht12 => (FR_tr2 (fr_F6_parseStep_b170 q1 _ _) (Sub_rfl _) ht12)) (FR_if (FR_bn (fr_F5_add q1 _ _ _ _ _) (Sub_of [6, 7, 8, 9, 10, 11, 12, 13, 14] rfl) ht4 fun r13 t14 ht14 => (FR_tr2 (fr_F6_parseStep_b170 q1 _ _) (Sub_rfl _) ht14)) (FR_if (FR_bn (fr_F6_parseWhen q1 _ _) (Sub_of [6, 7, 8, 9, 10, 11, 12, 13, 14, 2, 3, 4, 5, 0, 1] rfl) ht4 fun r15 t16 ht16 => (FR_tr2 (fr_F6_parseStep_b170 q1 _ _) (Sub_rfl _) ht16)) (FR_if (FR_bn (fr_F8_takeNumber _ _ _ _) (Sub_of [2, 3, 4, 5, 0, 1] rfl) ht4 fun r17 t18 ht18 => (FR_bn (fr_F5_add q1 _ _ _ _ _) (Sub_of [6, 7, 8, 9, 10, 11, 12, 13, 14] rfl) ht18 fun r19 t20 ht20 => (FR_tr2 (fr_F6_parseStep_b170 q1 _ _) (Sub_rfl _) ht20))) (FR_bn (fr_F5_add q1 _ _ _ _ _) (Sub_of [6, 7, 8, 9, 10, 11, 12, 13, 14] rfl) ht4 fun r21 t22 ht22 => (FR_tr2 (fr_F6_parseStep_b170 q1 _ _) (Sub_rfl _) ht22))))))))))
theorem fr_F6_parseStep_b30 (q1 : Nat) (N : Nat) (l2 : Int32) (σ : Ms) : FR (W6_parseStep q1) σ (F6_parseStep_b30 N q1 l2 σ) :=
  have hσ := Fr_rfl (W6_parseStep q1) σ
  (FR_bn (fr_F5_isBlock _ _) (Sub_nil _) hσ fun r23 t24 ht24 => (FR_if (FR_tr2 (fr_F6_parseStep_b51 q1 _ _ _) (Sub_rfl _) ht24) (FR_if (FR_tr2 (fr_F6_parseStep_b51 q1 _ _ _) (Sub_rfl _) ht24) (FR_bn (fr_F8_refuse _ _) (Sub_of [0, 1] rfl) ht24 fun r25 t26 ht26 => (FR_tr2 (fr_F6_parseStep_b51 q1 _ _ _) (Sub_rfl _) ht26)))))
theorem fr_F6_parseStep_b15 (q1 : Nat) (N : Nat) (l2 : Int32) (σ : Ms) : FR (W6_parseStep q1) σ (F6_parseStep_b15 N q1 l2 σ) :=
  have hσ := Fr_rfl (W6_parseStep q1) σ
  (FR_if (FR_tr2 (fr_F6_parseStep_b30 q1 _ _ _) (Sub_rfl _) hσ) (FR_bn (fr_F8_refuse _ _) (Sub_of [0, 1] rfl) hσ fun r27 t28 ht28 => (FR_tr2 (fr_F6_parseStep_b30 q1 _ _ _) (Sub_rfl _) ht28)))
theorem fr_F6_parseStep (q1 : Nat) (N : Nat) (σ : Ms) : FR (W6_parseStep q1) σ (F6_parseStep N q1 σ) :=
  have hσ := Fr_rfl (W6_parseStep q1) σ
  (FR_bn (fr_F6_kindHere _ _) (Sub_nil _) hσ fun r29 t30 ht30 => (FR_if (FR_tr2 (fr_F6_parseStep_b15 q1 _ _ _) (Sub_rfl _) ht30) (FR_bn (fr_F8_refuse _ _) (Sub_of [0, 1] rfl) ht30 fun r31 t32 ht32 => (FR_tr2 (fr_F6_parseStep_b15 q1 _ _ _) (Sub_rfl _) ht32))))
theorem fr_F6_parse_b48 (q1 : Nat) (N : Nat) (σ : Ms) : FR (W6_parse q1) σ (F6_parse_b48 N q1 σ) :=
  have hσ := Fr_rfl (W6_parse q1) σ
  (FR_if (FR_some hσ) (FR_bn (fr_F8_refuse _ _) (Sub_of [0, 1] rfl) hσ fun r1 t2 ht2 => (FR_some ht2)))
theorem fr_F6_parse_b42 (q1 : Nat) (N : Nat) (k6 : Int32 × Ms → Option (Unit × Ms)) (hk6 : ∀ x, FR (W6_parse q1) x.2 (k6 x)) (l2 : Int32) (σ : Ms) : FR (W6_parse q1) σ (F6_parse_b42 N q1 k6 l2 σ) :=
  have hσ := Fr_rfl (W6_parse q1) σ
  (FR_tr hσ (hk6 ((l2 + (1 : Int32)), σ)))
theorem fr_F6_parse_b6B (q1 : Nat) (N : Nat) (k6 : Int32 × Ms → Option (Unit × Ms)) (hk6 : ∀ x, FR (W6_parse q1) x.2 (k6 x)) (l2 : Int32) (σ : Ms) : FR (W6_parse q1) σ (F6_parse_b6B N q1 k6 l2 σ) :=
  have hσ := Fr_rfl (W6_parse q1) σ
  (FR_if (FR_tr2 (fr_F6_parse_b48 q1 _ _) (Sub_rfl _) hσ) (FR_bn (fr_F8_goesOn _) (Sub_nil _) hσ fun r3 t4 ht4 => (FR_if (FR_tr2 (fr_F6_parse_b48 q1 _ _) (Sub_rfl _) ht4) (FR_bn (fr_F8_isWord 9 _ _) (Sub_nil _) ht4 fun r5 t6 ht6 => (FR_if (FR_bn (fr_F6_parseStep q1 _ _) (Sub_of [0, 1, 2, 3, 4, 5, 6, 7, 8, 9, 10, 11, 12, 13, 14] rfl) ht6 fun r7 t8 ht8 => (FR_tr2 (fr_F6_parse_b42 q1 _ _ hk6 _ _) (Sub_rfl _) ht8)) (FR_bn (fr_F6_parseEnd q1 _ _) (Sub_of [2, 3, 4, 5, 0, 1, 6, 14, 8, 12] rfl) ht6 fun r9 t10 ht10 => (FR_tr2 (fr_F6_parse_b42 q1 _ _ hk6 _ _) (Sub_rfl _) ht10)))))))
theorem fr_F6_parse_b6 (q1 : Nat) (N : Nat) (l2 : Int32) (σ : Ms) : FR (W6_parse q1) σ (F6_parse_b6 N q1 l2 σ) := by
  unfold F6_parse_b6
  exact @FR_fx (Int32 × Ms) (Unit) (W6_parse q1) (fun k x => F6_parse_b6B N q1 k x.1 x.2) (fun x => x.2) (fun k hk x => fr_F6_parse_b6B q1 N k hk x.1 x.2) N (l2, σ)
theorem fr_F6_parse (q1 : Nat) (N : Nat) (σ : Ms) : FR (W6_parse q1) σ (F6_parse N q1 σ) :=
  have hσ := Fr_rfl (W6_parse q1) σ
  (FR_bn (fr_F5_begin q1 _) (Sub_of [15, 7, 6, 14] rfl) hσ fun r11 t12 ht12 => (FR_tr2 (fr_F6_parse_b6 q1 _ _ _) (Sub_rfl _) ht12))
theorem fr_F7_balances_b36 (q0 : Nat) (N : Nat) (k8 : Int32 × Int32 × Int32 × Ms → Option (Int32 × Ms)) (hk8 : ∀ x, FR (W7_balances q0) x.2.2.2 (k8 x)) (l2 : Int32) (l3 : Int32) (l4 : Int32) (σ : Ms) : FR (W7_balances q0) σ (F7_balances_b36 N q0 k8 l2 l3 l4 σ) :=
  have hσ := Fr_rfl (W7_balances q0) σ
  (FR_tr hσ (hk8 (l2, l3, (l4 + (1 : Int32)), σ)))
theorem fr_F7_balances_b8B (q0 : Nat) (N : Nat) (k8 : Int32 × Int32 × Int32 × Ms → Option (Int32 × Ms)) (hk8 : ∀ x, FR (W7_balances q0) x.2.2.2 (k8 x)) (l2 : Int32) (l3 : Int32) (l4 : Int32) (σ : Ms) : FR (W7_balances q0) σ (F7_balances_b8B N q0 k8 l2 l3 l4 σ) :=
  have hσ := Fr_rfl (W7_balances q0) σ
  (FR_if (FR_bn (fr_F0_worthWith q0 _ _ _) (Sub_of [0] rfl) hσ fun r1 t2 ht2 => (FR_if (FR_some ht2) (FR_bn (fr_F0_nimWith q0 _ _ _) (Sub_of [1] rfl) ht2 fun r3 t4 ht4 => (FR_if (FR_some ht4) (FR_some ht4))))) (FR_bn (fr_F11_isIn _ _ _) (Sub_nil _) hσ fun r5 t6 ht6 => (FR_if (FR_tr2 (fr_F7_balances_b36 q0 _ _ hk8 _ _ _ _) (Sub_rfl _) ht6) (FR_ck fun z101 => (FR_lv fun x7 => (FR_tr2 (fr_F7_balances_b36 q0 _ _ hk8 _ _ _ _) (Sub_rfl _) ht6))))))
theorem fr_F7_balances_b8 (q0 : Nat) (N : Nat) (l2 : Int32) (l3 : Int32) (l4 : Int32) (σ : Ms) : FR (W7_balances q0) σ (F7_balances_b8 N q0 l2 l3 l4 σ) := by
  unfold F7_balances_b8
  exact @FR_fx (Int32 × Int32 × Int32 × Ms) (Int32) (W7_balances q0) (fun k x => F7_balances_b8B N q0 k x.1 x.2.1 x.2.2.1 x.2.2.2) (fun x => x.2.2.2) (fun k hk x => fr_F7_balances_b8B q0 N k hk x.1 x.2.1 x.2.2.1 x.2.2.2) N (l2, l3, l4, σ)
theorem fr_F7_balances (q0 : Nat) (N : Nat) (p1 : Int32) (σ : Ms) : FR (W7_balances q0) σ (F7_balances N q0 p1 σ) :=
  have hσ := Fr_rfl (W7_balances q0) σ
  (FR_lv fun x8 => (FR_tr2 (fr_F7_balances_b8 q0 _ _ _ _ _) (Sub_rfl _) hσ))
theorem fr_F7_nextOfSize (p0 : Int32) (σ : Ms) : FR W7_nextOfSize σ (F7_nextOfSize p0 σ) :=
  have hσ := Fr_rfl W7_nextOfSize σ
  (FR_if (FR_lv fun x1 => (FR_lv fun x2 => (FR_bn (fr_FJ6_numberOfTrailingZeros_0f7a4 _ _) (Sub_nil _) hσ fun r3 t4 ht4 => (FR_some ht4)))) (FR_some hσ))
theorem fr_F7_leastOf_b49 (q0 : Nat) (N : Nat) (k9 : Int32 × Int32 × Ms → Option (Int32 × Ms)) (hk9 : ∀ x, FR (W7_leastOf q0) x.2.2 (k9 x)) (l3 : Int32) (l4 : Int32) (σ : Ms) : FR (W7_leastOf q0) σ (F7_leastOf_b49 N q0 k9 l3 l4 σ) :=
  have hσ := Fr_rfl (W7_leastOf q0) σ
  (FR_bn (fr_F7_nextOfSize _ _) (Sub_nil _) hσ fun r1 t2 ht2 => (FR_tr ht2 (hk9 (r1, (l4 + (1 : Int32)), t2))))
theorem fr_F7_leastOf_b9B (q0 : Nat) (N : Nat) (k9 : Int32 × Int32 × Ms → Option (Int32 × Ms)) (hk9 : ∀ x, FR (W7_leastOf q0) x.2.2 (k9 x)) (l3 : Int32) (l4 : Int32) (σ : Ms) : FR (W7_leastOf q0) σ (F7_leastOf_b9B N q0 k9 l3 l4 σ) :=
  have hσ := Fr_rfl (W7_leastOf q0) σ
  (FR_if (FR_some hσ) (FR_if (FR_some hσ) (FR_if (FR_tr2 (fr_F7_leastOf_b49 q0 _ _ hk9 _ _ _) (Sub_rfl _) hσ) (FR_bn (fr_F7_balances q0 _ _ _) (Sub_of [0, 1] rfl) hσ fun r3 t4 ht4 => (FR_if (FR_tr2 (fr_F7_leastOf_b49 q0 _ _ hk9 _ _ _) (Sub_rfl _) ht4) (FR_some ht4))))))
theorem fr_F7_leastOf_b9 (q0 : Nat) (N : Nat) (l3 : Int32) (l4 : Int32) (σ : Ms) : FR (W7_leastOf q0) σ (F7_leastOf_b9 N q0 l3 l4 σ) := by
  unfold F7_leastOf_b9
  exact @FR_fx (Int32 × Int32 × Ms) (Int32) (W7_leastOf q0) (fun k x => F7_leastOf_b9B N q0 k x.1 x.2.1 x.2.2) (fun x => x.2.2) (fun k hk x => fr_F7_leastOf_b9B q0 N k hk x.1 x.2.1 x.2.2) N (l3, l4, σ)
theorem fr_F7_leastOf (q0 : Nat) (N : Nat) (p1 : Int32) (σ : Ms) : FR (W7_leastOf q0) σ (F7_leastOf N q0 p1 σ) :=
  have hσ := Fr_rfl (W7_leastOf q0) σ
  (FR_lv fun x5 => (FR_tr2 (fr_F7_leastOf_b9 q0 _ _ _ _) (Sub_rfl _) hσ))
theorem fr_F7_balancing_b29B (q0 : Nat) (N : Nat) (k29 : Int32 × Int32 × Ms → Option (Int32 × Ms)) (hk29 : ∀ x, FR (W7_balancing q0) x.2.2 (k29 x)) (l2 : Int32) (l3 : Int32) (σ : Ms) : FR (W7_balancing q0) σ (F7_balancing_b29B N q0 k29 l2 l3 σ) :=
  have hσ := Fr_rfl (W7_balancing q0) σ
  (FR_if (FR_some hσ) (FR_if (FR_some hσ) (FR_bn (fr_F7_leastOf q0 _ _ _) (Sub_of [1, 2] rfl) hσ fun r1 t2 ht2 => (FR_tr ht2 (hk29 (r1, (l3 + (1 : Int32)), t2))))))
theorem fr_F7_balancing_b29 (q0 : Nat) (N : Nat) (l2 : Int32) (l3 : Int32) (σ : Ms) : FR (W7_balancing q0) σ (F7_balancing_b29 N q0 l2 l3 σ) := by
  unfold F7_balancing_b29
  exact @FR_fx (Int32 × Int32 × Ms) (Int32) (W7_balancing q0) (fun k x => F7_balancing_b29B N q0 k x.1 x.2.1 x.2.2) (fun x => x.2.2) (fun k hk x => fr_F7_balancing_b29B q0 N k hk x.1 x.2.1 x.2.2) N (l2, l3, σ)
theorem fr_F7_balancing_b2B (q0 : Nat) (N : Nat) (k2 : Int32 × Ms → Option (Int32 × Ms)) (hk2 : ∀ x, FR (W7_balancing q0) x.2 (k2 x)) (l2 : Int32) (σ : Ms) : FR (W7_balancing q0) σ (F7_balancing_b2B N q0 k2 l2 σ) :=
  have hσ := Fr_rfl (W7_balancing q0) σ
  (FR_if (FR_tr2 (fr_F7_balancing_b29 q0 _ _ _ _) (Sub_rfl _) hσ) (FR_bn (fr_F0_branchSet q0 _ _ _) (Sub_nil _) hσ fun r3 t4 ht4 => (FR_ck fun z102 => (FR_st (fun t5 ht5 => (FR_tr ht5 (hk2 ((l2 + (1 : Int32)), t5)))) (Fr_sI ht4 (In_a 0 rfl))))))
theorem fr_F7_balancing_b2 (q0 : Nat) (N : Nat) (l2 : Int32) (σ : Ms) : FR (W7_balancing q0) σ (F7_balancing_b2 N q0 l2 σ) := by
  unfold F7_balancing_b2
  exact @FR_fx (Int32 × Ms) (Int32) (W7_balancing q0) (fun k x => F7_balancing_b2B N q0 k x.1 x.2) (fun x => x.2) (fun k hk x => fr_F7_balancing_b2B q0 N k hk x.1 x.2) N (l2, σ)
theorem fr_F7_balancing (q0 : Nat) (N : Nat) (σ : Ms) : FR (W7_balancing q0) σ (F7_balancing N q0 σ) :=
  have hσ := Fr_rfl (W7_balancing q0) σ
  (FR_tr2 (fr_F7_balancing_b2 q0 _ _ _) (Sub_rfl _) hσ)
theorem fr_F7_leavesToLuck_b61 (q0 : Nat) (N : Nat) (k37 : Int32 × Ms → Option (Int32 × Ms)) (hk37 : ∀ x, FR (W7_leavesToLuck q0) x.2 (k37 x)) (l1 : Int32) (σ : Ms) : FR (W7_leavesToLuck q0) σ (F7_leavesToLuck_b61 N q0 k37 l1 σ) :=
  have hσ := Fr_rfl (W7_leavesToLuck q0) σ
  (FR_tr hσ (hk37 ((l1 + (1 : Int32)), σ)))
theorem fr_F7_leavesToLuck_b37B (q0 : Nat) (N : Nat) (k37 : Int32 × Ms → Option (Int32 × Ms)) (hk37 : ∀ x, FR (W7_leavesToLuck q0) x.2 (k37 x)) (l1 : Int32) (σ : Ms) : FR (W7_leavesToLuck q0) σ (F7_leavesToLuck_b37B N q0 k37 l1 σ) :=
  have hσ := Fr_rfl (W7_leavesToLuck q0) σ
  (FR_if (FR_some hσ) (FR_bn (fr_F0_hasHeap q0 _ _) (Sub_nil _) hσ fun r1 t2 ht2 => (FR_if (FR_tr2 (fr_F7_leavesToLuck_b61 q0 _ _ hk37 _ _) (Sub_rfl _) ht2) (FR_ck fun z103 => (FR_if (FR_tr2 (fr_F7_leavesToLuck_b61 q0 _ _ hk37 _ _) (Sub_rfl _) ht2) (FR_some ht2))))))
theorem fr_F7_leavesToLuck_b37 (q0 : Nat) (N : Nat) (l1 : Int32) (σ : Ms) : FR (W7_leavesToLuck q0) σ (F7_leavesToLuck_b37 N q0 l1 σ) := by
  unfold F7_leavesToLuck_b37
  exact @FR_fx (Int32 × Ms) (Int32) (W7_leavesToLuck q0) (fun k x => F7_leavesToLuck_b37B N q0 k x.1 x.2) (fun x => x.2) (fun k hk x => fr_F7_leavesToLuck_b37B q0 N k hk x.1 x.2) N (l1, σ)
theorem fr_F7_leavesToLuck (q0 : Nat) (N : Nat) (σ : Ms) : FR (W7_leavesToLuck q0) σ (F7_leavesToLuck N q0 σ) :=
  have hσ := Fr_rfl (W7_leavesToLuck q0) σ
  (FR_bn (fr_FJ6_bitCount_0f7a4 _ _) (Sub_nil _) hσ fun r3 t4 ht4 => (FR_if (FR_some ht4) (FR_if (FR_bn (fr_F0_hottestBut q0 _ _ _) (Sub_nil _) ht4 fun r5 t6 ht6 => (FR_if (FR_tr2 (fr_F7_leavesToLuck_b37 q0 _ _ _) (Sub_rfl _) ht6) (FR_some ht6))) (FR_some ht4))))
theorem fr_F7_gather_b106 (q0 : Nat) (N : Nat) (k45 : Int32 × Int32 × Ms → Option (Int32 × Ms)) (hk45 : ∀ x, FR (W7_gather q0) x.2.2 (k45 x)) (k72 : Int32 × Int32 × Int32 × Int32 × Ms → Option (Int32 × Ms)) (hk72 : ∀ x, FR (W7_gather q0) x.2.2.2.2 (k72 x)) (l2 : Int32) (l3 : Int32) (l4 : Int32) (l5 : Int32) (σ : Ms) : FR (W7_gather q0) σ (F7_gather_b106 N q0 k45 k72 l2 l3 l4 l5 σ) :=
  have hσ := Fr_rfl (W7_gather q0) σ
  (FR_tr hσ (hk72 (l2, l3, l4, (l5 + (1 : Int32)), σ)))
theorem fr_F7_gather_b72B (q0 : Nat) (N : Nat) (k45 : Int32 × Int32 × Ms → Option (Int32 × Ms)) (hk45 : ∀ x, FR (W7_gather q0) x.2.2 (k45 x)) (k72 : Int32 × Int32 × Int32 × Int32 × Ms → Option (Int32 × Ms)) (hk72 : ∀ x, FR (W7_gather q0) x.2.2.2.2 (k72 x)) (l2 : Int32) (l3 : Int32) (l4 : Int32) (l5 : Int32) (σ : Ms) : FR (W7_gather q0) σ (F7_gather_b72B N q0 k45 k72 l2 l3 l4 l5 σ) :=
  have hσ := Fr_rfl (W7_gather q0) σ
  (FR_if (FR_tr hσ (hk45 (l2, (l3 + (1 : Int32)), σ))) (FR_ck fun z104 => (FR_bn (fr_F11_isIn _ _ _) (Sub_nil _) hσ fun r1 t2 ht2 => (FR_if (FR_tr2 (fr_F7_gather_b106 q0 _ _ hk45 _ hk72 _ _ _ _ _) (Sub_rfl _) ht2) (FR_ck fun z105 => (FR_ck fun z106 => (FR_st (fun t3 ht3 => (FR_tr2 (fr_F7_gather_b106 q0 _ _ hk45 _ hk72 _ _ _ _ _) (Sub_rfl _) ht3)) (Fr_sI ht2 (In_a 0 rfl)))))))))
theorem fr_F7_gather_b72 (q0 : Nat) (N : Nat) (k45 : Int32 × Int32 × Ms → Option (Int32 × Ms)) (hk45 : ∀ x, FR (W7_gather q0) x.2.2 (k45 x)) (l2 : Int32) (l3 : Int32) (l4 : Int32) (l5 : Int32) (σ : Ms) : FR (W7_gather q0) σ (F7_gather_b72 N q0 k45 l2 l3 l4 l5 σ) := by
  unfold F7_gather_b72
  exact @FR_fx (Int32 × Int32 × Int32 × Int32 × Ms) (Int32) (W7_gather q0) (fun k x => F7_gather_b72B N q0 k45 k x.1 x.2.1 x.2.2.1 x.2.2.2.1 x.2.2.2.2) (fun x => x.2.2.2.2) (fun k hk x => fr_F7_gather_b72B q0 N k45 hk45 k hk x.1 x.2.1 x.2.2.1 x.2.2.2.1 x.2.2.2.2) N (l2, l3, l4, l5, σ)
theorem fr_F7_gather_b45B (q0 : Nat) (N : Nat) (k45 : Int32 × Int32 × Ms → Option (Int32 × Ms)) (hk45 : ∀ x, FR (W7_gather q0) x.2.2 (k45 x)) (l2 : Int32) (l3 : Int32) (σ : Ms) : FR (W7_gather q0) σ (F7_gather_b45B N q0 k45 l2 l3 σ) :=
  have hσ := Fr_rfl (W7_gather q0) σ
  (FR_if (FR_some hσ) (FR_ck fun z107 => (FR_bn (fr_F0_branchSet q0 _ _ _) (Sub_nil _) hσ fun r4 t5 ht5 => (FR_ck fun z108 => (FR_st (fun t6 ht6 => (FR_tr2 (fr_F7_gather_b72 q0 _ _ hk45 _ _ _ _ _) (Sub_rfl _) ht6)) (Fr_sI ht5 (In_a 0 rfl)))))))
theorem fr_F7_gather_b45 (q0 : Nat) (N : Nat) (l2 : Int32) (l3 : Int32) (σ : Ms) : FR (W7_gather q0) σ (F7_gather_b45 N q0 l2 l3 σ) := by
  unfold F7_gather_b45
  exact @FR_fx (Int32 × Int32 × Ms) (Int32) (W7_gather q0) (fun k x => F7_gather_b45B N q0 k x.1 x.2.1 x.2.2) (fun x => x.2.2) (fun k hk x => fr_F7_gather_b45B q0 N k hk x.1 x.2.1 x.2.2) N (l2, l3, σ)
theorem fr_F7_gather_b43 (q0 : Nat) (N : Nat) (l2 : Int32) (σ : Ms) : FR (W7_gather q0) σ (F7_gather_b43 N q0 l2 σ) :=
  have hσ := Fr_rfl (W7_gather q0) σ
  (FR_tr2 (fr_F7_gather_b45 q0 _ _ _ _) (Sub_rfl _) hσ)
theorem fr_F7_gather_b37 (q0 : Nat) (N : Nat) (k4 : Int32 × Int32 × Ms → Option (Int32 × Ms)) (hk4 : ∀ x, FR (W7_gather q0) x.2.2 (k4 x)) (l2 : Int32) (l3 : Int32) (σ : Ms) : FR (W7_gather q0) σ (F7_gather_b37 N q0 k4 l2 l3 σ) :=
  have hσ := Fr_rfl (W7_gather q0) σ
  (FR_tr hσ (hk4 (l2, (l3 + (1 : Int32)), σ)))
theorem fr_F7_gather_b4B (q0 : Nat) (N : Nat) (k4 : Int32 × Int32 × Ms → Option (Int32 × Ms)) (hk4 : ∀ x, FR (W7_gather q0) x.2.2 (k4 x)) (l2 : Int32) (l3 : Int32) (σ : Ms) : FR (W7_gather q0) σ (F7_gather_b4B N q0 k4 l2 l3 σ) :=
  have hσ := Fr_rfl (W7_gather q0) σ
  (FR_if (FR_tr2 (fr_F7_gather_b43 q0 _ _ _) (Sub_rfl _) hσ) (FR_if (FR_tr2 (fr_F7_gather_b43 q0 _ _ _) (Sub_rfl _) hσ) (FR_bn (fr_F0_isStanding q0 _ _) (Sub_nil _) hσ fun r7 t8 ht8 => (FR_if (FR_ck fun z109 => (FR_st (fun t9 ht9 => (FR_tr2 (fr_F7_gather_b37 q0 _ _ hk4 _ _ _) (Sub_rfl _) ht9)) (Fr_sI ht8 (In_a 1 rfl)))) (FR_tr2 (fr_F7_gather_b37 q0 _ _ hk4 _ _ _) (Sub_rfl _) ht8)))))
theorem fr_F7_gather_b4 (q0 : Nat) (N : Nat) (l2 : Int32) (l3 : Int32) (σ : Ms) : FR (W7_gather q0) σ (F7_gather_b4 N q0 l2 l3 σ) := by
  unfold F7_gather_b4
  exact @FR_fx (Int32 × Int32 × Ms) (Int32) (W7_gather q0) (fun k x => F7_gather_b4B N q0 k x.1 x.2.1 x.2.2) (fun x => x.2.2) (fun k hk x => fr_F7_gather_b4B q0 N k hk x.1 x.2.1 x.2.2) N (l2, l3, σ)
theorem fr_F7_gather (q0 : Nat) (N : Nat) (σ : Ms) : FR (W7_gather q0) σ (F7_gather N q0 σ) :=
  have hσ := Fr_rfl (W7_gather q0) σ
  (FR_tr2 (fr_F7_gather_b4 q0 _ _ _ _) (Sub_rfl _) hσ)
theorem fr_F7_oddsOf_b72 (q0 : Nat) (N : Nat) (k9 : Int32 × Int32 × Int64 × Int32 × Int32 × Ms → Option (Int64 × Ms)) (hk9 : ∀ x, FR (W7_oddsOf q0) x.2.2.2.2.2 (k9 x)) (l2 : Int32) (l3 : Int32) (l4 : Int64) (l6 : Int32) (l7 : Int32) (σ : Ms) : FR (W7_oddsOf q0) σ (F7_oddsOf_b72 N q0 k9 l2 l3 l4 l6 l7 σ) :=
  have hσ := Fr_rfl (W7_oddsOf q0) σ
  (FR_tr hσ (hk9 (l2, l3, l4, l6, (l7 + (1 : Int32)), σ)))
theorem fr_F7_oddsOf_b9B (q0 : Nat) (N : Nat) (k9 : Int32 × Int32 × Int64 × Int32 × Int32 × Ms → Option (Int64 × Ms)) (hk9 : ∀ x, FR (W7_oddsOf q0) x.2.2.2.2.2 (k9 x)) (l2 : Int32) (l3 : Int32) (l4 : Int64) (l6 : Int32) (l7 : Int32) (σ : Ms) : FR (W7_oddsOf q0) σ (F7_oddsOf_b9B N q0 k9 l2 l3 l4 l6 l7 σ) :=
  have hσ := Fr_rfl (W7_oddsOf q0) σ
  (FR_if (FR_if (FR_if (FR_some hσ) (FR_some hσ)) (FR_ck fun z110 => (FR_some hσ))) (FR_bn (fr_F11_isIn _ _ _) (Sub_nil _) hσ fun r1 t2 ht2 => (FR_if (FR_tr2 (fr_F7_oddsOf_b72 q0 _ _ hk9 _ _ _ _ _ _) (Sub_rfl _) ht2) (FR_ck fun z111 => (FR_bn (fr_F0_mayCut q0 _ _ _) (Sub_nil _) ht2 fun r3 t4 ht4 => (FR_if (FR_bn (fr_F11_other _ _) (Sub_nil _) ht4 fun r5 t6 ht6 => (FR_ck fun z112 => (FR_ck fun z113 => (FR_ck fun z114 => (FR_lv fun x8 => (FR_tr2 (fr_F7_oddsOf_b72 q0 _ _ hk9 _ _ _ _ _ _) (Sub_rfl _) ht6)))))) (FR_tr2 (fr_F7_oddsOf_b72 q0 _ _ hk9 _ _ _ _ _ _) (Sub_rfl _) ht4)))))))
theorem fr_F7_oddsOf_b9 (q0 : Nat) (N : Nat) (l2 : Int32) (l3 : Int32) (l4 : Int64) (l6 : Int32) (l7 : Int32) (σ : Ms) : FR (W7_oddsOf q0) σ (F7_oddsOf_b9 N q0 l2 l3 l4 l6 l7 σ) := by
  unfold F7_oddsOf_b9
  exact @FR_fx (Int32 × Int32 × Int64 × Int32 × Int32 × Ms) (Int64) (W7_oddsOf q0) (fun k x => F7_oddsOf_b9B N q0 k x.1 x.2.1 x.2.2.1 x.2.2.2.1 x.2.2.2.2.1 x.2.2.2.2.2) (fun x => x.2.2.2.2.2) (fun k hk x => fr_F7_oddsOf_b9B q0 N k hk x.1 x.2.1 x.2.2.1 x.2.2.2.1 x.2.2.2.2.1 x.2.2.2.2.2) N (l2, l3, l4, l6, l7, σ)
theorem fr_F7_oddsOf (q0 : Nat) (N : Nat) (p1 : Int32) (p2 : Int32) (σ : Ms) : FR (W7_oddsOf q0) σ (F7_oddsOf N q0 p1 p2 σ) :=
  have hσ := Fr_rfl (W7_oddsOf q0) σ
  (FR_tr2 (fr_F7_oddsOf_b9 q0 _ _ _ _ _ _ _) (Sub_rfl _) hσ)
theorem fr_F7_oddsOfLeft_b76 (q0 : Nat) (N : Nat) (l4 : Int32) (s1 : Int32) (σ : Ms) : FR (W7_oddsOfLeft q0) σ (F7_oddsOfLeft_b76 N q0 l4 s1 σ) :=
  have hσ := Fr_rfl (W7_oddsOfLeft q0) σ
  (FR_ck fun z115 => (FR_ck fun z116 => (FR_some hσ)))
theorem fr_F7_oddsOfLeft_b16B (q0 : Nat) (N : Nat) (k16 : Int32 × Int32 × Int32 × Ms → Option (Int64 × Ms)) (hk16 : ∀ x, FR (W7_oddsOfLeft q0) x.2.2.2 (k16 x)) (l2 : Int32) (l4 : Int32) (l5 : Int32) (σ : Ms) : FR (W7_oddsOfLeft q0) σ (F7_oddsOfLeft_b16B N q0 k16 l2 l4 l5 σ) :=
  have hσ := Fr_rfl (W7_oddsOfLeft q0) σ
  (FR_if (FR_if (FR_tr2 (fr_F7_oddsOfLeft_b76 q0 _ _ _ _) (Sub_rfl _) hσ) (FR_tr2 (fr_F7_oddsOfLeft_b76 q0 _ _ _ _) (Sub_rfl _) hσ)) (FR_ck fun z117 => (FR_bn (fr_F7_oddsOf q0 _ _ _ _) (Sub_nil _) hσ fun r3 t4 ht4 => (FR_ck fun z118 => (FR_st (fun t5 ht5 => (FR_ck fun z119 => (FR_bn (fr_F7_oddsOf q0 _ _ _ _) (Sub_nil _) ht5 fun r7 t8 ht8 => (FR_ck fun z120 => (FR_st (fun t9 ht9 => (FR_tr ht9 (hk16 (l2, l4, (l5 + (1 : Int32)), t9)))) (Fr_sL ht8 (In_c (by decide) 1 rfl))))))) (Fr_sL ht4 (In_c (by decide) 0 rfl)))))))
theorem fr_F7_oddsOfLeft_b16 (q0 : Nat) (N : Nat) (l2 : Int32) (l4 : Int32) (l5 : Int32) (σ : Ms) : FR (W7_oddsOfLeft q0) σ (F7_oddsOfLeft_b16 N q0 l2 l4 l5 σ) := by
  unfold F7_oddsOfLeft_b16
  exact @FR_fx (Int32 × Int32 × Int32 × Ms) (Int64) (W7_oddsOfLeft q0) (fun k x => F7_oddsOfLeft_b16B N q0 k x.1 x.2.1 x.2.2.1 x.2.2.2) (fun x => x.2.2.2) (fun k hk x => fr_F7_oddsOfLeft_b16B q0 N k hk x.1 x.2.1 x.2.2.1 x.2.2.2) N (l2, l4, l5, σ)
theorem fr_F7_oddsOfLeft (q0 : Nat) (N : Nat) (p1 : Int32) (σ : Ms) : FR (W7_oddsOfLeft q0) σ (F7_oddsOfLeft N q0 p1 σ) :=
  have hσ := Fr_rfl (W7_oddsOfLeft q0) σ
  (FR_bn (fr_F7_gather q0 _ _) (Sub_of [2, 3] rfl) hσ fun r10 t11 ht11 => (FR_lv fun x12 => (FR_tr2 (fr_F7_oddsOfLeft_b16 q0 _ _ _ _ _) (Sub_rfl _) ht11)))
theorem fr_F8_hasRoom (p0 : Int32) (σ : Ms) : FR W8_hasRoom σ (F8_hasRoom p0 σ) :=
  have hσ := Fr_rfl W8_hasRoom σ
  (FR_if (FR_some hσ) (FR_some hσ))
theorem fr_F8_append_b12B (N : Nat) (k12 : Int32 × Int32 × Ms → Option (Unit × Ms)) (hk12 : ∀ x, FR W8_append x.2.2 (k12 x)) (l1 : Int32) (l2 : Int32) (σ : Ms) : FR W8_append σ (F8_append_b12B N k12 l1 l2 σ) :=
  have hσ := Fr_rfl W8_append σ
  (FR_if (FR_some hσ) (FR_ck fun z121 => (FR_st (fun t1 ht1 => (FR_st (fun t2 ht2 => (FR_tr ht2 (hk12 (l1, (l2 + (-8 : Int32)), t2)))) (Fr_sI ht1 (In_o 1 rfl)))) (Fr_sI hσ (In_a 0 rfl)))))
theorem fr_F8_append_b12 (N : Nat) (l1 : Int32) (l2 : Int32) (σ : Ms) : FR W8_append σ (F8_append_b12 N l1 l2 σ) := by
  unfold F8_append_b12
  exact @FR_fx (Int32 × Int32 × Ms) (Unit) W8_append (fun k x => F8_append_b12B N k x.1 x.2.1 x.2.2) (fun x => x.2.2) (fun k hk x => fr_F8_append_b12B N k hk x.1 x.2.1 x.2.2) N (l1, l2, σ)
theorem fr_F8_append (N : Nat) (p0 : Int32) (σ : Ms) : FR W8_append σ (F8_append N p0 σ) :=
  have hσ := Fr_rfl W8_append σ
  (FR_bn (fr_F8_hasRoom _ _) (Sub_nil _) hσ fun r3 t4 ht4 => (FR_if (FR_tr2 (fr_F8_append_b12 _ _ _ _) (Sub_rfl _) ht4) (FR_some ht4)))
theorem fr_F8_empty (σ : Ms) : FR W8_empty σ (F8_empty σ) :=
  have hσ := Fr_rfl W8_empty σ
  (FR_st (fun t1 ht1 => (FR_some ht1)) (Fr_sI hσ (In_o 0 rfl)))
theorem fr_FJ9_min_7cf53 (p0 : Int32) (p1 : Int32) (σ : Ms) : FR W9_min_7cf53 σ (FJ9_min_7cf53 p0 p1 σ) :=
  have hσ := Fr_rfl W9_min_7cf53 σ
  (FR_if (FR_some hσ) (FR_some hσ))
theorem fr_FJ9_max_7cf53 (p0 : Int32) (p1 : Int32) (σ : Ms) : FR W9_max_7cf53 σ (FJ9_max_7cf53 p0 p1 σ) :=
  have hσ := Fr_rfl W9_max_7cf53 σ
  (FR_if (FR_some hσ) (FR_some hσ))
theorem fr_F8_open (N : Nat) (p0 : Int32) (σ : Ms) : FR W8_open σ (F8_open N p0 σ) :=
  have hσ := Fr_rfl W8_open σ
  (FR_bn (fr_FJ9_min_7cf53 _ _ _) (Sub_nil _) hσ fun r1 t2 ht2 => (FR_bn (fr_FJ9_max_7cf53 _ _ _) (Sub_nil _) ht2 fun r3 t4 ht4 => (FR_st (fun t5 ht5 => (FR_st (fun t6 ht6 => (FR_st (fun t7 ht7 => (FR_st (fun t8 ht8 => (FR_bn (fr_F8_step _ _) (Sub_of [4, 3, 5, 6] rfl) ht8 fun r9 t10 ht10 => (FR_some ht10))) (Fr_sI ht7 (In_o 3 rfl)))) (Fr_sI ht6 (In_o 2 rfl)))) (Fr_sI ht5 (In_o 1 rfl)))) (Fr_sI ht4 (In_o 0 rfl)))))
theorem fr_F9_isTray (p0 : Int32) (σ : Ms) : FR W9_isTray σ (F9_isTray p0 σ) :=
  have hσ := Fr_rfl W9_isTray σ
  (FR_if (FR_some hσ) (FR_if (FR_some hσ) (FR_some hσ)))
theorem fr_F9_isSort (p0 : Int32) (σ : Ms) : FR W9_isSort σ (F9_isSort p0 σ) :=
  have hσ := Fr_rfl W9_isSort σ
  (FR_if (FR_some hσ) (FR_if (FR_some hσ) (FR_some hσ)))
theorem fr_F9_isMissing_b17 (σ : Ms) : FR W9_isMissing σ (F9_isMissing_b17 σ) :=
  have hσ := Fr_rfl W9_isMissing σ
  (FR_some hσ)
theorem fr_F9_isMissing (p0 : Int32) (σ : Ms) : FR W9_isMissing σ (F9_isMissing p0 σ) :=
  have hσ := Fr_rfl W9_isMissing σ
  (FR_bn (fr_F9_isTray _ _) (Sub_nil _) hσ fun r1 t2 ht2 => (FR_if (FR_tr2 (fr_F9_isMissing_b17 _) (Sub_rfl _) ht2) (FR_ck fun z122 => (FR_if (FR_some ht2) (FR_tr2 (fr_F9_isMissing_b17 _) (Sub_rfl _) ht2)))))
theorem fr_F9_sortOf (p0 : Int32) (σ : Ms) : FR W9_sortOf σ (F9_sortOf p0 σ) :=
  have hσ := Fr_rfl W9_sortOf σ
  (FR_bn (fr_F9_isTray _ _) (Sub_nil _) hσ fun r1 t2 ht2 => (FR_if (FR_some ht2) (FR_ck fun z123 => (FR_some ht2))))
theorem fr_F9_holds (p0 : Int32) (p1 : Int32) (p2 : Int32) (σ : Ms) : FR W9_holds σ (F9_holds p0 p1 p2 σ) :=
  have hσ := Fr_rfl W9_holds σ
  (FR_bn (fr_F9_isTray _ _) (Sub_nil _) hσ fun r1 t2 ht2 => (FR_if (FR_some ht2) (FR_if (FR_some ht2) (FR_if (FR_some ht2) (FR_ck fun z124 => (FR_if (FR_some ht2) (FR_ck fun z125 => (FR_if (FR_some ht2) (FR_some ht2)))))))))
theorem fr_F9_lay_b31B (N : Nat) (k31 : Int32 × Int32 × Int32 × Ms → Option (Unit × Ms)) (hk31 : ∀ x, FR W9_lay x.2.2.2 (k31 x)) (l1 : Int32) (l3 : Int32) (l4 : Int32) (σ : Ms) : FR W9_lay σ (F9_lay_b31B N k31 l1 l3 l4 σ) :=
  have hσ := Fr_rfl W9_lay σ
  (FR_if (FR_some hσ) (FR_ck fun z126 => (FR_ck fun z127 => (FR_st (fun t2 ht2 => (FR_tr ht2 (hk31 (l1, l3, (l4 + (1 : Int32)), t2)))) (Fr_sL hσ (In_4 (ixb_lt z126) 0 1 2 3 rfl rfl rfl rfl))))))
theorem fr_F9_lay_b31 (N : Nat) (l1 : Int32) (l3 : Int32) (l4 : Int32) (σ : Ms) : FR W9_lay σ (F9_lay_b31 N l1 l3 l4 σ) := by
  unfold F9_lay_b31
  exact @FR_fx (Int32 × Int32 × Int32 × Ms) (Unit) W9_lay (fun k x => F9_lay_b31B N k x.1 x.2.1 x.2.2.1 x.2.2.2) (fun x => x.2.2.2) (fun k hk x => fr_F9_lay_b31B N k hk x.1 x.2.1 x.2.2.1 x.2.2.2) N (l1, l3, l4, σ)
theorem fr_F9_lay (N : Nat) (p0 : Int32) (p1 : Int32) (p2 : Int32) (σ : Ms) : FR W9_lay σ (F9_lay N p0 p1 p2 σ) :=
  have hσ := Fr_rfl W9_lay σ
  (FR_bn (fr_F9_isTray _ _) (Sub_nil _) hσ fun r3 t4 ht4 => (FR_if (FR_some ht4) (FR_if (FR_ck fun z128 => (FR_st (fun t5 ht5 => (FR_ck fun z129 => (FR_st (fun t6 ht6 => (FR_tr2 (fr_F9_lay_b31 _ _ _ _ _) (Sub_rfl _) ht6)) (Fr_sI ht5 (In_a 5 rfl))))) (Fr_sI ht4 (In_a 4 rfl)))) (FR_some ht4))))
theorem fr_F9_at (p0 : Int32) (p1 : Int32) (σ : Ms) : FR W9_at σ (F9_at p0 p1 σ) :=
  have hσ := Fr_rfl W9_at σ
  (FR_bn (fr_F9_holds _ _ _ _) (Sub_nil _) hσ fun r1 t2 ht2 => (FR_if (FR_some ht2) (FR_ck fun z130 => (FR_ck fun z131 => (FR_some ht2)))))
theorem fr_F9_fitted (p0 : Int64) (p1 : Int32) (σ : Ms) : FR W9_fitted σ (F9_fitted p0 p1 σ) :=
  have hσ := Fr_rfl W9_fitted σ
  (FR_if (FR_some hσ) (FR_if (FR_some hσ) (FR_if (FR_some hσ) (FR_some hσ))))
theorem fr_F9_put (p0 : Int32) (p1 : Int32) (p2 : Int64) (σ : Ms) : FR W9_put σ (F9_put p0 p1 p2 σ) :=
  have hσ := Fr_rfl W9_put σ
  (FR_bn (fr_F9_holds _ _ _ _) (Sub_nil _) hσ fun r1 t2 ht2 => (FR_if (FR_some ht2) (FR_ck fun z132 => (FR_ck fun z133 => (FR_bn (fr_F9_fitted _ _ _) (Sub_nil _) ht2 fun r4 t5 ht5 => (FR_ck fun z134 => (FR_st (fun t6 ht6 => (FR_some ht6)) (Fr_sL ht5 (In_4 (ixb_lt z133) 0 1 2 3 rfl rfl rfl rfl)))))))))
theorem fr_F9_move (p0 : Int32) (p1 : Int32) (p2 : Int32) (p3 : Int32) (p4 : Int32) (σ : Ms) : FR W9_move σ (F9_move p0 p1 p2 p3 p4 σ) :=
  have hσ := Fr_rfl W9_move σ
  (FR_bn (fr_F9_holds _ _ _ _) (Sub_nil _) hσ fun r1 t2 ht2 => (FR_if (FR_some ht2) (FR_bn (fr_F9_holds _ _ _ _) (Sub_nil _) ht2 fun r3 t4 ht4 => (FR_if (FR_ck fun z135 => (FR_ck fun z136 => (FR_ck fun z137 => (FR_st (fun t7 ht7 => (FR_some ht7)) (Fr_sCpy ht4 (fun _ => (In_4 (ixb_lt z136) 0 1 2 3 rfl rfl rfl rfl))))))) (FR_some ht4)))))
theorem fr_F10_canBe_b47 (q0 : Nat) (N : Nat) (k23 : Int32 × Int32 × Ms → Option (Int32 × Ms)) (hk23 : ∀ x, FR (W10_canBe q0) x.2.2 (k23 x)) (l1 : Int32) (l2 : Int32) (σ : Ms) : FR (W10_canBe q0) σ (F10_canBe_b47 N q0 k23 l1 l2 σ) :=
  have hσ := Fr_rfl (W10_canBe q0) σ
  (FR_tr hσ (hk23 (l1, (l2 + (1 : Int32)), σ)))
theorem fr_F10_canBe_b23B (q0 : Nat) (N : Nat) (k23 : Int32 × Int32 × Ms → Option (Int32 × Ms)) (hk23 : ∀ x, FR (W10_canBe q0) x.2.2 (k23 x)) (l1 : Int32) (l2 : Int32) (σ : Ms) : FR (W10_canBe q0) σ (F10_canBe_b23B N q0 k23 l1 l2 σ) :=
  have hσ := Fr_rfl (W10_canBe q0) σ
  (FR_if (FR_some hσ) (FR_bn (fr_F11_isIn _ _ _) (Sub_nil _) hσ fun r1 t2 ht2 => (FR_if (FR_tr2 (fr_F10_canBe_b47 q0 _ _ hk23 _ _ _) (Sub_rfl _) ht2) (FR_bn (fr_F0_hasWorth q0 _ _) (Sub_nil _) ht2 fun r3 t4 ht4 => (FR_if (FR_tr2 (fr_F10_canBe_b47 q0 _ _ hk23 _ _ _) (Sub_rfl _) ht4) (FR_some ht4))))))
theorem fr_F10_canBe_b23 (q0 : Nat) (N : Nat) (l1 : Int32) (l2 : Int32) (σ : Ms) : FR (W10_canBe q0) σ (F10_canBe_b23 N q0 l1 l2 σ) := by
  unfold F10_canBe_b23
  exact @FR_fx (Int32 × Int32 × Ms) (Int32) (W10_canBe q0) (fun k x => F10_canBe_b23B N q0 k x.1 x.2.1 x.2.2) (fun x => x.2.2) (fun k hk x => fr_F10_canBe_b23B q0 N k hk x.1 x.2.1 x.2.2) N (l1, l2, σ)
