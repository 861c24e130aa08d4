theorem fr_F8_step (N : Nat) (σ : Ms) : FR W8_step σ (F8_step N σ) :=
  have hσ := Fr_rfl W8_step σ
  (FR_if (FR_st (fun t26 ht26 => (FR_tr2 (fr_F8_step_b16 _ _) (Sub_rfl _) ht26)) (Fr_sI hσ (In_o 2 rfl))) (FR_some hσ))
theorem fr_F8_takeColour_b51 (N : Nat) (l1 : Int32) (σ : Ms) : FR W8_takeColour σ (F8_takeColour_b51 N l1 σ) :=
  have hσ := Fr_rfl W8_takeColour σ
  (FR_bn (fr_F8_step _ _) (Sub_of [0, 1, 2, 3] rfl) hσ fun r1 t2 ht2 => (FR_some ht2))
theorem fr_F8_takeColour_b40 (N : Nat) (s0 : Int32) (σ : Ms) : FR W8_takeColour σ (F8_takeColour_b40 N s0 σ) :=
  have hσ := Fr_rfl W8_takeColour σ
  (FR_if (FR_tr2 (fr_F8_takeColour_b51 _ _ _) (Sub_rfl _) hσ) (FR_bn (fr_F8_refuse _ _) (Sub_of [4, 5] rfl) hσ fun r3 t4 ht4 => (FR_tr2 (fr_F8_takeColour_b51 _ _ _) (Sub_rfl _) ht4)))
theorem fr_F8_takeColour (N : Nat) (σ : Ms) : FR W8_takeColour σ (F8_takeColour N σ) :=
  have hσ := Fr_rfl W8_takeColour σ
  (FR_bn (fr_F8_isWord 4 _ _) (Sub_nil _) hσ fun r5 t6 ht6 => (FR_if (FR_bn (fr_F8_isWord 5 _ _) (Sub_nil _) ht6 fun r7 t8 ht8 => (FR_if (FR_bn (fr_F8_isWord 6 _ _) (Sub_nil _) ht8 fun r9 t10 ht10 => (FR_if (FR_tr2 (fr_F8_takeColour_b40 _ _ _) (Sub_rfl _) ht10) (FR_tr2 (fr_F8_takeColour_b40 _ _ _) (Sub_rfl _) ht10))) (FR_tr2 (fr_F8_takeColour_b40 _ _ _) (Sub_rfl _) ht8))) (FR_tr2 (fr_F8_takeColour_b40 _ _ _) (Sub_rfl _) ht6)))
theorem fr_F8_isNumberBelow (p0 : Int32) (σ : Ms) : FR W8_isNumberBelow σ (F8_isNumberBelow p0 σ) :=
  have hσ := Fr_rfl W8_isNumberBelow σ
  (FR_if (FR_some hσ) (FR_if (FR_some hσ) (FR_some hσ)))
theorem fr_F8_valueHere (σ : Ms) : FR W8_valueHere σ (F8_valueHere σ) :=
  have hσ := Fr_rfl W8_valueHere σ
  (FR_some hσ)
theorem fr_F8_takeNumber_b36 (N : Nat) (l1 : Int32) (l3 : Int32) (σ : Ms) : FR W8_takeNumber σ (F8_takeNumber_b36 N l1 l3 σ) :=
  have hσ := Fr_rfl W8_takeNumber σ
  (FR_bn (fr_F8_step _ _) (Sub_of [0, 1, 2, 3] rfl) hσ fun r1 t2 ht2 => (FR_if (FR_some ht2) (FR_some ht2)))
theorem fr_F8_takeNumber_b31 (N : Nat) (l1 : Int32) (l3 : Int32) (σ : Ms) : FR W8_takeNumber σ (F8_takeNumber_b31 N l1 l3 σ) :=
  have hσ := Fr_rfl W8_takeNumber σ
  (FR_bn (fr_F8_refuse _ _) (Sub_of [4, 5] rfl) hσ fun r3 t4 ht4 => (FR_tr2 (fr_F8_takeNumber_b36 _ _ _ _) (Sub_rfl _) ht4))
theorem fr_F8_takeNumber (N : Nat) (p0 : Int32) (p1 : Int32) (σ : Ms) : FR W8_takeNumber σ (F8_takeNumber N p0 p1 σ) :=
  have hσ := Fr_rfl W8_takeNumber σ
  (FR_lv fun x5 => (FR_if (FR_if (FR_tr2 (fr_F8_takeNumber_b31 _ _ _ _) (Sub_rfl _) hσ) (FR_if (FR_tr2 (fr_F8_takeNumber_b36 _ _ _ _) (Sub_rfl _) hσ) (FR_tr2 (fr_F8_takeNumber_b31 _ _ _ _) (Sub_rfl _) hσ))) (FR_bn (fr_F8_refuse _ _) (Sub_of [4, 5] rfl) hσ fun r6 t7 ht7 => (FR_tr2 (fr_F8_takeNumber_b36 _ _ _ _) (Sub_rfl _) ht7))))
theorem fr_F1_takeGround_b28 (q1 : Nat) (N : Nat) (σ : Ms) : FR (W1_takeGround q1) σ (F1_takeGround_b28 N q1 σ) :=
  have hσ := Fr_rfl (W1_takeGround q1) σ
  (FR_bn (fr_F8_takeNumber _ _ _ _) (Sub_of [0, 1, 2, 3, 4, 5] rfl) hσ fun r1 t2 ht2 => (FR_some ht2))
theorem fr_F1_takeGround (q1 : Nat) (N : Nat) (p2 : Int32) (σ : Ms) : FR (W1_takeGround q1) σ (F1_takeGround N q1 p2 σ) :=
  have hσ := Fr_rfl (W1_takeGround q1) σ
  (FR_bn (fr_F8_isNumberBelow _ _) (Sub_nil _) hσ fun r3 t4 ht4 => (FR_if (FR_tr2 (fr_F1_takeGround_b28 q1 _ _) (Sub_rfl _) ht4) (FR_bn (fr_F8_valueHere _) (Sub_nil _) ht4 fun r5 t6 ht6 => (FR_bn (fr_F0_fits q1 _ _ _) (Sub_nil _) ht6 fun r7 t8 ht8 => (FR_if (FR_tr2 (fr_F1_takeGround_b28 q1 _ _) (Sub_rfl _) ht8) (FR_bn (fr_F8_refuse _ _) (Sub_of [4, 5] rfl) ht8 fun r9 t10 ht10 => (FR_tr2 (fr_F1_takeGround_b28 q1 _ _) (Sub_rfl _) ht10)))))))
theorem fr_F8_isMark (p0 : Int32) (σ : Ms) : FR W8_isMark σ (F8_isMark p0 σ) :=
  have hσ := Fr_rfl W8_isMark σ
  (FR_if (FR_some hσ) (FR_bn (fr_F8_charAt _ _) (Sub_nil _) hσ fun r1 t2 ht2 => (FR_if (FR_some ht2) (FR_some ht2))))
theorem fr_F8_takeClose (N : Nat) (σ : Ms) : FR W8_takeClose σ (F8_takeClose N σ) :=
  have hσ := Fr_rfl W8_takeClose σ
  (FR_bn (fr_F8_isMark _ _) (Sub_nil _) hσ fun r1 t2 ht2 => (FR_if (FR_bn (fr_F8_refuse _ _) (Sub_of [0, 1] rfl) ht2 fun r3 t4 ht4 => (FR_some ht4)) (FR_bn (fr_F8_step _ _) (Sub_of [2, 3, 4, 5] rfl) ht2 fun r5 t6 ht6 => (FR_some ht6))))
theorem fr_F1_parseSprig_b46 (q1 : Nat) (N : Nat) (l2 : Int32) (l3 : Int32) (σ : Ms) : FR (W1_parseSprig q1) σ (F1_parseSprig_b46 N q1 l2 l3 σ) :=
  have hσ := Fr_rfl (W1_parseSprig q1) σ
  (FR_bn (fr_F8_takeClose _ _) (Sub_of [0, 1, 2, 3, 4, 5] rfl) hσ fun r1 t2 ht2 => (FR_if (FR_some ht2) (FR_bn (fr_F0_addSprig q1 _ _ _) (Sub_of [6, 7, 8, 9] rfl) ht2 fun r3 t4 ht4 => (FR_some ht4))))
theorem fr_F1_parseSprig_b15 (q1 : Nat) (N : Nat) (σ : Ms) : FR (W1_parseSprig q1) σ (F1_parseSprig_b15 N q1 σ) :=
  have hσ := Fr_rfl (W1_parseSprig q1) σ
  (FR_bn (fr_F8_step _ _) (Sub_of [2, 3, 4, 5] rfl) hσ fun r5 t6 ht6 => (FR_bn (fr_F8_takeColour _ _) (Sub_of [2, 3, 4, 5, 0, 1] rfl) ht6 fun r7 t8 ht8 => (FR_bn (fr_F8_isWord 3 _ _) (Sub_nil _) ht8 fun r9 t10 ht10 => (FR_if (FR_tr2 (fr_F1_parseSprig_b46 q1 _ _ _ _) (Sub_rfl _) ht10) (FR_bn (fr_F8_step _ _) (Sub_of [2, 3, 4, 5] rfl) ht10 fun r11 t12 ht12 => (FR_bn (fr_F1_takeGround q1 _ _ _) (Sub_of [2, 3, 4, 5, 0, 1] rfl) ht12 fun r13 t14 ht14 => (FR_tr2 (fr_F1_parseSprig_b46 q1 _ _ _ _) (Sub_rfl _) ht14)))))))
theorem fr_F1_parseSprig (q1 : Nat) (N : Nat) (σ : Ms) : FR (W1_parseSprig q1) σ (F1_parseSprig N q1 σ) :=
  have hσ := Fr_rfl (W1_parseSprig q1) σ
  (FR_if (FR_tr2 (fr_F1_parseSprig_b15 q1 _ _) (Sub_rfl _) hσ) (FR_bn (fr_F8_refuse _ _) (Sub_of [0, 1] rfl) hσ fun r15 t16 ht16 => (FR_tr2 (fr_F1_parseSprig_b15 q1 _ _) (Sub_rfl _) ht16)))
theorem fr_F1_parseHeap_b14 (q1 : Nat) (N : Nat) (σ : Ms) : FR (W1_parseHeap q1) σ (F1_parseHeap_b14 N q1 σ) :=
  have hσ := Fr_rfl (W1_parseHeap q1) σ
  (FR_bn (fr_F8_step _ _) (Sub_of [0, 1, 2, 3] rfl) hσ fun r1 t2 ht2 => (FR_bn (fr_F8_takeNumber _ _ _ _) (Sub_of [0, 1, 2, 3, 4, 5] rfl) ht2 fun r3 t4 ht4 => (FR_bn (fr_F8_takeClose _ _) (Sub_of [4, 5, 0, 1, 2, 3] rfl) ht4 fun r5 t6 ht6 => (FR_if (FR_some ht6) (FR_bn (fr_F0_addHeap q1 _ _) (Sub_of [6, 7] rfl) ht6 fun r7 t8 ht8 => (FR_some ht8))))))
theorem fr_F1_parseHeap (q1 : Nat) (N : Nat) (σ : Ms) : FR (W1_parseHeap q1) σ (F1_parseHeap N q1 σ) :=
  have hσ := Fr_rfl (W1_parseHeap q1) σ
  (FR_if (FR_tr2 (fr_F1_parseHeap_b14 q1 _ _) (Sub_rfl _) hσ) (FR_bn (fr_F8_refuse _ _) (Sub_of [4, 5] rfl) hσ fun r9 t10 ht10 => (FR_tr2 (fr_F1_parseHeap_b14 q1 _ _) (Sub_rfl _) ht10)))
theorem fr_F1_parseBet_b36 (q1 : Nat) (N : Nat) (l2 : Int32) (s1 : Int32) (σ : Ms) : FR (W1_parseBet q1) σ (F1_parseBet_b36 N q1 l2 s1 σ) :=
  have hσ := Fr_rfl (W1_parseBet q1) σ
  (FR_bn (fr_F8_takeNumber _ _ _ _) (Sub_of [0, 1, 2, 3, 4, 5] rfl) hσ fun r1 t2 ht2 => (FR_bn (fr_F8_takeClose _ _) (Sub_of [4, 5, 0, 1, 2, 3] rfl) ht2 fun r3 t4 ht4 => (FR_if (FR_some ht4) (FR_bn (fr_F0_addBet q1 _ _ _) (Sub_of [6, 7, 8] rfl) ht4 fun r5 t6 ht6 => (FR_some ht6)))))
theorem fr_F1_parseBet_b14 (q1 : Nat) (N : Nat) (σ : Ms) : FR (W1_parseBet q1) σ (F1_parseBet_b14 N q1 σ) :=
  have hσ := Fr_rfl (W1_parseBet q1) σ
  (FR_bn (fr_F8_step _ _) (Sub_of [0, 1, 2, 3] rfl) hσ fun r7 t8 ht8 => (FR_bn (fr_F8_takeNumber _ _ _ _) (Sub_of [0, 1, 2, 3, 4, 5] rfl) ht8 fun r9 t10 ht10 => (FR_if (FR_tr2 (fr_F1_parseBet_b36 q1 _ _ _ _) (Sub_rfl _) ht10) (FR_tr2 (fr_F1_parseBet_b36 q1 _ _ _ _) (Sub_rfl _) ht10))))
theorem fr_F1_parseBet (q1 : Nat) (N : Nat) (σ : Ms) : FR (W1_parseBet q1) σ (F1_parseBet N q1 σ) :=
  have hσ := Fr_rfl (W1_parseBet q1) σ
  (FR_if (FR_tr2 (fr_F1_parseBet_b14 q1 _ _) (Sub_rfl _) hσ) (FR_bn (fr_F8_refuse _ _) (Sub_of [4, 5] rfl) hσ fun r11 t12 ht12 => (FR_tr2 (fr_F1_parseBet_b14 q1 _ _) (Sub_rfl _) ht12)))
theorem fr_F1_parse_b76 (q1 : Nat) (N : Nat) (k6 : Int32 × Ms → Option (Unit × Ms)) (hk6 : ∀ x, FR (W1_parse q1) x.2 (k6 x)) (l2 : Int32) (σ : Ms) : FR (W1_parse q1) σ (F1_parse_b76 N q1 k6 l2 σ) :=
  have hσ := Fr_rfl (W1_parse q1) σ
  (FR_tr hσ (hk6 ((l2 + (1 : Int32)), σ)))
theorem fr_F1_parse_b6B (q1 : Nat) (N : Nat) (k6 : Int32 × Ms → Option (Unit × Ms)) (hk6 : ∀ x, FR (W1_parse q1) x.2 (k6 x)) (l2 : Int32) (σ : Ms) : FR (W1_parse q1) σ (F1_parse_b6B N q1 k6 l2 σ) :=
  have hσ := Fr_rfl (W1_parse q1) σ
  (FR_if (FR_some hσ) (FR_bn (fr_F8_goesOn _) (Sub_nil _) hσ fun r1 t2 ht2 => (FR_if (FR_some ht2) (FR_bn (fr_F8_isWord 0 _ _) (Sub_nil _) ht2 fun r3 t4 ht4 => (FR_if (FR_bn (fr_F8_isWord 1 _ _) (Sub_nil _) ht4 fun r5 t6 ht6 => (FR_if (FR_bn (fr_F8_isWord 2 _ _) (Sub_nil _) ht6 fun r7 t8 ht8 => (FR_if (FR_bn (fr_F8_refuse _ _) (Sub_of [0, 1] rfl) ht8 fun r9 t10 ht10 => (FR_tr2 (fr_F1_parse_b76 q1 _ _ hk6 _ _) (Sub_rfl _) ht10)) (FR_bn (fr_F1_parseBet q1 _ _) (Sub_of [2, 3, 4, 5, 0, 1, 6, 7, 8] rfl) ht8 fun r11 t12 ht12 => (FR_tr2 (fr_F1_parse_b76 q1 _ _ hk6 _ _) (Sub_rfl _) ht12)))) (FR_bn (fr_F1_parseHeap q1 _ _) (Sub_of [2, 3, 4, 5, 0, 1, 9, 10] rfl) ht6 fun r13 t14 ht14 => (FR_tr2 (fr_F1_parse_b76 q1 _ _ hk6 _ _) (Sub_rfl _) ht14)))) (FR_bn (fr_F1_parseSprig q1 _ _) (Sub_of [0, 1, 2, 3, 4, 5, 11, 12, 13, 14] rfl) ht4 fun r15 t16 ht16 => (FR_tr2 (fr_F1_parse_b76 q1 _ _ hk6 _ _) (Sub_rfl _) ht16)))))))
theorem fr_F1_parse_b6 (q1 : Nat) (N : Nat) (l2 : Int32) (σ : Ms) : FR (W1_parse q1) σ (F1_parse_b6 N q1 l2 σ) := by
  unfold F1_parse_b6
  exact @FR_fx (Int32 × Ms) (Unit) (W1_parse q1) (fun k x => F1_parse_b6B N q1 k x.1 x.2) (fun x => x.2) (fun k hk x => fr_F1_parse_b6B q1 N k hk x.1 x.2) N (l2, σ)
theorem fr_F1_parse (q1 : Nat) (N : Nat) (σ : Ms) : FR (W1_parse q1) σ (F1_parse N q1 σ) :=
  have hσ := Fr_rfl (W1_parse q1) σ
  (FR_bn (fr_F0_clear q1 _) (Sub_of [14, 13, 10, 8, 15, 16, 17] rfl) hσ fun r17 t18 ht18 => (FR_tr2 (fr_F1_parse_b6 q1 _ _ _) (Sub_rfl _) ht18))
theorem fr_F5_hasEntry (h : Nat) (p0 : Int32) (σ : Ms) : FR (W5_hasEntry h) σ (F5_hasEntry h p0 σ) :=
  have hσ := Fr_rfl (W5_hasEntry h) σ
  (FR_if (FR_some hσ) (FR_if (FR_some hσ) (FR_if (FR_some hσ) (FR_some hσ))))
theorem fr_F2_behindEnd_b26 (h : Nat) (q0 : Nat) (l2 : Int32) (σ : Ms) : FR (W2_behindEnd h q0) σ (F2_behindEnd_b26 h q0 l2 σ) :=
  have hσ := Fr_rfl (W2_behindEnd h q0) σ
  (FR_some hσ)
theorem fr_F2_behindEnd (h : Nat) (q0 : Nat) (p1 : Int32) (σ : Ms) : FR (W2_behindEnd h q0) σ (F2_behindEnd h q0 p1 σ) :=
  have hσ := Fr_rfl (W2_behindEnd h q0) σ
  (FR_ck fun z55 => (FR_lv fun x1 => (FR_bn (fr_F5_hasEntry q0 _ _) (Sub_nil _) hσ fun r2 t3 ht3 => (FR_if (FR_tr2 (fr_F2_behindEnd_b26 h q0 _ _) (Sub_rfl _) ht3) (FR_ck fun z56 => (FR_if (FR_ck fun z57 => (FR_ck fun z58 => (FR_st (fun t4 ht4 => (FR_ck fun z59 => (FR_if (FR_some ht4) (FR_some ht4)))) (Fr_sI ht3 (In_a 0 rfl))))) (FR_tr2 (fr_F2_behindEnd_b26 h q0 _ _) (Sub_rfl _) ht3)))))))
theorem fr_F2_cutOff (h : Nat) (q0 : Nat) (N : Nat) (p1 : Int32) (p2 : Int32) (σ : Ms) : FR (W2_cutOff h q0) σ (F2_cutOff N h q0 p1 p2 σ) :=
  have hσ := Fr_rfl (W2_cutOff h q0) σ
  (FR_bn (fr_F0_mayCut q0 _ _ _) (Sub_nil _) hσ fun r1 t2 ht2 => (FR_if (FR_st (fun t3 ht3 => (FR_some ht3)) (Fr_sI ht2 (In_o 0 rfl))) (FR_st (fun t4 ht4 => (FR_bn (fr_F0_shear q0 _ _ _) (Sub_of [3, 4] rfl) ht4 fun r5 t6 ht6 => (FR_st (fun t7 ht7 => (FR_some ht7)) (Fr_sI ht6 (In_o 2 rfl))))) (Fr_sI ht2 (In_o 1 rfl)))))
theorem fr_F2_takeBet (h : Nat) (q0 : Nat) (p1 : Int32) (p2 : Int32) (σ : Ms) : FR (W2_takeBet h q0) σ (F2_takeBet h q0 p1 p2 σ) :=
  have hσ := Fr_rfl (W2_takeBet h q0) σ
  (FR_bn (fr_F0_mayTake q0 _ _) (Sub_nil _) hσ fun r1 t2 ht2 => (FR_if (FR_st (fun t3 ht3 => (FR_some ht3)) (Fr_sI ht2 (In_o 0 rfl))) (FR_bn (fr_F0_winBet q0 _ _ _) (Sub_of [1, 2] rfl) ht2 fun r4 t5 ht5 => (FR_some ht5))))
theorem fr_F2_lessenHeap (h : Nat) (q0 : Nat) (p1 : Int32) (p2 : Int32) (σ : Ms) : FR (W2_lessenHeap h q0) σ (F2_lessenHeap h q0 p1 p2 σ) :=
  have hσ := Fr_rfl (W2_lessenHeap h q0) σ
  (FR_bn (fr_F0_mayLessen q0 _ _ _) (Sub_nil _) hσ fun r1 t2 ht2 => (FR_if (FR_st (fun t3 ht3 => (FR_some ht3)) (Fr_sI ht2 (In_o 0 rfl))) (FR_bn (fr_F0_lessen q0 _ _ _) (Sub_of [1] rfl) ht2 fun r4 t5 ht5 => (FR_some ht5))))
theorem fr_F2_growOne (h : Nat) (q0 : Nat) (p1 : Int32) (p2 : Int32) (σ : Ms) : FR (W2_growOne h q0) σ (F2_growOne h q0 p1 p2 σ) :=
  have hσ := Fr_rfl (W2_growOne h q0) σ
  (FR_bn (fr_F0_mayGrow q0 _ _ _) (Sub_nil _) hσ fun r1 t2 ht2 => (FR_if (FR_st (fun t3 ht3 => (FR_some ht3)) (Fr_sI ht2 (In_o 0 rfl))) (FR_bn (fr_F0_addSprig q0 _ _ _) (Sub_of [2, 3, 4, 5] rfl) ht2 fun r4 t5 ht5 => (FR_st (fun t6 ht6 => (FR_some ht6)) (Fr_sI ht5 (In_o 1 rfl))))))
theorem fr_F2_draw (h : Nat) (p0 : Int32) (σ : Ms) : FR (W2_draw h) σ (F2_draw h p0 σ) :=
  have hσ := Fr_rfl (W2_draw h) σ
  (FR_st (fun t1 ht1 => (FR_if (FR_some ht1) (FR_ck fun z60 => (FR_some ht1)))) (Fr_sI hσ (In_o 0 rfl)))
theorem fr_F2_cutAny (h : Nat) (q0 : Nat) (N : Nat) (σ : Ms) : FR (W2_cutAny h q0) σ (F2_cutAny N h q0 σ) :=
  have hσ := Fr_rfl (W2_cutAny h q0) σ
  (FR_if (FR_st (fun t1 ht1 => (FR_some ht1)) (Fr_sI hσ (In_o 0 rfl))) (FR_bn (fr_F2_draw h _ _) (Sub_of [1] rfl) hσ fun r2 t3 ht3 => (FR_bn (fr_F2_draw h _ _) (Sub_of [1] rfl) ht3 fun r4 t5 ht5 => (FR_bn (fr_F2_cutOff h q0 _ _ _ _) (Sub_of [0, 2, 3, 4, 5] rfl) ht5 fun r6 t7 ht7 => (FR_some ht7)))))
theorem fr_FJ13_compare_74951 (p0 : Int64) (p1 : Int64) (σ : Ms) : FR W13_compare_74951 σ (FJ13_compare_74951 p0 p1 σ) :=
  have hσ := Fr_rfl W13_compare_74951 σ
  (FR_if (FR_if (FR_some hσ) (FR_some hσ)) (FR_some hσ))
theorem fr_F2_compares (p0 : Int32) (p1 : Int32) (σ : Ms) : FR W2_compares σ (F2_compares p0 p1 σ) :=
  have hσ := Fr_rfl W2_compares σ
  (FR_if (FR_if (FR_if (FR_some hσ) (FR_some hσ)) (FR_if (FR_some hσ) (FR_some hσ))) (FR_if (FR_some hσ) (FR_some hσ)))
theorem fr_FJ6_compare_7cf53 (p0 : Int32) (p1 : Int32) (σ : Ms) : FR W6_compare_7cf53 σ (FJ6_compare_7cf53 p0 p1 σ) :=
  have hσ := Fr_rfl W6_compare_7cf53 σ
  (FR_if (FR_if (FR_some hσ) (FR_some hσ)) (FR_some hσ))
theorem fr_F11_other (p0 : Int32) (σ : Ms) : FR W11_other σ (F11_other p0 σ) :=
  have hσ := Fr_rfl W11_other σ
  (FR_if (FR_some hσ) (FR_some hσ))
theorem fr_F4_settled_b13B (q0 : Nat) (N : Nat) (k13 : Int64 × Int32 × Int32 × Int32 × Ms → Option (Int64 × Ms)) (hk13 : ∀ x, FR (W4_settled q0) x.2.2.2.2 (k13 x)) (l5 : Int64) (l7 : Int32) (l8 : Int32) (l9 : Int32) (σ : Ms) : FR (W4_settled q0) σ (F4_settled_b13B N q0 k13 l5 l7 l8 l9 σ) :=
  have hσ := Fr_rfl (W4_settled q0) σ
  (FR_if (FR_some hσ) (FR_bn (fr_F0_hottestBut q0 _ _ _) (Sub_nil _) hσ fun r1 t2 ht2 => (FR_if (FR_bn (fr_F0_gain q0 _ _ _) (Sub_nil _) ht2 fun r3 t4 ht4 => (FR_lv fun x5 => (FR_lv fun x6 => (FR_bn (fr_F11_other _ _) (Sub_nil _) ht4 fun r7 t8 ht8 => (FR_tr ht8 (hk13 (x5, x6, r7, (l9 + (1 : Int32)), t8))))))) (FR_some ht2))))
theorem fr_F4_settled_b13 (q0 : Nat) (N : Nat) (l5 : Int64) (l7 : Int32) (l8 : Int32) (l9 : Int32) (σ : Ms) : FR (W4_settled q0) σ (F4_settled_b13 N q0 l5 l7 l8 l9 σ) := by
  unfold F4_settled_b13
  exact @FR_fx (Int64 × Int32 × Int32 × Int32 × Ms) (Int64) (W4_settled q0) (fun k x => F4_settled_b13B N q0 k x.1 x.2.1 x.2.2.1 x.2.2.2.1 x.2.2.2.2) (fun x => x.2.2.2.2) (fun k hk x => fr_F4_settled_b13B q0 N k hk x.1 x.2.1 x.2.2.1 x.2.2.2.1 x.2.2.2.2) N (l5, l7, l8, l9, σ)
theorem fr_F4_settled (q0 : Nat) (N : Nat) (p1 : Int64) (p2 : Int32) (p3 : Int32) (σ : Ms) : FR (W4_settled q0) σ (F4_settled N q0 p1 p2 p3 σ) :=
  have hσ := Fr_rfl (W4_settled q0) σ
  (FR_tr2 (fr_F4_settled_b13 q0 _ _ _ _ _ _) (Sub_rfl _) hσ)
theorem fr_F4_isOdd (q0 : Nat) (p1 : Int32) (σ : Ms) : FR (W4_isOdd q0) σ (F4_isOdd q0 p1 σ) :=
  have hσ := Fr_rfl (W4_isOdd q0) σ
  (FR_bn (fr_FJ6_bitCount_0f7a4 _ _) (Sub_nil _) hσ fun r1 t2 ht2 => (FR_if (FR_some ht2) (FR_some ht2)))
theorem fr_F4_decides_b45 (l3 : Int32) (s0 : Int32) (σ : Ms) : FR W4_decides σ (F4_decides_b45 l3 s0 σ) :=
  have hσ := Fr_rfl W4_decides σ
  (FR_if (FR_some hσ) (FR_some hσ))
theorem fr_F4_decides_b27 (s0 : Int32) (s1 : Int32) (σ : Ms) : FR W4_decides σ (F4_decides_b27 s0 s1 σ) :=
  have hσ := Fr_rfl W4_decides σ
  (FR_if (FR_some hσ) (FR_some hσ))
theorem fr_F4_decides_b17 (l4 : Int32) (s0 : Int32) (σ : Ms) : FR W4_decides σ (F4_decides_b17 l4 s0 σ) :=
  have hσ := Fr_rfl W4_decides σ
  (FR_if (FR_tr2 (fr_F4_decides_b27 _ _ _) (Sub_rfl _) hσ) (FR_tr2 (fr_F4_decides_b27 _ _ _) (Sub_rfl _) hσ))
theorem fr_F4_decides (p0 : Int64) (p1 : Int32) (p2 : Int32) (p3 : Int32) (σ : Ms) : FR W4_decides σ (F4_decides p0 p1 p2 p3 σ) :=
  have hσ := Fr_rfl W4_decides σ
  (FR_if (FR_if (FR_tr2 (fr_F4_decides_b45 _ _ _) (Sub_rfl _) hσ) (FR_tr2 (fr_F4_decides_b45 _ _ _) (Sub_rfl _) hσ)) (FR_if (FR_tr2 (fr_F4_decides_b17 _ _ _) (Sub_rfl _) hσ) (FR_tr2 (fr_F4_decides_b17 _ _ _) (Sub_rfl _) hσ)))
theorem fr_F4_winsBeginning (q0 : Nat) (N : Nat) (p1 : Int32) (σ : Ms) : FR (W4_winsBeginning q0) σ (F4_winsBeginning N q0 p1 σ) :=
  have hσ := Fr_rfl (W4_winsBeginning q0) σ
  (FR_bn (fr_F0_worthWith q0 _ _ _) (Sub_of [0] rfl) hσ fun r1 t2 ht2 => (FR_bn (fr_F0_nimWith q0 _ _ _) (Sub_of [1] rfl) ht2 fun r3 t4 ht4 => (FR_bn (fr_F4_settled q0 _ _ _ _ _) (Sub_nil _) ht4 fun r5 t6 ht6 => (FR_bn (fr_F4_isOdd q0 _ _) (Sub_nil _) ht6 fun r7 t8 ht8 => (FR_bn (fr_F4_decides _ _ _ _ _) (Sub_nil _) ht8 fun r9 t10 ht10 => (FR_ck fun z61 => (FR_some ht10)))))))
theorem fr_F2_holds (q0 : Nat) (N : Nat) (p1 : Int32) (p2 : Int32) (p3 : Int32) (σ : Ms) : FR (W2_holds q0) σ (F2_holds N q0 p1 p2 p3 σ) :=
  have hσ := Fr_rfl (W2_holds q0) σ
  (FR_if (FR_bn (fr_F0_isStanding q0 _ _) (Sub_nil _) hσ fun r1 t2 ht2 => (FR_ck fun z62 => (FR_some ht2))) (FR_if (FR_bn (fr_F0_worthWith q0 _ _ _) (Sub_of [0] rfl) hσ fun r3 t4 ht4 => (FR_bn (fr_FJ13_compare_74951 _ _ _) (Sub_nil _) ht4 fun r5 t6 ht6 => (FR_bn (fr_F2_compares _ _ _) (Sub_nil _) ht6 fun r7 t8 ht8 => (FR_ck fun z63 => (FR_some ht8))))) (FR_if (FR_bn (fr_F0_nimWith q0 _ _ _) (Sub_of [1] rfl) hσ fun r9 t10 ht10 => (FR_bn (fr_FJ6_compare_7cf53 _ _ _) (Sub_nil _) ht10 fun r11 t12 ht12 => (FR_bn (fr_F2_compares _ _ _) (Sub_nil _) ht12 fun r13 t14 ht14 => (FR_ck fun z64 => (FR_some ht14))))) (FR_bn (fr_F4_winsBeginning q0 _ _ _) (Sub_of [0, 1] rfl) hσ fun r15 t16 ht16 => (FR_ck fun z65 => (FR_some ht16))))))
theorem fr_F2_doStep_b168 (h : Nat) (q0 : Nat) (q1 : Nat) (N : Nat) (l3 : Int32) (σ : Ms) : FR (W2_doStep h q0 q1) σ (F2_doStep_b168 N h q0 q1 l3 σ) :=
  have hσ := Fr_rfl (W2_doStep h q0 q1) σ
  (FR_some hσ)
theorem fr_F2_doStep (h : Nat) (q0 : Nat) (q1 : Nat) (N : Nat) (p2 : Int32) (σ : Ms) : FR (W2_doStep h q0 q1) σ (F2_doStep N h q0 q1 p2 σ) :=
  have hσ := Fr_rfl (W2_doStep h q0 q1) σ
  (FR_ck fun z66 => (FR_lv fun x1 => (FR_ck fun z67 => (FR_lv fun x2 => (FR_ck fun z68 => (FR_if (FR_bn (fr_F2_cutOff h q0 _ _ _ _) (Sub_of [1, 2, 3, 4, 5] rfl) hσ fun r3 t4 ht4 => (FR_tr2 (fr_F2_doStep_b168 h q0 q1 _ _ _) (Sub_rfl _) ht4)) (FR_if (FR_bn (fr_F2_takeBet h q0 _ _ _) (Sub_of [1, 6, 7] rfl) hσ fun r5 t6 ht6 => (FR_tr2 (fr_F2_doStep_b168 h q0 q1 _ _ _) (Sub_rfl _) ht6)) (FR_if (FR_bn (fr_F2_lessenHeap h q0 _ _ _) (Sub_of [1, 8] rfl) hσ fun r7 t8 ht8 => (FR_tr2 (fr_F2_doStep_b168 h q0 q1 _ _ _) (Sub_rfl _) ht8)) (FR_if (FR_bn (fr_F2_growOne h q0 _ _ _) (Sub_of [1, 9, 10, 11, 4, 12] rfl) hσ fun r9 t10 ht10 => (FR_tr2 (fr_F2_doStep_b168 h q0 q1 _ _ _) (Sub_rfl _) ht10)) (FR_if (FR_bn (fr_F2_cutAny h q0 _ _) (Sub_of [1, 13, 2, 3, 4, 5] rfl) hσ fun r11 t12 ht12 => (FR_tr2 (fr_F2_doStep_b168 h q0 q1 _ _ _) (Sub_rfl _) ht12)) (FR_if (FR_ck fun z69 => (FR_bn (fr_F2_holds q0 _ _ _ _ _) (Sub_of [14, 15] rfl) hσ fun r13 t14 ht14 => (FR_if (FR_ck fun z70 => (FR_some ht14)) (FR_some ht14)))) (FR_if (FR_ck fun z71 => (FR_st (fun t15 ht15 => (FR_tr2 (fr_F2_doStep_b168 h q0 q1 _ _ _) (Sub_rfl _) ht15)) (Fr_sI hσ (In_a 0 rfl)))) (FR_some hσ)))))))))))))
theorem fr_F2_run_b118 (h : Nat) (q0 : Nat) (q1 : Nat) (N : Nat) (k41 : Int32 × Int32 × Ms → Option (Unit × Ms)) (hk41 : ∀ x, FR (W2_run h q0 q1) x.2.2 (k41 x)) (l4 : Int32) (l5 : Int32) (σ : Ms) : FR (W2_run h q0 q1) σ (F2_run_b118 N h q0 q1 k41 l4 l5 σ) :=
  have hσ := Fr_rfl (W2_run h q0 q1) σ
  (FR_tr hσ (hk41 (l4, (l5 + (1 : Int32)), σ)))
theorem fr_F2_run_b41B (h : Nat) (q0 : Nat) (q1 : Nat) (N : Nat) (k41 : Int32 × Int32 × Ms → Option (Unit × Ms)) (hk41 : ∀ x, FR (W2_run h q0 q1) x.2.2 (k41 x)) (l4 : Int32) (l5 : Int32) (σ : Ms) : FR (W2_run h q0 q1) σ (F2_run_b41B N h q0 q1 k41 l4 l5 σ) :=
  have hσ := Fr_rfl (W2_run h q0 q1) σ
  (FR_if (FR_some hσ) (FR_bn (fr_F5_hasEntry q1 _ _) (Sub_nil _) hσ fun r1 t2 ht2 => (FR_if (FR_some ht2) (FR_ck fun z72 => (FR_if (FR_if (FR_st (fun t3 ht3 => (FR_bn (fr_F2_doStep h q0 q1 _ _ _) (Sub_of [7, 2, 3, 4, 8, 9, 10, 11, 12, 5, 13, 14, 15, 6, 16, 17] rfl) ht3 fun r4 t5 ht5 => (FR_tr2 (fr_F2_run_b118 h q0 q1 _ _ hk41 _ _ _) (Sub_rfl _) ht5))) (Fr_sI ht2 (In_o 0 rfl))) (FR_ck fun z73 => (FR_st (fun t6 ht6 => (FR_some ht6)) (Fr_sI ht2 (In_o 1 rfl))))) (FR_bn (fr_F2_behindEnd h q1 _ _) (Sub_of [7] rfl) ht2 fun r7 t8 ht8 => (FR_tr2 (fr_F2_run_b118 h q0 q1 _ _ hk41 _ _ _) (Sub_rfl _) ht8)))))))
theorem fr_F2_run_b41 (h : Nat) (q0 : Nat) (q1 : Nat) (N : Nat) (l4 : Int32) (l5 : Int32) (σ : Ms) : FR (W2_run h q0 q1) σ (F2_run_b41 N h q0 q1 l4 l5 σ) := by
  unfold F2_run_b41
  exact @FR_fx (Int32 × Int32 × Ms) (Unit) (W2_run h q0 q1) (fun k x => F2_run_b41B N h q0 q1 k x.1 x.2.1 x.2.2) (fun x => x.2.2) (fun k hk x => fr_F2_run_b41B h q0 q1 N k hk x.1 x.2.1 x.2.2) N (l4, l5, σ)
theorem fr_F2_run (h : Nat) (q0 : Nat) (q1 : Nat) (N : Nat) (p2 : Int32) (σ : Ms) : FR (W2_run h q0 q1) σ (F2_run N h q0 q1 p2 σ) :=
  have hσ := Fr_rfl (W2_run h q0 q1) σ
  (FR_st (fun t9 ht9 => (FR_st (fun t10 ht10 => (FR_st (fun t11 ht11 => (FR_st (fun t12 ht12 => (FR_st (fun t13 ht13 => (FR_ck fun z74 => (FR_st (fun t14 ht14 => (FR_st (fun t15 ht15 => (FR_tr2 (fr_F2_run_b41 h q0 q1 _ _ _ _) (Sub_rfl _) ht15)) (Fr_sI ht14 (In_o 6 rfl)))) (Fr_sI ht13 (In_o 1 rfl))))) (Fr_sI ht12 (In_o 5 rfl)))) (Fr_sI ht11 (In_o 4 rfl)))) (Fr_sI ht10 (In_o 3 rfl)))) (Fr_sI ht9 (In_o 2 rfl)))) (Fr_sI hσ (In_o 0 rfl)))
theorem fr_F3_of (p0 : Int32) (p1 : Int32) (σ : Ms) : FR W3_of σ (F3_of p0 p1 σ) :=
  have hσ := Fr_rfl W3_of σ
  (FR_some hσ)
theorem fr_F3_canBe (p0 : Int32) (p1 : Int32) (σ : Ms) : FR W3_canBe σ (F3_canBe p0 p1 σ) :=
  have hσ := Fr_rfl W3_canBe σ
  (FR_if (FR_some hσ) (FR_if (FR_some hσ) (FR_if (FR_some hσ) (FR_if (FR_bn (fr_F3_of _ _ _) (Sub_nil _) hσ fun r1 t2 ht2 => (FR_if (FR_some ht2) (FR_if (FR_some ht2) (FR_some ht2)))) (FR_some hσ)))))
theorem fr_F3_nextAbove_b6B (N : Nat) (k6 : Int64 × Int64 × Int64 × Int32 × Ms → Option (Int64 × Ms)) (hk6 : ∀ x, FR W3_nextAbove x.2.2.2.2 (k6 x)) (l0 : Int64) (l2 : Int64) (l4 : Int64) (l6 : Int32) (σ : Ms) : FR W3_nextAbove σ (F3_nextAbove_b6B N k6 l0 l2 l4 l6 σ) :=
  have hσ := Fr_rfl W3_nextAbove σ
  (FR_if (FR_some hσ) (FR_if (FR_some hσ) (FR_lv fun x1 => (FR_lv fun x2 => (FR_tr hσ (hk6 (l0, l2, x2, (l6 + (1 : Int32)), σ)))))))
theorem fr_F3_nextAbove_b6 (N : Nat) (l0 : Int64) (l2 : Int64) (l4 : Int64) (l6 : Int32) (σ : Ms) : FR W3_nextAbove σ (F3_nextAbove_b6 N l0 l2 l4 l6 σ) := by
  unfold F3_nextAbove_b6
  exact @FR_fx (Int64 × Int64 × Int64 × Int32 × Ms) (Int64) W3_nextAbove (fun k x => F3_nextAbove_b6B N k x.1 x.2.1 x.2.2.1 x.2.2.2.1 x.2.2.2.2) (fun x => x.2.2.2.2) (fun k hk x => fr_F3_nextAbove_b6B N k hk x.1 x.2.1 x.2.2.1 x.2.2.2.1 x.2.2.2.2) N (l0, l2, l4, l6, σ)
theorem fr_F3_nextAbove (N : Nat) (p0 : Int64) (p1 : Int64) (σ : Ms) : FR W3_nextAbove σ (F3_nextAbove N p0 p1 σ) :=
  have hσ := Fr_rfl W3_nextAbove σ
  (FR_tr2 (fr_F3_nextAbove_b6 _ _ _ _ _ _) (Sub_rfl _) hσ)
theorem fr_F3_between_b14 (N : Nat) (l0 : Int64) (l2 : Int64) (σ : Ms) : FR W3_between σ (F3_between_b14 N l0 l2 σ) :=
  have hσ := Fr_rfl W3_between σ
  (FR_if (FR_bn (fr_F3_nextAbove _ _ _ _) (Sub_nil _) hσ fun r1 t2 ht2 => (FR_some ht2)) (FR_bn (fr_F3_nextAbove _ _ _ _) (Sub_nil _) hσ fun r3 t4 ht4 => (FR_some ht4)))
theorem fr_F3_between (N : Nat) (p0 : Int64) (p1 : Int64) (σ : Ms) : FR W3_between σ (F3_between N p0 p1 σ) :=
  have hσ := Fr_rfl W3_between σ
  (FR_if (FR_tr2 (fr_F3_between_b14 _ _ _ _) (Sub_rfl _) hσ) (FR_if (FR_tr2 (fr_F3_between_b14 _ _ _ _) (Sub_rfl _) hσ) (FR_some hσ)))
theorem fr_F3_isWhole (p0 : Int64) (σ : Ms) : FR W3_isWhole σ (F3_isWhole p0 σ) :=
  have hσ := Fr_rfl W3_isWhole σ
  (FR_if (FR_some hσ) (FR_some hσ))
theorem fr_FJ9_abs_067f4 (p0 : Int64) (σ : Ms) : FR W9_abs_067f4 σ (FJ9_abs_067f4 p0 σ) :=
  have hσ := Fr_rfl W9_abs_067f4 σ
  (FR_if (FR_some hσ) (FR_some hσ))
theorem fr_FJ6_numberOfTrailingZeros_0f7a4_b74 (l0 : Int32) (l1 : Int32) (σ : Ms) : FR W6_numberOfTrailingZeros_0f7a4 σ (FJ6_numberOfTrailingZeros_0f7a4_b74 l0 l1 σ) :=
  have hσ := Fr_rfl W6_numberOfTrailingZeros_0f7a4 σ
  (FR_some hσ)
theorem fr_FJ6_numberOfTrailingZeros_0f7a4_b62 (l0 : Int32) (l1 : Int32) (σ : Ms) : FR W6_numberOfTrailingZeros_0f7a4 σ (FJ6_numberOfTrailingZeros_0f7a4_b62 l0 l1 σ) :=
  have hσ := Fr_rfl W6_numberOfTrailingZeros_0f7a4 σ
  (FR_if (FR_tr2 (fr_FJ6_numberOfTrailingZeros_0f7a4_b74 _ _ _) (Sub_rfl _) hσ) (FR_lv fun x1 => (FR_tr2 (fr_FJ6_numberOfTrailingZeros_0f7a4_b74 _ _ _) (Sub_rfl _) hσ)))
theorem fr_FJ6_numberOfTrailingZeros_0f7a4_b49 (l0 : Int32) (l1 : Int32) (σ : Ms) : FR W6_numberOfTrailingZeros_0f7a4 σ (FJ6_numberOfTrailingZeros_0f7a4_b49 l0 l1 σ) :=
  have hσ := Fr_rfl W6_numberOfTrailingZeros_0f7a4 σ
  (FR_if (FR_tr2 (fr_FJ6_numberOfTrailingZeros_0f7a4_b62 _ _ _) (Sub_rfl _) hσ) (FR_lv fun x2 => (FR_tr2 (fr_FJ6_numberOfTrailingZeros_0f7a4_b62 _ _ _) (Sub_rfl _) hσ)))
theorem fr_FJ6_numberOfTrailingZeros_0f7a4_b34 (l0 : Int32) (l1 : Int32) (σ : Ms) : FR W6_numberOfTrailingZeros_0f7a4 σ (FJ6_numberOfTrailingZeros_0f7a4_b34 l0 l1 σ) :=
  have hσ := Fr_rfl W6_numberOfTrailingZeros_0f7a4 σ
  (FR_if (FR_tr2 (fr_FJ6_numberOfTrailingZeros_0f7a4_b49 _ _ _) (Sub_rfl _) hσ) (FR_lv fun x3 => (FR_tr2 (fr_FJ6_numberOfTrailingZeros_0f7a4_b49 _ _ _) (Sub_rfl _) hσ)))
theorem fr_FJ6_numberOfTrailingZeros_0f7a4 (p0 : Int32) (σ : Ms) : FR W6_numberOfTrailingZeros_0f7a4 σ (FJ6_numberOfTrailingZeros_0f7a4 p0 σ) :=
  have hσ := Fr_rfl W6_numberOfTrailingZeros_0f7a4 σ
  (FR_lv fun x4 => (FR_if (FR_if (FR_tr2 (fr_FJ6_numberOfTrailingZeros_0f7a4_b34 _ _ _) (Sub_rfl _) hσ) (FR_lv fun x5 => (FR_tr2 (fr_FJ6_numberOfTrailingZeros_0f7a4_b34 _ _ _) (Sub_rfl _) hσ))) (FR_some hσ)))
theorem fr_FJ13_numberOfTrailingZeros_95d88 (p0 : Int64) (σ : Ms) : FR W13_numberOfTrailingZeros_95d88 σ (FJ13_numberOfTrailingZeros_95d88 p0 σ) :=
  have hσ := Fr_rfl W13_numberOfTrailingZeros_95d88 σ
  (FR_lv fun x1 => (FR_if (FR_bn (fr_FJ6_numberOfTrailingZeros_0f7a4 _ _) (Sub_nil _) hσ fun r2 t3 ht3 => (FR_some ht3)) (FR_bn (fr_FJ6_numberOfTrailingZeros_0f7a4 _ _) (Sub_nil _) hσ fun r4 t5 ht5 => (FR_some ht5))))
theorem fr_F3_age (p0 : Int64) (σ : Ms) : FR W3_age σ (F3_age p0 σ) :=
  have hσ := Fr_rfl W3_age σ
  (FR_bn (fr_FJ9_abs_067f4 _ _) (Sub_nil _) hσ fun r1 t2 ht2 => (FR_lv fun x3 => (FR_bn (fr_F3_isWhole _ _) (Sub_nil _) ht2 fun r4 t5 ht5 => (FR_if (FR_bn (fr_FJ13_numberOfTrailingZeros_95d88 _ _) (Sub_nil _) ht5 fun r6 t7 ht7 => (FR_some ht7)) (FR_some ht5)))))
theorem fr_F3_stalkColour_b133 (N : Nat) (k103 : Int32 × Int32 × Int32 × Int64 × Int64 × Int64 × Int32 × Ms → Option (Int32 × Ms)) (hk103 : ∀ x, FR W3_stalkColour x.2.2.2.2.2.2.2 (k103 x)) (l2 : Int32) (l3 : Int32) (l4 : Int32) (l5 : Int64) (l8 : Int64) (l12 : Int32) (s0 : Int64) (s1 : Int64) (σ : Ms) : FR W3_stalkColour σ (F3_stalkColour_b133 N k103 l2 l3 l4 l5 l8 l12 s0 s1 σ) :=
  have hσ := Fr_rfl W3_stalkColour σ
  (FR_lv fun x1 => (FR_tr hσ (hk103 (l2, l3, l4, l5, l8, x1, (l12 + (1 : Int32)), σ))))
theorem fr_F3_stalkColour_b103B (N : Nat) (k103 : Int32 × Int32 × Int32 × Int64 × Int64 × Int64 × Int32 × Ms → Option (Int32 × Ms)) (hk103 : ∀ x, FR W3_stalkColour x.2.2.2.2.2.2.2 (k103 x)) (l2 : Int32) (l3 : Int32) (l4 : Int32) (l5 : Int64) (l8 : Int64) (l10 : Int64) (l12 : Int32) (σ : Ms) : FR W3_stalkColour σ (F3_stalkColour_b103B N k103 l2 l3 l4 l5 l8 l10 l12 σ) :=
  have hσ := Fr_rfl W3_stalkColour σ
  (FR_if (FR_if (FR_some hσ) (FR_some hσ)) (FR_lv fun x2 => (FR_if (FR_tr2 (fr_F3_stalkColour_b133 _ _ hk103 _ _ _ _ _ _ _ _ _) (Sub_rfl _) hσ) (FR_tr2 (fr_F3_stalkColour_b133 _ _ hk103 _ _ _ _ _ _ _ _ _) (Sub_rfl _) hσ))))
theorem fr_F3_stalkColour_b103 (N : Nat) (l2 : Int32) (l3 : Int32) (l4 : Int32) (l5 : Int64) (l8 : Int64) (l10 : Int64) (l12 : Int32) (σ : Ms) : FR W3_stalkColour σ (F3_stalkColour_b103 N l2 l3 l4 l5 l8 l10 l12 σ) := by
  unfold F3_stalkColour_b103
  exact @FR_fx (Int32 × Int32 × Int32 × Int64 × Int64 × Int64 × Int32 × Ms) (Int32) W3_stalkColour (fun k x => F3_stalkColour_b103B N k x.1 x.2.1 x.2.2.1 x.2.2.2.1 x.2.2.2.2.1 x.2.2.2.2.2.1 x.2.2.2.2.2.2.1 x.2.2.2.2.2.2.2) (fun x => x.2.2.2.2.2.2.2) (fun k hk x => fr_F3_stalkColour_b103B N k hk x.1 x.2.1 x.2.2.1 x.2.2.2.1 x.2.2.2.2.1 x.2.2.2.2.2.1 x.2.2.2.2.2.2.1 x.2.2.2.2.2.2.2) N (l2, l3, l4, l5, l8, l10, l12, σ)
theorem fr_F3_stalkColour_b37 (N : Nat) (l0 : Int64) (l2 : Int32) (l3 : Int32) (s0 : Int32) (σ : Ms) : FR W3_stalkColour σ (F3_stalkColour_b37 N l0 l2 l3 s0 σ) :=
  have hσ := Fr_rfl W3_stalkColour σ
  (FR_bn (fr_FJ9_abs_067f4 _ _) (Sub_nil _) hσ fun r3 t4 ht4 => (FR_lv fun x5 => (FR_bn (fr_F3_isWhole _ _) (Sub_nil _) ht4 fun r6 t7 ht7 => (FR_if (FR_some ht7) (FR_if (FR_if (FR_lv fun x8 => (FR_lv fun x9 => (FR_tr2 (fr_F3_stalkColour_b103 _ _ _ _ _ _ _ _ _) (Sub_rfl _) ht7))) (FR_some ht7)) (FR_some ht7))))))
theorem fr_F3_stalkColour_b25 (N : Nat) (l0 : Int64) (l2 : Int32) (s0 : Int32) (σ : Ms) : FR W3_stalkColour σ (F3_stalkColour_b25 N l0 l2 s0 σ) :=
  have hσ := Fr_rfl W3_stalkColour σ
  (FR_if (FR_tr2 (fr_F3_stalkColour_b37 _ _ _ _ _ _) (Sub_rfl _) hσ) (FR_tr2 (fr_F3_stalkColour_b37 _ _ _ _ _ _) (Sub_rfl _) hσ))
theorem fr_F3_stalkColour (N : Nat) (p0 : Int64) (p1 : Int32) (σ : Ms) : FR W3_stalkColour σ (F3_stalkColour N p0 p1 σ) :=
  have hσ := Fr_rfl W3_stalkColour σ
  (FR_if (FR_some hσ) (FR_bn (fr_F3_age _ _) (Sub_nil _) hσ fun r10 t11 ht11 => (FR_if (FR_if (FR_tr2 (fr_F3_stalkColour_b25 _ _ _ _ _) (Sub_rfl _) ht11) (FR_tr2 (fr_F3_stalkColour_b25 _ _ _ _ _) (Sub_rfl _) ht11)) (FR_some ht11))))
theorem fr_F3_commonDivisor_b9B (N : Nat) (k9 : Int64 × Int64 × Int32 × Ms → Option (Int64 × Ms)) (hk9 : ∀ x, FR W3_commonDivisor x.2.2.2 (k9 x)) (l4 : Int64) (l6 : Int64) (l8 : Int32) (σ : Ms) : FR W3_commonDivisor σ (F3_commonDivisor_b9B N k9 l4 l6 l8 σ) :=
  have hσ := Fr_rfl W3_commonDivisor σ
  (FR_if (FR_some hσ) (FR_if (FR_some hσ) (FR_ck fun z75 => (FR_lv fun x1 => (FR_tr hσ (hk9 (l6, x1, (l8 + (1 : Int32)), σ)))))))
theorem fr_F3_commonDivisor_b9 (N : Nat) (l4 : Int64) (l6 : Int64) (l8 : Int32) (σ : Ms) : FR W3_commonDivisor σ (F3_commonDivisor_b9 N l4 l6 l8 σ) := by
  unfold F3_commonDivisor_b9
  exact @FR_fx (Int64 × Int64 × Int32 × Ms) (Int64) W3_commonDivisor (fun k x => F3_commonDivisor_b9B N k x.1 x.2.1 x.2.2.1 x.2.2.2) (fun x => x.2.2.2) (fun k hk x => fr_F3_commonDivisor_b9B N k hk x.1 x.2.1 x.2.2.1 x.2.2.2) N (l4, l6, l8, σ)
theorem fr_F3_commonDivisor (N : Nat) (p0 : Int64) (p1 : Int64) (σ : Ms) : FR W3_commonDivisor σ (F3_commonDivisor N p0 p1 σ) :=
  have hσ := Fr_rfl W3_commonDivisor σ
  (FR_tr2 (fr_F3_commonDivisor_b9 _ _ _ _ _) (Sub_rfl _) hσ)
theorem fr_F4_wonBy (q0 : Nat) (N : Nat) (p1 : Int64) (p2 : Int32) (p3 : Int32) (p4 : Int32) (σ : Ms) : FR (W4_wonBy q0) σ (F4_wonBy N q0 p1 p2 p3 p4 σ) :=
  have hσ := Fr_rfl (W4_wonBy q0) σ
  (FR_bn (fr_F11_other _ _) (Sub_nil _) hσ fun r1 t2 ht2 => (FR_bn (fr_F4_settled q0 _ _ _ _ _) (Sub_nil _) ht2 fun r3 t4 ht4 => (FR_bn (fr_F4_isOdd q0 _ _) (Sub_nil _) ht4 fun r5 t6 ht6 => (FR_bn (fr_F4_decides _ _ _ _ _) (Sub_nil _) ht6 fun r7 t8 ht8 => (FR_if (FR_some ht8) (FR_some ht8))))))
theorem fr_F4_note_b38 (σ : Ms) : FR W4_note σ (F4_note_b38 σ) :=
  have hσ := Fr_rfl W4_note σ
  (FR_st (fun t1 ht1 => (FR_some ht1)) (Fr_sI hσ (In_o 0 rfl)))
theorem fr_F4_note (p0 : Int32) (p1 : Int32) (p2 : Int32) (p3 : Int32) (σ : Ms) : FR W4_note σ (F4_note p0 p1 p2 p3 σ) :=
  have hσ := Fr_rfl W4_note σ
  (FR_st (fun t2 ht2 => (FR_if (FR_if (FR_tr2 (fr_F4_note_b38 _) (Sub_rfl _) ht2) (FR_st (fun t3 ht3 => (FR_st (fun t4 ht4 => (FR_st (fun t5 ht5 => (FR_tr2 (fr_F4_note_b38 _) (Sub_rfl _) ht5)) (Fr_sI ht4 (In_o 4 rfl)))) (Fr_sI ht3 (In_o 3 rfl)))) (Fr_sI ht2 (In_o 2 rfl)))) (FR_some ht2))) (Fr_sI hσ (In_o 1 rfl)))
theorem fr_F4_lookAtCuts_b64 (q0 : Nat) (N : Nat) (k2 : Int32 × Int32 × Ms → Option (Unit × Ms)) (hk2 : ∀ x, FR (W4_lookAtCuts q0) x.2.2 (k2 x)) (l2 : Int32) (l3 : Int32) (σ : Ms) : FR (W4_lookAtCuts q0) σ (F4_lookAtCuts_b64 N q0 k2 l2 l3 σ) :=
  have hσ := Fr_rfl (W4_lookAtCuts q0) σ
  (FR_tr hσ (hk2 (l2, (l3 + (1 : Int32)), σ)))
theorem fr_F4_lookAtCuts_b2B (q0 : Nat) (N : Nat) (k2 : Int32 × Int32 × Ms → Option (Unit × Ms)) (hk2 : ∀ x, FR (W4_lookAtCuts q0) x.2.2 (k2 x)) (l2 : Int32) (l3 : Int32) (σ : Ms) : FR (W4_lookAtCuts q0) σ (F4_lookAtCuts_b2B N q0 k2 l2 l3 σ) :=
  have hσ := Fr_rfl (W4_lookAtCuts q0) σ
  (FR_if (FR_some hσ) (FR_bn (fr_F0_mayCut q0 _ _ _) (Sub_nil _) hσ fun r1 t2 ht2 => (FR_if (FR_bn (fr_F0_branchSet q0 _ _ _) (Sub_nil _) ht2 fun r3 t4 ht4 => (FR_lv fun x5 => (FR_bn (fr_F0_worthWith q0 _ _ _) (Sub_of [0] rfl) ht4 fun r6 t7 ht7 => (FR_bn (fr_F0_nimWith q0 _ _ _) (Sub_of [1] rfl) ht7 fun r8 t9 ht9 => (FR_bn (fr_F4_wonBy q0 _ _ _ _ _ _) (Sub_nil _) ht9 fun r10 t11 ht11 => (FR_bn (fr_F4_note _ _ _ _ _) (Sub_of [2, 3, 4, 5, 6] rfl) ht11 fun r12 t13 ht13 => (FR_tr2 (fr_F4_lookAtCuts_b64 q0 _ _ hk2 _ _ _) (Sub_rfl _) ht13))))))) (FR_tr2 (fr_F4_lookAtCuts_b64 q0 _ _ hk2 _ _ _) (Sub_rfl _) ht2))))
theorem fr_F4_lookAtCuts_b2 (q0 : Nat) (N : Nat) (l2 : Int32) (l3 : Int32) (σ : Ms) : FR (W4_lookAtCuts q0) σ (F4_lookAtCuts_b2 N q0 l2 l3 σ) := by
  unfold F4_lookAtCuts_b2
  exact @FR_fx (Int32 × Int32 × Ms) (Unit) (W4_lookAtCuts q0) (fun k x => F4_lookAtCuts_b2B N q0 k x.1 x.2.1 x.2.2) (fun x => x.2.2) (fun k hk x => fr_F4_lookAtCuts_b2B q0 N k hk x.1 x.2.1 x.2.2) N (l2, l3, σ)
theorem fr_F4_lookAtCuts (q0 : Nat) (N : Nat) (p1 : Int32) (σ : Ms) : FR (W4_lookAtCuts q0) σ (F4_lookAtCuts N q0 p1 σ) :=
  have hσ := Fr_rfl (W4_lookAtCuts q0) σ
  (FR_tr2 (fr_F4_lookAtCuts_b2 q0 _ _ _ _) (Sub_rfl _) hσ)
theorem fr_F4_lookAtBets_b66 (q0 : Nat) (N : Nat) (k3 : Int32 × Int64 × Int32 × Int32 × Ms → Option (Unit × Ms)) (hk3 : ∀ x, FR (W4_lookAtBets q0) x.2.2.2.2 (k3 x)) (l2 : Int32) (l3 : Int64) (l5 : Int32) (l6 : Int32) (σ : Ms) : FR (W4_lookAtBets q0) σ (F4_lookAtBets_b66 N q0 k3 l2 l3 l5 l6 σ) :=
  have hσ := Fr_rfl (W4_lookAtBets q0) σ
  (FR_tr hσ (hk3 (l2, l3, l5, (l6 + (1 : Int32)), σ)))
theorem fr_F4_lookAtBets_b3B (q0 : Nat) (N : Nat) (k3 : Int32 × Int64 × Int32 × Int32 × Ms → Option (Unit × Ms)) (hk3 : ∀ x, FR (W4_lookAtBets q0) x.2.2.2.2 (k3 x)) (l2 : Int32) (l3 : Int64) (l5 : Int32) (l6 : Int32) (σ : Ms) : FR (W4_lookAtBets q0) σ (F4_lookAtBets_b3B N q0 k3 l2 l3 l5 l6 σ) :=
  have hσ := Fr_rfl (W4_lookAtBets q0) σ
  (FR_if (FR_some hσ) (FR_bn (fr_F0_mayTake q0 _ _) (Sub_nil _) hσ fun r1 t2 ht2 => (FR_if (FR_bn (fr_F0_gain q0 _ _ _) (Sub_nil _) ht2 fun r3 t4 ht4 => (FR_lv fun x5 => (FR_bn (fr_F4_wonBy q0 _ _ _ _ _ _) (Sub_nil _) ht4 fun r6 t7 ht7 => (FR_bn (fr_F4_note _ _ _ _ _) (Sub_of [0, 1, 2, 3, 4] rfl) ht7 fun r8 t9 ht9 => (FR_tr2 (fr_F4_lookAtBets_b66 q0 _ _ hk3 _ _ _ _ _) (Sub_rfl _) ht9))))) (FR_tr2 (fr_F4_lookAtBets_b66 q0 _ _ hk3 _ _ _ _ _) (Sub_rfl _) ht2))))
theorem fr_F4_lookAtBets_b3 (q0 : Nat) (N : Nat) (l2 : Int32) (l3 : Int64) (l5 : Int32) (l6 : Int32) (σ : Ms) : FR (W4_lookAtBets q0) σ (F4_lookAtBets_b3 N q0 l2 l3 l5 l6 σ) := by
  unfold F4_lookAtBets_b3
  exact @FR_fx (Int32 × Int64 × Int32 × Int32 × Ms) (Unit) (W4_lookAtBets q0) (fun k x => F4_lookAtBets_b3B N q0 k x.1 x.2.1 x.2.2.1 x.2.2.2.1 x.2.2.2.2) (fun x => x.2.2.2.2) (fun k hk x => fr_F4_lookAtBets_b3B q0 N k hk x.1 x.2.1 x.2.2.1 x.2.2.2.1 x.2.2.2.2) N (l2, l3, l5, l6, σ)
theorem fr_F4_lookAtBets (q0 : Nat) (N : Nat) (p1 : Int32) (p2 : Int64) (p3 : Int32) (σ : Ms) : FR (W4_lookAtBets q0) σ (F4_lookAtBets N q0 p1 p2 p3 σ) :=
  have hσ := Fr_rfl (W4_lookAtBets q0) σ
  (FR_tr2 (fr_F4_lookAtBets_b3 q0 _ _ _ _ _ _) (Sub_rfl _) hσ)
theorem fr_F4_lookAtHeaps_b78 (q0 : Nat) (N : Nat) (k3 : Int32 × Int64 × Int32 × Int32 × Ms → Option (Unit × Ms)) (hk3 : ∀ x, FR (W4_lookAtHeaps q0) x.2.2.2.2 (k3 x)) (l2 : Int32) (l3 : Int64) (l5 : Int32) (l6 : Int32) (σ : Ms) : FR (W4_lookAtHeaps q0) σ (F4_lookAtHeaps_b78 N q0 k3 l2 l3 l5 l6 σ) :=
  have hσ := Fr_rfl (W4_lookAtHeaps q0) σ
  (FR_tr hσ (hk3 (l2, l3, l5, (l6 + (1 : Int32)), σ)))
theorem fr_F4_lookAtHeaps_b36B (q0 : Nat) (N : Nat) (k3 : Int32 × Int64 × Int32 × Int32 × Ms → Option (Unit × Ms)) (hk3 : ∀ x, FR (W4_lookAtHeaps q0) x.2.2.2.2 (k3 x)) (k36 : Int32 × Int64 × Int32 × Int32 × Int32 × Int32 × Ms → Option (Unit × Ms)) (hk36 : ∀ x, FR (W4_lookAtHeaps q0) x.2.2.2.2.2.2 (k36 x)) (l2 : Int32) (l3 : Int64) (l5 : Int32) (l6 : Int32) (l7 : Int32) (l8 : Int32) (σ : Ms) : FR (W4_lookAtHeaps q0) σ (F4_lookAtHeaps_b36B N q0 k3 k36 l2 l3 l5 l6 l7 l8 σ) :=
  have hσ := Fr_rfl (W4_lookAtHeaps q0) σ
  (FR_ck fun z76 => (FR_if (FR_tr2 (fr_F4_lookAtHeaps_b78 q0 _ _ hk3 _ _ _ _ _) (Sub_rfl _) hσ) (FR_bn (fr_F4_wonBy q0 _ _ _ _ _ _) (Sub_nil _) hσ fun r1 t2 ht2 => (FR_bn (fr_F4_note _ _ _ _ _) (Sub_of [0, 1, 2, 3, 4] rfl) ht2 fun r3 t4 ht4 => (FR_tr ht4 (hk36 (l2, l3, l5, l6, l7, (l8 + (1 : Int32)), t4)))))))
theorem fr_F4_lookAtHeaps_b36 (q0 : Nat) (N : Nat) (k3 : Int32 × Int64 × Int32 × Int32 × Ms → Option (Unit × Ms)) (hk3 : ∀ x, FR (W4_lookAtHeaps q0) x.2.2.2.2 (k3 x)) (l2 : Int32) (l3 : Int64) (l5 : Int32) (l6 : Int32) (l7 : Int32) (l8 : Int32) (σ : Ms) : FR (W4_lookAtHeaps q0) σ (F4_lookAtHeaps_b36 N q0 k3 l2 l3 l5 l6 l7 l8 σ) := by
  unfold F4_lookAtHeaps_b36
  exact @FR_fx (Int32 × Int64 × Int32 × Int32 × Int32 × Int32 × Ms) (Unit) (W4_lookAtHeaps q0) (fun k x => F4_lookAtHeaps_b36B N q0 k3 k x.1 x.2.1 x.2.2.1 x.2.2.2.1 x.2.2.2.2.1 x.2.2.2.2.2.1 x.2.2.2.2.2.2) (fun x => x.2.2.2.2.2.2) (fun k hk x => fr_F4_lookAtHeaps_b36B q0 N k3 hk3 k hk x.1 x.2.1 x.2.2.1 x.2.2.2.1 x.2.2.2.2.1 x.2.2.2.2.2.1 x.2.2.2.2.2.2) N (l2, l3, l5, l6, l7, l8, σ)
theorem fr_F4_lookAtHeaps_b3B (q0 : Nat) (N : Nat) (k3 : Int32 × Int64 × Int32 × Int32 × Ms → Option (Unit × Ms)) (hk3 : ∀ x, FR (W4_lookAtHeaps q0) x.2.2.2.2 (k3 x)) (l2 : Int32) (l3 : Int64) (l5 : Int32) (l6 : Int32) (σ : Ms) : FR (W4_lookAtHeaps q0) σ (F4_lookAtHeaps_b3B N q0 k3 l2 l3 l5 l6 σ) :=
  have hσ := Fr_rfl (W4_lookAtHeaps q0) σ
  (FR_if (FR_some hσ) (FR_bn (fr_F0_hasHeap q0 _ _) (Sub_nil _) hσ fun r5 t6 ht6 => (FR_if (FR_ck fun z77 => (FR_lv fun x7 => (FR_tr2 (fr_F4_lookAtHeaps_b36 q0 _ _ hk3 _ _ _ _ _ _ _) (Sub_rfl _) ht6))) (FR_tr2 (fr_F4_lookAtHeaps_b78 q0 _ _ hk3 _ _ _ _ _) (Sub_rfl _) ht6))))
theorem fr_F4_lookAtHeaps_b3 (q0 : Nat) (N : Nat) (l2 : Int32) (l3 : Int64) (l5 : Int32) (l6 : Int32) (σ : Ms) : FR (W4_lookAtHeaps q0) σ (F4_lookAtHeaps_b3 N q0 l2 l3 l5 l6 σ) := by
  unfold F4_lookAtHeaps_b3
  exact @FR_fx (Int32 × Int64 × Int32 × Int32 × Ms) (Unit) (W4_lookAtHeaps q0) (fun k x => F4_lookAtHeaps_b3B N q0 k x.1 x.2.1 x.2.2.1 x.2.2.2.1 x.2.2.2.2) (fun x => x.2.2.2.2) (fun k hk x => fr_F4_lookAtHeaps_b3B q0 N k hk x.1 x.2.1 x.2.2.1 x.2.2.2.1 x.2.2.2.2) N (l2, l3, l5, l6, σ)
theorem fr_F4_lookAtHeaps (q0 : Nat) (N : Nat) (p1 : Int32) (p2 : Int64) (p3 : Int32) (σ : Ms) : FR (W4_lookAtHeaps q0) σ (F4_lookAtHeaps N q0 p1 p2 p3 σ) :=
  have hσ := Fr_rfl (W4_lookAtHeaps q0) σ
  (FR_tr2 (fr_F4_lookAtHeaps_b3 q0 _ _ _ _ _ _) (Sub_rfl _) hσ)
theorem fr_F4_look_b75 (q0 : Nat) (N : Nat) (l2 : Int32) (l5 : Int32) (s0 : Int64) (s1 : Int64) (σ : Ms) : FR (W4_look q0) σ (F4_look_b75 N q0 l2 l5 s0 s1 σ) :=
  have hσ := Fr_rfl (W4_look q0) σ
  (FR_lv fun x1 => (FR_bn (fr_F4_wonBy q0 _ _ _ _ _ _) (Sub_nil _) hσ fun r2 t3 ht3 => (FR_bn (fr_F4_note _ _ _ _ _) (Sub_of [1, 0, 2, 3, 4] rfl) ht3 fun r4 t5 ht5 => (FR_some ht5))))
theorem fr_F4_look (q0 : Nat) (N : Nat) (p1 : Int32) (σ : Ms) : FR (W4_look q0) σ (F4_look N q0 p1 σ) :=
  have hσ := Fr_rfl (W4_look q0) σ
  (FR_st (fun t6 ht6 => (FR_st (fun t7 ht7 => (FR_bn (fr_F0_worthWith q0 _ _ _) (Sub_of [5] rfl) ht7 fun r8 t9 ht9 => (FR_bn (fr_F0_nimWith q0 _ _ _) (Sub_of [6] rfl) ht9 fun r10 t11 ht11 => (FR_bn (fr_F4_lookAtCuts q0 _ _ _) (Sub_of [5, 6, 1, 0, 2, 3, 4] rfl) ht11 fun r12 t13 ht13 => (FR_bn (fr_F4_lookAtBets q0 _ _ _ _ _) (Sub_of [1, 0, 2, 3, 4] rfl) ht13 fun r14 t15 ht15 => (FR_bn (fr_F4_lookAtHeaps q0 _ _ _ _ _) (Sub_of [1, 0, 2, 3, 4] rfl) ht15 fun r16 t17 ht17 => (FR_bn (fr_F0_maySpend q0 _ _) (Sub_nil _) ht17 fun r18 t19 ht19 => (FR_if (FR_some ht19) (FR_if (FR_tr2 (fr_F4_look_b75 q0 _ _ _ _ _ _) (Sub_rfl _) ht19) (FR_tr2 (fr_F4_look_b75 q0 _ _ _ _ _ _) (Sub_rfl _) ht19)))))))))) (Fr_sI ht6 (In_o 1 rfl)))) (Fr_sI hσ (In_o 0 rfl)))
theorem fr_F5_copy_b35B (q0 : Nat) (q1 : Nat) (N : Nat) (k35 : Int32 × Ms → Option (Unit × Ms)) (hk35 : ∀ x, FR (W5_copy q0 q1) x.2 (k35 x)) (l2 : Int32) (σ : Ms) : FR (W5_copy q0 q1) σ (F5_copy_b35B N q0 q1 k35 l2 σ) :=
  have hσ := Fr_rfl (W5_copy q0 q1) σ
  (FR_if (FR_some hσ) (FR_ck fun z78 => (FR_ck fun z79 => (FR_st (fun t1 ht1 => (FR_ck fun z80 => (FR_ck fun z81 => (FR_st (fun t2 ht2 => (FR_ck fun z82 => (FR_ck fun z83 => (FR_st (fun t3 ht3 => (FR_ck fun z84 => (FR_ck fun z85 => (FR_st (fun t4 ht4 => (FR_ck fun z86 => (FR_ck fun z87 => (FR_st (fun t5 ht5 => (FR_tr ht5 (hk35 ((l2 + (1 : Int32)), t5)))) (Fr_sI ht4 (In_a 4 rfl)))))) (Fr_sI ht3 (In_a 3 rfl)))))) (Fr_sI ht2 (In_a 2 rfl)))))) (Fr_sI ht1 (In_a 1 rfl)))))) (Fr_sI hσ (In_a 0 rfl))))))
