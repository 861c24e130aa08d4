theorem fr_F10_canBe (q0 : Nat) (N : Nat) (p1 : Int32) (σ : Ms) : FR (W10_canBe q0) σ (F10_canBe N q0 p1 σ) :=
  have hσ := Fr_rfl (W10_canBe q0) σ
  (FR_if (FR_some hσ) (FR_if (FR_some hσ) (FR_bn (fr_FJ6_bitCount_0f7a4 _ _) (Sub_nil _) hσ fun r5 t6 ht6 => (FR_if (FR_tr2 (fr_F10_canBe_b23 q0 _ _ _ _) (Sub_rfl _) ht6) (FR_some ht6)))))
theorem fr_F10_colourAll_b35 (q0 : Nat) (N : Nat) (k2 : Int32 × Int32 × Int32 × Ms → Option (Unit × Ms)) (hk2 : ∀ x, FR (W10_colourAll q0) x.2.2.2 (k2 x)) (l1 : Int32) (l2 : Int32) (l3 : Int32) (σ : Ms) : FR (W10_colourAll q0) σ (F10_colourAll_b35 N q0 k2 l1 l2 l3 σ) :=
  have hσ := Fr_rfl (W10_colourAll q0) σ
  (FR_tr hσ (hk2 (l1, l2, (l3 + (1 : Int32)), σ)))
theorem fr_F10_colourAll_b34 (q0 : Nat) (N : Nat) (k2 : Int32 × Int32 × Int32 × Ms → Option (Unit × Ms)) (hk2 : ∀ x, FR (W10_colourAll q0) x.2.2.2 (k2 x)) (l1 : Int32) (l2 : Int32) (l3 : Int32) (s1 : Int32) (s2 : Int32) (σ : Ms) : FR (W10_colourAll q0) σ (F10_colourAll_b34 N q0 k2 l1 l2 l3 s1 s2 σ) :=
  have hσ := Fr_rfl (W10_colourAll q0) σ
  (FR_ck fun z138 => (FR_st (fun t1 ht1 => (FR_tr2 (fr_F10_colourAll_b35 q0 _ _ hk2 _ _ _ _) (Sub_rfl _) ht1)) (Fr_sI hσ (In_a 0 rfl))))
theorem fr_F10_colourAll_b2B (q0 : Nat) (N : Nat) (k2 : Int32 × Int32 × Int32 × Ms → Option (Unit × Ms)) (hk2 : ∀ x, FR (W10_colourAll q0) x.2.2.2 (k2 x)) (l1 : Int32) (l2 : Int32) (l3 : Int32) (σ : Ms) : FR (W10_colourAll q0) σ (F10_colourAll_b2B N q0 k2 l1 l2 l3 σ) :=
  have hσ := Fr_rfl (W10_colourAll q0) σ
  (FR_if (FR_some hσ) (FR_bn (fr_F11_isIn _ _ _) (Sub_nil _) hσ fun r2 t3 ht3 => (FR_if (FR_tr2 (fr_F10_colourAll_b35 q0 _ _ hk2 _ _ _ _) (Sub_rfl _) ht3) (FR_bn (fr_F11_isIn _ _ _) (Sub_nil _) ht3 fun r4 t5 ht5 => (FR_if (FR_tr2 (fr_F10_colourAll_b34 q0 _ _ hk2 _ _ _ _ _ _) (Sub_rfl _) ht5) (FR_tr2 (fr_F10_colourAll_b34 q0 _ _ hk2 _ _ _ _ _ _) (Sub_rfl _) ht5))))))
theorem fr_F10_colourAll_b2 (q0 : Nat) (N : Nat) (l1 : Int32) (l2 : Int32) (l3 : Int32) (σ : Ms) : FR (W10_colourAll q0) σ (F10_colourAll_b2 N q0 l1 l2 l3 σ) := by
  unfold F10_colourAll_b2
  exact @FR_fx (Int32 × Int32 × Int32 × Ms) (Unit) (W10_colourAll q0) (fun k x => F10_colourAll_b2B N q0 k x.1 x.2.1 x.2.2.1 x.2.2.2) (fun x => x.2.2.2) (fun k hk x => fr_F10_colourAll_b2B q0 N k hk x.1 x.2.1 x.2.2.1 x.2.2.2) N (l1, l2, l3, σ)
theorem fr_F10_colourAll (q0 : Nat) (N : Nat) (p1 : Int32) (p2 : Int32) (σ : Ms) : FR (W10_colourAll q0) σ (F10_colourAll N q0 p1 p2 σ) :=
  have hσ := Fr_rfl (W10_colourAll q0) σ
  (FR_tr2 (fr_F10_colourAll_b2 q0 _ _ _ _ _) (Sub_rfl _) hσ)
theorem fr_F10_count_b52 (N : Nat) (k24 : Int32 × Int32 × Int32 × Ms → Option (Unit × Ms)) (hk24 : ∀ x, FR W10_count x.2.2.2 (k24 x)) (l1 : Int32) (l2 : Int32) (l3 : Int32) (σ : Ms) : FR W10_count σ (F10_count_b52 N k24 l1 l2 l3 σ) :=
  have hσ := Fr_rfl W10_count σ
  (FR_tr hσ (hk24 (l1, l2, (l3 + (1 : Int32)), σ)))
theorem fr_F10_count_b24B (N : Nat) (k24 : Int32 × Int32 × Int32 × Ms → Option (Unit × Ms)) (hk24 : ∀ x, FR W10_count x.2.2.2 (k24 x)) (l1 : Int32) (l2 : Int32) (l3 : Int32) (σ : Ms) : FR W10_count σ (F10_count_b24B N k24 l1 l2 l3 σ) :=
  have hσ := Fr_rfl W10_count σ
  (FR_if (FR_some hσ) (FR_bn (fr_F11_isIn _ _ _) (Sub_nil _) hσ fun r1 t2 ht2 => (FR_if (FR_tr2 (fr_F10_count_b52 _ _ hk24 _ _ _ _) (Sub_rfl _) ht2) (FR_ck fun z139 => (FR_ck fun z140 => (FR_st (fun t3 ht3 => (FR_tr2 (fr_F10_count_b52 _ _ hk24 _ _ _ _) (Sub_rfl _) ht3)) (Fr_sI ht2 (In_a 0 rfl))))))))
theorem fr_F10_count_b24 (N : Nat) (l1 : Int32) (l2 : Int32) (l3 : Int32) (σ : Ms) : FR W10_count σ (F10_count_b24 N l1 l2 l3 σ) := by
  unfold F10_count_b24
  exact @FR_fx (Int32 × Int32 × Int32 × Ms) (Unit) W10_count (fun k x => F10_count_b24B N k x.1 x.2.1 x.2.2.1 x.2.2.2) (fun x => x.2.2.2) (fun k hk x => fr_F10_count_b24B N k hk x.1 x.2.1 x.2.2.1 x.2.2.2) N (l1, l2, l3, σ)
theorem fr_F10_count_b12 (N : Nat) (l1 : Int32) (l2 : Int32) (σ : Ms) : FR W10_count σ (F10_count_b12 N l1 l2 σ) :=
  have hσ := Fr_rfl W10_count σ
  (FR_st (fun t4 ht4 => (FR_tr2 (fr_F10_count_b24 _ _ _ _ _) (Sub_rfl _) ht4)) (Fr_sI hσ (In_o 1 rfl)))
theorem fr_F10_count (N : Nat) (p0 : Int32) (p1 : Int32) (σ : Ms) : FR W10_count σ (F10_count N p0 p1 σ) :=
  have hσ := Fr_rfl W10_count σ
  (FR_if (FR_tr2 (fr_F10_count_b12 _ _ _ _) (Sub_rfl _) hσ) (FR_st (fun t5 ht5 => (FR_tr2 (fr_F10_count_b12 _ _ _ _) (Sub_rfl _) ht5)) (Fr_sI hσ (In_o 2 rfl))))
theorem fr_F10_find_b75 (q0 : Nat) (N : Nat) (k40 : Int32 × Int64 × Int32 × Int32 × Ms → Option (Unit × Ms)) (hk40 : ∀ x, FR (W10_find q0) x.2.2.2.2 (k40 x)) (l2 : Int32) (l3 : Int64) (l5 : Int32) (l6 : Int32) (σ : Ms) : FR (W10_find q0) σ (F10_find_b75 N q0 k40 l2 l3 l5 l6 σ) :=
  have hσ := Fr_rfl (W10_find q0) σ
  (FR_lv fun x1 => (FR_if (FR_tr hσ (hk40 (l2, l3, x1, (l6 + (1 : Int32)), σ))) (FR_some hσ)))
theorem fr_F10_find_b40B (q0 : Nat) (N : Nat) (k40 : Int32 × Int64 × Int32 × Int32 × Ms → Option (Unit × Ms)) (hk40 : ∀ x, FR (W10_find q0) x.2.2.2.2 (k40 x)) (l2 : Int32) (l3 : Int64) (l5 : Int32) (l6 : Int32) (σ : Ms) : FR (W10_find q0) σ (F10_find_b40B N q0 k40 l2 l3 l5 l6 σ) :=
  have hσ := Fr_rfl (W10_find q0) σ
  (FR_if (FR_some hσ) (FR_bn (fr_F10_colourAll q0 _ _ _ _) (Sub_of [3] rfl) hσ fun r2 t3 ht3 => (FR_bn (fr_F0_worthWith q0 _ _ _) (Sub_of [4] rfl) ht3 fun r4 t5 ht5 => (FR_if (FR_tr2 (fr_F10_find_b75 q0 _ _ hk40 _ _ _ _ _) (Sub_rfl _) ht5) (FR_bn (fr_F10_count _ _ _ _) (Sub_of [0, 1, 2] rfl) ht5 fun r6 t7 ht7 => (FR_tr2 (fr_F10_find_b75 q0 _ _ hk40 _ _ _ _ _) (Sub_rfl _) ht7))))))
theorem fr_F10_find_b40 (q0 : Nat) (N : Nat) (l2 : Int32) (l3 : Int64) (l5 : Int32) (l6 : Int32) (σ : Ms) : FR (W10_find q0) σ (F10_find_b40 N q0 l2 l3 l5 l6 σ) := by
  unfold F10_find_b40
  exact @FR_fx (Int32 × Int64 × Int32 × Int32 × Ms) (Unit) (W10_find q0) (fun k x => F10_find_b40B N q0 k x.1 x.2.1 x.2.2.1 x.2.2.2.1 x.2.2.2.2) (fun x => x.2.2.2.2) (fun k hk x => fr_F10_find_b40B q0 N k hk x.1 x.2.1 x.2.2.1 x.2.2.2.1 x.2.2.2.2) N (l2, l3, l5, l6, σ)
theorem fr_F10_find_b13B (q0 : Nat) (N : Nat) (k13 : Int32 × Int64 × Int32 × Ms → Option (Unit × Ms)) (hk13 : ∀ x, FR (W10_find q0) x.2.2.2 (k13 x)) (l2 : Int32) (l3 : Int64) (l5 : Int32) (σ : Ms) : FR (W10_find q0) σ (F10_find_b13B N q0 k13 l2 l3 l5 σ) :=
  have hσ := Fr_rfl (W10_find q0) σ
  (FR_if (FR_tr2 (fr_F10_find_b40 q0 _ _ _ _ _ _) (Sub_rfl _) hσ) (FR_ck fun z141 => (FR_st (fun t8 ht8 => (FR_tr ht8 (hk13 (l2, l3, (l5 + (1 : Int32)), t8)))) (Fr_sI hσ (In_a 0 rfl)))))
theorem fr_F10_find_b13 (q0 : Nat) (N : Nat) (l2 : Int32) (l3 : Int64) (l5 : Int32) (σ : Ms) : FR (W10_find q0) σ (F10_find_b13 N q0 l2 l3 l5 σ) := by
  unfold F10_find_b13
  exact @FR_fx (Int32 × Int64 × Int32 × Ms) (Unit) (W10_find q0) (fun k x => F10_find_b13B N q0 k x.1 x.2.1 x.2.2.1 x.2.2.2) (fun x => x.2.2.2) (fun k hk x => fr_F10_find_b13B q0 N k hk x.1 x.2.1 x.2.2.1 x.2.2.2) N (l2, l3, l5, σ)
theorem fr_F10_find (q0 : Nat) (N : Nat) (p1 : Int32) (p2 : Int64) (σ : Ms) : FR (W10_find q0) σ (F10_find N q0 p1 p2 σ) :=
  have hσ := Fr_rfl (W10_find q0) σ
  (FR_st (fun t9 ht9 => (FR_st (fun t10 ht10 => (FR_tr2 (fr_F10_find_b13 q0 _ _ _ _ _) (Sub_rfl _) ht10)) (Fr_sI ht9 (In_o 2 rfl)))) (Fr_sI hσ (In_o 1 rfl)))
theorem fr_F10_bestParting_b64 (N : Nat) (k12 : Int32 × Int32 × Int32 × Int32 × Ms → Option (Int32 × Ms)) (hk12 : ∀ x, FR W10_bestParting x.2.2.2.2 (k12 x)) (l1 : Int32) (l2 : Int32) (l3 : Int32) (l4 : Int32) (σ : Ms) : FR W10_bestParting σ (F10_bestParting_b64 N k12 l1 l2 l3 l4 σ) :=
  have hσ := Fr_rfl W10_bestParting σ
  (FR_tr hσ (hk12 (l1, l2, l3, (l4 + (1 : Int32)), σ)))
theorem fr_F10_bestParting_b12B (N : Nat) (k12 : Int32 × Int32 × Int32 × Int32 × Ms → Option (Int32 × Ms)) (hk12 : ∀ x, FR W10_bestParting x.2.2.2.2 (k12 x)) (l1 : Int32) (l2 : Int32) (l3 : Int32) (l4 : Int32) (σ : Ms) : FR W10_bestParting σ (F10_bestParting_b12B N k12 l1 l2 l3 l4 σ) :=
  have hσ := Fr_rfl W10_bestParting σ
  (FR_if (FR_some hσ) (FR_ck fun z142 => (FR_ck fun z143 => (FR_bn (fr_FJ9_max_7cf53 _ _ _) (Sub_nil _) hσ fun r1 t2 ht2 => (FR_bn (fr_F11_isIn _ _ _) (Sub_nil _) ht2 fun r3 t4 ht4 => (FR_if (FR_tr2 (fr_F10_bestParting_b64 _ _ hk12 _ _ _ _ _) (Sub_rfl _) ht4) (FR_if (FR_tr2 (fr_F10_bestParting_b64 _ _ hk12 _ _ _ _ _) (Sub_rfl _) ht4) (FR_tr2 (fr_F10_bestParting_b64 _ _ hk12 _ _ _ _ _) (Sub_rfl _) ht4))))))))
theorem fr_F10_bestParting_b12 (N : Nat) (l1 : Int32) (l2 : Int32) (l3 : Int32) (l4 : Int32) (σ : Ms) : FR W10_bestParting σ (F10_bestParting_b12 N l1 l2 l3 l4 σ) := by
  unfold F10_bestParting_b12
  exact @FR_fx (Int32 × Int32 × Int32 × Int32 × Ms) (Int32) W10_bestParting (fun k x => F10_bestParting_b12B N k x.1 x.2.1 x.2.2.1 x.2.2.2.1 x.2.2.2.2) (fun x => x.2.2.2.2) (fun k hk x => fr_F10_bestParting_b12B N k hk x.1 x.2.1 x.2.2.1 x.2.2.2.1 x.2.2.2.2) N (l1, l2, l3, l4, σ)
theorem fr_F10_bestParting (N : Nat) (p0 : Int32) (σ : Ms) : FR W10_bestParting σ (F10_bestParting N p0 σ) :=
  have hσ := Fr_rfl W10_bestParting σ
  (FR_lv fun x5 => (FR_tr2 (fr_F10_bestParting_b12 _ _ _ _ _ _) (Sub_rfl _) hσ))
theorem fr_F11_status (σ : Ms) : FR W11_status σ (F11_status σ) :=
  have hσ := Fr_rfl W11_status σ
  (FR_some hσ)
theorem fr_F11_top (σ : Ms) : FR W11_top σ (F11_top σ) :=
  have hσ := Fr_rfl W11_top σ
  (FR_some hσ)
theorem fr_F11_bottom (σ : Ms) : FR W11_bottom σ (F11_bottom σ) :=
  have hσ := Fr_rfl W11_bottom σ
  (FR_some hσ)
theorem fr_F11_no (p0 : Int32) (σ : Ms) : FR W11_no σ (F11_no p0 σ) :=
  have hσ := Fr_rfl W11_no σ
  (FR_st (fun t1 ht1 => (FR_some ht1)) (Fr_sI hσ (In_o 0 rfl)))
theorem fr_F11_yes (σ : Ms) : FR W11_yes σ (F11_yes σ) :=
  have hσ := Fr_rfl W11_yes σ
  (FR_st (fun t1 ht1 => (FR_some ht1)) (Fr_sI hσ (In_o 0 rfl)))
theorem fr_F11_tray_b14 (N : Nat) (σ : Ms) : FR W11_tray σ (F11_tray_b14 N σ) :=
  have hσ := Fr_rfl W11_tray σ
  (FR_bn (fr_F11_no _ _) (Sub_of [0] rfl) hσ fun r1 t2 ht2 => (FR_ck fun z144 => (FR_some ht2)))
theorem fr_F11_tray (N : Nat) (p0 : Int32) (p1 : Int32) (p2 : Int32) (σ : Ms) : FR W11_tray σ (F11_tray N p0 p1 p2 σ) :=
  have hσ := Fr_rfl W11_tray σ
  (FR_bn (fr_F9_isTray _ _) (Sub_nil _) hσ fun r3 t4 ht4 => (FR_if (FR_tr2 (fr_F11_tray_b14 _ _) (Sub_rfl _) ht4) (FR_bn (fr_F9_isSort _ _) (Sub_nil _) ht4 fun r5 t6 ht6 => (FR_if (FR_if (FR_if (FR_bn (fr_F9_lay _ _ _ _ _) (Sub_of [1, 2, 3, 4, 5, 6] rfl) ht6 fun r7 t8 ht8 => (FR_bn (fr_F11_yes _) (Sub_of [0] rfl) ht8 fun r9 t10 ht10 => (FR_ck fun z145 => (FR_some ht10)))) (FR_bn (fr_F11_no _ _) (Sub_of [0] rfl) ht6 fun r11 t12 ht12 => (FR_ck fun z146 => (FR_some ht12)))) (FR_bn (fr_F11_no _ _) (Sub_of [0] rfl) ht6 fun r13 t14 ht14 => (FR_ck fun z147 => (FR_some ht14)))) (FR_tr2 (fr_F11_tray_b14 _ _) (Sub_rfl _) ht6)))))
theorem fr_F11_placeStatus (p0 : Int32) (p1 : Int32) (σ : Ms) : FR W11_placeStatus σ (F11_placeStatus p0 p1 σ) :=
  have hσ := Fr_rfl W11_placeStatus σ
  (FR_bn (fr_F9_isTray _ _) (Sub_nil _) hσ fun r1 t2 ht2 => (FR_if (FR_bn (fr_F9_isMissing _ _) (Sub_nil _) ht2 fun r3 t4 ht4 => (FR_if (FR_bn (fr_F9_holds _ _ _ _) (Sub_nil _) ht4 fun r5 t6 ht6 => (FR_if (FR_some ht6) (FR_some ht6))) (FR_some ht4))) (FR_some ht2)))
theorem fr_F11_write (p0 : Int32) (p1 : Int32) (p2 : Int64) (σ : Ms) : FR W11_write σ (F11_write p0 p1 p2 σ) :=
  have hσ := Fr_rfl W11_write σ
  (FR_bn (fr_F11_placeStatus _ _ _) (Sub_nil _) hσ fun r1 t2 ht2 => (FR_if (FR_bn (fr_F9_put _ _ _ _) (Sub_of [0, 1, 2, 3] rfl) ht2 fun r3 t4 ht4 => (FR_bn (fr_F11_yes _) (Sub_of [4] rfl) ht4 fun r5 t6 ht6 => (FR_ck fun z148 => (FR_some ht6)))) (FR_bn (fr_F11_no _ _) (Sub_of [4] rfl) ht2 fun r7 t8 ht8 => (FR_ck fun z149 => (FR_some ht8)))))
theorem fr_F11_none (p0 : Int32) (σ : Ms) : FR W11_none σ (F11_none p0 σ) :=
  have hσ := Fr_rfl W11_none σ
  (FR_st (fun t1 ht1 => (FR_some ht1)) (Fr_sI hσ (In_o 0 rfl)))
theorem fr_F11_read (p0 : Int32) (p1 : Int32) (σ : Ms) : FR W11_read σ (F11_read p0 p1 σ) :=
  have hσ := Fr_rfl W11_read σ
  (FR_bn (fr_F11_placeStatus _ _ _) (Sub_nil _) hσ fun r1 t2 ht2 => (FR_if (FR_st (fun t3 ht3 => (FR_bn (fr_F9_at _ _ _) (Sub_nil _) ht3 fun r4 t5 ht5 => (FR_some ht5))) (Fr_sI ht2 (In_o 0 rfl))) (FR_bn (fr_F11_none _ _) (Sub_of [0] rfl) ht2 fun r6 t7 ht7 => (FR_some ht7))))
theorem fr_F11_pour_b14 (σ : Ms) : FR W11_pour σ (F11_pour_b14 σ) :=
  have hσ := Fr_rfl W11_pour σ
  (FR_bn (fr_F11_no _ _) (Sub_of [0] rfl) hσ fun r1 t2 ht2 => (FR_ck fun z150 => (FR_some ht2)))
theorem fr_F11_pour_b42 (σ : Ms) : FR W11_pour σ (F11_pour_b42 σ) :=
  have hσ := Fr_rfl W11_pour σ
  (FR_bn (fr_F11_no _ _) (Sub_of [0] rfl) hσ fun r3 t4 ht4 => (FR_ck fun z151 => (FR_some ht4)))
theorem fr_F11_pour_b115 (σ : Ms) : FR W11_pour σ (F11_pour_b115 σ) :=
  have hσ := Fr_rfl W11_pour σ
  (FR_bn (fr_F11_no _ _) (Sub_of [0] rfl) hσ fun r5 t6 ht6 => (FR_ck fun z152 => (FR_some ht6)))
theorem fr_F11_pour (p0 : Int32) (p1 : Int32) (p2 : Int32) (p3 : Int32) (p4 : Int32) (σ : Ms) : FR W11_pour σ (F11_pour p0 p1 p2 p3 p4 σ) :=
  have hσ := Fr_rfl W11_pour σ
  (FR_bn (fr_F9_isTray _ _) (Sub_nil _) hσ fun r7 t8 ht8 => (FR_if (FR_tr2 (fr_F11_pour_b14 _) (Sub_rfl _) ht8) (FR_bn (fr_F9_isTray _ _) (Sub_nil _) ht8 fun r9 t10 ht10 => (FR_if (FR_bn (fr_F9_isMissing _ _) (Sub_nil _) ht10 fun r11 t12 ht12 => (FR_if (FR_tr2 (fr_F11_pour_b42 _) (Sub_rfl _) ht12) (FR_bn (fr_F9_isMissing _ _) (Sub_nil _) ht12 fun r13 t14 ht14 => (FR_if (FR_bn (fr_F9_sortOf _ _) (Sub_nil _) ht14 fun r15 t16 ht16 => (FR_bn (fr_F9_sortOf _ _) (Sub_nil _) ht16 fun r17 t18 ht18 => (FR_if (FR_if (FR_bn (fr_F9_holds _ _ _ _) (Sub_nil _) ht18 fun r19 t20 ht20 => (FR_if (FR_tr2 (fr_F11_pour_b115 _) (Sub_rfl _) ht20) (FR_bn (fr_F9_holds _ _ _ _) (Sub_nil _) ht20 fun r21 t22 ht22 => (FR_if (FR_bn (fr_F9_move _ _ _ _ _ _) (Sub_of [1, 2, 3, 4] rfl) ht22 fun r23 t24 ht24 => (FR_bn (fr_F11_yes _) (Sub_of [0] rfl) ht24 fun r25 t26 ht26 => (FR_ck fun z153 => (FR_some ht26)))) (FR_tr2 (fr_F11_pour_b115 _) (Sub_rfl _) ht22))))) (FR_bn (fr_F11_no _ _) (Sub_of [0] rfl) ht18 fun r27 t28 ht28 => (FR_ck fun z154 => (FR_some ht28)))) (FR_bn (fr_F11_no _ _) (Sub_of [0] rfl) ht18 fun r29 t30 ht30 => (FR_ck fun z155 => (FR_some ht30)))))) (FR_tr2 (fr_F11_pour_b42 _) (Sub_rfl _) ht14))))) (FR_tr2 (fr_F11_pour_b14 _) (Sub_rfl _) ht10)))))
theorem fr_F11_feed (N : Nat) (p0 : Int32) (p1 : Int32) (p2 : Int32) (p3 : Int32) (p4 : Int32) (σ : Ms) : FR W11_feed σ (F11_feed N p0 p1 p2 p3 p4 σ) :=
  have hσ := Fr_rfl W11_feed σ
  (FR_bn (fr_F8_hasRoom _ _) (Sub_nil _) hσ fun r1 t2 ht2 => (FR_if (FR_bn (fr_F8_append _ _ _) (Sub_of [0, 1] rfl) ht2 fun r3 t4 ht4 => (FR_bn (fr_F8_append _ _ _) (Sub_of [0, 1] rfl) ht4 fun r5 t6 ht6 => (FR_bn (fr_F8_append _ _ _) (Sub_of [0, 1] rfl) ht6 fun r7 t8 ht8 => (FR_bn (fr_F8_append _ _ _) (Sub_of [0, 1] rfl) ht8 fun r9 t10 ht10 => (FR_bn (fr_F8_append _ _ _) (Sub_of [0, 1] rfl) ht10 fun r11 t12 ht12 => (FR_some ht12)))))) (FR_some ht2)))
theorem fr_F11_closeText (σ : Ms) : FR W11_closeText σ (F11_closeText σ) :=
  have hσ := Fr_rfl W11_closeText σ
  (FR_st (fun t1 ht1 => (FR_st (fun t2 ht2 => (FR_bn (fr_F8_empty _) (Sub_of [2] rfl) ht2 fun r3 t4 ht4 => (FR_if (FR_some ht4) (FR_some ht4)))) (Fr_sI ht1 (In_o 1 rfl)))) (Fr_sI hσ (In_o 0 rfl)))
theorem fr_F11_told (p0 : Int32) (σ : Ms) : FR W11_told σ (F11_told p0 σ) :=
  have hσ := Fr_rfl W11_told σ
  (FR_st (fun t1 ht1 => (FR_some ht1)) (Fr_sI hσ (In_o 0 rfl)))
theorem fr_F11_hedge_b15 (N : Nat) (σ : Ms) : FR W11_hedge σ (F11_hedge_b15 N σ) :=
  have hσ := Fr_rfl W11_hedge σ
  (FR_bn (fr_F11_none _ _) (Sub_of [0] rfl) hσ fun r1 t2 ht2 => (FR_some ht2))
theorem fr_F11_hedge (N : Nat) (p0 : Int32) (σ : Ms) : FR W11_hedge σ (F11_hedge N p0 σ) :=
  have hσ := Fr_rfl W11_hedge σ
  (FR_if (FR_tr2 (fr_F11_hedge_b15 _ _) (Sub_rfl _) hσ) (FR_if (FR_bn (fr_F8_open _ _ _) (Sub_of [1, 2, 3, 4, 5, 6, 7] rfl) hσ fun r3 t4 ht4 => (FR_bn (fr_F1_parse 30 _ _) (Sub_of [2, 3, 5, 4, 6, 7, 8, 9, 10, 11, 12, 13, 14, 15, 16, 17, 18, 19] rfl) ht4 fun r5 t6 ht6 => (FR_bn (fr_F11_closeText _) (Sub_of [20, 21, 22] rfl) ht6 fun r7 t8 ht8 => (FR_if (FR_bn (fr_F0_copy 30 22 _ _) (Sub_of [23, 24, 25, 26, 27, 28, 29, 30, 31, 32, 33, 34] rfl) ht8 fun r9 t10 ht10 => (FR_bn (fr_F5_forget 62 _) (Sub_of [35] rfl) ht10 fun r11 t12 ht12 => (FR_bn (fr_F11_told _ _) (Sub_of [0] rfl) ht12 fun r13 t14 ht14 => (FR_some ht14)))) (FR_bn (fr_F11_none _ _) (Sub_of [0] rfl) ht8 fun r15 t16 ht16 => (FR_some ht16)))))) (FR_tr2 (fr_F11_hedge_b15 _ _) (Sub_rfl _) hσ)))
theorem fr_F11_seasons_b22 (N : Nat) (σ : Ms) : FR W11_seasons σ (F11_seasons_b22 N σ) :=
  have hσ := Fr_rfl W11_seasons σ
  (FR_bn (fr_F11_none _ _) (Sub_of [0] rfl) hσ fun r1 t2 ht2 => (FR_some ht2))
theorem fr_F11_seasons (N : Nat) (p0 : Int32) (σ : Ms) : FR W11_seasons σ (F11_seasons N p0 σ) :=
  have hσ := Fr_rfl W11_seasons σ
  (FR_if (FR_tr2 (fr_F11_seasons_b22 _ _) (Sub_rfl _) hσ) (FR_if (FR_tr2 (fr_F11_seasons_b22 _ _) (Sub_rfl _) hσ) (FR_if (FR_bn (fr_F8_open _ _ _) (Sub_of [1, 2, 3, 4, 5, 6, 7] rfl) hσ fun r3 t4 ht4 => (FR_bn (fr_F6_parse 69 _ _) (Sub_of [2, 3, 5, 4, 6, 7, 8, 9, 10, 11, 12, 13, 14, 15, 16, 17] rfl) ht4 fun r5 t6 ht6 => (FR_bn (fr_F11_closeText _) (Sub_of [18, 19, 20] rfl) ht6 fun r7 t8 ht8 => (FR_if (FR_bn (fr_F5_copy 69 62 _ _) (Sub_of [21, 22, 23, 24, 25, 26, 27, 28] rfl) ht8 fun r9 t10 ht10 => (FR_bn (fr_F11_told _ _) (Sub_of [0] rfl) ht10 fun r11 t12 ht12 => (FR_some ht12))) (FR_bn (fr_F11_none _ _) (Sub_of [0] rfl) ht8 fun r13 t14 ht14 => (FR_some ht14)))))) (FR_tr2 (fr_F11_seasons_b22 _ _) (Sub_rfl _) hσ))))
theorem fr_F11_fault (p0 : Int32) (σ : Ms) : FR W11_fault σ (F11_fault p0 σ) :=
  have hσ := Fr_rfl W11_fault σ
  (FR_if (FR_if (FR_some hσ) (FR_some hσ)) (FR_some hσ))
theorem fr_F11_many (p0 : Int32) (σ : Ms) : FR W11_many σ (F11_many p0 σ) :=
  have hσ := Fr_rfl W11_many σ
  (FR_if (FR_bn (fr_F11_told _ _) (Sub_of [0] rfl) hσ fun r1 t2 ht2 => (FR_some ht2)) (FR_if (FR_bn (fr_F11_told _ _) (Sub_of [0] rfl) hσ fun r3 t4 ht4 => (FR_some ht4)) (FR_if (FR_bn (fr_F11_told _ _) (Sub_of [0] rfl) hσ fun r5 t6 ht6 => (FR_some ht6)) (FR_if (FR_bn (fr_F11_told _ _) (Sub_of [0] rfl) hσ fun r7 t8 ht8 => (FR_some ht8)) (FR_if (FR_bn (fr_F11_told _ _) (Sub_of [0] rfl) hσ fun r9 t10 ht10 => (FR_some ht10)) (FR_if (FR_bn (fr_F11_told _ _) (Sub_of [0] rfl) hσ fun r11 t12 ht12 => (FR_some ht12)) (FR_if (FR_bn (fr_F11_told _ _) (Sub_of [0] rfl) hσ fun r13 t14 ht14 => (FR_some ht14)) (FR_bn (fr_F11_none _ _) (Sub_of [0] rfl) hσ fun r15 t16 ht16 => (FR_some ht16)))))))))
theorem fr_F11_sprig (N : Nat) (p0 : Int32) (p1 : Int32) (σ : Ms) : FR W11_sprig σ (F11_sprig N p0 p1 σ) :=
  have hσ := Fr_rfl W11_sprig σ
  (FR_bn (fr_F0_hasSprig 22 _ _) (Sub_nil _) hσ fun r1 t2 ht2 => (FR_if (FR_bn (fr_F0_isStanding 22 _ _) (Sub_nil _) ht2 fun r3 t4 ht4 => (FR_if (FR_ck fun z156 => (FR_bn (fr_F11_told _ _) (Sub_of [0] rfl) ht4 fun r5 t6 ht6 => (FR_some ht6))) (FR_if (FR_ck fun z157 => (FR_if (FR_ck fun z158 => (FR_bn (fr_F11_told _ _) (Sub_of [0] rfl) ht4 fun r7 t8 ht8 => (FR_some ht8))) (FR_bn (fr_F11_none _ _) (Sub_of [0] rfl) ht4 fun r9 t10 ht10 => (FR_some ht10)))) (FR_if (FR_if (FR_bn (fr_F11_told _ _) (Sub_of [0] rfl) ht4 fun r11 t12 ht12 => (FR_some ht12)) (FR_bn (fr_F11_told _ _) (Sub_of [0] rfl) ht4 fun r13 t14 ht14 => (FR_some ht14))) (FR_if (FR_bn (fr_F0_rightOn 22 _ _ _) (Sub_nil _) ht4 fun r15 t16 ht16 => (FR_bn (fr_F11_told _ _) (Sub_of [0] rfl) ht16 fun r17 t18 ht18 => (FR_some ht18))) (FR_if (FR_if (FR_bn (fr_F11_none _ _) (Sub_of [0] rfl) ht4 fun r19 t20 ht20 => (FR_some ht20)) (FR_bn (fr_F0_branchSet 22 _ _ _) (Sub_nil _) ht4 fun r21 t22 ht22 => (FR_bn (fr_FJ6_bitCount_0f7a4 _ _) (Sub_nil _) ht22 fun r23 t24 ht24 => (FR_bn (fr_F11_told _ _) (Sub_of [0] rfl) ht24 fun r25 t26 ht26 => (FR_some ht26))))) (FR_bn (fr_F11_none _ _) (Sub_of [0] rfl) ht4 fun r27 t28 ht28 => (FR_some ht28)))))))) (FR_bn (fr_F11_none _ _) (Sub_of [0] rfl) ht2 fun r29 t30 ht30 => (FR_some ht30))))
theorem fr_F11_heap (p0 : Int32) (σ : Ms) : FR W11_heap σ (F11_heap p0 σ) :=
  have hσ := Fr_rfl W11_heap σ
  (FR_bn (fr_F0_hasHeap 22 _ _) (Sub_nil _) hσ fun r1 t2 ht2 => (FR_if (FR_ck fun z159 => (FR_bn (fr_F11_told _ _) (Sub_of [0] rfl) ht2 fun r3 t4 ht4 => (FR_some ht4))) (FR_bn (fr_F11_none _ _) (Sub_of [0] rfl) ht2 fun r5 t6 ht6 => (FR_some ht6))))
theorem fr_F11_isSide_b9 (σ : Ms) : FR W11_isSide σ (F11_isSide_b9 σ) :=
  have hσ := Fr_rfl W11_isSide σ
  (FR_some hσ)
theorem fr_F11_isSide (p0 : Int32) (σ : Ms) : FR W11_isSide σ (F11_isSide p0 σ) :=
  have hσ := Fr_rfl W11_isSide σ
  (FR_if (FR_tr2 (fr_F11_isSide_b9 _) (Sub_rfl _) hσ) (FR_if (FR_some hσ) (FR_tr2 (fr_F11_isSide_b9 _) (Sub_rfl _) hσ)))
theorem fr_F11_bet_b18 (σ : Ms) : FR W11_bet σ (F11_bet_b18 σ) :=
  have hσ := Fr_rfl W11_bet σ
  (FR_bn (fr_F11_none _ _) (Sub_of [0] rfl) hσ fun r1 t2 ht2 => (FR_some ht2))
theorem fr_F11_bet (p0 : Int32) (p1 : Int32) (σ : Ms) : FR W11_bet σ (F11_bet p0 p1 σ) :=
  have hσ := Fr_rfl W11_bet σ
  (FR_bn (fr_F0_hasBet 22 _ _) (Sub_nil _) hσ fun r3 t4 ht4 => (FR_if (FR_tr2 (fr_F11_bet_b18 _) (Sub_rfl _) ht4) (FR_bn (fr_F11_isSide _ _) (Sub_nil _) ht4 fun r5 t6 ht6 => (FR_if (FR_bn (fr_F0_betFor 22 _ _ _) (Sub_nil _) ht6 fun r7 t8 ht8 => (FR_bn (fr_F11_told _ _) (Sub_of [0] rfl) ht8 fun r9 t10 ht10 => (FR_some ht10))) (FR_tr2 (fr_F11_bet_b18 _) (Sub_rfl _) ht6)))))
theorem fr_F11_copyColours_b101 (N : Nat) (k57 : Int32 × Int32 × Ms → Option (Int32 × Ms)) (hk57 : ∀ x, FR W11_copyColours x.2.2 (k57 x)) (l1 : Int32) (l2 : Int32) (s1 : Int32) (s2 : Int32) (s3 : Int64) (σ : Ms) : FR W11_copyColours σ (F11_copyColours_b101 N k57 l1 l2 s1 s2 s3 σ) :=
  have hσ := Fr_rfl W11_copyColours σ
  (FR_bn (fr_F9_put _ _ _ _) (Sub_of [0, 1, 2, 3] rfl) hσ fun r1 t2 ht2 => (FR_tr ht2 (hk57 (l1, (l2 + (1 : Int32)), t2))))
theorem fr_F11_copyColours_b57B (N : Nat) (k57 : Int32 × Int32 × Ms → Option (Int32 × Ms)) (hk57 : ∀ x, FR W11_copyColours x.2.2 (k57 x)) (l1 : Int32) (l2 : Int32) (σ : Ms) : FR W11_copyColours σ (F11_copyColours_b57B N k57 l1 l2 σ) :=
  have hσ := Fr_rfl W11_copyColours σ
  (FR_if (FR_bn (fr_F11_told _ _) (Sub_of [4] rfl) hσ fun r3 t4 ht4 => (FR_some ht4)) (FR_bn (fr_F0_isStanding 22 _ _) (Sub_nil _) hσ fun r5 t6 ht6 => (FR_if (FR_tr2 (fr_F11_copyColours_b101 _ _ hk57 _ _ _ _ _ _) (Sub_rfl _) ht6) (FR_ck fun z160 => (FR_tr2 (fr_F11_copyColours_b101 _ _ hk57 _ _ _ _ _ _) (Sub_rfl _) ht6)))))
theorem fr_F11_copyColours_b57 (N : Nat) (l1 : Int32) (l2 : Int32) (σ : Ms) : FR W11_copyColours σ (F11_copyColours_b57 N l1 l2 σ) := by
  unfold F11_copyColours_b57
  exact @FR_fx (Int32 × Int32 × Ms) (Int32) W11_copyColours (fun k x => F11_copyColours_b57B N k x.1 x.2.1 x.2.2) (fun x => x.2.2) (fun k hk x => fr_F11_copyColours_b57B N k hk x.1 x.2.1 x.2.2) N (l1, l2, σ)
theorem fr_F11_copyColours (N : Nat) (p0 : Int32) (σ : Ms) : FR W11_copyColours σ (F11_copyColours N p0 σ) :=
  have hσ := Fr_rfl W11_copyColours σ
  (FR_bn (fr_F9_isTray _ _) (Sub_nil _) hσ fun r7 t8 ht8 => (FR_if (FR_bn (fr_F9_isMissing _ _) (Sub_nil _) ht8 fun r9 t10 ht10 => (FR_if (FR_bn (fr_F9_holds _ _ _ _) (Sub_nil _) ht10 fun r11 t12 ht12 => (FR_if (FR_tr2 (fr_F11_copyColours_b57 _ _ _ _) (Sub_rfl _) ht12) (FR_bn (fr_F11_none _ _) (Sub_of [4] rfl) ht12 fun r13 t14 ht14 => (FR_some ht14)))) (FR_bn (fr_F11_none _ _) (Sub_of [4] rfl) ht10 fun r15 t16 ht16 => (FR_some ht16)))) (FR_bn (fr_F11_none _ _) (Sub_of [4] rfl) ht8 fun r17 t18 ht18 => (FR_some ht18))))
theorem fr_F11_cut_b18 (N : Nat) (σ : Ms) : FR W11_cut σ (F11_cut_b18 N σ) :=
  have hσ := Fr_rfl W11_cut σ
  (FR_bn (fr_F11_none _ _) (Sub_of [0] rfl) hσ fun r1 t2 ht2 => (FR_some ht2))
theorem fr_F11_cut (N : Nat) (p0 : Int32) (p1 : Int32) (σ : Ms) : FR W11_cut σ (F11_cut N p0 p1 σ) :=
  have hσ := Fr_rfl W11_cut σ
  (FR_bn (fr_F11_isSide _ _) (Sub_nil _) hσ fun r3 t4 ht4 => (FR_if (FR_tr2 (fr_F11_cut_b18 _ _) (Sub_rfl _) ht4) (FR_bn (fr_F0_hasSprig 22 _ _) (Sub_nil _) ht4 fun r5 t6 ht6 => (FR_if (FR_bn (fr_F0_mayCut 22 _ _ _) (Sub_nil _) ht6 fun r7 t8 ht8 => (FR_if (FR_bn (fr_F0_shear 22 _ _ _) (Sub_of [1, 2] rfl) ht8 fun r9 t10 ht10 => (FR_bn (fr_F11_told _ _) (Sub_of [0] rfl) ht10 fun r11 t12 ht12 => (FR_some ht12))) (FR_bn (fr_F11_none _ _) (Sub_of [0] rfl) ht8 fun r13 t14 ht14 => (FR_some ht14)))) (FR_tr2 (fr_F11_cut_b18 _ _) (Sub_rfl _) ht6)))))
theorem fr_F11_take_b18 (σ : Ms) : FR W11_take σ (F11_take_b18 σ) :=
  have hσ := Fr_rfl W11_take σ
  (FR_bn (fr_F11_none _ _) (Sub_of [0] rfl) hσ fun r1 t2 ht2 => (FR_some ht2))
theorem fr_F11_take (p0 : Int32) (p1 : Int32) (σ : Ms) : FR W11_take σ (F11_take p0 p1 σ) :=
  have hσ := Fr_rfl W11_take σ
  (FR_bn (fr_F11_isSide _ _) (Sub_nil _) hσ fun r3 t4 ht4 => (FR_if (FR_tr2 (fr_F11_take_b18 _) (Sub_rfl _) ht4) (FR_bn (fr_F0_hasBet 22 _ _) (Sub_nil _) ht4 fun r5 t6 ht6 => (FR_if (FR_bn (fr_F0_mayTake 22 _ _) (Sub_nil _) ht6 fun r7 t8 ht8 => (FR_if (FR_bn (fr_F0_winBet 22 _ _ _) (Sub_of [1, 2] rfl) ht8 fun r9 t10 ht10 => (FR_bn (fr_F11_told _ _) (Sub_of [0] rfl) ht10 fun r11 t12 ht12 => (FR_some ht12))) (FR_bn (fr_F11_none _ _) (Sub_of [0] rfl) ht8 fun r13 t14 ht14 => (FR_some ht14)))) (FR_tr2 (fr_F11_take_b18 _) (Sub_rfl _) ht6)))))
theorem fr_F11_less_b27 (N : Nat) (σ : Ms) : FR W11_less σ (F11_less_b27 N σ) :=
  have hσ := Fr_rfl W11_less σ
  (FR_bn (fr_F11_none _ _) (Sub_of [0] rfl) hσ fun r1 t2 ht2 => (FR_some ht2))
theorem fr_F11_less (N : Nat) (p0 : Int32) (p1 : Int32) (σ : Ms) : FR W11_less σ (F11_less N p0 p1 σ) :=
  have hσ := Fr_rfl W11_less σ
  (FR_bn (fr_F0_hasHeap 22 _ _) (Sub_nil _) hσ fun r3 t4 ht4 => (FR_if (FR_if (FR_tr2 (fr_F11_less_b27 _ _) (Sub_rfl _) ht4) (FR_if (FR_bn (fr_F0_mayLessen 22 _ _ _) (Sub_nil _) ht4 fun r5 t6 ht6 => (FR_if (FR_bn (fr_F0_lessen 22 _ _ _) (Sub_of [1] rfl) ht6 fun r7 t8 ht8 => (FR_bn (fr_F0_nimWith 22 _ _ _) (Sub_of [2] rfl) ht8 fun r9 t10 ht10 => (FR_bn (fr_F11_told _ _) (Sub_of [0] rfl) ht10 fun r11 t12 ht12 => (FR_some ht12)))) (FR_bn (fr_F11_none _ _) (Sub_of [0] rfl) ht6 fun r13 t14 ht14 => (FR_some ht14)))) (FR_tr2 (fr_F11_less_b27 _ _) (Sub_rfl _) ht4))) (FR_bn (fr_F11_none _ _) (Sub_of [0] rfl) ht4 fun r15 t16 ht16 => (FR_some ht16))))
theorem fr_F11_spend (p0 : Int32) (σ : Ms) : FR W11_spend σ (F11_spend p0 σ) :=
  have hσ := Fr_rfl W11_spend σ
  (FR_bn (fr_F11_isSide _ _) (Sub_nil _) hσ fun r1 t2 ht2 => (FR_if (FR_bn (fr_F0_maySpend 22 _ _) (Sub_nil _) ht2 fun r3 t4 ht4 => (FR_if (FR_bn (fr_F0_spendOne 22 _ _) (Sub_of [0] rfl) ht4 fun r5 t6 ht6 => (FR_bn (fr_F11_told _ _) (Sub_of [1] rfl) ht6 fun r7 t8 ht8 => (FR_some ht8))) (FR_bn (fr_F11_none _ _) (Sub_of [1] rfl) ht4 fun r9 t10 ht10 => (FR_some ht10)))) (FR_bn (fr_F11_none _ _) (Sub_of [1] rfl) ht2 fun r11 t12 ht12 => (FR_some ht12))))
theorem fr_F11_grow_b31 (σ : Ms) : FR W11_grow σ (F11_grow_b31 σ) :=
  have hσ := Fr_rfl W11_grow σ
  (FR_bn (fr_F11_none _ _) (Sub_of [0] rfl) hσ fun r1 t2 ht2 => (FR_some ht2))
theorem fr_F11_grow_b22 (l1 : Int32) (l2 : Int32) (σ : Ms) : FR W11_grow σ (F11_grow_b22 l1 l2 σ) :=
  have hσ := Fr_rfl W11_grow σ
  (FR_if (FR_tr2 (fr_F11_grow_b31 _) (Sub_rfl _) hσ) (FR_if (FR_if (FR_bn (fr_F0_mayGrow 22 _ _ _) (Sub_nil _) hσ fun r3 t4 ht4 => (FR_if (FR_bn (fr_F0_addSprig 22 _ _ _) (Sub_of [1, 2, 3, 4] rfl) ht4 fun r5 t6 ht6 => (FR_bn (fr_F11_told _ _) (Sub_of [0] rfl) ht6 fun r7 t8 ht8 => (FR_some ht8))) (FR_bn (fr_F11_none _ _) (Sub_of [0] rfl) ht4 fun r9 t10 ht10 => (FR_some ht10)))) (FR_bn (fr_F11_none _ _) (Sub_of [0] rfl) hσ fun r11 t12 ht12 => (FR_some ht12))) (FR_tr2 (fr_F11_grow_b31 _) (Sub_rfl _) hσ)))
theorem fr_F11_grow (p0 : Int32) (p1 : Int32) (σ : Ms) : FR W11_grow σ (F11_grow p0 p1 σ) :=
  have hσ := Fr_rfl W11_grow σ
  (FR_if (FR_tr2 (fr_F11_grow_b22 _ _ _) (Sub_rfl _) hσ) (FR_bn (fr_F0_hasSprig 22 _ _) (Sub_nil _) hσ fun r13 t14 ht14 => (FR_if (FR_tr2 (fr_F11_grow_b22 _ _ _) (Sub_rfl _) ht14) (FR_bn (fr_F11_none _ _) (Sub_of [0] rfl) ht14 fun r15 t16 ht16 => (FR_some ht16)))))
theorem fr_F11_paint_b60 (l1 : Int32) (s1 : Int32) (s2 : Int32) (σ : Ms) : FR W11_paint σ (F11_paint_b60 l1 s1 s2 σ) :=
  have hσ := Fr_rfl W11_paint σ
  (FR_ck fun z161 => (FR_st (fun t1 ht1 => (FR_ck fun z162 => (FR_bn (fr_F11_told _ _) (Sub_of [1] rfl) ht1 fun r2 t3 ht3 => (FR_some ht3)))) (Fr_sI hσ (In_a 0 rfl))))
theorem fr_F11_paint (p0 : Int32) (σ : Ms) : FR W11_paint σ (F11_paint p0 σ) :=
  have hσ := Fr_rfl W11_paint σ
  (FR_bn (fr_F0_hasSprig 22 _ _) (Sub_nil _) hσ fun r4 t5 ht5 => (FR_if (FR_bn (fr_F0_hasWorth 22 _ _) (Sub_nil _) ht5 fun r6 t7 ht7 => (FR_if (FR_ck fun z163 => (FR_if (FR_tr2 (fr_F11_paint_b60 _ _ _ _) (Sub_rfl _) ht7) (FR_tr2 (fr_F11_paint_b60 _ _ _ _) (Sub_rfl _) ht7))) (FR_bn (fr_F11_none _ _) (Sub_of [1] rfl) ht7 fun r8 t9 ht9 => (FR_some ht9)))) (FR_bn (fr_F11_none _ _) (Sub_of [1] rfl) ht5 fun r10 t11 ht11 => (FR_some ht11))))
theorem fr_F11_pile_b10 (σ : Ms) : FR W11_pile σ (F11_pile_b10 σ) :=
  have hσ := Fr_rfl W11_pile σ
  (FR_bn (fr_F11_none _ _) (Sub_of [0] rfl) hσ fun r1 t2 ht2 => (FR_some ht2))
theorem fr_F11_pile (p0 : Int32) (σ : Ms) : FR W11_pile σ (F11_pile p0 σ) :=
  have hσ := Fr_rfl W11_pile σ
  (FR_if (FR_tr2 (fr_F11_pile_b10 _) (Sub_rfl _) hσ) (FR_if (FR_if (FR_bn (fr_F0_addHeap 22 _ _) (Sub_of [1, 2] rfl) hσ fun r3 t4 ht4 => (FR_bn (fr_F11_told _ _) (Sub_of [0] rfl) ht4 fun r5 t6 ht6 => (FR_some ht6))) (FR_bn (fr_F11_none _ _) (Sub_of [0] rfl) hσ fun r7 t8 ht8 => (FR_some ht8))) (FR_tr2 (fr_F11_pile_b10 _) (Sub_rfl _) hσ)))
theorem fr_F11_offer (p0 : Int32) (p1 : Int32) (σ : Ms) : FR W11_offer σ (F11_offer p0 p1 σ) :=
  have hσ := Fr_rfl W11_offer σ
  (FR_bn (fr_F0_canBeBet _ _ _) (Sub_nil _) hσ fun r1 t2 ht2 => (FR_if (FR_if (FR_bn (fr_F0_addBet 22 _ _ _) (Sub_of [0, 1, 2] rfl) ht2 fun r3 t4 ht4 => (FR_bn (fr_F11_told _ _) (Sub_of [3] rfl) ht4 fun r5 t6 ht6 => (FR_some ht6))) (FR_bn (fr_F11_none _ _) (Sub_of [3] rfl) ht2 fun r7 t8 ht8 => (FR_some ht8))) (FR_bn (fr_F11_none _ _) (Sub_of [3] rfl) ht2 fun r9 t10 ht10 => (FR_some ht10))))
theorem fr_F11_tellFraction_b33 (N : Nat) (σ : Ms) : FR W11_tellFraction σ (F11_tellFraction_b33 N σ) :=
  have hσ := Fr_rfl W11_tellFraction σ
  (FR_bn (fr_F11_yes _) (Sub_of [2] rfl) hσ fun r1 t2 ht2 => (FR_ck fun z164 => (FR_some ht2)))
theorem fr_F11_tellFraction (N : Nat) (p0 : Int64) (p1 : Int64) (σ : Ms) : FR W11_tellFraction σ (F11_tellFraction N p0 p1 σ) :=
  have hσ := Fr_rfl W11_tellFraction σ
  (FR_bn (fr_FJ9_abs_067f4 _ _) (Sub_nil _) hσ fun r3 t4 ht4 => (FR_bn (fr_F3_commonDivisor _ _ _ _) (Sub_nil _) ht4 fun r5 t6 ht6 => (FR_if (FR_tr2 (fr_F11_tellFraction_b33 _ _) (Sub_rfl _) ht6) (FR_ck fun z165 => (FR_st (fun t7 ht7 => (FR_ck fun z166 => (FR_st (fun t8 ht8 => (FR_tr2 (fr_F11_tellFraction_b33 _ _) (Sub_rfl _) ht8)) (Fr_sL ht7 (In_o 1 rfl))))) (Fr_sL ht6 (In_o 0 rfl)))))))
theorem fr_F11_tellNumber (N : Nat) (p0 : Int64) (σ : Ms) : FR W11_tellNumber σ (F11_tellNumber N p0 σ) :=
  have hσ := Fr_rfl W11_tellNumber σ
  (FR_bn (fr_F11_tellFraction _ _ _ _) (Sub_of [0, 1, 2] rfl) hσ fun r1 t2 ht2 => (FR_ck fun z167 => (FR_some ht2)))
theorem fr_F11_worth (N : Nat) (σ : Ms) : FR W11_worth σ (F11_worth N σ) :=
  have hσ := Fr_rfl W11_worth σ
  (FR_bn (fr_F0_worthWith 22 _ _ _) (Sub_of [0] rfl) hσ fun r1 t2 ht2 => (FR_bn (fr_F11_tellNumber _ _ _) (Sub_of [1, 2, 3] rfl) ht2 fun r3 t4 ht4 => (FR_ck fun z168 => (FR_some ht4))))
theorem fr_F11_worthOf (N : Nat) (p0 : Int32) (σ : Ms) : FR W11_worthOf σ (F11_worthOf N p0 σ) :=
  have hσ := Fr_rfl W11_worthOf σ
  (FR_bn (fr_F0_hasSprig 22 _ _) (Sub_nil _) hσ fun r1 t2 ht2 => (FR_if (FR_bn (fr_F0_hasWorth 22 _ _) (Sub_nil _) ht2 fun r3 t4 ht4 => (FR_if (FR_bn (fr_F0_branchWorth 22 _ _ _) (Sub_of [0] rfl) ht4 fun r5 t6 ht6 => (FR_bn (fr_F11_tellNumber _ _ _) (Sub_of [1, 2, 3] rfl) ht6 fun r7 t8 ht8 => (FR_ck fun z169 => (FR_some ht8)))) (FR_bn (fr_F11_no _ _) (Sub_of [3] rfl) ht4 fun r9 t10 ht10 => (FR_ck fun z170 => (FR_some ht10))))) (FR_bn (fr_F11_no _ _) (Sub_of [3] rfl) ht2 fun r11 t12 ht12 => (FR_ck fun z171 => (FR_some ht12)))))
theorem fr_F11_nimber (N : Nat) (σ : Ms) : FR W11_nimber σ (F11_nimber N σ) :=
  have hσ := Fr_rfl W11_nimber σ
  (FR_bn (fr_F0_nimWith 22 _ _ _) (Sub_of [0] rfl) hσ fun r1 t2 ht2 => (FR_bn (fr_F11_told _ _) (Sub_of [1] rfl) ht2 fun r3 t4 ht4 => (FR_some ht4)))
theorem fr_F11_nimOf_b41 (N : Nat) (σ : Ms) : FR W11_nimOf σ (F11_nimOf_b41 N σ) :=
  have hσ := Fr_rfl W11_nimOf σ
  (FR_bn (fr_F11_none _ _) (Sub_of [0] rfl) hσ fun r1 t2 ht2 => (FR_some ht2))
theorem fr_F11_nimOf (N : Nat) (p0 : Int32) (σ : Ms) : FR W11_nimOf σ (F11_nimOf N p0 σ) :=
  have hσ := Fr_rfl W11_nimOf σ
  (FR_bn (fr_F0_hasSprig 22 _ _) (Sub_nil _) hσ fun r3 t4 ht4 => (FR_if (FR_bn (fr_F0_isStanding 22 _ _) (Sub_nil _) ht4 fun r5 t6 ht6 => (FR_if (FR_tr2 (fr_F11_nimOf_b41 _ _) (Sub_rfl _) ht6) (FR_ck fun z172 => (FR_if (FR_bn (fr_F0_branchNim 22 _ _ _) (Sub_of [1] rfl) ht6 fun r7 t8 ht8 => (FR_bn (fr_F11_told _ _) (Sub_of [0] rfl) ht8 fun r9 t10 ht10 => (FR_some ht10))) (FR_tr2 (fr_F11_nimOf_b41 _ _) (Sub_rfl _) ht6))))) (FR_bn (fr_F11_none _ _) (Sub_of [0] rfl) ht4 fun r11 t12 ht12 => (FR_some ht12))))
theorem fr_F11_compare_b22 (N : Nat) (σ : Ms) : FR W11_compare σ (F11_compare_b22 N σ) :=
  have hσ := Fr_rfl W11_compare σ
  (FR_bn (fr_F11_none _ _) (Sub_of [0] rfl) hσ fun r1 t2 ht2 => (FR_some ht2))
theorem fr_F11_compare_b50 (N : Nat) (σ : Ms) : FR W11_compare σ (F11_compare_b50 N σ) :=
  have hσ := Fr_rfl W11_compare σ
  (FR_bn (fr_F11_none _ _) (Sub_of [0] rfl) hσ fun r3 t4 ht4 => (FR_some ht4))
theorem fr_F11_compare (N : Nat) (p0 : Int32) (p1 : Int32) (σ : Ms) : FR W11_compare σ (F11_compare N p0 p1 σ) :=
  have hσ := Fr_rfl W11_compare σ
  (FR_bn (fr_F0_hasSprig 22 _ _) (Sub_nil _) hσ fun r5 t6 ht6 => (FR_if (FR_tr2 (fr_F11_compare_b22 _ _) (Sub_rfl _) ht6) (FR_bn (fr_F0_hasSprig 22 _ _) (Sub_nil _) ht6 fun r7 t8 ht8 => (FR_if (FR_bn (fr_F0_hasWorth 22 _ _) (Sub_nil _) ht8 fun r9 t10 ht10 => (FR_if (FR_tr2 (fr_F11_compare_b50 _ _) (Sub_rfl _) ht10) (FR_bn (fr_F0_hasWorth 22 _ _) (Sub_nil _) ht10 fun r11 t12 ht12 => (FR_if (FR_bn (fr_F0_branchWorth 22 _ _ _) (Sub_of [1] rfl) ht12 fun r13 t14 ht14 => (FR_bn (fr_F0_branchWorth 22 _ _ _) (Sub_of [1] rfl) ht14 fun r15 t16 ht16 => (FR_bn (fr_FJ13_compare_74951 _ _ _) (Sub_nil _) ht16 fun r17 t18 ht18 => (FR_bn (fr_F11_told _ _) (Sub_of [0] rfl) ht18 fun r19 t20 ht20 => (FR_some ht20))))) (FR_tr2 (fr_F11_compare_b50 _ _) (Sub_rfl _) ht12))))) (FR_tr2 (fr_F11_compare_b22 _ _) (Sub_rfl _) ht8)))))
theorem fr_F11_outcome (N : Nat) (σ : Ms) : FR W11_outcome σ (F11_outcome N σ) :=
  have hσ := Fr_rfl W11_outcome σ
  (FR_bn (fr_F4_winsBeginning 22 _ _ _) (Sub_of [0, 1] rfl) hσ fun r1 t2 ht2 => (FR_bn (fr_F4_winsBeginning 22 _ _ _) (Sub_of [0, 1] rfl) ht2 fun r3 t4 ht4 => (FR_if (FR_if (FR_bn (fr_F11_told _ _) (Sub_of [2] rfl) ht4 fun r5 t6 ht6 => (FR_some ht6)) (FR_bn (fr_F11_told _ _) (Sub_of [2] rfl) ht4 fun r7 t8 ht8 => (FR_some ht8))) (FR_if (FR_bn (fr_F11_told _ _) (Sub_of [2] rfl) ht4 fun r9 t10 ht10 => (FR_some ht10)) (FR_bn (fr_F11_told _ _) (Sub_of [2] rfl) ht4 fun r11 t12 ht12 => (FR_some ht12))))))
theorem fr_F11_winner (N : Nat) (p0 : Int32) (σ : Ms) : FR W11_winner σ (F11_winner N p0 σ) :=
  have hσ := Fr_rfl W11_winner σ
  (FR_bn (fr_F11_isSide _ _) (Sub_nil _) hσ fun r1 t2 ht2 => (FR_if (FR_bn (fr_F4_winsBeginning 22 _ _ _) (Sub_of [0, 1] rfl) ht2 fun r3 t4 ht4 => (FR_if (FR_bn (fr_F11_other _ _) (Sub_nil _) ht4 fun r5 t6 ht6 => (FR_bn (fr_F11_told _ _) (Sub_of [2] rfl) ht6 fun r7 t8 ht8 => (FR_some ht8))) (FR_bn (fr_F11_told _ _) (Sub_of [2] rfl) ht4 fun r9 t10 ht10 => (FR_some ht10)))) (FR_bn (fr_F11_none _ _) (Sub_of [2] rfl) ht2 fun r11 t12 ht12 => (FR_some ht12))))
theorem fr_F11_moves (N : Nat) (p0 : Int32) (σ : Ms) : FR W11_moves σ (F11_moves N p0 σ) :=
  have hσ := Fr_rfl W11_moves σ
  (FR_bn (fr_F11_isSide _ _) (Sub_nil _) hσ fun r1 t2 ht2 => (FR_if (FR_bn (fr_F4_look 22 _ _ _) (Sub_of [0, 1, 2, 3, 4, 5, 6] rfl) ht2 fun r3 t4 ht4 => (FR_bn (fr_F11_told _ _) (Sub_of [7] rfl) ht4 fun r5 t6 ht6 => (FR_some ht6))) (FR_bn (fr_F11_none _ _) (Sub_of [7] rfl) ht2 fun r7 t8 ht8 => (FR_some ht8))))
theorem fr_F11_wins (N : Nat) (p0 : Int32) (σ : Ms) : FR W11_wins σ (F11_wins N p0 σ) :=
  have hσ := Fr_rfl W11_wins σ
  (FR_bn (fr_F11_isSide _ _) (Sub_nil _) hσ fun r1 t2 ht2 => (FR_if (FR_bn (fr_F4_look 22 _ _ _) (Sub_of [0, 1, 2, 3, 4, 5, 6] rfl) ht2 fun r3 t4 ht4 => (FR_bn (fr_F11_told _ _) (Sub_of [7] rfl) ht4 fun r5 t6 ht6 => (FR_some ht6))) (FR_bn (fr_F11_none _ _) (Sub_of [7] rfl) ht2 fun r7 t8 ht8 => (FR_some ht8))))
theorem fr_F11_bestOf_b22 (N : Nat) (σ : Ms) : FR W11_bestOf σ (F11_bestOf_b22 N σ) :=
  have hσ := Fr_rfl W11_bestOf σ
  (FR_bn (fr_F11_none _ _) (Sub_of [0] rfl) hσ fun r1 t2 ht2 => (FR_some ht2))
theorem fr_F11_bestOf (N : Nat) (p0 : Int32) (p1 : Int32) (σ : Ms) : FR W11_bestOf σ (F11_bestOf N p0 p1 σ) :=
  have hσ := Fr_rfl W11_bestOf σ
  (FR_bn (fr_F11_isSide _ _) (Sub_nil _) hσ fun r3 t4 ht4 => (FR_if (FR_if (FR_tr2 (fr_F11_bestOf_b22 _ _) (Sub_rfl _) ht4) (FR_if (FR_bn (fr_F4_look 22 _ _ _) (Sub_of [1, 2, 3, 4, 5, 6, 7] rfl) ht4 fun r5 t6 ht6 => (FR_if (FR_if (FR_if (FR_bn (fr_F11_told _ _) (Sub_of [0] rfl) ht6 fun r7 t8 ht8 => (FR_some ht8)) (FR_bn (fr_F11_told _ _) (Sub_of [0] rfl) ht6 fun r9 t10 ht10 => (FR_some ht10))) (FR_bn (fr_F11_told _ _) (Sub_of [0] rfl) ht6 fun r11 t12 ht12 => (FR_some ht12))) (FR_bn (fr_F11_none _ _) (Sub_of [0] rfl) ht6 fun r13 t14 ht14 => (FR_some ht14)))) (FR_tr2 (fr_F11_bestOf_b22 _ _) (Sub_rfl _) ht4))) (FR_bn (fr_F11_none _ _) (Sub_of [0] rfl) ht4 fun r15 t16 ht16 => (FR_some ht16))))
theorem fr_F11_stop (N : Nat) (p0 : Int32) (σ : Ms) : FR W11_stop σ (F11_stop N p0 σ) :=
  have hσ := Fr_rfl W11_stop σ
  (FR_bn (fr_F11_isSide _ _) (Sub_nil _) hσ fun r1 t2 ht2 => (FR_if (FR_bn (fr_F0_worthWith 22 _ _ _) (Sub_of [0] rfl) ht2 fun r3 t4 ht4 => (FR_bn (fr_F4_settled 22 _ _ _ _ _) (Sub_nil _) ht4 fun r5 t6 ht6 => (FR_bn (fr_F11_tellNumber _ _ _) (Sub_of [1, 2, 3] rfl) ht6 fun r7 t8 ht8 => (FR_ck fun z173 => (FR_some ht8))))) (FR_bn (fr_F11_no _ _) (Sub_of [3] rfl) ht2 fun r9 t10 ht10 => (FR_ck fun z174 => (FR_some ht10)))))
theorem fr_F11_hottest (N : Nat) (σ : Ms) : FR W11_hottest σ (F11_hottest N σ) :=
  have hσ := Fr_rfl W11_hottest σ
  (FR_bn (fr_F0_hottestBut 22 _ _ _) (Sub_nil _) hσ fun r1 t2 ht2 => (FR_if (FR_bn (fr_F11_told _ _) (Sub_of [0] rfl) ht2 fun r3 t4 ht4 => (FR_some ht4)) (FR_bn (fr_F11_none _ _) (Sub_of [0] rfl) ht2 fun r5 t6 ht6 => (FR_some ht6))))
theorem fr_F11_heat_b62 (N : Nat) (s1 : Int32) (s2 : Int32) (σ : Ms) : FR W11_heat σ (F11_heat_b62 N s1 s2 σ) :=
  have hσ := Fr_rfl W11_heat σ
  (FR_bn (fr_F11_tellFraction _ _ _ _) (Sub_of [0, 1, 2] rfl) hσ fun r1 t2 ht2 => (FR_ck fun z175 => (FR_some ht2)))
theorem fr_F11_heat_b32 (N : Nat) (l1 : Int32) (l2 : Int32) (σ : Ms) : FR W11_heat σ (F11_heat_b32 N l1 l2 σ) :=
  have hσ := Fr_rfl W11_heat σ
  (FR_bn (fr_F0_betFor 22 _ _ _) (Sub_nil _) hσ fun r3 t4 ht4 => (FR_bn (fr_F0_betFor 22 _ _ _) (Sub_nil _) ht4 fun r5 t6 ht6 => (FR_if (FR_tr2 (fr_F11_heat_b62 _ _ _ _) (Sub_rfl _) ht6) (FR_tr2 (fr_F11_heat_b62 _ _ _ _) (Sub_rfl _) ht6))))
theorem fr_F11_heat (N : Nat) (p0 : Int32) (p1 : Int32) (σ : Ms) : FR W11_heat σ (F11_heat N p0 p1 σ) :=
  have hσ := Fr_rfl W11_heat σ
  (FR_bn (fr_F0_hasBet 22 _ _) (Sub_nil _) hσ fun r7 t8 ht8 => (FR_if (FR_if (FR_tr2 (fr_F11_heat_b32 _ _ _ _) (Sub_rfl _) ht8) (FR_if (FR_tr2 (fr_F11_heat_b32 _ _ _ _) (Sub_rfl _) ht8) (FR_bn (fr_F11_no _ _) (Sub_of [2] rfl) ht8 fun r9 t10 ht10 => (FR_ck fun z176 => (FR_some ht10))))) (FR_bn (fr_F11_no _ _) (Sub_of [2] rfl) ht8 fun r11 t12 ht12 => (FR_ck fun z177 => (FR_some ht12)))))
theorem fr_F11_simplest_b17 (N : Nat) (σ : Ms) : FR W11_simplest σ (F11_simplest_b17 N σ) :=
  have hσ := Fr_rfl W11_simplest σ
  (FR_bn (fr_F11_no _ _) (Sub_of [0] rfl) hσ fun r1 t2 ht2 => (FR_ck fun z178 => (FR_some ht2)))
theorem fr_F11_simplest (N : Nat) (p0 : Int32) (p1 : Int32) (p2 : Int32) (p3 : Int32) (σ : Ms) : FR W11_simplest σ (F11_simplest N p0 p1 p2 p3 σ) :=
  have hσ := Fr_rfl W11_simplest σ
  (FR_bn (fr_F3_canBe _ _ _) (Sub_nil _) hσ fun r3 t4 ht4 => (FR_if (FR_tr2 (fr_F11_simplest_b17 _ _) (Sub_rfl _) ht4) (FR_bn (fr_F3_canBe _ _ _) (Sub_nil _) ht4 fun r5 t6 ht6 => (FR_if (FR_bn (fr_F3_of _ _ _) (Sub_nil _) ht6 fun r7 t8 ht8 => (FR_bn (fr_F3_of _ _ _) (Sub_nil _) ht8 fun r9 t10 ht10 => (FR_if (FR_bn (fr_F3_between _ _ _ _) (Sub_nil _) ht10 fun r11 t12 ht12 => (FR_bn (fr_F11_tellNumber _ _ _) (Sub_of [1, 2, 0] rfl) ht12 fun r13 t14 ht14 => (FR_ck fun z179 => (FR_some ht14)))) (FR_bn (fr_F11_no _ _) (Sub_of [0] rfl) ht10 fun r15 t16 ht16 => (FR_ck fun z180 => (FR_some ht16)))))) (FR_tr2 (fr_F11_simplest_b17 _ _) (Sub_rfl _) ht6)))))
theorem fr_F11_birthday (p0 : Int32) (p1 : Int32) (σ : Ms) : FR W11_birthday σ (F11_birthday p0 p1 σ) :=
  have hσ := Fr_rfl W11_birthday σ
  (FR_bn (fr_F3_canBe _ _ _) (Sub_nil _) hσ fun r1 t2 ht2 => (FR_if (FR_bn (fr_F3_of _ _ _) (Sub_nil _) ht2 fun r3 t4 ht4 => (FR_bn (fr_F3_age _ _) (Sub_nil _) ht4 fun r5 t6 ht6 => (FR_bn (fr_F11_told _ _) (Sub_of [0] rfl) ht6 fun r7 t8 ht8 => (FR_some ht8)))) (FR_bn (fr_F11_none _ _) (Sub_of [0] rfl) ht2 fun r9 t10 ht10 => (FR_some ht10))))
theorem fr_F11_stalkAt (N : Nat) (p0 : Int32) (p1 : Int32) (p2 : Int32) (σ : Ms) : FR W11_stalkAt σ (F11_stalkAt N p0 p1 p2 σ) :=
  have hσ := Fr_rfl W11_stalkAt σ
  (FR_bn (fr_F3_canBe _ _ _) (Sub_nil _) hσ fun r1 t2 ht2 => (FR_if (FR_bn (fr_F3_of _ _ _) (Sub_nil _) ht2 fun r3 t4 ht4 => (FR_bn (fr_F3_stalkColour _ _ _ _) (Sub_nil _) ht4 fun r5 t6 ht6 => (FR_if (FR_bn (fr_F11_told _ _) (Sub_of [0] rfl) ht6 fun r7 t8 ht8 => (FR_some ht8)) (FR_bn (fr_F11_none _ _) (Sub_of [0] rfl) ht6 fun r9 t10 ht10 => (FR_some ht10))))) (FR_bn (fr_F11_none _ _) (Sub_of [0] rfl) ht2 fun r11 t12 ht12 => (FR_some ht12))))
theorem fr_F11_stalkWorth_b63 (N : Nat) (σ : Ms) : FR W11_stalkWorth σ (F11_stalkWorth_b63 N σ) :=
  have hσ := Fr_rfl W11_stalkWorth σ
  (FR_bn (fr_F11_no _ _) (Sub_of [0] rfl) hσ fun r1 t2 ht2 => (FR_ck fun z181 => (FR_some ht2)))
theorem fr_F11_stalkWorth_b113 (N : Nat) (k76 : Int32 × Int64 × Int32 × Ms → Option (Int32 × Ms)) (hk76 : ∀ x, FR W11_stalkWorth x.2.2.2 (k76 x)) (l1 : Int32) (l3 : Int64) (l5 : Int32) (l6 : Int64) (σ : Ms) : FR W11_stalkWorth σ (F11_stalkWorth_b113 N k76 l1 l3 l5 l6 σ) :=
  have hσ := Fr_rfl W11_stalkWorth σ
  (FR_bn (fr_F3_branch _ _ _) (Sub_nil _) hσ fun r3 t4 ht4 => (FR_tr ht4 (hk76 (l1, r3, (l5 + (-1 : Int32)), t4))))
theorem fr_F11_stalkWorth_b76B (N : Nat) (k76 : Int32 × Int64 × Int32 × Ms → Option (Int32 × Ms)) (hk76 : ∀ x, FR W11_stalkWorth x.2.2.2 (k76 x)) (l1 : Int32) (l3 : Int64) (l5 : Int32) (σ : Ms) : FR W11_stalkWorth σ (F11_stalkWorth_b76B N k76 l1 l3 l5 σ) :=
  have hσ := Fr_rfl W11_stalkWorth σ
  (FR_if (FR_bn (fr_F11_tellNumber _ _ _) (Sub_of [1, 2, 0] rfl) hσ fun r5 t6 ht6 => (FR_ck fun z182 => (FR_some ht6))) (FR_bn (fr_F9_at _ _ _) (Sub_nil _) hσ fun r7 t8 ht8 => (FR_if (FR_tr2 (fr_F11_stalkWorth_b113 _ _ hk76 _ _ _ _ _) (Sub_rfl _) ht8) (FR_if (FR_tr2 (fr_F11_stalkWorth_b113 _ _ hk76 _ _ _ _ _) (Sub_rfl _) ht8) (FR_bn (fr_F11_no _ _) (Sub_of [0] rfl) ht8 fun r9 t10 ht10 => (FR_ck fun z183 => (FR_some ht10)))))))
