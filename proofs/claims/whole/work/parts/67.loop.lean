theorem jLI8 (n : Nat) : jLI n 8 = min n 3584 := rfl
theorem ls_0 (n : Nat) {i : Nat} (hi : i + 7 ≤ min n 3584) {I : jm_I} {L : jm_L} (hI : Inv I) (hM : Mod I I) : ∃ (I2 : jm_I) (L2 : jm_L), Inv I2 ∧ Mod I2 I2 ∧ jEL n rL_law 180 [.ref 8, .ref 9, .ref 111, .int (nI i)] [] I L = jEL n rL_law 1674 [.ref 8, .ref 9, .ref 111, .int (nI i)] [] I2 L2 := by
  have q1 : i + 1 < jLI n 8 := by rw [jLI8]; omega
  have q2 : i + 2 < jLI n 8 := by rw [jLI8]; omega
  have q3 : i + 3 < jLI n 8 := by rw [jLI8]; omega
  have q4 : i + 4 < jLI n 8 := by rw [jLI8]; omega
  have q5 : i + 5 < jLI n 8 := by rw [jLI8]; omega
  obtain ⟨w, I1, L1, I2, L2, h1, e8, h2, h3, h4⟩ := Op_i (op_moon n _ _ _ _ _ : Op n rX9_moon rX10_moon [.ref 9, .int (I 8 (i + 1)), .int (I 8 (i + 2)), .int (I 8 (i + 3)), .int (I 8 (i + 4)), .int (I 8 (i + 5)), .null] [.ref 111, .int (I 8 (i + 1)), .int (I 8 (i + 2)), .int (I 8 (i + 3)), .int (I 8 (i + 4)), .int (I 8 (i + 5)), .null, .null]) rfl hI hM (L := L)
  refine ⟨I2, L2, h3, h4, ?_⟩
  simp only [eL_law_180, eL_law_241, q1, q2, q3, q4, q5, nI_add, h1, jBL_s, e8, h2, eq_self, if_true, if_false]
theorem ls_1 (n : Nat) {i : Nat} (hi : i + 7 ≤ min n 3584) {I : jm_I} {L : jm_L} (hI : Inv I) (hM : Mod I I) : ∃ (I2 : jm_I) (L2 : jm_L), Inv I2 ∧ Mod I2 I2 ∧ jEL n rL_law 243 [.ref 8, .ref 9, .ref 111, .int (nI i)] [] I L = jEL n rL_law 1674 [.ref 8, .ref 9, .ref 111, .int (nI i)] [] I2 L2 := by
  have q1 : i + 1 < jLI n 8 := by rw [jLI8]; omega
  have q2 : i + 2 < jLI n 8 := by rw [jLI8]; omega
  have q3 : i + 3 < jLI n 8 := by rw [jLI8]; omega
  obtain ⟨w, I1, L1, I2, L2, h1, e8, h2, h3, h4⟩ := Op_i (op_pull n _ _ _ : Op n rX9_pull rX10_pull [.ref 9, .int (I 8 (i + 1)), .int (I 8 (i + 2)), .int (I 8 (i + 3)), .null, .null, .null] [.ref 111, .int (I 8 (i + 1)), .int (I 8 (i + 2)), .int (I 8 (i + 3)), .null, .null]) rfl hI hM (L := L)
  refine ⟨I2, L2, h3, h4, ?_⟩
  simp only [eL_law_243, eL_law_284, q1, q2, q3, nI_add, h1, jBL_s, e8, h2, eq_self, if_true, if_false]
theorem ls_2 (n : Nat) {i : Nat} (hi : i + 7 ≤ min n 3584) {I : jm_I} {L : jm_L} (hI : Inv I) (hM : Mod I I) : ∃ (I2 : jm_I) (L2 : jm_L), Inv I2 ∧ Mod I2 I2 ∧ jEL n rL_law 286 [.ref 8, .ref 9, .ref 111, .int (nI i)] [] I L = jEL n rL_law 1674 [.ref 8, .ref 9, .ref 111, .int (nI i)] [] I2 L2 := by
  have q1 : i + 1 < jLI n 8 := by rw [jLI8]; omega
  have q2 : i + 2 < jLI n 8 := by rw [jLI8]; omega
  obtain ⟨w, I1, L1, I2, L2, h1, e8, h2, h3, h4⟩ := Op_i (op_set n _ _ : Op n rX9_set rX10_set [.ref 9, .int (I 8 (i + 1)), .int (I 8 (i + 2)), .null, .null] [.ref 111, .int (I 8 (i + 1)), .int (I 8 (i + 2)), .null, .null]) rfl hI hM (L := L)
  refine ⟨I2, L2, h3, h4, ?_⟩
  simp only [eL_law_286, eL_law_317, q1, q2, nI_add, h1, jBL_s, e8, h2, eq_self, if_true, if_false]
theorem ls_3 (n : Nat) {i : Nat} (hi : i + 7 ≤ min n 3584) {I : jm_I} {L : jm_L} (hI : Inv I) (hM : Mod I I) : ∃ (I2 : jm_I) (L2 : jm_L), Inv I2 ∧ Mod I2 I2 ∧ jEL n rL_law 319 [.ref 8, .ref 9, .ref 111, .int (nI i)] [] I L = jEL n rL_law 1674 [.ref 8, .ref 9, .ref 111, .int (nI i)] [] I2 L2 := by
  have q1 : i + 1 < jLI n 8 := by rw [jLI8]; omega
  have q2 : i + 2 < jLI n 8 := by rw [jLI8]; omega
  have q3 : i + 3 < jLI n 8 := by rw [jLI8]; omega
  by_cases hb : I 8 (i + 3) = 0
  · obtain ⟨w, I1, L1, I2, L2, h1, e8, h2, h3, h4⟩ := Op_l (op_fading n _ _ _ : Op n rX9_fading rX10_fading [.ref 9, .int (I 8 (i + 1)), .int (I 8 (i + 2)), .int (nI 0), .null] [.ref 111, .int (I 8 (i + 1)), .int (I 8 (i + 2)), .int (nI 0), .null]) rfl hI hM (L := L)
    refine ⟨I2, L2, h3, h4, ?_⟩
    simp only [eL_law_319, eL_law_338, eL_law_342, eL_law_343, eL_law_365, eL_law_369, eL_law_370, eL_law_377, q1, q2, q3, nI_add, h1, jBL_s, e8, h2, eq_self, if_true, hb]
  · obtain ⟨w, I1, L1, I2, L2, h1, e8, h2, h3, h4⟩ := Op_l (op_fading n _ _ _ : Op n rX9_fading rX10_fading [.ref 9, .int (I 8 (i + 1)), .int (I 8 (i + 2)), .int (nI 1), .null] [.ref 111, .int (I 8 (i + 1)), .int (I 8 (i + 2)), .int (nI 1), .null]) rfl hI hM (L := L)
    refine ⟨I2, L2, h3, h4, ?_⟩
    simp only [eL_law_319, eL_law_338, eL_law_342, eL_law_343, eL_law_365, eL_law_369, eL_law_370, eL_law_377, q1, q2, q3, nI_add, h1, jBL_s, e8, h2, eq_self, if_true, hb, if_false]
theorem ls_4 (n : Nat) {i : Nat} (hi : i + 7 ≤ min n 3584) {I : jm_I} {L : jm_L} (hI : Inv I) (hM : Mod I I) : ∃ (I2 : jm_I) (L2 : jm_L), Inv I2 ∧ Mod I2 I2 ∧ jEL n rL_law 379 [.ref 8, .ref 9, .ref 111, .int (nI i)] [] I L = jEL n rL_law 1674 [.ref 8, .ref 9, .ref 111, .int (nI i)] [] I2 L2 := by
  have q1 : i + 1 < jLI n 8 := by rw [jLI8]; omega
  obtain ⟨w, I1, L1, I2, L2, h1, e8, h2, h3, h4⟩ := Op_i (op_far n _ : Op n rX9_far rX10_far [.ref 9, .int (I 8 (i + 1)), .null] [.ref 111, .int (I 8 (i + 1)), .null]) rfl hI hM (L := L)
  refine ⟨I2, L2, h3, h4, ?_⟩
  simp only [eL_law_379, eL_law_400, q1, nI_add, h1, jBL_s, e8, h2, eq_self, if_true, if_false]
theorem ls_5 (n : Nat) {i : Nat} (hi : i + 7 ≤ min n 3584) {I : jm_I} {L : jm_L} (hI : Inv I) (hM : Mod I I) : ∃ (I2 : jm_I) (L2 : jm_L), Inv I2 ∧ Mod I2 I2 ∧ jEL n rL_law 402 [.ref 8, .ref 9, .ref 111, .int (nI i)] [] I L = jEL n rL_law 1674 [.ref 8, .ref 9, .ref 111, .int (nI i)] [] I2 L2 := by
  have q1 : i + 1 < jLI n 8 := by rw [jLI8]; omega
  have q2 : i + 2 < jLI n 8 := by rw [jLI8]; omega
  have q3 : i + 3 < jLI n 8 := by rw [jLI8]; omega
  obtain ⟨w, I1, L1, I2, L2, h1, e8, h2, h3, h4⟩ := Op_i (op_tool n _ _ _ : Op n rX9_tool rX10_tool [.ref 9, .int (I 8 (i + 1)), .int (I 8 (i + 2)), .int (I 8 (i + 3)), .null] [.ref 111, .int (I 8 (i + 1)), .int (I 8 (i + 2)), .int (I 8 (i + 3)), .null]) rfl hI hM (L := L)
  refine ⟨I2, L2, h3, h4, ?_⟩
  simp only [eL_law_402, eL_law_443, q1, q2, q3, nI_add, h1, jBL_s, e8, h2, eq_self, if_true, if_false]
theorem ls_6 (n : Nat) {i : Nat} (hi : i + 7 ≤ min n 3584) {I : jm_I} {L : jm_L} (hI : Inv I) (hM : Mod I I) : ∃ (I2 : jm_I) (L2 : jm_L), Inv I2 ∧ Mod I2 I2 ∧ jEL n rL_law 445 [.ref 8, .ref 9, .ref 111, .int (nI i)] [] I L = jEL n rL_law 1674 [.ref 8, .ref 9, .ref 111, .int (nI i)] [] I2 L2 := by
  have q1 : i + 1 < jLI n 8 := by rw [jLI8]; omega
  have q2 : i + 2 < jLI n 8 := by rw [jLI8]; omega
  have q3 : i + 3 < jLI n 8 := by rw [jLI8]; omega
  have q4 : i + 4 < jLI n 8 := by rw [jLI8]; omega
  obtain ⟨w, I1, L1, I2, L2, h1, e8, h2, h3, h4⟩ := Op_i (op_sight n _ _ _ _ : Op n rX9_sight rX10_sight [.ref 9, .int (I 8 (i + 1)), .int (I 8 (i + 2)), .int (I 8 (i + 3)), .int (I 8 (i + 4)), .null, .null, .null, .null, .null] [.ref 111, .int (I 8 (i + 1)), .int (I 8 (i + 2)), .int (I 8 (i + 3)), .int (I 8 (i + 4)), .null]) rfl hI hM (L := L)
  refine ⟨I2, L2, h3, h4, ?_⟩
  simp only [eL_law_445, eL_law_496, q1, q2, q3, q4, nI_add, h1, jBL_s, e8, h2, eq_self, if_true, if_false]
theorem ls_7 (n : Nat) {i : Nat} (hi : i + 7 ≤ min n 3584) {I : jm_I} {L : jm_L} (hI : Inv I) (hM : Mod I I) : ∃ (I2 : jm_I) (L2 : jm_L), Inv I2 ∧ Mod I2 I2 ∧ jEL n rL_law 498 [.ref 8, .ref 9, .ref 111, .int (nI i)] [] I L = jEL n rL_law 1674 [.ref 8, .ref 9, .ref 111, .int (nI i)] [] I2 L2 := by
  have q1 : i + 1 < jLI n 8 := by rw [jLI8]; omega
  obtain ⟨w, I1, L1, I2, L2, h1, e8, h2, h3, h4⟩ := Op_l (op_right n _ : Op n rX9_right rX10_right [.ref 9, .int (I 8 (i + 1)), .null] [.ref 111, .int (I 8 (i + 1))]) rfl hI hM (L := L)
  refine ⟨I2, L2, h3, h4, ?_⟩
  simp only [eL_law_498, eL_law_520, q1, nI_add, h1, jBL_s, e8, h2, eq_self, if_true, if_false]
theorem ls_8 (n : Nat) {i : Nat} (hi : i + 7 ≤ min n 3584) {I : jm_I} {L : jm_L} (hI : Inv I) (hM : Mod I I) : ∃ (I2 : jm_I) (L2 : jm_L), Inv I2 ∧ Mod I2 I2 ∧ jEL n rL_law 522 [.ref 8, .ref 9, .ref 111, .int (nI i)] [] I L = jEL n rL_law 1674 [.ref 8, .ref 9, .ref 111, .int (nI i)] [] I2 L2 := by
  have q1 : i + 1 < jLI n 8 := by rw [jLI8]; omega
  obtain ⟨w, I1, L1, I2, L2, h1, e8, h2, h3, h4⟩ := Op_i (op_put n _ : Op n rX9_put rX10_put [.ref 9, .int (I 8 (i + 1))] [.ref 111, .int (I 8 (i + 1))]) rfl hI hM (L := L)
  refine ⟨I2, L2, h3, h4, ?_⟩
  simp only [eL_law_522, eL_law_543, q1, nI_add, h1, jBL_s, e8, h2, eq_self, if_true, if_false]
theorem ls_9 (n : Nat) {i : Nat} (hi : i + 7 ≤ min n 3584) {I : jm_I} {L : jm_L} (hI : Inv I) (hM : Mod I I) : ∃ (I2 : jm_I) (L2 : jm_L), Inv I2 ∧ Mod I2 I2 ∧ jEL n rL_law 545 [.ref 8, .ref 9, .ref 111, .int (nI i)] [] I L = jEL n rL_law 1674 [.ref 8, .ref 9, .ref 111, .int (nI i)] [] I2 L2 := by
  obtain ⟨w, I1, L1, I2, L2, h1, e8, h2, h3, h4⟩ := Op_i (op_read n : Op n rX9_read rX10_read [.ref 9, .null, .null, .null] [.ref 111, .null, .null]) rfl hI hM (L := L)
  refine ⟨I2, L2, h3, h4, ?_⟩
  simp only [eL_law_545, eL_law_556, nI_add, h1, jBL_s, e8, h2, eq_self, if_true, if_false]
theorem ls_10 (n : Nat) {i : Nat} (hi : i + 7 ≤ min n 3584) {I : jm_I} {L : jm_L} (hI : Inv I) (hM : Mod I I) : ∃ (I2 : jm_I) (L2 : jm_L), Inv I2 ∧ Mod I2 I2 ∧ jEL n rL_law 558 [.ref 8, .ref 9, .ref 111, .int (nI i)] [] I L = jEL n rL_law 1674 [.ref 8, .ref 9, .ref 111, .int (nI i)] [] I2 L2 := by
  obtain ⟨w, I1, L1, I2, L2, h1, e8, h2, h3, h4⟩ := Op_i (op_takeBack n : Op n rX9_takeBack rX10_takeBack [.ref 9, .null] [.ref 111]) rfl hI hM (L := L)
  refine ⟨I2, L2, h3, h4, ?_⟩
  simp only [eL_law_558, eL_law_569, nI_add, h1, jBL_s, e8, h2, eq_self, if_true, if_false]
theorem ls_11 (n : Nat) {i : Nat} (hi : i + 7 ≤ min n 3584) {I : jm_I} {L : jm_L} (hI : Inv I) (hM : Mod I I) : ∃ (I2 : jm_I) (L2 : jm_L), Inv I2 ∧ Mod I2 I2 ∧ jEL n rL_law 571 [.ref 8, .ref 9, .ref 111, .int (nI i)] [] I L = jEL n rL_law 1674 [.ref 8, .ref 9, .ref 111, .int (nI i)] [] I2 L2 := by
  have q1 : i + 1 < jLI n 8 := by rw [jLI8]; omega
  have q2 : i + 2 < jLI n 8 := by rw [jLI8]; omega
  have q3 : i + 3 < jLI n 8 := by rw [jLI8]; omega
  obtain ⟨w, I1, L1, I2, L2, h1, e8, h2, h3, h4⟩ := Op_i (op_feed n _ _ : Op n rX9_feed rX10_feed [.ref 9, .int (I 8 (i + 1)), .long ((I 8 (i + 2)).toInt64 <<< ((nI 32).toInt64 &&& 63) ||| (I 8 (i + 3)).toInt64 &&& lN 4294967295), .null, .null, .null] [.ref 111, .int (I 8 (i + 1)), .long ((I 8 (i + 2)).toInt64 <<< ((nI 32).toInt64 &&& 63) ||| (I 8 (i + 3)).toInt64 &&& lN 4294967295), .null, .null, .null]) rfl hI hM (L := L)
  refine ⟨I2, L2, h3, h4, ?_⟩
  simp only [eL_law_571, eL_law_632, q1, q2, q3, nI_add, h1, jBL_s, e8, h2, eq_self, if_true, if_false]
theorem ls_12 (n : Nat) {i : Nat} (hi : i + 7 ≤ min n 3584) {I : jm_I} {L : jm_L} (hI : Inv I) (hM : Mod I I) : ∃ (I2 : jm_I) (L2 : jm_L), Inv I2 ∧ Mod I2 I2 ∧ jEL n rL_law 634 [.ref 8, .ref 9, .ref 111, .int (nI i)] [] I L = jEL n rL_law 1674 [.ref 8, .ref 9, .ref 111, .int (nI i)] [] I2 L2 := by
  obtain ⟨w, I1, L1, I2, L2, h1, e8, h2, h3, h4⟩ := Op_i (op_table n : Op n rX9_table rX10_table [.ref 9, .null] [.ref 111, .null]) rfl hI hM (L := L)
  refine ⟨I2, L2, h3, h4, ?_⟩
  simp only [eL_law_634, eL_law_645, nI_add, h1, jBL_s, e8, h2, eq_self, if_true, if_false]
theorem ls_13 (n : Nat) {i : Nat} (hi : i + 7 ≤ min n 3584) {I : jm_I} {L : jm_L} (hI : Inv I) (hM : Mod I I) : ∃ (I2 : jm_I) (L2 : jm_L), Inv I2 ∧ Mod I2 I2 ∧ jEL n rL_law 647 [.ref 8, .ref 9, .ref 111, .int (nI i)] [] I L = jEL n rL_law 1674 [.ref 8, .ref 9, .ref 111, .int (nI i)] [] I2 L2 := by
  have q1 : i + 1 < jLI n 8 := by rw [jLI8]; omega
  have q2 : i + 2 < jLI n 8 := by rw [jLI8]; omega
  have q3 : i + 3 < jLI n 8 := by rw [jLI8]; omega
  obtain ⟨w, I1, L1, I2, L2, h1, e8, h2, h3, h4⟩ := Op_i (op_guess n _ _ _ : Op n rX9_guess rX10_guess [.ref 9, .int (I 8 (i + 1)), .int (I 8 (i + 2)), .int (I 8 (i + 3)), .null] [.ref 111, .int (I 8 (i + 1)), .int (I 8 (i + 2)), .int (I 8 (i + 3)), .null]) rfl hI hM (L := L)
  refine ⟨I2, L2, h3, h4, ?_⟩
  simp only [eL_law_647, eL_law_688, q1, q2, q3, nI_add, h1, jBL_s, e8, h2, eq_self, if_true, if_false]
theorem ls_14 (n : Nat) {i : Nat} (hi : i + 7 ≤ min n 3584) {I : jm_I} {L : jm_L} (hI : Inv I) (hM : Mod I I) : ∃ (I2 : jm_I) (L2 : jm_L), Inv I2 ∧ Mod I2 I2 ∧ jEL n rL_law 690 [.ref 8, .ref 9, .ref 111, .int (nI i)] [] I L = jEL n rL_law 1674 [.ref 8, .ref 9, .ref 111, .int (nI i)] [] I2 L2 := by
  have q1 : i + 1 < jLI n 8 := by rw [jLI8]; omega
  have q2 : i + 2 < jLI n 8 := by rw [jLI8]; omega
  have q3 : i + 3 < jLI n 8 := by rw [jLI8]; omega
  have q4 : i + 4 < jLI n 8 := by rw [jLI8]; omega
  obtain ⟨w, I1, L1, I2, L2, h1, e8, h2, h3, h4⟩ := Op_l (op_says n _ _ _ _ : Op n rX9_says rX10_says [.ref 9, .int (I 8 (i + 1)), .int (I 8 (i + 2)), .int (I 8 (i + 3)), .int (I 8 (i + 4)), .null] [.ref 111, .int (I 8 (i + 1)), .int (I 8 (i + 2)), .int (I 8 (i + 3)), .int (I 8 (i + 4)), .null]) rfl hI hM (L := L)
  refine ⟨I2, L2, h3, h4, ?_⟩
  simp only [eL_law_690, eL_law_742, q1, q2, q3, q4, nI_add, h1, jBL_s, e8, h2, eq_self, if_true, if_false]
theorem ls_15 (n : Nat) {i : Nat} (hi : i + 7 ≤ min n 3584) {I : jm_I} {L : jm_L} (hI : Inv I) (hM : Mod I I) : ∃ (I2 : jm_I) (L2 : jm_L), Inv I2 ∧ Mod I2 I2 ∧ jEL n rL_law 744 [.ref 8, .ref 9, .ref 111, .int (nI i)] [] I L = jEL n rL_law 1674 [.ref 8, .ref 9, .ref 111, .int (nI i)] [] I2 L2 := by
  have q1 : i + 1 < jLI n 8 := by rw [jLI8]; omega
  have q2 : i + 2 < jLI n 8 := by rw [jLI8]; omega
  have q3 : i + 3 < jLI n 8 := by rw [jLI8]; omega
  have q4 : i + 4 < jLI n 8 := by rw [jLI8]; omega
  have q5 : i + 5 < jLI n 8 := by rw [jLI8]; omega
  obtain ⟨w, I1, L1, I2, L2, h1, e8, h2, h3, h4⟩ := Op_l (op_fit n _ _ _ _ : Op n rX9_fit rX10_fit [.ref 9, .int (I 8 (i + 1)), .int (I 8 (i + 2)), .long ((I 8 (i + 3)).toInt64 <<< ((nI 32).toInt64 &&& 63) ||| (I 8 (i + 4)).toInt64 &&& lN 4294967295), .null, .int (I 8 (i + 5)), .null, .null] [.ref 111, .int (I 8 (i + 1)), .int (I 8 (i + 2)), .long ((I 8 (i + 3)).toInt64 <<< ((nI 32).toInt64 &&& 63) ||| (I 8 (i + 4)).toInt64 &&& lN 4294967295), .null, .int (I 8 (i + 5)), .null, .null, .null]) rfl hI hM (L := L)
  refine ⟨I2, L2, h3, h4, ?_⟩
  simp only [eL_law_744, eL_law_826, q1, q2, q3, q4, q5, nI_add, h1, jBL_s, e8, h2, eq_self, if_true, if_false]
theorem ls_16 (n : Nat) {i : Nat} (hi : i + 7 ≤ min n 3584) {I : jm_I} {L : jm_L} (hI : Inv I) (hM : Mod I I) : ∃ (I2 : jm_I) (L2 : jm_L), Inv I2 ∧ Mod I2 I2 ∧ jEL n rL_law 828 [.ref 8, .ref 9, .ref 111, .int (nI i)] [] I L = jEL n rL_law 1674 [.ref 8, .ref 9, .ref 111, .int (nI i)] [] I2 L2 := by
  have q1 : i + 1 < jLI n 8 := by rw [jLI8]; omega
  have q2 : i + 2 < jLI n 8 := by rw [jLI8]; omega
  have q3 : i + 3 < jLI n 8 := by rw [jLI8]; omega
  have q4 : i + 4 < jLI n 8 := by rw [jLI8]; omega
  obtain ⟨w, I1, L1, I2, L2, h1, e8, h2, h3, h4⟩ := Op_l (op_left n _ _ _ : Op n rX9_left rX10_left [.ref 9, .int (I 8 (i + 1)), .int (I 8 (i + 2)), .long ((I 8 (i + 3)).toInt64 <<< ((nI 32).toInt64 &&& 63) ||| (I 8 (i + 4)).toInt64 &&& lN 4294967295), .null, .null, .null] [.ref 111, .int (I 8 (i + 1)), .int (I 8 (i + 2)), .long ((I 8 (i + 3)).toInt64 <<< ((nI 32).toInt64 &&& 63) ||| (I 8 (i + 4)).toInt64 &&& lN 4294967295), .null, .null]) rfl hI hM (L := L)
  refine ⟨I2, L2, h3, h4, ?_⟩
  simp only [eL_law_828, eL_law_900, q1, q2, q3, q4, nI_add, h1, jBL_s, e8, h2, eq_self, if_true, if_false]
theorem ls_17 (n : Nat) {i : Nat} (hi : i + 7 ≤ min n 3584) {I : jm_I} {L : jm_L} (hI : Inv I) (hM : Mod I I) : ∃ (I2 : jm_I) (L2 : jm_L), Inv I2 ∧ Mod I2 I2 ∧ jEL n rL_law 902 [.ref 8, .ref 9, .ref 111, .int (nI i)] [] I L = jEL n rL_law 1674 [.ref 8, .ref 9, .ref 111, .int (nI i)] [] I2 L2 := by
  have q1 : i + 1 < jLI n 8 := by rw [jLI8]; omega
  have q2 : i + 2 < jLI n 8 := by rw [jLI8]; omega
  have q3 : i + 3 < jLI n 8 := by rw [jLI8]; omega
  have q4 : i + 4 < jLI n 8 := by rw [jLI8]; omega
  obtain ⟨w, I1, L1, I2, L2, h1, e8, h2, h3, h4⟩ := Op_l (op_season n _ _ _ : Op n rX9_season rX10_season [.ref 9, .int (I 8 (i + 1)), .int (I 8 (i + 2)), .long ((I 8 (i + 3)).toInt64 <<< ((nI 32).toInt64 &&& 63) ||| (I 8 (i + 4)).toInt64 &&& lN 4294967295), .null, .null, .null] [.ref 111, .int (I 8 (i + 1)), .int (I 8 (i + 2)), .long ((I 8 (i + 3)).toInt64 <<< ((nI 32).toInt64 &&& 63) ||| (I 8 (i + 4)).toInt64 &&& lN 4294967295), .null, .null, .null, .null, .null, .null, .null]) rfl hI hM (L := L)
  refine ⟨I2, L2, h3, h4, ?_⟩
  simp only [eL_law_902, eL_law_974, q1, q2, q3, q4, nI_add, h1, jBL_s, e8, h2, eq_self, if_true, if_false]
theorem ls_18 (n : Nat) {i : Nat} (hi : i + 7 ≤ min n 3584) {I : jm_I} {L : jm_L} (hI : Inv I) (hM : Mod I I) : ∃ (I2 : jm_I) (L2 : jm_L), Inv I2 ∧ Mod I2 I2 ∧ jEL n rL_law 976 [.ref 8, .ref 9, .ref 111, .int (nI i)] [] I L = jEL n rL_law 1674 [.ref 8, .ref 9, .ref 111, .int (nI i)] [] I2 L2 := by
  have q1 : i + 1 < jLI n 8 := by rw [jLI8]; omega
  have q2 : i + 2 < jLI n 8 := by rw [jLI8]; omega
  have q3 : i + 3 < jLI n 8 := by rw [jLI8]; omega
  have q4 : i + 4 < jLI n 8 := by rw [jLI8]; omega
  have q5 : i + 5 < jLI n 8 := by rw [jLI8]; omega
  obtain ⟨w, I1, L1, I2, L2, h1, e8, h2, h3, h4⟩ := Op_l (op_worth n _ _ _ _ : Op n rX9_worth rX10_worth [.ref 9, .int (I 8 (i + 1)), .int (I 8 (i + 2)), .int (I 8 (i + 3)), .long ((I 8 (i + 4)).toInt64 <<< ((nI 32).toInt64 &&& 63) ||| (I 8 (i + 5)).toInt64 &&& lN 4294967295), .null, .null, .null, .null] [.ref 111, .int (I 8 (i + 1)), .int (I 8 (i + 2)), .int (I 8 (i + 3)), .long ((I 8 (i + 4)).toInt64 <<< ((nI 32).toInt64 &&& 63) ||| (I 8 (i + 5)).toInt64 &&& lN 4294967295), .null, .null, .null, .null, .null]) rfl hI hM (L := L)
  refine ⟨I2, L2, h3, h4, ?_⟩
  simp only [eL_law_976, eL_law_1058, q1, q2, q3, q4, q5, nI_add, h1, jBL_s, e8, h2, eq_self, if_true, if_false]
theorem ls_19 (n : Nat) {i : Nat} (hi : i + 7 ≤ min n 3584) {I : jm_I} {L : jm_L} (hI : Inv I) (hM : Mod I I) : ∃ (I2 : jm_I) (L2 : jm_L), Inv I2 ∧ Mod I2 I2 ∧ jEL n rL_law 1060 [.ref 8, .ref 9, .ref 111, .int (nI i)] [] I L = jEL n rL_law 1674 [.ref 8, .ref 9, .ref 111, .int (nI i)] [] I2 L2 := by
  have q1 : i + 1 < jLI n 8 := by rw [jLI8]; omega
  have q2 : i + 2 < jLI n 8 := by rw [jLI8]; omega
  have q3 : i + 3 < jLI n 8 := by rw [jLI8]; omega
  obtain ⟨w, I1, L1, I2, L2, h1, e8, h2, h3, h4⟩ := Op_i (op_best n _ _ : Op n rX9_best rX10_best [.ref 9, .int (I 8 (i + 1)), .long ((I 8 (i + 2)).toInt64 <<< ((nI 32).toInt64 &&& 63) ||| (I 8 (i + 3)).toInt64 &&& lN 4294967295), .null, .null] [.ref 111, .int (I 8 (i + 1)), .long ((I 8 (i + 2)).toInt64 <<< ((nI 32).toInt64 &&& 63) ||| (I 8 (i + 3)).toInt64 &&& lN 4294967295), .null, .null]) rfl hI hM (L := L)
  refine ⟨I2, L2, h3, h4, ?_⟩
  simp only [eL_law_1060, eL_law_1121, q1, q2, q3, nI_add, h1, jBL_s, e8, h2, eq_self, if_true, if_false]
theorem ls_20 (n : Nat) {i : Nat} (hi : i + 7 ≤ min n 3584) {I : jm_I} {L : jm_L} (hI : Inv I) (hM : Mod I I) : ∃ (I2 : jm_I) (L2 : jm_L), Inv I2 ∧ Mod I2 I2 ∧ jEL n rL_law 1123 [.ref 8, .ref 9, .ref 111, .int (nI i)] [] I L = jEL n rL_law 1674 [.ref 8, .ref 9, .ref 111, .int (nI i)] [] I2 L2 := by
  have q1 : i + 1 < jLI n 8 := by rw [jLI8]; omega
  obtain ⟨w, I1, L1, I2, L2, h1, e8, h2, h3, h4⟩ := Op_i (op_allMoons n _ : Op n rX9_allMoons rX10_allMoons [.ref 9, .int (I 8 (i + 1)), .null] [.ref 111, .int (I 8 (i + 1)), .null, .null, .null, .null, .null]) rfl hI hM (L := L)
  refine ⟨I2, L2, h3, h4, ?_⟩
  simp only [eL_law_1123, eL_law_1144, q1, nI_add, h1, jBL_s, e8, h2, eq_self, if_true, if_false]
theorem ls_21 (n : Nat) {i : Nat} (hi : i + 7 ≤ min n 3584) {I : jm_I} {L : jm_L} (hI : Inv I) (hM : Mod I I) : ∃ (I2 : jm_I) (L2 : jm_L), Inv I2 ∧ Mod I2 I2 ∧ jEL n rL_law 1146 [.ref 8, .ref 9, .ref 111, .int (nI i)] [] I L = jEL n rL_law 1674 [.ref 8, .ref 9, .ref 111, .int (nI i)] [] I2 L2 := by
  have q1 : i + 1 < jLI n 8 := by rw [jLI8]; omega
  have q2 : i + 2 < jLI n 8 := by rw [jLI8]; omega
  have q3 : i + 3 < jLI n 8 := by rw [jLI8]; omega
  have q4 : i + 4 < jLI n 8 := by rw [jLI8]; omega
  have q5 : i + 5 < jLI n 8 := by rw [jLI8]; omega
  have q6 : i + 6 < jLI n 8 := by rw [jLI8]; omega
  by_cases hb : I 8 (i + 6) = 0
  · obtain ⟨w, I1, L1, I2, L2, h1, e8, h2, h3, h4⟩ := Op_l (op_foretold n _ _ _ _ _ : Op n rX9_foretold rX10_foretold [.ref 9, .int (I 8 (i + 1)), .int (I 8 (i + 2)), .int (I 8 (i + 3)), .long ((I 8 (i + 4)).toInt64 <<< ((nI 32).toInt64 &&& 63) ||| (I 8 (i + 5)).toInt64 &&& lN 4294967295), .null, .int (nI 0), .null, .null, .null] [.ref 111, .int (I 8 (i + 1)), .int (I 8 (i + 2)), .int (I 8 (i + 3)), .long ((I 8 (i + 4)).toInt64 <<< ((nI 32).toInt64 &&& 63) ||| (I 8 (i + 5)).toInt64 &&& lN 4294967295), .null, .int (nI 0), .null, .null, .null]) rfl hI hM (L := L)
    refine ⟨I2, L2, h3, h4, ?_⟩
    simp only [eL_law_1146, eL_law_1191, eL_law_1195, eL_law_1196, eL_law_1244, eL_law_1248, eL_law_1249, eL_law_1256, q1, q2, q3, q4, q5, q6, nI_add, h1, jBL_s, e8, h2, eq_self, if_true, hb]
  · obtain ⟨w, I1, L1, I2, L2, h1, e8, h2, h3, h4⟩ := Op_l (op_foretold n _ _ _ _ _ : Op n rX9_foretold rX10_foretold [.ref 9, .int (I 8 (i + 1)), .int (I 8 (i + 2)), .int (I 8 (i + 3)), .long ((I 8 (i + 4)).toInt64 <<< ((nI 32).toInt64 &&& 63) ||| (I 8 (i + 5)).toInt64 &&& lN 4294967295), .null, .int (nI 1), .null, .null, .null] [.ref 111, .int (I 8 (i + 1)), .int (I 8 (i + 2)), .int (I 8 (i + 3)), .long ((I 8 (i + 4)).toInt64 <<< ((nI 32).toInt64 &&& 63) ||| (I 8 (i + 5)).toInt64 &&& lN 4294967295), .null, .int (nI 1), .null, .null, .null]) rfl hI hM (L := L)
    refine ⟨I2, L2, h3, h4, ?_⟩
    simp only [eL_law_1146, eL_law_1191, eL_law_1195, eL_law_1196, eL_law_1244, eL_law_1248, eL_law_1249, eL_law_1256, q1, q2, q3, q4, q5, q6, nI_add, h1, jBL_s, e8, h2, eq_self, if_true, hb, if_false]
theorem ls_22 (n : Nat) {i : Nat} (hi : i + 7 ≤ min n 3584) {I : jm_I} {L : jm_L} (hI : Inv I) (hM : Mod I I) : ∃ (I2 : jm_I) (L2 : jm_L), Inv I2 ∧ Mod I2 I2 ∧ jEL n rL_law 1258 [.ref 8, .ref 9, .ref 111, .int (nI i)] [] I L = jEL n rL_law 1674 [.ref 8, .ref 9, .ref 111, .int (nI i)] [] I2 L2 := by
  have q1 : i + 1 < jLI n 8 := by rw [jLI8]; omega
  have q2 : i + 2 < jLI n 8 := by rw [jLI8]; omega
  have q3 : i + 3 < jLI n 8 := by rw [jLI8]; omega
  have q4 : i + 4 < jLI n 8 := by rw [jLI8]; omega
  have q5 : i + 5 < jLI n 8 := by rw [jLI8]; omega
  obtain ⟨w, I1, L1, I2, L2, h1, e8, h2, h3, h4⟩ := Op_i (op_parts n _ _ _ _ _ : Op n rX9_parts rX10_parts [.ref 9, .int (I 8 (i + 1)), .int (I 8 (i + 2)), .int (I 8 (i + 3)), .int (I 8 (i + 4)), .int (I 8 (i + 5)), .null, .null, .null] [.ref 111, .int (I 8 (i + 1)), .int (I 8 (i + 2)), .int (I 8 (i + 3)), .int (I 8 (i + 4)), .int (I 8 (i + 5)), .null, .null, .null]) rfl hI hM (L := L)
  refine ⟨I2, L2, h3, h4, ?_⟩
  simp only [eL_law_1258, eL_law_1319, q1, q2, q3, q4, q5, nI_add, h1, jBL_s, e8, h2, eq_self, if_true, if_false]
theorem ls_23 (n : Nat) {i : Nat} (hi : i + 7 ≤ min n 3584) {I : jm_I} {L : jm_L} (hI : Inv I) (hM : Mod I I) : ∃ (I2 : jm_I) (L2 : jm_L), Inv I2 ∧ Mod I2 I2 ∧ jEL n rL_law 1321 [.ref 8, .ref 9, .ref 111, .int (nI i)] [] I L = jEL n rL_law 1674 [.ref 8, .ref 9, .ref 111, .int (nI i)] [] I2 L2 := by
  have q1 : i + 1 < jLI n 8 := by rw [jLI8]; omega
  have q2 : i + 2 < jLI n 8 := by rw [jLI8]; omega
  have q3 : i + 3 < jLI n 8 := by rw [jLI8]; omega
  obtain ⟨w, I1, L1, I2, L2, h1, e8, h2, h3, h4⟩ := Op_i (op_rhythm n _ _ _ : Op n rX9_rhythm rX10_rhythm [.ref 9, .int (I 8 (i + 1)), .int (I 8 (i + 2)), .int (I 8 (i + 3)), .null] [.ref 111, .int (I 8 (i + 1)), .int (I 8 (i + 2)), .int (I 8 (i + 3)), .null, .null, .null, .null, .null, .null, .null, .null, .null, .null, .null, .null, .null, .null, .null]) rfl hI hM (L := L)
  refine ⟨I2, L2, h3, h4, ?_⟩
  simp only [eL_law_1321, eL_law_1362, q1, q2, q3, nI_add, h1, jBL_s, e8, h2, eq_self, if_true, if_false]
theorem ls_24 (n : Nat) {i : Nat} (hi : i + 7 ≤ min n 3584) {I : jm_I} {L : jm_L} (hI : Inv I) (hM : Mod I I) : ∃ (I2 : jm_I) (L2 : jm_L), Inv I2 ∧ Mod I2 I2 ∧ jEL n rL_law 1364 [.ref 8, .ref 9, .ref 111, .int (nI i)] [] I L = jEL n rL_law 1674 [.ref 8, .ref 9, .ref 111, .int (nI i)] [] I2 L2 := by
  have q1 : i + 1 < jLI n 8 := by rw [jLI8]; omega
  have q2 : i + 2 < jLI n 8 := by rw [jLI8]; omega
  have q3 : i + 3 < jLI n 8 := by rw [jLI8]; omega
  obtain ⟨w, I1, L1, I2, L2, h1, e8, h2, h3, h4⟩ := Op_l (op_apart n _ _ _ : Op n rX9_apart rX10_apart [.ref 9, .int (I 8 (i + 1)), .int (I 8 (i + 2)), .int (I 8 (i + 3)), .null, .null, .null, .null] [.ref 111, .int (I 8 (i + 1)), .int (I 8 (i + 2)), .int (I 8 (i + 3)), .null, .null, .null, .null, .null, .null, .null, .null, .null, .null, .null]) rfl hI hM (L := L)
  refine ⟨I2, L2, h3, h4, ?_⟩
  simp only [eL_law_1364, eL_law_1406, q1, q2, q3, nI_add, h1, jBL_s, e8, h2, eq_self, if_true, if_false]
theorem ls_25 (n : Nat) {i : Nat} (hi : i + 7 ≤ min n 3584) {I : jm_I} {L : jm_L} (hI : Inv I) (hM : Mod I I) : ∃ (I2 : jm_I) (L2 : jm_L), Inv I2 ∧ Mod I2 I2 ∧ jEL n rL_law 1408 [.ref 8, .ref 9, .ref 111, .int (nI i)] [] I L = jEL n rL_law 1674 [.ref 8, .ref 9, .ref 111, .int (nI i)] [] I2 L2 := by
  have q1 : i + 1 < jLI n 8 := by rw [jLI8]; omega
  have q2 : i + 2 < jLI n 8 := by rw [jLI8]; omega
  have q3 : i + 3 < jLI n 8 := by rw [jLI8]; omega
  obtain ⟨w, I1, L1, I2, L2, h1, e8, h2, h3, h4⟩ := Op_i (op_send n _ _ _ : Op n rX9_send rX10_send [.ref 9, .int (I 8 (i + 1)), .int (I 8 (i + 2)), .int (I 8 (i + 3)), .null] [.ref 111, .int (I 8 (i + 1)), .int (I 8 (i + 2)), .int (I 8 (i + 3)), .null, .null]) rfl hI hM (L := L)
  refine ⟨I2, L2, h3, h4, ?_⟩
  simp only [eL_law_1408, eL_law_1449, q1, q2, q3, nI_add, h1, jBL_s, e8, h2, eq_self, if_true, if_false]
theorem ls_26 (n : Nat) {i : Nat} (hi : i + 7 ≤ min n 3584) {I : jm_I} {L : jm_L} (hI : Inv I) (hM : Mod I I) : ∃ (I2 : jm_I) (L2 : jm_L), Inv I2 ∧ Mod I2 I2 ∧ jEL n rL_law 1451 [.ref 8, .ref 9, .ref 111, .int (nI i)] [] I L = jEL n rL_law 1674 [.ref 8, .ref 9, .ref 111, .int (nI i)] [] I2 L2 := by
  have q1 : i + 1 < jLI n 8 := by rw [jLI8]; omega
  have q2 : i + 2 < jLI n 8 := by rw [jLI8]; omega
  obtain ⟨w, I1, L1, I2, L2, h1, e8, h2, h3, h4⟩ := Op_l (op_has n _ _ : Op n rX9_has rX10_has [.ref 9, .int (I 8 (i + 1)), .int (I 8 (i + 2)), .null] [.ref 111, .int (I 8 (i + 1)), .int (I 8 (i + 2)), .null]) rfl hI hM (L := L)
  refine ⟨I2, L2, h3, h4, ?_⟩
  simp only [eL_law_1451, eL_law_1483, q1, q2, nI_add, h1, jBL_s, e8, h2, eq_self, if_true, if_false]
theorem ls_27 (n : Nat) {i : Nat} (hi : i + 7 ≤ min n 3584) {I : jm_I} {L : jm_L} (hI : Inv I) (hM : Mod I I) : ∃ (I2 : jm_I) (L2 : jm_L), Inv I2 ∧ Mod I2 I2 ∧ jEL n rL_law 1485 [.ref 8, .ref 9, .ref 111, .int (nI i)] [] I L = jEL n rL_law 1674 [.ref 8, .ref 9, .ref 111, .int (nI i)] [] I2 L2 := by
  have q1 : i + 1 < jLI n 8 := by rw [jLI8]; omega
  have q2 : i + 2 < jLI n 8 := by rw [jLI8]; omega
  have q3 : i + 3 < jLI n 8 := by rw [jLI8]; omega
  obtain ⟨w, I1, L1, I2, L2, h1, e8, h2, h3, h4⟩ := Op_i (op_believes n _ _ _ : Op n rX9_believes rX10_believes [.ref 9, .int (I 8 (i + 1)), .int (I 8 (i + 2)), .int (I 8 (i + 3)), .null] [.ref 111, .int (I 8 (i + 1)), .int (I 8 (i + 2)), .int (I 8 (i + 3)), .null]) rfl hI hM (L := L)
  refine ⟨I2, L2, h3, h4, ?_⟩
  simp only [eL_law_1485, eL_law_1526, q1, q2, q3, nI_add, h1, jBL_s, e8, h2, eq_self, if_true, if_false]
theorem ls_28 (n : Nat) {i : Nat} (hi : i + 7 ≤ min n 3584) {I : jm_I} {L : jm_L} (hI : Inv I) (hM : Mod I I) : ∃ (I2 : jm_I) (L2 : jm_L), Inv I2 ∧ Mod I2 I2 ∧ jEL n rL_law 1528 [.ref 8, .ref 9, .ref 111, .int (nI i)] [] I L = jEL n rL_law 1674 [.ref 8, .ref 9, .ref 111, .int (nI i)] [] I2 L2 := by
  have q1 : i + 1 < jLI n 8 := by rw [jLI8]; omega
  have q2 : i + 2 < jLI n 8 := by rw [jLI8]; omega
  have q3 : i + 3 < jLI n 8 := by rw [jLI8]; omega
  obtain ⟨w, I1, L1, I2, L2, h1, e8, h2, h3, h4⟩ := Op_l (op_turn n _ _ _ : Op n rX9_turn rX10_turn [.ref 9, .int (I 8 (i + 1)), .int (I 8 (i + 2)), .int (I 8 (i + 3)), .null, .null, .null] [.ref 111, .int (I 8 (i + 1)), .int (I 8 (i + 2)), .int (I 8 (i + 3)), .null]) rfl hI hM (L := L)
  refine ⟨I2, L2, h3, h4, ?_⟩
  simp only [eL_law_1528, eL_law_1570, q1, q2, q3, nI_add, h1, jBL_s, e8, h2, eq_self, if_true, if_false]
theorem ls_29 (n : Nat) {i : Nat} (hi : i + 7 ≤ min n 3584) {I : jm_I} {L : jm_L} (hI : Inv I) (hM : Mod I I) : ∃ (I2 : jm_I) (L2 : jm_L), Inv I2 ∧ Mod I2 I2 ∧ jEL n rL_law 1572 [.ref 8, .ref 9, .ref 111, .int (nI i)] [] I L = jEL n rL_law 1674 [.ref 8, .ref 9, .ref 111, .int (nI i)] [] I2 L2 := by
  have q1 : i + 1 < jLI n 8 := by rw [jLI8]; omega
  have q2 : i + 2 < jLI n 8 := by rw [jLI8]; omega
  have q3 : i + 3 < jLI n 8 := by rw [jLI8]; omega
  have q4 : i + 4 < jLI n 8 := by rw [jLI8]; omega
  obtain ⟨w, I1, L1, I2, L2, h1, e8, h2, h3, h4⟩ := Op_i (op_watch n _ _ _ _ : Op n rX9_watch rX10_watch [.ref 9, .int (I 8 (i + 1)), .int (I 8 (i + 2)), .int (I 8 (i + 3)), .int (I 8 (i + 4)), .null, .null, .null] [.ref 111, .int (I 8 (i + 1)), .int (I 8 (i + 2)), .int (I 8 (i + 3)), .int (I 8 (i + 4)), .null, .null, .null, .null, .null, .null, .null]) rfl hI hM (L := L)
  refine ⟨I2, L2, h3, h4, ?_⟩
  simp only [eL_law_1572, eL_law_1623, q1, q2, q3, q4, nI_add, h1, jBL_s, e8, h2, eq_self, if_true, if_false]
theorem ls_30 (n : Nat) {i : Nat} (hi : i + 7 ≤ min n 3584) {I : jm_I} {L : jm_L} (hI : Inv I) (hM : Mod I I) : ∃ (I2 : jm_I) (L2 : jm_L), Inv I2 ∧ Mod I2 I2 ∧ jEL n rL_law 1625 [.ref 8, .ref 9, .ref 111, .int (nI i)] [] I L = jEL n rL_law 1674 [.ref 8, .ref 9, .ref 111, .int (nI i)] [] I2 L2 := by
  obtain ⟨w, I1, L1, I2, L2, h1, e8, h2, h3, h4⟩ := Op_i (op_image n : Op n rX9_image rX10_image [.ref 9] [.ref 111]) rfl hI hM (L := L)
  refine ⟨I2, L2, h3, h4, ?_⟩
  simp only [eL_law_1625, eL_law_1636, nI_add, h1, jBL_s, e8, h2, eq_self, if_true, if_false]
theorem ls_31 (n : Nat) {i : Nat} (hi : i + 7 ≤ min n 3584) {I : jm_I} {L : jm_L} (hI : Inv I) (hM : Mod I I) : ∃ (I2 : jm_I) (L2 : jm_L), Inv I2 ∧ Mod I2 I2 ∧ jEL n rL_law 1638 [.ref 8, .ref 9, .ref 111, .int (nI i)] [] I L = jEL n rL_law 1674 [.ref 8, .ref 9, .ref 111, .int (nI i)] [] I2 L2 := by
  obtain ⟨w, I1, L1, I2, L2, h1, e8, h2, h3, h4⟩ := Op_i (op_restore n : Op n rX9_restore rX10_restore [.ref 9] [.ref 111]) rfl hI hM (L := L)
  refine ⟨I2, L2, h3, h4, ?_⟩
  simp only [eL_law_1638, eL_law_1649, nI_add, h1, jBL_s, e8, h2, eq_self, if_true, if_false]
theorem ls_32 (n : Nat) {i : Nat} (hi : i + 7 ≤ min n 3584) {I : jm_I} {L : jm_L} (hI : Inv I) (hM : Mod I I) : ∃ (I2 : jm_I) (L2 : jm_L), Inv I2 ∧ Mod I2 I2 ∧ jEL n rL_law 1651 [.ref 8, .ref 9, .ref 111, .int (nI i)] [] I L = jEL n rL_law 1674 [.ref 8, .ref 9, .ref 111, .int (nI i)] [] I2 L2 := by
  have q1 : i + 1 < jLI n 8 := by rw [jLI8]; omega
  obtain ⟨w, I1, L1, I2, L2, h1, e8, h2, h3, h4⟩ := Op_i (op_count n _ : Op n rX9_count rX10_count [.ref 9, .int (I 8 (i + 1))] [.ref 111, .int (I 8 (i + 1)), .null, .null, .null]) rfl hI hM (L := L)
  refine ⟨I2, L2, h3, h4, ?_⟩
  simp only [eL_law_1651, eL_law_1672, q1, nI_add, h1, jBL_s, e8, h2, eq_self, if_true, if_false]
theorem ls_all (n : Nat) {i : Nat} (hi : i + 7 ≤ min n 3584) {I : jm_I} {L : jm_L} (hI : Inv I) (hM : Mod I I) : ∃ (I2 : jm_I) (L2 : jm_L), Inv I2 ∧ Mod I2 I2 ∧ jEL n rL_law 27 [.ref 8, .ref 9, .ref 111, .int (nI i)] [] I L = jEL n rL_law 18 [.ref 8, .ref 9, .ref 111, .int (nI (i + 7))] [] I2 L2 := by
  have q0 : i < jLI n 8 := by rw [jLI8]; omega
  have fin : ∀ (I2 : jm_I) (L2 : jm_L), jEL n rL_law 1674 [.ref 8, .ref 9, .ref 111, .int (nI i)] [] I2 L2 = jEL n rL_law 18 [.ref 8, .ref 9, .ref 111, .int (nI (i + 7))] [] I2 L2 := fun I2 L2 => by simp only [eL_law_1674, nI_add]
  have hd : jEL n rL_law 27 [.ref 8, .ref 9, .ref 111, .int (nI i)] [] I L = jEL n rL_law 33 [.ref 8, .ref 9, .ref 111, .int (nI i)] [.int (I 8 i &&& nI 63)] I L := by simp only [eL_law_27, q0]
  rw [hd]
  generalize I 8 i &&& nI 63 = x
  clear hd
  by_cases c0 : x = nI 0
  · obtain ⟨I2, L2, h1, h2, h3⟩ := ls_0 n hi hI hM (L := L)
    refine ⟨I2, L2, h1, h2, ?_⟩
    rw [← fin I2 L2, ← h3]
    subst c0
    simp (decide := true) only [eL_law_27, if_true, if_false]
  by_cases c1 : x = nI 1
  · obtain ⟨I2, L2, h1, h2, h3⟩ := ls_1 n hi hI hM (L := L)
    refine ⟨I2, L2, h1, h2, ?_⟩
    rw [← fin I2 L2, ← h3]
    subst c1
    simp (decide := true) only [eL_law_27, if_true, if_false]
  by_cases c2 : x = nI 2
  · obtain ⟨I2, L2, h1, h2, h3⟩ := ls_2 n hi hI hM (L := L)
    refine ⟨I2, L2, h1, h2, ?_⟩
    rw [← fin I2 L2, ← h3]
    subst c2
    simp (decide := true) only [eL_law_27, if_true, if_false]
  by_cases c3 : x = nI 3
  · obtain ⟨I2, L2, h1, h2, h3⟩ := ls_3 n hi hI hM (L := L)
    refine ⟨I2, L2, h1, h2, ?_⟩
    rw [← fin I2 L2, ← h3]
    subst c3
    simp (decide := true) only [eL_law_27, if_true, if_false]
  by_cases c4 : x = nI 4
  · obtain ⟨I2, L2, h1, h2, h3⟩ := ls_4 n hi hI hM (L := L)
    refine ⟨I2, L2, h1, h2, ?_⟩
    rw [← fin I2 L2, ← h3]
    subst c4
    simp (decide := true) only [eL_law_27, if_true, if_false]
  by_cases c5 : x = nI 5
  · obtain ⟨I2, L2, h1, h2, h3⟩ := ls_5 n hi hI hM (L := L)
    refine ⟨I2, L2, h1, h2, ?_⟩
    rw [← fin I2 L2, ← h3]
    subst c5
    simp (decide := true) only [eL_law_27, if_true, if_false]
  by_cases c6 : x = nI 6
  · obtain ⟨I2, L2, h1, h2, h3⟩ := ls_6 n hi hI hM (L := L)
    refine ⟨I2, L2, h1, h2, ?_⟩
    rw [← fin I2 L2, ← h3]
    subst c6
    simp (decide := true) only [eL_law_27, if_true, if_false]
  by_cases c7 : x = nI 7
  · obtain ⟨I2, L2, h1, h2, h3⟩ := ls_7 n hi hI hM (L := L)
    refine ⟨I2, L2, h1, h2, ?_⟩
    rw [← fin I2 L2, ← h3]
    subst c7
    simp (decide := true) only [eL_law_27, if_true, if_false]
  by_cases c8 : x = nI 8
  · obtain ⟨I2, L2, h1, h2, h3⟩ := ls_8 n hi hI hM (L := L)
    refine ⟨I2, L2, h1, h2, ?_⟩
    rw [← fin I2 L2, ← h3]
    subst c8
    simp (decide := true) only [eL_law_27, if_true, if_false]
  by_cases c9 : x = nI 9
  · obtain ⟨I2, L2, h1, h2, h3⟩ := ls_9 n hi hI hM (L := L)
    refine ⟨I2, L2, h1, h2, ?_⟩
    rw [← fin I2 L2, ← h3]
    subst c9
    simp (decide := true) only [eL_law_27, if_true, if_false]
  by_cases c10 : x = nI 10
  · obtain ⟨I2, L2, h1, h2, h3⟩ := ls_10 n hi hI hM (L := L)
    refine ⟨I2, L2, h1, h2, ?_⟩
    rw [← fin I2 L2, ← h3]
    subst c10
    simp (decide := true) only [eL_law_27, if_true, if_false]
  by_cases c11 : x = nI 11
  · obtain ⟨I2, L2, h1, h2, h3⟩ := ls_11 n hi hI hM (L := L)
    refine ⟨I2, L2, h1, h2, ?_⟩
    rw [← fin I2 L2, ← h3]
    subst c11
    simp (decide := true) only [eL_law_27, if_true, if_false]
  by_cases c12 : x = nI 12
  · obtain ⟨I2, L2, h1, h2, h3⟩ := ls_12 n hi hI hM (L := L)
    refine ⟨I2, L2, h1, h2, ?_⟩
    rw [← fin I2 L2, ← h3]
    subst c12
    simp (decide := true) only [eL_law_27, if_true, if_false]
  by_cases c13 : x = nI 13
  · obtain ⟨I2, L2, h1, h2, h3⟩ := ls_13 n hi hI hM (L := L)
    refine ⟨I2, L2, h1, h2, ?_⟩
    rw [← fin I2 L2, ← h3]
    subst c13
    simp (decide := true) only [eL_law_27, if_true, if_false]
  by_cases c14 : x = nI 14
  · obtain ⟨I2, L2, h1, h2, h3⟩ := ls_14 n hi hI hM (L := L)
    refine ⟨I2, L2, h1, h2, ?_⟩
    rw [← fin I2 L2, ← h3]
    subst c14
    simp (decide := true) only [eL_law_27, if_true, if_false]
  by_cases c15 : x = nI 15
  · obtain ⟨I2, L2, h1, h2, h3⟩ := ls_15 n hi hI hM (L := L)
    refine ⟨I2, L2, h1, h2, ?_⟩
    rw [← fin I2 L2, ← h3]
    subst c15
    simp (decide := true) only [eL_law_27, if_true, if_false]
  by_cases c16 : x = nI 16
  · obtain ⟨I2, L2, h1, h2, h3⟩ := ls_16 n hi hI hM (L := L)
    refine ⟨I2, L2, h1, h2, ?_⟩
    rw [← fin I2 L2, ← h3]
    subst c16
    simp (decide := true) only [eL_law_27, if_true, if_false]
  by_cases c17 : x = nI 17
  · obtain ⟨I2, L2, h1, h2, h3⟩ := ls_17 n hi hI hM (L := L)
    refine ⟨I2, L2, h1, h2, ?_⟩
    rw [← fin I2 L2, ← h3]
    subst c17
    simp (decide := true) only [eL_law_27, if_true, if_false]
  by_cases c18 : x = nI 18
  · obtain ⟨I2, L2, h1, h2, h3⟩ := ls_18 n hi hI hM (L := L)
    refine ⟨I2, L2, h1, h2, ?_⟩
    rw [← fin I2 L2, ← h3]
    subst c18
    simp (decide := true) only [eL_law_27, if_true, if_false]
  by_cases c19 : x = nI 19
  · obtain ⟨I2, L2, h1, h2, h3⟩ := ls_19 n hi hI hM (L := L)
    refine ⟨I2, L2, h1, h2, ?_⟩
    rw [← fin I2 L2, ← h3]
    subst c19
    simp (decide := true) only [eL_law_27, if_true, if_false]
  by_cases c20 : x = nI 20
  · obtain ⟨I2, L2, h1, h2, h3⟩ := ls_20 n hi hI hM (L := L)
    refine ⟨I2, L2, h1, h2, ?_⟩
    rw [← fin I2 L2, ← h3]
    subst c20
    simp (decide := true) only [eL_law_27, if_true, if_false]
  by_cases c21 : x = nI 21
  · obtain ⟨I2, L2, h1, h2, h3⟩ := ls_21 n hi hI hM (L := L)
    refine ⟨I2, L2, h1, h2, ?_⟩
    rw [← fin I2 L2, ← h3]
    subst c21
    simp (decide := true) only [eL_law_27, if_true, if_false]
  by_cases c22 : x = nI 22
  · obtain ⟨I2, L2, h1, h2, h3⟩ := ls_22 n hi hI hM (L := L)
    refine ⟨I2, L2, h1, h2, ?_⟩
    rw [← fin I2 L2, ← h3]
    subst c22
    simp (decide := true) only [eL_law_27, if_true, if_false]
  by_cases c23 : x = nI 23
  · obtain ⟨I2, L2, h1, h2, h3⟩ := ls_23 n hi hI hM (L := L)
    refine ⟨I2, L2, h1, h2, ?_⟩
    rw [← fin I2 L2, ← h3]
    subst c23
    simp (decide := true) only [eL_law_27, if_true, if_false]
  by_cases c24 : x = nI 24
  · obtain ⟨I2, L2, h1, h2, h3⟩ := ls_24 n hi hI hM (L := L)
    refine ⟨I2, L2, h1, h2, ?_⟩
    rw [← fin I2 L2, ← h3]
    subst c24
    simp (decide := true) only [eL_law_27, if_true, if_false]
  by_cases c25 : x = nI 25
  · obtain ⟨I2, L2, h1, h2, h3⟩ := ls_25 n hi hI hM (L := L)
    refine ⟨I2, L2, h1, h2, ?_⟩
    rw [← fin I2 L2, ← h3]
    subst c25
    simp (decide := true) only [eL_law_27, if_true, if_false]
  by_cases c26 : x = nI 26
  · obtain ⟨I2, L2, h1, h2, h3⟩ := ls_26 n hi hI hM (L := L)
    refine ⟨I2, L2, h1, h2, ?_⟩
    rw [← fin I2 L2, ← h3]
    subst c26
    simp (decide := true) only [eL_law_27, if_true, if_false]
  by_cases c27 : x = nI 27
  · obtain ⟨I2, L2, h1, h2, h3⟩ := ls_27 n hi hI hM (L := L)
    refine ⟨I2, L2, h1, h2, ?_⟩
    rw [← fin I2 L2, ← h3]
    subst c27
    simp (decide := true) only [eL_law_27, if_true, if_false]
  by_cases c28 : x = nI 28
  · obtain ⟨I2, L2, h1, h2, h3⟩ := ls_28 n hi hI hM (L := L)
    refine ⟨I2, L2, h1, h2, ?_⟩
    rw [← fin I2 L2, ← h3]
    subst c28
    simp (decide := true) only [eL_law_27, if_true, if_false]
  by_cases c29 : x = nI 29
  · obtain ⟨I2, L2, h1, h2, h3⟩ := ls_29 n hi hI hM (L := L)
    refine ⟨I2, L2, h1, h2, ?_⟩
    rw [← fin I2 L2, ← h3]
    subst c29
    simp (decide := true) only [eL_law_27, if_true, if_false]
  by_cases c30 : x = nI 30
  · obtain ⟨I2, L2, h1, h2, h3⟩ := ls_30 n hi hI hM (L := L)
    refine ⟨I2, L2, h1, h2, ?_⟩
    rw [← fin I2 L2, ← h3]
    subst c30
    simp (decide := true) only [eL_law_27, if_true, if_false]
  by_cases c31 : x = nI 31
  · obtain ⟨I2, L2, h1, h2, h3⟩ := ls_31 n hi hI hM (L := L)
    refine ⟨I2, L2, h1, h2, ?_⟩
    rw [← fin I2 L2, ← h3]
    subst c31
    simp (decide := true) only [eL_law_27, if_true, if_false]
  by_cases c32 : x = nI 32
  · obtain ⟨I2, L2, h1, h2, h3⟩ := ls_32 n hi hI hM (L := L)
    refine ⟨I2, L2, h1, h2, ?_⟩
    rw [← fin I2 L2, ← h3]
    subst c32
    simp (decide := true) only [eL_law_27, if_true, if_false]
  refine ⟨I, L, hI, hM, ?_⟩
  rw [← fin I L]
  simp only [eL_law_27, c0, c1, c2, c3, c4, c5, c6, c7, c8, c9, c10, c11, c12, c13, c14, c15, c16, c17, c18, c19, c20, c21, c22, c23, c24, c25, c26, c27, c28, c29, c30, c31, c32, if_false]
theorem law_loop (n : Nat) : ∀ (d i : Nat) (I : jm_I) (L : jm_L), i ≤ min n 3584 → min n 3584 ≤ i + d → Inv I → Mod I I → ∃ (I2 : jm_I) (L2 : jm_L), jEL n rL_law 18 [.ref 8, .ref 9, .ref 111, .int (nI i)] [] I L = some (some (.int (nI 1)), jS n I2 L2) := by
  have hN : min n 3584 ≤ 3584 := Nat.min_le_right _ _
  have hend : ∀ (i : Nat) (I : jm_I) (L : jm_L), i ≤ min n 3584 → min n 3584 < i + 7 → ∃ (I2 : jm_I) (L2 : jm_L), jEL n rL_law 18 [.ref 8, .ref 9, .ref 111, .int (nI i)] [] I L = some (some (.int (nI 1)), jS n I2 L2) := by
    intro i I L h1 h2
    have cc : nI (min n 3584) - nI 7 < nI i := by
      rw [nI_iZ, nI_iZ, nI_iZ, iZ_sub]
      exact (iZ_lt ⟨by omega, by omega⟩ ⟨by omega, by omega⟩).mpr (by omega)
    refine ⟨I, L, ?_⟩
    simp only [eL_law_18, eL_law_1680, cc, if_true]
  intro d
  induction d with
  | zero =>
    intro i I L h1 h2 hI hM
    exact hend i I L h1 (by omega)
  | succ d ih =>
    intro i I L h1 h2 hI hM
    by_cases h : min n 3584 < i + 7
    · exact hend i I L h1 h
    · have cc : ¬ nI (min n 3584) - nI 7 < nI i := fun w => by
        rw [nI_iZ, nI_iZ, nI_iZ, iZ_sub] at w
        have := (iZ_lt (a := ((min n 3584 : Nat) : Int) - 7) (b := (i : Int)) ⟨by omega, by omega⟩ ⟨by omega, by omega⟩).mp w
        omega
      obtain ⟨I1, L1, a1, a2, a3⟩ := ls_all n (show i + 7 ≤ min n 3584 by omega) hI hM (L := L)
      obtain ⟨I2, L2, b⟩ := ih (i + 7) I1 L1 (by omega) (by omega) a1 a2
      refine ⟨I2, L2, ?_⟩
      have hd : jEL n rL_law 18 [.ref 8, .ref 9, .ref 111, .int (nI i)] [] I L = jEL n rL_law 27 [.ref 8, .ref 9, .ref 111, .int (nI i)] [] I L := by
        simp only [eL_law_18, cc, if_false]
      rw [hd, a3]
      exact b
