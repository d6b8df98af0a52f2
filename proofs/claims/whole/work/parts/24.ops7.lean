theorem n00t : (nI 0 = (0 : Int32)) = True := eq_true rfl
/-! read -/
def rG (i : Nat) : Nat := ([3, 999, 7, 5, 3, 3, 19999, 99999] : List Nat).getD i 0
theorem st_6 {I : jm_I} (h : Inv I) {i : Nat} (hi : i < 8) : I 6 i = nI (rG i) := by
  rw [st_at h 6 i (by decide)]
  exact jF8 (P := fun i => jI00 (fun _ => 0) 6 i = nI (rG i)) (by decide) (by decide) (by decide) (by decide) (by decide) (by decide) (by decide) (by decide) hi
def rok (A : jm_I) (at0 j : Nat) : Prop := 0 ≤ A 69 (at0 + j) ∧ A 69 (at0 + j) ≤ nI (rG j)
def rdok (A : jm_I) (at0 : Nat) : Prop := (∀ j, j < 8 → rok A at0 j) ∧ mo A 13 (A 69 at0) ∧ zN A < 40
theorem row_tail (n : Nat) (I : jm_I) (L : jm_L) (hI : Inv I) {at0 : Nat} (hat : at0 + 8 ≤ 80) (w : Value) : jE n rX9_isRowAsTold 38 [.ref 9, .int (nI at0), .int (nI 8), w] [] I L = some (some (.int (@ite _ (mo I 13 (I 69 at0) ∧ zN I < 40) (Classical.propDecidable _) (nI 1) (nI 0))), jS n I L) := by
  obtain ⟨e8, hN⟩ := Inv_N hI
  have x0 : at0 < 80 := by omega
  by_cases hm : mo I 13 (I 69 at0)
  · by_cases hz : zN I < 40
    · rw [if_pos ⟨hm, hz⟩]
      have c : ¬ nI 40 ≤ nI (zN I) := nI_ge hz (by decide)
      simp [eX9_isRowAsTold_38, eX9_isRowAsTold_51, eX9_isRowAsTold_66, eX9_isRowAsTold_70, eX9_isRowAsTold_71, jLI_t, jLW_t, jLL_t, jLZ_t, jLA_t, x0, h_noMoon, nmo_t hm, jB_s, e8, c]
    · rw [if_neg (fun q => hz q.2)]
      have c : nI 40 ≤ nI (zN I) := nI_le (by omega) (by omega)
      simp [eX9_isRowAsTold_38, eX9_isRowAsTold_51, eX9_isRowAsTold_66, eX9_isRowAsTold_70, eX9_isRowAsTold_71, jLI_t, jLW_t, jLL_t, jLZ_t, jLA_t, x0, h_noMoon, nmo_t hm, jB_s, e8, c]
  · rw [if_neg (fun q => hm q.1)]
    simp [eX9_isRowAsTold_38, eX9_isRowAsTold_51, eX9_isRowAsTold_66, eX9_isRowAsTold_70, eX9_isRowAsTold_71, jLI_t, jLW_t, jLL_t, jLZ_t, jLA_t, x0, h_noMoon, nmo_f hm, jB_s]
theorem row_loop (n : Nat) (I : jm_I) (L : jm_L) (hI : Inv I) {at0 : Nat} (hat : at0 + 8 ≤ 80) : ∀ (k i : Nat) (w : Value), i + k = 8 → jE n rX9_isRowAsTold 2 [.ref 9, .int (nI at0), .int (nI i), w] [] I L = some (some (.int (@ite _ ((∀ j, i ≤ j → j < 8 → rok I at0 j) ∧ mo I 13 (I 69 at0) ∧ zN I < 40) (Classical.propDecidable _) (nI 1) (nI 0))), jS n I L) := by
  intro k
  induction k with
  | zero =>
    intro i w hi
    have : i = 8 := by omega
    subst this
    have c : nI 8 ≤ nI 8 := Int32.le_refl _
    simp only [eX9_isRowAsTold_2, c, if_true, row_tail n I L hI hat]
    by_cases h : mo I 13 (I 69 at0) ∧ zN I < 40
    · rw [if_pos h, if_pos ⟨fun j h1 h2 => absurd h1 (by omega), h⟩]
    · rw [if_neg h, if_neg (fun q => h q.2)]
  | succ k ih =>
    intro i w hi
    have c : ¬ nI 8 ≤ nI i := nI_ge (by omega) (by decide)
    have hd0 : jE n rX9_isRowAsTold 2 [.ref 9, .int (nI at0), .int (nI i), w] [] I L = jE n rX9_isRowAsTold 8 [.ref 9, .int (nI at0), .int (nI i), w] [] I L := by
      simp only [eX9_isRowAsTold_2, c, if_false]
    have x0 : at0 + i < 80 := by omega
    have x1 : i < 8 := by omega
    have e6 := st_6 hI x1
    rw [hd0]
    by_cases h1 : I 69 (at0 + i) < 0
    · rw [if_neg (fun q => absurd h1 (Int32.not_lt.mpr (q.1 i (Nat.le_refl i) x1).1))]
      simp only [eX9_isRowAsTold_8, eX9_isRowAsTold_21, eX9_isRowAsTold_30, nI_add, jLI_t, jLW_t, jLL_t, jLZ_t, jLA_t, x0, h1, if_true]
    · by_cases h2 : I 69 (at0 + i) ≤ nI (rG i)
      · have hok : rok I at0 i := ⟨Int32.not_lt.mp h1, h2⟩
        simp only [eX9_isRowAsTold_8, eX9_isRowAsTold_21, eX9_isRowAsTold_32, nI_add, jLI_t, jLW_t, jLL_t, jLZ_t, jLA_t, x0, x1, h1, h2, e6, if_true, if_false]
        rw [ih (i + 1) _ (by omega)]
        by_cases hh : (∀ j, i ≤ j → j < 8 → rok I at0 j) ∧ mo I 13 (I 69 at0) ∧ zN I < 40
        · rw [if_pos hh, if_pos ⟨fun j p q => hh.1 j (by omega) q, hh.2⟩]
        · rw [if_neg hh, if_neg (fun q => hh ⟨fun j p r => by
            by_cases e : j = i
            · rw [e]; exact hok
            · exact q.1 j (by omega) r, q.2⟩)]
      · rw [if_neg (fun q => h2 (q.1 i (Nat.le_refl i) x1).2)]
        simp only [eX9_isRowAsTold_8, eX9_isRowAsTold_21, eX9_isRowAsTold_30, nI_add, jLI_t, jLW_t, jLL_t, jLZ_t, jLA_t, x0, x1, h1, h2, e6, if_false]
theorem c_row (n : Nat) (I : jm_I) (L : jm_L) (hI : Inv I) {at0 : Nat} (hat : at0 + 8 ≤ 80) : jE n rX9_isRowAsTold 0 [.ref 9, .int (nI at0), .null, .null] [] I L = some (some (.int (@ite _ (rdok I at0) (Classical.propDecidable _) (nI 1) (nI 0))), jS n I L) := by
  simp only [eX9_isRowAsTold_0]
  rw [show (Value.int (nI 0) : Value) = .int (nI 0) from rfl, row_loop n I L hI hat 8 0 .null rfl]
  by_cases h : rdok I at0
  · rw [if_pos h, if_pos ⟨fun j _ q => h.1 j q, h.2⟩]
  · rw [if_neg h, if_neg (fun q => h ⟨fun j r => q.1 j (Nat.zero_le j) r, q.2⟩)]
/-- the row at0 as a sight -/
def rAdd (A : jm_I) (at0 : Nat) : jm_I := addI A (zN A) (A 69 at0) (A 69 (at0 + 1)) (A 69 (at0 + 2)) (A 69 (at0 + 3)) (A 69 (at0 + 4)) (A 69 (at0 + 5)) (A 69 (at0 + 6) * nI 100000 + A 69 (at0 + 7))
theorem Inv_row {A : jm_I} (h : Inv A) {at0 : Nat} (hr : rdok A at0) : Inv (rAdd A at0) := by
  have q : ∀ j, j < 8 → rg (A 69 (at0 + j)) 0 (rG j) := by
    intro j hj
    have h1 := hr.1 j hj
    have hb : rG j < 2147483648 := jF8 (P := fun i => rG i < 2147483648) (by decide) (by decide) (by decide) (by decide) (by decide) (by decide) (by decide) (by decide) hj
    have h2 := h1.2
    have h3 := h1.1
    rw [Int32.le_iff_toInt_le, nI_toInt hb] at h2
    rw [Int32.le_iff_toInt_le, show (0 : Int32).toInt = 0 from by decide] at h3
    exact ⟨h3, h2⟩
  have q0 : rg (A 69 at0) 0 3 := q 0 (by decide)
  have q6 : rg (A 69 (at0 + 6)) 0 19999 := q 6 (by decide)
  have q7 : rg (A 69 (at0 + 7)) 0 99999 := q 7 (by decide)
  refine Inv_add h hr.2.2 q0 (q 1 (by decide)) (q 2 (by decide)) (q 3 (by decide)) (q 4 (by decide)) (q 5 (by decide)) ?_
  unfold rg
  have e : (A 69 (at0 + 6) * nI 100000 + A 69 (at0 + 7)).toInt = (A 69 (at0 + 6)).toInt * 100000 + (A 69 (at0 + 7)).toInt := by
    have a1 := q6.1; have a2 := q6.2; have a3 := q7.1; have a4 := q7.2
    rw [← iZ_toInt (A 69 (at0 + 6)), ← iZ_toInt (A 69 (at0 + 7)), show nI 100000 = iZ 100000 from rfl, iZ_mul, iZ_add, iZ_i (by omega) (by omega)]
    rw [iZ_i (i32b _).1 (i32b _).2, iZ_i (i32b _).1 (i32b _).2]
  rw [e]
  have a1 := q6.1; have a2 := q6.2; have a3 := q7.1; have a4 := q7.2
  omega
theorem m_read_step (n : Nat) (J A : jm_I) (L : jm_L) (hA : Inv A) (hM : Mod J A) {at0 c : Nat} (hat : at0 + 8 ≤ zR A) : jE n rX10_read 4 [.ref 111, .int (nI c), .int (nI at0)] [] J L = @ite _ (rdok A at0) (Classical.propDecidable _) (jE n rX10_read 4 [.ref 111, .int (nI (c + 1)), .int (nI (at0 + 8))] [] (telI J (zN A) (A 69 at0) (A 69 (at0 + 1)) (A 69 (at0 + 2)) (A 69 (at0 + 3)) (A 69 (at0 + 4)) (A 69 (at0 + 5)) (A 69 (at0 + 6) * nI 100000 + A 69 (at0 + 7))) L) (jE n rX10_read 261 [.ref 111, .int (nI c), .int (nI at0)] [] J L) := by
  obtain ⟨eR, hR⟩ := Inv_R hA
  obtain ⟨e8, hN⟩ := Inv_N hA
  have e22 : J 111 22 = nI (zR A) := by rw [← eR]; exact (hM.2.1 111 22).1 rfl
  have e20 : J 111 20 = nI (zN A) := by rw [← e8]; exact (hM.1 111 20).1 rfl
  have er : ∀ j, j < 8 → J 132 (at0 + j) = A 69 (at0 + j) := fun j hj => hM.2.1 132 _ (by omega)
  have r0 : J 132 at0 = A 69 at0 := er 0 (by decide)
  have r1 := er 1 (by decide); have r2 := er 2 (by decide); have r3 := er 3 (by decide); have r4 := er 4 (by decide); have r5 := er 5 (by decide); have r6 := er 6 (by decide); have r7 := er 7 (by decide)
  have x0 : at0 < 80 := by omega
  have x1 : at0 + 1 < 80 := by omega
  have x2 : at0 + 2 < 80 := by omega
  have x3 : at0 + 3 < 80 := by omega
  have x4 : at0 + 4 < 80 := by omega
  have x5 : at0 + 5 < 80 := by omega
  have x6 : at0 + 6 < 80 := by omega
  have x7 : at0 + 7 < 80 := by omega
  have c0 : ¬ nI (zR A) < nI (at0 + 8) := nI_nlt hat (by omega)
  have hd0 : jE n rX10_read 4 [.ref 111, .int (nI c), .int (nI at0)] [] J L = jE n rX10_read 15 [.ref 111, .int (nI c), .int (nI at0)] [] J L := by
    simp only [eX10_read_4, nI_add, e22, c0, if_false]
  rw [hd0]
  have nf : ∀ P : Prop, ¬ rdok A at0 → P → P := fun _ _ p => p
  by_cases hm : mo A 13 (A 69 at0)
  · have bm := bmo_t ((Mod_mo hM (A 69 at0)).mpr hm)
    by_cases h1 : nI 0 ≤ A 69 (at0 + 1) ∧ A 69 (at0 + 1) ≤ nI 999
    · by_cases h2 : nI 0 ≤ A 69 (at0 + 2) ∧ A 69 (at0 + 2) ≤ nI 7
      · by_cases h3 : nI 0 ≤ A 69 (at0 + 3) ∧ A 69 (at0 + 3) ≤ nI 5
        · by_cases h4 : nI 0 ≤ A 69 (at0 + 4) ∧ A 69 (at0 + 4) ≤ nI 3
          · by_cases h5 : nI 0 ≤ A 69 (at0 + 5) ∧ A 69 (at0 + 5) ≤ nI 3
            · by_cases h6 : nI 0 ≤ A 69 (at0 + 6) ∧ A 69 (at0 + 6) ≤ nI 19999
              · by_cases h7 : nI 0 ≤ A 69 (at0 + 7) ∧ A 69 (at0 + 7) ≤ nI 99999
                · by_cases h8 : zN A < 40
                  · have ok : rdok A at0 := by
                      refine ⟨fun j hj => ?_, hm, h8⟩
                      rcases (show j = 0 ∨ j = 1 ∨ j = 2 ∨ j = 3 ∨ j = 4 ∨ j = 5 ∨ j = 6 ∨ j = 7 by omega) with rfl | rfl | rfl | rfl | rfl | rfl | rfl | rfl
                      · obtain ⟨k, hk, e, -⟩ := mo_ix hm
                        show 0 ≤ A 69 at0 ∧ A 69 at0 ≤ nI 3
                        rw [e]
                        exact ⟨nI_pos' (by omega), nI_le (by omega) (by decide)⟩
                      · exact h1
                      · exact h2
                      · exact h3
                      · exact h4
                      · exact h5
                      · exact h6
                      · exact h7
                    have c8 : ¬ nI 40 ≤ nI (zN A) := nI_ge h8 (by decide)
                    have mt := m_tells n J L h8 e20 (A 69 at0) (A 69 (at0 + 1)) (A 69 (at0 + 2)) (A 69 (at0 + 3)) (A 69 (at0 + 4)) (A 69 (at0 + 5)) (A 69 (at0 + 6) * nI 100000 + A 69 (at0 + 7))
                    have cm : nI 100000 * A 69 (at0 + 6) = A 69 (at0 + 6) * nI 100000 := Int32.mul_comm _ _
                    have cn : 0 ≤ nI (zN A) := nI_pos' (by omega)
                    rw [if_pos ok]
                    simp [eX10_read_15, eX10_read_28, eX10_read_47, eX10_read_66, eX10_read_85, eX10_read_104, eX10_read_123, eX10_read_143, eX10_read_163, eX10_read_172, eX10_read_252, eX10_read_253, nI_add, jLI_t, jLW_t, jLL_t, jLZ_t, jLA_t, x0, x1, x2, x3, x4, x5, x6, x7, r0, r1, r2, r3, r4, r5, r6, r7, m_isMoon, bm, jB_s, n10, m_isIn, h1, h2, h3, h4, h5, h6, h7, e20, c8, cm, mt, cn]
                  · have c8 : nI 40 ≤ nI (zN A) := nI_le (by omega) (by omega)
                    rw [if_neg (fun q => h8 q.2.2)]
                    simp [eX10_read_15, eX10_read_28, eX10_read_47, eX10_read_66, eX10_read_85, eX10_read_104, eX10_read_123, eX10_read_143, eX10_read_163, eX10_read_172, eX10_read_252, eX10_read_253, nI_add, jLI_t, jLW_t, jLL_t, jLZ_t, jLA_t, x0, x1, x2, x3, x4, x5, x6, x7, r0, r1, r2, r3, r4, r5, r6, r7, m_isMoon, bm, jB_s, n10, m_isIn, h1, h2, h3, h4, h5, h6, h7, e20, c8]
                · rw [if_neg (fun q => h7 (q.1 7 (by decide)))]
                  simp [eX10_read_15, eX10_read_28, eX10_read_47, eX10_read_66, eX10_read_85, eX10_read_104, eX10_read_123, eX10_read_143, eX10_read_163, eX10_read_172, eX10_read_252, eX10_read_253, nI_add, jLI_t, jLW_t, jLL_t, jLZ_t, jLA_t, x0, x1, x2, x3, x4, x5, x6, x7, r0, r1, r2, r3, r4, r5, r6, r7, m_isMoon, bm, jB_s, n10, n00t, m_isIn, h1, h2, h3, h4, h5, h6, h7]
              · rw [if_neg (fun q => h6 (q.1 6 (by decide)))]
                simp [eX10_read_15, eX10_read_28, eX10_read_47, eX10_read_66, eX10_read_85, eX10_read_104, eX10_read_123, eX10_read_143, eX10_read_163, eX10_read_172, eX10_read_252, eX10_read_253, nI_add, jLI_t, jLW_t, jLL_t, jLZ_t, jLA_t, x0, x1, x2, x3, x4, x5, x6, r0, r1, r2, r3, r4, r5, r6, m_isMoon, bm, jB_s, n10, n00t, m_isIn, h1, h2, h3, h4, h5, h6]
            · rw [if_neg (fun q => h5 (q.1 5 (by decide)))]
              simp [eX10_read_15, eX10_read_28, eX10_read_47, eX10_read_66, eX10_read_85, eX10_read_104, eX10_read_123, eX10_read_143, eX10_read_163, eX10_read_172, eX10_read_252, eX10_read_253, nI_add, jLI_t, jLW_t, jLL_t, jLZ_t, jLA_t, x0, x1, x2, x3, x4, x5, r0, r1, r2, r3, r4, r5, m_isMoon, bm, jB_s, n10, n00t, m_isIn, h1, h2, h3, h4, h5]
          · rw [if_neg (fun q => h4 (q.1 4 (by decide)))]
            simp [eX10_read_15, eX10_read_28, eX10_read_47, eX10_read_66, eX10_read_85, eX10_read_104, eX10_read_123, eX10_read_143, eX10_read_163, eX10_read_172, eX10_read_252, eX10_read_253, nI_add, jLI_t, jLW_t, jLL_t, jLZ_t, jLA_t, x0, x1, x2, x3, x4, r0, r1, r2, r3, r4, m_isMoon, bm, jB_s, n10, n00t, m_isIn, h1, h2, h3, h4]
        · rw [if_neg (fun q => h3 (q.1 3 (by decide)))]
          simp [eX10_read_15, eX10_read_28, eX10_read_47, eX10_read_66, eX10_read_85, eX10_read_104, eX10_read_123, eX10_read_143, eX10_read_163, eX10_read_172, eX10_read_252, eX10_read_253, nI_add, jLI_t, jLW_t, jLL_t, jLZ_t, jLA_t, x0, x1, x2, x3, r0, r1, r2, r3, m_isMoon, bm, jB_s, n10, n00t, m_isIn, h1, h2, h3]
      · rw [if_neg (fun q => h2 (q.1 2 (by decide)))]
        simp [eX10_read_15, eX10_read_28, eX10_read_47, eX10_read_66, eX10_read_85, eX10_read_104, eX10_read_123, eX10_read_143, eX10_read_163, eX10_read_172, eX10_read_252, eX10_read_253, nI_add, jLI_t, jLW_t, jLL_t, jLZ_t, jLA_t, x0, x1, x2, r0, r1, r2, m_isMoon, bm, jB_s, n10, n00t, m_isIn, h1, h2]
    · rw [if_neg (fun q => h1 (q.1 1 (by decide)))]
      simp [eX10_read_15, eX10_read_28, eX10_read_47, eX10_read_66, eX10_read_85, eX10_read_104, eX10_read_123, eX10_read_143, eX10_read_163, eX10_read_172, eX10_read_252, eX10_read_253, nI_add, jLI_t, jLW_t, jLL_t, jLZ_t, jLA_t, x0, x1, r0, r1, m_isMoon, bm, jB_s, n10, n00t, m_isIn, h1]
  · rw [if_neg (fun q => hm q.2.1)]
    have bm := bmo_f (fun q => hm ((Mod_mo hM (A 69 at0)).mp q))
    simp [eX10_read_15, eX10_read_28, eX10_read_47, eX10_read_66, eX10_read_85, eX10_read_104, eX10_read_123, eX10_read_143, eX10_read_163, eX10_read_172, eX10_read_252, eX10_read_253, jLI_t, jLW_t, jLL_t, jLZ_t, jLA_t, x0, r0, m_isMoon, bm, jB_s, n00t]
theorem c_read_step (n : Nat) (I : jm_I) (L : jm_L) (hI : Inv I) {at0 c : Nat} (hat : at0 + 8 ≤ zR I) (w : Value) : ∃ w' : Value, jE n rX9_read 4 [.ref 9, .int (nI c), .int (nI at0), w] [] I L = @ite _ (rdok I at0) (Classical.propDecidable _) (jE n rX9_read 4 [.ref 9, .int (nI (c + 1)), .int (nI (at0 + 8)), w'] [] (rAdd I at0) L) (jE n rX9_read 115 [.ref 9, .int (nI c), .int (nI at0), w] [] I L) := by
  obtain ⟨eR, hR⟩ := Inv_R hI
  obtain ⟨e8, hN⟩ := Inv_N hI
  have x0 : at0 < 80 := by omega
  have x1 : at0 + 1 < 80 := by omega
  have x2 : at0 + 2 < 80 := by omega
  have x3 : at0 + 3 < 80 := by omega
  have x4 : at0 + 4 < 80 := by omega
  have x5 : at0 + 5 < 80 := by omega
  have x6 : at0 + 6 < 80 := by omega
  have x7 : at0 + 7 < 80 := by omega
  have c0 : ¬ nI (zR I) < nI (at0 + 8) := nI_nlt hat (by omega)
  have hd0 : jE n rX9_read 4 [.ref 9, .int (nI c), .int (nI at0), w] [] I L = jE n rX9_read 15 [.ref 9, .int (nI c), .int (nI at0), w] [] I L := by
    simp only [eX9_read_4, nI_add, eR, c0, if_false]
  rw [hd0]
  by_cases ok : rdok I at0
  · refine ⟨.int (I 69 (at0 + 6) * nI 100000 + I 69 (at0 + 7)), ?_⟩
    rw [if_pos ok]
    have cr := c_row n I L hI (at0 := at0) (by omega)
    rw [if_pos ok] at cr
    simp [eX9_read_15, eX9_read_23, eX9_read_26, cr, jB_s, n10, nI_add, jLI_t, jLW_t, jLL_t, jLZ_t, jLA_t, x0, x1, x2, x3, x4, x5, x6, x7, c_add n I L ok.2.2 e8, jB_v, rAdd]
  · refine ⟨.null, ?_⟩
    rw [if_neg ok]
    have cr := c_row n I L hI (at0 := at0) (by omega)
    rw [if_neg ok] at cr
    simp [eX9_read_15, eX9_read_23, eX9_read_26, cr, jB_s, n00t]
theorem rAdd_R (A : jm_I) (at0 : Nat) : rAdd A at0 9 = A 9 ∧ (∀ a, 111 ≤ a → rAdd A at0 a = A a) := by
  unfold rAdd addI
  refine ⟨?_, fun a ha => ?_⟩
  · repeat rw [jm_u_ne _ _ _ (by decide)]
  · repeat rw [jm_u_ne _ _ _ (by omega)]
theorem read_both (n : Nat) (L : jm_L) : ∀ (f : Nat) (I : jm_I) (at0 c : Nat) (w : Value), Inv I → at0 + 8 * f = 80 → ∃ (B : jm_I) (c' at' : Nat) (w' : Value), Inv B ∧ B 9 = I 9 ∧ (∀ a, 111 ≤ a → B a = I a) ∧ jE n rX9_read 4 [.ref 9, .int (nI c), .int (nI at0), w] [] I L = jE n rX9_read 115 [.ref 9, .int (nI c'), .int (nI at'), w'] [] B L ∧
    ∀ J : jm_I, Mod J I → ∃ K : jm_I, Mod K B ∧ (∀ a, a < 111 → K a = J a) ∧ jE n rX10_read 4 [.ref 111, .int (nI c), .int (nI at0)] [] J L = jE n rX10_read 261 [.ref 111, .int (nI c'), .int (nI at')] [] K L := by
  intro f
  induction f with
  | zero =>
    intro I at0 c w hI hat
    obtain ⟨eR, hR⟩ := Inv_R hI
    have h80 : at0 = 80 := by omega
    subst h80
    have c0 : nI (zR I) < nI (80 + 8) := nI_lt (by omega) (by decide)
    refine ⟨I, c, 80, w, hI, rfl, fun _ _ => rfl, ?_, fun J hJ => ⟨J, hJ, fun _ _ => rfl, ?_⟩⟩
    · simp only [eX9_read_4, nI_add, eR, c0, if_true]
    · have e22 : J 111 22 = nI (zR I) := by rw [← eR]; exact (hJ.2.1 111 22).1 rfl
      simp only [eX10_read_4, nI_add, e22, c0, if_true]
  | succ f ih =>
    intro I at0 c w hI hat
    obtain ⟨eR, hR⟩ := Inv_R hI
    by_cases hle : at0 + 8 ≤ zR I
    · obtain ⟨w1, hc⟩ := c_read_step n I L hI (c := c) hle w
      by_cases ok : rdok I at0
      · rw [if_pos ok] at hc
        obtain ⟨B, c', at', w', g1, g2, g3, g4, g5⟩ := ih (rAdd I at0) (at0 + 8) (c + 1) w1 (Inv_row hI ok) (by omega)
        refine ⟨B, c', at', w', g1, g2.trans (rAdd_R I at0).1, fun a ha => (g3 a ha).trans ((rAdd_R I at0).2 a ha), hc.trans g4, fun J hJ => ?_⟩
        have hs := m_read_step n J I L hI hJ (c := c) hle
        rw [if_pos ok] at hs
        obtain ⟨K, k1, k2, k3⟩ := g5 _ (Mod_add hJ ok.2.2 rfl (I 69 at0) (I 69 (at0 + 1)) (I 69 (at0 + 2)) (I 69 (at0 + 3)) (I 69 (at0 + 4)) (I 69 (at0 + 5)) (I 69 (at0 + 6) * nI 100000 + I 69 (at0 + 7)))
        refine ⟨K, k1, fun a ha => ?_, hs.trans k3⟩
        rw [k2 a ha]
        unfold telI
        repeat rw [jm_u_ne _ _ _ (by omega)]
      · rw [if_neg ok] at hc
        refine ⟨I, c, at0, w, hI, rfl, fun _ _ => rfl, hc, fun J hJ => ⟨J, hJ, fun _ _ => rfl, ?_⟩⟩
        have hs := m_read_step n J I L hI hJ (c := c) hle
        rw [if_neg ok] at hs
        exact hs
    · have c0 : nI (zR I) < nI (at0 + 8) := nI_lt (by omega) (by omega)
      refine ⟨I, c, at0, w, hI, rfl, fun _ _ => rfl, ?_, fun J hJ => ⟨J, hJ, fun _ _ => rfl, ?_⟩⟩
      · simp only [eX9_read_4, nI_add, eR, c0, if_true]
      · have e22 : J 111 22 = nI (zR I) := by rw [← eR]; exact (hJ.2.1 111 22).1 rfl
        simp only [eX10_read_4, nI_add, e22, c0, if_true]
theorem Mod_r0 {I A : jm_I} (h : Mod I A) : Mod (jm_u I 111 22 (nI 0)) (jm_u A 9 5 (nI 0)) := by
  have h2 := h.2.1
  refine Mod_x h (fun a ha => ?_) ?_ ?_ (fun a ha => ?_) ?_ (fun a j => ?_)
  · rw [jm_u_ne _ _ _ (by omega)]
  · simp [jm_u_ap, upd_ap]
  · simp [jm_u_ap, upd_ap]
  · rw [jm_u_ne _ _ _ (by omega)]
  · simp [jm_u_ap, upd_ap]
  · by_cases h111 : a = 111
    · subst h111
      have q := h2 111 j
      refine ⟨fun e => ?_, fun e => ?_, fun e => ?_⟩
      · subst e; simp [jm_u_ap, upd_ap]
      · subst e; simp [jm_u_ap, upd_ap]; exact q.2.1 rfl
      · subst e; simp [jm_u_ap, upd_ap]; exact q.2.2 rfl
    · have q := h2 a j
      rw [jm_u_ne _ _ _ h111]
      revert q
      generalize I a j = y
      unfold modX
      split <;> first | exact fun q => q | (exfalso; exact h111 rfl)
theorem op_read (n : Nat) : Op n rX9_read rX10_read [.ref 9, .null, .null, .null] [.ref 111, .null, .null] := by
  intro I L hI hM
  obtain ⟨B, c', at', w', g1, g2, g3, g4, g5⟩ := read_both n L 10 I 0 0 .null hI rfl
  have hJ : Mod (jm_u B 9 5 (nI 0)) I := Mod_congr (I := I) (A := I) (fun a ha => by rw [jm_u_ne _ _ _ (by omega)]; exact g3 a ha) (Cls_rf I) hM
  obtain ⟨K, k1, k2, k3⟩ := g5 _ hJ
  refine ⟨.int (nI c'), jm_u B 9 5 (nI 0), L, jm_u K 111 22 (nI 0), L, ?_, ?_, ?_⟩
  · simp only [eX9_read_0]
    rw [g4]
    simp only [eX9_read_115]
  · simp only [eX10_read_0]
    rw [k3]
    simp only [eX10_read_261]
  · have hc : Cls (jm_u K 111 22 (nI 0)) (jm_u B 9 5 (nI 0)) := cls_m ⟨fun a ha => k2 a (by omega), by rw [k2 66 (by decide)]⟩ (by decide)
    refine Op_fin (I := I) (J := jm_u B 9 5 (nI 0)) (M := jm_u K 111 22 (nI 0)) (Inv_u g1 ?_) (Mod_r0 k1) hc (fun _ _ => rfl)
    refine ⟨fun q => absurd q (by decide), fun _ => nI_rg (k := 80) (by omega) (by decide)⟩
