/-! count -/
def ctM (A : jm_I) : Nat → Int32
  | 0 => nI 0
  | m + 1 => ctM A m + (if A 13 m = 0 then nI 0 else nI 1)
def ctC (A : jm_I) : Nat → Int32
  | 0 => nI 0
  | s + 1 => ctC A s + (if A 29 s = nI 5 then nI 1 else nI 0)
def us (A : jm_I) (s h : Nat) : Nat := if A 34 (4 * s + h) = -9 then 0 else 1
def ctS (A : jm_I) : Nat → Nat
  | 0 => 0
  | s + 1 => ctS A s + (us A s 0 + us A s 1 + us A s 2 + us A s 3)
def ctH (A : jm_I) (h : Nat) : Nat → Nat
  | 0 => 0
  | s + 1 => ctH A h s + us A s h
theorem ctSH (A : jm_I) : ∀ N, ctS A N = ctH A 0 N + ctH A 1 N + ctH A 2 N + ctH A 3 N := by
  intro N
  induction N with
  | zero => rfl
  | succ N ih => simp only [ctS, ctH]; omega
theorem c_size (n : Nat) (I : jm_I) (L : jm_L) : jE n rX2_size 0 [.ref 12, .null, .null] [] I L = some (some (.int (ctM I 4)), jS n I L) := by
  have st : ∀ m, m < 4 → jE n rX2_size 4 [.ref 12, .int (ctM I m), .int (nI m)] [] I L = jE n rX2_size 4 [.ref 12, .int (ctM I (m + 1)), .int (nI (m + 1))] [] I L := by
    intro m hm
    have c0 : ¬ nI 4 ≤ nI m := nI_ge hm (by decide)
    have hd0 : jE n rX2_size 4 [.ref 12, .int (ctM I m), .int (nI m)] [] I L = jE n rX2_size 9 [.ref 12, .int (ctM I m), .int (nI m)] [] I L := by
      simp only [eX2_size_4, c0, if_false]
    rw [hd0]
    by_cases h : I 13 m = 0
    · simp only [eX2_size_9, eX2_size_19, eX2_size_23, eX2_size_24, jLI_t, jLW_t, jLL_t, jLZ_t, jLA_t, hm, h, if_true, nI_add, ctM]
    · simp only [eX2_size_9, eX2_size_19, eX2_size_23, eX2_size_24, jLI_t, jLW_t, jLL_t, jLZ_t, jLA_t, hm, h, if_false, nI_add, ctM]
  simp only [eX2_size_0]
  rw [show (Value.int (nI 0)) = .int (ctM I 0) from rfl]
  have t0 := st 0 (by decide); have t1 := st 1 (by decide); have t2 := st 2 (by decide); have t3 := st 3 (by decide)
  have c4 : nI 4 ≤ nI 4 := Int32.le_refl _
  refine t0.trans (t1.trans (t2.trans (t3.trans ?_)))
  simp only [eX2_size_4, eX2_size_32, c4, if_true]
theorem c_clouded_loop (n : Nat) (I : jm_I) (L : jm_L) {N : Nat} (hN : N ≤ 40) (e8 : I 26 8 = nI N) : ∀ (d i : Nat), i + d = N → jE n rX3_clouded 4 [.ref 26, .int (ctC I i), .int (nI i)] [] I L = some (some (.int (ctC I N)), jS n I L) := by
  intro d
  induction d with
  | zero =>
    intro i hi
    have : i = N := by omega
    subst this
    have c : nI i ≤ nI i := Int32.le_refl _
    simp only [eX3_clouded_4, eX3_clouded_36, e8, c, if_true]
  | succ d ih =>
    intro i hi
    have c : ¬ nI N ≤ nI i := nI_ge (by omega) (by omega)
    have hd0 : jE n rX3_clouded 4 [.ref 26, .int (ctC I i), .int (nI i)] [] I L = jE n rX3_clouded 12 [.ref 26, .int (ctC I i), .int (nI i)] [] I L := by
      simp only [eX3_clouded_4, e8, c, if_false]
    rw [hd0]
    have hx : i < 40 := by omega
    have ih2 := ih (i + 1) (by omega)
    by_cases h : I 29 i = nI 5
    · simp only [ctC, h, if_true] at ih2
      simp only [eX3_clouded_12, eX3_clouded_23, eX3_clouded_27, eX3_clouded_28, jLI_t, jLW_t, jLL_t, jLZ_t, jLA_t, hx, h, not_true, if_false, if_true, nI_add]
      exact ih2
    · simp only [ctC, h, if_false] at ih2
      simp only [eX3_clouded_12, eX3_clouded_23, eX3_clouded_27, eX3_clouded_28, jLI_t, jLW_t, jLL_t, jLZ_t, jLA_t, hx, h, not_false_eq_true, if_false, if_true, nI_add]
      exact ih2
theorem c_sentO (n : Nat) (I : jm_I) (L : jm_L) {s : Nat} (hs : s < 40) : jE n rX3_sentOf 0 [.ref 26, .int (nI s), .null, .null] [] I L = some (some (.int (nI (us I s 0 + us I s 1 + us I s 2 + us I s 3))), jS n I L) := by
  have st : ∀ h, h < 4 → ∀ c, jE n rX3_sentOf 4 [.ref 26, .int (nI s), .int (nI c), .int (nI h)] [] I L = jE n rX3_sentOf 4 [.ref 26, .int (nI s), .int (nI (c + us I s h)), .int (nI (h + 1))] [] I L := by
    intro h hh c
    have c0 : ¬ nI 4 ≤ nI h := nI_ge hh (by decide)
    have hd0 : jE n rX3_sentOf 4 [.ref 26, .int (nI s), .int (nI c), .int (nI h)] [] I L = jE n rX3_sentOf 9 [.ref 26, .int (nI s), .int (nI c), .int (nI h)] [] I L := by
      simp only [eX3_sentOf_4, c0, if_false]
    rw [hd0]
    have hx : 4 * s + h < 160 := by omega
    have ex : s * 4 + h = 4 * s + h := by omega
    unfold us
    by_cases e : I 34 (4 * s + h) = -9
    · simp only [eX3_sentOf_9, eX3_sentOf_25, eX3_sentOf_29, eX3_sentOf_30, pk_mul, nI_add, ex, jLI_t, jLW_t, jLL_t, jLZ_t, jLA_t, hx, e, if_true]
    · simp only [eX3_sentOf_9, eX3_sentOf_25, eX3_sentOf_29, eX3_sentOf_30, pk_mul, nI_add, ex, jLI_t, jLW_t, jLL_t, jLZ_t, jLA_t, hx, e, if_false]
  simp only [eX3_sentOf_0]
  have c4 : nI 4 ≤ nI 4 := Int32.le_refl _
  refine (st 0 (by decide) 0).trans ((st 1 (by decide) _).trans ((st 2 (by decide) _).trans ((st 3 (by decide) _).trans ?_)))
  simp only [eX3_sentOf_4, eX3_sentOf_38, c4, if_true, Nat.zero_add]
theorem c_sent_loop (n : Nat) (I : jm_I) (L : jm_L) {N : Nat} (hN : N ≤ 40) (e8 : I 26 8 = nI N) : ∀ (d i : Nat), i + d = N → jE n rX3_sent 4 [.ref 26, .int (nI (ctS I i)), .int (nI i)] [] I L = some (some (.int (nI (ctS I N))), jS n I L) := by
  intro d
  induction d with
  | zero =>
    intro i hi
    have : i = N := by omega
    subst this
    have c : nI i ≤ nI i := Int32.le_refl _
    simp only [eX3_sent_4, eX3_sent_26, e8, c, if_true]
  | succ d ih =>
    intro i hi
    have c : ¬ nI N ≤ nI i := nI_ge (by omega) (by omega)
    have hd0 : jE n rX3_sent 4 [.ref 26, .int (nI (ctS I i)), .int (nI i)] [] I L = jE n rX3_sent 12 [.ref 26, .int (nI (ctS I i)), .int (nI i)] [] I L := by
      simp only [eX3_sent_4, e8, c, if_false]
    rw [hd0]
    simp only [eX3_sent_12, c_sentO n I L (show i < 40 by omega), jB_s, nI_add]
    exact ih (i + 1) (by omega)
theorem m_ct0 (n : Nat) (J A : jm_I) (L : jm_L) (hM : Mod J A) (w : Int32) : jE n rX10_count 70 [.ref 111, .int w, .int (nI 0), .int (nI 0), .null] [] J L = some (some (.int (ctM A 4)), jS n J L) := by
  have st : ∀ m, m < 4 → jE n rX10_count 70 [.ref 111, .int w, .int (ctM A m), .int (nI m), .null] [] J L = jE n rX10_count 70 [.ref 111, .int w, .int (ctM A (m + 1)), .int (nI (m + 1)), .null] [] J L := by
    intro m hm
    have c0 : ¬ nI 4 ≤ nI m := nI_ge hm (by decide)
    have e : J 119 m = A 13 m := hM.1 119 m hm
    have hd0 : jE n rX10_count 70 [.ref 111, .int w, .int (ctM A m), .int (nI m), .null] [] J L = jE n rX10_count 75 [.ref 111, .int w, .int (ctM A m), .int (nI m), .null] [] J L := by
      simp only [eX10_count_70, c0, if_false]
    rw [hd0]
    by_cases h : A 13 m = 0
    · simp only [eX10_count_75, eX10_count_85, eX10_count_89, eX10_count_90, jLI_t, jLW_t, jLL_t, jLZ_t, jLA_t, hm, e, h, if_true, nI_add, ctM]
    · simp only [eX10_count_75, eX10_count_85, eX10_count_89, eX10_count_90, jLI_t, jLW_t, jLL_t, jLZ_t, jLA_t, hm, e, h, if_false, nI_add, ctM]
  have t0 := st 0 (by decide); have t1 := st 1 (by decide); have t2 := st 2 (by decide); have t3 := st 3 (by decide)
  have c4 : nI 4 ≤ nI 4 := Int32.le_refl _
  refine t0.trans (t1.trans (t2.trans (t3.trans ?_)))
  simp only [eX10_count_70, eX10_count_98, c4, if_true]
theorem m_ct2 (n : Nat) (J A : jm_I) (L : jm_L) (hA : Inv A) (hM : Mod J A) (w : Int32) : ∀ (d i : Nat), i + d = zN A → jE n rX10_count 107 [.ref 111, .int w, .int (ctC A i), .int (nI i), .null] [] J L = some (some (.int (ctC A (zN A))), jS n J L) := by
  obtain ⟨e8, hN⟩ := Inv_N hA
  have e20 : J 111 20 = nI (zN A) := by rw [← e8]; exact (hM.1 111 20).1 rfl
  intro d
  induction d with
  | zero =>
    intro i hi
    have : i = zN A := by omega
    subst this
    have c : nI (zN A) ≤ nI (zN A) := Int32.le_refl _
    simp only [eX10_count_107, eX10_count_139, e20, c, if_true]
  | succ d ih =>
    intro i hi
    have c : ¬ nI (zN A) ≤ nI i := nI_ge (by omega) (by omega)
    have hd0 : jE n rX10_count 107 [.ref 111, .int w, .int (ctC A i), .int (nI i), .null] [] J L = jE n rX10_count 115 [.ref 111, .int w, .int (ctC A i), .int (nI i), .null] [] J L := by
      simp only [eX10_count_107, e20, c, if_false]
    rw [hd0]
    have hx : i < 40 := by omega
    have e : J 127 i = A 29 i := hM.1 127 i hx
    have ih2 := ih (i + 1) (by omega)
    by_cases h : A 29 i = nI 5
    · simp only [ctC, h, if_true] at ih2
      simp only [eX10_count_115, eX10_count_126, eX10_count_130, eX10_count_131, jLI_t, jLW_t, jLL_t, jLZ_t, jLA_t, hx, e, h, not_true, if_false, if_true, nI_add]
      exact ih2
    · simp only [ctC, h, if_false] at ih2
      simp only [eX10_count_115, eX10_count_126, eX10_count_130, eX10_count_131, jLI_t, jLW_t, jLL_t, jLZ_t, jLA_t, hx, e, h, not_false_eq_true, if_false, if_true, nI_add]
      exact ih2
theorem m_ct6i (n : Nat) (J A : jm_I) (L : jm_L) (hA : Inv A) (hM : Mod J A) (w : Int32) {h : Nat} (hh : h < 4) (c0 : Nat) : ∀ (d i : Nat), i + d = zN A → jE n rX10_count 166 [.ref 111, .int w, .int (nI (c0 + ctH A h i)), .int (nI h), .int (nI i)] [] J L = jE n rX10_count 158 [.ref 111, .int w, .int (nI (c0 + ctH A h (zN A))), .int (nI (h + 1)), .int (nI (zN A))] [] J L := by
  obtain ⟨e8, hN⟩ := Inv_N hA
  have e20 : J 111 20 = nI (zN A) := by rw [← e8]; exact (hM.1 111 20).1 rfl
  intro d
  induction d with
  | zero =>
    intro i hi
    have : i = zN A := by omega
    subst this
    have c : nI (zN A) ≤ nI (zN A) := Int32.le_refl _
    simp only [eX10_count_166, eX10_count_204, e20, c, if_true, nI_add]
  | succ d ih =>
    intro i hi
    have c : ¬ nI (zN A) ≤ nI i := nI_ge (by omega) (by omega)
    have hd0 : jE n rX10_count 166 [.ref 111, .int w, .int (nI (c0 + ctH A h i)), .int (nI h), .int (nI i)] [] J L = jE n rX10_count 175 [.ref 111, .int w, .int (nI (c0 + ctH A h i)), .int (nI h), .int (nI i)] [] J L := by
      simp only [eX10_count_166, e20, c, if_false]
    rw [hd0]
    have hx : 40 * h + i < 160 := by omega
    have e : J 143 (40 * h + i) = (if A 34 (4 * i + h) = -9 then 0 else A 34 (4 * i + h) + 1) := hM.1 143 _ h i rfl hh (by omega)
    have ih2 := ih (i + 1) (by omega)
    rw [show c0 + ctH A h (i + 1) = c0 + ctH A h i + us A i h from (Nat.add_assoc _ _ _).symm] at ih2
    unfold us at ih2
    by_cases q : A 34 (4 * i + h) = -9
    · rw [if_pos q] at e ih2
      have c1 : (0 : Int32) ≤ 0 := Int32.le_refl _
      simp only [eX10_count_175, eX10_count_191, eX10_count_195, eX10_count_196, pk_mul, nI_add, jLI_t, jLW_t, jLL_t, jLZ_t, jLA_t, hx, e, c1, if_true]
      exact ih2
    · rw [if_neg q] at e ih2
      have r : rg (A 34 (4 * i + h)) 0 999 := (hA 34 (4 * i + h) (by decide) (by omega)).resolve_left q
      have c1 : ¬ (A 34 (4 * i + h) + 1 ≤ 0) := by
        rw [Int32.le_iff_toInt_le, show (1 : Int32) = iZ 1 from rfl, i32 (A 34 (4 * i + h)), iZ_add, iZ_i (by have := r.1; omega) (by have := r.2; omega), show (0 : Int32).toInt = 0 from by decide]
        have := r.1
        omega
      simp only [eX10_count_175, eX10_count_191, eX10_count_195, eX10_count_196, pk_mul, nI_add, jLI_t, jLW_t, jLL_t, jLZ_t, jLA_t, hx, e, c1, if_false]
      exact ih2
theorem m_ct6 (n : Nat) (J A : jm_I) (L : jm_L) (hA : Inv A) (hM : Mod J A) (w : Int32) : jE n rX10_count 158 [.ref 111, .int w, .int (nI 0), .int (nI 0), .null] [] J L = some (some (.int (nI (ctS A (zN A)))), jS n J L) := by
  have st : ∀ h, h < 4 → ∀ c v, jE n rX10_count 158 [.ref 111, .int w, .int (nI c), .int (nI h), v] [] J L = jE n rX10_count 158 [.ref 111, .int w, .int (nI (c + ctH A h (zN A))), .int (nI (h + 1)), .int (nI (zN A))] [] J L := by
    intro h hh c v
    have c0 : ¬ nI 4 ≤ nI h := nI_ge hh (by decide)
    have hd0 : jE n rX10_count 158 [.ref 111, .int w, .int (nI c), .int (nI h), v] [] J L = jE n rX10_count 166 [.ref 111, .int w, .int (nI c), .int (nI h), .int (nI 0)] [] J L := by
      simp only [eX10_count_158, eX10_count_163, c0, if_false]
    rw [hd0]
    exact m_ct6i n J A L hA hM w hh c (zN A) 0 (Nat.zero_add _)
  have c4 : nI 4 ≤ nI 4 := Int32.le_refl _
  refine (st 0 (by decide) 0 _).trans ((st 1 (by decide) _ _).trans ((st 2 (by decide) _ _).trans ((st 3 (by decide) _ _).trans ?_)))
  simp only [eX10_count_158, eX10_count_210, c4, if_true, Nat.zero_add, ctSH]
theorem op_count (n : Nat) (w : Int32) : Op n rX9_count rX10_count [.ref 9, .int w] [.ref 111, .int w, .null, .null, .null] := by
  intro I L hI hM
  obtain ⟨e8, hN⟩ := Inv_N hI
  have e20 : I 111 20 = I 26 8 := (hM.1 111 20).1 rfl
  have e29 : I 111 29 = I 35 2 := (hM.1 111 29).2 rfl
  have e22 : I 111 22 = I 9 5 := (hM.2.1 111 22).1 rfl
  have e28 : I 111 28 = I 66 1 := (hM.2.1 111 28).2.1 rfl
  by_cases hw : 0 ≤ w ∧ w < nI 7
  · obtain ⟨k, hk, e⟩ := ix (by decide) hw
    subst e
    rcases (show k = 0 ∨ k = 1 ∨ k = 2 ∨ k = 3 ∨ k = 4 ∨ k = 5 ∨ k = 6 by omega) with rfl | rfl | rfl | rfl | rfl | rfl | rfl
    · refine ⟨.int (ctM I 4), I, L, I, L, ?_, ?_, hI, hM⟩
      · simp (decide := true) [eX9_count_0, eX9_count_44, eX9_count_55, eX9_count_66, eX9_count_77, eX9_count_88, eX9_count_93, eX9_count_101, eX9_count_112, eX9_count_118, eX9_count_124, eX9_count_136, eX9_count_138, c_size, jB_s]
      · simp (decide := true) [eX10_count_0, eX10_count_14, eX10_count_24, eX10_count_68, eX10_count_75, eX10_count_85, eX10_count_89, eX10_count_90, eX10_count_98, eX10_count_100, eX10_count_105, eX10_count_115, eX10_count_126, eX10_count_130, eX10_count_131, eX10_count_139, eX10_count_141, eX10_count_146, eX10_count_151, eX10_count_156, eX10_count_163, eX10_count_166, eX10_count_175, eX10_count_191, eX10_count_195, eX10_count_196, eX10_count_204, eX10_count_210, eX10_count_212, m_isIn, jB_s, n00t]
        exact m_ct0 n I I L hM _
    · refine ⟨.int (I 26 8), I, L, I, L, ?_, ?_, hI, hM⟩
      · simp (decide := true) [eX9_count_0, eX9_count_44, eX9_count_55, eX9_count_66, eX9_count_77, eX9_count_88, eX9_count_93, eX9_count_101, eX9_count_112, eX9_count_118, eX9_count_124, eX9_count_136, eX9_count_138]
      · simp (decide := true) [eX10_count_0, eX10_count_14, eX10_count_24, eX10_count_68, eX10_count_75, eX10_count_85, eX10_count_89, eX10_count_90, eX10_count_98, eX10_count_100, eX10_count_105, eX10_count_115, eX10_count_126, eX10_count_130, eX10_count_131, eX10_count_139, eX10_count_141, eX10_count_146, eX10_count_151, eX10_count_156, eX10_count_163, eX10_count_166, eX10_count_175, eX10_count_191, eX10_count_195, eX10_count_196, eX10_count_204, eX10_count_210, eX10_count_212, m_isIn, jB_s, n00t, e20]
    · refine ⟨.int (ctC I (zN I)), I, L, I, L, ?_, ?_, hI, hM⟩
      · have q : jE n rX3_clouded 0 [.ref 26, .null, .null] [] I L = some (some (.int (ctC I (zN I))), jS n I L) := by
          simp only [eX3_clouded_0]
          exact c_clouded_loop n I L hN e8 (zN I) 0 (Nat.zero_add _)
        simp (decide := true) [eX9_count_0, eX9_count_44, eX9_count_55, eX9_count_66, eX9_count_77, eX9_count_88, eX9_count_93, eX9_count_101, eX9_count_112, eX9_count_118, eX9_count_124, eX9_count_136, eX9_count_138, q, jB_s]
      · simp (decide := true) [eX10_count_0, eX10_count_14, eX10_count_24, eX10_count_68, eX10_count_75, eX10_count_85, eX10_count_89, eX10_count_90, eX10_count_98, eX10_count_100, eX10_count_105, eX10_count_115, eX10_count_126, eX10_count_130, eX10_count_131, eX10_count_139, eX10_count_141, eX10_count_146, eX10_count_151, eX10_count_156, eX10_count_163, eX10_count_166, eX10_count_175, eX10_count_191, eX10_count_195, eX10_count_196, eX10_count_204, eX10_count_210, eX10_count_212, m_isIn, jB_s, n00t]
        exact m_ct2 n I I L hI hM _ (zN I) 0 (Nat.zero_add _)
    · refine ⟨.int (I 35 2), I, L, I, L, ?_, ?_, hI, hM⟩
      · simp (decide := true) [eX9_count_0, eX9_count_44, eX9_count_55, eX9_count_66, eX9_count_77, eX9_count_88, eX9_count_93, eX9_count_101, eX9_count_112, eX9_count_118, eX9_count_124, eX9_count_136, eX9_count_138]
      · simp (decide := true) [eX10_count_0, eX10_count_14, eX10_count_24, eX10_count_68, eX10_count_75, eX10_count_85, eX10_count_89, eX10_count_90, eX10_count_98, eX10_count_100, eX10_count_105, eX10_count_115, eX10_count_126, eX10_count_130, eX10_count_131, eX10_count_139, eX10_count_141, eX10_count_146, eX10_count_151, eX10_count_156, eX10_count_163, eX10_count_166, eX10_count_175, eX10_count_191, eX10_count_195, eX10_count_196, eX10_count_204, eX10_count_210, eX10_count_212, m_isIn, jB_s, n00t, e29]
    · refine ⟨.int (I 9 5), I, L, I, L, ?_, ?_, hI, hM⟩
      · simp (decide := true) [eX9_count_0, eX9_count_44, eX9_count_55, eX9_count_66, eX9_count_77, eX9_count_88, eX9_count_93, eX9_count_101, eX9_count_112, eX9_count_118, eX9_count_124, eX9_count_136, eX9_count_138]
      · simp (decide := true) [eX10_count_0, eX10_count_14, eX10_count_24, eX10_count_68, eX10_count_75, eX10_count_85, eX10_count_89, eX10_count_90, eX10_count_98, eX10_count_100, eX10_count_105, eX10_count_115, eX10_count_126, eX10_count_130, eX10_count_131, eX10_count_139, eX10_count_141, eX10_count_146, eX10_count_151, eX10_count_156, eX10_count_163, eX10_count_166, eX10_count_175, eX10_count_191, eX10_count_195, eX10_count_196, eX10_count_204, eX10_count_210, eX10_count_212, m_isIn, jB_s, n00t, e22]
    · refine ⟨.int (I 66 1), I, L, I, L, ?_, ?_, hI, hM⟩
      · simp (decide := true) [eX9_count_0, eX9_count_44, eX9_count_55, eX9_count_66, eX9_count_77, eX9_count_88, eX9_count_93, eX9_count_101, eX9_count_112, eX9_count_118, eX9_count_124, eX9_count_136, eX9_count_138]
      · simp (decide := true) [eX10_count_0, eX10_count_14, eX10_count_24, eX10_count_68, eX10_count_75, eX10_count_85, eX10_count_89, eX10_count_90, eX10_count_98, eX10_count_100, eX10_count_105, eX10_count_115, eX10_count_126, eX10_count_130, eX10_count_131, eX10_count_139, eX10_count_141, eX10_count_146, eX10_count_151, eX10_count_156, eX10_count_163, eX10_count_166, eX10_count_175, eX10_count_191, eX10_count_195, eX10_count_196, eX10_count_204, eX10_count_210, eX10_count_212, m_isIn, jB_s, n00t, e28]
    · refine ⟨.int (nI (ctS I (zN I))), I, L, I, L, ?_, ?_, hI, hM⟩
      · have q : jE n rX3_sent 0 [.ref 26, .null, .null] [] I L = some (some (.int (nI (ctS I (zN I)))), jS n I L) := by
          simp only [eX3_sent_0]
          exact c_sent_loop n I L hN e8 (zN I) 0 (Nat.zero_add _)
        simp (decide := true) [eX9_count_0, eX9_count_44, eX9_count_55, eX9_count_66, eX9_count_77, eX9_count_88, eX9_count_93, eX9_count_101, eX9_count_112, eX9_count_118, eX9_count_124, eX9_count_136, eX9_count_138, q, jB_s]
      · simp (decide := true) [eX10_count_0, eX10_count_14, eX10_count_24, eX10_count_68, eX10_count_75, eX10_count_85, eX10_count_89, eX10_count_90, eX10_count_98, eX10_count_100, eX10_count_105, eX10_count_115, eX10_count_126, eX10_count_130, eX10_count_131, eX10_count_139, eX10_count_141, eX10_count_146, eX10_count_151, eX10_count_156, eX10_count_163, eX10_count_166, eX10_count_175, eX10_count_191, eX10_count_195, eX10_count_196, eX10_count_204, eX10_count_210, eX10_count_212, m_isIn, jB_s, n00t]
        exact m_ct6 n I I L hI hM _
  · have nw : ∀ k, k < 7 → ¬ w = nI k := fun k hk e => hw (by rw [e]; exact nI_w hk (by decide))
    have w0 := nw 0 (by decide); have w1 := nw 1 (by decide); have w2 := nw 2 (by decide); have w3 := nw 3 (by decide); have w4 := nw 4 (by decide); have w5 := nw 5 (by decide); have w6 := nw 6 (by decide)
    by_cases h1 : w < nI 11
    · have h2 : ¬ (nI 11 ≤ w ∧ w ≤ nI 16) := fun q => absurd h1 (Int32.not_lt.mpr q.1)
      refine ⟨.int (-9), I, L, I, L, ?_, ?_, hI, hM⟩
      · simp only [eX9_count_0, eX9_count_112, eX9_count_136, eX9_count_138, w0, w1, w2, w3, w4, w5, w6, if_false, h1, if_true]
      · simp [eX10_count_0, eX10_count_24, eX10_count_212, m_isIn, h2, jB_s, n00t, w0, w1, w2, w3, w4, w5, w6]
    · by_cases h3 : nI 16 < w
      · have h2 : ¬ (nI 11 ≤ w ∧ w ≤ nI 16) := fun q => absurd h3 (Int32.not_lt.mpr q.2)
        refine ⟨.int (-9), I, L, I, L, ?_, ?_, hI, hM⟩
        · simp only [eX9_count_0, eX9_count_112, eX9_count_118, eX9_count_136, eX9_count_138, w0, w1, w2, w3, w4, w5, w6, if_false, h1, h3, if_true]
        · simp [eX10_count_0, eX10_count_24, eX10_count_212, m_isIn, h2, jB_s, n00t, w0, w1, w2, w3, w4, w5, w6]
      · have h2 : nI 11 ≤ w ∧ w ≤ nI 16 := ⟨Int32.not_lt.mp h1, Int32.not_lt.mp h3⟩
        obtain ⟨k, hk1, hk2, e⟩ : ∃ k, 11 ≤ k ∧ k ≤ 16 ∧ w = nI k := by
          have a1 := h2.1; have a2 := h2.2
          rw [Int32.le_iff_toInt_le, nI_toInt (by decide)] at a1
          rw [Int32.le_iff_toInt_le, nI_toInt (n := 16) (by decide)] at a2
          refine ⟨w.toInt.toNat, by omega, by omega, ?_⟩
          rw [nI_iZ, show ((w.toInt.toNat : Nat) : Int) = w.toInt by omega, iZ_toInt]
        subst e
        obtain ⟨c, hc⟩ : ∃ c, k = 11 + c := ⟨k - 11, by omega⟩
        subst hc
        have hc6 : c < 6 := by omega
        have hc7 : c + 1 < 7 := by omega
        have s1 : nI (11 + c) - nI 11 = nI c := by rw [nI_sb (by omega)]; congr 1; omega
        have s2 : nI (11 + c) - nI 10 = nI (c + 1) := by rw [nI_sb (by omega)]; congr 1; omega
        have em : I 112 (c + 1) = I 70 c := hM.2.1 112 (c + 1) c rfl hc6
        refine ⟨.int (I 70 c), I, L, I, L, ?_, ?_, hI, hM⟩
        · simp only [eX9_count_0, eX9_count_112, eX9_count_118, eX9_count_124, eX9_count_138, w0, w1, w2, w3, w4, w5, w6, if_false, h1, h3, s1, jLI_t, jLW_t, jLL_t, jLZ_t, jLA_t, hc6]
        · simp [eX10_count_0, eX10_count_14, m_isIn, h2, jB_s, n10, s2, jLI_t, jLW_t, jLL_t, jLZ_t, jLA_t, hc7, em]
