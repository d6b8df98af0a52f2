theorem ix {x : Int32} {m : Nat} (hm : m < 2147483648) (h : 0 ≤ x ∧ x < nI m) : ∃ k, k < m ∧ x = nI k := by
  rcases pk_ix x (n := m) hm with q | q | ⟨k, hk, e⟩
  · exact absurd h.1 (Int32.not_le.mpr q)
  · exact absurd h.2 (Int32.not_lt.mpr q)
  · exact ⟨k, hk, e⟩
theorem isIn_iff (x : Int32) {b : Nat} (hb : b + 1 < 2147483648) : (nI 0 ≤ x ∧ x ≤ nI b) ↔ (0 ≤ x ∧ x < nI (b + 1)) := by
  rw [Int32.le_iff_toInt_le, Int32.le_iff_toInt_le, Int32.le_iff_toInt_le, Int32.lt_iff_toInt_lt, nI_toInt hb, nI_toInt (show b < 2 ^ 31 by omega), show (nI 0).toInt = 0 from by decide, show (0 : Int32).toInt = 0 from by decide]
  omega
/-! set -/
theorem set_k {n k lo hi : Nat} (hk : k < 5) {I : jm_I} {L : jm_L} (hI : Inv I) (hM : Mod I I) (x : Int32) (h0 : I 0 k = nI lo) (h1 : I 1 k = nI hi) (hmod : ∀ J, jE n rX10_set 0 [.ref 111, .int (nI k), .int x, .null, .null] [] J L = jE n rX10_set 88 [.ref 111, .int (nI k), .int x, .null, .null] [.long (lN hi), .long (lN lo), .long x.toInt64] J L) (hlo : lo < 2147483648) (hhi : hi < 2147483648) (hinv : zout x (nI lo) (nI hi) = 0 → invP 11 k x) :
    ∃ (v : Value) (I1 : jm_I) (L1 : jm_L) (I2 : jm_I) (L2 : jm_L), jE n rX9_set 0 [.ref 9, .int (nI k), .int x, .null, .null] [] I L = some (some v, jS n I1 L1) ∧ jE n rX10_set 0 [.ref 111, .int (nI k), .int x, .null, .null] [] I1 L1 = some (some v, jS n I2 L2) ∧ Inv I2 ∧ Mod I2 I2 := by
  have hw := nI_w hk (by decide)
  have em : I 118 k = I 11 k := hM.1 118 k hk
  by_cases hz : zout x (nI lo) (nI hi) = 0
  · refine ⟨.int (I 11 k), jm_u I 11 k x, L, jm_u (jm_u I 11 k x) 118 k x, L, ?_, ?_, ?_⟩
    · simp [eX9_set_0, eX9_set_8, eX9_set_15, eX9_set_34, eX9_set_40, h_isWithin, hw, jB_s, n10, h0, h1, h_outside, hz, jLI_t, jLW_t, jLL_t, jLZ_t, jLA_t, hk]
    · rw [hmod]
      simp [eX10_set_0, eX10_set_12, eX10_set_19, eX10_set_26, eX10_set_32, eX10_set_37, eX10_set_41, eX10_set_42, eX10_set_46, eX10_set_52, eX10_set_57, eX10_set_63, eX10_set_68, eX10_set_74, eX10_set_79, eX10_set_85, eX10_set_88, eX10_set_96, eX10_set_102, m_out n _ L x lo hi hlo hhi, jB_s, hz, jLI_t, jLW_t, jLL_t, jLZ_t, jLA_t, hk, jm_u_ap, em]
    · refine Op_fin (I := I) (J := jm_u I 11 k x) (M := jm_u I 118 k x) (Inv_u hI (hinv hz)) (Mod_118 hM k x) ?_ ?_
      · repeat refine cls_m ?_ (by decide)
        exact Cls_rf _
      · repeat first | refine meq_u ?_ | refine meq_c ?_ (by decide)
        exact fun _ _ => rfl
  · have hr := isR_of (isZ_out x (nI lo) (nI hi)) hz
    refine Op_ref hI hM (.int (zout x (nI lo) (nI hi))) (zout x (nI lo) (nI hi)) ?_ ?_
    · simp [eX9_set_0, eX9_set_8, eX9_set_15, eX9_set_34, eX9_set_40, h_isWithin, hw, jB_s, n10, h0, h1, h_outside, hz, jLI_t, jLW_t, jLL_t, jLZ_t, jLA_t, hk, h_refuse n I L _ hr]
    · rw [hmod]
      simp [eX10_set_0, eX10_set_12, eX10_set_19, eX10_set_26, eX10_set_32, eX10_set_37, eX10_set_41, eX10_set_42, eX10_set_46, eX10_set_52, eX10_set_57, eX10_set_63, eX10_set_68, eX10_set_74, eX10_set_79, eX10_set_85, eX10_set_88, eX10_set_96, eX10_set_102, m_out n _ L x lo hi hlo hhi, hz, m_no n _ L _ hr, jB_s]
theorem op_set (n : Nat) (w x : Int32) : Op n rX9_set rX10_set [.ref 9, .int w, .int x, .null, .null] [.ref 111, .int w, .int x, .null, .null] := by
  intro I L hI hM
  have hs := st_at hI
  by_cases h : 0 ≤ w ∧ w < nI 5
  · obtain ⟨k, hk, e⟩ := ix (by decide) h
    subst e
    rcases (show k = 0 ∨ k = 1 ∨ k = 2 ∨ k = 3 ∨ k = 4 by omega) with rfl | rfl | rfl | rfl | rfl
    · refine set_k (lo := 0) (hi := 2000) hk hI hM x ((hs 0 0 (by decide)).trans (by decide)) ((hs 1 0 (by decide)).trans (by decide)) (fun J => ?_) (by decide) (by decide) (fun q => ?_)
      · simp (decide := true) [eX10_set_0, eX10_set_12, eX10_set_19, eX10_set_26, eX10_set_32, eX10_set_37, eX10_set_41, eX10_set_42, eX10_set_46, eX10_set_52, eX10_set_57, eX10_set_63, eX10_set_68, eX10_set_74, eX10_set_79, eX10_set_85, eX10_set_96, eX10_set_102, m_isIn, jB_s, n10]
      · have r := rg_out (by decide) (by decide) q
        simp [invP, invW]; exact r
    · refine set_k (lo := 1000) (hi := 99999999) hk hI hM x ((hs 0 1 (by decide)).trans (by decide)) ((hs 1 1 (by decide)).trans (by decide)) (fun J => ?_) (by decide) (by decide) (fun q => ?_)
      · simp (decide := true) [eX10_set_0, eX10_set_12, eX10_set_19, eX10_set_26, eX10_set_32, eX10_set_37, eX10_set_41, eX10_set_42, eX10_set_46, eX10_set_52, eX10_set_57, eX10_set_63, eX10_set_68, eX10_set_74, eX10_set_79, eX10_set_85, eX10_set_96, eX10_set_102, m_isIn, jB_s, n10, n00]
      · have r := rg_out (by decide) (by decide) q
        simp [invP, invW]; exact r
    · refine set_k (lo := 1) (hi := 60) hk hI hM x ((hs 0 2 (by decide)).trans (by decide)) ((hs 1 2 (by decide)).trans (by decide)) (fun J => ?_) (by decide) (by decide) (fun q => ?_)
      · simp (decide := true) [eX10_set_0, eX10_set_12, eX10_set_19, eX10_set_26, eX10_set_32, eX10_set_37, eX10_set_41, eX10_set_42, eX10_set_46, eX10_set_52, eX10_set_57, eX10_set_63, eX10_set_68, eX10_set_74, eX10_set_79, eX10_set_85, eX10_set_96, eX10_set_102, m_isIn, jB_s, n10, n00]
      · have r := rg_out (by decide) (by decide) q
        simp [invP, invW]; exact r
    · refine set_k (lo := 0) (hi := 9999) hk hI hM x ((hs 0 3 (by decide)).trans (by decide)) ((hs 1 3 (by decide)).trans (by decide)) (fun J => ?_) (by decide) (by decide) (fun q => ?_)
      · simp (decide := true) [eX10_set_0, eX10_set_12, eX10_set_19, eX10_set_26, eX10_set_32, eX10_set_37, eX10_set_41, eX10_set_42, eX10_set_46, eX10_set_52, eX10_set_57, eX10_set_63, eX10_set_68, eX10_set_74, eX10_set_79, eX10_set_85, eX10_set_96, eX10_set_102, m_isIn, jB_s, n10, n00]
      · have r := rg_out (by decide) (by decide) q
        simp [invP, invW]; exact r
    · refine set_k (lo := 0) (hi := 999) hk hI hM x ((hs 0 4 (by decide)).trans (by decide)) ((hs 1 4 (by decide)).trans (by decide)) (fun J => ?_) (by decide) (by decide) (fun q => ?_)
      · simp (decide := true) [eX10_set_0, eX10_set_12, eX10_set_19, eX10_set_26, eX10_set_32, eX10_set_37, eX10_set_41, eX10_set_42, eX10_set_46, eX10_set_52, eX10_set_57, eX10_set_63, eX10_set_68, eX10_set_74, eX10_set_79, eX10_set_85, eX10_set_96, eX10_set_102, m_isIn, jB_s, n10, n00]
      · have r := rg_out (by decide) (by decide) q
        simp [invP, invW]; exact r
  · have h2 : ¬ (nI 0 ≤ w ∧ w ≤ nI 4) := fun q => h ((isIn_iff w (by decide)).mp q)
    have h3 : ¬ (0 ≤ w ∧ w ≤ nI 4) := h2
    refine Op_ref hI hM (.int (-2)) (-2) ?_ ?_
    · simp [eX9_set_0, eX9_set_8, eX9_set_15, eX9_set_34, eX9_set_40, h_isWithin, h, jB_s, n00, h_refuse n I L (-2) (by simp [isR])]
    · simp [eX10_set_0, eX10_set_12, eX10_set_19, eX10_set_26, eX10_set_32, eX10_set_37, eX10_set_41, eX10_set_42, eX10_set_46, eX10_set_52, eX10_set_57, eX10_set_63, eX10_set_68, eX10_set_74, eX10_set_79, eX10_set_85, eX10_set_88, eX10_set_96, eX10_set_102, m_isIn, h3, jB_s, n00, m_no n _ L (-2) (by simp [isR])]
/-! guess -/
def wG2 (f p : Int32) : Int32 := if f < 0 ∨ p < nI 1000 then -4 else if nI 999999 < f ∨ nI 999999 < p then -6 else 0
theorem isZ_wG2 (f p : Int32) : isZ (wG2 f p) := isZ_c isZ_4 (isZ_c isZ_6 isZ_0)
theorem wG2_cases (f p : Int32) : thn (if f < 0 ∨ p < nI 1000 then -4 else 0) (if nI 999999 < f ∨ nI 999999 < p then -6 else 0) = wG2 f p := by
  unfold thn wG2
  by_cases h : f < 0 ∨ p < nI 1000 <;> simp [h]
theorem c_guess_a (n : Nat) (I : jm_I) (L : jm_L) (m f p : Int32) : jE n rX9_guess 0 [.ref 9, .int m, .int f, .int p, .null] [] I L = jE n rX9_guess 64 [.ref 9, .int m, .int f, .int p, .int (thn (inm m) (wG2 f p))] [] I L := by
  have key : ∀ w : Int32, jE n rX9_guess 13 [.ref 9, .int m, .int f, .int p, .null] [.int w] I L = jE n rX9_guess 64 [.ref 9, .int m, .int f, .int p, .int (thn w (wG2 f p))] [] I L := by
    intro w
    rw [← wG2_cases]
    rw [← thn_as]
    by_cases h1 : f < 0
    · by_cases h2 : nI 999999 < f
      · simp [eX9_guess_13, eX9_guess_21, eX9_guess_28, eX9_guess_33, eX9_guess_34, eX9_guess_47, eX9_guess_53, eX9_guess_58, eX9_guess_59, h1, h2, h_thn, jB_s]
      · by_cases h3 : nI 999999 < p
        · have h4 : ¬ p ≤ nI 999999 := Int32.not_le.mpr h3
          simp [eX9_guess_13, eX9_guess_21, eX9_guess_28, eX9_guess_33, eX9_guess_34, eX9_guess_47, eX9_guess_53, eX9_guess_58, eX9_guess_59, h1, h2, h3, h4, h_thn, jB_s]
        · have h4 : p ≤ nI 999999 := Int32.not_lt.mp h3
          simp [eX9_guess_13, eX9_guess_21, eX9_guess_28, eX9_guess_33, eX9_guess_34, eX9_guess_47, eX9_guess_53, eX9_guess_58, eX9_guess_59, h1, h2, h3, h4, h_thn, jB_s, n00]
    · by_cases h5 : p < nI 1000
      · have h6 : ¬ nI 1000 ≤ p := Int32.not_le.mpr h5
        by_cases h2 : nI 999999 < f
        · simp [eX9_guess_13, eX9_guess_21, eX9_guess_28, eX9_guess_33, eX9_guess_34, eX9_guess_47, eX9_guess_53, eX9_guess_58, eX9_guess_59, h1, h2, h5, h6, h_thn, jB_s]
        · by_cases h3 : nI 999999 < p
          · have h4 : ¬ p ≤ nI 999999 := Int32.not_le.mpr h3
            simp [eX9_guess_13, eX9_guess_21, eX9_guess_28, eX9_guess_33, eX9_guess_34, eX9_guess_47, eX9_guess_53, eX9_guess_58, eX9_guess_59, h1, h2, h3, h4, h5, h6, h_thn, jB_s]
          · have h4 : p ≤ nI 999999 := Int32.not_lt.mp h3
            simp [eX9_guess_13, eX9_guess_21, eX9_guess_28, eX9_guess_33, eX9_guess_34, eX9_guess_47, eX9_guess_53, eX9_guess_58, eX9_guess_59, h1, h2, h3, h4, h5, h6, h_thn, jB_s, n00]
      · have h6 : nI 1000 ≤ p := Int32.not_lt.mp h5
        by_cases h2 : nI 999999 < f
        · simp [eX9_guess_13, eX9_guess_21, eX9_guess_28, eX9_guess_33, eX9_guess_34, eX9_guess_47, eX9_guess_53, eX9_guess_58, eX9_guess_59, h1, h2, h5, h6, h_thn, jB_s, n00]
        · by_cases h3 : nI 999999 < p
          · have h4 : ¬ p ≤ nI 999999 := Int32.not_le.mpr h3
            simp [eX9_guess_13, eX9_guess_21, eX9_guess_28, eX9_guess_33, eX9_guess_34, eX9_guess_47, eX9_guess_53, eX9_guess_58, eX9_guess_59, h1, h2, h3, h4, h5, h6, h_thn, jB_s, n00]
          · have h4 : p ≤ nI 999999 := Int32.not_lt.mp h3
            simp [eX9_guess_13, eX9_guess_21, eX9_guess_28, eX9_guess_33, eX9_guess_34, eX9_guess_47, eX9_guess_53, eX9_guess_58, eX9_guess_59, h1, h2, h3, h4, h5, h6, h_thn, jB_s, n00]
  by_cases h : 0 ≤ m ∧ m < nI 4
  · simp only [eX9_guess_0, eX9_guess_8, eX9_guess_12, h_isWithin, h, and_self, if_true, jB_s, n10, if_false, key, inm, n00]
  · simp only [eX9_guess_0, eX9_guess_8, eX9_guess_12, h_isWithin, h, jB_s, n00, if_false, if_true, key, inm]
theorem m_guess_b (n : Nat) (I : jm_I) (L : jm_L) (m f p : Int32) : jE n rX10_guess 18 [.ref 111, .int m, .int f, .int p, .null] [] I L = jE n rX10_guess 52 [.ref 111, .int m, .int f, .int p, .null] [.int (wG2 f p)] I L := by
  unfold wG2
  by_cases h1 : f < 0
  · simp [eX10_guess_0, eX10_guess_12, eX10_guess_18, eX10_guess_22, eX10_guess_29, eX10_guess_34, eX10_guess_40, eX10_guess_46, eX10_guess_51, eX10_guess_59, eX10_guess_66, h1]
  · by_cases h5 : p < nI 1000
    · have h6 : ¬ nI 1000 ≤ p := Int32.not_le.mpr h5
      simp [eX10_guess_0, eX10_guess_12, eX10_guess_18, eX10_guess_22, eX10_guess_29, eX10_guess_34, eX10_guess_40, eX10_guess_46, eX10_guess_51, eX10_guess_59, eX10_guess_66, h1, h5, h6]
    · have h6 : nI 1000 ≤ p := Int32.not_lt.mp h5
      by_cases h2 : nI 999999 < f
      · simp [eX10_guess_0, eX10_guess_12, eX10_guess_18, eX10_guess_22, eX10_guess_29, eX10_guess_34, eX10_guess_40, eX10_guess_46, eX10_guess_51, eX10_guess_59, eX10_guess_66, h1, h5, h6, h2]
      · by_cases h3 : nI 999999 < p
        · have h4 : ¬ p ≤ nI 999999 := Int32.not_le.mpr h3
          simp [eX10_guess_0, eX10_guess_12, eX10_guess_18, eX10_guess_22, eX10_guess_29, eX10_guess_34, eX10_guess_40, eX10_guess_46, eX10_guess_51, eX10_guess_59, eX10_guess_66, h1, h5, h6, h2, h3, h4]
        · have h4 : p ≤ nI 999999 := Int32.not_lt.mp h3
          simp [eX10_guess_0, eX10_guess_12, eX10_guess_18, eX10_guess_22, eX10_guess_29, eX10_guess_34, eX10_guess_40, eX10_guess_46, eX10_guess_51, eX10_guess_59, eX10_guess_66, h1, h5, h6, h2, h3, h4, n00]
theorem op_guess (n : Nat) (m f p : Int32) : Op n rX9_guess rX10_guess [.ref 9, .int m, .int f, .int p, .null] [.ref 111, .int m, .int f, .int p, .null] := by
  intro I L hI hM
  by_cases h : 0 ≤ m ∧ m < nI 4
  · obtain ⟨k, hk, e⟩ := ix (by decide) h
    subst e
    have ei : inm (nI k) = 0 := by simp [inm, h]
    have hin : 0 ≤ nI k ∧ nI k ≤ nI 3 := (isIn_iff (nI k) (by decide)).mpr h
    by_cases hz : wG2 f p = 0
    · refine ⟨.int (nI 1), jm_u (jm_u I 19 k f) 20 k p, L, jm_u (jm_u (jm_u (jm_u I 19 k f) 20 k p) 136 k f) 137 k p, L, ?_, ?_, ?_⟩
      · rw [c_guess_a, ei, thn_0, hz]
        simp [eX9_guess_59, eX9_guess_76, eX9_guess_59, jLI_t, jLW_t, jLL_t, jLZ_t, jLA_t, hk]
      · have e0 : jE n rX10_guess 0 [.ref 111, .int (nI k), .int f, .int p, .null] [] (jm_u (jm_u I 19 k f) 20 k p) L = jE n rX10_guess 18 [.ref 111, .int (nI k), .int f, .int p, .null] [] (jm_u (jm_u I 19 k f) 20 k p) L := by
          simp [eX10_guess_0, m_isIn, hin, jB_s, n10, n00]
        rw [e0, m_guess_b, hz]
        simp [eX10_guess_52, eX10_guess_66, jLI_t, jLW_t, jLL_t, jLZ_t, jLA_t, hk]
      · refine Op_fin (I := I) (J := jm_u (jm_u I 19 k f) 20 k p) (M := jm_u (jm_u I 136 k f) 137 k p) ?_ (Mod_137 (Mod_136 hM k _) k _) ?_ ?_
        · have hf : ¬ (f < 0 ∨ p < nI 1000) := fun q => by rw [wG2, if_pos q] at hz; exact absurd hz (by decide)
          have hg : ¬ (nI 999999 < f ∨ nI 999999 < p) := fun q => by rw [wG2, if_neg hf, if_pos q] at hz; exact absurd hz (by decide)
          rw [Int32.lt_iff_toInt_lt, Int32.lt_iff_toInt_lt, show (nI 1000).toInt = 1000 from by decide, show (0 : Int32).toInt = 0 from by decide] at hf
          rw [Int32.lt_iff_toInt_lt, Int32.lt_iff_toInt_lt, show (nI 999999).toInt = 999999 from by decide] at hg
          refine Inv_u (Inv_u hI ?_) ?_
          · exact fun _ => ⟨by omega, by omega⟩
          · exact fun _ => ⟨by omega, by omega⟩
        · repeat refine cls_m ?_ (by decide)
          exact Cls_rf _
        · repeat first | refine meq_u ?_ | refine meq_c ?_ (by decide)
          exact fun _ _ => rfl
    · have hr := isR_of (isZ_wG2 f p) hz
      refine Op_ref hI hM (.int (wG2 f p)) (wG2 f p) ?_ ?_
      · rw [c_guess_a, ei, thn_0]
        simp [eX9_guess_59, eX9_guess_69, hz, h_refuse n I L _ hr, jB_s]
      · have e0 : jE n rX10_guess 0 [.ref 111, .int (nI k), .int f, .int p, .null] [] (rf I (rz (wG2 f p))) L = jE n rX10_guess 18 [.ref 111, .int (nI k), .int f, .int p, .null] [] (rf I (rz (wG2 f p))) L := by
          simp [eX10_guess_0, m_isIn, hin, jB_s, n10, n00]
        rw [e0, m_guess_b]
        simp [eX10_guess_52, eX10_guess_59, hz, m_no n _ L _ hr, jB_s]
  · have h3 : ¬ (0 ≤ m ∧ m ≤ nI 3) := fun q => h ((isIn_iff m (by decide)).mp q)
    have ei : inm m = -1 := by simp [inm, h]
    have e1 : ¬ (-1 : Int32) = 0 := by decide
    refine Op_ref hI hM (.int (-1)) (-1) ?_ ?_
    · rw [c_guess_a, ei, thn_n e1]
      simp [eX9_guess_59, eX9_guess_69, h_refuse n I L (-1) (by simp [isR]), jB_s]
    · simp [eX10_guess_0, eX10_guess_12, m_isIn, h3, jB_s, n00, m_no n _ L (-1) (by simp [isR])]
