section H
variable (n : Nat) (I : jm_I) (L : jm_L)
def inr (x s : Int32) : Int32 := if 0 ≤ x ∧ x < s then 0 else -1
def inb (x s : Int32) : Int32 := if 0 ≤ x ∧ x < s then nI 1 else nI 0
theorem isZ_inr (x s : Int32) : isZ (inr x s) := isZ_c isZ_0 isZ_1
theorem inr_t {x s : Int32} (h : 0 ≤ x ∧ x < s) : inr x s = 0 := by simp [inr, h]
theorem inr_f {x s : Int32} (h : ¬ (0 ≤ x ∧ x < s)) : inr x s = -1 := by unfold inr; rw [if_neg h]
theorem inb_t {x s : Int32} (h : 0 ≤ x ∧ x < s) : inb x s = nI 1 := by simp [inb, h]
theorem inb_f {x s : Int32} (h : ¬ (0 ≤ x ∧ x < s)) : inb x s = nI 0 := by unfold inb; rw [if_neg h]
theorem inr_0 {x s : Int32} : inr x s = 0 ↔ (0 ≤ x ∧ x < s) := by
  by_cases h : 0 ≤ x ∧ x < s
  · simp [inr_t h, h]
  · rw [inr_f h]; exact ⟨fun q => absurd q (by decide), fun q => absurd q h⟩
theorem h_noSight (x : Int32) : jE n rX9_noSight 0 [.ref 9, .int x] [] I L = some (some (.int (inr x (I 26 8))), jS n I L) := by
  by_cases h : 0 ≤ x ∧ x < I 26 8
  · simp only [eX9_noSight_0, eX9_noSight_17, eX9_noSight_21, eX9_noSight_22, h_isWithin, h, and_self, if_true, jB_s, n10, if_false, inr_t h, n00]
  · simp only [eX9_noSight_0, eX9_noSight_17, eX9_noSight_21, eX9_noSight_22, h_isWithin, h, if_false, jB_s, n00, if_true, inr_f h]
theorem h_noTable (x : Int32) : jE n rX9_noTable 0 [.ref 9, .int x] [] I L = some (some (.int (inr x (I 35 2))), jS n I L) := by
  by_cases h : 0 ≤ x ∧ x < I 35 2
  · simp only [eX9_noTable_0, eX9_noTable_17, eX9_noTable_21, eX9_noTable_22, h_isWithin, h, and_self, if_true, jB_s, n10, if_false, inr_t h, n00]
  · simp only [eX9_noTable_0, eX9_noTable_17, eX9_noTable_21, eX9_noTable_22, h_isWithin, h, if_false, jB_s, n00, if_true, inr_f h]
theorem h_cloudedSight (x : Int32) (k N : Nat) (hN : N ≤ 40) (h8 : I 26 8 = nI N) (hx : x = nI k) (hk : k < N) : jE n rX9_cloudedSight 0 [.ref 9, .int x] [] I L = some (some (.int (if I 29 k = nI 5 then -3 else 0)), jS n I L) := by
  subst hx
  have h := nI_w hk (by omega)
  have hk40 : k < 40 := by omega
  by_cases h5 : I 29 k = nI 5
  · simp [eX9_cloudedSight_0, eX9_cloudedSight_17, eX9_cloudedSight_33, eX9_cloudedSight_38, eX9_cloudedSight_39, h_isWithin, h8, h, jB_s, n10, jLI_t, jLW_t, jLL_t, jLZ_t, jLA_t, hk40, h5]
  · simp [eX9_cloudedSight_0, eX9_cloudedSight_17, eX9_cloudedSight_33, eX9_cloudedSight_38, eX9_cloudedSight_39, h_isWithin, h8, h, jB_s, n10, jLI_t, jLW_t, jLL_t, jLZ_t, jLA_t, hk40, h5, n00]
theorem h_cloudedSight_f (x : Int32) (h : ¬ (0 ≤ x ∧ x < I 26 8)) : jE n rX9_cloudedSight 0 [.ref 9, .int x] [] I L = some (some (.int 0), jS n I L) := by
  simp only [eX9_cloudedSight_0, eX9_cloudedSight_17, eX9_cloudedSight_33, eX9_cloudedSight_38, eX9_cloudedSight_39, h_isWithin, h, if_false, jB_s, n00, if_true]
theorem h_noTables : jE n rX9_noTables 0 [.ref 9] [] I L = some (some (.int (if 0 < I 35 2 then 0 else -3)), jS n I L) := by
  by_cases h : 0 < I 35 2
  · have h2 : ¬ I 35 2 ≤ 0 := Int32.not_le.mpr h
    simp only [eX9_noTables_0, eX9_noTables_13, eX9_noTables_17, eX9_noTables_19, h, h2, if_true, if_false, n00]
  · have h2 : I 35 2 ≤ 0 := Int32.not_lt.mp h
    simp only [eX9_noTables_0, eX9_noTables_13, eX9_noTables_17, eX9_noTables_19, h, h2, if_true, if_false]
theorem m_isSight (x : Int32) : jE n rX10_isSight 0 [.ref 111, .int x] [] I L = some (some (.int (inb x (I 111 20))), jS n I L) := by
  by_cases h1 : x < 0
  · rw [inb_f (fun q => absurd h1 (Int32.not_lt.mpr q.1))]
    simp only [eX10_isSight_0, eX10_isSight_4, eX10_isSight_12, eX10_isSight_16, eX10_isSight_17, h1, if_true]
  · by_cases h2 : I 111 20 ≤ x
    · rw [inb_f (fun q => absurd h2 (Int32.not_le.mpr q.2))]
      simp only [eX10_isSight_0, eX10_isSight_4, eX10_isSight_12, eX10_isSight_16, eX10_isSight_17, h1, h2, if_true, if_false]
    · rw [inb_t ⟨Int32.not_lt.mp h1, Int32.not_le.mp h2⟩]
      simp only [eX10_isSight_0, eX10_isSight_4, eX10_isSight_12, eX10_isSight_16, eX10_isSight_17, h1, h2, if_false]
theorem m_isTable (x : Int32) : jE n rX10_isTable 0 [.ref 111, .int x] [] I L = some (some (.int (inb x (I 111 29))), jS n I L) := by
  by_cases h1 : x < 0
  · rw [inb_f (fun q => absurd h1 (Int32.not_lt.mpr q.1))]
    simp only [eX10_isTable_0, eX10_isTable_4, eX10_isTable_12, eX10_isTable_16, eX10_isTable_17, h1, if_true]
  · by_cases h2 : I 111 29 ≤ x
    · rw [inb_f (fun q => absurd h2 (Int32.not_le.mpr q.2))]
      simp only [eX10_isTable_0, eX10_isTable_4, eX10_isTable_12, eX10_isTable_16, eX10_isTable_17, h1, h2, if_true, if_false]
    · rw [inb_t ⟨Int32.not_lt.mp h1, Int32.not_le.mp h2⟩]
      simp only [eX10_isTable_0, eX10_isTable_4, eX10_isTable_12, eX10_isTable_16, eX10_isTable_17, h1, h2, if_false]
theorem m_isHolder (x : Int32) : jE n rX10_isHolder 0 [.int x] [] I L = some (some (.int (inb x (nI 4))), jS n I L) := by
  by_cases h1 : x < 0
  · rw [inb_f (fun q => absurd h1 (Int32.not_lt.mpr q.1))]
    simp only [eX10_isHolder_0, eX10_isHolder_4, eX10_isHolder_9, eX10_isHolder_13, eX10_isHolder_14, h1, if_true]
  · by_cases h2 : nI 4 ≤ x
    · rw [inb_f (fun q => absurd h2 (Int32.not_le.mpr q.2))]
      simp only [eX10_isHolder_0, eX10_isHolder_4, eX10_isHolder_9, eX10_isHolder_13, eX10_isHolder_14, h1, h2, if_true, if_false]
    · rw [inb_t ⟨Int32.not_lt.mp h1, Int32.not_le.mp h2⟩]
      simp only [eX10_isHolder_0, eX10_isHolder_4, eX10_isHolder_9, eX10_isHolder_13, eX10_isHolder_14, h1, h2, if_false]
end H
theorem isIn_inb (x : Int32) {b : Nat} (hb : b + 1 < 2147483648) : (if nI 0 ≤ x ∧ x ≤ nI b then nI 1 else nI 0) = inb x (nI (b + 1)) := by
  unfold inb
  simp only [isIn_iff x hb]
/-! tool -/
theorem tool_k {n k h a ma : Nat} {lo hi : Int32} (hk : k < 4) {I : jm_I} {L : jm_L} (hI : Inv I) (hM : Mod I I) (i x : Int32) (hh : I 3 k = nI h) (h0 : I 4 k = lo) (h1 : I 5 k = hi) (hh7 : h < 7) (ha : 9 ≤ a ∧ a < 71) (hma : 111 ≤ ma)
    (hrow : ∀ J M, jE n rX6_rowOf 0 [.ref 21, .int (nI k)] [] J M = some (some (.ref a), jS n J M)) (hla : jLW n a = h) (hlm : jLW n ma = h)
    (hm1 : ∀ J, jE n rX10_tool 0 [.ref 111, .int (nI k), .int i, .int x, .null] [] J L = jB rX10_tool 38 [.ref 111, .int (nI k), .int i, .int x, .null] [] (some (some (.int (inb i (nI h))), jS n J L)))
    (hm2 : ∀ J, jE n rX10_tool 47 [.ref 111, .int (nI k), .int i, .int x, .null] [] J L = jE n rX10_tool 94 [.ref 111, .int (nI k), .int i, .int x, .null] [.int (zout x lo hi)] J L)
    (hm3 : ∀ J q, q < h → jE n rX10_tool 108 [.ref 111, .int (nI k), .int (nI q), .int x, .int 0] [] J L = some (some (.int (nI 1)), jS n (jm_u J ma q x) L))
    (hinv : ∀ q, q < h → zout x lo hi = 0 → invP a q x) (hmod : ∀ q, Mod (jm_u I ma q x) (jm_u I a q x)) :
    ∃ (v : Value) (I1 : jm_I) (L1 : jm_L) (I2 : jm_I) (L2 : jm_L), jE n rX9_tool 0 [.ref 9, .int (nI k), .int i, .int x, .null] [] I L = some (some v, jS n I1 L1) ∧ jE n rX10_tool 0 [.ref 111, .int (nI k), .int i, .int x, .null] [] I1 L1 = some (some v, jS n I2 L2) ∧ Inv I2 ∧ Mod I2 I2 := by
  have hw := nI_w hk (by decide)
  have c0 : jE n rX9_tool 0 [.ref 9, .int (nI k), .int i, .int x, .null] [] I L = jE n rX9_tool 58 [.ref 9, .int (nI k), .int i, .int x, .int (thn (inr i (nI h)) (zout x lo hi))] [] I L := by
    by_cases hi2 : 0 ≤ i ∧ i < nI h
    · simp [eX9_tool_0, eX9_tool_18, eX9_tool_30, eX9_tool_34, eX9_tool_35, h_isWithin, hw, jB_s, n10, jLI_t, jLW_t, jLL_t, jLZ_t, jLA_t, hk, hh, h0, h1, hi2, h_outside, h_thn, inr_t hi2, n00]
    · simp [eX9_tool_0, eX9_tool_18, eX9_tool_30, eX9_tool_34, eX9_tool_35, h_isWithin, hw, jB_s, n10, jLI_t, jLW_t, jLL_t, jLZ_t, jLA_t, hk, hh, h0, h1, hi2, h_outside, h_thn, inr_f hi2, n00]
  by_cases hi2 : 0 ≤ i ∧ i < nI h
  · obtain ⟨q, hq, e⟩ := ix (by omega) hi2
    subst e
    by_cases hz : zout x lo hi = 0
    · refine ⟨.int (nI 1), jm_u I a q x, L, jm_u (jm_u I a q x) ma q x, L, ?_, ?_, ?_⟩
      · rw [c0, inr_t hi2, thn_0, hz]
        simp [eX9_tool_35, eX9_tool_70, hrow, jB_s, hla, hq]
      · rw [hm1, inb_t hi2, jB_s]
        simp only [eX10_tool_35, n10, not_false_eq_true, if_true, hm2, hz]
        simp only [eX10_tool_94, if_true, hm3 _ q hq]
      · refine Op_fin (I := I) (J := jm_u I a q x) (M := jm_u I ma q x) (Inv_u hI (hinv q hq hz)) (hmod q) ?_ ?_
        · refine cls_m (Cls_rf _) hma
        · exact meq_u (meq_c (fun _ _ => rfl) (by omega))
    · have hr := isR_of (isZ_out x lo hi) hz
      refine Op_ref hI hM (.int (zout x lo hi)) (zout x lo hi) ?_ ?_
      · rw [c0, inr_t hi2, thn_0]
        simp [eX9_tool_35, eX9_tool_63, hz, h_refuse n I L _ hr, jB_s]
      · rw [hm1, inb_t hi2, jB_s]
        simp only [eX10_tool_35, n10, not_false_eq_true, if_true, hm2]
        simp only [eX10_tool_94, eX10_tool_101, hz, if_false, m_no n _ L _ hr, jB_s]
  · have e1 : ¬ (-1 : Int32) = 0 := by decide
    refine Op_ref hI hM (.int (-1)) (-1) ?_ ?_
    · rw [c0, inr_f hi2, thn_n e1]
      simp [eX9_tool_35, eX9_tool_63, h_refuse n I L (-1) (by simp [isR]), jB_s]
    · rw [hm1, inb_f hi2, jB_s]
      simp [eX10_tool_35, eX10_tool_41, n00, m_no n _ L (-1) (by simp [isR]), jB_s]
theorem op_tool (n : Nat) (w i x : Int32) : Op n rX9_tool rX10_tool [.ref 9, .int w, .int i, .int x, .null] [.ref 111, .int w, .int i, .int x, .null] := by
  intro I L hI hM
  have hs := st_at hI
  have i6 := isIn_inb i (b := 5) (by decide)
  have i4 := isIn_inb i (b := 3) (by decide)
  by_cases h : 0 ≤ w ∧ w < nI 4
  · obtain ⟨k, hk, e⟩ := ix (by decide) h
    subst e
    rcases (show k = 0 ∨ k = 1 ∨ k = 2 ∨ k = 3 by omega) with rfl | rfl | rfl | rfl
    · refine tool_k (h := 6) (a := 22) (ma := 121) (lo := -99) (hi := nI 99) hk hI hM i x ((hs 3 0 (by decide)).trans (by decide)) ((hs 4 0 (by decide)).trans (by decide)) ((hs 5 0 (by decide)).trans (by decide)) (by decide) (by decide) (by decide) (fun J M => ?_) rfl rfl (fun J => ?_) (fun J => ?_) (fun J q hq => ?_) (fun q hq hz => ?_) (fun q => Mod_121 hM q x)
      · simp (decide := true) [eX6_rowOf_0, eX6_rowOf_28, eX6_rowOf_33, eX6_rowOf_38, eX6_rowOf_43]
      · simp (decide := true) [eX10_tool_0, eX10_tool_12, eX10_tool_19, eX10_tool_26, eX10_tool_32, eX10_tool_52, eX10_tool_64, eX10_tool_69, eX10_tool_83, eX10_tool_94, eX10_tool_101, eX10_tool_108, eX10_tool_112, eX10_tool_119, eX10_tool_124, eX10_tool_131, eX10_tool_136, eX10_tool_143, eX10_tool_148, eX10_tool_155, eX10_tool_35, m_isIn, jB_s, n10, i6]
      · simp (decide := true) [eX10_tool_47, eX10_tool_64, eX10_tool_83, m_out1 n J L x (-99) (nI 99) (-99) (lN 99) (by decide) (by decide), jB_s]
      · simp (decide := true) [eX10_tool_108, eX10_tool_112, eX10_tool_119, eX10_tool_131, eX10_tool_143, eX10_tool_155, jLI_t, jLW_t, jLL_t, jLZ_t, jLA_t, hq]
      · have r := rg_out2 (a := -99) (by decide) (by decide) hz
        exact fun _ => r
    · refine tool_k (h := 4) (a := 23) (ma := 122) (lo := -99) (hi := nI 99) hk hI hM i x ((hs 3 1 (by decide)).trans (by decide)) ((hs 4 1 (by decide)).trans (by decide)) ((hs 5 1 (by decide)).trans (by decide)) (by decide) (by decide) (by decide) (fun J M => ?_) rfl rfl (fun J => ?_) (fun J => ?_) (fun J q hq => ?_) (fun q hq hz => ?_) (fun q => Mod_122 hM q x)
      · simp (decide := true) [eX6_rowOf_0, eX6_rowOf_28, eX6_rowOf_33, eX6_rowOf_38, eX6_rowOf_43]
      · simp (decide := true) [eX10_tool_0, eX10_tool_12, eX10_tool_19, eX10_tool_26, eX10_tool_32, eX10_tool_52, eX10_tool_64, eX10_tool_69, eX10_tool_83, eX10_tool_94, eX10_tool_101, eX10_tool_108, eX10_tool_112, eX10_tool_119, eX10_tool_124, eX10_tool_131, eX10_tool_136, eX10_tool_143, eX10_tool_148, eX10_tool_155, eX10_tool_35, m_isIn, jB_s, n10, i4]
      · simp (decide := true) [eX10_tool_47, eX10_tool_64, eX10_tool_83, m_out1 n J L x (-99) (nI 99) (-99) (lN 99) (by decide) (by decide), jB_s]
      · simp (decide := true) [eX10_tool_108, eX10_tool_119, eX10_tool_124, eX10_tool_131, eX10_tool_143, eX10_tool_155, jLI_t, jLW_t, jLL_t, jLZ_t, jLA_t, hq]
      · have r := rg_out2 (a := -99) (by decide) (by decide) hz
        exact fun _ => r
    · refine tool_k (h := 4) (a := 24) (ma := 123) (lo := nI 0) (hi := nI 999999999) hk hI hM i x ((hs 3 2 (by decide)).trans (by decide)) ((hs 4 2 (by decide)).trans (by decide)) ((hs 5 2 (by decide)).trans (by decide)) (by decide) (by decide) (by decide) (fun J M => ?_) rfl rfl (fun J => ?_) (fun J => ?_) (fun J q hq => ?_) (fun q hq hz => ?_) (fun q => Mod_123 hM q x)
      · simp (decide := true) [eX6_rowOf_0, eX6_rowOf_28, eX6_rowOf_33, eX6_rowOf_38, eX6_rowOf_43]
      · simp (decide := true) [eX10_tool_0, eX10_tool_12, eX10_tool_19, eX10_tool_26, eX10_tool_32, eX10_tool_52, eX10_tool_64, eX10_tool_69, eX10_tool_83, eX10_tool_94, eX10_tool_101, eX10_tool_108, eX10_tool_112, eX10_tool_119, eX10_tool_124, eX10_tool_131, eX10_tool_136, eX10_tool_143, eX10_tool_148, eX10_tool_155, eX10_tool_35, m_isIn, jB_s, n10, i4]
      · simp (decide := true) [eX10_tool_47, eX10_tool_52, m_out, jB_s]
      · simp (decide := true) [eX10_tool_108, eX10_tool_119, eX10_tool_131, eX10_tool_136, eX10_tool_143, eX10_tool_155, jLI_t, jLW_t, jLL_t, jLZ_t, jLA_t, hq]
      · have r := rg_out (by decide) (by decide) hz
        exact fun _ => r
    · refine tool_k (h := 4) (a := 25) (ma := 124) (lo := -43200) (hi := nI 43200) hk hI hM i x ((hs 3 3 (by decide)).trans (by decide)) ((hs 4 3 (by decide)).trans (by decide)) ((hs 5 3 (by decide)).trans (by decide)) (by decide) (by decide) (by decide) (fun J M => ?_) rfl rfl (fun J => ?_) (fun J => ?_) (fun J q hq => ?_) (fun q hq hz => ?_) (fun q => Mod_124 hM q x)
      · simp (decide := true) [eX6_rowOf_0, eX6_rowOf_28, eX6_rowOf_33, eX6_rowOf_38, eX6_rowOf_43]
      · simp (decide := true) [eX10_tool_0, eX10_tool_12, eX10_tool_19, eX10_tool_26, eX10_tool_32, eX10_tool_52, eX10_tool_64, eX10_tool_69, eX10_tool_83, eX10_tool_94, eX10_tool_101, eX10_tool_108, eX10_tool_112, eX10_tool_119, eX10_tool_124, eX10_tool_131, eX10_tool_136, eX10_tool_143, eX10_tool_148, eX10_tool_155, eX10_tool_35, m_isIn, jB_s, n10, i4]
      · simp (decide := true) [eX10_tool_47, eX10_tool_64, eX10_tool_69, m_out1 n J L x (-43200) (nI 43200) (-43200) (lN 43200) (by decide) (by decide), jB_s]
      · simp (decide := true) [eX10_tool_108, eX10_tool_119, eX10_tool_131, eX10_tool_143, eX10_tool_148, eX10_tool_155, jLI_t, jLW_t, jLL_t, jLZ_t, jLA_t, hq]
      · have r := rg_out2 (a := -43200) (by decide) (by decide) hz
        exact fun _ => r
  · have h3 : ¬ (0 ≤ w ∧ w ≤ nI 3) := fun q => h ((isIn_iff w (by decide)).mp q)
    refine Op_ref hI hM (.int (-2)) (-2) ?_ ?_
    · simp [eX9_tool_0, eX9_tool_11, h_isWithin, h, jB_s, n00, jLI_t, jLW_t, jLL_t, jLZ_t, jLA_t, h_refuse n I L (-2) (by simp [isR])]
    · simp [eX10_tool_0, eX10_tool_12, m_isIn, h3, jB_s, n00, m_no n _ L (-2) (by simp [isR])]
