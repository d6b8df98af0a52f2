def apW (w : Int32) : Int32 := if 0 ≤ w ∧ w < nI 4 then 0 else -2
def apT (w : Int32) : Int32 := if nI 2 ≤ w then nI 0 else nI 1
def apM (w : Int32) : Int32 := if nI 2 ≤ w then nI 6 else nI 4
def apX (w a b : Int32) : Int32 := if (0 ≤ a ∧ a < apM w) ∧ (0 ≤ b ∧ b < apM w) ∧ ¬ a = b then 0 else -1
theorem c_ap_a (n : Nat) (I : jm_I) (L : jm_L) (a b w : Int32) : jE n rX9_apart 0 [.ref 9, .int a, .int b, .int w, .null, .null, .null, .null] [] I L = jE n rX9_apart 76 [.ref 9, .int a, .int b, .int w, .int (thn (apW w) (apX w a b)), .int (apT w), .int (apM w), .null] [] I L := by
  have s1 : jE n rX9_apart 0 [.ref 9, .int a, .int b, .int w, .null, .null, .null, .null] [] I L = jE n rX9_apart 16 [.ref 9, .int a, .int b, .int w, .int (apW w), .null, .null, .null] [] I L := by
    unfold apW
    by_cases h : 0 ≤ w ∧ w < nI 4
    · simp only [eX9_apart_0, eX9_apart_8, eX9_apart_14, h_isWithin, h, and_self, if_true, jB_s, n10, if_false, n00]
    · simp only [eX9_apart_0, eX9_apart_12, eX9_apart_14, h_isWithin, h, if_false, jB_s, n00t, if_true]
  have s2 : jE n rX9_apart 16 [.ref 9, .int a, .int b, .int w, .int (apW w), .null, .null, .null] [] I L = jE n rX9_apart 41 [.ref 9, .int a, .int b, .int w, .int (apW w), .int (apT w), .int (apM w), .null] [] I L := by
    unfold apT apM
    by_cases h : nI 2 ≤ w
    · simp only [eX9_apart_14, eX9_apart_25, eX9_apart_26, eX9_apart_37, eX9_apart_39, h, if_true, n00t]
    · simp only [eX9_apart_14, eX9_apart_21, eX9_apart_26, eX9_apart_33, eX9_apart_39, h, if_false, n10]
  rw [s1, s2]
  unfold apX
  by_cases h1 : 0 ≤ a ∧ a < apM w
  · by_cases h2 : 0 ≤ b ∧ b < apM w
    · by_cases h3 : a = b
      · subst h3
        simp [eX9_apart_39, eX9_apart_52, eX9_apart_61, eX9_apart_70, eX9_apart_71, h_isWithin, h1, jB_s, n10, h_thn]
      · simp [eX9_apart_39, eX9_apart_52, eX9_apart_61, eX9_apart_66, eX9_apart_71, h_isWithin, h1, h2, h3, jB_s, n10, h_thn, n00]
    · simp [eX9_apart_39, eX9_apart_52, eX9_apart_70, eX9_apart_71, h_isWithin, h1, h2, jB_s, n10, n00t, h_thn]
  · simp [eX9_apart_39, eX9_apart_70, eX9_apart_71, h_isWithin, h1, jB_s, n00t, h_thn]
theorem m_ap_a (n : Nat) (J : jm_I) (L : jm_L) (a b w : Int32) (hw : 0 ≤ w ∧ w < nI 4) : jE n rX10_apart 0 [.ref 111, .int a, .int b, .int w, .null, .null, .null, .null, .null, .null, .null, .null, .null, .null, .null] [] J L = if apX w a b = 0 then jE n rX10_apart 88 [.ref 111, .int a, .int b, .int w, .int (apT w), .null, .null, .null, .null, .null, .null, .null, .null, .null, .null] [] J L else jE n rX10_apart 82 [.ref 111, .int a, .int b, .int w, .int (apT w), .null, .null, .null, .null, .null, .null, .null, .null, .null, .null] [] J L := by
  have h3 : 0 ≤ w ∧ w ≤ nI 3 := (isIn_iff w (by decide)).mpr hw
  have s1 : jE n rX10_apart 0 [.ref 111, .int a, .int b, .int w, .null, .null, .null, .null, .null, .null, .null, .null, .null, .null, .null] [] J L = jE n rX10_apart 31 [.ref 111, .int a, .int b, .int w, .int (apT w), .null, .null, .null, .null, .null, .null, .null, .null, .null, .null] [] J L := by
    unfold apT
    by_cases h : nI 2 ≤ w
    · simp [eX10_apart_0, eX10_apart_19, eX10_apart_28, eX10_apart_29, m_isIn, h3, jB_s, n10, n00, h]
    · simp [eX10_apart_0, eX10_apart_19, eX10_apart_24, eX10_apart_29, m_isIn, h3, jB_s, n10, n00, h]
  rw [s1]
  have i6a := isIn_iff a (b := 5) (by decide)
  have i6b := isIn_iff b (b := 5) (by decide)
  have i4a := isIn_iff a (b := 3) (by decide)
  have i4b := isIn_iff b (b := 3) (by decide)
  have e1 : ¬ (-1 : Int32) = 0 := by decide
  unfold apX
  by_cases ht : nI 2 ≤ w
  · have eT : apT w = nI 0 := by rw [apT, if_pos ht]
    have eM : apM w = nI (5 + 1) := by rw [apM, if_pos ht]
    rw [eT, eM]
    by_cases h1 : 0 ≤ a ∧ a < nI (5 + 1)
    · by_cases h2 : 0 ≤ b ∧ b < nI (5 + 1)
      · by_cases h4 : a = b
        · have n1 : ¬ ((0 ≤ a ∧ a < nI (5 + 1)) ∧ (0 ≤ b ∧ b < nI (5 + 1)) ∧ ¬ a = b) := fun q => q.2.2 h4
          rw [if_neg n1, if_neg e1]
          simp only [eX10_apart_29, eX10_apart_45, eX10_apart_48, eX10_apart_54, eX10_apart_68, eX10_apart_71, eX10_apart_77, n00t, if_true, m_isIn n J L _ 0 5 (by decide) (by decide), i6a, i6b, h1, h2, and_self, jB_s, n10, if_false, h4, not_true]
        · have n1 : (0 ≤ a ∧ a < nI (5 + 1)) ∧ (0 ≤ b ∧ b < nI (5 + 1)) ∧ ¬ a = b := ⟨h1, h2, h4⟩
          rw [if_pos n1, if_pos rfl]
          simp only [eX10_apart_29, eX10_apart_45, eX10_apart_48, eX10_apart_54, eX10_apart_68, eX10_apart_71, eX10_apart_77, n00t, if_true, m_isIn n J L _ 0 5 (by decide) (by decide), i6a, i6b, h1, h2, and_self, jB_s, n10, if_false, h4, not_false_eq_true]
      · have n1 : ¬ ((0 ≤ a ∧ a < nI (5 + 1)) ∧ (0 ≤ b ∧ b < nI (5 + 1)) ∧ ¬ a = b) := fun q => h2 q.2.1
        rw [if_neg n1, if_neg e1]
        simp only [eX10_apart_29, eX10_apart_45, eX10_apart_48, eX10_apart_54, eX10_apart_68, eX10_apart_71, n00t, if_true, m_isIn n J L _ 0 5 (by decide) (by decide), i6a, i6b, h1, h2, and_self, jB_s, n10, if_false]
    · have n1 : ¬ ((0 ≤ a ∧ a < nI (5 + 1)) ∧ (0 ≤ b ∧ b < nI (5 + 1)) ∧ ¬ a = b) := fun q => h1 q.1
      rw [if_neg n1, if_neg e1]
      simp only [eX10_apart_29, eX10_apart_45, eX10_apart_48, n00t, if_true, m_isIn n J L _ 0 5 (by decide) (by decide), i6a, h1, jB_s, if_false]
  · have eT : apT w = nI 1 := by rw [apT, if_neg ht]
    have eM : apM w = nI (3 + 1) := by rw [apM, if_neg ht]
    rw [eT, eM]
    by_cases h1 : 0 ≤ a ∧ a < nI (3 + 1)
    · by_cases h2 : 0 ≤ b ∧ b < nI (3 + 1)
      · by_cases h4 : a = b
        · have n1 : ¬ ((0 ≤ a ∧ a < nI (3 + 1)) ∧ (0 ≤ b ∧ b < nI (3 + 1)) ∧ ¬ a = b) := fun q => q.2.2 h4
          rw [if_neg n1, if_neg e1]
          simp only [eX10_apart_29, eX10_apart_39, eX10_apart_48, eX10_apart_54, eX10_apart_62, eX10_apart_71, eX10_apart_77, n00t, if_true, m_isIn n J L _ 0 3 (by decide) (by decide), i4a, i4b, h1, h2, and_self, jB_s, n10, if_false, h4, not_true]
        · have n1 : (0 ≤ a ∧ a < nI (3 + 1)) ∧ (0 ≤ b ∧ b < nI (3 + 1)) ∧ ¬ a = b := ⟨h1, h2, h4⟩
          rw [if_pos n1, if_pos rfl]
          simp only [eX10_apart_29, eX10_apart_39, eX10_apart_48, eX10_apart_54, eX10_apart_62, eX10_apart_71, eX10_apart_77, n00t, if_true, m_isIn n J L _ 0 3 (by decide) (by decide), i4a, i4b, h1, h2, and_self, jB_s, n10, if_false, h4, not_false_eq_true]
      · have n1 : ¬ ((0 ≤ a ∧ a < nI (3 + 1)) ∧ (0 ≤ b ∧ b < nI (3 + 1)) ∧ ¬ a = b) := fun q => h2 q.2.1
        rw [if_neg n1, if_neg e1]
        simp only [eX10_apart_29, eX10_apart_39, eX10_apart_48, eX10_apart_54, eX10_apart_62, eX10_apart_71, n00t, if_true, m_isIn n J L _ 0 3 (by decide) (by decide), i4a, i4b, h1, h2, and_self, jB_s, n10, if_false]
    · have n1 : ¬ ((0 ≤ a ∧ a < nI (3 + 1)) ∧ (0 ≤ b ∧ b < nI (3 + 1)) ∧ ¬ a = b) := fun q => h1 q.1
      rw [if_neg n1, if_neg e1]
      simp only [eX10_apart_29, eX10_apart_39, eX10_apart_48, n00t, if_true, m_isIn n J L _ 0 3 (by decide) (by decide), i4a, h1, jB_s, n10, if_false]
theorem op_apart (n : Nat) (a b w : Int32) : Op n rX9_apart rX10_apart [.ref 9, .int a, .int b, .int w, .null, .null, .null, .null] [.ref 111, .int a, .int b, .int w, .null, .null, .null, .null, .null, .null, .null, .null, .null, .null, .null] := by
  intro I L hI hM
  have e1 : ¬ (-1 : Int32) = 0 := by decide
  have e2 : ¬ (-2 : Int32) = 0 := by decide
  have hR : ∀ z : Int32, Mod (rf I (rz z)) I := fun z => Mod_congr (I := I) (A := I) (fun a ha => by unfold rf; rw [jm_u_ne _ _ _ (by omega)]) (Cls_rf I) hM
  by_cases hw : 0 ≤ w ∧ w < nI 4
  · have eW : apW w = 0 := by rw [apW, if_pos hw]
    by_cases hx : apX w a b = 0
    · cases hF0 : fO (zN I) (pr I (apT w) a b) (pv I (apT w)) (zN I) with
      | none =>
        refine Op_ref hI hM (.long (lr (-3))) (-3) ?_ ?_
        · rw [c_ap_a, eW, thn_0, hx]
          simp [eX9_apart_71, eX9_apart_81, eX9_apart_95, eX9_apart_99, eX9_apart_104, c_hasPair n I L hI, hF0, jB_s, n00t, h_refuseLong n I L (-3) (by simp [isR])]
        · obtain ⟨w10, w11, w12, w13, w14, h⟩ := m_ap_o n (rf I (rz (-3))) I L hI (hR (-3)) (apT w) a b (.int w) (zN I) 0 .null .null .null .null (Nat.zero_add _)
          rw [m_ap_a _ _ _ _ _ _ hw, if_pos hx]
          simp only [eX10_apart_88]
          refine h.trans ?_
          rw [hF0]
          simp only [eX10_apart_347, eX10_apart_352, eX10_apart_374, aF, n00t, not_true, if_false, m_noLong n _ L (-3) (by simp [isR]), jB_s]
      | some y =>
        have hn : ¬ fO (zN I) (pr I (apT w) a b) (nv I (apT w)) (zN I) = none := fun q => by
          have := (fO_n (v := pv I (apT w)) (zN I)).mpr q
          rw [hF0] at this
          cases this
        cases hF1 : fO (zN I) (pr I (apT w) a b) (nv I (apT w)) (zN I) with
        | none => exact absurd hF1 hn
        | some y' =>
          have hT : fO (zN I) (pr I (apT w) b a) (pv I (apT w)) (zN I) = some y' := by
            rw [← hF1]
            exact fO_T (zN I) (pr I (apT w) a b) (pr I (apT w) b a) (nv I (apT w)) (pv I (apT w)) (fun s r => pr_T I (apT w) a b s r) (fun s r => by unfold nv pv; omega)
          obtain ⟨w10, w11, w12, w13, w14, h⟩ := m_ap_o n I I L hI hM (apT w) a b (.int w) (zN I) 0 .null .null .null .null (Nat.zero_add _)
          obtain ⟨k, hk, ek⟩ := ix (by decide) hw
          have c0 : jE n rX9_apart 0 [.ref 9, .int a, .int b, .int w, .null, .null, .null, .null] [] I L = jE n rX9_apart 111 [.ref 9, .int a, .int b, .int w, .int 0, .int (apT w), .int (apM w), .null] [] I L := by
            rw [c_ap_a, eW, thn_0, hx]
            simp [eX9_apart_71, eX9_apart_81, eX9_apart_99, c_hasPair n I L hI, hF0, jB_s, n10]
          have m0 : jE n rX10_apart 0 [.ref 111, .int a, .int b, .int w, .null, .null, .null, .null, .null, .null, .null, .null, .null, .null, .null] [] I L = jE n rX10_apart 361 [.ref 111, .int a, .int b, .int w, .int (apT w), .int (nI 1), .long (lZ y), .null, .long (lZ (-y')), .null, w10, w11, w12, w13, w14] [] I L := by
            rw [m_ap_a _ _ _ _ _ _ hw, if_pos hx]
            simp only [eX10_apart_88]
            refine h.trans ?_
            rw [hF0, hF1]
            simp only [eX10_apart_347, aF, n10, not_false_eq_true, if_true, lF, hF]
          have ng : -lZ y' = lZ (-y') := lZ_neg y'
          have nz2 : ¬ nI 2 = 0 := by decide
          by_cases hg : w = nI 1 ∨ w = nI 3
          · refine ⟨.long (lZ (-y')), I, L, I, L, ?_, ?_, hI, hM⟩
            · rw [c0]
              rcases hg with rfl | rfl
              · simp (decide := true) [eX9_apart_111, eX9_apart_116, eX9_apart_121, eX9_apart_126, eX9_apart_133, eX9_apart_159, c_least n I L hI, hT, mL, jB_s, n10, ng]
              · simp (decide := true) [eX9_apart_111, eX9_apart_116, eX9_apart_121, eX9_apart_126, eX9_apart_133, eX9_apart_159, c_least n I L hI, hT, mL, jB_s, n10, ng]
            · rw [m0]
              rcases hg with rfl | rfl
              · simp (decide := true) [eX10_apart_361, eX10_apart_372, eX10_apart_374]
              · simp (decide := true) [eX10_apart_361, eX10_apart_372, eX10_apart_374]
          · refine ⟨.long (lZ y), I, L, I, L, ?_, ?_, hI, hM⟩
            · rw [c0]
              have g1 : ¬ w = nI 1 := fun q => hg (Or.inl q)
              have g2 : ¬ w = nI 3 := fun q => hg (Or.inr q)
              simp [eX9_apart_111, eX9_apart_116, eX9_apart_125, eX9_apart_126, eX9_apart_148, eX9_apart_159, g1, g2, n00t, c_least n I L hI, hF0, mL, jB_s]
            · rw [m0]
              subst ek
              rcases (show k = 0 ∨ k = 1 ∨ k = 2 ∨ k = 3 by omega) with rfl | rfl | rfl | rfl
              · simp (decide := true) [eX10_apart_361, eX10_apart_367, eX10_apart_374]
              · exact absurd (Or.inl rfl) hg
              · simp (decide := true) [eX10_apart_361, eX10_apart_367, eX10_apart_374]
              · exact absurd (Or.inr rfl) hg
    · have hx1 : apX w a b = -1 := by
        unfold apX at hx ⊢
        split at hx
        · exact absurd rfl hx
        · rename_i q; rw [if_neg q]
      refine Op_ref hI hM (.long (lr (-1))) (-1) ?_ ?_
      · rw [c_ap_a, eW, thn_0, hx1]
        simp [eX9_apart_71, eX9_apart_99, eX9_apart_104, h_refuseLong n I L (-1) (by simp [isR]), jB_s]
      · rw [m_ap_a _ _ _ _ _ _ hw, if_neg hx]
        simp [eX10_apart_82, m_noLong n _ L (-1) (by simp [isR]), jB_s]
  · have eW : apW w = -2 := by rw [apW, if_neg hw]
    have h3 : ¬ (0 ≤ w ∧ w ≤ nI 3) := fun q => hw ((isIn_iff w (by decide)).mp q)
    refine Op_ref hI hM (.long (lr (-2))) (-2) ?_ ?_
    · rw [c_ap_a, eW, thn_n e2]
      simp [eX9_apart_71, eX9_apart_99, eX9_apart_104, h_refuseLong n I L (-2) (by simp [isR]), jB_s]
    · simp [eX10_apart_0, eX10_apart_12, m_isIn, h3, jB_s, n00, m_noLong n _ L (-2) (by simp [isR])]
