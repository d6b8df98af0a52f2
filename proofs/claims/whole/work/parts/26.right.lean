/-! sights put right -/
def ixc (A : jm_I) (a s : Nat) : Nat := (A a s).toInt.toNat
def zlean (A : jm_I) (s : Nat) : Int := (A 22 (ixc A 30 s)).toInt
def zoff (A : jm_I) (s : Nat) : Int := if A 29 s = nI 7 then (A 25 (ixc A 32 s)).toInt else 0
def zkind (A : jm_I) (s : Nat) : Int := if A 29 s = nI 2 then -(A 17 (ixc A 27 s)).toInt else if A 29 s = nI 3 then -20 else if A 29 s = nI 4 then 30 else if A 29 s = nI 6 then ((A 23 (ixc A 31 s)).toInt * ((A 33 s).toInt - (A 24 (ixc A 31 s)).toInt)).tdiv 86400 else 0
def zright (A : jm_I) (s : Nat) : Int := (A 33 s).toInt - zlean A s - zoff A s + zkind A s
theorem ixc_e {A : jm_I} {a s : Nat} {hi : Int} (h : rg (A a s) 0 hi) : A a s = nI (ixc A a s) ∧ (ixc A a s : Int) ≤ hi := by
  refine ⟨nI_of_rg h, ?_⟩
  unfold ixc
  have := h.1; have := h.2
  omega
theorem Inv_s {A : jm_I} (h : Inv A) {s : Nat} (hs : s < 40) : (A 27 s = nI (ixc A 27 s) ∧ ixc A 27 s < 4) ∧ (A 28 s = nI (ixc A 28 s) ∧ ixc A 28 s < 1000) ∧ (A 29 s = nI (ixc A 29 s) ∧ ixc A 29 s < 8) ∧ (A 30 s = nI (ixc A 30 s) ∧ ixc A 30 s < 6) ∧ (A 31 s = nI (ixc A 31 s) ∧ ixc A 31 s < 4) ∧ (A 32 s = nI (ixc A 32 s) ∧ ixc A 32 s < 4) := by
  have r1 : rg (A 27 s) 0 3 := h 27 s (by decide) hs
  have r2 : rg (A 28 s) 0 999 := h 28 s (by decide) hs
  have r3 : rg (A 29 s) 0 7 := h 29 s (by decide) hs
  have r4 : rg (A 30 s) 0 5 := h 30 s (by decide) hs
  have r5 : rg (A 31 s) 0 3 := h 31 s (by decide) hs
  have r6 : rg (A 32 s) 0 3 := h 32 s (by decide) hs
  have q1 := ixc_e r1; have q2 := ixc_e r2; have q3 := ixc_e r3; have q4 := ixc_e r4; have q5 := ixc_e r5; have q6 := ixc_e r6
  exact ⟨⟨q1.1, by omega⟩, ⟨q2.1, by omega⟩, ⟨q3.1, by omega⟩, ⟨q4.1, by omega⟩, ⟨q5.1, by omega⟩, ⟨q6.1, by omega⟩⟩
theorem zlean_rg {A : jm_I} (h : Inv A) {s : Nat} (hs : s < 40) : (zlean A s).natAbs ≤ 99 := by
  have r : rg (A 22 (ixc A 30 s)) (-99) 99 := h 22 _ (by decide) (Inv_s h hs).2.2.2.1.2
  unfold zlean
  have := r.1; have := r.2
  omega
theorem zoff_rg {A : jm_I} (h : Inv A) {s : Nat} (hs : s < 40) : (zoff A s).natAbs ≤ 43200 := by
  have r : rg (A 25 (ixc A 32 s)) (-43200) 43200 := h 25 _ (by decide) (Inv_s h hs).2.2.2.2.2.2
  unfold zoff
  have := r.1; have := r.2
  split <;> omega
theorem zsec_rg {A : jm_I} (h : Inv A) {s : Nat} (hs : s < 40) : rg (A 33 s) 0 1999999999 := h 33 s (by decide) hs
theorem zclk_b {A : jm_I} (h : Inv A) {s : Nat} (hs : s < 40) : ((A 23 (ixc A 31 s)).toInt * ((A 33 s).toInt - (A 24 (ixc A 31 s)).toInt)).natAbs ≤ 99 * 1999999999 := by
  have hc := (Inv_s h hs).2.2.2.2.1.2
  have r1 : rg (A 23 (ixc A 31 s)) (-99) 99 := h 23 _ (by decide) hc
  have r2 : rg (A 24 (ixc A 31 s)) 0 999999999 := h 24 _ (by decide) hc
  have r3 := zsec_rg h hs
  have := r1.1; have := r1.2; have := r2.1; have := r2.2; have := r3.1; have := r3.2
  exact mulb (by omega) (by omega)
theorem zkind_rg {A : jm_I} (h : Inv A) {s : Nat} (hs : s < 40) : (zkind A s).natAbs ≤ 2400000 := by
  have r : rg (A 17 (ixc A 27 s)) 0 9999 := h 17 _ (by decide) (Inv_s h hs).1.2
  have hb := zclk_b h hs
  have ht := tdiv_lt (r := (A 23 (ixc A 31 s)).toInt * ((A 33 s).toInt - (A 24 (ixc A 31 s)).toInt)) (y := 86400) (c := 2400000) (by decide) (by omega)
  unfold zkind
  have := r.1; have := r.2
  repeat' split
  all_goals omega
theorem zright_rg {A : jm_I} (h : Inv A) {s : Nat} (hs : s < 40) : (zright A s).natAbs ≤ 2010000000 := by
  have := zlean_rg h hs; have := zoff_rg h hs; have := zkind_rg h hs
  have r3 := zsec_rg h hs
  have := r3.1; have := r3.2
  unfold zright
  omega
section H
variable (n : Nat) (I : jm_I) (L : jm_L)
theorem c_leanOf (hI : Inv I) {s : Nat} (hs : s < 40) : jE n rX8_leanOf 0 [.ref 10, .int (nI s)] [] I L = some (some (.int (iZ (zlean I s))), jS n I L) := by
  obtain ⟨-, -, -, ⟨e, he⟩, -, -⟩ := Inv_s hI hs
  unfold zlean
  rw [iZ_toInt]
  generalize ixc I 30 s = x at e he
  simp only [eX8_leanOf_0, jLI_t, jLW_t, jLL_t, jLZ_t, jLA_t, hs, e, he]
theorem c_offsetOf (hI : Inv I) {s : Nat} (hs : s < 40) : jE n rX8_offsetOf 0 [.ref 10, .int (nI s)] [] I L = some (some (.int (iZ (zoff I s))), jS n I L) := by
  obtain ⟨-, -, -, -, -, ⟨e, he⟩⟩ := Inv_s hI hs
  unfold zoff
  generalize ixc I 32 s = x at e he
  by_cases h : I 29 s = nI 7
  · rw [if_pos h, iZ_toInt]
    simp only [eX8_offsetOf_0, eX8_offsetOf_14, eX8_offsetOf_34, eX8_offsetOf_35, jLI_t, jLW_t, jLL_t, jLZ_t, jLA_t, hs, e, he, h, not_true, if_false, if_true]
  · rw [if_neg h]
    simp only [eX8_offsetOf_0, eX8_offsetOf_14, eX8_offsetOf_34, eX8_offsetOf_35, jLI_t, jLW_t, jLL_t, jLZ_t, jLA_t, hs, h, not_false_eq_true, if_true, if_false]
    rfl
theorem c_kindOf (hI : Inv I) {s : Nat} (hs : s < 40) : jE n rX8_kindOf 0 [.ref 10, .int (nI s), .null] [] I L = some (some (.long (lZ (zkind I s))), jS n I L) := by
  have hb := zclk_b hI hs
  have hi := Inv_s hI hs
  obtain ⟨⟨e1, h1⟩, -, ⟨e3, h3⟩, -, ⟨e5, h5⟩, -⟩ := hi
  have r17 : rg (I 17 (ixc I 27 s)) 0 9999 := hI 17 _ (by decide) h1
  have r2 : rg (I 24 (ixc I 31 s)) 0 999999999 := hI 24 _ (by decide) h5
  have r33 := zsec_rg hI hs
  have el : (-I 17 (ixc I 27 s)).toInt64 = lZ (-(I 17 (ixc I 27 s)).toInt) := by
    have := r17.1; have := r17.2
    rw [i32 (I 17 (ixc I 27 s)), iZ_neg, iZ_toInt, iZ_l (by omega) (by omega)]
  have es : (I 33 s - I 24 (ixc I 31 s)).toInt64 = lZ ((I 33 s).toInt - (I 24 (ixc I 31 s)).toInt) := by
    have := r2.1; have := r2.2; have := r33.1; have := r33.2
    rw [i32 (I 33 s), i32 (I 24 (ixc I 31 s)), iZ_sub, iZ_toInt, iZ_toInt, iZ_l (by omega) (by omega)]
  have ed : lZ ((I 23 (ixc I 31 s)).toInt * ((I 33 s).toInt - (I 24 (ixc I 31 s)).toInt)) / lN 86400 = lZ (((I 23 (ixc I 31 s)).toInt * ((I 33 s).toInt - (I 24 (ixc I 31 s)).toInt)).tdiv 86400) := by
    rw [show lN 86400 = lZ 86400 from rfl]
    exact lZ_div ⟨by omega, by omega⟩ ⟨by decide, by decide⟩
  have nl : ¬ lN 86400 = 0 := by decide
  unfold zkind
  generalize ixc I 29 s = kk at e3 h3
  generalize ixc I 27 s = mm at *
  generalize ixc I 31 s = cc at *
  rcases (show kk = 0 ∨ kk = 1 ∨ kk = 2 ∨ kk = 3 ∨ kk = 4 ∨ kk = 5 ∨ kk = 6 ∨ kk = 7 by omega) with rfl | rfl | rfl | rfl | rfl | rfl | rfl | rfl
  all_goals simp (decide := true) [eX8_kindOf_0, eX8_kindOf_44, eX8_kindOf_64, eX8_kindOf_68, eX8_kindOf_72, eX8_kindOf_118, jLI_t, jLW_t, jLL_t, jLZ_t, jLA_t, hs, e3, e1, h1, el, e5, h5, es, lZ_mul, nl, ed, toL (I 23 cc)]
  all_goals rfl
theorem c_putRight (hI : Inv I) {s : Nat} (hs : s < 40) : jE n rX8_putRight 0 [.ref 10, .int (nI s)] [] I L = some (some (.long (lZ (zright I s))), jS n I L) := by
  have r33 := zsec_rg hI hs
  have q1 := zlean_rg hI hs
  have q2 := zoff_rg hI hs
  have ee : (I 33 s - iZ (zlean I s) - iZ (zoff I s)).toInt64 = lZ ((I 33 s).toInt - zlean I s - zoff I s) := by
    have := r33.1; have := r33.2
    rw [i32 (I 33 s), iZ_sub, iZ_sub, iZ_toInt, iZ_l (by omega) (by omega)]
  simp only [eX8_putRight_0, jLI_t, jLW_t, jLL_t, jLZ_t, jLA_t, hs, c_leanOf n I L hI hs, c_offsetOf n I L hI hs, c_kindOf n I L hI hs, jB_s, ee, lZ_add, zright]
end H
/-- put right but for leans (l = 0) or offsets (o = 0) -/
def zrightb (A : jm_I) (s : Nat) (l o : Int32) : Int := (A 33 s).toInt - (if l = 0 then 0 else zlean A s) + zkind A s - (if o = 0 then 0 else zoff A s)
theorem zrightb_1 (A : jm_I) (s : Nat) : zrightb A s (nI 1) (nI 1) = zright A s := by
  unfold zrightb zright
  rw [if_neg n10, if_neg n10]
  omega
theorem m_rightOf (n : Nat) (J A : jm_I) (L : jm_L) (hA : Inv A) (hM : Mod J A) {s : Nat} (hs : s < 40) (l o : Int32) : jE n rX10_rightOf 0 [.ref 111, .int (nI s), .int l, .int o, .null, .null] [] J L = some (some (.long (lZ (zrightb A s l o))), jS n J L) := by
  have hb := zclk_b hA hs
  have hi := Inv_s hA hs
  obtain ⟨⟨e1, h1⟩, -, ⟨e3, h3⟩, ⟨e4, h4⟩, ⟨e5, h5⟩, ⟨e6, h6⟩⟩ := hi
  have r2 : rg (A 24 (ixc A 31 s)) 0 999999999 := hA 24 _ (by decide) h5
  have r33 := zsec_rg hA hs
  have es : (A 33 s - A 24 (ixc A 31 s)).toInt64 = lZ ((A 33 s).toInt - (A 24 (ixc A 31 s)).toInt) := by
    have := r2.1; have := r2.2; have := r33.1; have := r33.2
    rw [i32 (A 33 s), i32 (A 24 (ixc A 31 s)), iZ_sub, iZ_toInt, iZ_toInt, iZ_l (by omega) (by omega)]
  have ed : lZ ((A 23 (ixc A 31 s)).toInt * ((A 33 s).toInt - (A 24 (ixc A 31 s)).toInt)) / lN 86400 = lZ (((A 23 (ixc A 31 s)).toInt * ((A 33 s).toInt - (A 24 (ixc A 31 s)).toInt)).tdiv 86400) := by
    rw [show lN 86400 = lZ 86400 from rfl]
    exact lZ_div ⟨by omega, by omega⟩ ⟨by decide, by decide⟩
  have nl : ¬ lN 86400 = 0 := by decide
  have l20 : lN 20 = lZ 20 := rfl
  have l30 : lN 30 = lZ 30 := rfl
  have f33 : J 131 s = A 33 s := hM.1 131 s hs
  have f30 : J 128 s = A 30 s := hM.1 128 s hs
  have f29 : J 127 s = A 29 s := hM.1 127 s hs
  have f27 : J 125 s = A 27 s := hM.1 125 s hs
  have f31 : J 129 s = A 31 s := hM.1 129 s hs
  have f32 : J 130 s = A 32 s := hM.1 130 s hs
  have f22 : J 121 (ixc A 30 s) = A 22 (ixc A 30 s) := hM.1 121 _ h4
  have f17 : J 116 (ixc A 27 s) = A 17 (ixc A 27 s) := hM.1 116 _ h1
  have f23 : J 122 (ixc A 31 s) = A 23 (ixc A 31 s) := hM.1 122 _ h5
  have f24 : J 123 (ixc A 31 s) = A 24 (ixc A 31 s) := hM.1 123 _ h5
  have f25 : J 124 (ixc A 32 s) = A 25 (ixc A 32 s) := hM.1 124 _ h6
  have e0 : jE n rX10_rightOf 0 [.ref 111, .int (nI s), .int l, .int o, .null, .null] [] J L = jE n rX10_rightOf 30 [.ref 111, .int (nI s), .int l, .int o, .long (lZ ((A 33 s).toInt - (if l = 0 then 0 else zlean A s))), .null] [] J L := by
    unfold zlean
    by_cases hl : l = 0
    · simp only [eX10_rightOf_0, jLI_t, jLW_t, jLL_t, jLZ_t, jLA_t, hs, f33, hl, if_true, toL, Int.sub_zero]
    · simp only [eX10_rightOf_0, eX10_rightOf_13, jLI_t, jLW_t, jLL_t, jLZ_t, jLA_t, hs, f33, hl, if_false, toL, f30, e4, h4, f22, lZ_sub]
  rw [e0]
  unfold zrightb
  generalize (A 33 s).toInt - (if l = 0 then 0 else zlean A s) = t
  unfold zkind zoff
  generalize ixc A 29 s = kk at e3 h3
  generalize ixc A 27 s = mm at *
  generalize ixc A 31 s = cc at *
  generalize ixc A 32 s = tt at *
  rcases (show kk = 0 ∨ kk = 1 ∨ kk = 2 ∨ kk = 3 ∨ kk = 4 ∨ kk = 5 ∨ kk = 6 ∨ kk = 7 by omega) with rfl | rfl | rfl | rfl | rfl | rfl | rfl | rfl
  all_goals by_cases ho : o = 0
  all_goals simp (decide := true) [eX10_rightOf_30, eX10_rightOf_76, eX10_rightOf_92, eX10_rightOf_99, eX10_rightOf_106, eX10_rightOf_146, eX10_rightOf_150, eX10_rightOf_168, eX10_rightOf_170, eX10_rightOf_171, jLI_t, jLW_t, jLL_t, jLZ_t, jLA_t, hs, f29, f27, f31, f32, f33, e3, e1, h1, e5, h5, e6, h6, f17, f23, f24, f25, es, lZ_mul, nl, ed, toL (A 23 cc), toL (A 17 mm), toL (A 25 tt), ho, l20, l30, lZ_add, lZ_sub]
  all_goals rw [Int.sub_eq_add_neg]
theorem op_right (n : Nat) (x : Int32) : Op n rX9_right rX10_right [.ref 9, .int x, .null] [.ref 111, .int x] := by
  intro I L hI hM
  obtain ⟨e8, hN⟩ := Inv_N hI
  have e1 : ¬ (-1 : Int32) = 0 := by decide
  have e3 : ¬ (-3 : Int32) = 0 := by decide
  have hJ : ∀ w : Int32, Mod (rf I (rz w)) I := fun w => Mod_congr (I := I) (A := I) (fun a ha => by unfold rf; rw [jm_u_ne _ _ _ (by omega)]) (Cls_rf I) hM
  have e20 : ∀ J, Mod J I → J 111 20 = nI (zN I) := fun J h => by rw [← e8]; exact (h.1 111 20).1 rfl
  by_cases h : 0 ≤ x ∧ x < I 26 8
  · have h' := h
    rw [e8] at h
    obtain ⟨s, hs, e⟩ := ix (by omega) h
    subst e
    have hs40 : s < 40 := by omega
    have ek : ∀ J, Mod J I → J 127 s = I 29 s := fun J h => h.1 127 s hs40
    by_cases h5 : I 29 s = nI 5
    · refine Op_ref hI hM (.long (lr (-3))) (-3) ?_ ?_
      · simp [eX9_right_0, eX9_right_18, eX9_right_26, eX9_right_34, h_noSight, h_cloudedSight n I L (nI s) s (zN I) hN e8 rfl hs, jB_s, h_thn, inr_t h', thn_0, h5, h_refuseLong n I L (-3) (by simp [isR])]
      · simp [eX10_right_0, eX10_right_8, eX10_right_14, eX10_right_24, eX10_right_33, eX10_right_40, m_isSight, e20 _ (hJ (-3)), inb_t h, jB_s, n10, jLI_t, jLW_t, jLL_t, jLZ_t, jLA_t, hs40, ek _ (hJ (-3)), h5, m_noLong n _ L (-3) (by simp [isR])]
    · refine ⟨.long (lZ (zright I s)), I, L, I, L, ?_, ?_, hI, hM⟩
      · simp [eX9_right_0, eX9_right_18, eX9_right_26, eX9_right_34, h_noSight, h_cloudedSight n I L (nI s) s (zN I) hN e8 rfl hs, jB_s, h_thn, inr_t h', thn_0, h5, c_putRight n I L hI hs40]
      · simp [eX10_right_0, eX10_right_8, eX10_right_14, eX10_right_24, eX10_right_33, eX10_right_40, m_isSight, e20 _ hM, inb_t h, jB_s, n10, jLI_t, jLW_t, jLL_t, jLZ_t, jLA_t, hs40, ek _ hM, h5, m_rightOf n I I L hI hM hs40, zrightb_1]
  · refine Op_ref hI hM (.long (lr (-1))) (-1) ?_ ?_
    · simp [eX9_right_0, eX9_right_18, eX9_right_26, eX9_right_34, h_noSight, h_cloudedSight_f n I L x h, jB_s, h_thn, inr_f h, thn_n e1, h_refuseLong n I L (-1) (by simp [isR])]
    · rw [e8] at h
      simp [eX10_right_0, eX10_right_8, eX10_right_14, eX10_right_24, eX10_right_33, eX10_right_40, m_isSight, e20 _ (hJ (-1)), inb_f h, jB_s, n00, m_noLong n _ L (-1) (by simp [isR])]
