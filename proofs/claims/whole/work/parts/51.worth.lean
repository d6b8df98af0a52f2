/-! worth -/
theorem kc_e {q i : Nat} (h : i = q) : kc q (i + 1) = kc q i := by
  subst h
  unfold kc
  rw [if_neg (by omega), if_pos (Nat.le_refl _)]
  omega
theorem kc_n {q i : Nat} (h : i ≠ q) : kc q (i + 1) = kc q i + 1 := by
  unfold kc
  by_cases h1 : i + 1 ≤ q
  · rw [if_pos h1, if_pos (by omega)]
  · rw [if_neg h1, if_neg (by omega)]
    omega
theorem kc_τ (A : jm_I) (t : Nat) {q i : Nat} (h : i ≠ q) : τw A t q (kc q i) = tt A t i := by
  unfold τw kc
  by_cases h1 : i ≤ q
  · rw [if_pos h1, if_pos (by omega)]
  · rw [if_neg h1, if_neg (by omega), show i - 1 + 1 = i by omega]
theorem kc_le (q i : Nat) : kc q i ≤ i := by unfold kc; split <;> omega
theorem m_worth_l (n : Nat) (K A : jm_I) (L : jm_L) (hA : Inv A) (hM : Mod K A) {t q : Nat} (ht : t < zT A) (hq3 : q < 3) (v3 v4 : Value) (v6 : Int32) (v7 : Int64) : ∀ (d i : Nat) (J : jm_I), i + d = tl A t → FrS J K → J 135 8 = nI (kc q i) → (∀ p, p < kc q i → J 134 (64 + p) = nI (τw A t q p)) → ∃ J' : jm_I, FrS J' K ∧ J' 135 8 = nI (kc q (tl A t)) ∧ (∀ p, p < kc q (tl A t) → J' 134 (64 + p) = nI (τw A t q p)) ∧ jE n rX10_worth 81 [.ref 111, .int (nI t), .int (nI q), v3, v4, .null, .int v6, .long v7, .null, .int (nI i)] [] J L = jE n rX10_worth 145 [.ref 111, .int (nI t), .int (nI q), v3, v4, .null, .int v6, .long v7, .null, .int (nI (tl A t))] [] J' L := by
  have h8 := (Inv_T hA).2
  have ht8 : t < 8 := by omega
  have ht9 : t < 9 := by omega
  have h3 := (Inv_tl hA ht8).2
  intro d
  induction d with
  | zero =>
    intro i J hi hS h1 h2
    have : i = tl A t := by omega
    subst this
    have e135 : J 135 t = nI (tl A t) := (hS.s4 t ht8).trans (Mod_tl hA hM ht)
    have cc : nI (tl A t) ≤ nI (tl A t) := Int32.le_refl _
    refine ⟨J, hS, h1, h2, ?_⟩
    simp only [eX10_worth_81, jLI_t, jLW_t, jLL_t, jLZ_t, jLA_t, ht9, e135, cc, if_true]
  | succ d ih =>
    intro i J hi hS h1 h2
    have hil : i < tl A t := by omega
    have e135 : J 135 t = nI (tl A t) := (hS.s4 t ht8).trans (Mod_tl hA hM ht)
    have cc : ¬ nI (tl A t) ≤ nI i := nI_ge hil (by omega)
    have hd0 : jE n rX10_worth 81 [.ref 111, .int (nI t), .int (nI q), v3, v4, .null, .int v6, .long v7, .null, .int (nI i)] [] J L = jE n rX10_worth 92 [.ref 111, .int (nI t), .int (nI q), v3, v4, .null, .int v6, .long v7, .null, .int (nI i)] [] J L := by
      simp only [eX10_worth_81, jLI_t, jLW_t, jLL_t, jLZ_t, jLA_t, ht9, e135, cc, if_false]
    rw [hd0]
    by_cases hq : i = q
    · obtain ⟨J', r1, r2, r3, r4⟩ := ih (i + 1) J (by omega) hS (by rw [kc_e hq]; exact h1) (by rw [kc_e hq]; exact h2)
      refine ⟨J', r1, r2, r3, ?_⟩
      subst hq
      simp only [eX10_worth_92, eX10_worth_98, eX10_worth_139, not_true_eq_false, if_false, nI_add]
      exact r4
    · have hn : ¬ nI i = nI q := fun w => hq ((nI_inj (by omega) (by omega)).mp w)
      have hk := kc_le q i
      have hx1 : 64 + kc q i < 72 := by omega
      have hx2 : 8 * t + i < 72 := by omega
      have h89 : (8 : Nat) < 9 := by decide
      have eu : ∀ k x, jm_u J 134 k x 135 = J 135 := fun k x => jm_u_ne _ _ _ (by decide)
      have ey : J 134 (8 * t + i) = nI (tt A t i) := (hS.s3 _ (by omega)).trans (Mod_tt hA hM ht hil)
      obtain ⟨J', r1, r2, r3, r4⟩ := ih (i + 1) (jm_u (jm_u J 134 (64 + kc q i) (nI (tt A t i))) 135 8 (nI (kc q i + 1))) (by omega) (by
        refine ⟨fun a ha => ?_, fun a p1 p2 p3 p4 p5 p6 => ?_, fun j p1 p2 => ?_, fun j hj => ?_, fun j hj => ?_⟩
        · rw [jm_u_ne _ _ _ (by omega), jm_u_ne _ _ _ (by omega)]; exact hS.s0 a ha
        · rw [jm_u_ne _ _ _ p3, jm_u_ne _ _ _ p2]; exact hS.s1 a p1 p2 p3 p4 p5 p6
        · rw [jm_u_ne _ _ _ (by decide), jm_u_ne _ _ _ (by decide)]; exact hS.s2 j p1 p2
        · rw [jm_u_ne _ _ _ (by decide), jm_u_eq, if_neg (by omega)]; exact hS.s3 j hj
        · rw [jm_u_eq, if_neg (by omega), eu]; exact hS.s4 j hj) (by
        rw [jm_u_eq, if_pos rfl, kc_n hq]) (by
        intro p hp
        rw [kc_n hq] at hp
        rw [jm_u_ne _ _ _ (by decide), jm_u_eq]
        by_cases e : p = kc q i
        · rw [if_pos (by omega), e, kc_τ A t hq]
        · rw [if_neg (by omega)]
          exact h2 p (by omega))
      refine ⟨J', r1, r2, r3, ?_⟩
      simp only [eX10_worth_92, eX10_worth_101, eX10_worth_139, hn, not_false_eq_true, if_true, jLI_t, jLW_t, jLL_t, jLZ_t, jLA_t, h89, h1, nI_add, pk_mul, hx2, hx1, ey, eu]
      exact r4
theorem isIn_l (w : Int32) {c : Nat} (hc : c ≤ 3) : (nI 0 ≤ w ∧ w ≤ nI c - nI 1) ↔ (0 ≤ w ∧ w < nI c) := by
  have e : nI c - nI 1 = iZ ((c : Int) - 1) := by rw [nI_iZ, show nI 1 = iZ 1 from rfl, iZ_sub]
  rw [e, Int32.le_iff_toInt_le, Int32.le_iff_toInt_le, Int32.le_iff_toInt_le, Int32.lt_iff_toInt_lt, iZ_i (by omega) (by omega), nI_toInt (show c < 2147483648 by omega), show (nI 0).toInt = 0 from by decide, show (0 : Int32).toInt = 0 from by decide]
  omega
theorem op_worth (n : Nat) (tb1 w m : Int32) (set : Int64) : Op n rX9_worth rX10_worth [.ref 9, .int tb1, .int w, .int m, .long set, .null, .null, .null, .null] [.ref 111, .int tb1, .int w, .int m, .long set, .null, .null, .null, .null, .null] := by
  intro I L hI hM
  obtain ⟨eT, hT⟩ := Inv_T hI
  have e1 : ¬ (-1 : Int32) = 0 := by decide
  by_cases ht : 0 ≤ tb1 ∧ tb1 < nI (zT I)
  · obtain ⟨t, ht2, et⟩ := ix (by omega) ht
    subst et
    have ht8 : t < 8 := by omega
    have ht9 : t < 9 := by omega
    obtain ⟨e37, h3⟩ := Inv_tl hI ht8
    have mI : ∀ (J : jm_I) (L : jm_L), Mod J I → jE n rX10_isIn 0 [.long w.toInt64, .null, .long (lN 0), .null, .long (nI (tl I t) - nI 1).toInt64, .null] [] J L = some (some (.int (if 0 ≤ w ∧ w < nI (tl I t) then nI 1 else nI 0)), jS n J L) := by
      intro J L _
      rw [m_isIn1 n J L w (nI 0) (nI (tl I t) - nI 1) (lN 0) (nI (tl I t) - nI 1).toInt64 (by decide) (toL_i _)]
      simp only [isIn_l w h3]
    by_cases hw : 0 ≤ w ∧ w < nI (tl I t)
    · by_cases hm : mo I 13 m
      · have c0 : jE n rX9_worth 0 [.ref 9, .int (nI t), .int w, .int m, .long set, .null, .null, .null, .null] [] I L = jE n rX9_worth 57 [.ref 9, .int (nI t), .int w, .int m, .long set, .null, .int (wset (zN I) set), .null, .null] [.int (wset (zN I) set)] I L := by
          simp [eX9_worth_0, eX9_worth_20, eX9_worth_42, h_noTable, h_noMoon, jB_s, h_thn, eT, inr_t ht, nmo_t hm, thn_0, jLI_t, jLW_t, jLL_t, jLZ_t, jLA_t, ht8, e37, h_isWithin, hw, n10, c_wrongSet n I L hI]
        by_cases hz : wset (zN I) set = 0
        · obtain ⟨a, ha, ea, -⟩ := mo_ix hm
          obtain ⟨q, hq, eq⟩ := ix (by omega) hw
          subst ea; subst eq
          obtain ⟨I1, L1, a1, a2, a3, a4, a5, a6⟩ := cF n I I L hI (fun _ _ => rfl) set ht8 ha
          obtain ⟨I2, L2, b1, b2, b3⟩ := c_fitted n I1 I L1 hI (Fr_E a1 (fun _ _ => rfl)) (w := q) (nI q) set ht8 ha (by omega) (fun j hj => nI_inj (by omega) (by omega))
          have b2' : Fitt I2 L2 t (kc q (tl I t)) (τw I t q) a (zG I (τw I t q) (kc q (tl I t)) a set) := b2
          have fC := FrC_t (FrC_F ht8 a1) (FrC_F ht8 b1)
          have hM1 := FrC_M hM fC
          have hk3 : kc q (tl I t) ≤ 3 := Nat.le_trans (kc_le _ _) h3
          have b5 := c_score n I2 I L2 (FrC_E fC) ht8 hk3 (fun x _ => by have := zG_rg hI (τw I t q) hk3 ha set x; omega) b2'
          obtain ⟨K, L3, mi, d1, d2, d3, d4, d5⟩ := mSc n I2 I L2 hI hM1 set ht2 ha
          have hMK : Mod K I := Mod_fr hI hM1 (FrM_S d1)
          have f0 : FrS (jm_u K 135 8 (nI 0)) K := by
            refine ⟨fun a ha => ?_, fun a p1 p2 p3 p4 p5 p6 => ?_, fun j p1 p2 => ?_, fun j hj => ?_, fun j hj => ?_⟩
            · rw [jm_u_ne _ _ _ (by omega)]
            · rw [jm_u_ne _ _ _ p3]
            · rw [jm_u_ne _ _ _ (by decide)]
            · rw [jm_u_ne _ _ _ (by decide)]
            · rw [jm_u_eq, if_neg (by omega)]
          have k0 : kc q 0 = 0 := by unfold kc; rw [if_pos (Nat.zero_le _)]
          obtain ⟨J', f1, f2, f3, f4⟩ := m_worth_l n K I L3 hI hMK (q := q) ht2 (by omega) (.int (nI a)) (.long set) 0 (lZ (fSc I t a set)) (tl I t) 0 (jm_u K 135 8 (nI 0)) (Nat.zero_add _) f0 (by rw [jm_u_eq, if_pos rfl, k0]) (by intro p hp; rw [k0] at hp; omega)
          have hMJ : Mod J' I := Mod_fr hI hMK f1
          have hTr : Trm J' 8 (kc q (tl I t)) (τw I t q) := ⟨by decide, hk3, f2, fun p hp => ⟨f3 p hp, by
            unfold τw
            have := kc_le q (tl I t)
            unfold kc at hp
            refine (Inv_tt hI ht8 ?_).2
            split at hp <;> split <;> omega⟩⟩
          obtain ⟨K2, L4, mi2, g1, g2, g3, g4, g5⟩ := m_score n J' I L3 hI hMJ set ha hTr
          refine ⟨.long (lZ (zG I (τw I t q) (kc q (tl I t)) a set (afit (zG I (τw I t q) (kc q (tl I t)) a set) (kc q (tl I t))) + zpr I (kc q (tl I t)) - fSc I t a set)), I2, L2, K2, L4, ?_, ?_, Op_scr hI hM fC (FrS_t (FrS_t (FrM_S d1) f1) (FrM_S g1))⟩
          · rw [c0, hz]
            simp [eX9_worth_42, eX9_worth_67, a3, jB_s, ht8, a5, b3, b5, lZ_sub]
          · have m0 : jE n rX10_worth 0 [.ref 111, .int (nI t), .int (nI q), .int (nI a), .long set, .null, .null, .null, .null, .null] [] I2 L2 = jE n rX10_worth 81 [.ref 111, .int (nI t), .int (nI q), .int (nI a), .long set, .null, .int 0, .long (lZ (fSc I t a set)), .null, .int (nI 0)] [] (jm_u K 135 8 (nI 0)) L3 := by
              simp [eX10_worth_0, eX10_worth_8, eX10_worth_26, eX10_worth_40, eX10_worth_60, m_isTable, M29 hI hM1, inb_t ht, jB_s, n10, jLI_t, jLW_t, jLL_t, jLZ_t, jLA_t, ht9, Mod_tl hI hM1 ht2, mI I2 L2 hM1, hw, m_isMoon, bmo_t ((Mod_mo hM1 _).mpr hm), m_notSet n I2 I L2 hI hM1, hz, d5]
            rw [m0, f4]
            simp only [eX10_worth_145, g5, jB_s, lZ_sub, show (nI 8 : Int32) = nI 8 from rfl]
        · have hr := isR_of (isZ_wset (zN I) set) hz
          refine Op_ref hI hM (.long (lr (wset (zN I) set))) (wset (zN I) set) ?_ ?_
          · rw [c0]
            simp [eX9_worth_42, eX9_worth_60, hz, h_refuseLong n I L _ hr, jB_s]
          · have hJ := Mod_ref hM (wset (zN I) set)
            simp [eX10_worth_0, eX10_worth_8, eX10_worth_26, eX10_worth_40, eX10_worth_53, m_isTable, M29 hI hJ, inb_t ht, jB_s, n10, jLI_t, jLW_t, jLL_t, jLZ_t, jLA_t, ht9, Mod_tl hI hJ ht2, mI _ L hJ, hw, m_isMoon, bmo_t ((Mod_mo hJ _).mpr hm), m_notSet n _ I L hI hJ, hz, m_noLong n _ L _ hr]
      · refine Op_ref hI hM (.long (lr (-1))) (-1) ?_ ?_
        · simp [eX9_worth_0, eX9_worth_42, eX9_worth_60, h_noTable, h_noMoon, jB_s, h_thn, eT, inr_t ht, nmo_f hm, thn_0, thn_n e1, c_wrongSet n I L hI, h_refuseLong n I L (-1) (by simp [isR])]
        · have hJ := Mod_ref hM (-1)
          simp [eX10_worth_0, eX10_worth_8, eX10_worth_26, eX10_worth_34, m_isTable, M29 hI hJ, inb_t ht, jB_s, n10, n00t, jLI_t, jLW_t, jLL_t, jLZ_t, jLA_t, ht9, Mod_tl hI hJ ht2, mI _ L hJ, hw, m_isMoon, bmo_f (fun q => hm ((Mod_mo hJ _).mp q)), m_noLong n _ L (-1) (by simp [isR])]
    · have c0 : jE n rX9_worth 0 [.ref 9, .int (nI t), .int w, .int m, .long set, .null, .null, .null, .null] [] I L = jE n rX9_worth 42 [.ref 9, .int (nI t), .int w, .int m, .long set, .null, .int (-1), .null, .null] [] I L := by
        by_cases hm : mo I 13 m
        · simp [eX9_worth_0, eX9_worth_20, eX9_worth_39, h_noTable, h_noMoon, jB_s, h_thn, eT, inr_t ht, nmo_t hm, thn_0, jLI_t, jLW_t, jLL_t, jLZ_t, jLA_t, ht8, e37, h_isWithin, hw, n00t]
        · simp [eX9_worth_0, h_noTable, h_noMoon, jB_s, h_thn, eT, inr_t ht, nmo_f hm, thn_0]
      refine Op_ref hI hM (.long (lr (-1))) (-1) ?_ ?_
      · rw [c0]
        simp [eX9_worth_42, eX9_worth_60, c_wrongSet n I L hI, jB_s, h_thn, thn_n e1, h_refuseLong n I L (-1) (by simp [isR])]
      · have hJ := Mod_ref hM (-1)
        simp [eX10_worth_0, eX10_worth_8, eX10_worth_34, m_isTable, M29 hI hJ, inb_t ht, jB_s, n10, n00t, jLI_t, jLW_t, jLL_t, jLZ_t, jLA_t, ht9, Mod_tl hI hJ ht2, mI _ L hJ, hw, m_noLong n _ L (-1) (by simp [isR])]
  · refine Op_ref hI hM (.long (lr (-1))) (-1) ?_ ?_
    · simp [eX9_worth_0, eX9_worth_42, eX9_worth_60, h_noTable, h_noMoon, jB_s, h_thn, eT, inr_f ht, thn_n e1, c_wrongSet n I L hI, h_refuseLong n I L (-1) (by simp [isR])]
    · have hJ := Mod_ref hM (-1)
      simp [eX10_worth_0, eX10_worth_34, m_isTable, M29 hI hJ, inb_f ht, jB_s, n00t, m_noLong n _ L (-1) (by simp [isR])]
