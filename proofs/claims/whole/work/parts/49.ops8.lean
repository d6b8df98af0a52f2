/-! calls that use the scratch rows -/
def FrC (I1 I : jm_I) : Prop := ∀ a, a < 71 ∨ 111 ≤ a → I1 a = I a
theorem FrC_0 (I : jm_I) : FrC I I := fun _ _ => rfl
theorem FrC_t {I J K : jm_I} (h : FrC J I) (g : FrC K J) : FrC K I := fun a ha => (g a ha).trans (h a ha)
theorem FrC_E {I1 I : jm_I} (h : FrC I1 I) : E71 I1 I := fun a ha => h a (Or.inl ha)
theorem FrC_F {t : Nat} {I1 I : jm_I} {L1 L : jm_L} (ht : t < 8) (h : Fr t I1 I L1 L) : FrC I1 I := fun a ha => h.fi a (by unfold fB; omega) (by unfold fH; omega) (by unfold fT; omega)
theorem FrC_M {I1 I : jm_I} (hM : Mod I I) (h : FrC I1 I) : Mod I1 I := Mod_congr (I := I) (A := I) (fun a ha => h a (Or.inr ha)) (Cls_rf I) hM
theorem Op_scr {I I1 K : jm_I} (hI : Inv I) (hM : Mod I I) (h1 : FrC I1 I) (h2 : FrS K I1) : Inv K ∧ Mod K K := by
  have c : Cls K I := ⟨fun a ha => (h2.s0 a (by omega)).trans (h1 a (by omega)), by rw [h2.s0 66 (by decide), h1 66 (by decide)]⟩
  exact ⟨Inv_congr c hI, Mod_congr (fun _ _ => rfl) c (Mod_fr hI (FrC_M hM h1) h2)⟩
/-! a table's fit -/
def fτ (A : jm_I) (t : Nat) : Nat → Nat := τw A t 3
def fc (A : jm_I) (t : Nat) : Nat := kc 3 (tl A t)
def fG (A : jm_I) (t m : Nat) (set : Int64) : Nat → Int := zG A (fτ A t) (fc A t) m set
def fν (A : jm_I) (t m : Nat) (set : Int64) : Nat := nrv (fc A t) (afit (fG A t m set) (fc A t)) (fc A t)
def fSm (A : jm_I) (t m : Nat) (set : Int64) : Int := fG A t m set (afit (fG A t m set) (fc A t))
def fSc (A : jm_I) (t m : Nat) (set : Int64) : Int := fSm A t m set + zpr A (fc A t)
theorem fc_e {A : jm_I} (h : Inv A) {t : Nat} (ht : t < 8) : fc A t = tl A t ∧ fc A t ≤ 3 := by
  have h3 := (Inv_tl h ht).2
  unfold fc kc
  rw [if_pos h3]
  exact ⟨rfl, h3⟩
theorem fν_rg {A : jm_I} (h : Inv A) {t : Nat} (ht : t < 8) (m : Nat) (set : Int64) : fν A t m set < 343 := nrv_rg _ _ _ (fc_e h ht).2
theorem w3 : ∀ j, j < 3 → (nI j = (-1 : Int32) ↔ j = 3) := by
  intro j hj
  constructor
  · intro q
    have := congrArg Int32.toInt q
    rw [nI_toInt (by omega), show (-1 : Int32).toInt = -1 from by decide] at this
    omega
  · intro q; omega
theorem fG_b {A : jm_I} (h : Inv A) {t m : Nat} (ht : t < 8) (hm : m < 4) (set : Int64) : ∀ x, x < 7 ^ fc A t → (fG A t m set x).natAbs < 9000000000000000000 := fun x _ => by
  have := zG_rg h (fτ A t) (fc_e h ht).2 hm set x
  unfold fG
  omega
/-- the class's fit of a table -/
theorem cF (n : Nat) (I A : jm_I) (L : jm_L) (hA : Inv A) (hE : E71 I A) {t m : Nat} (set : Int64) (ht : t < 8) (hm : m < 4) : ∃ (I' : jm_I) (L' : jm_L), Fr t I' I L' L ∧ Fitt I' L' t (fc A t) (fτ A t) m (fG A t m set) ∧ jE n rX1_fitted 0 [.ref 71, .int (nI t), .int (-1), .int (nI m), .long set, .null, .null] [] I L = some (some (.ref (fB t)), jS n I' L') ∧ jE n rX0_fitNumbers 0 [.ref (fB t), .null, .null, .null] [] I' L' = some (some (.int (nI (fν A t m set))), jS n I' L') ∧ jE n rX0_score 0 [.ref (fB t)] [] I' L' = some (some (.long (lZ (fSc A t m set))), jS n I' L') ∧ jE n rX0_leastSum 0 [.ref (fB t)] [] I' L' = some (some (.long (lZ (fSm A t m set))), jS n I' L') := by
  obtain ⟨I', L', a1, a2, a3⟩ := c_fitted n I A L hA hE (w := 3) (-1) set ht hm (Nat.le_refl _) w3
  have a2' : Fitt I' L' t (fc A t) (fτ A t) m (fG A t m set) := a2
  have hE' := Fr_E a1 hE
  have hc := (fc_e hA ht).2
  exact ⟨I', L', a1, a2', a3, c_fitNumbers n I' A L' hA hE' ht hc (fG_b hA ht hm set) a2', c_score n I' A L' hE' ht hc (fG_b hA ht hm set) a2', c_leastSum n I' L' ht hc (fG_b hA ht hm set) a2'⟩
theorem Trm_w {J A : jm_I} (hA : Inv A) (hM : Mod J A) {t : Nat} (ht : t < zT A) : Trm J t (fc A t) (fτ A t) := by
  have h8 := (Inv_T hA).2
  obtain ⟨e, h3⟩ := fc_e hA (show t < 8 by omega)
  refine ⟨by omega, h3, ?_, fun q hq => ?_⟩
  · rw [e]; exact Mod_tl hA hM ht
  · have : fτ A t q = tt A t q := by unfold fτ τw; rw [if_pos (by omega)]
    rw [this]
    exact ⟨Mod_tt hA hM ht (by omega), (Inv_tt hA (by omega) (by omega)).2⟩
theorem mF (n : Nat) (J A : jm_I) (L : jm_L) (hA : Inv A) (hM : Mod J A) {t m : Nat} (set : Int64) (ht : t < zT A) (hm : m < 4) : ∃ (K : jm_I) (L' : jm_L) (mi : Nat → Nat), FrM K J ∧ Mine K A m set mi ∧ K 111 36 = nI (fν A t m set) ∧ L' 111 37 = lZ (fSm A t m set) ∧ jE n rX10_findFit 0 [.ref 111, .int (nI t), .int (nI m), .long set, .null, .null, .null, .null, .null, .null] [] J L = some (none, jS n K L') := m_findFit n J A L hA hM set hm (Trm_w hA hM ht)
theorem mSc (n : Nat) (J A : jm_I) (L : jm_L) (hA : Inv A) (hM : Mod J A) {t m : Nat} (set : Int64) (ht : t < zT A) (hm : m < 4) : ∃ (K : jm_I) (L' : jm_L) (mi : Nat → Nat), FrM K J ∧ Mine K A m set mi ∧ K 111 36 = nI (fν A t m set) ∧ L' 111 37 = lZ (fSm A t m set) ∧ jE n rX10_score 0 [.ref 111, .int (nI t), .int (nI m), .long set, .null] [] J L = some (some (.long (lZ (fSc A t m set))), jS n K L') := m_score n J A L hA hM set hm (Trm_w hA hM ht)
theorem Mod_ref {I : jm_I} (hM : Mod I I) (z : Int32) : Mod (rf I (rz z)) I := Mod_congr (I := I) (A := I) (fun a ha => by unfold rf; rw [jm_u_ne _ _ _ (by omega)]) (Cls_rf I) hM
theorem M29 {J A : jm_I} (hA : Inv A) (h : Mod J A) : J 111 29 = nI (zT A) := by rw [← (Inv_T hA).1]; exact (h.1 111 29).2 rfl
theorem M20 {J A : jm_I} (hA : Inv A) (h : Mod J A) : J 111 20 = nI (zN A) := by rw [← (Inv_N hA).1]; exact (h.1 111 20).1 rfl
def w02 (w : Int32) : Int32 := if 0 ≤ w ∧ w < nI 3 then 0 else -2
theorem op_fit (n : Nat) (tb1 m w : Int32) (set : Int64) : Op n rX9_fit rX10_fit [.ref 9, .int tb1, .int m, .long set, .null, .int w, .null, .null] [.ref 111, .int tb1, .int m, .long set, .null, .int w, .null, .null, .null] := by
  intro I L hI hM
  obtain ⟨eT, hT⟩ := Inv_T hI
  have e1 : ¬ (-1 : Int32) = 0 := by decide
  have e2 : ¬ (-2 : Int32) = 0 := by decide
  have iw := isIn_iff w (b := 2) (by decide)
  have c0 : jE n rX9_fit 0 [.ref 9, .int tb1, .int m, .long set, .null, .int w, .null, .null] [] I L = jE n rX9_fit 49 [.ref 9, .int tb1, .int m, .long set, .null, .int w, .int (thn (inr tb1 (nI (zT I))) (thn (nmo I 13 m) (thn (w02 w) (wset (zN I) set)))), .null] [] I L := by
    unfold w02
    by_cases h : 0 ≤ w ∧ w < nI 3
    · simp only [eX9_fit_0, eX9_fit_26, eX9_fit_32, h_noTable, h_noMoon, jB_s, h_thn, thn_as, eT, h_isWithin, h, and_self, if_true, n10, if_false, c_wrongSet n I L hI, n00]
    · simp only [eX9_fit_0, eX9_fit_30, eX9_fit_32, h_noTable, h_noMoon, jB_s, h_thn, thn_as, eT, h_isWithin, h, if_false, n00t, if_true, c_wrongSet n I L hI]
  by_cases ht : 0 ≤ tb1 ∧ tb1 < nI (zT I)
  · by_cases hm : mo I 13 m
    · by_cases hw : 0 ≤ w ∧ w < nI 3
      · have ew : w02 w = 0 := by rw [w02, if_pos hw]
        have hw2 := iw.mpr hw
        by_cases hz : wset (zN I) set = 0
        · obtain ⟨t, ht2, et⟩ := ix (by omega) ht
          obtain ⟨a, ha, ea, -⟩ := mo_ix hm
          obtain ⟨k, hk, ek⟩ := ix (by decide) hw
          subst et; subst ea; subst ek
          have ht8 : t < 8 := by omega
          obtain ⟨I1, L1, a1, a2, a3, a4, a5, a6⟩ := cF n I I L hI (fun _ _ => rfl) set ht8 ha
          have fC := FrC_F ht8 a1
          have hM1 := FrC_M hM fC
          obtain ⟨K, L2, mi, b1, b2, b3, b4, b5⟩ := mSc n I1 I L1 hI hM1 set ht2 ha
          have hfin := Op_scr hI hM fC (FrM_S b1)
          have eν : (nI (fν I t a set)).toInt64 = lN (fν I t a set) := nI_l (by have := fν_rg hI ht8 a set; omega)
          refine ⟨if k = 0 then .long (lN (fν I t a set)) else if k = 1 then .long (lZ (fSc I t a set)) else .long (lZ (fSm I t a set)), I1, L1, K, L2, ?_, ?_, hfin⟩
          · rw [c0, inr_t ht, nmo_t hm, thn_0, thn_0, ew, thn_0, hz]
            rcases (show k = 0 ∨ k = 1 ∨ k = 2 by omega) with rfl | rfl | rfl
            · simp (decide := true) [eX9_fit_32, eX9_fit_61, eX9_fit_79, a3, jB_s, ht8, a4, eν]
            · simp (decide := true) [eX9_fit_32, eX9_fit_61, eX9_fit_86, eX9_fit_92, eX9_fit_105, a3, jB_s, ht8, a5]
            · simp (decide := true) [eX9_fit_32, eX9_fit_61, eX9_fit_86, eX9_fit_100, eX9_fit_105, a3, jB_s, ht8, a6]
          · have m0 : jE n rX10_fit 0 [.ref 111, .int (nI t), .int (nI a), .long set, .null, .int (nI k), .null, .null, .null] [] I1 L1 = jE n rX10_fit 70 [.ref 111, .int (nI t), .int (nI a), .long set, .null, .int (nI k), .int 0, .long (lZ (fSc I t a set)), .null] [] K L2 := by
              simp [eX10_fit_0, eX10_fit_8, eX10_fit_22, eX10_fit_42, eX10_fit_61, m_isTable, M29 hI hM1, inb_t ht, jB_s, n10, m_isMoon, bmo_t ((Mod_mo hM1 _).mpr hm), m_isIn n I1 L1 _ 0 2 (by decide) (by decide), hw2, m_notSet n I1 I L1 hI hM1, hz, b5]
            rw [m0]
            rcases (show k = 0 ∨ k = 1 ∨ k = 2 by omega) with rfl | rfl | rfl
            · simp (decide := true) [eX10_fit_61, eX10_fit_75, eX10_fit_98, b3, eν]
            · simp (decide := true) [eX10_fit_61, eX10_fit_83, eX10_fit_89, eX10_fit_98]
            · simp (decide := true) [eX10_fit_61, eX10_fit_83, eX10_fit_94, eX10_fit_98, b4]
        · have hr := isR_of (isZ_wset (zN I) set) hz
          refine Op_ref hI hM (.long (lr (wset (zN I) set))) (wset (zN I) set) ?_ ?_
          · rw [c0, inr_t ht, nmo_t hm, thn_0, thn_0, ew, thn_0]
            simp [eX9_fit_32, eX9_fit_54, hz, h_refuseLong n I L _ hr, jB_s]
          · have hJ := Mod_ref hM (wset (zN I) set)
            simp [eX10_fit_0, eX10_fit_8, eX10_fit_22, eX10_fit_42, eX10_fit_54, m_isTable, M29 hI hJ, inb_t ht, jB_s, n10, m_isMoon, bmo_t ((Mod_mo hJ _).mpr hm), m_isIn n _ L _ 0 2 (by decide) (by decide), hw2, m_notSet n _ I L hI hJ, hz, m_noLong n _ L _ hr]
      · have ew : w02 w = -2 := by rw [w02, if_neg hw]
        have hw2 : ¬ (nI 0 ≤ w ∧ w ≤ nI 2) := fun q => hw (iw.mp q)
        refine Op_ref hI hM (.long (lr (-2))) (-2) ?_ ?_
        · rw [c0, inr_t ht, nmo_t hm, thn_0, thn_0, ew, thn_n e2]
          simp [eX9_fit_32, eX9_fit_54, h_refuseLong n I L (-2) (by simp [isR]), jB_s]
        · have hJ := Mod_ref hM (-2)
          simp [eX10_fit_0, eX10_fit_8, eX10_fit_22, eX10_fit_35, m_isTable, M29 hI hJ, inb_t ht, jB_s, n10, n00t, m_isMoon, bmo_t ((Mod_mo hJ _).mpr hm), m_isIn n _ L _ 0 2 (by decide) (by decide), hw2, m_noLong n _ L (-2) (by simp [isR])]
    · refine Op_ref hI hM (.long (lr (-1))) (-1) ?_ ?_
      · rw [c0, inr_t ht, nmo_f hm, thn_0, thn_n e1]
        simp [eX9_fit_32, eX9_fit_54, h_refuseLong n I L (-1) (by simp [isR]), jB_s]
      · have hJ := Mod_ref hM (-1)
        simp [eX10_fit_0, eX10_fit_8, eX10_fit_16, m_isTable, M29 hI hJ, inb_t ht, jB_s, n10, n00t, m_isMoon, bmo_f (fun q => hm ((Mod_mo hJ _).mp q)), m_noLong n _ L (-1) (by simp [isR])]
  · refine Op_ref hI hM (.long (lr (-1))) (-1) ?_ ?_
    · rw [c0, inr_f ht, thn_n e1]
      simp [eX9_fit_32, eX9_fit_54, h_refuseLong n I L (-1) (by simp [isR]), jB_s]
    · have hJ := Mod_ref hM (-1)
      simp [eX10_fit_0, eX10_fit_16, m_isTable, M29 hI hJ, inb_f ht, jB_s, n00t, m_noLong n _ L (-1) (by simp [isR])]
/-! left -/
def zlf (A : jm_I) (t s ν : Nat) : Int := zright A s - zsaid A t (ixc A 27 s) (ixc A 28 s) ν
theorem c_leftOf (n : Nat) (I A : jm_I) (L : jm_L) (hA : Inv A) (hE : E71 I A) {t s ν : Nat} (ht : t < 8) (hs : s < 40) (hν : ν < 2147483648) : jE n rX8_leftOf 0 [.ref 10, .int (nI s), .int (nI t), .int (nI ν)] [] I L = some (some (.long (lZ (zlf A t s ν))), jS n I L) := by
  have hI := E71_I hE hA
  obtain ⟨⟨e27, h27⟩, ⟨e28, h28⟩, -⟩ := Inv_s hA hs
  have f27 : I 27 s = nI (ixc A 27 s) := by rw [hE 27 (by decide)]; exact e27
  have f28 : I 28 s = nI (ixc A 28 s) := by rw [hE 28 (by decide)]; exact e28
  have c1 := c_putRight n I L hI hs
  rw [E_zright hE] at c1
  have c2 := c_said n I L hI ht h27 h28 hν
  rw [E_zsaid hE] at c2
  simp only [eX8_leftOf_0, c1, jB_s, jLI_t, jLW_t, jLL_t, jLZ_t, jLA_t, hs, f27, f28, c2, lZ_sub, zlf]
theorem m_leftOf (n : Nat) (J A : jm_I) (L : jm_L) (hA : Inv A) (hM : Mod J A) {t s ν : Nat} (ht : t < zT A) (hs : s < 40) (hν : ν < 2147483648) (h36 : J 111 36 = nI ν) : jE n rX10_leftOf 0 [.ref 111, .int (nI t), .int (nI s)] [] J L = some (some (.long (lZ (zlf A t s ν))), jS n J L) := by
  obtain ⟨⟨e27, h27⟩, ⟨e28, h28⟩, -⟩ := Inv_s hA hs
  have f27 : J 125 s = nI (ixc A 27 s) := (hM.1 125 s hs).trans e27
  have f28 : J 126 s = nI (ixc A 28 s) := (hM.1 126 s hs).trans e28
  have c1 := m_rightOf n J A L hA hM hs (nI 1) (nI 1)
  rw [zrightb_1] at c1
  simp only [eX10_leftOf_0, c1, jB_s, jLI_t, jLW_t, jLL_t, jLZ_t, jLA_t, hs, f27, f28, h36, m_saysOf n J A L hA hM ht h27 h28 hν, lZ_sub, zlf]
theorem op_left (n : Nat) (tb1 x : Int32) (set : Int64) : Op n rX9_left rX10_left [.ref 9, .int tb1, .int x, .long set, .null, .null, .null] [.ref 111, .int tb1, .int x, .long set, .null, .null] := by
  intro I L hI hM
  obtain ⟨eT, hT⟩ := Inv_T hI
  obtain ⟨e8, hN⟩ := Inv_N hI
  have e1 : ¬ (-1 : Int32) = 0 := by decide
  have e3 : ¬ (-3 : Int32) = 0 := by decide
  by_cases ht : 0 ≤ tb1 ∧ tb1 < nI (zT I)
  · by_cases hx : 0 ≤ x ∧ x < nI (zN I)
    · obtain ⟨s, hs, es⟩ := ix (by omega) hx
      subst es
      have hs4 : s < 40 := by omega
      have c0 : jE n rX9_left 0 [.ref 9, .int tb1, .int (nI s), .long set, .null, .null, .null] [] I L = jE n rX9_left 39 [.ref 9, .int tb1, .int (nI s), .long set, .null, .int (thn (if I 29 s = nI 5 then -3 else 0) (wset (zN I) set)), .null] [] I L := by
        simp only [eX9_left_0, h_noTable, h_noSight, h_cloudedSight n I L (nI s) s (zN I) hN e8 rfl hs, jB_s, h_thn, thn_as, eT, e8, inr_t ht, inr_t hx, thn_0, c_wrongSet n I L hI]
      by_cases h5 : I 29 s = nI 5
      · rw [if_pos h5, thn_n e3] at c0
        refine Op_ref hI hM (.long (lr (-3))) (-3) ?_ ?_
        · rw [c0]
          simp [eX9_left_0, eX9_left_44, h_refuseLong n I L (-3) (by simp [isR]), jB_s]
        · have hJ := Mod_ref hM (-3)
          have f29 : rf I (rz (-3)) 127 s = nI 5 := (hJ.1 127 s hs4).trans h5
          simp [eX10_left_0, eX10_left_8, eX10_left_22, eX10_left_32, m_isTable, M29 hI hJ, inb_t ht, jB_s, n10, m_isSight, M20 hI hJ, inb_t hx, jLI_t, jLW_t, jLL_t, jLZ_t, jLA_t, hs4, f29, m_noLong n _ L (-3) (by simp [isR])]
      · rw [if_neg h5, thn_0] at c0
        by_cases hz : wset (zN I) set = 0
        · obtain ⟨t, ht2, et⟩ := ix (by omega) ht
          subst et
          have ht8 : t < 8 := by omega
          obtain ⟨⟨e27, h27⟩, -⟩ := Inv_s hI hs4
          obtain ⟨I1, L1, a1, a2, a3, a4, a5, a6⟩ := cF n I I L hI (fun _ _ => rfl) set ht8 h27
          have fC := FrC_F ht8 a1
          have hM1 := FrC_M hM fC
          obtain ⟨K, L2, mi, b1, b2, b3, b4, b5⟩ := mF n I1 I L1 hI hM1 set ht2 h27
          have hMK : Mod K I := Mod_fr hI hM1 (FrM_S b1)
          have hν := fν_rg hI ht8 (ixc I 27 s) set
          refine ⟨.long (lZ (zlf I t s (fν I t (ixc I 27 s) set))), I1, L1, K, L2, ?_, ?_, Op_scr hI hM fC (FrM_S b1)⟩
          · rw [c0, hz]
            have cl := c_leftOf n I1 I L1 hI (FrC_E fC) ht8 hs4 (show fν I t (ixc I 27 s) set < 2147483648 by omega)
            simp [eX9_left_0, eX9_left_51, jLI_t, jLW_t, jLL_t, jLZ_t, jLA_t, hs4, e27, a3, jB_s, ht8, a4, cl]
          · have f29 : ¬ I1 127 s = nI 5 := fun q => h5 ((hM1.1 127 s hs4).symm.trans q)
            have f27 : I1 125 s = nI (ixc I 27 s) := (hM1.1 125 s hs4).trans e27
            have ml := m_leftOf n K I L2 hI hMK ht2 hs4 (show fν I t (ixc I 27 s) set < 2147483648 by omega) b3
            simp [eX10_left_0, eX10_left_8, eX10_left_22, eX10_left_39, eX10_left_58, m_isTable, M29 hI hM1, inb_t ht, jB_s, jB_v, n10, m_isSight, M20 hI hM1, inb_t hx, jLI_t, jLW_t, jLL_t, jLZ_t, jLA_t, hs4, f29, m_notSet n I1 I L1 hI hM1, hz, f27, b5, ml]
        · have hr := isR_of (isZ_wset (zN I) set) hz
          refine Op_ref hI hM (.long (lr (wset (zN I) set))) (wset (zN I) set) ?_ ?_
          · rw [c0]
            simp [eX9_left_0, eX9_left_44, hz, h_refuseLong n I L _ hr, jB_s]
          · have hJ := Mod_ref hM (wset (zN I) set)
            have f29 : ¬ rf I (rz (wset (zN I) set)) 127 s = nI 5 := fun q => h5 ((hJ.1 127 s hs4).symm.trans q)
            simp [eX10_left_0, eX10_left_8, eX10_left_22, eX10_left_39, eX10_left_51, m_isTable, M29 hI hJ, inb_t ht, jB_s, n10, m_isSight, M20 hI hJ, inb_t hx, jLI_t, jLW_t, jLL_t, jLZ_t, jLA_t, hs4, f29, m_notSet n _ I L hI hJ, hz, m_noLong n _ L _ hr]
    · have hx' : ¬ (0 ≤ x ∧ x < I 26 8) := by rw [e8]; exact hx
      have c0 : jE n rX9_left 0 [.ref 9, .int tb1, .int x, .long set, .null, .null, .null] [] I L = jE n rX9_left 39 [.ref 9, .int tb1, .int x, .long set, .null, .int (-1), .null] [] I L := by
        simp only [eX9_left_0, h_noTable, h_noSight, h_cloudedSight_f n I L x hx', jB_s, h_thn, thn_as, eT, inr_t ht, inr_f hx', thn_0, thn_n e1, c_wrongSet n I L hI]
      refine Op_ref hI hM (.long (lr (-1))) (-1) ?_ ?_
      · rw [c0]
        simp [eX9_left_0, eX9_left_44, h_refuseLong n I L (-1) (by simp [isR]), jB_s]
      · have hJ := Mod_ref hM (-1)
        simp [eX10_left_0, eX10_left_8, eX10_left_16, m_isTable, M29 hI hJ, inb_t ht, jB_s, n10, n00t, m_isSight, M20 hI hJ, inb_f hx, m_noLong n _ L (-1) (by simp [isR])]
  · have key : ∃ z, jE n rX9_left 0 [.ref 9, .int tb1, .int x, .long set, .null, .null, .null] [] I L = jE n rX9_left 39 [.ref 9, .int tb1, .int x, .long set, .null, .int (thn (-1) z), .null] [] I L := by
      by_cases hx : 0 ≤ x ∧ x < nI (zN I)
      · obtain ⟨s, hs, es⟩ := ix (by omega) hx
        subst es
        refine ⟨thn (inr (nI s) (nI (zN I))) (thn (if I 29 s = nI 5 then -3 else 0) (wset (zN I) set)), ?_⟩
        simp only [eX9_left_0, h_noTable, h_noSight, h_cloudedSight n I L (nI s) s (zN I) hN e8 rfl hs, jB_s, h_thn, thn_as, eT, e8, inr_f ht, c_wrongSet n I L hI]
      · have hx' : ¬ (0 ≤ x ∧ x < I 26 8) := by rw [e8]; exact hx
        refine ⟨thn (inr x (I 26 8)) (thn 0 (wset (zN I) set)), ?_⟩
        simp only [eX9_left_0, h_noTable, h_noSight, h_cloudedSight_f n I L x hx', jB_s, h_thn, thn_as, eT, inr_f ht, c_wrongSet n I L hI]
    obtain ⟨z, c0⟩ := key
    rw [thn_n e1] at c0
    refine Op_ref hI hM (.long (lr (-1))) (-1) ?_ ?_
    · rw [c0]
      simp [eX9_left_0, eX9_left_44, h_refuseLong n I L (-1) (by simp [isR]), jB_s]
    · have hJ := Mod_ref hM (-1)
      simp [eX10_left_0, eX10_left_16, m_isTable, M29 hI hJ, inb_f ht, jB_s, n00t, m_noLong n _ L (-1) (by simp [isR])]
