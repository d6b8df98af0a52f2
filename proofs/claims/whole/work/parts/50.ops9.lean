/-! season -/
def zsg (A : jm_I) (m : Nat) (set : Int64) (g : Nat → Int) : Nat → Int
  | 0 => 0
  | s + 1 => @ite _ (zin A m set s) (zinD A m set s) (zsg A m set g s + g s) (zsg A m set g s)
theorem zsg_t {A : jm_I} {m : Nat} {set : Int64} {g : Nat → Int} {s : Nat} (h : zin A m set s) : zsg A m set g (s + 1) = zsg A m set g s + g s := by simp only [zsg, h, if_true]
theorem zsg_f {A : jm_I} {m : Nat} {set : Int64} {g : Nat → Int} {s : Nat} (h : ¬ zin A m set s) : zsg A m set g (s + 1) = zsg A m set g s := by simp only [zsg, h, if_false]
theorem sM_g {J A : jm_I} {m : Nat} {set : Int64} {mi : Nat → Nat} (h : Mine J A m set mi) (g : Nat → Int) : ∀ s, s ≤ zN A → sM g mi (mc A m set s) = zsg A m set g s := by
  intro s
  induction s with
  | zero => intro _; rfl
  | succ s ih =>
    intro hs
    have i1 := ih (by omega)
    by_cases q : zin A m set s
    · rw [mc_t q, zsg_t q]
      show sM _ mi (mc A m set s) + g (mi (mc A m set s)) = _
      rw [i1, h.at0 s (by omega) q]
    · rw [mc_f q, zsg_f q]; exact i1
def zsn (A : jm_I) (t m ν s : Nat) : Int := if zfr A m (ixc A 28 s) ≤ 500 then -zlf A t s ν else zlf A t s ν
theorem c_seasonOf (n : Nat) (I A : jm_I) (L : jm_L) (hA : Inv A) (hE : E71 I A) {t m ν : Nat} (set : Int64) (ht : t < 8) (hm : m < 4) (hν : ν < 2147483648) : jE n rX8_seasonOf 0 [.ref 10, .int (nI t), .int (nI m), .long set, .null, .int (nI ν), .null, .null, .null, .null, .null] [] I L = some (some (.long (lZ (zsg A m set (zsn A t m ν) (zN A)))), jS n I L) := by
  obtain ⟨e8, hN⟩ := Inv_N hA
  have e8I : I 26 8 = nI (zN A) := by rw [hE 26 (by decide)]; exact e8
  have hI := E71_I hE hA
  have key : ∀ (d s : Nat) (v9 v10 : Value), s + d = zN A → jE n rX8_seasonOf 6 [.ref 10, .int (nI t), .int (nI m), .long set, .null, .int (nI ν), .long (lZ (zsg A m set (zsn A t m ν) s)), .null, .int (nI s), v9, v10] [] I L = some (some (.long (lZ (zsg A m set (zsn A t m ν) (zN A)))), jS n I L) := by
    intro d
    induction d with
    | zero =>
      intro s v9 v10 hs
      have : s = zN A := by omega
      subst this
      have cc : nI (zN A) ≤ nI (zN A) := Int32.le_refl _
      simp only [eX8_seasonOf_6, eX8_seasonOf_87, e8I, cc, if_true]
    | succ d ih =>
      intro s v9 v10 hs
      have hs4 : s < 40 := by omega
      have cc : ¬ nI (zN A) ≤ nI s := nI_ge (by omega) (by omega)
      have hd0 : ∀ x, jE n rX8_seasonOf 6 [.ref 10, .int (nI t), .int (nI m), .long set, .null, .int (nI ν), .long x, .null, .int (nI s), v9, v10] [] I L = jE n rX8_seasonOf 18 [.ref 10, .int (nI t), .int (nI m), .long set, .null, .int (nI ν), .long x, .null, .int (nI s), v9, v10] [] I L := by
        intro x
        simp only [eX8_seasonOf_6, e8I, cc, if_false]
      rw [hd0]
      have ci := c_isIn n I L (m := m) set hs4
      have ih2 := ih (s + 1)
      by_cases q : zin A m set s
      · rw [if_pos ((E_zin hE m set s).mpr q)] at ci
        rw [zsg_t q] at ih2
        obtain ⟨-, ⟨e28, h28⟩, -⟩ := Inv_s hA hs4
        have f28 : I 28 s = nI (ixc A 28 s) := by rw [hE 28 (by decide)]; exact e28
        have cl := c_leftOf n I A L hA hE ht hs4 hν
        have cg := c_guessedAt n I L hm h28
        rw [E_zg hE] at cg
        have hg := zg_rg hA hm h28
        have cf : jE n rX8_farOf 0 [.ref 10, .long (lZ (zg A m (ixc A 28 s))), .null, .null, .null, .null] [] I L = some (some (.int (iZ (zfr A m (ixc A 28 s)))), jS n I L) := by
          have := c_farOf n I L hI (t := zg A m (ixc A 28 s)) (by omega)
          rw [E_zY hE] at this
          exact this
        have hf := zfr_rg hA m (ixc A 28 s)
        have cm : iZ (zfr A m (ixc A 28 s)) ≤ nI 500 ↔ zfr A m (ixc A 28 s) ≤ 500 := by
          rw [show nI 500 = iZ 500 from rfl]
          exact iZ_le ⟨by omega, by omega⟩ ⟨by omega, by omega⟩
        unfold zsn at ih2
        by_cases h5 : zfr A m (ixc A 28 s) ≤ 500
        · rw [if_pos h5] at ih2
          simp only [eX8_seasonOf_18, eX8_seasonOf_32, eX8_seasonOf_75, eX8_seasonOf_78, eX8_seasonOf_81, ci, jB_s, n10, if_false, cl, jLI_t, jLW_t, jLL_t, jLZ_t, jLA_t, hs4, f28, cg, cf, cm, h5, if_true, lZ_neg, lZ_add, nI_add]
          exact ih2 _ _ (by omega)
        · rw [if_neg h5] at ih2
          simp only [eX8_seasonOf_18, eX8_seasonOf_32, eX8_seasonOf_70, eX8_seasonOf_78, eX8_seasonOf_81, ci, jB_s, n10, if_false, cl, jLI_t, jLW_t, jLL_t, jLZ_t, jLA_t, hs4, f28, cg, cf, cm, h5, lZ_add, nI_add]
          exact ih2 _ _ (by omega)
      · rw [if_neg (fun w => q ((E_zin hE m set s).mp w))] at ci
        rw [zsg_f q] at ih2
        simp only [eX8_seasonOf_18, eX8_seasonOf_81, ci, jB_s, n00t, if_true, nI_add]
        exact ih2 _ _ (by omega)
  simp only [eX8_seasonOf_0]
  exact key (zN A) 0 .null .null (Nat.zero_add _)
theorem m_season_l (n : Nat) (J A : jm_I) (L : jm_L) (hA : Inv A) (hM : Mod J A) {t m ν : Nat} (set : Int64) (ht : t < zT A) (hm : m < 4) (hν : ν < 2147483648) {mi : Nat → Nat} (hmi : Mine J A m set mi) (h36 : J 111 36 = nI ν) (v5 : Int32) : ∀ (d i : Nat) (v9 v10 : Value), i + d = mc A m set (zN A) → jE n rX10_season 54 [.ref 111, .int (nI t), .int (nI m), .long set, .null, .int v5, .long (lZ (sM (zsn A t m ν) mi i)), .null, .int (nI i), v9, v10] [] J L = some (some (.long (lZ (zsg A m set (zsn A t m ν) (zN A)))), jS n J L) := by
  obtain ⟨e8, hN⟩ := Inv_N hA
  have hMle := mc_le A m set (zN A)
  intro d
  induction d with
  | zero =>
    intro i v9 v10 hi
    have : i = mc A m set (zN A) := by omega
    subst this
    have cc : nI (mc A m set (zN A)) ≤ nI (mc A m set (zN A)) := Int32.le_refl _
    rw [sM_g hmi _ (zN A) (Nat.le_refl _)]
    simp only [eX10_season_54, eX10_season_124, hmi.n35, cc, if_true]
  | succ d ih =>
    intro i v9 v10 hi
    have hiM : i < mc A m set (zN A) := by omega
    have cc : ¬ nI (mc A m set (zN A)) ≤ nI i := nI_ge hiM (by omega)
    have hd0 : ∀ x, jE n rX10_season 54 [.ref 111, .int (nI t), .int (nI m), .long set, .null, .int v5, .long x, .null, .int (nI i), v9, v10] [] J L = jE n rX10_season 63 [.ref 111, .int (nI t), .int (nI m), .long set, .null, .int v5, .long x, .null, .int (nI i), v9, v10] [] J L := by
      intro x
      simp only [eX10_season_54, hmi.n35, cc, if_false]
    rw [hd0]
    obtain ⟨w1, w2, w3⟩ := hmi.row i hiM
    have hs4 : mi i < 40 := by omega
    have hi4 : i < 40 := by omega
    obtain ⟨-, ⟨e28, h28⟩, -⟩ := Inv_s hA hs4
    have f28 : J 126 (mi i) = nI (ixc A 28 (mi i)) := (hM.1 126 (mi i) hs4).trans e28
    have cl := m_leftOf n J A L hA hM ht hs4 hν h36
    have cg := m_guessed n J A L hM hm h28
    have hg := zg_rg hA hm h28
    have cf : jE n rX10_farOf 0 [.ref 111, .long (lZ (zg A m (ixc A 28 (mi i)))), .null, .null, .null] [] J L = some (some (.long (lZ (zfr A m (ixc A 28 (mi i))))), jS n J L) := m_farOf n J A L hA hM (by omega)
    have hf := zfr_rg hA m (ixc A 28 (mi i))
    have cm : lZ (zfr A m (ixc A 28 (mi i))) ≤ lN 500 ↔ zfr A m (ixc A 28 (mi i)) ≤ 500 := by
      rw [show lN 500 = lZ 500 from rfl]
      exact lZ_le ⟨by omega, by omega⟩ ⟨by omega, by omega⟩
    have ih2 := ih (i + 1)
    rw [show sM (zsn A t m ν) mi (i + 1) = sM (zsn A t m ν) mi i + zsn A t m ν (mi i) from rfl] at ih2
    have ez : zsn A t m ν (mi i) = if zfr A m (ixc A 28 (mi i)) ≤ 500 then -zlf A t (mi i) ν else zlf A t (mi i) ν := rfl
    rw [ez] at ih2
    by_cases h5 : zfr A m (ixc A 28 (mi i)) ≤ 500
    · rw [if_pos h5] at ih2
      simp only [eX10_season_63, eX10_season_112, eX10_season_115, jLI_t, jLW_t, jLL_t, jLZ_t, jLA_t, hi4, w1, cl, jB_s, hs4, f28, cg, cf, cm, h5, if_true, lZ_neg, lZ_add, nI_add]
      exact ih2 _ _ (by omega)
    · rw [if_neg h5] at ih2
      simp only [eX10_season_63, eX10_season_107, eX10_season_115, jLI_t, jLW_t, jLL_t, jLZ_t, jLA_t, hi4, w1, cl, jB_s, hs4, f28, cg, cf, cm, h5, if_false, lZ_add, nI_add]
      exact ih2 _ _ (by omega)
theorem op_season (n : Nat) (tb1 m : Int32) (set : Int64) : Op n rX9_season rX10_season [.ref 9, .int tb1, .int m, .long set, .null, .null, .null] [.ref 111, .int tb1, .int m, .long set, .null, .null, .null, .null, .null, .null, .null] := by
  intro I L hI hM
  obtain ⟨eT, hT⟩ := Inv_T hI
  have e1 : ¬ (-1 : Int32) = 0 := by decide
  have c0 : jE n rX9_season 0 [.ref 9, .int tb1, .int m, .long set, .null, .null, .null] [] I L = jE n rX9_season 27 [.ref 9, .int tb1, .int m, .long set, .null, .int (thn (inr tb1 (nI (zT I))) (thn (nmo I 13 m) (wset (zN I) set))), .null] [] I L := by
    simp only [eX9_season_0, h_noTable, h_noMoon, jB_s, h_thn, thn_as, eT, c_wrongSet n I L hI]
  by_cases ht : 0 ≤ tb1 ∧ tb1 < nI (zT I)
  · by_cases hm : mo I 13 m
    · by_cases hz : wset (zN I) set = 0
      · obtain ⟨t, ht2, et⟩ := ix (by omega) ht
        obtain ⟨a, ha, ea, -⟩ := mo_ix hm
        subst et; subst ea
        have ht8 : t < 8 := by omega
        obtain ⟨I1, L1, a1, a2, a3, a4, a5, a6⟩ := cF n I I L hI (fun _ _ => rfl) set ht8 ha
        have fC := FrC_F ht8 a1
        have hM1 := FrC_M hM fC
        obtain ⟨K, L2, mi, b1, b2, b3, b4, b5⟩ := mF n I1 I L1 hI hM1 set ht2 ha
        have hMK : Mod K I := Mod_fr hI hM1 (FrM_S b1)
        have hν := fν_rg hI ht8 a set
        refine ⟨.long (lZ (zsg I a set (zsn I t a (fν I t a set)) (zN I))), I1, L1, K, L2, ?_, ?_, Op_scr hI hM fC (FrM_S b1)⟩
        · rw [c0, inr_t ht, nmo_t hm, thn_0, thn_0, hz]
          have cl := c_seasonOf n I1 I L1 hI (FrC_E fC) set ht8 ha (show fν I t a set < 2147483648 by omega)
          simp [eX9_season_0, eX9_season_39, a3, jB_s, ht8, a4, cl]
        · have ml := m_season_l n K I L2 hI hMK set ht2 ha (show fν I t a set < 2147483648 by omega) b2 b3 0 (mc I a set (zN I)) 0 .null .null (Nat.zero_add _)
          have m0 : jE n rX10_season 0 [.ref 111, .int (nI t), .int (nI a), .long set, .null, .null, .null, .null, .null, .null, .null] [] I1 L1 = jE n rX10_season 54 [.ref 111, .int (nI t), .int (nI a), .long set, .null, .int 0, .long (lN 0), .null, .int (nI 0), .null, .null] [] K L2 := by
            simp [eX10_season_0, eX10_season_8, eX10_season_22, eX10_season_41, m_isTable, M29 hI hM1, inb_t ht, jB_s, jB_v, n10, m_isMoon, bmo_t ((Mod_mo hM1 _).mpr hm), m_notSet n I1 I L1 hI hM1, hz, b5]
          rw [m0]
          exact ml
      · have hr := isR_of (isZ_wset (zN I) set) hz
        refine Op_ref hI hM (.long (lr (wset (zN I) set))) (wset (zN I) set) ?_ ?_
        · rw [c0, inr_t ht, nmo_t hm, thn_0, thn_0]
          simp [eX9_season_0, eX9_season_32, hz, h_refuseLong n I L _ hr, jB_s]
        · have hJ := Mod_ref hM (wset (zN I) set)
          simp [eX10_season_0, eX10_season_8, eX10_season_22, eX10_season_34, m_isTable, M29 hI hJ, inb_t ht, jB_s, n10, m_isMoon, bmo_t ((Mod_mo hJ _).mpr hm), m_notSet n _ I L hI hJ, hz, m_noLong n _ L _ hr]
    · refine Op_ref hI hM (.long (lr (-1))) (-1) ?_ ?_
      · rw [c0, inr_t ht, nmo_f hm, thn_0, thn_n e1]
        simp [eX9_season_0, eX9_season_32, h_refuseLong n I L (-1) (by simp [isR]), jB_s]
      · have hJ := Mod_ref hM (-1)
        simp [eX10_season_0, eX10_season_8, eX10_season_16, m_isTable, M29 hI hJ, inb_t ht, jB_s, n10, n00t, m_isMoon, bmo_f (fun q => hm ((Mod_mo hJ _).mp q)), m_noLong n _ L (-1) (by simp [isR])]
  · refine Op_ref hI hM (.long (lr (-1))) (-1) ?_ ?_
    · rw [c0, inr_f ht, thn_n e1]
      simp [eX9_season_0, eX9_season_32, h_refuseLong n I L (-1) (by simp [isR]), jB_s]
    · have hJ := Mod_ref hM (-1)
      simp [eX10_season_0, eX10_season_16, m_isTable, M29 hI hJ, inb_f ht, jB_s, n00t, m_noLong n _ L (-1) (by simp [isR])]
/-! foretold -/
theorem E_seen {I A : jm_I} (h : E71 I A) (m k : Nat) : zseen I m k = zseen A m k := by
  have eP : ∀ j, zP I m k j = zP A m k j := fun j => by unfold zP; rw [h 13 (by decide), h 18 (by decide)]
  have eF : ∀ j, zF I m k j = zF A m k j := by
    intro j
    induction j with
    | zero => rw [zF_0, zF_0, h 14 (by decide), h 15 (by decide), h 16 (by decide)]
    | succ j ih => show zF I m k j + zP I m k j = zF A m k j + zP A m k j; rw [ih, eP]
  unfold zseen zfade
  rw [eF, E_zY h, h 11 (by decide)]
theorem op_foretold (n : Nat) (tb1 m k w : Int32) (set : Int64) : Op n rX9_foretold rX10_foretold [.ref 9, .int tb1, .int m, .int k, .long set, .null, .int w, .null, .null, .null] [.ref 111, .int tb1, .int m, .int k, .long set, .null, .int w, .null, .null, .null] := by
  intro I L hI hM
  obtain ⟨eT, hT⟩ := Inv_T hI
  have e1 : ¬ (-1 : Int32) = 0 := by decide
  have c0 : jE n rX9_foretold 0 [.ref 9, .int tb1, .int m, .int k, .long set, .null, .int w, .null, .null, .null] [] I L = jE n rX9_foretold 43 [.ref 9, .int tb1, .int m, .int k, .long set, .null, .int w, .int (thn (inr tb1 (nI (zT I))) (thn (nmo I 13 m) (thn (zout k (nI 0) (nI 999)) (wset (zN I) set)))), .null, .null] [] I L := by
    simp only [eX9_foretold_0, h_noTable, h_noMoon, jB_s, h_thn, thn_as, eT, h_outside, c_wrongSet n I L hI]
  by_cases ht : 0 ≤ tb1 ∧ tb1 < nI (zT I)
  · by_cases hm : mo I 13 m
    · by_cases hk : zout k (nI 0) (nI 999) = 0
      · by_cases hz : wset (zN I) set = 0
        · obtain ⟨t, ht2, et⟩ := ix (by omega) ht
          obtain ⟨a, ha, ea, -⟩ := mo_ix hm
          obtain ⟨b, hb, eb⟩ := rg_nI (k := 999) (by decide) (rg_out (by decide) (by decide) hk)
          subst et; subst ea; subst eb
          have ht8 : t < 8 := by omega
          have hb2 : b < 1000 := by omega
          obtain ⟨I1, L1, a1, a2, a3, a4, a5, a6⟩ := cF n I I L hI (fun _ _ => rfl) set ht8 ha
          have fC := FrC_F ht8 a1
          have hE1 := FrC_E fC
          have hI1 := E71_I hE1 hI
          have hM1 := FrC_M hM fC
          obtain ⟨K, L2, mi, b1, b2, b3, b4, b5⟩ := mF n I1 I L1 hI hM1 set ht2 ha
          have hMK : Mod K I := Mod_fr hI hM1 (FrM_S b1)
          have hν := fν_rg hI ht8 a set
          have cs := c_said n I1 L1 hI1 ht8 ha hb2 (show fν I t a set < 2147483648 by omega)
          rw [E_zsaid hE1] at cs
          have cq := c_seen n I1 L1 hI1 ha hb2
          rw [E_seen hE1] at cq
          have ms := m_saysOf n K I L2 hI hMK ht2 ha hb2 (show fν I t a set < 2147483648 by omega)
          have mq := m_fading n K I L2 hI hMK ha hb2 (nI 1)
          rw [if_neg n10] at mq
          refine ⟨if w = 0 then .long (lZ (zsaid I t a b (fν I t a set))) else .long (lZ (zseen I a b - zsaid I t a b (fν I t a set))), I1, L1, K, L2, ?_, ?_, Op_scr hI hM fC (FrM_S b1)⟩
          · rw [c0, inr_t ht, nmo_t hm, thn_0, thn_0, hk, thn_0, hz]
            by_cases hw : w = 0
            · simp [eX9_foretold_0, eX9_foretold_55, eX9_foretold_102, eX9_foretold_104, a3, jB_s, ht8, a4, cs, hw]
            · simp [eX9_foretold_0, eX9_foretold_55, eX9_foretold_87, eX9_foretold_104, a3, jB_s, ht8, a4, cs, hw, cq, lZ_sub]
          · by_cases hw : w = 0
            · simp [eX10_foretold_0, eX10_foretold_8, eX10_foretold_22, eX10_foretold_38, eX10_foretold_46, eX10_foretold_58, eX10_foretold_97, eX10_foretold_99, m_isTable, M29 hI hM1, inb_t ht, jB_s, jB_v, n10, m_isMoon, bmo_t ((Mod_mo hM1 _).mpr hm), m_out, hk, m_notSet n I1 I L1 hI hM1, hz, b5, b3, ms, hw]
            · simp [eX10_foretold_0, eX10_foretold_8, eX10_foretold_22, eX10_foretold_38, eX10_foretold_46, eX10_foretold_58, eX10_foretold_84, eX10_foretold_99, m_isTable, M29 hI hM1, inb_t ht, jB_s, jB_v, n10, m_isMoon, bmo_t ((Mod_mo hM1 _).mpr hm), m_out, hk, m_notSet n I1 I L1 hI hM1, hz, b5, b3, ms, hw, mq, lZ_sub]
        · have hr := isR_of (isZ_wset (zN I) set) hz
          refine Op_ref hI hM (.long (lr (wset (zN I) set))) (wset (zN I) set) ?_ ?_
          · rw [c0, inr_t ht, nmo_t hm, thn_0, thn_0, hk, thn_0]
            simp [eX9_foretold_0, eX9_foretold_48, hz, h_refuseLong n I L _ hr, jB_s]
          · have hJ := Mod_ref hM (wset (zN I) set)
            simp [eX10_foretold_0, eX10_foretold_8, eX10_foretold_22, eX10_foretold_38, eX10_foretold_46, eX10_foretold_51, m_isTable, M29 hI hJ, inb_t ht, jB_s, n10, m_isMoon, bmo_t ((Mod_mo hJ _).mpr hm), m_out, hk, m_notSet n _ I L hI hJ, hz, m_noLong n _ L _ hr]
      · have hr := isR_of (isZ_out k (nI 0) (nI 999)) hk
        refine Op_ref hI hM (.long (lr (zout k (nI 0) (nI 999)))) (zout k (nI 0) (nI 999)) ?_ ?_
        · rw [c0, inr_t ht, nmo_t hm, thn_0, thn_0, thn_n hk]
          simp [eX9_foretold_0, eX9_foretold_48, hk, h_refuseLong n I L _ hr, jB_s]
        · have hJ := Mod_ref hM (zout k (nI 0) (nI 999))
          simp [eX10_foretold_0, eX10_foretold_8, eX10_foretold_22, eX10_foretold_46, eX10_foretold_51, m_isTable, M29 hI hJ, inb_t ht, jB_s, n10, m_isMoon, bmo_t ((Mod_mo hJ _).mpr hm), m_out, hk, m_noLong n _ L _ hr]
    · refine Op_ref hI hM (.long (lr (-1))) (-1) ?_ ?_
      · rw [c0, inr_t ht, nmo_f hm, thn_0, thn_n e1]
        simp [eX9_foretold_0, eX9_foretold_48, h_refuseLong n I L (-1) (by simp [isR]), jB_s]
      · have hJ := Mod_ref hM (-1)
        simp [eX10_foretold_0, eX10_foretold_8, eX10_foretold_16, m_isTable, M29 hI hJ, inb_t ht, jB_s, n10, n00t, m_isMoon, bmo_f (fun q => hm ((Mod_mo hJ _).mp q)), m_noLong n _ L (-1) (by simp [isR])]
  · refine Op_ref hI hM (.long (lr (-1))) (-1) ?_ ?_
    · rw [c0, inr_f ht, thn_n e1]
      simp [eX9_foretold_0, eX9_foretold_48, h_refuseLong n I L (-1) (by simp [isR]), jB_s]
    · have hJ := Mod_ref hM (-1)
      simp [eX10_foretold_0, eX10_foretold_16, m_isTable, M29 hI hJ, inb_f ht, jB_s, n00t, m_noLong n _ L (-1) (by simp [isR])]
