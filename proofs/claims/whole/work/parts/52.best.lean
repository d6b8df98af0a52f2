/-! all tables' fitters -/
def FrJ (I' I : jm_I) : Prop := ∀ a, a < 75 ∨ 107 ≤ a → I' a = I a
theorem FrJ_0 (I : jm_I) : FrJ I I := fun _ _ => rfl
theorem FrJ_t {I J K : jm_I} (h : FrJ J I) (g : FrJ K J) : FrJ K I := fun a ha => (g a ha).trans (h a ha)
theorem FrJ_F {t : Nat} {I1 I : jm_I} {L1 L : jm_L} (ht : t < 8) (h : Fr t I1 I L1 L) : FrJ I1 I := fun a ha => h.fi a (by unfold fB; omega) (by unfold fH; omega) (by unfold fT; omega)
theorem FrJ_C {I1 I : jm_I} (h : FrJ I1 I) : FrC I1 I := fun a ha => h a (by omega)
theorem FrJ_E {I1 I A : jm_I} (h : FrJ I1 I) (e : E71 I A) : E71 I1 A := fun a ha => (h a (by omega)).trans (e a ha)
theorem Fitt_o {t u c m : Nat} {τ : Nat → Nat} {G : Nat → Int} {I I' : jm_I} {L L' : jm_L} (hne : u ≠ t) (h : Fr t I' I L' L) (hF : Fitt I L u c τ m G) : Fitt I' L' u c τ m G := by
  have eB : I' (fB u) = I (fB u) := h.fi _ (by unfold fB; omega) (by unfold fB fH; omega) (by unfold fB fT; omega)
  have eT : I' (fT u) = I (fT u) := h.fi _ (by unfold fT fB; omega) (by unfold fT fH; omega) (by unfold fT; omega)
  have eS : L' (fS u) = L (fS u) := h.fl _ fS74 (by unfold fS; omega)
  exact ⟨by rw [eB]; exact hF.k5, by rw [eB]; exact hF.k6, by rw [eB]; exact hF.k7, fun i hi => by rw [eT]; exact hF.kT i hi, fun x hx => by rw [eS]; exact hF.kS x hx⟩
def AF (I : jm_I) (L : jm_L) (A : jm_I) (m : Nat) (G : Nat → Nat → Int) : Prop := ∀ t, t < zT A → Fitt I L t (fc A t) (fτ A t) m (G t)
theorem fτ_6 {A : jm_I} (hA : Inv A) {t : Nat} (ht : t < 8) : ∀ i, i < fc A t → fτ A t i ≤ 6 := by
  obtain ⟨e, h3⟩ := fc_e hA ht
  intro i hi
  have : fτ A t i = tt A t i := by unfold fτ τw; rw [if_pos (by omega)]
  rw [this]
  exact (Inv_tt hA ht (by omega)).2
theorem c_gather (n : Nat) (A : jm_I) (hA : Inv A) {m : Nat} (set : Int64) (hm : m < 4) : ∀ (d u : Nat) (I : jm_I) (L : jm_L), u + d = zT A → E71 I A → (∀ t, t < u → Fitt I L t (fc A t) (fτ A t) m (fG A t m set)) → ∃ (I' : jm_I) (L' : jm_L), FrJ I' I ∧ AF I' L' A m (fun t => fG A t m set) ∧ jE n rX1_gather 3 [.ref 71, .int (nI m), .long set, .null, .int (nI u)] [] I L = some (none, jS n I' L') := by
  obtain ⟨eT, hT⟩ := Inv_T hA
  intro d
  induction d with
  | zero =>
    intro u I L hu hE hF
    have : u = zT A := by omega
    subst this
    have eI : I 35 2 = nI (zT A) := by rw [hE 35 (by decide)]; exact eT
    have cc : nI (zT A) ≤ nI (zT A) := Int32.le_refl _
    refine ⟨I, L, FrJ_0 I, hF, ?_⟩
    simp only [eX1_gather_3, eX1_gather_49, eI, cc, if_true]
  | succ d ih =>
    intro u I L hu hE hF
    have hu8 : u < 8 := by omega
    have eI : I 35 2 = nI (zT A) := by rw [hE 35 (by decide)]; exact eT
    have cc : ¬ nI (zT A) ≤ nI u := nI_ge (by omega) (by omega)
    obtain ⟨I1, L1, a1, a2, a3⟩ := c_start n I A L hA hE (t := u) (tab := u) (w := 3) (-1) hu8 hu8 hm (Nat.le_refl _) w3
    have hk3 : fc A u ≤ 3 := (fc_e hA hu8).2
    obtain ⟨I2, L2, b1, b2, b3⟩ := c_addSet n A hA set hu8 hk3 (fτ_6 hA hu8) hm (zN A) 0 I1 L1 (Nat.zero_add _) (Fr_E a1 hE) a2
    have b4 : jE n rX0_addSet 0 [.ref (fB u), .long set, .null, .null] [] I1 L1 = some (none, jS n I2 L2) := by
      simp only [eX0_addSet_0]
      exact b3
    have fr := Fr_t a1 b1
    obtain ⟨I', L', r1, r2, r3⟩ := ih (u + 1) I2 L2 (by omega) (Fr_E fr hE) (fun t ht => by
      by_cases e : t = u
      · subst e; exact b2
      · exact Fitt_o e fr (hF t (by omega)))
    refine ⟨I', L', FrJ_t (FrJ_F hu8 fr) r1, r2, ?_⟩
    have hd0 : jE n rX1_gather 3 [.ref 71, .int (nI m), .long set, .null, .int (nI u)] [] I L = jE n rX1_gather 18 [.ref 71, .int (nI m), .long set, .null, .int (nI u)] [] I L := by
      simp only [eX1_gather_3, eI, cc, if_false]
    rw [hd0]
    simp only [eX1_gather_18, hu8, a3, jB_v, b4, nI_add]
    exact r3
theorem cG (n : Nat) (I A : jm_I) (L : jm_L) (hA : Inv A) (hE : E71 I A) {m : Nat} (set : Int64) (hm : m < 4) : ∃ (I' : jm_I) (L' : jm_L), FrJ I' I ∧ AF I' L' A m (fun t => fG A t m set) ∧ jE n rX1_gather 0 [.ref 71, .int (nI m), .long set, .null, .null] [] I L = some (none, jS n I' L') := by
  obtain ⟨I', L', r1, r2, r3⟩ := c_gather n A hA set hm (zT A) 0 I L (Nat.zero_add _) hE (fun t ht => absurd ht (by omega))
  refine ⟨I', L', r1, r2, ?_⟩
  simp only [eX1_gather_0]
  exact r3
/-! the best -/
def rb1 : Option Nat → Int32
  | none => nI 0
  | some j => nI j
def sb2 : Option Nat → Int32
  | none => -1
  | some j => nI j
def sl2 (f : Nat → Int) : Option Nat → Int64
  | none => lN 0
  | some j => lZ (f j)
def fsc (A : jm_I) (G : Nat → Nat → Int) (t : Nat) : Int := G t (afit (G t) (fc A t)) + zpr A (fc A t)
def Gb (A : jm_I) (G : Nat → Nat → Int) : Prop := ∀ t x, t < zT A → (G t x).natAbs < 1000000000000000
theorem fsc_rg {A : jm_I} (hA : Inv A) {G : Nat → Nat → Int} (hG : Gb A G) {t : Nat} (ht : t < zT A) : (fsc A G t).natAbs < 1000000000100000 := by
  have h8 := (Inv_T hA).2
  have h1 := hG t (afit (G t) (fc A t)) ht
  have h2 := zpr_rg hA (fc_e hA (show t < 8 by omega)).2
  unfold fsc
  omega
theorem mx_le {x : Int} (h : x.natAbs < 1000000000100000) : ¬ lN 9223372036854775807 ≤ lZ x := by
  rw [lN_lZ, lZ_le ⟨by omega, by omega⟩ ⟨by omega, by omega⟩]
  omega
theorem c_bestNow (n : Nat) (I A : jm_I) (L : jm_L) (hA : Inv A) (hE : E71 I A) {m : Nat} {G : Nat → Nat → Int} (hG : Gb A G) (hF : AF I L A m G) : jE n rX1_bestNow 0 [.ref 71, .null, .null, .null, .null, .null, .null] [] I L = some (some (.int (rb1 (amin (fsc A G) tru (zT A)))), jS n I L) := by
  obtain ⟨eT, hT⟩ := Inv_T hA
  have eI : I 35 2 = nI (zT A) := by rw [hE 35 (by decide)]; exact eT
  have key : ∀ (d u : Nat) (v5 v6 : Value), u + d = zT A → jE n rX1_bestNow 9 [.ref 71, .int (rb1 (amin (fsc A G) tru u)), .long (rl1 (fsc A G) (amin (fsc A G) tru u)), .null, .int (nI u), v5, v6] [] I L = some (some (.int (rb1 (amin (fsc A G) tru (zT A)))), jS n I L) := by
    intro d
    induction d with
    | zero =>
      intro u v5 v6 hu
      have : u = zT A := by omega
      subst this
      have cc : nI (zT A) ≤ nI (zT A) := Int32.le_refl _
      simp only [eX1_bestNow_9, eX1_bestNow_55, eI, cc, if_true]
    | succ d ih =>
      intro u v5 v6 hu
      have hu8 : u < 8 := by omega
      have huT : u < zT A := by omega
      have cc : ¬ nI (zT A) ≤ nI u := nI_ge huT (by omega)
      have hd0 : ∀ x y, jE n rX1_bestNow 9 [.ref 71, x, y, .null, .int (nI u), v5, v6] [] I L = jE n rX1_bestNow 24 [.ref 71, x, y, .null, .int (nI u), v5, v6] [] I L := by
        intro x y
        simp only [eX1_bestNow_9, eI, cc, if_false]
      rw [hd0]
      have cs : jE n rX0_score 0 [.ref (fB u)] [] I L = some (some (.long (lZ (fsc A G u))), jS n I L) := c_score n I A L hE hu8 (fc_e hA hu8).2 (fun x _ => by have := hG u x huT; omega) (hF u huT)
      have hs := fsc_rg hA hG huT
      have ih2 := ih (u + 1)
      cases e : amin (fsc A G) tru u with
      | none =>
        rw [amin_0 trivial e] at ih2
        have hc : ¬ rl1 (fsc A G) none ≤ lZ (fsc A G u) := mx_le hs
        simp only [eX1_bestNow_24, eX1_bestNow_43, eX1_bestNow_49, hu8, cs, jB_s, hc, if_false, nI_add]
        exact ih2 _ _ (by omega)
      | some j =>
        have hj := (amin_s e).1
        have hsj := fsc_rg hA hG (show j < zT A by omega)
        have hc : rl1 (fsc A G) (some j) ≤ lZ (fsc A G u) ↔ fsc A G j ≤ fsc A G u := lZ_le ⟨by omega, by omega⟩ ⟨by omega, by omega⟩
        by_cases hlt : fsc A G u < fsc A G j
        · rw [amin_l trivial e hlt] at ih2
          have hc2 : ¬ rl1 (fsc A G) (some j) ≤ lZ (fsc A G u) := fun w => by have := hc.mp w; omega
          simp only [eX1_bestNow_24, eX1_bestNow_43, eX1_bestNow_49, hu8, cs, jB_s, hc2, if_false, nI_add]
          exact ih2 _ _ (by omega)
        · rw [amin_g trivial e hlt] at ih2
          have hc2 : rl1 (fsc A G) (some j) ≤ lZ (fsc A G u) := hc.mpr (by omega)
          simp only [eX1_bestNow_24, eX1_bestNow_49, hu8, cs, jB_s, hc2, if_true, nI_add]
          exact ih2 _ _ (by omega)
  simp only [eX1_bestNow_0]
  exact key (zT A) 0 .null .null (Nat.zero_add _)
theorem m_bestOf_l (n : Nat) (A : jm_I) (hA : Inv A) {m : Nat} (set : Int64) (hm : m < 4) : ∀ (d u : Nat) (J : jm_I) (L : jm_L) (v8 v9 : Value), Mod J A → u + d = zT A → ∃ (K : jm_I) (L' : jm_L), FrM K J ∧ jE n rX10_bestOf 9 [.ref 111, .int (nI m), .long set, .null, .int (sb2 (amin (fun t => fSc A t m set) tru u)), .long (sl2 (fun t => fSc A t m set) (amin (fun t => fSc A t m set) tru u)), .null, .int (nI u), v8, v9] [] J L = some (some (.int (sb2 (amin (fun t => fSc A t m set) tru (zT A)))), jS n K L') := by
  obtain ⟨eT, hT⟩ := Inv_T hA
  have hsc : ∀ t, t < zT A → (fSc A t m set).natAbs < 1000000000100000 := fun t ht => by
    have ht8 : t < 8 := by omega
    have h1 := zG_rg hA (fτ A t) (fc_e hA ht8).2 hm set (afit (fG A t m set) (fc A t))
    have h2 := zpr_rg hA (fc_e hA ht8).2
    unfold fSc fSm
    show (zG A (fτ A t) (fc A t) m set (afit (fG A t m set) (fc A t)) + zpr A (fc A t)).natAbs < _
    omega
  intro d
  induction d with
  | zero =>
    intro u J L v8 v9 hM hu
    have : u = zT A := by omega
    subst this
    have cc : nI (zT A) ≤ nI (zT A) := Int32.le_refl _
    refine ⟨J, L, FrM_0 J, ?_⟩
    simp only [eX10_bestOf_9, eX10_bestOf_58, M29 hA hM, cc, if_true]
  | succ d ih =>
    intro u J L v8 v9 hM hu
    have huT : u < zT A := by omega
    have cc : ¬ nI (zT A) ≤ nI u := nI_ge huT (by omega)
    have hd0 : ∀ x y, jE n rX10_bestOf 9 [.ref 111, .int (nI m), .long set, .null, x, y, .null, .int (nI u), v8, v9] [] J L = jE n rX10_bestOf 18 [.ref 111, .int (nI m), .long set, .null, x, y, .null, .int (nI u), v8, v9] [] J L := by
      intro x y
      simp only [eX10_bestOf_9, M29 hA hM, cc, if_false]
    rw [hd0]
    obtain ⟨K, L1, mi, b1, b2, b3, b4, b5⟩ := mSc n J A L hA hM set huT hm
    have hMK : Mod K A := Mod_fr hA hM (FrM_S b1)
    have hs := hsc u huT
    have hm1 : (-1 : Int32) < 0 := by decide
    cases e : amin (fun t => fSc A t m set) tru u with
    | none =>
      obtain ⟨K', L', r1, r2⟩ := ih (u + 1) K L1 (.long (lZ (fSc A u m set))) .null hMK (by omega)
      rw [amin_0 trivial e] at r2
      refine ⟨K', L', FrM_t b1 r1, ?_⟩
      have hc : sb2 none < 0 := hm1
      simp only [eX10_bestOf_18, eX10_bestOf_44, eX10_bestOf_52, b5, jB_s, hc, if_true, nI_add]
      exact r2
    | some j =>
      have hj := (amin_s e).1
      have hsj := hsc j (by omega)
      have hn : ¬ sb2 (some j) < 0 := nI_pos (show j < 2147483648 by omega)
      have hc : lZ (fSc A u m set) < sl2 (fun t => fSc A t m set) (some j) ↔ fSc A u m set < fSc A j m set := lZ_lt (a := fSc A u m set) (b := fSc A j m set) ⟨by omega, by omega⟩ ⟨by omega, by omega⟩
      obtain ⟨K', L', r1, r2⟩ := ih (u + 1) K L1 (.long (lZ (fSc A u m set))) .null hMK (by omega)
      refine ⟨K', L', FrM_t b1 r1, ?_⟩
      by_cases hlt : fSc A u m set < fSc A j m set
      · rw [amin_l trivial e hlt] at r2
        have hc2 := hc.mpr hlt
        simp only [eX10_bestOf_18, eX10_bestOf_33, eX10_bestOf_44, eX10_bestOf_52, b5, jB_s, hn, hc2, if_true, if_false, nI_add]
        exact r2
      · rw [amin_g trivial e hlt] at r2
        have hc2 : ¬ lZ (fSc A u m set) < sl2 (fun t => fSc A t m set) (some j) := fun w => hlt (hc.mp w)
        simp only [eX10_bestOf_18, eX10_bestOf_33, eX10_bestOf_41, eX10_bestOf_52, b5, jB_s, hn, hc2, if_false, nI_add]
        exact r2
/-- the best table by a set -/
def bst (A : jm_I) (m : Nat) (set : Int64) : Nat := (amin (fun t => fSc A t m set) tru (zT A)).getD 0
theorem bst_e {A : jm_I} (hT : 0 < zT A) (m : Nat) (set : Int64) : amin (fun t => fSc A t m set) tru (zT A) = some (bst A m set) ∧ bst A m set < zT A := by
  obtain ⟨k, hk⟩ : ∃ k, zT A = k + 1 := ⟨zT A - 1, by omega⟩
  obtain ⟨j, hj⟩ := amin_some (f := fun t => fSc A t m set) (ok := tru) (i := k) trivial
  have : bst A m set = j := by unfold bst; rw [hk, hj]; rfl
  rw [this, hk, hj]
  exact ⟨rfl, (amin_s hj).1⟩
theorem mB (n : Nat) (J A : jm_I) (L : jm_L) (hA : Inv A) (hM : Mod J A) {m : Nat} (set : Int64) (hm : m < 4) (hT : 0 < zT A) : ∃ (K : jm_I) (L' : jm_L), FrM K J ∧ jE n rX10_bestOf 0 [.ref 111, .int (nI m), .long set, .null, .null, .null, .null, .null, .null, .null] [] J L = some (some (.int (nI (bst A m set))), jS n K L') := by
  obtain ⟨K, L', r1, r2⟩ := m_bestOf_l n A hA set hm (zT A) 0 J L .null .null hM (Nat.zero_add _)
  refine ⟨K, L', r1, ?_⟩
  rw [(bst_e hT m set).1] at r2
  simp only [eX10_bestOf_0]
  exact r2
theorem fG_Gb {A : jm_I} (hA : Inv A) {m : Nat} (hm : m < 4) (set : Int64) : Gb A (fun t => fG A t m set) := fun t x ht => by
  have h8 := (Inv_T hA).2
  have := zG_rg hA (fτ A t) (fc_e hA (show t < 8 by omega)).2 hm set x
  show (zG A (fτ A t) (fc A t) m set x).natAbs < _
  omega
theorem cB (n : Nat) (I A : jm_I) (L : jm_L) (hA : Inv A) (hE : E71 I A) {m : Nat} (set : Int64) (hm : m < 4) (hT : 0 < zT A) (hF : AF I L A m (fun t => fG A t m set)) : jE n rX1_bestNow 0 [.ref 71, .null, .null, .null, .null, .null, .null] [] I L = some (some (.int (nI (bst A m set))), jS n I L) := by
  have h := c_bestNow n I A L hA hE (fG_Gb hA hm set) hF
  have e : amin (fsc A (fun t => fG A t m set)) tru (zT A) = some (bst A m set) := (bst_e hT m set).1
  rw [e] at h
  exact h
def wT (T : Nat) : Int32 := if T = 0 then -3 else 0
theorem isZ_wT (T : Nat) : isZ (wT T) := isZ_c isZ_3 isZ_0
theorem h_noT (n : Nat) (I : jm_I) (L : jm_L) (hI : Inv I) : jE n rX9_noTables 0 [.ref 9] [] I L = some (some (.int (wT (zT I))), jS n I L) := by
  obtain ⟨eT, hT⟩ := Inv_T hI
  rw [h_noTables, eT]
  unfold wT
  by_cases h : zT I = 0
  · rw [if_pos h, h, if_neg (by decide)]
  · have q : (0 : Int32) < nI (zT I) := nI_lt (show 0 < zT I by omega) (by omega)
    rw [if_neg h, if_pos q]
theorem nT0 {k : Nat} (hk : k ≤ 8) : nI k = 0 ↔ k = 0 := by
  rw [show (0 : Int32) = nI 0 from rfl]
  exact nI_inj (by omega) (by decide)
theorem op_best (n : Nat) (m : Int32) (set : Int64) : Op n rX9_best rX10_best [.ref 9, .int m, .long set, .null, .null] [.ref 111, .int m, .long set, .null, .null] := by
  intro I L hI hM
  obtain ⟨eT, hT⟩ := Inv_T hI
  have e1 : ¬ (-1 : Int32) = 0 := by decide
  have e3 : ¬ (-3 : Int32) = 0 := by decide
  have c0 : jE n rX9_best 0 [.ref 9, .int m, .long set, .null, .null] [] I L = jE n rX9_best 26 [.ref 9, .int m, .long set, .null, .int (thn (nmo I 13 m) (thn (wT (zT I)) (wset (zN I) set)))] [] I L := by
    simp only [eX9_best_0, h_noT n I L hI, h_noMoon, jB_s, h_thn, thn_as, c_wrongSet n I L hI]
  by_cases hm : mo I 13 m
  · by_cases h0 : zT I = 0
    · have w0 : wT (zT I) = -3 := by unfold wT; rw [if_pos h0]
      refine Op_ref hI hM (.int (-3)) (-3) ?_ ?_
      · rw [c0, nmo_t hm, thn_0, w0, thn_n e3]
        simp [eX9_best_0, eX9_best_31, h_refuse n I L (-3) (by simp [isR]), jB_s]
      · have hJ := Mod_ref hM (-3)
        have z0 : nI (zT I) = 0 := by rw [h0]; rfl
        simp [eX10_best_0, eX10_best_14, eX10_best_21, eX10_best_31, eX10_best_38, eX10_best_53, m_isMoon, bmo_t ((Mod_mo hJ _).mpr hm), jB_s, n10, M29 hI hJ, z0, m_no n _ L (-3) (by simp [isR])]
    · have w0 : wT (zT I) = 0 := by unfold wT; rw [if_neg h0]
      have hne : ¬ nI (zT I) = 0 := fun q => h0 ((nT0 hT).mp q)
      by_cases hz : wset (zN I) set = 0
      · obtain ⟨a, ha, ea, -⟩ := mo_ix hm
        subst ea
        obtain ⟨I1, L1, a1, a2, a3⟩ := cG n I I L hI (fun _ _ => rfl) set ha
        have cb := cB n I1 I L1 hI (FrJ_E a1 (fun _ _ => rfl)) set ha (by omega) a2
        have fC := FrJ_C a1
        have hM1 := FrC_M hM fC
        obtain ⟨K, L2, b1, b2⟩ := mB n I1 I L1 hI hM1 set ha (by omega)
        refine ⟨.int (nI (bst I a set)), I1, L1, K, L2, ?_, ?_, Op_scr hI hM fC (FrM_S b1)⟩
        · rw [c0, nmo_t hm, thn_0, w0, thn_0, hz]
          simp [eX9_best_0, eX9_best_38, a3, jB_v, cb, jB_s]
        · simp [eX10_best_0, eX10_best_14, eX10_best_26, eX10_best_31, eX10_best_47, eX10_best_53, m_isMoon, bmo_t ((Mod_mo hM1 _).mpr hm), jB_s, n10, M29 hI hM1, hne, m_notSet n I1 I L1 hI hM1, hz, b2]
      · have hr := isR_of (isZ_wset (zN I) set) hz
        refine Op_ref hI hM (.int (wset (zN I) set)) (wset (zN I) set) ?_ ?_
        · rw [c0, nmo_t hm, thn_0, w0, thn_0]
          simp [eX9_best_0, eX9_best_31, hz, h_refuse n I L _ hr, jB_s]
        · have hJ := Mod_ref hM (wset (zN I) set)
          simp [eX10_best_0, eX10_best_14, eX10_best_26, eX10_best_31, eX10_best_38, eX10_best_53, m_isMoon, bmo_t ((Mod_mo hJ _).mpr hm), jB_s, n10, M29 hI hJ, hne, m_notSet n _ I L hI hJ, hz, m_no n _ L _ hr]
  · refine Op_ref hI hM (.int (-1)) (-1) ?_ ?_
    · rw [c0, nmo_f hm, thn_n e1]
      simp [eX9_best_0, eX9_best_31, h_refuse n I L (-1) (by simp [isR]), jB_s]
    · have hJ := Mod_ref hM (-1)
      simp [eX10_best_0, eX10_best_8, m_isMoon, bmo_f (fun q => hm ((Mod_mo hJ _).mp q)), jB_s, n00t, m_no n _ L (-1) (by simp [isR])]
/-! believes -/
noncomputable def wH (I : jm_I) (h d m : Int32) : Int32 := thn (inr h (nI 4)) (thn (nmo I 13 m) (thn (wT (zT I)) (zout d (nI 0) (nI 999))))
theorem h_hold (n : Nat) (I : jm_I) (L : jm_L) (hI : Inv I) (h d m : Int32) : jE n rX9_wrongHolding 0 [.ref 9, .int h, .int d, .int m, .null] [] I L = some (some (.int (wH I h d m)), jS n I L) := by
  unfold wH
  by_cases hh : 0 ≤ h ∧ h < nI 4
  · rw [inr_t hh]
    simp only [eX9_wrongHolding_0, eX9_wrongHolding_8, eX9_wrongHolding_12, eX9_wrongHolding_13, h_isWithin, hh, and_self, if_true, jB_s, n10, if_false, h_noMoon, h_thn, thn_as, h_noT n I L hI, h_outside, n00]
  · rw [inr_f hh]
    simp only [eX9_wrongHolding_0, eX9_wrongHolding_8, eX9_wrongHolding_12, eX9_wrongHolding_13, h_isWithin, hh, if_false, jB_s, n00, if_true, h_noMoon, h_thn, thn_as, h_noT n I L hI, h_outside]
theorem wH_c (I : jm_I) (h d m : Int32) : (wH I h d m = 0 ∧ (0 ≤ h ∧ h < nI 4) ∧ mo I 13 m ∧ ¬ zT I = 0 ∧ zout d (nI 0) (nI 999) = 0) ∨ (wH I h d m = -1 ∧ (¬ (0 ≤ h ∧ h < nI 4) ∨ ((0 ≤ h ∧ h < nI 4) ∧ ¬ mo I 13 m))) ∨ (wH I h d m = -3 ∧ (0 ≤ h ∧ h < nI 4) ∧ mo I 13 m ∧ zT I = 0) ∨ (wH I h d m = zout d (nI 0) (nI 999) ∧ (0 ≤ h ∧ h < nI 4) ∧ mo I 13 m ∧ ¬ zT I = 0 ∧ ¬ zout d (nI 0) (nI 999) = 0) := by
  unfold wH
  have e1 : ¬ (-1 : Int32) = 0 := by decide
  have e3 : ¬ (-3 : Int32) = 0 := by decide
  by_cases hh : 0 ≤ h ∧ h < nI 4
  · rw [inr_t hh, thn_0]
    by_cases hm : mo I 13 m
    · rw [nmo_t hm, thn_0]
      by_cases h0 : zT I = 0
      · rw [show wT (zT I) = -3 from by unfold wT; rw [if_pos h0], thn_n e3]
        exact Or.inr (Or.inr (Or.inl ⟨rfl, hh, hm, h0⟩))
      · rw [show wT (zT I) = 0 from by unfold wT; rw [if_neg h0], thn_0]
        by_cases hz : zout d (nI 0) (nI 999) = 0
        · exact Or.inl ⟨hz, hh, hm, h0, hz⟩
        · exact Or.inr (Or.inr (Or.inr ⟨rfl, hh, hm, h0, hz⟩))
    · rw [nmo_f hm, thn_n e1]
      exact Or.inr (Or.inl ⟨rfl, Or.inr ⟨hh, hm⟩⟩)
  · rw [inr_f hh, thn_n e1]
    exact Or.inr (Or.inl ⟨rfl, Or.inl hh⟩)
theorem op_believes (n : Nat) (h d m : Int32) : Op n rX9_believes rX10_believes [.ref 9, .int h, .int d, .int m, .null] [.ref 111, .int h, .int d, .int m, .null] := by
  intro I L hI hM
  obtain ⟨eT, hT⟩ := Inv_T hI
  obtain ⟨e8, hN⟩ := Inv_N hI
  rcases wH_c I h d m with ⟨w0, hh, hm, h0, hz⟩ | ⟨w0, hq⟩ | ⟨w0, hh, hm, h0⟩ | ⟨w0, hh, hm, h0, hz⟩
  · obtain ⟨a, ha, ea, -⟩ := mo_ix hm
    obtain ⟨k, hk, ek⟩ := ix (by decide) hh
    subst ea; subst ek
    have hd : rg d 0 999 := rg_out (a := 0) (b := 999) (by decide) (by decide) hz
    have cc := c_came n I L (N := zN I) d hk hN e8
    obtain ⟨I1, L1, a1, a2, a3⟩ := cG n I I L hI (fun _ _ => rfl) (hasF I k d (zN I)) ha
    have cb := cB n I1 I L1 hI (FrJ_E a1 (fun _ _ => rfl)) (hasF I k d (zN I)) ha (by omega) a2
    have fC := FrJ_C a1
    have hM1 := FrC_M hM fC
    have hne : ¬ nI (zT I) = 0 := fun q => h0 ((nT0 hT).mp q)
    obtain ⟨K, L2, b1, b2⟩ := mB n I1 I L1 hI hM1 (hasF I k d (zN I)) ha (by omega)
    refine ⟨.int (nI (bst I a (hasF I k d (zN I)))), I1, L1, K, L2, ?_, ?_, Op_scr hI hM fC (FrM_S b1)⟩
    · simp [eX9_believes_0, eX9_believes_21, h_hold n I L hI, w0, jB_s, cc, a3, jB_v, cb]
    · simp [eX10_believes_0, eX10_believes_7, eX10_believes_21, eX10_believes_33, eX10_believes_42, eX10_believes_58, eX10_believes_69, m_isHolder, inb_t hh, jB_s, n10, m_isMoon, bmo_t ((Mod_mo hM1 _).mpr hm), M29 hI hM1, hne, m_out, hz, m_has n I1 I L1 d hk hI hM1 hd, b2]
  · refine Op_ref hI hM (.int (-1)) (-1) ?_ ?_
    · simp [eX9_believes_0, eX9_believes_14, h_hold n I L hI, w0, jB_s, h_refuse n I L (-1) (by simp [isR])]
    · have hJ := Mod_ref hM (-1)
      rcases hq with hh | ⟨hh, hm⟩
      · simp [eX10_believes_0, eX10_believes_15, m_isHolder, inb_f hh, jB_s, n00t, m_no n _ L (-1) (by simp [isR])]
      · simp [eX10_believes_0, eX10_believes_7, eX10_believes_15, m_isHolder, inb_t hh, jB_s, n10, n00t, m_isMoon, bmo_f (fun q => hm ((Mod_mo hJ _).mp q)), m_no n _ L (-1) (by simp [isR])]
  · refine Op_ref hI hM (.int (-3)) (-3) ?_ ?_
    · simp [eX9_believes_0, eX9_believes_14, h_hold n I L hI, w0, jB_s, h_refuse n I L (-3) (by simp [isR])]
    · have hJ := Mod_ref hM (-3)
      have z0 : nI (zT I) = 0 := by rw [h0]; rfl
      simp [eX10_believes_0, eX10_believes_7, eX10_believes_21, eX10_believes_28, eX10_believes_42, eX10_believes_49, eX10_believes_69, m_isHolder, inb_t hh, jB_s, n10, m_isMoon, bmo_t ((Mod_mo hJ _).mpr hm), M29 hI hJ, z0, m_no n _ L (-3) (by simp [isR])]
  · have hr := isR_of (isZ_out d (nI 0) (nI 999)) hz
    have hne : ¬ nI (zT I) = 0 := fun q => h0 ((nT0 hT).mp q)
    refine Op_ref hI hM (.int (zout d (nI 0) (nI 999))) (zout d (nI 0) (nI 999)) ?_ ?_
    · simp [eX9_believes_0, eX9_believes_14, h_hold n I L hI, w0, hz, jB_s, h_refuse n I L _ hr]
    · have hJ := Mod_ref hM (zout d (nI 0) (nI 999))
      simp [eX10_believes_0, eX10_believes_7, eX10_believes_21, eX10_believes_33, eX10_believes_42, eX10_believes_49, eX10_believes_69, m_isHolder, inb_t hh, jB_s, n10, m_isMoon, bmo_t ((Mod_mo hJ _).mpr hm), M29 hI hJ, hne, m_out, hz, m_no n _ L _ hr]
