theorem Mod_tab {I K : jm_I} (hM : Mod I I) (hw : ∀ a, 11 ≤ a → a ≤ 65 → a ≠ 35 → a ≠ 36 → a ≠ 37 → K a = I a) (h9 : K 9 = I 9) (h67 : K 67 = I 67) (h69 : K 69 = I 69) (h70 : K 70 = I 70) (hm : ∀ a, 112 ≤ a → a ≠ 134 → a ≠ 135 → K a = I a) (x20 : K 111 20 = I 111 20) (x22 : K 111 22 = I 111 22) (x41 : K 111 41 = I 111 41) (e28 : K 111 28 = K 66 1) (eT : K 111 29 = K 35 2) (e134 : ∀ t i, t < zT K → i < (K 37 t).toInt.toNat → K 134 (8 * t + i) = K 36 (3 * t + i)) (e135 : ∀ t, t < zT K → K 135 t = K 37 t) : Mod K K := by
  refine ⟨fun a j => ?_, fun a j => ?_, fun h a j => ?_⟩
  · by_cases h111 : a = 111
    · subst h111
      refine ⟨fun e => ?_, fun e => ?_⟩
      · subst e; rw [x20, hw 26 (by decide) (by decide) (by decide) (by decide) (by decide)]; exact (hM.1 111 20).1 rfl
      · subst e; exact eT
    · by_cases h134 : a = 134
      · subst h134
        intro t i e ht hi
        subst e
        exact e134 t i ht hi
      · by_cases h135 : a = 135
        · subst h135
          intro ht
          exact e135 j ht
        · by_cases ha : 112 ≤ a
          · have q := hM.1 a j
            rw [hm a ha h134 h135]
            revert q
            have eN : zN K = zN I := by unfold zN; rw [hw 26 (by decide) (by decide) (by decide) (by decide) (by decide)]
            have w : ∀ b, 11 ≤ b ∧ b ≤ 34 → K b = I b := fun b hb => hw b hb.1 (by omega) (by omega) (by omega) (by omega)
            generalize I a j = x
            unfold modW
            rw [eN, w 14 (by decide), w 15 (by decide), w 16 (by decide), w 17 (by decide), w 18 (by decide), w 11 (by decide), w 13 (by decide), w 22 (by decide), w 23 (by decide), w 24 (by decide), w 25 (by decide), w 27 (by decide), w 28 (by decide), w 29 (by decide), w 30 (by decide), w 31 (by decide), w 32 (by decide), w 33 (by decide), w 19 (by decide), w 20 (by decide), w 34 (by decide)]
            split <;> intro q <;> first | exact q | exact absurd rfl h111 | exact absurd rfl h134 | exact absurd rfl h135
          · unfold modW
            split <;> first | omega | trivial
  · have q := hM.2.1 a j
    by_cases h1 : a = 111
    · subst h1
      refine ⟨fun e => ?_, fun e => ?_, fun e => ?_⟩
      · subst e; rw [x22, h9]; exact q.1 rfl
      · subst e; exact e28
      · subst e; rw [x41, h9]; exact q.2.2 rfl
    · by_cases ha : a = 112 ∨ a = 120 ∨ a = 132 ∨ a = 133
      · rw [hm a (by omega) (by omega) (by omega)]
        revert q
        generalize I a j = x
        unfold modX
        rw [h69, h70, h67]
        split <;> intro q <;> first | exact absurd rfl h1 | exact q
      · unfold modX
        split <;> first | omega | trivial
  · have e : kV K a j = kV I a j := by
      unfold kV
      rw [hm 144 (by decide) (by decide) (by decide)]
    rw [e]
    rw [h9] at h
    exact modW_congr (A := fun a => I (a + 28)) (B := fun a => K (a + 28)) (fun b h1 h2 => hw (b + 28) (by omega) (by omega) (by omega) (by omega) (by omega)) a j _ (hM.2.2 h a j)
theorem c_tadd (n : Nat) (C : jm_I) (L : jm_L) {t k : Nat} (ht : t < 8) (hk : k ≤ 3) (e35 : C 35 2 = nI t) (e66 : C 66 3 = nI k) : jE n rX4_add 0 [.ref 35, .ref 66, .null] [] C L = some (none, jS n (jm_u (jm_u (jm_uA C 36 (psK (C 36) (3 * t) (C 68) k)) 37 t (nI k)) 35 2 (nI (t + 1))) L) := by
  have c0 : nI t < nI 8 := nI_lt ht (by decide)
  have key : ∀ (d i : Nat), i + d = k → jE n rX4_add 12 [.ref 35, .ref 66, .int (nI i)] [] (jm_uA C 36 (psK (C 36) (3 * t) (C 68) i)) L = jE n rX4_add 45 [.ref 35, .ref 66, .int (nI k)] [] (jm_uA C 36 (psK (C 36) (3 * t) (C 68) k)) L := by
    intro d
    induction d with
    | zero =>
      intro i hi
      have : i = k := by omega
      subst this
      have c : nI i ≤ nI i := Int32.le_refl _
      have q : jm_uA C 36 (psK (C 36) (3 * t) (C 68) i) 66 3 = nI i := by rw [jm_uA_ne _ _ (by decide), e66]
      simp only [eX4_add_12, q, c, if_true]
    | succ d ih =>
      intro i hi
      have c : ¬ nI k ≤ nI i := nI_ge (by omega) (by omega)
      have q : jm_uA C 36 (psK (C 36) (3 * t) (C 68) i) 66 3 = nI k := by rw [jm_uA_ne _ _ (by decide), e66]
      have q2 : jm_uA C 36 (psK (C 36) (3 * t) (C 68) i) 35 2 = nI t := by rw [jm_uA_ne _ _ (by decide), e35]
      have q3 : jm_uA C 36 (psK (C 36) (3 * t) (C 68) i) 68 = C 68 := by rw [jm_uA_ne _ _ (by decide)]
      have hd0 : jE n rX4_add 12 [.ref 35, .ref 66, .int (nI i)] [] (jm_uA C 36 (psK (C 36) (3 * t) (C 68) i)) L = jE n rX4_add 20 [.ref 35, .ref 66, .int (nI i)] [] (jm_uA C 36 (psK (C 36) (3 * t) (C 68) i)) L := by
        simp only [eX4_add_12, q, c, if_false]
      rw [hd0]
      have hx : 3 * t + i < 24 := by omega
      have hi3 : i < 3 := by omega
      have cm : t * 3 + i = 3 * t + i := by omega
      have st : jm_u (jm_uA C 36 (psK (C 36) (3 * t) (C 68) i)) 36 (3 * t + i) (C 68 i) = jm_uA C 36 (psK (C 36) (3 * t) (C 68) (i + 1)) := by
        rw [← psK_s]
        funext b j
        simp only [jm_u_ap, jm_uA_ap]
        by_cases h : b = 36 <;> simp [h]
      simp only [eX4_add_20, q2, q3, pk_mul, nI_add, cm, jLI_t, jLW_t, jLL_t, jLZ_t, jLA_t, hx, hi3, st]
      exact ih (i + 1) (by omega)
  have k0 := key k 0 (Nat.zero_add _)
  rw [psK_0, show jm_uA C 36 (C 36) = C from by funext b j; rw [jm_uA_ap]; split; rename_i h; rw [h]; rfl] at k0
  have e0 : jE n rX4_add 0 [.ref 35, .ref 66, .null] [] C L = jE n rX4_add 12 [.ref 35, .ref 66, .int (nI 0)] [] C L := by
    simp only [eX4_add_0, eX4_add_10, e35, c0, if_true]
  rw [e0, k0]
  have q1 : jm_uA C 36 (psK (C 36) (3 * t) (C 68) k) 35 2 = nI t := by rw [jm_uA_ne _ _ (by decide), e35]
  have q2 : jm_uA C 36 (psK (C 36) (3 * t) (C 68) k) 66 3 = nI k := by rw [jm_uA_ne _ _ (by decide), e66]
  have q3 : jm_u (jm_uA C 36 (psK (C 36) (3 * t) (C 68) k)) 37 t (nI k) 35 2 = nI t := by rw [jm_u_ne _ _ _ (by decide), q1]
  simp only [eX4_add_45, q1, q2, jLI_t, jLW_t, jLL_t, jLZ_t, jLA_t, ht, q3, nI_add]
theorem jS_inj {n : Nat} {I J : jm_I} {L M : jm_L} (h : jS n I L = jS n J M) : I = J := congrArg (fun s : jm_S => s.2.2.2.1) h
theorem op_table (n : Nat) : Op n rX9_table rX10_table [.ref 9, .null] [.ref 111, .null] := by
  intro I L hI hM
  obtain ⟨eT, hT⟩ := Inv_T hI
  obtain ⟨eX, hX⟩ := Inv_X hI
  have em : I 111 29 = nI (zT I) := by rw [← eT]; exact (hM.1 111 29).2 rfl
  have ex : I 111 28 = nI (zX I) := by rw [← eX]; exact (hM.2.1 111 28).2.1 rfl
  by_cases h8 : zT I = 8
  · rw [h8] at eT em
    have c1 : ¬ nI 8 < nI 8 := by decide
    refine Op_ref hI hM (.int (-6)) (-6) ?_ ?_
    · simp [eX9_table_0, eX9_table_15, eT, c1, h_refuse n I L (-6) (by simp [isR]), jB_s]
    · have em2 : rf I (rz (-6)) 111 29 = nI 8 := by simp [rf_ap, em]
      simp [eX10_table_0, eX10_table_9, em2, m_no n _ L (-6) (by simp [isR]), jB_s]
  · have ht : zT I < 8 := by omega
    generalize htt : zT I = t at *
    have c1 : nI t < nI 8 := nI_lt ht (by decide)
    have c2 : ¬ nI t = nI 8 := fun q => by have := (nI_inj (by omega) (by decide)).mp q; omega
    -- the class's reading, and the model's from any state that has the model's cells
    have hR : ∀ M : jm_I, (∀ a, 111 ≤ a → M a = I a) → TR (jm_u I 66 3 (nI 0)) (jm_u (jm_u M 111 30 (nI 0)) 135 t (nI 0)) (zX I) t 0 0 := by
      intro M hMc
      refine ⟨?_, ?_, ?_, ?_, ?_, fun i hi => absurd hi (by omega), fun j hj => ?_⟩
      · rw [jm_u_eq, if_neg (by decide)]; exact eX
      · rw [jm_u_eq, if_pos rfl]
      · rw [jm_u_ne _ _ _ (by decide), jm_u_eq, if_neg (by decide), hMc 111 (by decide)]; exact ex
      · rw [jm_u_ne _ _ _ (by decide), jm_u_eq, if_pos rfl]
      · rw [jm_u_eq, if_pos rfl]
      · rw [jm_u_ne _ _ _ (by decide), jm_u_ne _ _ _ (by decide), hMc 133 (by decide), jm_u_ne _ _ _ (by decide)]; exact hM.2.1 133 j hj
    obtain ⟨o, C', J', F, E, hc, -⟩ := t_loop n L L hX ht 3 0 0 _ _ .null rfl (Nat.zero_le _) (hR I (fun _ _ => rfl))
    -- the model on any state with these cells
    have hmod : ∀ M : jm_I, (∀ a, 111 ≤ a → M a = I a) → ∃ J2 : jm_I, TF (jm_u I 66 3 (nI 0)) C' (jm_u (jm_u M 111 30 (nI 0)) 135 t (nI 0)) J2 t ∧ TE C' J2 t o ∧ jE n rX10_reads 0 [.ref 111, .int (nI t), .null] [] M L = some (some (.int (oG o)), jS n J2 L) := by
      intro M hMc
      obtain ⟨o2, C2, J2, F2, E2, hc2, hm2⟩ := t_loop n L L hX ht 3 0 0 _ _ .null rfl (Nat.zero_le _) (hR M hMc)
      have heq := hc.symm.trans hc2
      have hC : C' = C2 := jS_inj (congrArg Prod.snd (Option.some.inj heq))
      have ho : oF o = oF o2 := by
        have := congrArg Prod.fst (Option.some.inj heq)
        exact Value.int.inj (Option.some.inj this)
      have ho2 : o = o2 := by
        cases o with
        | none =>
          cases o2 with
          | none => rfl
          | some q =>
            have := congrArg Int32.toInt ho
            have e1 : (oF none).toInt = -1 := by decide
            have e2 : (oF (some q)).toInt = q := nI_toInt (by have := E2.1; omega)
            omega
        | some q =>
          cases o2 with
          | none =>
            have := congrArg Int32.toInt ho
            have e1 : (oF none).toInt = -1 := by decide
            have e2 : (oF (some q)).toInt = q := nI_toInt (by have := E.1; omega)
            omega
          | some q2 =>
            congr 1
            exact (nI_inj (by have := E.1; omega) (by have := E2.1; omega)).mp ho
      subst hC; subst ho2
      refine ⟨J2, F2, E2, ?_⟩
      have ht9 : t < 9 := by omega
      simp only [eX10_reads_0, jLI_t, jLW_t, jLL_t, jLZ_t, jLA_t, ht9]
      exact hm2
    have hc0 : jE n rX5_faultPlace 0 [.ref 66, .null, .null] [] I L = some (some (.int (oF o)), jS n C' L) := by
      simp only [eX5_faultPlace_0]
      exact hc
    have cI : ∀ a, a ≠ 66 → a ≠ 68 → C' a = I a := fun a h1 h2 => (F.c1 a h1 h2).trans (jm_u_ne _ _ _ h1)
    have jI : ∀ (M J2 : jm_I), TF (jm_u I 66 3 (nI 0)) C' (jm_u (jm_u M 111 30 (nI 0)) 135 t (nI 0)) J2 t → (∀ a, a ≠ 111 → a ≠ 134 → a ≠ 135 → J2 a = M a) ∧ (∀ j, j ≠ 30 → J2 111 j = M 111 j) ∧ (∀ j, j ≠ t → J2 135 j = M 135 j) ∧ (∀ j, j < 8 * t ∨ 8 * t + 3 ≤ j → J2 134 j = M 134 j) := by
      intro M J2 F2
      refine ⟨fun a h1 h2 h3 => ?_, fun j h => ?_, fun j h => ?_, fun j h => ?_⟩
      · rw [F2.j1 a h1 h2 h3, jm_u_ne _ _ _ h3, jm_u_ne _ _ _ h1]
      · rw [F2.j2 j h, jm_u_ne _ _ _ (by decide), jm_u_eq, if_neg h]
      · rw [F2.j3 j h, jm_u_eq, if_neg h, jm_u_ne _ _ _ (by decide)]
      · rw [F2.j4 j h, jm_u_ne _ _ _ (by decide), jm_u_ne _ _ _ (by decide)]
    have len : ∀ t', t' < 8 → (I 37 t').toInt.toNat ≤ 3 := fun t' h => len3 hI h
    cases o with
    | some q =>
      have hq : q ≤ 21 := E.1
      have cq : ¬ nI q < 0 := nI_pos (by omega)
      have hM1 : ∀ a, 111 ≤ a → jm_u C' 66 1 (nI 0) a = I a := fun a ha => by rw [jm_u_ne _ _ _ (by omega), cI a (by omega) (by omega)]
      obtain ⟨J2, F2, E2, hm2⟩ := hmod (jm_u C' 66 1 (nI 0)) hM1
      obtain ⟨g1, g2, g3, g4⟩ := jI _ _ F2
      have i29 : jm_u C' 66 1 (nI 0) 111 29 = nI t := by rw [hM1 111 (by decide)]; exact em
      have j30 : jm_u J2 111 28 (nI 0) 111 30 = nI q := by rw [jm_u_eq, if_neg (by decide)]; exact E2.2
      refine ⟨.int (-20 - nI q), jm_u C' 66 1 (nI 0), L, jm_u J2 111 28 (nI 0), L, ?_, ?_, ?_, ?_⟩
      · simp only [eX9_table_0, eX9_table_22, eX9_table_42, eT, c1, if_true, hc0, jB_s, oF, cq, if_false]
      · simp only [eX10_table_0, eX10_table_16, eX10_table_34, i29, c2, not_false_eq_true, if_true, hm2, jB_s, oG, n00t, not_true, if_false, j30]
      · intro a j ha
        rw [jm_u_ne _ _ _ (by omega), g1 a (by omega) (by omega) (by omega)]
        by_cases h66 : a = 66
        · subst h66
          intro e
          subst e
          rw [jm_u_eq, if_pos rfl]
          exact nI_rg (k := 20) (by omega) (by decide)
        · rw [jm_u_ne _ _ _ h66]
          by_cases h68 : a = 68
          · subst h68; trivial
          · rw [cI a h66 h68]; exact hI a j ha
      · have kc : ∀ a, a < 111 → a ≠ 66 → a ≠ 68 → jm_u J2 111 28 (nI 0) a = I a := fun a h1 h2 h3 => by
          rw [jm_u_ne _ _ _ (by omega), g1 a (by omega) (by omega) (by omega), jm_u_ne _ _ _ h2, cI a h2 h3]
        have zt : zT (jm_u J2 111 28 (nI 0)) = t := by
          unfold zT
          rw [kc 35 (by decide) (by decide) (by decide), eT, zn (by omega)]
        refine Mod_tab hM (fun a h1 h2 _ _ _ => kc a (by omega) (by omega) (by omega)) (kc 9 (by decide) (by decide) (by decide)) (kc 67 (by decide) (by decide) (by decide)) (kc 69 (by decide) (by decide) (by decide)) (kc 70 (by decide) (by decide) (by decide)) (fun a h1 h2 h3 => ?_) ?_ ?_ ?_ ?_ ?_ (fun t' i h1 h2 => ?_) (fun t' h1 => ?_)
        · rw [jm_u_ne _ _ _ (by omega), g1 a (by omega) h2 h3, hM1 a (by omega)]
        · rw [jm_u_eq, if_neg (by decide), g2 20 (by decide), hM1 111 (by decide)]
        · rw [jm_u_eq, if_neg (by decide), g2 22 (by decide), hM1 111 (by decide)]
        · rw [jm_u_eq, if_neg (by decide), g2 41 (by decide), hM1 111 (by decide)]
        · rw [jm_u_eq, if_pos rfl, jm_u_ne _ _ _ (by decide), g1 66 (by decide) (by decide) (by decide), jm_u_eq, if_pos rfl]
        · rw [jm_u_eq, if_neg (by decide), g2 29 (by decide), i29, kc 35 (by decide) (by decide) (by decide), eT]
        · rw [zt] at h1
          rw [kc 37 (by decide) (by decide) (by decide)] at h2
          have := len t' (by omega)
          rw [jm_u_ne _ _ _ (by decide), g4 _ (by omega), hM1 134 (by decide), kc 36 (by decide) (by decide) (by decide)]
          exact hM.1 134 (8 * t' + i) t' i rfl (by omega) h2
        · rw [zt] at h1
          rw [jm_u_ne _ _ _ (by decide), g3 _ (by omega), hM1 135 (by decide), kc 37 (by decide) (by decide) (by decide)]
          exact hM.1 135 t' (by omega)
    | none =>
      obtain ⟨k, hk3, e66, -, -⟩ := E
      have m1 : (-1 : Int32) < 0 := by decide
      have d35 : jm_u C' 66 1 (nI 0) 35 2 = nI t := by rw [jm_u_ne _ _ _ (by decide), cI 35 (by decide) (by decide)]; exact eT
      have d66 : jm_u C' 66 1 (nI 0) 66 3 = nI k := by rw [jm_u_eq, if_neg (by decide)]; exact e66
      have hadd := c_tadd n (jm_u C' 66 1 (nI 0)) L ht hk3 d35 d66
      generalize hD : jm_u (jm_u (jm_uA (jm_u C' 66 1 (nI 0)) 36 (psK (jm_u C' 66 1 (nI 0) 36) (3 * t) (jm_u C' 66 1 (nI 0) 68) k)) 37 t (nI k)) 35 2 (nI (t + 1)) = D at hadd
      have D35 : D 35 2 = nI (t + 1) := by rw [← hD, jm_u_eq, if_pos rfl]
      have D37 : ∀ j, D 37 j = if j = t then nI k else I 37 j := fun j => by
        rw [← hD, jm_u_ne _ _ _ (by decide), jm_u_eq, jm_uA_ne _ _ (by decide), jm_u_ne _ _ _ (by decide), cI 37 (by decide) (by decide)]
      have D36 : D 36 = psK (I 36) (3 * t) (C' 68) k := by
        rw [← hD, jm_u_ne _ _ _ (by decide), jm_u_ne _ _ _ (by decide), jm_uA_ap, if_pos rfl, jm_u_ne _ _ _ (by decide), jm_u_ne _ _ _ (by decide), cI 36 (by decide) (by decide)]
      have D66 : ∀ j, D 66 j = if j = 1 then nI 0 else C' 66 j := fun j => by
        rw [← hD, jm_u_ne _ _ _ (by decide), jm_u_ne _ _ _ (by decide), jm_uA_ne _ _ (by decide), jm_u_eq]
      have Dx : ∀ a, a ≠ 66 → a ≠ 68 → a ≠ 35 → a ≠ 36 → a ≠ 37 → D a = I a := fun a h1 h2 h3 h4 h5 => by
        rw [← hD, jm_u_ne _ _ _ h3, jm_u_ne _ _ _ h5, jm_uA_ne _ _ h4, jm_u_ne _ _ _ h1, cI a h1 h2]
      have hM1 : ∀ a, 111 ≤ a → D a = I a := fun a ha => Dx a (by omega) (by omega) (by omega) (by omega) (by omega)
      obtain ⟨J2, F2, E2, hm2⟩ := hmod D hM1
      obtain ⟨g1, g2, g3, g4⟩ := jI _ _ F2
      obtain ⟨k2, hk2b, f66, f135, fT⟩ := E2
      have hk2 : k2 = k := (nI_inj (by omega) (by omega)).mp (f66.symm.trans e66)
      subst hk2
      have i29 : D 111 29 = nI t := by rw [hM1 111 (by decide)]; exact em
      have j29 : jm_u J2 111 28 (nI 0) 111 29 = nI t := by rw [jm_u_eq, if_neg (by decide), g2 29 (by decide), i29]
      have es : nI (t + 1) - nI 1 = nI t := nI_sb (by omega)
      refine ⟨.int (nI t), D, L, jm_u (jm_u J2 111 28 (nI 0)) 111 29 (nI (t + 1)), L, ?_, ?_, ?_, ?_⟩
      · simp only [eX9_table_0, eX9_table_22, eX9_table_47, eT, c1, if_true, hc0, jB_s, oF, m1, hadd, jB_v, D35, es]
      · have j29b : jm_u (jm_u J2 111 28 (nI 0)) 111 29 (nI (t + 1)) 111 29 = nI (t + 1) := by rw [jm_u_eq, if_pos rfl]
        simp only [eX10_table_0, eX10_table_16, eX10_table_42, i29, c2, not_false_eq_true, if_true, hm2, jB_s, oG, n10, j29, nI_add, j29b, es]
      · intro a j ha
        rw [jm_u_ne _ _ _ (by omega), jm_u_ne _ _ _ (by omega), g1 a (by omega) (by omega) (by omega)]
        by_cases h66 : a = 66
        · subst h66
          intro e
          subst e
          rw [D66, if_pos rfl]
          exact nI_rg (k := 20) (by omega) (by decide)
        · by_cases h68 : a = 68
          · subst h68; trivial
          · by_cases h35 : a = 35
            · subst h35
              intro e
              subst e
              rw [D35]
              exact nI_rg (k := 8) (by omega) (by decide)
            · by_cases h36 : a = 36
              · subst h36
                intro e
                rw [D36]
                unfold psK
                split
                · rename_i q
                  obtain ⟨-, w, hw, ew⟩ := fT (j - 3 * t) (by omega)
                  rw [ew]
                  exact nI_rg (k := 6) hw (by decide)
                · exact hI 36 j (by decide) e
              · by_cases h37 : a = 37
                · subst h37
                  intro e
                  rw [D37]
                  split
                  · exact nI_rg (k := 3) hk3 (by decide)
                  · exact hI 37 j (by decide) e
                · rw [Dx a h66 h68 h35 h36 h37]; exact hI a j ha
      · have kD : ∀ a, a < 111 → jm_u (jm_u J2 111 28 (nI 0)) 111 29 (nI (t + 1)) a = D a := fun a h1 => by
          rw [jm_u_ne _ _ _ (by omega), jm_u_ne _ _ _ (by omega), g1 a (by omega) (by omega) (by omega)]
        have zt : zT (jm_u (jm_u J2 111 28 (nI 0)) 111 29 (nI (t + 1))) = t + 1 := by
          unfold zT
          rw [kD 35 (by decide), D35, zn (by omega)]
        refine Mod_tab hM (fun a h1 h2 h3 h4 h5 => ?_) ?_ ?_ ?_ ?_ (fun a h1 h2 h3 => ?_) ?_ ?_ ?_ ?_ ?_ (fun t' i h1 h2 => ?_) (fun t' h1 => ?_)
        · rw [kD a (by omega), Dx a (by omega) (by omega) h3 h4 h5]
        · rw [kD 9 (by omega), Dx 9 (by omega) (by omega) (by omega) (by omega) (by omega)]
        · rw [kD 67 (by omega), Dx 67 (by omega) (by omega) (by omega) (by omega) (by omega)]
        · rw [kD 69 (by omega), Dx 69 (by omega) (by omega) (by omega) (by omega) (by omega)]
        · rw [kD 70 (by omega), Dx 70 (by omega) (by omega) (by omega) (by omega) (by omega)]
        · rw [jm_u_ne _ _ _ (by omega), jm_u_ne _ _ _ (by omega), g1 a (by omega) h2 h3, hM1 a (by omega)]
        · rw [jm_u_eq, if_neg (by decide), jm_u_eq, if_neg (by decide), g2 20 (by decide), hM1 111 (by decide)]
        · rw [jm_u_eq, if_neg (by decide), jm_u_eq, if_neg (by decide), g2 22 (by decide), hM1 111 (by decide)]
        · rw [jm_u_eq, if_neg (by decide), jm_u_eq, if_neg (by decide), g2 41 (by decide), hM1 111 (by decide)]
        · rw [jm_u_eq, if_neg (by decide), jm_u_eq, if_pos rfl, kD 66 (by decide), D66, if_pos rfl]
        · rw [jm_u_eq, if_pos rfl, kD 35 (by decide), D35]
        · rw [zt] at h1
          rw [kD 37 (by decide), D37] at h2
          rw [jm_u_ne _ _ _ (by decide), jm_u_ne _ _ _ (by decide), kD 36 (by decide), D36]
          by_cases e : t' = t
          · subst e
            rw [if_pos rfl, zn (by omega)] at h2
            rw [psK_in _ _ h2]
            exact (fT i h2).1
          · rw [if_neg e] at h2
            have := len t' (by omega)
            rw [g4 _ (by omega), hM1 134 (by decide), psK_out _ _ (by omega)]
            exact hM.1 134 (8 * t' + i) t' i rfl (by omega) h2
        · rw [zt] at h1
          rw [jm_u_ne _ _ _ (by decide), jm_u_ne _ _ _ (by decide), kD 37 (by decide), D37]
          by_cases e : t' = t
          · subst e
            rw [if_pos rfl]
            exact f135
          · rw [if_neg e, g3 _ e, hM1 135 (by decide)]
            exact hM.1 135 t' (by omega)
