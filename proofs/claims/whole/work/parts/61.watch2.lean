theorem c_watch_t (n : Nat) (A : jm_I) (hA : Inv A) {m a b N nn : Nat} (hm : m < 4) (ha : a + N ≤ 1000) (hN : N ≤ 12) (v5 : Int32) : ∀ (d t : Nat) (I : jm_I) (L : jm_L), t + d = zT A → E71 I A → Hrd (L 108) A m a N t → ∃ (I' : jm_I) (L' : jm_L), FrJ I' I ∧ Hrd (L' 108) A m a N (zT A) ∧ jE n rX9_watch 143 [.ref 9, .int (nI m), .int (nI a), .int (nI b), .int (nI nn), .int v5, .int (nI N), .int (nI t)] [] I L = jE n rX9_watch 195 [.ref 9, .int (nI m), .int (nI a), .int (nI b), .int (nI nn), .int v5, .int (nI N), .int (nI (zT A))] [] I' L' := by
  obtain ⟨eT, h8⟩ := Inv_T hA
  intro d
  induction d with
  | zero =>
    intro t I L ht hE hH
    have : t = zT A := by omega
    subst this
    have eI : I 35 2 = nI (zT A) := by rw [hE 35 (by decide)]; exact eT
    have cc : nI (zT A) ≤ nI (zT A) := Int32.le_refl _
    refine ⟨I, L, FrJ_0 I, hH, ?_⟩
    simp only [eX9_watch_143, eI, cc, if_true]
  | succ d ih =>
    intro t I L ht hE hH
    have ht8 : t < 8 := by omega
    have eI : I 35 2 = nI (zT A) := by rw [hE 35 (by decide)]; exact eT
    have cc : ¬ nI (zT A) ≤ nI t := nI_ge (by omega) (by omega)
    have s1 := c_allSights n I L (E71_I hE hA)
    rw [E_zN hE] at s1
    obtain ⟨I1, L1, a1, a2, a3, a4, a5, a6⟩ := cF n I A L hA hE (zall (zN A)) ht8 hm
    have a4' : jE n rX0_fitNumbers 0 [.ref (fB t), .null, .null, .null] [] I1 L1 = some (some (.int (nI (aν A t m))), jS n I1 L1) := a4
    have hν := aν_rg hA ht8 m
    have ch := c_hear n I1 A L1 hA (Fr_E a1 hE) ht8 hm ha hN (show aν A t m < 2147483648 by omega)
    have e108 : L1 108 = L 108 := a1.fl 108 (by decide) (by unfold fS; omega)
    obtain ⟨I', L', r1, r2, r3⟩ := ih (t + 1) I1 (jm_uA L1 108 (fl2 (L1 108) (12 * t) (fun i => zsaid A t m (a + i) (aν A t m)) N)) (by omega) (Fr_E a1 hE) (by
      rw [lA_eq]
      intro t' i ht' hi
      by_cases e : t' = t
      · subst e; exact fl2_t _ _ _ hi
      · rw [fl2_f _ _ _ (by omega), e108]
        exact hH t' i (by omega) hi)
    refine ⟨I', L', FrJ_t (FrJ_F ht8 a1) r1, r2, ?_⟩
    have hd0 : jE n rX9_watch 143 [.ref 9, .int (nI m), .int (nI a), .int (nI b), .int (nI nn), .int v5, .int (nI N), .int (nI t)] [] I L = jE n rX9_watch 158 [.ref 9, .int (nI m), .int (nI a), .int (nI b), .int (nI nn), .int v5, .int (nI N), .int (nI t)] [] I L := by
      simp only [eX9_watch_143, eI, cc, if_false]
    rw [hd0]
    simp only [eX9_watch_158, s1, jB_s, jB_v, ht8, a3, a4', ch, nI_add]
    exact r3
theorem op_watch (n : Nat) (m a b k : Int32) : Op n rX9_watch rX10_watch [.ref 9, .int m, .int a, .int b, .int k, .null, .null, .null] [.ref 111, .int m, .int a, .int b, .int k, .null, .null, .null, .null, .null, .null, .null] := by
  intro I L hI hM
  obtain ⟨eT, hT⟩ := Inv_T hI
  have e1 : ¬ (-1 : Int32) = 0 := by decide
  have c00 : jE n rX9_watch 0 [.ref 9, .int m, .int a, .int b, .int k, .null, .null, .null] [] I L = jE n rX9_watch 7 [.ref 9, .int m, .int a, .int b, .int k, .int (nmo I 13 m), .null, .null] [] I L := by
    simp only [eX9_watch_0, h_noMoon, jB_s]
  have c0 : jE n rX9_watch 0 [.ref 9, .int m, .int a, .int b, .int k, .null, .null, .null] [] I L = jE n rX9_watch 121 [.ref 9, .int m, .int a, .int b, .int k, .int (thn (nmo I 13 m) (wW k a b)), .null, .null] [] I L := by
    rw [c00, c_watch_a]
    rfl
  by_cases hm : mo I 13 m
  · rw [nmo_t hm, thn_0] at c0
    have m0 : ∀ (J : jm_I) (L : jm_L), Mod J I → jE n rX10_watch 0 [.ref 111, .int m, .int a, .int b, .int k, .null, .null, .null, .null, .null, .null, .null] [] J L = jE n rX10_watch 14 [.ref 111, .int m, .int a, .int b, .int k, .null, .null, .null, .null, .null, .null, .null] [] J L := by
      intro J L hJ
      simp [eX10_watch_0, m_isMoon, bmo_t ((Mod_mo hJ _).mpr hm), jB_s, n10]
    by_cases hz : wW k a b = 0
    · have hz2 := hz
      unfold wW at hz2
      rw [thn_eq0, thn_eq0, thn_eq0] at hz2
      obtain ⟨z1, z2, z3, z4⟩ := hz2
      have g1 : ¬ (k < nI 1 ∨ a < 0 ∨ b < 0) := fun w => by unfold w1 at z1; rw [if_pos w] at z1; exact absurd z1 (by decide)
      have g2 : ¬ (nI 4 < k ∨ nI 999 < a ∨ nI 999 < b) := fun w => by unfold w2 at z2; rw [if_pos w] at z2; exact absurd z2 (by decide)
      have g3 : ¬ nI 12 ≤ b - a := fun w => by unfold w3' at z3; rw [if_pos w] at z3; exact absurd z3 (by decide)
      have g4 : ¬ b - a + nI 1 < k := fun w => by unfold w4' at z4; rw [if_pos w] at z4; exact absurd z4 (by decide)
      have zr : ∀ q : Int32, ¬ q < 0 → ¬ nI 999 < q → rg q 0 999 := fun q p1 p2 => by
        rw [Int32.lt_iff_toInt_lt, show (0 : Int32).toInt = 0 from by decide] at p1
        rw [Int32.lt_iff_toInt_lt, show (nI 999).toInt = 999 from by decide] at p2
        exact ⟨by omega, by omega⟩
      have zk : rg k 0 4 := by
        have p1 : ¬ k < nI 1 := fun w => g1 (Or.inl w)
        have p2 : ¬ nI 4 < k := fun w => g2 (Or.inl w)
        rw [Int32.lt_iff_toInt_lt, show (nI 1).toInt = 1 from by decide] at p1
        rw [Int32.lt_iff_toInt_lt, show (nI 4).toInt = 4 from by decide] at p2
        exact ⟨by omega, by omega⟩
      obtain ⟨ka, ha, ea⟩ := rg_nI (k := 999) (by decide) (zr a (fun w => g1 (Or.inr (Or.inl w))) (fun w => g2 (Or.inr (Or.inl w))))
      obtain ⟨kb, hb, eb⟩ := rg_nI (k := 999) (by decide) (zr b (fun w => g1 (Or.inr (Or.inr w))) (fun w => g2 (Or.inr (Or.inr w))))
      obtain ⟨kn, hn, en⟩ := rg_nI (k := 4) (by decide) zk
      obtain ⟨q, hq, eq, -⟩ := mo_ix hm
      subst ea; subst eb; subst en; subst eq
      have hkn : 1 ≤ kn := by
        rcases Nat.lt_or_ge kn 1 with w | w
        · exact absurd (Or.inl (nI_lt w (by decide))) g1
        · exact w
      have ed : nI kb - nI ka = iZ ((kb : Int) - ka) := by rw [nI_iZ, nI_iZ, iZ_sub]
      have ed1 : nI kb - nI ka + nI 1 = iZ ((kb : Int) - ka + 1) := by rw [ed, show nI 1 = iZ 1 from rfl, iZ_add]
      have q3 : ¬ (12 : Int) ≤ (kb : Int) - ka := fun w => g3 (by
        rw [ed, show nI 12 = iZ 12 from rfl]
        exact (iZ_le ⟨by omega, by omega⟩ ⟨by omega, by omega⟩).mpr w)
      have q4 : ¬ (kb : Int) - ka + 1 < kn := fun w => g4 (by
        rw [ed1, nI_iZ kn]
        exact (iZ_lt ⟨by omega, by omega⟩ ⟨by omega, by omega⟩).mpr w)
      obtain ⟨N, hNe⟩ : ∃ N : Nat, (N : Int) = (kb : Int) - ka + 1 := ⟨((kb : Int) - ka + 1).toNat, by omega⟩
      have hab : nI kb - nI ka + nI 1 = nI N := by rw [ed1, ← hNe, ← nI_iZ]
      have hN : N ≤ 12 := by omega
      have haN : ka + N ≤ 1000 := by omega
      obtain ⟨I1, L1, a1, a2, a3⟩ := c_watch_t n I hI (b := kb) (nn := kn) hq haN hN 0 (zT I) 0 I L (Nat.zero_add _) (fun _ _ => rfl) (fun t i ht => absurd ht (by omega))
      have hE1 := FrJ_E a1 (fun _ _ => rfl)
      obtain ⟨L2, b1, b2⟩ := c_compare n I1 I L1 hI hE1 hq haN hN a2
      obtain ⟨R, b3⟩ := c_bestNights n (jm_u I1 107 4 (nI (pij (zT I)))) I L2 hI hq haN hN hn (by rw [jm_u_eq, if_pos rfl]) b1
      have fC : FrC (jm_uA (jm_u I1 107 4 (nI (pij (zT I)))) 110 R) I := fun c hc => by
        rw [jm_uA_ne _ _ (by omega), jm_u_ne _ _ _ (by omega)]
        exact a1 c (by omega)
      have hM2 := FrC_M hM fC
      obtain ⟨K, L3, d1, d2, d3⟩ := mFs n (jm_uA (jm_u I1 107 4 (nI (pij (zT I)))) 110 R) I L2 hI hM2 hq
      have hMK := Mod_fr hI hM2 d1
      have hp2 : 1 ≤ 2 ^ N := Nat.one_le_two_pow
      have ml := m_watch_l n K I L3 hI hMK hq haN hN hn hab d2 0 (2 ^ N - 1) 1 .null .null (by omega)
      have a0 : amin (wf I q ka) (wok kn) 1 = none := by
        rw [amin_n (by show ¬ cnt 0 12 = kn; rw [show cnt 0 12 = 0 from by decide]; omega)]
        rfl
      rw [a0] at ml
      refine ⟨.int (rb1 (amin (wf I q ka) (wok kn) (2 ^ N))), jm_uA (jm_u I1 107 4 (nI (pij (zT I)))) 110 R, L2, K, L3, ?_, ?_, Op_scr hI hM fC d1⟩
      · rw [c0, hz]
        have h0 : jE n rX9_watch 121 [.ref 9, .int (nI q), .int (nI ka), .int (nI kb), .int (nI kn), .int 0, .null, .null] [] I L = jE n rX9_watch 143 [.ref 9, .int (nI q), .int (nI ka), .int (nI kb), .int (nI kn), .int 0, .int (nI N), .int (nI 0)] [] I L := by
          simp only [eX9_watch_116, eX9_watch_133, if_true, hab]
        rw [h0, a3]
        simp only [eX9_watch_195, b2, jB_v, b3, jB_s]
      · rw [m0 _ _ hM2, m_watch_a, hz]
        have m1 : jE n rX10_watch 89 [.ref 111, .int (nI q), .int (nI ka), .int (nI kb), .int (nI kn), .null, .null, .null, .null, .null, .null, .null] [.int 0] (jm_uA (jm_u I1 107 4 (nI (pij (zT I)))) 110 R) L2 = jE n rX10_watch 119 [.ref 111, .int (nI q), .int (nI ka), .int (nI kb), .int (nI kn), .int 0, .int (nI 0), .long (-1), .null, .int (nI 1), .null, .null] [] K L3 := by
          simp only [eX10_watch_89, eX10_watch_103, if_true, d3, jB_v]
        rw [m1]
        exact ml
    · have hr := isR_of (isZ_wW k a b) hz
      refine Op_ref hI hM (.int (wW k a b)) (wW k a b) ?_ ?_
      · rw [c0]
        simp [eX9_watch_116, eX9_watch_126, hz, h_refuse n I L _ hr, jB_s]
      · have hJ := Mod_ref hM (wW k a b)
        rw [m0 _ _ hJ, m_watch_a]
        simp [eX10_watch_89, eX10_watch_96, hz, m_no n _ L _ hr, jB_s]
  · refine Op_ref hI hM (.int (-1)) (-1) ?_ ?_
    · rw [c0, nmo_f hm, thn_n e1]
      simp [eX9_watch_116, eX9_watch_126, h_refuse n I L (-1) (by simp [isR]), jB_s]
    · have hJ := Mod_ref hM (-1)
      simp [eX10_watch_0, eX10_watch_8, m_isMoon, bmo_f (fun q => hm ((Mod_mo hJ _).mp q)), jB_s, n00t, m_no n _ L (-1) (by simp [isR])]
