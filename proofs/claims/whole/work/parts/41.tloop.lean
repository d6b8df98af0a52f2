theorem tmR_x {B B' : Nat → Int32} {X p w wd : Nat} (hp : p < X) (h : ∀ j, j < X → B' j = B j) (q : tmR B X p w wd) : tmR B' X p w wd := by
  unfold tmR at *
  rw [h p hp]
  rcases q with q | q | q | ⟨q1, q2, q3, q4, q5, q6⟩
  · exact Or.inl q
  · exact Or.inr (Or.inl q)
  · exact Or.inr (Or.inr (Or.inl q))
  · exact Or.inr (Or.inr (Or.inr ⟨q1, q2, q3, q4, q5, by rw [h _ q3]; exact q6⟩))
theorem tmN_x {B B' : Nat → Int32} {X p r : Nat} (hp : p < X) (h : ∀ j, j < X → B' j = B j) (q : tmN B X p r) : tmN B' X p r := by
  unfold tmN at *
  rw [h p hp]
  rcases q with ⟨q1, q2, q3⟩ | q
  · exact Or.inl ⟨q1, q2, fun w => q3 ⟨w.1, by rw [← h _ w.1]; exact w.2⟩⟩
  · exact Or.inr q
theorem tmR_w {B : Nat → Int32} {X p w wd : Nat} (hp : p < X) (q : tmR B X p w wd) : w ≤ 6 ∧ p + wd ≤ X ∧ 1 ≤ wd ∧ (B p = nI 112 ∧ wd = 2 ∨ ¬ B p = nI 112 ∧ wd = 1) := by
  rcases q with ⟨q1, q2, q3⟩ | ⟨q1, q2, q3⟩ | ⟨q1, q2, q3⟩ | ⟨q1, q2, q3, q4, q5, q6⟩
  · refine ⟨by omega, by omega, by omega, Or.inr ⟨?_, q3⟩⟩; rw [q1]; decide
  · refine ⟨by omega, by omega, by omega, Or.inr ⟨?_, q3⟩⟩; rw [q1]; decide
  · refine ⟨by omega, by omega, by omega, Or.inr ⟨?_, q3⟩⟩; rw [q1]; decide
  · exact ⟨q5, by omega, by omega, Or.inl ⟨q1, q2⟩⟩
abbrev TR (C J : jm_I) (X t k p : Nat) : Prop := (C 66 1 = nI X) ∧ (C 66 3 = nI k) ∧ (J 111 28 = nI X) ∧ (J 111 30 = nI p) ∧ (J 135 t = nI k) ∧ (∀ i, i < k → J 134 (8 * t + i) = C 68 i ∧ ∃ w, w ≤ 6 ∧ C 68 i = nI w) ∧ (∀ j, j < 20 → J 133 j = C 67 j)
theorem TR.x1 {C J : jm_I} {X t k p : Nat} (h : TR C J X t k p) : C 66 1 = nI X := h.1
theorem TR.x3 {C J : jm_I} {X t k p : Nat} (h : TR C J X t k p) : C 66 3 = nI k := h.2.1
theorem TR.y28 {C J : jm_I} {X t k p : Nat} (h : TR C J X t k p) : J 111 28 = nI X := h.2.2.1
theorem TR.y30 {C J : jm_I} {X t k p : Nat} (h : TR C J X t k p) : J 111 30 = nI p := h.2.2.2.1
theorem TR.yk {C J : jm_I} {X t k p : Nat} (h : TR C J X t k p) : J 135 t = nI k := h.2.2.2.2.1
theorem TR.ht {C J : jm_I} {X t k p : Nat} (h : TR C J X t k p) : ∀ i, i < k → J 134 (8 * t + i) = C 68 i ∧ ∃ w, w ≤ 6 ∧ C 68 i = nI w := h.2.2.2.2.2.1
theorem TR.hb {C J : jm_I} {X t k p : Nat} (h : TR C J X t k p) : ∀ j, j < 20 → J 133 j = C 67 j := h.2.2.2.2.2.2
abbrev TF (C C' J J' : jm_I) (t : Nat) : Prop := (∀ a, a ≠ 66 → a ≠ 68 → C' a = C a) ∧ (∀ j, j ≠ 3 → C' 66 j = C 66 j) ∧ (∀ a, a ≠ 111 → a ≠ 134 → a ≠ 135 → J' a = J a) ∧ (∀ j, j ≠ 30 → J' 111 j = J 111 j) ∧ (∀ j, j ≠ t → J' 135 j = J 135 j) ∧ (∀ j, j < 8 * t ∨ 8 * t + 3 ≤ j → J' 134 j = J 134 j)
theorem TF.c1 {C C' J J' : jm_I} {t : Nat} (h : TF C C' J J' t) : ∀ a, a ≠ 66 → a ≠ 68 → C' a = C a := h.1
theorem TF.c2 {C C' J J' : jm_I} {t : Nat} (h : TF C C' J J' t) : ∀ j, j ≠ 3 → C' 66 j = C 66 j := h.2.1
theorem TF.j1 {C C' J J' : jm_I} {t : Nat} (h : TF C C' J J' t) : ∀ a, a ≠ 111 → a ≠ 134 → a ≠ 135 → J' a = J a := h.2.2.1
theorem TF.j2 {C C' J J' : jm_I} {t : Nat} (h : TF C C' J J' t) : ∀ j, j ≠ 30 → J' 111 j = J 111 j := h.2.2.2.1
theorem TF.j3 {C C' J J' : jm_I} {t : Nat} (h : TF C C' J J' t) : ∀ j, j ≠ t → J' 135 j = J 135 j := h.2.2.2.2.1
theorem TF.j4 {C C' J J' : jm_I} {t : Nat} (h : TF C C' J J' t) : ∀ j, j < 8 * t ∨ 8 * t + 3 ≤ j → J' 134 j = J 134 j := h.2.2.2.2.2
theorem TF_0 (C J : jm_I) (t : Nat) : TF C C J J t := ⟨fun _ _ _ => rfl, fun _ _ => rfl, fun _ _ _ _ => rfl, fun _ _ => rfl, fun _ _ => rfl, fun _ _ => rfl⟩
theorem TF_t {C C' C2 J J' J2 : jm_I} {t : Nat} (h : TF C C' J J' t) (g : TF C' C2 J' J2 t) : TF C C2 J J2 t :=
  ⟨fun a p q => (g.c1 a p q).trans (h.c1 a p q), fun j p => (g.c2 j p).trans (h.c2 j p), fun a p q r => (g.j1 a p q r).trans (h.j1 a p q r), fun j p => (g.j2 j p).trans (h.j2 j p), fun j p => (g.j3 j p).trans (h.j3 j p), fun j p => (g.j4 j p).trans (h.j4 j p)⟩
theorem TF_30 {C J : jm_I} {t : Nat} (x : Int32) : TF C C J (jm_u J 111 30 x) t :=
  ⟨fun _ _ _ => rfl, fun _ _ => rfl, fun a p _ _ => jm_u_ne _ _ _ p, fun j p => by rw [jm_u_eq, if_neg p], fun j _ => by rw [jm_u_ne _ _ _ (by decide)], fun j _ => by rw [jm_u_ne _ _ _ (by decide)]⟩
def oF : Option Nat → Int32
  | none => -1
  | some q => nI q
def oG : Option Nat → Int32
  | none => nI 1
  | some _ => nI 0
def TE (C' J' : jm_I) (t : Nat) : Option Nat → Prop
  | none => ∃ k, k ≤ 3 ∧ C' 66 3 = nI k ∧ J' 135 t = nI k ∧ ∀ i, i < k → J' 134 (8 * t + i) = C' 68 i ∧ ∃ w, w ≤ 6 ∧ C' 68 i = nI w
  | some q => q ≤ 21 ∧ J' 111 30 = nI q
theorem t_loop (n : Nat) (L L' : jm_L) {X t : Nat} (hX : X ≤ 20) (ht : t < 8) : ∀ (d k p : Nat) (C J : jm_I) (v2 : Value), k + d = 3 → p ≤ X → TR C J X t k p → ∃ (o : Option Nat) (C' J' : jm_I), TF C C' J J' t ∧ TE C' J' t o ∧ jE n rX5_faultPlace 7 [.ref 66, .int (nI p), v2] [] C L = some (some (.int (oF o)), jS n C' L) ∧ jE n rX10_reads 14 [.ref 111, .int (nI t), .int (nI 1)] [] J L' = some (some (.int (oG o)), jS n J' L') := by
  intro d
  induction d with
  | zero =>
    intro k p C J v2 hk hp R
    have hk3 : k = 3 := by omega
    subst hk3
    have c0 : ¬ nI X < nI p := nI_nlt hp (by omega)
    have cp : ¬ nI p < 0 := nI_pos (by omega)
    have h1 := c_readTerm_x n C L hX R.x1 R.x3 (Nat.le_refl 3) (show p ≤ 20 by omega) (Or.inr rfl)
    have h2 := m_one_x n J L' hX (show p ≤ 20 by omega) R.y28 R.y30 ht R.yk (Nat.le_refl 3) (Or.inr rfl)
    refine ⟨some p, C, J, TF_0 C J t, ⟨by omega, R.y30⟩, ?_, ?_⟩
    · simp only [eX5_faultPlace_7, eX5_faultPlace_15, eX5_faultPlace_25, R.x1, c0, if_false, h1, jB_s, cp, oF]
    · simp only [eX10_reads_14, eX10_reads_18, eX10_reads_26, n10, if_false, h2, jB_s, n00t, not_true, oG]
  | succ d ih =>
    intro k p C J v2 hk hp R
    have hk3 : k < 3 := by omega
    have c0 : ¬ nI X < nI p := nI_nlt hp (by omega)
    have cp : ¬ nI p < 0 := nI_pos (by omega)
    by_cases hpx : p < X
    · have hbx : ∀ j, j < X → J 133 j = C 67 j := fun j hj => R.hb j (by omega)
      rcases tm_total (C 67) X p with ⟨w, wd, hR⟩ | ⟨q, hN⟩
      · obtain ⟨w6, pw, wd1, w112⟩ := tmR_w hpx hR
        have hR' := tmR_x hpx hbx hR
        have edup : dup (fun i => J 134 (8 * t + i)) k w ↔ dup (C 68) k w := by
          constructor
          · rintro ⟨i, hi, e⟩; exact ⟨i, hi, by rw [← (R.ht i hi).1]; exact e⟩
          · rintro ⟨i, hi, e⟩; exact ⟨i, hi, (R.ht i hi).1.trans e⟩
        by_cases hd : dup (C 68) k w
        · have h1 := c_readTerm_d n C L hX R.x1 R.x3 hk3 hpx w6 hR hd
          have h2 := m_one_d n J L' hX hpx R.y28 R.y30 ht R.yk hk3 hR' (edup.mpr hd)
          refine ⟨some p, C, J, TF_0 C J t, ⟨by omega, R.y30⟩, ?_, ?_⟩
          · simp only [eX5_faultPlace_7, eX5_faultPlace_15, eX5_faultPlace_25, R.x1, c0, if_false, h1, jB_s, cp, oF]
          · simp only [eX10_reads_14, eX10_reads_18, eX10_reads_26, n10, if_false, h2, jB_s, n00t, not_true, oG]
        · have h1 := c_readTerm_R n C L hX R.x1 R.x3 hk3 hpx w6 hR hd
          have h2 := m_one_R n J L' hX hpx R.y28 R.y30 ht R.yk hk3 hR' (fun q => hd (edup.mp q))
          -- the states behind the term
          generalize hC1 : jm_u (jm_u C 68 k (nI w)) 66 3 (nI (k + 1)) = C1 at h1
          generalize hJ1 : jm_u (jm_u (jm_u J 111 30 (nI (p + wd))) 134 (8 * t + k) (nI w)) 135 t (nI (k + 1)) = J1 at h2
          have F1 : TF C C1 J J1 t := by
            rw [← hC1, ← hJ1]
            refine ⟨fun a p q => ?_, fun j p => ?_, fun a p q r => ?_, fun j p => ?_, fun j p => ?_, fun j p => ?_⟩
            · rw [jm_u_ne _ _ _ p, jm_u_ne _ _ _ q]
            · rw [jm_u_eq, if_neg p, jm_u_ne _ _ _ (by decide)]
            · rw [jm_u_ne _ _ _ r, jm_u_ne _ _ _ q, jm_u_ne _ _ _ p]
            · rw [jm_u_ne _ _ _ (by decide), jm_u_ne _ _ _ (by decide), jm_u_eq, if_neg p]
            · rw [jm_u_eq, if_neg p, jm_u_ne _ _ _ (by decide), jm_u_ne _ _ _ (by decide)]
            · rw [jm_u_ne _ _ _ (by decide), jm_u_eq, if_neg (by omega), jm_u_ne _ _ _ (by decide)]
          have T1 : ∀ i, i < k + 1 → J1 134 (8 * t + i) = C1 68 i ∧ ∃ w, w ≤ 6 ∧ C1 68 i = nI w := by
            intro i hi
            have a1 : J1 134 (8 * t + i) = if 8 * t + i = 8 * t + k then nI w else J 134 (8 * t + i) := by
              rw [← hJ1, jm_u_ne _ _ _ (by decide), jm_u_eq, jm_u_ne _ _ _ (by decide)]
            have a2 : C1 68 i = if i = k then nI w else C 68 i := by
              rw [← hC1, jm_u_ne _ _ _ (by decide), jm_u_eq]
            rw [a1, a2]
            by_cases e : i = k
            · rw [if_pos (by omega), if_pos e]
              exact ⟨rfl, w, w6, rfl⟩
            · rw [if_neg (by omega), if_neg e]
              exact R.ht i (by omega)
          have x1 : C1 66 1 = nI X := (F1.c2 1 (by decide)).trans R.x1
          have x3 : C1 66 3 = nI (k + 1) := by rw [← hC1, jm_u_eq, if_pos rfl]
          have y28 : J1 111 28 = nI X := (F1.j2 28 (by decide)).trans R.y28
          have y30 : J1 111 30 = nI (p + wd) := by rw [← hJ1, jm_u_ne _ _ _ (by decide), jm_u_ne _ _ _ (by decide), jm_u_eq, if_pos rfl]
          have yk : J1 135 t = nI (k + 1) := by rw [← hJ1, jm_u_eq, if_pos rfl]
          have b67 : C1 67 = C 67 := F1.c1 67 (by decide) (by decide)
          have b133 : J1 133 = J 133 := F1.j1 133 (by decide) (by decide) (by decide)
          have hp20 : p < 20 := by omega
          have m1 : (-1 : Int32) < 0 := by decide
          have hs := m_sign n J1 L' hX (show p + wd ≤ 22 by omega) y28 y30
          have s1 : jE n rX5_faultPlace 7 [.ref 66, .int (nI p), v2] [] C L = jE n rX5_faultPlace 46 [.ref 66, .int (nI (p + wd)), .int (-1)] [] C1 L := by
            rcases w112 with ⟨g1, g2⟩ | ⟨g1, g2⟩
            · subst g2
              simp only [eX5_faultPlace_7, eX5_faultPlace_15, eX5_faultPlace_27, eX5_faultPlace_39, eX5_faultPlace_44, R.x1, c0, if_false, h1, jB_s, m1, if_true, jLI_t, jLW_t, jLL_t, jLZ_t, jLA_t, hp20, b67, g1, not_true, nI_add]
            · subst g2
              simp only [eX5_faultPlace_7, eX5_faultPlace_15, eX5_faultPlace_27, eX5_faultPlace_43, eX5_faultPlace_44, R.x1, c0, if_false, h1, jB_s, m1, if_true, jLI_t, jLW_t, jLL_t, jLZ_t, jLA_t, hp20, b67, g1, not_false_eq_true, nI_add]
          by_cases hx2 : p + wd < X
          · have c1 : nI (p + wd) < nI X := nI_lt hx2 (by omega)
            have hp2 : p + wd < 20 := by omega
            have es : sg (J1 133) X (p + wd) = C1 67 (p + wd) := by rw [sg, if_pos hx2, b133, b67]; exact R.hb _ hp2
            rw [es] at hs
            by_cases h43 : C1 67 (p + wd) = nI 43
            · -- goes on
              rw [h43] at hs
              have R1 : TR C1 (jm_u J1 111 30 (nI (p + wd + 1))) X t (k + 1) (p + wd + 1) := by
                refine ⟨x1, x3, ?_, ?_, ?_, ?_, ?_⟩
                · rw [jm_u_eq, if_neg (by decide)]; exact y28
                · rw [jm_u_eq, if_pos rfl]
                · rw [jm_u_ne _ _ _ (by decide)]; exact yk
                · intro i hi; rw [jm_u_ne _ _ _ (by decide)]; exact T1 i hi
                · intro j hj; rw [jm_u_ne _ _ _ (by decide), b133, b67]; exact R.hb j hj
              obtain ⟨o, C', J', q1, q2, q3, q4⟩ := ih (k + 1) (p + wd + 1) C1 (jm_u J1 111 30 (nI (p + wd + 1))) (.int (-1)) (by omega) (by omega) R1
              refine ⟨o, C', J', TF_t F1 (TF_t (TF_30 _) q1), q2, ?_, ?_⟩
              · rw [s1]
                simp only [eX5_faultPlace_44, eX5_faultPlace_56, eX5_faultPlace_69, x1, c1, if_true, jLI_t, jLW_t, jLL_t, jLZ_t, jLA_t, hp2, h43, nI_add]
                exact q3
              · have e0 : jE n rX10_reads 14 [.ref 111, .int (nI t), .int (nI 1)] [] J L' = jE n rX10_reads 14 [.ref 111, .int (nI t), .int (nI 1)] [] (jm_u J1 111 30 (nI (p + wd + 1))) L' := by
                  have hd0 : jE n rX10_reads 14 [.ref 111, .int (nI t), .int (nI 1)] [] J L' = jE n rX10_reads 18 [.ref 111, .int (nI t), .int (nI 1)] [] J L' := by
                    simp only [eX10_reads_14, n10, if_false]
                  rw [hd0]
                  simp only [eX10_reads_18, eX10_reads_28, eX10_reads_37, eX10_reads_42, eX10_reads_52, eX10_reads_57, h2, jB_s, n10, not_false_eq_true, if_true, hs, not_true, if_false, y30, nI_add]
                rw [e0]
                exact q4
            · refine ⟨some (p + wd), C1, J1, F1, ⟨by omega, y30⟩, ?_, ?_⟩
              · rw [s1]
                simp only [eX5_faultPlace_44, eX5_faultPlace_56, eX5_faultPlace_67, x1, c1, if_true, jLI_t, jLW_t, jLL_t, jLZ_t, jLA_t, hp2, h43, if_false, oF]
              · have hd0 : jE n rX10_reads 14 [.ref 111, .int (nI t), .int (nI 1)] [] J L' = jE n rX10_reads 14 [.ref 111, .int (nI t), .int (nI 0)] [] J1 L' := by
                  have hd0 : jE n rX10_reads 14 [.ref 111, .int (nI t), .int (nI 1)] [] J L' = jE n rX10_reads 18 [.ref 111, .int (nI t), .int (nI 1)] [] J L' := by
                    simp only [eX10_reads_14, n10, if_false]
                  rw [hd0]
                  simp only [eX10_reads_18, eX10_reads_28, eX10_reads_41, eX10_reads_42, eX10_reads_56, eX10_reads_57, h2, jB_s, n10, not_false_eq_true, if_true, hs, h43, n00t, y30, nI_add, Nat.add_zero, jm_u_id J1 y30]
                have ne : ¬ nI (p + wd) = nI X := fun q => by have := (nI_inj (by omega) (by omega)).mp q; omega
                rw [hd0]
                simp only [eX10_reads_14, eX10_reads_64, eX10_reads_79, eX10_reads_80, n00t, if_true, y30, y28, ne, not_false_eq_true, oG]
          · have hXe : p + wd = X := by omega
            have c1 : ¬ nI (p + wd) < nI X := nI_nlt (by omega) (by omega)
            have es : sg (J1 133) X (p + wd) = -1 := by rw [sg, if_neg hx2]
            rw [es] at hs
            have m43 : ¬ (-1 : Int32) = nI 43 := by decide
            refine ⟨none, C1, J1, F1, ⟨k + 1, by omega, x3, yk, T1⟩, ?_, ?_⟩
            · rw [s1]
              simp only [eX5_faultPlace_44, eX5_faultPlace_54, x1, c1, if_false, oF]
            · have hd0 : jE n rX10_reads 14 [.ref 111, .int (nI t), .int (nI 1)] [] J L' = jE n rX10_reads 14 [.ref 111, .int (nI t), .int (nI 0)] [] J1 L' := by
                have hd0 : jE n rX10_reads 14 [.ref 111, .int (nI t), .int (nI 1)] [] J L' = jE n rX10_reads 18 [.ref 111, .int (nI t), .int (nI 1)] [] J L' := by
                  simp only [eX10_reads_14, n10, if_false]
                rw [hd0]
                simp only [eX10_reads_18, eX10_reads_28, eX10_reads_41, eX10_reads_42, eX10_reads_56, eX10_reads_57, h2, jB_s, n10, not_false_eq_true, if_true, hs, m43, n00t, y30, nI_add, Nat.add_zero, jm_u_id J1 y30]
              rw [hd0]
              simp only [eX10_reads_14, eX10_reads_64, eX10_reads_75, eX10_reads_80, n00t, if_true, y30, y28, hXe, not_true, if_false, oG]
      · have h1 := c_readTerm_N n C L hX R.x1 R.x3 hk3 hpx hN
        have h2 := m_one_N n J L' hX hpx R.y28 R.y30 ht R.yk hk3 (tmN_x hpx hbx hN)
        have hq : q ≤ 21 := by rcases hN with ⟨-, g, -⟩ | ⟨-, -, -, -, g⟩ <;> omega
        have cq : ¬ nI q < 0 := nI_pos (by omega)
        refine ⟨some q, C, jm_u J 111 30 (nI q), TF_30 _, ⟨hq, by rw [jm_u_eq, if_pos rfl]⟩, ?_, ?_⟩
        · simp only [eX5_faultPlace_7, eX5_faultPlace_15, eX5_faultPlace_25, R.x1, c0, if_false, h1, jB_s, cq, oF]
        · simp only [eX10_reads_14, eX10_reads_18, eX10_reads_26, n10, if_false, h2, jB_s, n00t, not_true, oG]
    · have h1 := c_readTerm_x n C L hX R.x1 R.x3 (show k ≤ 3 by omega) (show p ≤ 20 by omega) (Or.inl (by omega))
      have h2 := m_one_x n J L' hX (show p ≤ 20 by omega) R.y28 R.y30 ht R.yk (show k ≤ 3 by omega) (Or.inl (by omega))
      refine ⟨some p, C, J, TF_0 C J t, ⟨by omega, R.y30⟩, ?_, ?_⟩
      · simp only [eX5_faultPlace_7, eX5_faultPlace_15, eX5_faultPlace_25, R.x1, c0, if_false, h1, jB_s, cp, oF]
      · simp only [eX10_reads_14, eX10_reads_18, eX10_reads_26, n10, if_false, h2, jB_s, n00t, not_true, oG]
