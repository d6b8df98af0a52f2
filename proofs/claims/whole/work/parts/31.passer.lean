def stR (J : jm_I) (c : Nat) : jm_I := jm_u J 111 42 (nI c)
def psR (J : jm_I) (a c m : Nat) : jm_I := jm_uA J a (fun j => if j < m then J 144 (c + j) else J a j)
theorem psR_ne (J : jm_I) (a c m : Nat) {b : Nat} (h : b ≠ a) : psR J a c m b = J b := jm_uA_ne _ _ h
theorem psR_eq (J : jm_I) (a c m j : Nat) : psR J a c m a j = if j < m then J 144 (c + j) else J a j := by
  unfold psR
  rw [jm_uA_ap, if_pos rfl]
theorem psR_0 (J : jm_I) (a c : Nat) : psR J a c 0 = J := by
  funext b j
  unfold psR
  rw [jm_uA_ap]
  by_cases h : b = a
  · rw [if_pos h, if_neg (by omega), h]
  · rw [if_neg h]
theorem psR_s (J : jm_I) (a c i : Nat) : jm_u (psR J a c i) a i (J 144 (c + i)) = psR J a c (i + 1) := by
  funext b j
  unfold psR
  rw [jm_u_ap, jm_uA_ap, jm_uA_ap]
  by_cases h : b = a
  · rw [if_pos h, if_pos h, if_pos h, upd_ap]
    by_cases h2 : j = i
    · rw [if_pos h2, if_pos (by omega), h2]
    · rw [if_neg h2]
      by_cases h3 : j < i
      · rw [if_pos h3, if_pos (by omega)]
      · rw [if_neg h3, if_neg (by omega)]
  · rw [if_neg h, if_neg h, if_neg h]
theorem stR_u (J : jm_I) (c a k : Nat) (x : Int32) (h : a ≠ 111 ∨ k ≠ 42) : jm_u (stR J c) a k x = stR (jm_u J a k x) c := by
  funext b j
  simp only [stR, jm_u_ap]
  by_cases h1 : b = a
  · by_cases h2 : b = 111
    · subst h1; subst h2
      have : k ≠ 42 := h.resolve_left (fun q => q rfl)
      simp only [if_true, upd_ap]
      by_cases h3 : j = k
      · have : j ≠ 42 := by omega
        simp [h3, this]
        intro q; omega
      · by_cases h4 : j = 42
        · subst h4; simp [h3, upd_ap]
        · simp [h3, h4, upd_ap]
    · simp [h1]
      have : ¬ a = 111 := fun q => h2 (h1.trans q)
      simp [this]
  · by_cases h2 : b = 111
    · subst h2; simp [h1]
    · simp [h1, h2]
theorem stR_c (J : jm_I) (c d : Nat) : jm_u (stR J c) 111 42 (nI d) = stR J d := by
  funext b j
  simp only [stR, jm_u_ap]
  by_cases h2 : b = 111
  · subst h2; simp [upd_ap]
    by_cases h : j = 42 <;> simp [h, upd_ap]
  · simp [h2]
theorem stR_at (J : jm_I) (c : Nat) {a : Nat} (h1 : a ≠ 111) : stR J c a = J a := jm_u_ne _ _ _ h1
theorem stR_111 (J : jm_I) (c : Nat) {j : Nat} (h : j ≠ 42) : stR J c 111 j = J 111 j := by
  unfold stR
  rw [jm_u_eq, if_neg h]
theorem stR_42 (J : jm_I) (c : Nat) : stR J c 111 42 = nI c := by
  unfold stR
  rw [jm_u_eq, if_pos rfl]
theorem m_pr_loop (n : Nat) (J : jm_I) (L : jm_L) (c a m : Nat) (h43 : J 111 43 = 0) (h1 : a ≠ 111) (h2 : a ≠ 144) (hA : jLA n a = m) (hW : jLW n a = m) (hm : 0 < m) (hc : c + m ≤ 1000) : ∀ (d i : Nat), i + d = m → jE n rX10_passes 2 [.ref 111, .ref a, .int (nI i)] [] (stR (psR J a c i) (c + i)) L = some (none, jS n (stR (psR J a c m) (c + m)) L) := by
  intro d
  induction d with
  | zero =>
    intro i hi
    have : i = m := by omega
    subst this
    have c0 : nI i ≤ nI i := Int32.le_refl _
    simp only [eX10_passes_2, eX10_passes_58, hA, hm, c0, if_true]
  | succ d ih =>
    intro i hi
    have c0 : ¬ nI m ≤ nI i := nI_ge (by omega) (by omega)
    have hd0 : jE n rX10_passes 2 [.ref 111, .ref a, .int (nI i)] [] (stR (psR J a c i) (c + i)) L = jE n rX10_passes 8 [.ref 111, .ref a, .int (nI i)] [] (stR (psR J a c i) (c + i)) L := by
      simp only [eX10_passes_2, hA, hm, c0, if_false]
    rw [hd0]
    have hi2 : i < m := by omega
    have hx : c + i < 1000 := by omega
    have ih2 := ih (i + 1) (by omega)
    rw [← psR_s] at ih2
    have q43 : stR (psR J a c i) (c + i) 111 43 = 0 := by rw [stR_111 _ _ (by decide), psR_ne _ _ _ _ (Ne.symm h1), h43]
    have q144 : stR (psR J a c i) (c + i) 144 = J 144 := by rw [stR_at _ _ (by decide), psR_ne _ _ _ _ (Ne.symm h2)]
    have q42 : ∀ x, stR (jm_u (psR J a c i) a i x) (c + i) 111 42 = nI (c + i) := fun x => stR_42 _ _
    simp only [eX10_passes_8, eX10_passes_30, eX10_passes_42, q43, if_true, stR_42, hW, hi2, q144, jLI_t, jLW_t, jLL_t, jLZ_t, jLA_t, hx, stR_u _ _ _ _ _ (Or.inl h1 : a ≠ 111 ∨ i ≠ 42), nI_add, stR_c]
    exact ih2
theorem m_pr (n : Nat) (J : jm_I) (L : jm_L) (c a : Nat) (h43 : J 111 43 = 0) (h1 : a ≠ 111) (h2 : a ≠ 144) (hA : jLA n a = jLW n a) (hm : 0 < jLW n a) (hc : c + jLW n a ≤ 1000) : jE n rX10_passes 0 [.ref 111, .ref a, .null] [] (stR J c) L = some (none, jS n (stR (psR J a c (jLW n a)) (c + jLW n a)) L) := by
  simp only [eX10_passes_0]
  have := m_pr_loop n J L c a (jLW n a) h43 h1 h2 hA rfl hm hc (jLW n a) 0 (Nat.zero_add _)
  rwa [psR_0, Nat.add_zero] at this
theorem m_pr1 (n : Nat) (J : jm_I) (L : jm_L) (c : Nat) (v : Int32) (h43 : J 111 43 = 0) (hc : c < 1000) : jE n rX10_passOne 0 [.ref 111, .int v, .null] [] (stR J c) L = some (some (.int (J 144 c)), jS n (stR J (c + 1)) L) := by
  simp only [eX10_passOne_0, eX10_passOne_7, eX10_passOne_11, eX10_passOne_20, eX10_passOne_28, eX10_passOne_38, stR_111 J _ (show 43 ≠ 42 by decide), h43, if_true, stR_42, jLI_t, jLW_t, jLL_t, jLZ_t, jLA_t, hc, stR_at J c (show 144 ≠ 111 by decide), nI_add, stR_c]
theorem m_pr_t (n : Nat) (J : jm_I) (L : jm_L) (m : Nat) (h43 : J 111 43 = 0) (hm : m < 4) (hb : J 144 (586 + m) = 0 ∨ J 144 (586 + m) = 1) : jE n rX10_passesAll 207 [.ref 111, .int (nI m)] [] (stR J (586 + m)) L = jE n rX10_passesAll 207 [.ref 111, .int (nI (m + 1))] [] (stR (jm_u J 119 m (J 144 (586 + m))) (586 + m + 1)) L := by
  have c0 : ¬ nI 4 ≤ nI m := nI_ge hm (by decide)
  have hx : 586 + m < 1000 := by omega
  have hd0 : jE n rX10_passesAll 207 [.ref 111, .int (nI m)] [] (stR J (586 + m)) L = jE n rX10_passesAll 212 [.ref 111, .int (nI m)] [] (stR J (586 + m)) L := by
    simp only [eX10_passesAll_207, c0, if_false]
  rw [hd0]
  have u : ∀ x, jm_u (stR J (586 + m + 1)) 119 m x = stR (jm_u J 119 m x) (586 + m + 1) := fun x => stR_u _ _ _ _ _ (Or.inl (by decide))
  have n11 : (1 : Int32) = nI 1 := rfl
  have q : stR J (586 + m) 119 = J 119 := stR_at J _ (by decide)
  rcases hb with e | e
  · by_cases ht : J 119 m = 0
    · simp (decide := true) [eX10_passesAll_212, eX10_passesAll_227, eX10_passesAll_231, eX10_passesAll_232, eX10_passesAll_239, eX10_passesAll_243, eX10_passesAll_244, jLI_t, jLW_t, jLL_t, jLZ_t, jLA_t, hm, q, ht, m_pr1 n J L _ _ h43 hx, jB_s, e, u, nI_add]
      simp only [n00]
    · simp (decide := true) [eX10_passesAll_212, eX10_passesAll_227, eX10_passesAll_231, eX10_passesAll_232, eX10_passesAll_239, eX10_passesAll_243, eX10_passesAll_244, jLI_t, jLW_t, jLL_t, jLZ_t, jLA_t, hm, q, ht, m_pr1 n J L _ _ h43 hx, jB_s, e, u, nI_add]
      simp only [n00]
  · by_cases ht : J 119 m = 0
    · simp (decide := true) [eX10_passesAll_212, eX10_passesAll_227, eX10_passesAll_231, eX10_passesAll_232, eX10_passesAll_239, eX10_passesAll_243, eX10_passesAll_244, jLI_t, jLW_t, jLL_t, jLZ_t, jLA_t, hm, q, ht, m_pr1 n J L _ _ h43 hx, jB_s, e, u, nI_add]
      simp only [n11]
    · simp (decide := true) [eX10_passesAll_212, eX10_passesAll_227, eX10_passesAll_231, eX10_passesAll_232, eX10_passesAll_239, eX10_passesAll_243, eX10_passesAll_244, jLI_t, jLW_t, jLL_t, jLZ_t, jLA_t, hm, q, ht, m_pr1 n J L _ _ h43 hx, jB_s, e, u, nI_add]
      simp only [n11]
def rsA (J : jm_I) : jm_I := (psR (psR (psR (psR (psR (psR (psR (psR (psR (psR (psR (psR (psR (psR (psR (psR (psR (psR (psR (psR (psR (psR J 113 0 4) 114 4 4) 115 8 4) 116 12 4) 117 16 16) 118 32 5) 121 37 6) 122 43 4) 123 47 4) 124 51 4) 125 55 40) 126 95 40) 127 135 40) 128 175 40) 129 215 40) 130 255 40) 131 295 40) 134 335 72) 135 407 9) 136 416 4) 137 420 4) 143 424 160)
def rsB (J : jm_I) : jm_I := jm_u (jm_u (rsA J) 111 20 (J 144 584)) 111 29 (J 144 585)
def rsC (J : jm_I) : jm_I := jm_u (jm_u (jm_u (jm_u (rsB J) 119 0 (J 144 586)) 119 1 (J 144 587)) 119 2 (J 144 588)) 119 3 (J 144 589)
theorem rsA_at (J : jm_I) {a : Nat} (h : a < 113 ∨ a = 119 ∨ a = 120 ∨ a = 132 ∨ a = 133 ∨ (138 ≤ a ∧ a < 143) ∨ 143 < a) : rsA J a = J a := by
  unfold rsA
  rw [psR_ne _ _ _ _ (by omega)]
  rw [psR_ne _ _ _ _ (by omega)]
  rw [psR_ne _ _ _ _ (by omega)]
  rw [psR_ne _ _ _ _ (by omega)]
  rw [psR_ne _ _ _ _ (by omega)]
  rw [psR_ne _ _ _ _ (by omega)]
  rw [psR_ne _ _ _ _ (by omega)]
  rw [psR_ne _ _ _ _ (by omega)]
  rw [psR_ne _ _ _ _ (by omega)]
  rw [psR_ne _ _ _ _ (by omega)]
  rw [psR_ne _ _ _ _ (by omega)]
  rw [psR_ne _ _ _ _ (by omega)]
  rw [psR_ne _ _ _ _ (by omega)]
  rw [psR_ne _ _ _ _ (by omega)]
  rw [psR_ne _ _ _ _ (by omega)]
  rw [psR_ne _ _ _ _ (by omega)]
  rw [psR_ne _ _ _ _ (by omega)]
  rw [psR_ne _ _ _ _ (by omega)]
  rw [psR_ne _ _ _ _ (by omega)]
  rw [psR_ne _ _ _ _ (by omega)]
  rw [psR_ne _ _ _ _ (by omega)]
  rw [psR_ne _ _ _ _ (by omega)]
theorem m_passesAll_r (n : Nat) (J : jm_I) (L : jm_L) (h43 : J 111 43 = 0) (hb : ∀ m, m < 4 → J 144 (586 + m) = 0 ∨ J 144 (586 + m) = 1) : jE n rX10_passesAll 0 [.ref 111, .null] [] J L = some (none, jS n (stR (rsC J) 590) L) := by
  have e1 : jE n rX10_passesAll 0 [.ref 111, .null] [] J L = jE n rX10_passesAll 181 [.ref 111, .null] [] (stR (rsA J) 584) L := by
    have s0 : jm_u J 111 42 (nI 0) = stR J 0 := rfl
    simp (decide := true) only [eX10_passesAll_0, s0, m_pr, psR_ne, h43, jLI_t, jLW_t, jLL_t, jLZ_t, jLA_t, jB_v, Nat.zero_add, Nat.reduceAdd, Nat.reduceLeDiff, rsA]
  have a144 : rsA J 144 = J 144 := rsA_at J (by decide)
  have a111 : rsA J 111 = J 111 := rsA_at J (by decide)
  have e2 : jE n rX10_passesAll 181 [.ref 111, .null] [] (stR (rsA J) 584) L = jE n rX10_passesAll 207 [.ref 111, .int (nI 0)] [] (stR (rsB J) 586) L := by
    have d1 := m_pr1 n (rsA J) L 584 (rsA J 111 20) (by rw [a111]; exact h43) (by decide)
    have d2 := m_pr1 n (jm_u (rsA J) 111 20 (J 144 584)) L 585 (rsA J 111 29) (by rw [jm_u_eq, if_neg (by decide), a111]; exact h43) (by decide)
    have b144 : jm_u (rsA J) 111 20 (J 144 584) 144 = J 144 := by rw [jm_u_ne _ _ _ (by decide), a144]
    have b29 : jm_u (rsA J) 111 20 (J 144 584) 111 29 = rsA J 111 29 := by rw [jm_u_eq, if_neg (by decide)]
    rw [a144] at d1
    rw [b144] at d2
    simp only [eX10_passesAll_0, stR_111 _ _ (show 20 ≠ 42 by decide), stR_111 _ _ (show 29 ≠ 42 by decide), d1, jB_s, stR_u _ _ _ _ _ (Or.inr (show 20 ≠ 42 by decide) : 111 ≠ 111 ∨ 20 ≠ 42), b29, d2, stR_u _ _ _ _ _ (Or.inr (show 29 ≠ 42 by decide) : 111 ≠ 111 ∨ 29 ≠ 42)]
    rfl
  rw [e1, e2]
  have B144 : rsB J 144 = J 144 := by unfold rsB; rw [jm_u_ne _ _ _ (by decide), jm_u_ne _ _ _ (by decide), a144]
  have B43 : rsB J 111 43 = 0 := by unfold rsB; rw [jm_u_eq, if_neg (by decide), jm_u_eq, if_neg (by decide), a111]; exact h43
  have q : ∀ (M : jm_I), M 144 = J 144 → ∀ m, m < 4 → M 144 (586 + m) = 0 ∨ M 144 (586 + m) = 1 := fun M e m hm => by rw [e]; exact hb m hm
  have v : ∀ (M : jm_I) k x, M 144 = J 144 → jm_u M 119 k x 144 = J 144 := fun M k x e => by rw [jm_u_ne _ _ _ (by decide)]; exact e
  have w : ∀ (M : jm_I) k x, M 111 43 = 0 → jm_u M 119 k x 111 43 = 0 := fun M k x e => by rw [jm_u_ne _ _ _ (by decide)]; exact e
  have t0 := m_pr_t n (rsB J) L 0 B43 (by decide) (q _ B144 0 (by decide))
  rw [B144] at t0
  have t1 := m_pr_t n (jm_u (rsB J) 119 0 (J 144 586)) L 1 (w _ _ _ B43) (by decide) (q _ (v _ _ _ B144) 1 (by decide))
  rw [v _ _ _ B144] at t1
  have t2 := m_pr_t n (jm_u (jm_u (rsB J) 119 0 (J 144 586)) 119 1 (J 144 587)) L 2 (w _ _ _ (w _ _ _ B43)) (by decide) (q _ (v _ _ _ (v _ _ _ B144)) 2 (by decide))
  rw [v _ _ _ (v _ _ _ B144)] at t2
  have t3 := m_pr_t n (jm_u (jm_u (jm_u (rsB J) 119 0 (J 144 586)) 119 1 (J 144 587)) 119 2 (J 144 588)) L 3 (w _ _ _ (w _ _ _ (w _ _ _ B43))) (by decide) (q _ (v _ _ _ (v _ _ _ (v _ _ _ B144))) 3 (by decide))
  rw [v _ _ _ (v _ _ _ (v _ _ _ B144))] at t3
  rw [t0, t1, t2, t3]
  have c4 : nI 4 ≤ nI 4 := Int32.le_refl _
  simp only [eX10_passesAll_207, eX10_passesAll_251, c4, if_true]
  rfl
theorem rs_113 (J : jm_I) {j : Nat} (h : j < 4) : rsA J 113 j = J 144 (0 + j) := by
  unfold rsA
  rw [psR_ne _ _ _ _ (by decide)]
  rw [psR_ne _ _ _ _ (by decide)]
  rw [psR_ne _ _ _ _ (by decide)]
  rw [psR_ne _ _ _ _ (by decide)]
  rw [psR_ne _ _ _ _ (by decide)]
  rw [psR_ne _ _ _ _ (by decide)]
  rw [psR_ne _ _ _ _ (by decide)]
  rw [psR_ne _ _ _ _ (by decide)]
  rw [psR_ne _ _ _ _ (by decide)]
  rw [psR_ne _ _ _ _ (by decide)]
  rw [psR_ne _ _ _ _ (by decide)]
  rw [psR_ne _ _ _ _ (by decide)]
  rw [psR_ne _ _ _ _ (by decide)]
  rw [psR_ne _ _ _ _ (by decide)]
  rw [psR_ne _ _ _ _ (by decide)]
  rw [psR_ne _ _ _ _ (by decide)]
  rw [psR_ne _ _ _ _ (by decide)]
  rw [psR_ne _ _ _ _ (by decide)]
  rw [psR_ne _ _ _ _ (by decide)]
  rw [psR_ne _ _ _ _ (by decide)]
  rw [psR_ne _ _ _ _ (by decide)]
  rw [psR_eq, if_pos h]
theorem rs_114 (J : jm_I) {j : Nat} (h : j < 4) : rsA J 114 j = J 144 (4 + j) := by
  unfold rsA
  rw [psR_ne _ _ _ _ (by decide)]
  rw [psR_ne _ _ _ _ (by decide)]
  rw [psR_ne _ _ _ _ (by decide)]
  rw [psR_ne _ _ _ _ (by decide)]
  rw [psR_ne _ _ _ _ (by decide)]
  rw [psR_ne _ _ _ _ (by decide)]
  rw [psR_ne _ _ _ _ (by decide)]
  rw [psR_ne _ _ _ _ (by decide)]
  rw [psR_ne _ _ _ _ (by decide)]
  rw [psR_ne _ _ _ _ (by decide)]
  rw [psR_ne _ _ _ _ (by decide)]
  rw [psR_ne _ _ _ _ (by decide)]
  rw [psR_ne _ _ _ _ (by decide)]
  rw [psR_ne _ _ _ _ (by decide)]
  rw [psR_ne _ _ _ _ (by decide)]
  rw [psR_ne _ _ _ _ (by decide)]
  rw [psR_ne _ _ _ _ (by decide)]
  rw [psR_ne _ _ _ _ (by decide)]
  rw [psR_ne _ _ _ _ (by decide)]
  rw [psR_ne _ _ _ _ (by decide)]
  rw [psR_eq, if_pos h]
  rw [psR_ne _ _ _ _ (by decide)]
theorem rs_115 (J : jm_I) {j : Nat} (h : j < 4) : rsA J 115 j = J 144 (8 + j) := by
  unfold rsA
  rw [psR_ne _ _ _ _ (by decide)]
  rw [psR_ne _ _ _ _ (by decide)]
  rw [psR_ne _ _ _ _ (by decide)]
  rw [psR_ne _ _ _ _ (by decide)]
  rw [psR_ne _ _ _ _ (by decide)]
  rw [psR_ne _ _ _ _ (by decide)]
  rw [psR_ne _ _ _ _ (by decide)]
  rw [psR_ne _ _ _ _ (by decide)]
  rw [psR_ne _ _ _ _ (by decide)]
  rw [psR_ne _ _ _ _ (by decide)]
  rw [psR_ne _ _ _ _ (by decide)]
  rw [psR_ne _ _ _ _ (by decide)]
  rw [psR_ne _ _ _ _ (by decide)]
  rw [psR_ne _ _ _ _ (by decide)]
  rw [psR_ne _ _ _ _ (by decide)]
  rw [psR_ne _ _ _ _ (by decide)]
  rw [psR_ne _ _ _ _ (by decide)]
  rw [psR_ne _ _ _ _ (by decide)]
  rw [psR_ne _ _ _ _ (by decide)]
  rw [psR_eq, if_pos h]
  rw [psR_ne _ _ _ _ (by decide)]
  rw [psR_ne _ _ _ _ (by decide)]
theorem rs_116 (J : jm_I) {j : Nat} (h : j < 4) : rsA J 116 j = J 144 (12 + j) := by
  unfold rsA
  rw [psR_ne _ _ _ _ (by decide)]
  rw [psR_ne _ _ _ _ (by decide)]
  rw [psR_ne _ _ _ _ (by decide)]
  rw [psR_ne _ _ _ _ (by decide)]
  rw [psR_ne _ _ _ _ (by decide)]
  rw [psR_ne _ _ _ _ (by decide)]
  rw [psR_ne _ _ _ _ (by decide)]
  rw [psR_ne _ _ _ _ (by decide)]
  rw [psR_ne _ _ _ _ (by decide)]
  rw [psR_ne _ _ _ _ (by decide)]
  rw [psR_ne _ _ _ _ (by decide)]
  rw [psR_ne _ _ _ _ (by decide)]
  rw [psR_ne _ _ _ _ (by decide)]
  rw [psR_ne _ _ _ _ (by decide)]
  rw [psR_ne _ _ _ _ (by decide)]
  rw [psR_ne _ _ _ _ (by decide)]
  rw [psR_ne _ _ _ _ (by decide)]
  rw [psR_ne _ _ _ _ (by decide)]
  rw [psR_eq, if_pos h]
  rw [psR_ne _ _ _ _ (by decide)]
  rw [psR_ne _ _ _ _ (by decide)]
  rw [psR_ne _ _ _ _ (by decide)]
theorem rs_117 (J : jm_I) {j : Nat} (h : j < 16) : rsA J 117 j = J 144 (16 + j) := by
  unfold rsA
  rw [psR_ne _ _ _ _ (by decide)]
  rw [psR_ne _ _ _ _ (by decide)]
  rw [psR_ne _ _ _ _ (by decide)]
  rw [psR_ne _ _ _ _ (by decide)]
  rw [psR_ne _ _ _ _ (by decide)]
  rw [psR_ne _ _ _ _ (by decide)]
  rw [psR_ne _ _ _ _ (by decide)]
  rw [psR_ne _ _ _ _ (by decide)]
  rw [psR_ne _ _ _ _ (by decide)]
  rw [psR_ne _ _ _ _ (by decide)]
  rw [psR_ne _ _ _ _ (by decide)]
  rw [psR_ne _ _ _ _ (by decide)]
  rw [psR_ne _ _ _ _ (by decide)]
  rw [psR_ne _ _ _ _ (by decide)]
  rw [psR_ne _ _ _ _ (by decide)]
  rw [psR_ne _ _ _ _ (by decide)]
  rw [psR_ne _ _ _ _ (by decide)]
  rw [psR_eq, if_pos h]
  rw [psR_ne _ _ _ _ (by decide)]
  rw [psR_ne _ _ _ _ (by decide)]
  rw [psR_ne _ _ _ _ (by decide)]
  rw [psR_ne _ _ _ _ (by decide)]
theorem rs_118 (J : jm_I) {j : Nat} (h : j < 5) : rsA J 118 j = J 144 (32 + j) := by
  unfold rsA
  rw [psR_ne _ _ _ _ (by decide)]
  rw [psR_ne _ _ _ _ (by decide)]
  rw [psR_ne _ _ _ _ (by decide)]
  rw [psR_ne _ _ _ _ (by decide)]
  rw [psR_ne _ _ _ _ (by decide)]
  rw [psR_ne _ _ _ _ (by decide)]
  rw [psR_ne _ _ _ _ (by decide)]
  rw [psR_ne _ _ _ _ (by decide)]
  rw [psR_ne _ _ _ _ (by decide)]
  rw [psR_ne _ _ _ _ (by decide)]
  rw [psR_ne _ _ _ _ (by decide)]
  rw [psR_ne _ _ _ _ (by decide)]
  rw [psR_ne _ _ _ _ (by decide)]
  rw [psR_ne _ _ _ _ (by decide)]
  rw [psR_ne _ _ _ _ (by decide)]
  rw [psR_ne _ _ _ _ (by decide)]
  rw [psR_eq, if_pos h]
  rw [psR_ne _ _ _ _ (by decide)]
  rw [psR_ne _ _ _ _ (by decide)]
  rw [psR_ne _ _ _ _ (by decide)]
  rw [psR_ne _ _ _ _ (by decide)]
  rw [psR_ne _ _ _ _ (by decide)]
theorem rs_121 (J : jm_I) {j : Nat} (h : j < 6) : rsA J 121 j = J 144 (37 + j) := by
  unfold rsA
  rw [psR_ne _ _ _ _ (by decide)]
  rw [psR_ne _ _ _ _ (by decide)]
  rw [psR_ne _ _ _ _ (by decide)]
  rw [psR_ne _ _ _ _ (by decide)]
  rw [psR_ne _ _ _ _ (by decide)]
  rw [psR_ne _ _ _ _ (by decide)]
  rw [psR_ne _ _ _ _ (by decide)]
  rw [psR_ne _ _ _ _ (by decide)]
  rw [psR_ne _ _ _ _ (by decide)]
  rw [psR_ne _ _ _ _ (by decide)]
  rw [psR_ne _ _ _ _ (by decide)]
  rw [psR_ne _ _ _ _ (by decide)]
  rw [psR_ne _ _ _ _ (by decide)]
  rw [psR_ne _ _ _ _ (by decide)]
  rw [psR_ne _ _ _ _ (by decide)]
  rw [psR_eq, if_pos h]
  rw [psR_ne _ _ _ _ (by decide)]
  rw [psR_ne _ _ _ _ (by decide)]
  rw [psR_ne _ _ _ _ (by decide)]
  rw [psR_ne _ _ _ _ (by decide)]
  rw [psR_ne _ _ _ _ (by decide)]
  rw [psR_ne _ _ _ _ (by decide)]
theorem rs_122 (J : jm_I) {j : Nat} (h : j < 4) : rsA J 122 j = J 144 (43 + j) := by
  unfold rsA
  rw [psR_ne _ _ _ _ (by decide)]
  rw [psR_ne _ _ _ _ (by decide)]
  rw [psR_ne _ _ _ _ (by decide)]
  rw [psR_ne _ _ _ _ (by decide)]
  rw [psR_ne _ _ _ _ (by decide)]
  rw [psR_ne _ _ _ _ (by decide)]
  rw [psR_ne _ _ _ _ (by decide)]
  rw [psR_ne _ _ _ _ (by decide)]
  rw [psR_ne _ _ _ _ (by decide)]
  rw [psR_ne _ _ _ _ (by decide)]
  rw [psR_ne _ _ _ _ (by decide)]
  rw [psR_ne _ _ _ _ (by decide)]
  rw [psR_ne _ _ _ _ (by decide)]
  rw [psR_ne _ _ _ _ (by decide)]
  rw [psR_eq, if_pos h]
  rw [psR_ne _ _ _ _ (by decide)]
  rw [psR_ne _ _ _ _ (by decide)]
  rw [psR_ne _ _ _ _ (by decide)]
  rw [psR_ne _ _ _ _ (by decide)]
  rw [psR_ne _ _ _ _ (by decide)]
  rw [psR_ne _ _ _ _ (by decide)]
  rw [psR_ne _ _ _ _ (by decide)]
theorem rs_123 (J : jm_I) {j : Nat} (h : j < 4) : rsA J 123 j = J 144 (47 + j) := by
  unfold rsA
  rw [psR_ne _ _ _ _ (by decide)]
  rw [psR_ne _ _ _ _ (by decide)]
  rw [psR_ne _ _ _ _ (by decide)]
  rw [psR_ne _ _ _ _ (by decide)]
  rw [psR_ne _ _ _ _ (by decide)]
  rw [psR_ne _ _ _ _ (by decide)]
  rw [psR_ne _ _ _ _ (by decide)]
  rw [psR_ne _ _ _ _ (by decide)]
  rw [psR_ne _ _ _ _ (by decide)]
  rw [psR_ne _ _ _ _ (by decide)]
  rw [psR_ne _ _ _ _ (by decide)]
  rw [psR_ne _ _ _ _ (by decide)]
  rw [psR_ne _ _ _ _ (by decide)]
  rw [psR_eq, if_pos h]
  rw [psR_ne _ _ _ _ (by decide)]
  rw [psR_ne _ _ _ _ (by decide)]
  rw [psR_ne _ _ _ _ (by decide)]
  rw [psR_ne _ _ _ _ (by decide)]
  rw [psR_ne _ _ _ _ (by decide)]
  rw [psR_ne _ _ _ _ (by decide)]
  rw [psR_ne _ _ _ _ (by decide)]
  rw [psR_ne _ _ _ _ (by decide)]
theorem rs_124 (J : jm_I) {j : Nat} (h : j < 4) : rsA J 124 j = J 144 (51 + j) := by
  unfold rsA
  rw [psR_ne _ _ _ _ (by decide)]
  rw [psR_ne _ _ _ _ (by decide)]
  rw [psR_ne _ _ _ _ (by decide)]
  rw [psR_ne _ _ _ _ (by decide)]
  rw [psR_ne _ _ _ _ (by decide)]
  rw [psR_ne _ _ _ _ (by decide)]
  rw [psR_ne _ _ _ _ (by decide)]
  rw [psR_ne _ _ _ _ (by decide)]
  rw [psR_ne _ _ _ _ (by decide)]
  rw [psR_ne _ _ _ _ (by decide)]
  rw [psR_ne _ _ _ _ (by decide)]
  rw [psR_ne _ _ _ _ (by decide)]
  rw [psR_eq, if_pos h]
  rw [psR_ne _ _ _ _ (by decide)]
  rw [psR_ne _ _ _ _ (by decide)]
  rw [psR_ne _ _ _ _ (by decide)]
  rw [psR_ne _ _ _ _ (by decide)]
  rw [psR_ne _ _ _ _ (by decide)]
  rw [psR_ne _ _ _ _ (by decide)]
  rw [psR_ne _ _ _ _ (by decide)]
  rw [psR_ne _ _ _ _ (by decide)]
  rw [psR_ne _ _ _ _ (by decide)]
theorem rs_125 (J : jm_I) {j : Nat} (h : j < 40) : rsA J 125 j = J 144 (55 + j) := by
  unfold rsA
  rw [psR_ne _ _ _ _ (by decide)]
  rw [psR_ne _ _ _ _ (by decide)]
  rw [psR_ne _ _ _ _ (by decide)]
  rw [psR_ne _ _ _ _ (by decide)]
  rw [psR_ne _ _ _ _ (by decide)]
  rw [psR_ne _ _ _ _ (by decide)]
  rw [psR_ne _ _ _ _ (by decide)]
  rw [psR_ne _ _ _ _ (by decide)]
  rw [psR_ne _ _ _ _ (by decide)]
  rw [psR_ne _ _ _ _ (by decide)]
  rw [psR_ne _ _ _ _ (by decide)]
  rw [psR_eq, if_pos h]
  rw [psR_ne _ _ _ _ (by decide)]
  rw [psR_ne _ _ _ _ (by decide)]
  rw [psR_ne _ _ _ _ (by decide)]
  rw [psR_ne _ _ _ _ (by decide)]
  rw [psR_ne _ _ _ _ (by decide)]
  rw [psR_ne _ _ _ _ (by decide)]
  rw [psR_ne _ _ _ _ (by decide)]
  rw [psR_ne _ _ _ _ (by decide)]
  rw [psR_ne _ _ _ _ (by decide)]
  rw [psR_ne _ _ _ _ (by decide)]
theorem rs_126 (J : jm_I) {j : Nat} (h : j < 40) : rsA J 126 j = J 144 (95 + j) := by
  unfold rsA
  rw [psR_ne _ _ _ _ (by decide)]
  rw [psR_ne _ _ _ _ (by decide)]
  rw [psR_ne _ _ _ _ (by decide)]
  rw [psR_ne _ _ _ _ (by decide)]
  rw [psR_ne _ _ _ _ (by decide)]
  rw [psR_ne _ _ _ _ (by decide)]
  rw [psR_ne _ _ _ _ (by decide)]
  rw [psR_ne _ _ _ _ (by decide)]
  rw [psR_ne _ _ _ _ (by decide)]
  rw [psR_ne _ _ _ _ (by decide)]
  rw [psR_eq, if_pos h]
  rw [psR_ne _ _ _ _ (by decide)]
  rw [psR_ne _ _ _ _ (by decide)]
  rw [psR_ne _ _ _ _ (by decide)]
  rw [psR_ne _ _ _ _ (by decide)]
  rw [psR_ne _ _ _ _ (by decide)]
  rw [psR_ne _ _ _ _ (by decide)]
  rw [psR_ne _ _ _ _ (by decide)]
  rw [psR_ne _ _ _ _ (by decide)]
  rw [psR_ne _ _ _ _ (by decide)]
  rw [psR_ne _ _ _ _ (by decide)]
  rw [psR_ne _ _ _ _ (by decide)]
theorem rs_127 (J : jm_I) {j : Nat} (h : j < 40) : rsA J 127 j = J 144 (135 + j) := by
  unfold rsA
  rw [psR_ne _ _ _ _ (by decide)]
  rw [psR_ne _ _ _ _ (by decide)]
  rw [psR_ne _ _ _ _ (by decide)]
  rw [psR_ne _ _ _ _ (by decide)]
  rw [psR_ne _ _ _ _ (by decide)]
  rw [psR_ne _ _ _ _ (by decide)]
  rw [psR_ne _ _ _ _ (by decide)]
  rw [psR_ne _ _ _ _ (by decide)]
  rw [psR_ne _ _ _ _ (by decide)]
  rw [psR_eq, if_pos h]
  rw [psR_ne _ _ _ _ (by decide)]
  rw [psR_ne _ _ _ _ (by decide)]
  rw [psR_ne _ _ _ _ (by decide)]
  rw [psR_ne _ _ _ _ (by decide)]
  rw [psR_ne _ _ _ _ (by decide)]
  rw [psR_ne _ _ _ _ (by decide)]
  rw [psR_ne _ _ _ _ (by decide)]
  rw [psR_ne _ _ _ _ (by decide)]
  rw [psR_ne _ _ _ _ (by decide)]
  rw [psR_ne _ _ _ _ (by decide)]
  rw [psR_ne _ _ _ _ (by decide)]
  rw [psR_ne _ _ _ _ (by decide)]
theorem rs_128 (J : jm_I) {j : Nat} (h : j < 40) : rsA J 128 j = J 144 (175 + j) := by
  unfold rsA
  rw [psR_ne _ _ _ _ (by decide)]
  rw [psR_ne _ _ _ _ (by decide)]
  rw [psR_ne _ _ _ _ (by decide)]
  rw [psR_ne _ _ _ _ (by decide)]
  rw [psR_ne _ _ _ _ (by decide)]
  rw [psR_ne _ _ _ _ (by decide)]
  rw [psR_ne _ _ _ _ (by decide)]
  rw [psR_ne _ _ _ _ (by decide)]
  rw [psR_eq, if_pos h]
  rw [psR_ne _ _ _ _ (by decide)]
  rw [psR_ne _ _ _ _ (by decide)]
  rw [psR_ne _ _ _ _ (by decide)]
  rw [psR_ne _ _ _ _ (by decide)]
  rw [psR_ne _ _ _ _ (by decide)]
  rw [psR_ne _ _ _ _ (by decide)]
  rw [psR_ne _ _ _ _ (by decide)]
  rw [psR_ne _ _ _ _ (by decide)]
  rw [psR_ne _ _ _ _ (by decide)]
  rw [psR_ne _ _ _ _ (by decide)]
  rw [psR_ne _ _ _ _ (by decide)]
  rw [psR_ne _ _ _ _ (by decide)]
  rw [psR_ne _ _ _ _ (by decide)]
theorem rs_129 (J : jm_I) {j : Nat} (h : j < 40) : rsA J 129 j = J 144 (215 + j) := by
  unfold rsA
  rw [psR_ne _ _ _ _ (by decide)]
  rw [psR_ne _ _ _ _ (by decide)]
  rw [psR_ne _ _ _ _ (by decide)]
  rw [psR_ne _ _ _ _ (by decide)]
  rw [psR_ne _ _ _ _ (by decide)]
  rw [psR_ne _ _ _ _ (by decide)]
  rw [psR_ne _ _ _ _ (by decide)]
  rw [psR_eq, if_pos h]
  rw [psR_ne _ _ _ _ (by decide)]
  rw [psR_ne _ _ _ _ (by decide)]
  rw [psR_ne _ _ _ _ (by decide)]
  rw [psR_ne _ _ _ _ (by decide)]
  rw [psR_ne _ _ _ _ (by decide)]
  rw [psR_ne _ _ _ _ (by decide)]
  rw [psR_ne _ _ _ _ (by decide)]
  rw [psR_ne _ _ _ _ (by decide)]
  rw [psR_ne _ _ _ _ (by decide)]
  rw [psR_ne _ _ _ _ (by decide)]
  rw [psR_ne _ _ _ _ (by decide)]
  rw [psR_ne _ _ _ _ (by decide)]
  rw [psR_ne _ _ _ _ (by decide)]
  rw [psR_ne _ _ _ _ (by decide)]
theorem rs_130 (J : jm_I) {j : Nat} (h : j < 40) : rsA J 130 j = J 144 (255 + j) := by
  unfold rsA
  rw [psR_ne _ _ _ _ (by decide)]
  rw [psR_ne _ _ _ _ (by decide)]
  rw [psR_ne _ _ _ _ (by decide)]
  rw [psR_ne _ _ _ _ (by decide)]
  rw [psR_ne _ _ _ _ (by decide)]
  rw [psR_ne _ _ _ _ (by decide)]
  rw [psR_eq, if_pos h]
  rw [psR_ne _ _ _ _ (by decide)]
  rw [psR_ne _ _ _ _ (by decide)]
  rw [psR_ne _ _ _ _ (by decide)]
  rw [psR_ne _ _ _ _ (by decide)]
  rw [psR_ne _ _ _ _ (by decide)]
  rw [psR_ne _ _ _ _ (by decide)]
  rw [psR_ne _ _ _ _ (by decide)]
  rw [psR_ne _ _ _ _ (by decide)]
  rw [psR_ne _ _ _ _ (by decide)]
  rw [psR_ne _ _ _ _ (by decide)]
  rw [psR_ne _ _ _ _ (by decide)]
  rw [psR_ne _ _ _ _ (by decide)]
  rw [psR_ne _ _ _ _ (by decide)]
  rw [psR_ne _ _ _ _ (by decide)]
  rw [psR_ne _ _ _ _ (by decide)]
theorem rs_131 (J : jm_I) {j : Nat} (h : j < 40) : rsA J 131 j = J 144 (295 + j) := by
  unfold rsA
  rw [psR_ne _ _ _ _ (by decide)]
  rw [psR_ne _ _ _ _ (by decide)]
  rw [psR_ne _ _ _ _ (by decide)]
  rw [psR_ne _ _ _ _ (by decide)]
  rw [psR_ne _ _ _ _ (by decide)]
  rw [psR_eq, if_pos h]
  rw [psR_ne _ _ _ _ (by decide)]
  rw [psR_ne _ _ _ _ (by decide)]
  rw [psR_ne _ _ _ _ (by decide)]
  rw [psR_ne _ _ _ _ (by decide)]
  rw [psR_ne _ _ _ _ (by decide)]
  rw [psR_ne _ _ _ _ (by decide)]
  rw [psR_ne _ _ _ _ (by decide)]
  rw [psR_ne _ _ _ _ (by decide)]
  rw [psR_ne _ _ _ _ (by decide)]
  rw [psR_ne _ _ _ _ (by decide)]
  rw [psR_ne _ _ _ _ (by decide)]
  rw [psR_ne _ _ _ _ (by decide)]
  rw [psR_ne _ _ _ _ (by decide)]
  rw [psR_ne _ _ _ _ (by decide)]
  rw [psR_ne _ _ _ _ (by decide)]
  rw [psR_ne _ _ _ _ (by decide)]
theorem rs_134 (J : jm_I) {j : Nat} (h : j < 72) : rsA J 134 j = J 144 (335 + j) := by
  unfold rsA
  rw [psR_ne _ _ _ _ (by decide)]
  rw [psR_ne _ _ _ _ (by decide)]
  rw [psR_ne _ _ _ _ (by decide)]
  rw [psR_ne _ _ _ _ (by decide)]
  rw [psR_eq, if_pos h]
  rw [psR_ne _ _ _ _ (by decide)]
  rw [psR_ne _ _ _ _ (by decide)]
  rw [psR_ne _ _ _ _ (by decide)]
  rw [psR_ne _ _ _ _ (by decide)]
  rw [psR_ne _ _ _ _ (by decide)]
  rw [psR_ne _ _ _ _ (by decide)]
  rw [psR_ne _ _ _ _ (by decide)]
  rw [psR_ne _ _ _ _ (by decide)]
  rw [psR_ne _ _ _ _ (by decide)]
  rw [psR_ne _ _ _ _ (by decide)]
  rw [psR_ne _ _ _ _ (by decide)]
  rw [psR_ne _ _ _ _ (by decide)]
  rw [psR_ne _ _ _ _ (by decide)]
  rw [psR_ne _ _ _ _ (by decide)]
  rw [psR_ne _ _ _ _ (by decide)]
  rw [psR_ne _ _ _ _ (by decide)]
  rw [psR_ne _ _ _ _ (by decide)]
theorem rs_135 (J : jm_I) {j : Nat} (h : j < 9) : rsA J 135 j = J 144 (407 + j) := by
  unfold rsA
  rw [psR_ne _ _ _ _ (by decide)]
  rw [psR_ne _ _ _ _ (by decide)]
  rw [psR_ne _ _ _ _ (by decide)]
  rw [psR_eq, if_pos h]
  rw [psR_ne _ _ _ _ (by decide)]
  rw [psR_ne _ _ _ _ (by decide)]
  rw [psR_ne _ _ _ _ (by decide)]
  rw [psR_ne _ _ _ _ (by decide)]
  rw [psR_ne _ _ _ _ (by decide)]
  rw [psR_ne _ _ _ _ (by decide)]
  rw [psR_ne _ _ _ _ (by decide)]
  rw [psR_ne _ _ _ _ (by decide)]
  rw [psR_ne _ _ _ _ (by decide)]
  rw [psR_ne _ _ _ _ (by decide)]
  rw [psR_ne _ _ _ _ (by decide)]
  rw [psR_ne _ _ _ _ (by decide)]
  rw [psR_ne _ _ _ _ (by decide)]
  rw [psR_ne _ _ _ _ (by decide)]
  rw [psR_ne _ _ _ _ (by decide)]
  rw [psR_ne _ _ _ _ (by decide)]
  rw [psR_ne _ _ _ _ (by decide)]
  rw [psR_ne _ _ _ _ (by decide)]
theorem rs_136 (J : jm_I) {j : Nat} (h : j < 4) : rsA J 136 j = J 144 (416 + j) := by
  unfold rsA
  rw [psR_ne _ _ _ _ (by decide)]
  rw [psR_ne _ _ _ _ (by decide)]
  rw [psR_eq, if_pos h]
  rw [psR_ne _ _ _ _ (by decide)]
  rw [psR_ne _ _ _ _ (by decide)]
  rw [psR_ne _ _ _ _ (by decide)]
  rw [psR_ne _ _ _ _ (by decide)]
  rw [psR_ne _ _ _ _ (by decide)]
  rw [psR_ne _ _ _ _ (by decide)]
  rw [psR_ne _ _ _ _ (by decide)]
  rw [psR_ne _ _ _ _ (by decide)]
  rw [psR_ne _ _ _ _ (by decide)]
  rw [psR_ne _ _ _ _ (by decide)]
  rw [psR_ne _ _ _ _ (by decide)]
  rw [psR_ne _ _ _ _ (by decide)]
  rw [psR_ne _ _ _ _ (by decide)]
  rw [psR_ne _ _ _ _ (by decide)]
  rw [psR_ne _ _ _ _ (by decide)]
  rw [psR_ne _ _ _ _ (by decide)]
  rw [psR_ne _ _ _ _ (by decide)]
  rw [psR_ne _ _ _ _ (by decide)]
  rw [psR_ne _ _ _ _ (by decide)]
theorem rs_137 (J : jm_I) {j : Nat} (h : j < 4) : rsA J 137 j = J 144 (420 + j) := by
  unfold rsA
  rw [psR_ne _ _ _ _ (by decide)]
  rw [psR_eq, if_pos h]
  rw [psR_ne _ _ _ _ (by decide)]
  rw [psR_ne _ _ _ _ (by decide)]
  rw [psR_ne _ _ _ _ (by decide)]
  rw [psR_ne _ _ _ _ (by decide)]
  rw [psR_ne _ _ _ _ (by decide)]
  rw [psR_ne _ _ _ _ (by decide)]
  rw [psR_ne _ _ _ _ (by decide)]
  rw [psR_ne _ _ _ _ (by decide)]
  rw [psR_ne _ _ _ _ (by decide)]
  rw [psR_ne _ _ _ _ (by decide)]
  rw [psR_ne _ _ _ _ (by decide)]
  rw [psR_ne _ _ _ _ (by decide)]
  rw [psR_ne _ _ _ _ (by decide)]
  rw [psR_ne _ _ _ _ (by decide)]
  rw [psR_ne _ _ _ _ (by decide)]
  rw [psR_ne _ _ _ _ (by decide)]
  rw [psR_ne _ _ _ _ (by decide)]
  rw [psR_ne _ _ _ _ (by decide)]
  rw [psR_ne _ _ _ _ (by decide)]
  rw [psR_ne _ _ _ _ (by decide)]
theorem rs_143 (J : jm_I) {j : Nat} (h : j < 160) : rsA J 143 j = J 144 (424 + j) := by
  unfold rsA
  rw [psR_eq, if_pos h]
  rw [psR_ne _ _ _ _ (by decide)]
  rw [psR_ne _ _ _ _ (by decide)]
  rw [psR_ne _ _ _ _ (by decide)]
  rw [psR_ne _ _ _ _ (by decide)]
  rw [psR_ne _ _ _ _ (by decide)]
  rw [psR_ne _ _ _ _ (by decide)]
  rw [psR_ne _ _ _ _ (by decide)]
  rw [psR_ne _ _ _ _ (by decide)]
  rw [psR_ne _ _ _ _ (by decide)]
  rw [psR_ne _ _ _ _ (by decide)]
  rw [psR_ne _ _ _ _ (by decide)]
  rw [psR_ne _ _ _ _ (by decide)]
  rw [psR_ne _ _ _ _ (by decide)]
  rw [psR_ne _ _ _ _ (by decide)]
  rw [psR_ne _ _ _ _ (by decide)]
  rw [psR_ne _ _ _ _ (by decide)]
  rw [psR_ne _ _ _ _ (by decide)]
  rw [psR_ne _ _ _ _ (by decide)]
  rw [psR_ne _ _ _ _ (by decide)]
  rw [psR_ne _ _ _ _ (by decide)]
  rw [psR_ne _ _ _ _ (by decide)]
theorem kV_r (J : jm_I) {a j : Nat} (h : okM a j) : stR (rsC J) 590 a j = kV J a j := by
  have r1 : ∀ b, b ≠ 111 → b ≠ 119 → stR (rsC J) 590 b = rsA J b := by
    intro b h1 h2
    rw [stR_at _ _ h1]
    unfold rsC rsB
    rw [jm_u_ne _ _ _ h2, jm_u_ne _ _ _ h2, jm_u_ne _ _ _ h2, jm_u_ne _ _ _ h2, jm_u_ne _ _ _ h1, jm_u_ne _ _ _ h1]
  unfold kV
  unfold okM at h
  split at h
  · rcases h with rfl | rfl
    · rw [stR_111 _ _ (by decide)]
      simp [rsC, rsB, jm_u_ap, upd_ap]
    · rw [stR_111 _ _ (by decide)]
      simp [rsC, rsB, jm_u_ap, upd_ap]
  · rw [if_neg (by decide), stR_at _ _ (by decide)]
    show _ = J 144 (586 + j)
    unfold rsC
    rcases (show j = 0 ∨ j = 1 ∨ j = 2 ∨ j = 3 by omega) with rfl | rfl | rfl | rfl <;> simp [jm_u_ap, upd_ap]
  · rw [if_neg (by decide), r1 _ (by decide) (by decide)]; exact rs_113 J h
  · rw [if_neg (by decide), r1 _ (by decide) (by decide)]; exact rs_114 J h
  · rw [if_neg (by decide), r1 _ (by decide) (by decide)]; exact rs_115 J h
  · rw [if_neg (by decide), r1 _ (by decide) (by decide)]; exact rs_116 J h
  · rw [if_neg (by decide), r1 _ (by decide) (by decide)]; exact rs_117 J h
  · rw [if_neg (by decide), r1 _ (by decide) (by decide)]; exact rs_118 J h
  · rw [if_neg (by decide), r1 _ (by decide) (by decide)]; exact rs_121 J h
  · rw [if_neg (by decide), r1 _ (by decide) (by decide)]; exact rs_122 J h
  · rw [if_neg (by decide), r1 _ (by decide) (by decide)]; exact rs_123 J h
  · rw [if_neg (by decide), r1 _ (by decide) (by decide)]; exact rs_124 J h
  · rw [if_neg (by decide), r1 _ (by decide) (by decide)]; exact rs_125 J h
  · rw [if_neg (by decide), r1 _ (by decide) (by decide)]; exact rs_126 J h
  · rw [if_neg (by decide), r1 _ (by decide) (by decide)]; exact rs_127 J h
  · rw [if_neg (by decide), r1 _ (by decide) (by decide)]; exact rs_128 J h
  · rw [if_neg (by decide), r1 _ (by decide) (by decide)]; exact rs_129 J h
  · rw [if_neg (by decide), r1 _ (by decide) (by decide)]; exact rs_130 J h
  · rw [if_neg (by decide), r1 _ (by decide) (by decide)]; exact rs_131 J h
  · rw [if_neg (by decide), r1 _ (by decide) (by decide)]; exact rs_134 J h
  · rw [if_neg (by decide), r1 _ (by decide) (by decide)]; exact rs_135 J h
  · rw [if_neg (by decide), r1 _ (by decide) (by decide)]; exact rs_136 J h
  · rw [if_neg (by decide), r1 _ (by decide) (by decide)]; exact rs_137 J h
  · rw [if_neg (by decide), r1 _ (by decide) (by decide)]; exact rs_143 J h
  · exact h.elim
