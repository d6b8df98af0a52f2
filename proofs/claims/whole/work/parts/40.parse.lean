/-! the text of a table -/
theorem jm_u_uu (J : jm_I) (a k : Nat) (x y : Int32) : jm_u (jm_u J a k x) a k y = jm_u J a k y := by
  funext b j
  simp only [jm_u_ap]
  by_cases h : b = a
  · subst h; simp [upd_ap]
    by_cases q : j = k <;> simp [q, upd_ap]
  · simp [h]
theorem jm_u_id (J : jm_I) {a k : Nat} {x : Int32} (h : J a k = x) : jm_u J a k x = J := by
  funext b j
  simp only [jm_u_ap]
  by_cases e : b = a
  · subst e
    by_cases q : j = k
    · subst q; simp [upd_ap, h]
    · simp [q, upd_ap]
  · simp [e]
def tmR (B : Nat → Int32) (X p w wd : Nat) : Prop := (B p = nI 101 ∧ w = 0 ∧ wd = 1) ∨ (B p = nI 111 ∧ w = 1 ∧ wd = 1) ∨ (B p = nI 108 ∧ w = 2 ∧ wd = 1) ∨ (B p = nI 112 ∧ wd = 2 ∧ p + 1 < X ∧ 3 ≤ w ∧ w ≤ 6 ∧ B (p + 1) = nI (45 + w))
def tmN (B : Nat → Int32) (X p q : Nat) : Prop := (B p = nI 112 ∧ q = p + 1 ∧ ¬ (p + 1 < X ∧ nI 48 ≤ B (p + 1) ∧ B (p + 1) ≤ nI 51)) ∨ (¬ B p = nI 101 ∧ ¬ B p = nI 111 ∧ ¬ B p = nI 108 ∧ ¬ B p = nI 112 ∧ q = p)
theorem tm_total (B : Nat → Int32) (X p : Nat) : (∃ w wd, tmR B X p w wd) ∨ (∃ q, tmN B X p q) := by
  by_cases h1 : B p = nI 101
  · exact Or.inl ⟨0, 1, Or.inl ⟨h1, rfl, rfl⟩⟩
  · by_cases h2 : B p = nI 111
    · exact Or.inl ⟨1, 1, Or.inr (Or.inl ⟨h2, rfl, rfl⟩)⟩
    · by_cases h3 : B p = nI 108
      · exact Or.inl ⟨2, 1, Or.inr (Or.inr (Or.inl ⟨h3, rfl, rfl⟩))⟩
      · by_cases h4 : B p = nI 112
        · by_cases h5 : p + 1 < X ∧ nI 48 ≤ B (p + 1) ∧ B (p + 1) ≤ nI 51
          · obtain ⟨g0, g1, g2⟩ := h5
            rw [Int32.le_iff_toInt_le, nI_toInt (by decide)] at g1
            rw [Int32.le_iff_toInt_le, nI_toInt (n := 51) (by decide)] at g2
            refine Or.inl ⟨(B (p + 1)).toInt.toNat - 45, 2, Or.inr (Or.inr (Or.inr ⟨h4, rfl, g0, by omega, by omega, ?_⟩))⟩
            rw [nI_iZ, show ((45 + ((B (p + 1)).toInt.toNat - 45) : Nat) : Int) = (B (p + 1)).toInt by omega, iZ_toInt]
          · exact Or.inr ⟨p + 1, Or.inl ⟨h4, rfl, h5⟩⟩
        · exact Or.inr ⟨p, Or.inr ⟨h1, h2, h3, h4, rfl⟩⟩
theorem sub48 {x : Int32} (h : ¬ (nI 48 ≤ x ∧ x ≤ nI 51)) : ¬ (0 ≤ x - nI 48 ∧ x - nI 48 < nI 4) := by
  intro q
  obtain ⟨j, hj, e⟩ := ix (by decide) q
  apply h
  have : x = nI (48 + j) := by
    have e2 : x = x - nI 48 + nI 48 := by rw [Int32.sub_add_cancel]
    rw [e2, e, nI_add]
    congr 1
    omega
  rw [this]
  exact ⟨nI_le (by omega) (by omega), nI_le (by omega) (by omega)⟩
theorem c_termAt_R (n : Nat) (C : jm_I) (L : jm_L) {X p w wd : Nat} (hX : X ≤ 20) (e1 : C 66 1 = nI X) (hp : p < X) (h : tmR (C 67) X p w wd) : jE n rX5_termAt 0 [.ref 66, .int (nI p), .null] [] C L = some (some (.int (nI w)), jS n C L) := by
  have hp2 : p < 20 := by omega
  rcases h with ⟨h1, h2, -⟩ | ⟨h1, h2, -⟩ | ⟨h1, h2, -⟩ | ⟨h1, -, h3, h4, h5, h6⟩
  · subst h2; simp (decide := true) [eX5_termAt_0, eX5_termAt_48, eX5_termAt_50, eX5_termAt_52, eX5_termAt_54, eX5_termAt_64, eX5_termAt_78, eX5_termAt_79, eX5_termAt_88, eX5_termAt_94, eX5_termAt_95, eX5_termAt_96, jLI_t, jLW_t, jLL_t, jLZ_t, jLA_t, hp2, h1]
  · subst h2; simp (decide := true) [eX5_termAt_0, eX5_termAt_48, eX5_termAt_50, eX5_termAt_52, eX5_termAt_54, eX5_termAt_64, eX5_termAt_78, eX5_termAt_79, eX5_termAt_88, eX5_termAt_94, eX5_termAt_95, eX5_termAt_96, jLI_t, jLW_t, jLL_t, jLZ_t, jLA_t, hp2, h1]
  · subst h2; simp (decide := true) [eX5_termAt_0, eX5_termAt_48, eX5_termAt_50, eX5_termAt_52, eX5_termAt_54, eX5_termAt_64, eX5_termAt_78, eX5_termAt_79, eX5_termAt_88, eX5_termAt_94, eX5_termAt_95, eX5_termAt_96, jLI_t, jLW_t, jLL_t, jLZ_t, jLA_t, hp2, h1]
  · have hp3 : p + 1 < 20 := by omega
    have c : ¬ nI X ≤ nI (p + 1) := nI_ge h3 (by omega)
    have es : nI (45 + w) - nI 48 = nI (w - 3) := by rw [nI_sb (by omega)]; congr 1; omega
    have hw := nI_w (show w - 3 < 4 by omega) (by decide)
    have e3 : 3 + (w - 3) = w := by omega
    simp (decide := true) [eX5_termAt_0, eX5_termAt_48, eX5_termAt_50, eX5_termAt_52, eX5_termAt_54, eX5_termAt_64, eX5_termAt_78, eX5_termAt_79, eX5_termAt_88, eX5_termAt_94, eX5_termAt_95, eX5_termAt_96, jLI_t, jLW_t, jLL_t, jLZ_t, jLA_t, hp2, h1, nI_add, e1, c, hp3, h6, es, h_isWithin, hw, jB_s, n10, e3]
theorem c_termAt_N (n : Nat) (C : jm_I) (L : jm_L) {X p q : Nat} (hX : X ≤ 20) (e1 : C 66 1 = nI X) (hp : p < X) (h : tmN (C 67) X p q) : jE n rX5_termAt 0 [.ref 66, .int (nI p), .null] [] C L = some (some (.int (-1)), jS n C L) := by
  have hp2 : p < 20 := by omega
  rcases h with ⟨h1, -, h3⟩ | ⟨h1, h2, h3, h4, -⟩
  · by_cases hx : p + 1 < X
    · have hp3 : p + 1 < 20 := by omega
      have c : ¬ nI X ≤ nI (p + 1) := nI_ge hx (by omega)
      have hn := sub48 (fun q => h3 ⟨hx, q⟩)
      simp (decide := true) [eX5_termAt_0, eX5_termAt_48, eX5_termAt_50, eX5_termAt_52, eX5_termAt_54, eX5_termAt_64, eX5_termAt_78, eX5_termAt_79, eX5_termAt_88, eX5_termAt_94, eX5_termAt_95, eX5_termAt_96, jLI_t, jLW_t, jLL_t, jLZ_t, jLA_t, hp2, h1, nI_add, e1, c, hp3, h_isWithin, hn, jB_s, n00t]
    · have c : nI X ≤ nI (p + 1) := nI_le (by omega) (by omega)
      have hn : ¬ (0 ≤ (-1 : Int32) ∧ (-1 : Int32) < nI 4) := by decide
      simp (decide := true) [eX5_termAt_0, eX5_termAt_48, eX5_termAt_50, eX5_termAt_52, eX5_termAt_54, eX5_termAt_64, eX5_termAt_78, eX5_termAt_79, eX5_termAt_88, eX5_termAt_94, eX5_termAt_95, eX5_termAt_96, jLI_t, jLW_t, jLL_t, jLZ_t, jLA_t, hp2, h1, nI_add, e1, c, h_isWithin, hn, jB_s, n00t]
  · simp (decide := true) [eX5_termAt_0, eX5_termAt_48, eX5_termAt_50, eX5_termAt_52, eX5_termAt_54, eX5_termAt_64, eX5_termAt_78, eX5_termAt_79, eX5_termAt_88, eX5_termAt_94, eX5_termAt_95, eX5_termAt_96, jLI_t, jLW_t, jLL_t, jLZ_t, jLA_t, hp2, h1, h2, h3, h4]
/-- a term that is there already -/
def dup (T : Nat → Int32) (k w : Nat) : Prop := ∃ i, i < k ∧ T i = nI w
theorem c_readTerm_x (n : Nat) (C : jm_I) (L : jm_L) {X p k : Nat} (hX : X ≤ 20) (e1 : C 66 1 = nI X) (e3 : C 66 3 = nI k) (hk : k ≤ 3) (hp : p ≤ 20) (h : X ≤ p ∨ k = 3) : jE n rX5_readTerm 0 [.ref 66, .int (nI p), .null, .null] [] C L = some (some (.int (nI p)), jS n C L) := by
  by_cases hx : X ≤ p
  · have c : nI X ≤ nI p := nI_le hx (by omega)
    simp only [eX5_readTerm_0, eX5_readTerm_16, e1, c, if_true]
  · have c : ¬ nI X ≤ nI p := nI_ge (by omega) (by omega)
    have : k = 3 := h.resolve_left hx
    subst this
    have c2 : ¬ nI 3 < nI 3 := by decide
    simp only [eX5_readTerm_0, eX5_readTerm_8, eX5_readTerm_16, e1, c, if_false, e3, c2]
theorem c_readTerm_N (n : Nat) (C : jm_I) (L : jm_L) {X p k q : Nat} (hX : X ≤ 20) (e1 : C 66 1 = nI X) (e3 : C 66 3 = nI k) (hk : k < 3) (hp : p < X) (h : tmN (C 67) X p q) : jE n rX5_readTerm 0 [.ref 66, .int (nI p), .null, .null] [] C L = some (some (.int (nI q)), jS n C L) := by
  have c : ¬ nI X ≤ nI p := nI_ge (by omega) (by omega)
  have c2 : nI k < nI 3 := nI_lt hk (by decide)
  have c3 : ¬ (0 ≤ (-1 : Int32)) := by decide
  have ht := c_termAt_N n C L hX e1 hp h
  have hp2 : p < 20 := by omega
  rcases h with ⟨h1, h2, h3⟩ | ⟨h1, h2, h3, h4, h5⟩
  · subst h2
    simp only [eX5_readTerm_0, eX5_readTerm_8, eX5_readTerm_18, eX5_readTerm_28, eX5_readTerm_39, eX5_readTerm_46, e1, c, if_false, e3, c2, if_true, ht, jB_s, c3, jLI_t, jLW_t, jLL_t, jLZ_t, jLA_t, hp2, h1, not_true, nI_add]
  · subst h5
    simp only [eX5_readTerm_0, eX5_readTerm_8, eX5_readTerm_18, eX5_readTerm_28, eX5_readTerm_45, eX5_readTerm_46, e1, c, if_false, e3, c2, if_true, ht, jB_s, c3, jLI_t, jLW_t, jLL_t, jLZ_t, jLA_t, hp2, h4, not_false_eq_true]
theorem c_readTerm_d (n : Nat) (C : jm_I) (L : jm_L) {X p k w wd : Nat} (hX : X ≤ 20) (e1 : C 66 1 = nI X) (e3 : C 66 3 = nI k) (hk : k < 3) (hp : p < X) (hw : w ≤ 6) (h : tmR (C 67) X p w wd) (hd : dup (C 68) k w) : jE n rX5_readTerm 0 [.ref 66, .int (nI p), .null, .null] [] C L = some (some (.int (nI p)), jS n C L) := by
  have c : ¬ nI X ≤ nI p := nI_ge (by omega) (by omega)
  have c2 : nI k < nI 3 := nI_lt hk (by decide)
  have c3 : 0 ≤ nI w := nI_pos' (by omega)
  have ht := c_termAt_R n C L hX e1 hp h
  have key : ∀ (d i : Nat), i + d = k → (∃ i', i ≤ i' ∧ i' < k ∧ C 68 i' = nI w) → jE n rX5_readTerm 49 [.ref 66, .int (nI p), .int (nI w), .int (nI i)] [] C L = some (some (.int (nI p)), jS n C L) := by
    intro d
    induction d with
    | zero => intro i hi hx; obtain ⟨i', a1, a2, -⟩ := hx; omega
    | succ d ih =>
      intro i hi hx
      have c4 : ¬ nI k ≤ nI i := nI_ge (by omega) (by omega)
      have hi3 : i < 3 := by omega
      have hd0 : jE n rX5_readTerm 49 [.ref 66, .int (nI p), .int (nI w), .int (nI i)] [] C L = jE n rX5_readTerm 57 [.ref 66, .int (nI p), .int (nI w), .int (nI i)] [] C L := by
        simp only [eX5_readTerm_49, e3, c4, if_false]
      rw [hd0]
      by_cases q : C 68 i = nI w
      · simp only [eX5_readTerm_57, eX5_readTerm_67, jLI_t, jLW_t, jLL_t, jLZ_t, jLA_t, hi3, q, not_true, if_false]
      · simp only [eX5_readTerm_57, eX5_readTerm_69, jLI_t, jLW_t, jLL_t, jLZ_t, jLA_t, hi3, q, not_false_eq_true, if_true, nI_add]
        refine ih (i + 1) (by omega) ?_
        obtain ⟨i', a1, a2, a3⟩ := hx
        have : i' ≠ i := fun e => q (e ▸ a3)
        exact ⟨i', by omega, a2, a3⟩
  obtain ⟨i, hi, e⟩ := hd
  have e0 : jE n rX5_readTerm 0 [.ref 66, .int (nI p), .null, .null] [] C L = jE n rX5_readTerm 49 [.ref 66, .int (nI p), .int (nI w), .int (nI 0)] [] C L := by
    simp only [eX5_readTerm_0, eX5_readTerm_8, eX5_readTerm_18, eX5_readTerm_47, e1, c, if_false, e3, c2, if_true, ht, jB_s, c3]
  rw [e0]
  exact key k 0 (Nat.zero_add _) ⟨i, Nat.zero_le _, hi, e⟩
theorem c_readTerm_R (n : Nat) (C : jm_I) (L : jm_L) {X p k w wd : Nat} (hX : X ≤ 20) (e1 : C 66 1 = nI X) (e3 : C 66 3 = nI k) (hk : k < 3) (hp : p < X) (hw : w ≤ 6) (h : tmR (C 67) X p w wd) (hd : ¬ dup (C 68) k w) : jE n rX5_readTerm 0 [.ref 66, .int (nI p), .null, .null] [] C L = some (some (.int (-1)), jS n (jm_u (jm_u C 68 k (nI w)) 66 3 (nI (k + 1))) L) := by
  have c : ¬ nI X ≤ nI p := nI_ge (by omega) (by omega)
  have c2 : nI k < nI 3 := nI_lt hk (by decide)
  have c3 : 0 ≤ nI w := nI_pos' (by omega)
  have ht := c_termAt_R n C L hX e1 hp h
  have key : ∀ (d i : Nat), i + d = k → jE n rX5_readTerm 49 [.ref 66, .int (nI p), .int (nI w), .int (nI i)] [] C L = jE n rX5_readTerm 75 [.ref 66, .int (nI p), .int (nI w), .int (nI k)] [] C L := by
    intro d
    induction d with
    | zero =>
      intro i hi
      have : i = k := by omega
      subst this
      have c4 : nI i ≤ nI i := Int32.le_refl _
      simp only [eX5_readTerm_49, e3, c4, if_true]
    | succ d ih =>
      intro i hi
      have c4 : ¬ nI k ≤ nI i := nI_ge (by omega) (by omega)
      have hi3 : i < 3 := by omega
      have hd0 : jE n rX5_readTerm 49 [.ref 66, .int (nI p), .int (nI w), .int (nI i)] [] C L = jE n rX5_readTerm 57 [.ref 66, .int (nI p), .int (nI w), .int (nI i)] [] C L := by
        simp only [eX5_readTerm_49, e3, c4, if_false]
      rw [hd0]
      have q : ¬ C 68 i = nI w := fun q => hd ⟨i, by omega, q⟩
      simp only [eX5_readTerm_57, eX5_readTerm_69, jLI_t, jLW_t, jLL_t, jLZ_t, jLA_t, hi3, q, not_false_eq_true, if_true, nI_add]
      exact ih (i + 1) (by omega)
  have e0 : jE n rX5_readTerm 0 [.ref 66, .int (nI p), .null, .null] [] C L = jE n rX5_readTerm 49 [.ref 66, .int (nI p), .int (nI w), .int (nI 0)] [] C L := by
    simp only [eX5_readTerm_0, eX5_readTerm_8, eX5_readTerm_18, eX5_readTerm_47, e1, c, if_false, e3, c2, if_true, ht, jB_s, c3]
  have e4 : jm_u C 68 k (nI w) 66 3 = nI k := by rw [jm_u_ne _ _ _ (by decide), e3]
  rw [e0, key k 0 (Nat.zero_add _)]
  simp only [eX5_readTerm_75, e3, jLI_t, jLW_t, jLL_t, jLZ_t, jLA_t, hk, e4, nI_add]
/-! the model -/
def sg (B : Nat → Int32) (X p : Nat) : Int32 := if p < X then B p else -1
theorem m_sign (n : Nat) (J : jm_I) (L : jm_L) {X p : Nat} (hX : X ≤ 20) (hp : p ≤ 22) (e28 : J 111 28 = nI X) (e30 : J 111 30 = nI p) : jE n rX10_sign 0 [.ref 111] [] J L = some (some (.int (sg (J 133) X p)), jS n J L) := by
  unfold sg
  by_cases h : p < X
  · have c : ¬ nI X ≤ nI p := nI_ge h (by omega)
    have hp2 : p < 20 := by omega
    simp only [eX10_sign_0, eX10_sign_11, eX10_sign_23, eX10_sign_24, e28, e30, c, if_false, jLI_t, jLW_t, jLL_t, jLZ_t, jLA_t, hp2, h, if_true]
  · have c : nI X ≤ nI p := nI_le (by omega) (by omega)
    simp only [eX10_sign_0, eX10_sign_11, eX10_sign_23, eX10_sign_24, e28, e30, c, if_true, h, if_false]
theorem m_one_a (n : Nat) (J : jm_I) (L : jm_L) {X p : Nat} (hX : X ≤ 20) (hp : p ≤ 20) (e28 : J 111 28 = nI X) (e30 : J 111 30 = nI p) (v1 : Int32) : jE n rX10_oneTerm 0 [.ref 111, .int v1, .null, .null, .null, .null] [] J L = jE n rX10_oneTerm 46 [.ref 111, .int v1, .int (sg (J 133) X p), .null, .null, .null] [.int (if sg (J 133) X p = nI 101 then nI 0 else if sg (J 133) X p = nI 111 then nI 1 else if sg (J 133) X p = nI 108 then nI 2 else if sg (J 133) X p = nI 112 then nI 3 else -1)] J L := by
  have hs := m_sign n J L hX (show p ≤ 22 by omega) e28 e30
  simp only [eX10_oneTerm_0, hs, jB_s]
  generalize sg (J 133) X p = b
  by_cases h1 : b = nI 101
  · simp (decide := true) [eX10_oneTerm_11, h1]
  · by_cases h2 : b = nI 111
    · simp (decide := true) [eX10_oneTerm_15, eX10_oneTerm_21, h2]
    · by_cases h3 : b = nI 108
      · simp (decide := true) [eX10_oneTerm_15, eX10_oneTerm_25, eX10_oneTerm_31, h3]
      · by_cases h4 : b = nI 112
        · simp (decide := true) [eX10_oneTerm_15, eX10_oneTerm_25, eX10_oneTerm_35, eX10_oneTerm_41, h4]
        · simp [eX10_oneTerm_15, eX10_oneTerm_25, eX10_oneTerm_35, eX10_oneTerm_45, h1, h2, h3, h4]
theorem m_one_x (n : Nat) (J : jm_I) (L : jm_L) {X p k t : Nat} (hX : X ≤ 20) (hp : p ≤ 20) (e28 : J 111 28 = nI X) (e30 : J 111 30 = nI p) (ht : t < 8) (ek : J 135 t = nI k) (hk : k ≤ 3) (h : X ≤ p ∨ k = 3) : jE n rX10_oneTerm 0 [.ref 111, .int (nI t), .null, .null, .null, .null] [] J L = some (some (.int (nI 0)), jS n J L) := by
  rw [m_one_a n J L hX hp e28 e30]
  have ht9 : t < 9 := by omega
  by_cases hx : X ≤ p
  · have es : sg (J 133) X p = -1 := by rw [sg, if_neg (by omega)]
    rw [es]
    simp (decide := true) [eX10_oneTerm_46, eX10_oneTerm_61]
  · have : k = 3 := h.resolve_left hx
    subst this
    generalize (if sg (J 133) X p = nI 101 then nI 0 else if sg (J 133) X p = nI 111 then nI 1 else if sg (J 133) X p = nI 108 then nI 2 else if sg (J 133) X p = nI 112 then nI 3 else -1) = z
    by_cases hz : z < 0
    · simp only [eX10_oneTerm_46, eX10_oneTerm_61, hz, if_true]
    · simp only [eX10_oneTerm_46, eX10_oneTerm_51, eX10_oneTerm_61, hz, if_false, jLI_t, jLW_t, jLL_t, jLZ_t, jLA_t, ht9, ek, not_true]
theorem m_one_N (n : Nat) (J : jm_I) (L : jm_L) {X p k q t : Nat} (hX : X ≤ 20) (hp : p < X) (e28 : J 111 28 = nI X) (e30 : J 111 30 = nI p) (ht : t < 8) (ek : J 135 t = nI k) (hk : k < 3) (h : tmN (J 133) X p q) : jE n rX10_oneTerm 0 [.ref 111, .int (nI t), .null, .null, .null, .null] [] J L = some (some (.int (nI 0)), jS n (jm_u J 111 30 (nI q)) L) := by
  rw [m_one_a n J L hX (by omega) e28 e30]
  have ht9 : t < 9 := by omega
  have es : sg (J 133) X p = J 133 p := by rw [sg, if_pos hp]
  rw [es]
  have hk3 : ¬ nI k = nI 3 := fun q => by have := (nI_inj (by omega) (by decide)).mp q; omega
  rcases h with ⟨h1, h2, h3⟩ | ⟨h1, h2, h3, h4, h5⟩
  · subst h2
    rw [h1, if_neg (by decide), if_neg (by decide), if_neg (by decide), if_pos rfl]
    have hs := m_sign n (jm_u J 111 30 (nI (p + 1))) L (p := p + 1) hX (by omega) (by rw [jm_u_eq, if_neg (by decide), e28]) (by rw [jm_u_eq, if_pos rfl])
    rw [jm_u_ne _ _ _ (by decide)] at hs
    have hn : ¬ (nI 48 ≤ sg (J 133) X (p + 1) ∧ sg (J 133) X (p + 1) ≤ nI 51) := by
      unfold sg
      by_cases hx : p + 1 < X
      · rw [if_pos hx]; exact fun q => h3 ⟨hx, q⟩
      · rw [if_neg hx]; decide
    have c3 : ¬ nI 3 < 0 := by decide
    simp only [eX10_oneTerm_46, eX10_oneTerm_51, eX10_oneTerm_63, eX10_oneTerm_84, eX10_oneTerm_101, c3, if_false, jLI_t, jLW_t, jLL_t, jLZ_t, jLA_t, ht9, ek, hk3, not_false_eq_true, if_true, e30, nI_add, not_true, hs, jB_s, m_isIn n _ L _ 48 51 (by decide) (by decide), hn, n00t]
  · subst h5
    rw [if_neg h1, if_neg h2, if_neg h3, if_neg h4, jm_u_id J e30]
    have c3 : (-1 : Int32) < 0 := by decide
    simp only [eX10_oneTerm_46, eX10_oneTerm_61, c3, if_true]
theorem m_one_b (n : Nat) (J : jm_I) (L : jm_L) {X p k w wd t : Nat} (hX : X ≤ 20) (hp : p < X) (e28 : J 111 28 = nI X) (e30 : J 111 30 = nI p) (ht : t < 8) (ek : J 135 t = nI k) (hk : k < 3) (h : tmR (J 133) X p w wd) : ∃ v2 : Int32, jE n rX10_oneTerm 0 [.ref 111, .int (nI t), .null, .null, .null, .null] [] J L = jE n rX10_oneTerm 126 [.ref 111, .int (nI t), .int v2, .int (nI w), .int (nI p), .int (nI 0)] [] (jm_u J 111 30 (nI (p + wd))) L := by
  rw [m_one_a n J L hX (by omega) e28 e30]
  have ht9 : t < 9 := by omega
  have es : sg (J 133) X p = J 133 p := by rw [sg, if_pos hp]
  rw [es]
  have hk3 : ¬ nI k = nI 3 := fun q => by have := (nI_inj (by omega) (by decide)).mp q; omega
  refine ⟨J 133 p, ?_⟩
  rcases h with ⟨h1, h2, h3⟩ | ⟨h1, h2, h3⟩ | ⟨h1, h2, h3⟩ | ⟨h1, h2, h3, h4, h5, h6⟩
  · subst h2; subst h3
    rw [h1, if_pos rfl]
    have c3 : ¬ nI 0 < 0 := by decide
    have c4 : ¬ nI 0 = nI 3 := by decide
    simp only [eX10_oneTerm_46, eX10_oneTerm_51, eX10_oneTerm_63, eX10_oneTerm_123, c3, if_false, jLI_t, jLW_t, jLL_t, jLZ_t, jLA_t, ht9, ek, hk3, not_false_eq_true, if_true, e30, nI_add, c4]
  · subst h2; subst h3
    rw [h1, if_neg (by decide), if_pos rfl]
    have c3 : ¬ nI 1 < 0 := by decide
    have c4 : ¬ nI 1 = nI 3 := by decide
    simp only [eX10_oneTerm_46, eX10_oneTerm_51, eX10_oneTerm_63, eX10_oneTerm_123, c3, if_false, jLI_t, jLW_t, jLL_t, jLZ_t, jLA_t, ht9, ek, hk3, not_false_eq_true, if_true, e30, nI_add, c4]
  · subst h2; subst h3
    rw [h1, if_neg (by decide), if_neg (by decide), if_pos rfl]
    have c3 : ¬ nI 2 < 0 := by decide
    have c4 : ¬ nI 2 = nI 3 := by decide
    simp only [eX10_oneTerm_46, eX10_oneTerm_51, eX10_oneTerm_63, eX10_oneTerm_123, c3, if_false, jLI_t, jLW_t, jLL_t, jLZ_t, jLA_t, ht9, ek, hk3, not_false_eq_true, if_true, e30, nI_add, c4]
  · subst h2
    rw [h1, if_neg (by decide), if_neg (by decide), if_neg (by decide), if_pos rfl]
    have e31 : jm_u J 111 30 (nI (p + 1)) 111 30 = nI (p + 1) := by rw [jm_u_eq, if_pos rfl]
    have hs := m_sign n (jm_u J 111 30 (nI (p + 1))) L (p := p + 1) hX (by omega) (by rw [jm_u_eq, if_neg (by decide), e28]) e31
    rw [jm_u_ne _ _ _ (by decide), sg, if_pos h3, h6] at hs
    have hn : nI 48 ≤ nI (45 + w) ∧ nI (45 + w) ≤ nI 51 := ⟨nI_le (by omega) (by omega), nI_le (by omega) (by omega)⟩
    have c3 : ¬ nI 3 < 0 := by decide
    have s1 : nI (45 + w) - nI 48 = nI (w - 3) := by rw [nI_sb (by omega)]; congr 1; omega
    have s2 : 3 + (w - 3) = w := by omega
    simp only [eX10_oneTerm_46, eX10_oneTerm_51, eX10_oneTerm_63, eX10_oneTerm_84, eX10_oneTerm_103, eX10_oneTerm_123, c3, if_false, jLI_t, jLW_t, jLL_t, jLZ_t, jLA_t, ht9, ek, hk3, not_false_eq_true, if_true, e30, nI_add, not_true, hs, jB_s, m_isIn n _ L _ 48 51 (by decide) (by decide), hn, and_self, n10, s1, s2, e31, jm_u_uu]
theorem m_one_d (n : Nat) (J : jm_I) (L : jm_L) {X p k w wd t : Nat} (hX : X ≤ 20) (hp : p < X) (e28 : J 111 28 = nI X) (e30 : J 111 30 = nI p) (ht : t < 8) (ek : J 135 t = nI k) (hk : k < 3) (h : tmR (J 133) X p w wd) (hd : dup (fun i => J 134 (8 * t + i)) k w) : jE n rX10_oneTerm 0 [.ref 111, .int (nI t), .null, .null, .null, .null] [] J L = some (some (.int (nI 0)), jS n J L) := by
  obtain ⟨v2, e0⟩ := m_one_b n J L hX hp e28 e30 ht ek hk h
  rw [e0]
  have ht9 : t < 9 := by omega
  have key : ∀ (d i : Nat), i + d = k → (∃ i', i ≤ i' ∧ i' < k ∧ J 134 (8 * t + i') = nI w) → jE n rX10_oneTerm 126 [.ref 111, .int (nI t), .int v2, .int (nI w), .int (nI p), .int (nI i)] [] (jm_u J 111 30 (nI (p + wd))) L = some (some (.int (nI 0)), jS n J L) := by
    intro d
    induction d with
    | zero => intro i hi hx; obtain ⟨i', a1, a2, -⟩ := hx; omega
    | succ d ih =>
      intro i hi hx
      have c4 : ¬ nI k ≤ nI i := nI_ge (by omega) (by omega)
      have hi3 : 8 * t + i < 72 := by omega
      have ek2 : jm_u J 111 30 (nI (p + wd)) 135 t = nI k := by rw [jm_u_ne _ _ _ (by decide), ek]
      have e134 : jm_u J 111 30 (nI (p + wd)) 134 = J 134 := by rw [jm_u_ne _ _ _ (by decide)]
      have hd0 : jE n rX10_oneTerm 126 [.ref 111, .int (nI t), .int v2, .int (nI w), .int (nI p), .int (nI i)] [] (jm_u J 111 30 (nI (p + wd))) L = jE n rX10_oneTerm 137 [.ref 111, .int (nI t), .int v2, .int (nI w), .int (nI p), .int (nI i)] [] (jm_u J 111 30 (nI (p + wd))) L := by
        simp only [eX10_oneTerm_126, jLI_t, jLW_t, jLL_t, jLZ_t, jLA_t, ht9, ek2, c4, if_false]
      rw [hd0]
      by_cases q : J 134 (8 * t + i) = nI w
      · simp only [eX10_oneTerm_137, eX10_oneTerm_153, pk_mul, nI_add, jLI_t, jLW_t, jLL_t, jLZ_t, jLA_t, hi3, e134, q, not_true, if_false, jm_u_uu, jm_u_id J e30]
      · simp only [eX10_oneTerm_137, eX10_oneTerm_161, pk_mul, nI_add, jLI_t, jLW_t, jLL_t, jLZ_t, jLA_t, hi3, e134, q, not_false_eq_true, if_true]
        refine ih (i + 1) (by omega) ?_
        obtain ⟨i', a1, a2, a3⟩ := hx
        have : i' ≠ i := fun e => q (e ▸ a3)
        exact ⟨i', by omega, a2, a3⟩
  obtain ⟨i, hi, e⟩ := hd
  exact key k 0 (Nat.zero_add _) ⟨i, Nat.zero_le _, hi, e⟩
theorem m_one_R (n : Nat) (J : jm_I) (L : jm_L) {X p k w wd t : Nat} (hX : X ≤ 20) (hp : p < X) (e28 : J 111 28 = nI X) (e30 : J 111 30 = nI p) (ht : t < 8) (ek : J 135 t = nI k) (hk : k < 3) (h : tmR (J 133) X p w wd) (hd : ¬ dup (fun i => J 134 (8 * t + i)) k w) : jE n rX10_oneTerm 0 [.ref 111, .int (nI t), .null, .null, .null, .null] [] J L = some (some (.int (nI 1)), jS n (jm_u (jm_u (jm_u J 111 30 (nI (p + wd))) 134 (8 * t + k) (nI w)) 135 t (nI (k + 1))) L) := by
  obtain ⟨v2, e0⟩ := m_one_b n J L hX hp e28 e30 ht ek hk h
  rw [e0]
  have ht9 : t < 9 := by omega
  have ek2 : jm_u J 111 30 (nI (p + wd)) 135 t = nI k := by rw [jm_u_ne _ _ _ (by decide), ek]
  have e134 : jm_u J 111 30 (nI (p + wd)) 134 = J 134 := by rw [jm_u_ne _ _ _ (by decide)]
  have key : ∀ (d i : Nat), i + d = k → jE n rX10_oneTerm 126 [.ref 111, .int (nI t), .int v2, .int (nI w), .int (nI p), .int (nI i)] [] (jm_u J 111 30 (nI (p + wd))) L = jE n rX10_oneTerm 167 [.ref 111, .int (nI t), .int v2, .int (nI w), .int (nI p), .int (nI k)] [] (jm_u J 111 30 (nI (p + wd))) L := by
    intro d
    induction d with
    | zero =>
      intro i hi
      have : i = k := by omega
      subst this
      have c4 : nI i ≤ nI i := Int32.le_refl _
      simp only [eX10_oneTerm_126, jLI_t, jLW_t, jLL_t, jLZ_t, jLA_t, ht9, ek2, c4, if_true]
    | succ d ih =>
      intro i hi
      have c4 : ¬ nI k ≤ nI i := nI_ge (by omega) (by omega)
      have hi3 : 8 * t + i < 72 := by omega
      have hd0 : jE n rX10_oneTerm 126 [.ref 111, .int (nI t), .int v2, .int (nI w), .int (nI p), .int (nI i)] [] (jm_u J 111 30 (nI (p + wd))) L = jE n rX10_oneTerm 137 [.ref 111, .int (nI t), .int v2, .int (nI w), .int (nI p), .int (nI i)] [] (jm_u J 111 30 (nI (p + wd))) L := by
        simp only [eX10_oneTerm_126, jLI_t, jLW_t, jLL_t, jLZ_t, jLA_t, ht9, ek2, c4, if_false]
      rw [hd0]
      have q : ¬ J 134 (8 * t + i) = nI w := fun q => hd ⟨i, by omega, q⟩
      simp only [eX10_oneTerm_137, eX10_oneTerm_161, pk_mul, nI_add, jLI_t, jLW_t, jLL_t, jLZ_t, jLA_t, hi3, e134, q, not_false_eq_true, if_true]
      exact ih (i + 1) (by omega)
  have hx : 8 * t + k < 72 := by omega
  have ek3 : jm_u (jm_u J 111 30 (nI (p + wd))) 134 (8 * t + k) (nI w) 135 t = nI k := by rw [jm_u_ne _ _ _ (by decide), ek2]
  rw [key k 0 (Nat.zero_add _)]
  simp only [eX10_oneTerm_167, pk_mul, jLI_t, jLW_t, jLL_t, jLZ_t, jLA_t, ht9, ek2, nI_add, hx, ek3]
