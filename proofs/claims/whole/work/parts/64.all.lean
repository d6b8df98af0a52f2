/-! allMoons -/
theorem fτ_e {A : jm_I} (hA : Inv A) {t i : Nat} (ht : t < 8) (hi : i < fc A t) : fτ A t i = tt A t i := by
  obtain ⟨e, h3⟩ := fc_e hA ht
  unfold fτ τw
  rw [if_pos (by omega)]
theorem dd2 {x y : Nat} (hx : x < 7) (hy : y < 7) : (7 * x + y) / 7 % 7 = x ∧ (7 * x + y) % 7 = y ∧ 7 * x + y < 49 := by
  have h1 : (7 * x + y) / 7 = x := by omega
  rw [h1]
  omega
theorem dd3 {x y w : Nat} (hx : x < 7) (hy : y < 7) (hw : w < 7) : (49 * x + 7 * y + w) / 7 / 7 % 7 = x ∧ (49 * x + 7 * y + w) / 49 % 7 = x ∧ (49 * x + 7 * y + w) / 7 % 7 = y ∧ (49 * x + 7 * y + w) % 7 = w ∧ 49 * x + 7 * y + w < 343 := by
  have h1 : (49 * x + 7 * y + w) / 7 = 7 * x + y := by omega
  have h2 : (49 * x + 7 * y + w) / 49 = x := by omega
  obtain ⟨a, b, -⟩ := dd2 hx hy
  rw [h1, h2]
  exact ⟨a, by omega, b, by omega, by omega⟩
/-- terms alike may change their numbers -/
theorem swp (A : jm_I) (τ : Nat → Nat) {c p r X : Nat} (hc : c ≤ 3) (hp : p < c) (hr : r < c) (e : τ p = τ r) (hX : X < 7 ^ c) : ∃ X', X' < 7 ^ c ∧ dg c X' r = dg c X p ∧ ∀ m s, zl A τ m s c X' = zl A τ m s c X := by
  by_cases hpr : p = r
  · subst hpr; exact ⟨X, hX, rfl, fun _ _ => rfl⟩
  · have d20 : ∀ Y, dg 2 Y 0 = Y / 7 % 7 := fun _ => rfl
    have d21 : ∀ Y, dg 2 Y 1 = Y % 7 := fun Y => by show Y / 1 % 7 = _; rw [Nat.div_one]
    have d30 : ∀ Y, dg 3 Y 0 = Y / 49 % 7 := fun _ => rfl
    have d31 : ∀ Y, dg 3 Y 1 = Y / 7 % 7 := fun _ => rfl
    have d32 : ∀ Y, dg 3 Y 2 = Y % 7 := fun Y => by show Y / 1 % 7 = _; rw [Nat.div_one]
    have z2 : ∀ m s Y, zl A τ m s 2 Y = zright A s - zg A m (ixc A 28 s) - zsh A (τ 0) (Y / 7 % 7) m (ixc A 28 s) - zsh A (τ 1) (Y % 7) m (ixc A 28 s) := fun _ _ _ => rfl
    have z3 : ∀ m s Y, zl A τ m s 3 Y = zright A s - zg A m (ixc A 28 s) - zsh A (τ 0) (Y / 7 / 7 % 7) m (ixc A 28 s) - zsh A (τ 1) (Y / 7 % 7) m (ixc A 28 s) - zsh A (τ 2) (Y % 7) m (ixc A 28 s) := fun _ _ _ => rfl
    rcases (show c = 0 ∨ c = 1 ∨ c = 2 ∨ c = 3 by omega) with rfl | rfl | rfl | rfl
    · omega
    · omega
    · have hX2 : X < 49 := hX
      obtain ⟨x, y, hx, hy, rfl⟩ : ∃ x y, x < 7 ∧ y < 7 ∧ X = 7 * x + y := ⟨X / 7, X % 7, by omega, by omega, by omega⟩
      obtain ⟨a1, a2, -⟩ := dd2 hx hy
      obtain ⟨b1, b2, b3⟩ := dd2 hy hx
      refine ⟨7 * y + x, b3, ?_, fun m s => ?_⟩
      · rcases (show (p = 0 ∧ r = 1) ∨ (p = 1 ∧ r = 0) by omega) with ⟨rfl, rfl⟩ | ⟨rfl, rfl⟩
        · rw [d21, d20, a1, b2]
        · rw [d20, d21, a2, b1]
      · have e01 : τ 0 = τ 1 := by
          rcases (show (p = 0 ∧ r = 1) ∨ (p = 1 ∧ r = 0) by omega) with ⟨rfl, rfl⟩ | ⟨rfl, rfl⟩
          · exact e
          · exact e.symm
        rw [z2, z2, a1, a2, b1, b2, e01]
        omega
    · have hX2 : X < 343 := hX
      obtain ⟨x, y, w, hx, hy, hw, rfl⟩ : ∃ x y w, x < 7 ∧ y < 7 ∧ w < 7 ∧ X = 49 * x + 7 * y + w := ⟨X / 49, X / 7 % 7, X % 7, by omega, by omega, by omega, by omega⟩
      obtain ⟨a0, a0', a1, a2, -⟩ := dd3 hx hy hw
      rcases (show ((p = 0 ∧ r = 1) ∨ (p = 1 ∧ r = 0)) ∨ ((p = 0 ∧ r = 2) ∨ (p = 2 ∧ r = 0)) ∨ ((p = 1 ∧ r = 2) ∨ (p = 2 ∧ r = 1)) by omega) with h | h | h
      · have e01 : τ 0 = τ 1 := by
          rcases h with ⟨rfl, rfl⟩ | ⟨rfl, rfl⟩
          · exact e
          · exact e.symm
        obtain ⟨b0, b0', b1, b2, b3⟩ := dd3 hy hx hw
        refine ⟨49 * y + 7 * x + w, b3, ?_, fun m s => ?_⟩
        · rcases h with ⟨rfl, rfl⟩ | ⟨rfl, rfl⟩
          · rw [d31, d30, a0', b1]
          · rw [d30, d31, a1, b0']
        · rw [z3, z3, a0, a1, a2, b0, b1, b2, e01]
          omega
      · have e02 : τ 0 = τ 2 := by
          rcases h with ⟨rfl, rfl⟩ | ⟨rfl, rfl⟩
          · exact e
          · exact e.symm
        obtain ⟨b0, b0', b1, b2, b3⟩ := dd3 hw hy hx
        refine ⟨49 * w + 7 * y + x, b3, ?_, fun m s => ?_⟩
        · rcases h with ⟨rfl, rfl⟩ | ⟨rfl, rfl⟩
          · rw [d32, d30, a0', b2]
          · rw [d30, d32, a2, b0']
        · rw [z3, z3, a0, a1, a2, b0, b1, b2, e02]
          omega
      · have e12 : τ 1 = τ 2 := by
          rcases h with ⟨rfl, rfl⟩ | ⟨rfl, rfl⟩
          · exact e
          · exact e.symm
        obtain ⟨b0, b0', b1, b2, b3⟩ := dd3 hx hw hy
        refine ⟨49 * x + 7 * w + y, b3, ?_, fun m s => ?_⟩
        · rcases h with ⟨rfl, rfl⟩ | ⟨rfl, rfl⟩
          · rw [d32, d31, a1, b2]
          · rw [d31, d32, a2, b1]
        · rw [z3, z3, a0, a1, a2, b0, b1, b2, e12]
          omega
theorem aE_sw {A : jm_I} (hA : Inv A) {t m p r q : Nat} (ht : t < 8) (hp : p < fc A t) (hr : r < fc A t) (e : fτ A t p = fτ A t r) (h : aE A t m p q) : aE A t m r q := by
  obtain ⟨X, x1, x2, x3⟩ := h
  obtain ⟨X', y1, y2, y3⟩ := swp A (fτ A t) (fc_e hA ht).2 hp hr e x1
  exact ⟨X', y1, by rw [y2]; exact x2, fun s hs hz => by rw [y3]; exact x3 s hs hz⟩
/-- the model's sights are those -/
theorem aE_m {J A : jm_I} (hA : Inv A) {t m p q : Nat} {mi : Nat → Nat} (hmi : Mine J A m (zall (zN A)) mi) : (∃ Y, Y < 7 ^ fc A t ∧ dg (fc A t) Y p = q ∧ ∀ i, i < mc A m (zall (zN A)) (zN A) → zab (zl A (fτ A t) m (mi i) (fc A t) Y) ≤ zsl A) ↔ aE A t m p q := by
  have hN := (Inv_N hA).2
  have hz : ∀ s, s < zN A → (zin A m (-1) s ↔ zin A m (zall (zN A)) s) := fun s hs => by
    unfold zin
    rw [tb_m1 (show s < 40 by omega), tb_all hN hs]
  unfold aE
  constructor
  · rintro ⟨Y, y1, y2, y3⟩
    refine ⟨Y, y1, y2, fun s hs hin => ?_⟩
    have h1 := (hz s hs).mp hin
    have h2 := y3 (mc A m (zall (zN A)) s) (mc_lt h1 hs)
    rw [hmi.at0 s hs h1] at h2
    exact h2
  · rintro ⟨Y, y1, y2, y3⟩
    refine ⟨Y, y1, y2, fun i hi => ?_⟩
    obtain ⟨-, w2, w3⟩ := hmi.row i hi
    exact y3 (mi i) w2 ((hz _ w2).mpr w3)
theorem m_all_m (n : Nat) (A : jm_I) (hA : Inv A) {t p q : Nat} (ht : t < zT A) (hp : p < fc A t) (hq : q < 7) (w3 : Int32) : ∀ (d m : Nat) (K : jm_I) (L : jm_L), m + d = 4 → Mod K A → (∀ m', m' < m → ¬ A 13 m' = 0 → aE A t m' p q) → ∃ (K' : jm_I) (L' : jm_L) (r : Int32) (w6 : Value), FrM K' K ∧ ((r = nI 1 ∧ ∀ m', m' < 4 → ¬ A 13 m' = 0 → aE A t m' p q) ∨ (r = nI 0 ∧ ¬ ∀ m', m' < 4 → ¬ A 13 m' = 0 → aE A t m' p q)) ∧ jE n rX10_allMoons 77 [.ref 111, .int (nI t), .int (nI p), .int w3, .int (nI q), .int (nI 1), .int (nI m)] [] K L = jE n rX10_allMoons 134 [.ref 111, .int (nI t), .int (nI p), .int w3, .int (nI q), .int r, w6] [] K' L' := by
  intro d
  induction d with
  | zero =>
    intro m K L hm hM h
    have : m = 4 := by omega
    subst this
    have cc : nI 4 ≤ nI 4 := Int32.le_refl _
    refine ⟨K, L, nI 1, .int (nI 4), FrM_0 K, Or.inl ⟨rfl, h⟩, ?_⟩
    simp only [eX10_allMoons_77, cc, if_true]
  | succ d ih =>
    intro m K L hm hM h
    have hm4 : m < 4 := by omega
    have cc : ¬ nI 4 ≤ nI m := nI_ge hm4 (by decide)
    have hd0 : jE n rX10_allMoons 77 [.ref 111, .int (nI t), .int (nI p), .int w3, .int (nI q), .int (nI 1), .int (nI m)] [] K L = jE n rX10_allMoons 88 [.ref 111, .int (nI t), .int (nI p), .int w3, .int (nI q), .int (nI 1), .int (nI m)] [] K L := by
      simp only [eX10_allMoons_77, eX10_allMoons_83, cc, n10, if_false]
    have e119 : K 119 m = A 13 m := hM.1 119 m hm4
    rw [hd0]
    by_cases h0 : A 13 m = 0
    · obtain ⟨K', L', r, w6, r1, r2, r3⟩ := ih (m + 1) K L (by omega) hM (fun m' hm' hne => by
        by_cases e : m' = m
        · subst e; exact absurd h0 hne
        · exact h m' (by omega) hne)
      refine ⟨K', L', r, w6, r1, r2, ?_⟩
      simp only [eX10_allMoons_88, eX10_allMoons_98, eX10_allMoons_128, jLI_t, jLW_t, jLL_t, jLZ_t, jLA_t, hm4, e119, h0, not_true_eq_false, if_false, nI_add]
      exact r3
    · obtain ⟨J1, mi, a1, a2, a3, a4⟩ := m_findMine n K A L hA hM hm4 (zall (zN A))
      have hM1 : Mod J1 A := Mod_fr hA hM (FrM_S a1)
      have hT1 := Trm_w hA hM1 ht
      obtain ⟨r0, ad, b1, b2, b3⟩ := m_findAdds n J1 A L hA hM1 (zall (zN A)) hm4 hT1 a3
      have ma := m_allSights n K A L hA hM
      obtain ⟨K2, L2, r, c1, c2, c3⟩ := m_isSlack n J1 A (jm_uA (jm_uA L 140 r0) 141 ad) hA hM1 (p := p) (q := q) (zall (zN A)) hm4 hT1 a3 hp hq (fun i hi => by rw [lA_ne _ _ (by decide), lA_eq]; exact b1 i hi) (by rw [lA_eq]; exact b2)
      have hst : jE n rX10_allMoons 88 [.ref 111, .int (nI t), .int (nI p), .int w3, .int (nI q), .int (nI 1), .int (nI m)] [] K L = jE n rX10_allMoons 77 [.ref 111, .int (nI t), .int (nI p), .int w3, .int (nI q), .int r, .int (nI (m + 1))] [] K2 L2 := by
        simp only [eX10_allMoons_88, eX10_allMoons_101, eX10_allMoons_128, jLI_t, jLW_t, jLL_t, jLZ_t, jLA_t, hm4, e119, h0, not_false_eq_true, if_true, ma, jB_s, a4, jB_v, b3, c3, nI_add]
      have fr := FrM_t a1 c1
      rw [hst]
      rcases c2 with ⟨e, g⟩ | ⟨e, g⟩
      · subst e
        have g2 := (aE_m hA a3).mp g
        obtain ⟨K', L', r, w6, r1, r2, r3⟩ := ih (m + 1) K2 L2 (by omega) (Mod_fr hA hM (FrM_S fr)) (fun m' hm' hne => by
          by_cases e : m' = m
          · subst e; exact g2
          · exact h m' (by omega) hne)
        exact ⟨K', L', r, w6, FrM_t fr r1, r2, r3⟩
      · subst e
        refine ⟨K2, L2, nI 0, .int (nI (m + 1)), fr, Or.inr ⟨rfl, fun w => g ((aE_m hA a3).mpr (w m hm4 h0))⟩, ?_⟩
        by_cases cm : nI 4 ≤ nI (m + 1)
        · simp only [eX10_allMoons_77, cm, if_true]
        · simp only [eX10_allMoons_77, eX10_allMoons_83, cm, n00t, if_true, if_false]
theorem m_all_q (n : Nat) (A : jm_I) (hA : Inv A) {t p : Nat} (ht : t < zT A) (hp : p < fc A t) : ∀ (d q y : Nat) (K : jm_I) (L : jm_L) (v5 v6 : Value), q + d = 7 → Mod K A → y < 2 ^ q → (∀ k, k < q → (y.testBit k = true ↔ ∀ m', m' < 4 → ¬ A 13 m' = 0 → aE A t m' p k)) → ∃ (K' : jm_I) (L' : jm_L) (y' : Nat), FrM K' K ∧ y' < 128 ∧ (∀ k, k < 7 → (y'.testBit k = true ↔ ∀ m', m' < 4 → ¬ A 13 m' = 0 → aE A t m' p k)) ∧ jE n rX10_allMoons 64 [.ref 111, .int (nI t), .int (nI p), .int (nI y), .int (nI q), v5, v6] [] K L = some (some (.int (nI y')), jS n K' L') := by
  intro d
  induction d with
  | zero =>
    intro q y K L v5 v6 hq hM hy h
    have : q = 7 := by omega
    subst this
    have cc : nI 7 ≤ nI 7 := Int32.le_refl _
    refine ⟨K, L, y, FrM_0 K, hy, h, ?_⟩
    simp only [eX10_allMoons_64, eX10_allMoons_156, cc, if_true]
  | succ d ih =>
    intro q y K L v5 v6 hq hM hy h
    have hq7 : q < 7 := by omega
    have cc : ¬ nI 7 ≤ nI q := nI_ge hq7 (by decide)
    have hd0 : jE n rX10_allMoons 64 [.ref 111, .int (nI t), .int (nI p), .int (nI y), .int (nI q), v5, v6] [] K L = jE n rX10_allMoons 77 [.ref 111, .int (nI t), .int (nI p), .int (nI y), .int (nI q), .int (nI 1), .int (nI 0)] [] K L := by
      simp only [eX10_allMoons_64, eX10_allMoons_71, cc, if_false]
    obtain ⟨K1, L1, r, w6, r1, r2, r3⟩ := m_all_m n A hA ht hp hq7 (nI y) 4 0 K L (Nat.zero_add _) hM (fun m' hm' => absurd hm' (by omega))
    have hy2 : y < 2 ^ (q + 1) := Nat.lt_of_lt_of_le hy (Nat.pow_le_pow_right (by decide) (by omega))
    rw [hd0, r3]
    rcases r2 with ⟨e, g⟩ | ⟨e, g⟩
    · subst e
      have es := shl_N (show q ≤ 12 by omega)
      obtain ⟨K', L', y', q1, q2, q3, q4⟩ := ih (q + 1) (y ||| 2 ^ q) K1 L1 (.int (nI 1)) w6 (by omega) (Mod_fr hA hM (FrM_S r1)) (Nat.or_lt_two_pow hy2 (Nat.pow_lt_pow_right (by decide) (by omega))) (fun k hk => by
        rw [tor]
        by_cases ek : k = q
        · subst ek; exact ⟨fun _ => g, fun _ => Or.inr rfl⟩
        · rw [← h k (by omega)]
          exact ⟨fun w => w.resolve_right ek, Or.inl⟩)
      refine ⟨K', L', y', FrM_t r1 q1, q2, q3, ?_⟩
      simp only [eX10_allMoons_134, eX10_allMoons_140, eX10_allMoons_148, n10, if_false, es, nI_or, nI_add]
      exact q4
    · subst e
      obtain ⟨K', L', y', q1, q2, q3, q4⟩ := ih (q + 1) y K1 L1 (.int (nI 0)) w6 (by omega) (Mod_fr hA hM (FrM_S r1)) hy2 (fun k hk => by
        by_cases ek : k = q
        · subst ek
          exact ⟨fun w => absurd w (tB_hi hy (Nat.le_refl _)), fun w => absurd w g⟩
        · exact h k (by omega))
      refine ⟨K', L', y', FrM_t r1 q1, q2, q3, ?_⟩
      have eo : nI y ||| nI 0 = nI y := by rw [nI_or, Nat.or_zero]
      simp only [eX10_allMoons_134, eX10_allMoons_147, eX10_allMoons_148, n00t, if_true, eo, nI_add]
      exact q4
theorem m_all_p (n : Nat) (K A : jm_I) (L : jm_L) (hA : Inv A) (hM : Mod K A) {t : Nat} (ht : t < zT A) : ∀ (d i : Nat) (r : Int32), i + d = tl A t → ((r = -1 ∧ ∀ j, j < i → ¬ tt A t j = 2) ∨ ∃ p, p < i ∧ r = nI p ∧ tt A t p = 2) → ∃ r' : Int32, ((r' = -1 ∧ ∀ j, j < tl A t → ¬ tt A t j = 2) ∨ ∃ p, p < tl A t ∧ r' = nI p ∧ tt A t p = 2) ∧ jE n rX10_allMoons 4 [.ref 111, .int (nI t), .int r, .int (nI i), .null, .null, .null] [] K L = jE n rX10_allMoons 49 [.ref 111, .int (nI t), .int r', .int (nI (tl A t)), .null, .null, .null] [] K L := by
  have h8 := (Inv_T hA).2
  have ht8 : t < 8 := by omega
  have ht9 : t < 9 := by omega
  have h3 := (Inv_tl hA ht8).2
  have hin := nI_w ht (show zT A < 2147483648 by omega)
  have e135 := Mod_tl hA hM ht
  intro d
  induction d with
  | zero =>
    intro i r hi h
    have : i = tl A t := by omega
    subst this
    have cc : nI (tl A t) ≤ nI (tl A t) := Int32.le_refl _
    refine ⟨r, h, ?_⟩
    simp only [eX10_allMoons_4, eX10_allMoons_12, m_isTable, M29 hA hM, inb_t hin, jB_s, n10, if_false, jLI_t, jLW_t, jLL_t, jLZ_t, jLA_t, ht9, e135, cc, if_true]
  | succ d ih =>
    intro i r hi h
    have cc : ¬ nI (tl A t) ≤ nI i := nI_ge (by omega) (by omega)
    have hd0 : jE n rX10_allMoons 4 [.ref 111, .int (nI t), .int r, .int (nI i), .null, .null, .null] [] K L = jE n rX10_allMoons 22 [.ref 111, .int (nI t), .int r, .int (nI i), .null, .null, .null] [] K L := by
      simp only [eX10_allMoons_4, eX10_allMoons_12, m_isTable, M29 hA hM, inb_t hin, jB_s, n10, if_false, jLI_t, jLW_t, jLL_t, jLZ_t, jLA_t, ht9, e135, cc]
    have hx : 8 * t + i < 72 := by omega
    have e134 := Mod_tt hA hM ht (show i < tl A t by omega)
    have h6 := (Inv_tt hA ht8 (show i < 3 by omega)).2
    rw [hd0]
    by_cases e : tt A t i = 2
    · obtain ⟨r', r1, r2⟩ := ih (i + 1) (nI i) (by omega) (Or.inr ⟨i, by omega, rfl, e⟩)
      refine ⟨r', r1, ?_⟩
      have e2 : nI (tt A t i) = nI 2 := by rw [e]
      simp only [eX10_allMoons_22, eX10_allMoons_37, eX10_allMoons_42, pk_mul, nI_add, jLI_t, jLW_t, jLL_t, jLZ_t, jLA_t, hx, e134, e2, not_true_eq_false, if_false]
      exact r2
    · obtain ⟨r', r1, r2⟩ := ih (i + 1) r (by omega) (by
        rcases h with ⟨g1, g2⟩ | ⟨p, g1, g2, g3⟩
        · refine Or.inl ⟨g1, fun j hj => ?_⟩
          by_cases ej : j = i
          · rw [ej]; exact e
          · exact g2 j (by omega)
        · exact Or.inr ⟨p, by omega, g2, g3⟩)
      refine ⟨r', r1, ?_⟩
      have e2 : ¬ nI (tt A t i) = nI 2 := fun w => e ((nI_inj (by omega) (by decide)).mp w)
      simp only [eX10_allMoons_22, eX10_allMoons_41, eX10_allMoons_42, pk_mul, nI_add, jLI_t, jLW_t, jLL_t, jLZ_t, jLA_t, hx, e134, e2, not_false_eq_true, if_true]
      exact r2
theorem op_allMoons (n : Nat) (x : Int32) : Op n rX9_allMoons rX10_allMoons [.ref 9, .int x, .null] [.ref 111, .int x, .null, .null, .null, .null, .null] := by
  intro I L hI hM
  obtain ⟨eT, hT⟩ := Inv_T hI
  have e1 : ¬ (-1 : Int32) = 0 := by decide
  have m1 : ¬ (0 : Int32) ≤ -1 := by decide
  have m1' : ¬ (0 : Int32) ≤ -1 := by decide
  by_cases hx : 0 ≤ x ∧ x < nI (zT I)
  · obtain ⟨t, ht, et⟩ := ix (by omega) hx
    subst et
    have ht8 : t < 8 := by omega
    obtain ⟨ef, hf3⟩ := fc_e hI ht8
    obtain ⟨r, hr, cp⟩ := c_place n I I L hI (fun _ _ => rfl) ht8
    rcases hr with ⟨er, hno⟩ | ⟨p, hp, er, hp2⟩
    · subst er
      refine Op_ref hI hM (.int (-1)) (-1) ?_ ?_
      · simp [eX9_allMoons_0, eX9_allMoons_10, eX9_allMoons_25, eX9_allMoons_27, eX9_allMoons_31, eX9_allMoons_47, h_noTable, eT, inr_t hx, jB_s, cp, m1, h_refuse n I L (-1) (by simp [isR])]
      · have hJ := Mod_ref hM (-1)
        obtain ⟨r', h1, h2⟩ := m_all_p n _ I L hI hJ ht (tl I t) 0 (-1) (Nat.zero_add _) (Or.inl ⟨rfl, fun j hj => absurd hj (by omega)⟩)
        rcases h1 with ⟨er', -⟩ | ⟨p, g1, -, g3⟩
        · subst er'
          have m0 : jE n rX10_allMoons 0 [.ref 111, .int (nI t), .null, .null, .null, .null, .null] [] (rf I (rz (-1))) L = jE n rX10_allMoons 4 [.ref 111, .int (nI t), .int (-1), .int (nI 0), .null, .null, .null] [] (rf I (rz (-1))) L := by
            simp only [eX10_allMoons_0]
          rw [m0, h2]
          simp only [eX10_allMoons_49, eX10_allMoons_53, m1, if_false, m_no n _ L (-1) (by simp [isR]), jB_s]
        · exact absurd g3 (hno p g1)
    · subst er
      have hp3 : p < fc I t := by omega
      obtain ⟨I1, L1, b, a1, a2, a3, a4⟩ := c_light_l n I hI ht8 hp3 4 0 127 I L (Nat.zero_add _) (fun _ _ => rfl) (by decide) (fun q hq => ⟨fun _ m' hm' => absurd hm' (by omega), fun _ => by
        rcases (show q = 0 ∨ q = 1 ∨ q = 2 ∨ q = 3 ∨ q = 4 ∨ q = 5 ∨ q = 6 by omega) with rfl | rfl | rfl | rfl | rfl | rfl | rfl <;> decide⟩)
      have fC := FrJ_C a1
      have hM1 := FrC_M hM fC
      obtain ⟨r', h1, h2⟩ := m_all_p n I1 I L1 hI hM1 ht (tl I t) 0 (-1) (Nat.zero_add _) (Or.inl ⟨rfl, fun j hj => absurd hj (by omega)⟩)
      rcases h1 with ⟨-, hno⟩ | ⟨p', g1, er', g3⟩
      · exact absurd hp2 (hno p hp)
      · subst er'
        have hp3' : p' < fc I t := by omega
        obtain ⟨K, L2, y, b1, b2, b3, b4⟩ := m_all_q n I hI ht hp3' 7 0 0 I1 L1 .null .null (Nat.zero_add _) hM1 (by decide) (fun k hk => absurd hk (by omega))
        have eτ : fτ I t p = fτ I t p' := by rw [fτ_e hI ht8 hp3, fτ_e hI ht8 hp3', hp2, g3]
        have eb : b = y := by
          apply Nat.eq_of_testBit_eq
          intro k
          by_cases hk : k < 7
          · have q1 := a3 k hk
            have q2 := b3 k hk
            have q3 : (b.testBit k = true) ↔ (y.testBit k = true) := by
              rw [q1, q2]
              exact ⟨fun w m' h1 h2 => aE_sw hI ht8 hp3 hp3' eτ (w m' h1 h2), fun w m' h1 h2 => aE_sw hI ht8 hp3' hp3 eτ.symm (w m' h1 h2)⟩
            cases e1 : b.testBit k <;> cases e2 : y.testBit k <;> simp_all
          · have n1 := tB_hi (N := 7) a2 (show 7 ≤ k by omega)
            have n2 := tB_hi (N := 7) b2 (show 7 ≤ k by omega)
            cases e1 : b.testBit k <;> cases e2 : y.testBit k <;> simp_all
        subst eb
        have pos : (0 : Int32) ≤ nI p := nI_pos' (by omega)
        have pos' : (0 : Int32) ≤ nI p' := nI_pos' (by omega)
        refine ⟨.int (nI b), I1, L1, K, L2, ?_, ?_, Op_scr hI hM fC (FrM_S b1)⟩
        · have hl : jE n rX1_lightOfAll 0 [.ref 71, .int (nI t), .null, .null, .null] [] I L = some (some (.int (nI b)), jS n I1 L1) := by
            simp only [eX1_lightOfAll_0, cp, jB_s]
            exact a4
          simp [eX9_allMoons_0, eX9_allMoons_10, eX9_allMoons_27, eX9_allMoons_39, eX9_allMoons_47, h_noTable, eT, inr_t hx, jB_s, cp, pos, hl]
        · have m0 : jE n rX10_allMoons 0 [.ref 111, .int (nI t), .null, .null, .null, .null, .null] [] I1 L1 = jE n rX10_allMoons 4 [.ref 111, .int (nI t), .int (-1), .int (nI 0), .null, .null, .null] [] I1 L1 := by
            simp only [eX10_allMoons_0]
          rw [m0, h2]
          simp only [eX10_allMoons_49, eX10_allMoons_59, pos', if_true]
          exact b4
  · refine Op_ref hI hM (.int (-1)) (-1) ?_ ?_
    · simp [eX9_allMoons_0, eX9_allMoons_27, eX9_allMoons_31, eX9_allMoons_47, h_noTable, eT, inr_f hx, jB_s, h_refuse n I L (-1) (by simp [isR])]
    · have hJ := Mod_ref hM (-1)
      have m0 : jE n rX10_allMoons 0 [.ref 111, .int x, .null, .null, .null, .null, .null] [] (rf I (rz (-1))) L = jE n rX10_allMoons 4 [.ref 111, .int x, .int (-1), .int (nI 0), .null, .null, .null] [] (rf I (rz (-1))) L := by
        simp only [eX10_allMoons_0]
      rw [m0]
      simp only [eX10_allMoons_4, eX10_allMoons_49, eX10_allMoons_53, m_isTable, M29 hI hJ, inb_f hx, jB_s, n00t, if_true, m1, if_false, m_no n _ L (-1) (by simp [isR])]
