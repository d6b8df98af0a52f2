/-! allMoons: the model -/
theorem zabs_i {z σ : Int} (hz : z.natAbs ≤ 3200000000) (hσ : 0 ≤ σ ∧ σ ≤ 999) : (lZ (-σ) ≤ lZ z ∧ lZ z ≤ lZ σ) ↔ zab z ≤ σ := by
  rw [lZ_le ⟨by omega, by omega⟩ ⟨by omega, by omega⟩, lZ_le ⟨by omega, by omega⟩ ⟨by omega, by omega⟩]
  unfold zab
  omega
theorem m_slk_s (n : Nat) (J A : jm_I) (L : jm_L) (hA : Inv A) (hMd : Mod J A) {c M : Nat} (hc : c ≤ 3) (hM : M ≤ 40) (h35 : J 111 35 = nI M) {z : Nat → Int} (hL : ∀ s, s < M → L 140 (40 * c + s) = lZ (z s)) (hz : ∀ s, s < M → (z s).natAbs ≤ 3200000000) (v1 v2 v3 : Value) (w5 : Int32) : ∀ (d s : Nat), s + d = M → (∀ i, i < s → zab (z i) ≤ zsl A) → ∃ (w7 : Value) (r : Int32), ((r = nI 1 ∧ ∀ i, i < M → zab (z i) ≤ zsl A) ∨ (r = nI 0 ∧ ¬ ∀ i, i < M → zab (z i) ≤ zsl A)) ∧ jE n rX10_isSlack 83 [.ref 111, v1, v2, v3, .int (nI c), .int w5, .int (nI 1), .int (nI s)] [] J L = jE n rX10_isSlack 136 [.ref 111, v1, v2, v3, .int (nI c), .int w5, .int r, w7] [] J L := by
  have hσ := zsl_rg hA
  have e118 : J 118 4 = iZ (zsl A) := (hMd.1 118 4 (by decide)).trans (i32 _)
  have l1 : (iZ (-zsl A)).toInt64 = lZ (-zsl A) := iZ_l (by omega) (by omega)
  have l2 : (iZ (zsl A)).toInt64 = lZ (zsl A) := iZ_l (by omega) (by omega)
  have n45 : (4 : Nat) < 5 := by decide
  intro d
  induction d with
  | zero =>
    intro s hs h
    have : s = M := by omega
    subst this
    have cc : nI s ≤ nI s := Int32.le_refl _
    refine ⟨.int (nI s), nI 1, Or.inl ⟨rfl, h⟩, ?_⟩
    simp only [eX10_isSlack_83, h35, cc, if_true]
  | succ d ih =>
    intro s hs h
    have hsM : s < M := by omega
    have cc : ¬ nI M ≤ nI s := nI_ge hsM (by omega)
    have hx : 40 * c + s < 360 := by omega
    have q1 := hL s hsM
    have hzs := zabs_i (hz s hsM) hσ
    have hd0 : jE n rX10_isSlack 83 [.ref 111, v1, v2, v3, .int (nI c), .int w5, .int (nI 1), .int (nI s)] [] J L = jE n rX10_isSlack 97 [.ref 111, v1, v2, v3, .int (nI c), .int w5, .int (nI 1), .int (nI s)] [] J L := by
      simp only [eX10_isSlack_83, eX10_isSlack_92, h35, cc, n10, if_false]
    by_cases hg : zab (z s) ≤ zsl A
    · obtain ⟨w7, r, r1, r2⟩ := ih (s + 1) (by omega) (fun i hi => by
        by_cases e : i = s
        · rw [e]; exact hg
        · exact h i (by omega))
      refine ⟨w7, r, r1, ?_⟩
      rw [hd0]
      simp only [eX10_isSlack_97, pk_mul, nI_add, jLI_t, jLW_t, jLL_t, jLZ_t, jLA_t, hx, n45, q1, e118, iZ_neg, l1, l2, m_isIn0, hzs.mpr hg, and_self, if_true, jB_s]
      exact r2
    · refine ⟨.int (nI (s + 1)), nI 0, Or.inr ⟨rfl, fun w => hg (w s hsM)⟩, ?_⟩
      have hg2 : ¬ (lZ (-zsl A) ≤ lZ (z s) ∧ lZ (z s) ≤ lZ (zsl A)) := fun w => hg (hzs.mp w)
      rw [hd0]
      have h1 : jE n rX10_isSlack 97 [.ref 111, v1, v2, v3, .int (nI c), .int w5, .int (nI 1), .int (nI s)] [] J L = jE n rX10_isSlack 83 [.ref 111, v1, v2, v3, .int (nI c), .int w5, .int (nI 0), .int (nI (s + 1))] [] J L := by
        simp only [eX10_isSlack_97, pk_mul, nI_add, jLI_t, jLW_t, jLL_t, jLZ_t, jLA_t, hx, n45, q1, e118, iZ_neg, l1, l2, m_isIn0, hg2, if_false, jB_s]
      rw [h1]
      by_cases cm : nI M ≤ nI (s + 1)
      · simp only [eX10_isSlack_83, h35, cm, if_true]
      · simp only [eX10_isSlack_83, eX10_isSlack_92, h35, cm, if_false, n00t, if_true]
theorem m_slk_l (n : Nat) (J0 A : jm_I) (hA : Inv A) (hM0 : Mod J0 A) {τ : Nat → Nat} {c m p q : Nat} (set : Int64) {mi : Nat → Nat} (hc : c ≤ 3) (hm : m < 4) (hp : p < c) (hq : q < 7) (v1 : Value) : ∀ (d X i : Nat) (K : jm_I) (L : jm_L) (v6 v7 : Value), X + d = 7 ^ c → X < 7 ^ c → i ≤ c → FrM K J0 → Mine K A m set mi → (∀ j, j < c → K 139 j = nI (dg c X j)) → ADp (L 141) A τ c m mi (mc A m set (zN A)) (mc A m set (zN A)) 0 0 → (∀ j, j ≤ i → Lv (L 140) A τ c m mi (mc A m set (zN A)) X j) → (∀ Y, Y < X → ¬ (dg c Y p = q ∧ ∀ i, i < mc A m set (zN A) → zab (zl A τ m (mi i) c Y) ≤ zsl A)) → ∃ (K' : jm_I) (L' : jm_L) (r : Int32), FrM K' J0 ∧ ((r = nI 1 ∧ ∃ Y, Y < 7 ^ c ∧ dg c Y p = q ∧ ∀ i, i < mc A m set (zN A) → zab (zl A τ m (mi i) c Y) ≤ zsl A) ∨ (r = nI 0 ∧ ¬ ∃ Y, Y < 7 ^ c ∧ dg c Y p = q ∧ ∀ i, i < mc A m set (zN A) → zab (zl A τ m (mi i) c Y) ≤ zsl A)) ∧ jE n rX10_isSlack 35 [.ref 111, v1, .int (nI p), .int (nI q), .int (nI c), .int (nI i), v6, v7] [] K L = some (some (.int r), jS n K' L') := by
  obtain ⟨e8, hN⟩ := Inv_N hA
  have hMle := mc_le A m set (zN A)
  intro d
  induction d with
  | zero => intro X i K L v6 v7 h1 h2; omega
  | succ d ih =>
    intro X i K L v6 v7 hX hX2 hi hFr hmi hQ hAD hLv hno
    have hMK : Mod K A := Mod_fr hA hM0 (FrM_S hFr)
    have pi : ¬ nI i < 0 := nI_pos (by omega)
    obtain ⟨R', g1, g2⟩ := m_go n K A L hc (show mc A m set (zN A) ≤ 40 by omega) hmi.n35 hQ hAD rX10_isSlack 44 63 (fun j => [.ref 111, v1, .int (nI p), .int (nI q), .int (nI c), .int (nI i), .int (nI j), v7]) (fun j => [.ref 111, v1, .int (nI p), .int (nI q), .int (nI c), .int (nI i), .int (nI j), v7]) (fun j W W' hj h => by
        have cc : ¬ nI c ≤ nI j := nI_ge hj (by omega)
        have hd0 : jE n rX10_isSlack 44 [.ref 111, v1, .int (nI p), .int (nI q), .int (nI c), .int (nI i), .int (nI j), v7] [] K W = jE n rX10_isSlack 51 [.ref 111, v1, .int (nI p), .int (nI q), .int (nI c), .int (nI i), .int (nI j), v7] [] K W := by
          simp only [eX10_isSlack_44, cc, if_false]
        rw [hd0]
        simp only [eX10_isSlack_51, h, jB_v, nI_add]) (fun W => by
        have cc : nI c ≤ nI c := Int32.le_refl _
        simp only [eX10_isSlack_44, cc, if_true]) (c - i) i (L 140) (by omega) hLv
    rw [lA_0] at g2
    have hLc : ∀ s, s < mc A m set (zN A) → jm_uA L 140 R' 140 (40 * c + s) = lZ (zl A τ m (mi s) c X) := fun s hs => by
      rw [lA_eq, g1 c (Nat.le_refl _) s hs, Nat.sub_self, Nat.pow_zero, Nat.div_one]
    have hzb : ∀ s, s < mc A m set (zN A) → (zl A τ m (mi s) c X).natAbs ≤ 3200000000 := fun s hs => by
      have h1 := (hmi.row s hs).2.1
      have := zl_rg hA τ hm (show mi s < 40 by omega) c X
      omega
    have h0 : jE n rX10_isSlack 35 [.ref 111, v1, .int (nI p), .int (nI q), .int (nI c), .int (nI i), v6, v7] [] K L = jE n rX10_isSlack 44 [.ref 111, v1, .int (nI p), .int (nI q), .int (nI c), .int (nI i), .int (nI i), v7] [] K L := by
      simp only [eX10_isSlack_35, eX10_isSlack_40, pi, if_false]
    have hp8 : p < 8 := by omega
    have e139 := hQ p hp
    have hd7 : dg c X p < 7 := Nat.mod_lt _ (by decide)
    -- what is found at this try
    have hall : ∃ (w7 : Value) (r : Int32), ((r = nI 1 ∧ dg c X p = q ∧ ∀ i, i < mc A m set (zN A) → zab (zl A τ m (mi i) c X) ≤ zsl A) ∨ (r = nI 0 ∧ ¬ (dg c X p = q ∧ ∀ i, i < mc A m set (zN A) → zab (zl A τ m (mi i) c X) ≤ zsl A))) ∧ jE n rX10_isSlack 63 [.ref 111, v1, .int (nI p), .int (nI q), .int (nI c), .int (nI i), .int (nI c), v7] [] K (jm_uA L 140 R') = jE n rX10_isSlack 136 [.ref 111, v1, .int (nI p), .int (nI q), .int (nI c), .int (nI i), .int r, w7] [] K (jm_uA L 140 R') := by
      by_cases hdq : dg c X p = q
      · obtain ⟨w7, r, r1, r2⟩ := m_slk_s n K A (jm_uA L 140 R') hA hMK hc (show mc A m set (zN A) ≤ 40 by omega) hmi.n35 hLc hzb v1 (.int (nI p)) (.int (nI q)) (nI i) (mc A m set (zN A)) 0 (Nat.zero_add _) (fun i hi => absurd hi (by omega))
        refine ⟨w7, r, ?_, ?_⟩
        · rcases r1 with ⟨e, h⟩ | ⟨e, h⟩
          · exact Or.inl ⟨e, hdq, h⟩
          · exact Or.inr ⟨e, fun w => h w.2⟩
        · simp only [eX10_isSlack_63, eX10_isSlack_73, eX10_isSlack_78, jLI_t, jLW_t, jLL_t, jLZ_t, jLA_t, hp8, e139, hdq, not_true_eq_false, if_false]
          exact r2
      · have hn : ¬ nI (dg c X p) = nI q := fun w => hdq ((nI_inj (by omega) (by omega)).mp w)
        refine ⟨.int (nI 0), nI 0, Or.inr ⟨rfl, fun w => hdq w.1⟩, ?_⟩
        have h1 : jE n rX10_isSlack 63 [.ref 111, v1, .int (nI p), .int (nI q), .int (nI c), .int (nI i), .int (nI c), v7] [] K (jm_uA L 140 R') = jE n rX10_isSlack 83 [.ref 111, v1, .int (nI p), .int (nI q), .int (nI c), .int (nI i), .int (nI 0), .int (nI 0)] [] K (jm_uA L 140 R') := by
          simp only [eX10_isSlack_63, eX10_isSlack_77, eX10_isSlack_78, jLI_t, jLW_t, jLL_t, jLZ_t, jLA_t, hp8, e139, hn, not_false_eq_true, if_true]
        rw [h1]
        by_cases cm : nI (mc A m set (zN A)) ≤ nI 0
        · simp only [eX10_isSlack_83, hmi.n35, cm, if_true]
        · simp only [eX10_isSlack_83, eX10_isSlack_92, hmi.n35, cm, if_false, n00t, if_true]
    obtain ⟨w7, r, hr, hj⟩ := hall
    rw [h0, g2, hj]
    rcases hr with ⟨e, hd, hg⟩ | ⟨e, hg⟩
    · subst e
      refine ⟨K, jm_uA L 140 R', nI 1, hFr, Or.inl ⟨rfl, X, hX2, hd, hg⟩, ?_⟩
      simp only [eX10_isSlack_136, eX10_isSlack_141, n10, if_false]
    · subst e
      obtain ⟨fr, Q', q1, q2⟩ := m_counts n K (jm_uA L 140 R') hc hX2 hQ
      have h1 : jE n rX10_isSlack 136 [.ref 111, v1, .int (nI p), .int (nI q), .int (nI c), .int (nI i), .int (nI 0), w7] [] K (jm_uA L 140 R') = jE n rX10_isSlack 35 [.ref 111, v1, .int (nI p), .int (nI q), .int (nI c), .int fr, .int (nI 0), w7] [] (jm_uA K 139 Q') (jm_uA L 140 R') := by
        simp only [eX10_isSlack_136, eX10_isSlack_143, n00t, if_true, q1, jB_s]
      rw [h1]
      have hFr2 : FrM (jm_uA K 139 Q') J0 := FrM_t hFr ⟨fun a h1 h2 h3 => jm_uA_ne _ _ h3, fun j h1 h2 => by rw [jm_uA_ne _ _ (by decide)]⟩
      have hno2 : ∀ Y, Y < X + 1 → ¬ (dg c Y p = q ∧ ∀ i, i < mc A m set (zN A) → zab (zl A τ m (mi i) c Y) ≤ zsl A) := fun Y hY => by
        by_cases e : Y = X
        · rw [e]; exact hg
        · exact hno Y (by omega)
      rcases q2 with ⟨q2, i2, hi2, q3, q4, q5⟩ | ⟨q2, q3⟩
      · subst q3
        exact ih (X + 1) i2 (jm_uA K 139 Q') (jm_uA L 140 R') (.int (nI 0)) w7 (by omega) q2 (by omega) hFr2
          (Mine_fr hmi (by rw [jm_uA_ne _ _ (by decide)]) (by rw [jm_uA_ne _ _ (by decide)]))
          (fun j hj => by rw [iA_eq]; exact q4 j hj)
          (by rw [lA_ne _ _ (by decide)]; exact hAD)
          (fun j hj => by
            rw [lA_eq]
            intro s hs
            rw [← q5 j hj]
            exact g1 j (by omega) s hs) hno2
      · subst q3
        have m1 : (-1 : Int32) < 0 := by decide
        refine ⟨jm_uA K 139 Q', jm_uA L 140 R', nI 0, hFr2, Or.inr ⟨rfl, fun ⟨Y, y1, y2⟩ => hno2 Y (by omega) y2⟩, ?_⟩
        simp only [eX10_isSlack_35, eX10_isSlack_154, m1, if_true]
theorem m_isSlack (n : Nat) (J A : jm_I) (L : jm_L) (hA : Inv A) (hM : Mod J A) {t c m p q : Nat} {τ : Nat → Nat} (set : Int64) {mi : Nat → Nat} (hm : m < 4) (hT : Trm J t c τ) (hmi : Mine J A m set mi) (hp : p < c) (hq : q < 7) (hR : ∀ i, i < mc A m set (zN A) → L 140 i = lZ (zl A τ m (mi i) 0 0)) (hAD : ADp (L 141) A τ c m mi (mc A m set (zN A)) (mc A m set (zN A)) 0 0) : ∃ (K' : jm_I) (L' : jm_L) (r : Int32), FrM K' J ∧ ((r = nI 1 ∧ ∃ Y, Y < 7 ^ c ∧ dg c Y p = q ∧ ∀ i, i < mc A m set (zN A) → zab (zl A τ m (mi i) c Y) ≤ zsl A) ∨ (r = nI 0 ∧ ¬ ∃ Y, Y < 7 ^ c ∧ dg c Y p = q ∧ ∀ i, i < mc A m set (zN A) → zab (zl A τ m (mi i) c Y) ≤ zsl A)) ∧ jE n rX10_isSlack 0 [.ref 111, .int (nI t), .int (nI p), .int (nI q), .null, .null, .null, .null] [] J L = some (some (.int r), jS n K' L') := by
  have hc := hT.c3
  have ht9 := hT.t9
  obtain ⟨p1, p2⟩ := p7 hc
  have z : ∀ (d i : Nat) (Q : Nat → Int32), i + d = c → (∀ j, j < i → Q j = nI 0) → ∃ Q' : Nat → Int32, (∀ j, j < c → Q' j = nI 0) ∧ jE n rX10_isSlack 14 [.ref 111, .int (nI t), .int (nI p), .int (nI q), .int (nI c), .int (nI 0), .int (nI i), .null] [] (jm_uA J 139 Q) L = jE n rX10_isSlack 35 [.ref 111, .int (nI t), .int (nI p), .int (nI q), .int (nI c), .int (nI 0), .int (nI c), .null] [] (jm_uA J 139 Q') L := by
    intro d
    induction d with
    | zero =>
      intro i Q hi hQ
      have : i = c := by omega
      subst this
      have cc : nI i ≤ nI i := Int32.le_refl _
      refine ⟨Q, hQ, ?_⟩
      simp only [eX10_isSlack_14, cc, if_true]
    | succ d ih =>
      intro i Q hi hQ
      have cc : ¬ nI c ≤ nI i := nI_ge (by omega) (by omega)
      have hi8 : i < 8 := by omega
      obtain ⟨Q', r1, r2⟩ := ih (i + 1) (upd Q i (nI 0)) (by omega) (fun j hj => by
        rw [upd_ap]
        by_cases e : j = i
        · rw [if_pos e]
        · rw [if_neg e]; exact hQ j (by omega))
      refine ⟨Q', r1, ?_⟩
      have hd0 : jE n rX10_isSlack 14 [.ref 111, .int (nI t), .int (nI p), .int (nI q), .int (nI c), .int (nI 0), .int (nI i), .null] [] (jm_uA J 139 Q) L = jE n rX10_isSlack 21 [.ref 111, .int (nI t), .int (nI p), .int (nI q), .int (nI c), .int (nI 0), .int (nI i), .null] [] (jm_uA J 139 Q) L := by
        simp only [eX10_isSlack_14, cc, if_false]
      rw [hd0]
      simp only [eX10_isSlack_21, jLI_t, jLW_t, jLL_t, jLZ_t, jLA_t, hi8, iA_u, nI_add]
      exact r2
  obtain ⟨Q', z1, z2⟩ := z c 0 (J 139) (Nat.zero_add _) (fun j hj => absurd hj (by omega))
  rw [iA_0] at z2
  have hFr : FrM (jm_uA J 139 Q') J := ⟨fun a h1 h2 h3 => jm_uA_ne _ _ h3, fun j h1 h2 => by rw [jm_uA_ne _ _ (by decide)]⟩
  obtain ⟨K', L', r, c1, c2, c3⟩ := m_slk_l n J A hA hM (τ := τ) set hc hm hp hq (.int (nI t)) (7 ^ c) 0 0 (jm_uA J 139 Q') L (.int (nI c)) .null (Nat.zero_add _) (by omega) (Nat.zero_le _) hFr
    (Mine_fr hmi (by rw [jm_uA_ne _ _ (by decide)]) (by rw [jm_uA_ne _ _ (by decide)]))
    (fun j hj => by
      rw [iA_eq, z1 j hj]
      unfold dg
      rw [Nat.zero_div]) hAD
    (fun j hj => by
      have : j = 0 := by omega
      subst this
      intro s hs
      rw [Nat.mul_zero, Nat.zero_add, Nat.zero_div]
      exact hR s hs)
    (fun Y hY => absurd hY (by omega))
  refine ⟨K', L', r, c1, c2, ?_⟩
  have e0 : jE n rX10_isSlack 0 [.ref 111, .int (nI t), .int (nI p), .int (nI q), .null, .null, .null, .null] [] J L = jE n rX10_isSlack 14 [.ref 111, .int (nI t), .int (nI p), .int (nI q), .int (nI c), .int (nI 0), .int (nI 0), .null] [] J L := by
    simp only [eX10_isSlack_0, jLI_t, jLW_t, jLL_t, jLZ_t, jLA_t, ht9, hT.k135]
  rw [e0, z2]
  exact c3
