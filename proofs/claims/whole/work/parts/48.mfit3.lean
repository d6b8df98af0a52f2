def zG (A : jm_I) (τ : Nat → Nat) (c m : Nat) (set : Int64) (x : Nat) : Int := zs A τ c m set x (zN A)
theorem zG_rg {A : jm_I} (h : Inv A) (τ : Nat → Nat) {c m : Nat} (hc : c ≤ 3) (hm : m < 4) (set : Int64) (x : Nat) : 0 ≤ zG A τ c m set x ∧ zG A τ c m set x ≤ 128000000000 := by
  have hN := (Inv_N h).2
  have := zs_rg h τ hc hm set x (zN A) hN
  unfold zG
  omega
/-- the best so far -/
def FitS (K : jm_I) (L : jm_L) (G : Nat → Int) (c X : Nat) : Prop := (X = 0 ∧ L 111 37 = lZ (-1)) ∨ (∃ b, amin G tru X = some b ∧ L 111 37 = lZ (G b) ∧ K 111 36 = nI (nrv c b c))
theorem m_fsum (n : Nat) (J A : jm_I) (L : jm_L) (hA : Inv A) {τ : Nat → Nat} {c m X : Nat} (set : Int64) {mi : Nat → Nat} (hc : c ≤ 3) (hm : m < 4) (hmi : Mine J A m set mi) (hL : Lv (L 140) A τ c m mi (mc A m set (zN A)) X c) (v1 v2 v3 v4 : Value) (w6 : Int32) : ∃ w9 : Int32, jE n rX10_findFit 88 [.ref 111, v1, v2, v3, v4, .int (nI c), .int w6, .long (lN 0), .null, .int (nI 0)] [] J L = jE n rX10_findFit 156 [.ref 111, v1, v2, v3, v4, .int (nI c), .int w6, .long (lZ (zG A τ c m set X)), .null, .int w9] [] J L := by
  obtain ⟨e8, hN⟩ := Inv_N hA
  have hMle := mc_le A m set (zN A)
  have h35 := hmi.n35
  have key : ∀ (d s : Nat), s + d = mc A m set (zN A) → jE n rX10_findFit 88 [.ref 111, v1, v2, v3, v4, .int (nI c), .int w6, .long (lZ (sM (fun s => zab (zl A τ m s c X)) mi s)), .null, .int (nI s)] [] J L = jE n rX10_findFit 156 [.ref 111, v1, v2, v3, v4, .int (nI c), .int w6, .long (lZ (sM (fun s => zab (zl A τ m s c X)) mi (mc A m set (zN A)))), .null, .int (nI (mc A m set (zN A)))] [] J L := by
    intro d
    induction d with
    | zero =>
      intro s hs
      have : s = mc A m set (zN A) := by omega
      subst this
      have cc : nI (mc A m set (zN A)) ≤ nI (mc A m set (zN A)) := Int32.le_refl _
      simp only [eX10_findFit_88, h35, cc, if_true]
    | succ d ih =>
      intro s hs
      have hsM : s < mc A m set (zN A) := by omega
      have cc : ¬ nI (mc A m set (zN A)) ≤ nI s := nI_ge hsM (by omega)
      have hd0 : ∀ x, jE n rX10_findFit 88 [.ref 111, v1, v2, v3, v4, .int (nI c), .int w6, .long x, .null, .int (nI s)] [] J L = jE n rX10_findFit 97 [.ref 111, v1, v2, v3, v4, .int (nI c), .int w6, .long x, .null, .int (nI s)] [] J L := by
        intro x
        simp only [eX10_findFit_88, h35, cc, if_false]
      rw [hd0]
      have hx : 40 * c + s < 360 := by omega
      have hl := hL s hsM
      rw [Nat.sub_self, Nat.pow_zero, Nat.div_one] at hl
      obtain ⟨-, w2, -⟩ := hmi.row s hsM
      have hz := zl_rg hA τ hm (show mi s < 40 by omega) c X
      have l0 : lN 0 = lZ 0 := rfl
      have cm : lZ 0 ≤ lZ (zl A τ m (mi s) c X) ↔ 0 ≤ zl A τ m (mi s) c X := lZ_le ⟨by omega, by omega⟩ ⟨by omega, by omega⟩
      have ih2 := ih (s + 1) (by omega)
      rw [show sM (fun s => zab (zl A τ m s c X)) mi (s + 1) = sM (fun s => zab (zl A τ m s c X)) mi s + zab (zl A τ m (mi s) c X) from rfl] at ih2
      by_cases q : 0 ≤ zl A τ m (mi s) c X
      · have c2 := cm.mpr q
        have e : zab (zl A τ m (mi s) c X) = zl A τ m (mi s) c X := by unfold zab; omega
        rw [e] at ih2
        simp only [eX10_findFit_97, eX10_findFit_134, eX10_findFit_147, pk_mul, nI_add, jLI_t, jLW_t, jLL_t, jLZ_t, jLA_t, hx, hl, l0, c2, if_true, lZ_add]
        exact ih2
      · have c2 : ¬ lZ 0 ≤ lZ (zl A τ m (mi s) c X) := fun w => q (cm.mp w)
        have e : -lZ (zl A τ m (mi s) c X) = lZ (zab (zl A τ m (mi s) c X)) := by rw [lZ_neg]; congr 1; unfold zab; omega
        simp only [eX10_findFit_97, eX10_findFit_117, eX10_findFit_147, pk_mul, nI_add, jLI_t, jLW_t, jLL_t, jLZ_t, jLA_t, hx, hl, l0, c2, if_false, e, lZ_add]
        exact ih2
  have k0 := key (mc A m set (zN A)) 0 (Nat.zero_add _)
  rw [sM_zs hmi τ c X (zN A) (Nat.le_refl _)] at k0
  exact ⟨_, k0⟩
theorem m_fupd (n : Nat) (J : jm_I) (L : jm_L) {G : Nat → Int} {c X : Nat} (hc : c ≤ 3) (hX : X < 7 ^ c) (hG : ∀ x, 0 ≤ G x ∧ G x ≤ 128000000000) (hQ : ∀ j, j < c → J 139 j = nI (dg c X j)) (hF : FitS J L G c X) (v1 v2 v3 v4 : Value) (w6 w9 : Int32) : ∃ (K : jm_I) (L' : jm_L) (x9 : Value), (∀ a, a ≠ 111 → K a = J a) ∧ (∀ j, j ≠ 36 → K 111 j = J 111 j) ∧ (∀ a, a ≠ 111 → L' a = L a) ∧ FitS K L' G c (X + 1) ∧ jE n rX10_findFit 156 [.ref 111, v1, v2, v3, v4, .int (nI c), .int w6, .long (lZ (G X)), .null, .int w9] [] J L = jE n rX10_findFit 222 [.ref 111, v1, v2, v3, v4, .int (nI c), .int w6, .long (lZ (G X)), .null, x9] [] K L' := by
  have l0 : lN 0 = lZ 0 := rfl
  have hgX := hG X
  have upd0 : amin G tru (X + 1) = some X → ∃ (K : jm_I) (L' : jm_L) (x9 : Value), (∀ a, a ≠ 111 → K a = J a) ∧ (∀ j, j ≠ 36 → K 111 j = J 111 j) ∧ (∀ a, a ≠ 111 → L' a = L a) ∧ FitS K L' G c (X + 1) ∧ jE n rX10_findFit 175 [.ref 111, v1, v2, v3, v4, .int (nI c), .int w6, .long (lZ (G X)), .null, .int w9] [] J L = jE n rX10_findFit 222 [.ref 111, v1, v2, v3, v4, .int (nI c), .int w6, .long (lZ (G X)), .null, x9] [] K L' := by
    intro hb
    obtain ⟨x9, h9⟩ := m_fnum n J (jm_uL L 111 37 (lZ (G X))) hc hQ v1 v2 v3 v4 (.long (lZ (G X))) w6
    refine ⟨jm_u J 111 36 (nI (nrv c X c)), jm_uL L 111 37 (lZ (G X)), x9, fun a h => jm_u_ne _ _ _ h, fun j h => by rw [jm_u_eq, if_neg h], fun a h => by rw [uL_0, lA_ne _ _ h], Or.inr ⟨X, hb, by rw [uL_0, lA_eq, updL_ap, if_pos rfl], by rw [jm_u_eq, if_pos rfl]⟩, ?_⟩
    simp only [eX10_findFit_175]
    exact h9
  rcases hF with ⟨h0, h37⟩ | ⟨b, hb, h37, h36⟩
  · subst h0
    have c1 : lZ (-1) < lZ 0 := by decide
    obtain ⟨K, L', x9, a1, a2, a3, a4, a5⟩ := upd0 (amin_0 trivial rfl)
    refine ⟨K, L', x9, a1, a2, a3, a4, ?_⟩
    simp only [eX10_findFit_156, h37, l0, c1, if_true]
    exact a5
  · have hgb := hG b
    have c1 : ¬ lZ (G b) < lZ 0 := by
      rw [lZ_lt ⟨by omega, by omega⟩ ⟨by omega, by omega⟩]
      omega
    have cm : lZ (G b) ≤ lZ (G X) ↔ G b ≤ G X := lZ_le ⟨by omega, by omega⟩ ⟨by omega, by omega⟩
    by_cases q : G X < G b
    · have c2 : ¬ lZ (G b) ≤ lZ (G X) := fun w => by have := cm.mp w; omega
      obtain ⟨K, L', x9, a1, a2, a3, a4, a5⟩ := upd0 (amin_l trivial hb q)
      refine ⟨K, L', x9, a1, a2, a3, a4, ?_⟩
      simp only [eX10_findFit_156, eX10_findFit_165, h37, l0, c1, c2, if_false]
      exact a5
    · have c2 : lZ (G b) ≤ lZ (G X) := cm.mpr (by omega)
      refine ⟨J, L, .int w9, fun _ _ => rfl, fun _ _ => rfl, fun _ _ => rfl, Or.inr ⟨b, amin_g trivial hb q, h37, h36⟩, ?_⟩
      simp only [eX10_findFit_156, eX10_findFit_165, h37, l0, c1, c2, if_false, if_true]
theorem Mine_fr {J K A : jm_I} {m : Nat} {set : Int64} {mi : Nat → Nat} (h : Mine J A m set mi) (h1 : K 111 35 = J 111 35) (h2 : K 138 = J 138) : Mine K A m set mi := ⟨h1.trans h.n35, fun i hi => by rw [h2]; exact h.row i hi, h.at0⟩
theorem m_fmain (n : Nat) (J0 A : jm_I) (hA : Inv A) {τ : Nat → Nat} {c m : Nat} (set : Int64) {mi : Nat → Nat} (hc : c ≤ 3) (hm : m < 4) (v1 v2 v3 v4 : Value) : ∀ (d X i : Nat) (K : jm_I) (L : jm_L) (v7 v8 v9 : Value), X + d + 1 = 7 ^ c → i ≤ c → FrM K J0 → Mine K A m set mi → (∀ j, j < c → K 139 j = nI (dg c X j)) → ADp (L 141) A τ c m mi (mc A m set (zN A)) (mc A m set (zN A)) 0 0 → (∀ j, j ≤ i → Lv (L 140) A τ c m mi (mc A m set (zN A)) X j) → FitS K L (zG A τ c m set) c X → (v8 = .null) → ∃ (K' : jm_I) (L' : jm_L), FrM K' J0 ∧ Mine K' A m set mi ∧ FitS K' L' (zG A τ c m set) c (7 ^ c) ∧ jE n rX10_findFit 54 [.ref 111, v1, v2, v3, v4, .int (nI c), .int (nI i), v7, v8, v9] [] K L = some (none, jS n K' L') := by
  obtain ⟨e8, hN⟩ := Inv_N hA
  have hMle := mc_le A m set (zN A)
  intro d
  induction d with
  | zero =>
    intro X i K L v7 v8 v9 hX hi hFr hmi hQ hAD hLv hF hv8
    subst hv8
    have pi : ¬ nI i < 0 := nI_pos (by omega)
    -- the levels
    obtain ⟨R', g1, g2⟩ := m_go n K A L hc (show mc A m set (zN A) ≤ 40 by omega) hmi.n35 hQ hAD rX10_findFit 63 82 (fun j => [.ref 111, v1, v2, v3, v4, .int (nI c), .int (nI i), .int (nI j), .null, v9]) (fun j => [.ref 111, v1, v2, v3, v4, .int (nI c), .int (nI i), .int (nI j), .null, v9]) (fun j W W' hj h => by
        have cc : ¬ nI c ≤ nI j := nI_ge hj (by omega)
        have hd0 : jE n rX10_findFit 63 [.ref 111, v1, v2, v3, v4, .int (nI c), .int (nI i), .int (nI j), .null, v9] [] K W = jE n rX10_findFit 70 [.ref 111, v1, v2, v3, v4, .int (nI c), .int (nI i), .int (nI j), .null, v9] [] K W := by
          simp only [eX10_findFit_63, cc, if_false]
        rw [hd0]
        simp only [eX10_findFit_70, h, jB_v, nI_add]) (fun W => by
        have cc : nI c ≤ nI c := Int32.le_refl _
        simp only [eX10_findFit_63, cc, if_true]) (c - i) i (L 140) (by omega) hLv
    rw [lA_0] at g2
    obtain ⟨w9, g3⟩ := m_fsum n K A (jm_uA L 140 R') hA (X := X) (τ := τ) set hc hm hmi (by rw [lA_eq]; exact g1 c (Nat.le_refl _)) v1 v2 v3 v4 (nI i)
    have hF2 : FitS K (jm_uA L 140 R') (zG A τ c m set) c X := by
      unfold FitS
      rw [lA_ne _ _ (by decide)]
      exact hF
    obtain ⟨K1, L1, x9, b1, b2, b3, b4, b5⟩ := m_fupd n K (jm_uA L 140 R') hc (by omega) (zG_rg hA τ hc hm set) hQ hF2 v1 v2 v3 v4 (nI i) w9
    have hQ1 : ∀ j, j < c → K1 139 j = nI (dg c X j) := fun j hj => by rw [b1 139 (by decide)]; exact hQ j hj
    obtain ⟨fr, Q', q1, q2⟩ := m_counts n K1 L1 hc (show X < 7 ^ c by omega) hQ1
    rcases q2 with ⟨q2, -⟩ | ⟨q2, q3⟩
    · omega
    · subst q3
      have m1 : (-1 : Int32) < 0 := by decide
      refine ⟨jm_uA K1 139 Q', L1, ?_, ?_, ?_, ?_⟩
      · refine FrM_t hFr ⟨fun a h1 h2 h3 => ?_, fun j h1 h2 => ?_⟩
        · rw [jm_uA_ne _ _ h3, b1 a h1]
        · rw [jm_uA_ne _ _ (by decide), b2 j h2]
      · refine Mine_fr hmi ?_ ?_
        · rw [jm_uA_ne _ _ (by decide), b2 35 (by decide)]
        · rw [jm_uA_ne _ _ (by decide), b1 138 (by decide)]
      · rw [← q2]
        unfold FitS
        rw [jm_uA_ne _ _ (by decide)]
        exact b4
      · have h0 : jE n rX10_findFit 54 [.ref 111, v1, v2, v3, v4, .int (nI c), .int (nI i), v7, .null, v9] [] K L = jE n rX10_findFit 63 [.ref 111, v1, v2, v3, v4, .int (nI c), .int (nI i), .int (nI i), .null, v9] [] K L := by
          simp only [eX10_findFit_54, eX10_findFit_59, pi, if_false]
        rw [h0, g2]
        simp only [eX10_findFit_82]
        rw [g3, b5]
        have h1 : jE n rX10_findFit 222 [.ref 111, v1, v2, v3, v4, .int (nI c), .int (nI i), .long (lZ (zG A τ c m set X)), .null, x9] [] K1 L1 = jE n rX10_findFit 54 [.ref 111, v1, v2, v3, v4, .int (nI c), .int (-1), .long (lZ (zG A τ c m set X)), .null, x9] [] (jm_uA K1 139 Q') L1 := by
          simp only [eX10_findFit_222, q1, jB_s]
        rw [h1]
        simp only [eX10_findFit_54, eX10_findFit_233, m1, if_true]
  | succ d ih =>
    intro X i K L v7 v8 v9 hX hi hFr hmi hQ hAD hLv hF hv8
    subst hv8
    have pi : ¬ nI i < 0 := nI_pos (by omega)
    obtain ⟨R', g1, g2⟩ := m_go n K A L hc (show mc A m set (zN A) ≤ 40 by omega) hmi.n35 hQ hAD rX10_findFit 63 82 (fun j => [.ref 111, v1, v2, v3, v4, .int (nI c), .int (nI i), .int (nI j), .null, v9]) (fun j => [.ref 111, v1, v2, v3, v4, .int (nI c), .int (nI i), .int (nI j), .null, v9]) (fun j W W' hj h => by
        have cc : ¬ nI c ≤ nI j := nI_ge hj (by omega)
        have hd0 : jE n rX10_findFit 63 [.ref 111, v1, v2, v3, v4, .int (nI c), .int (nI i), .int (nI j), .null, v9] [] K W = jE n rX10_findFit 70 [.ref 111, v1, v2, v3, v4, .int (nI c), .int (nI i), .int (nI j), .null, v9] [] K W := by
          simp only [eX10_findFit_63, cc, if_false]
        rw [hd0]
        simp only [eX10_findFit_70, h, jB_v, nI_add]) (fun W => by
        have cc : nI c ≤ nI c := Int32.le_refl _
        simp only [eX10_findFit_63, cc, if_true]) (c - i) i (L 140) (by omega) hLv
    rw [lA_0] at g2
    obtain ⟨w9, g3⟩ := m_fsum n K A (jm_uA L 140 R') hA (X := X) (τ := τ) set hc hm hmi (by rw [lA_eq]; exact g1 c (Nat.le_refl _)) v1 v2 v3 v4 (nI i)
    have hF2 : FitS K (jm_uA L 140 R') (zG A τ c m set) c X := by
      unfold FitS
      rw [lA_ne _ _ (by decide)]
      exact hF
    obtain ⟨K1, L1, x9, b1, b2, b3, b4, b5⟩ := m_fupd n K (jm_uA L 140 R') hc (by omega) (zG_rg hA τ hc hm set) hQ hF2 v1 v2 v3 v4 (nI i) w9
    have hQ1 : ∀ j, j < c → K1 139 j = nI (dg c X j) := fun j hj => by rw [b1 139 (by decide)]; exact hQ j hj
    obtain ⟨fr, Q', q1, q2⟩ := m_counts n K1 L1 hc (show X < 7 ^ c by omega) hQ1
    rcases q2 with ⟨q2, i2, hi2, q3, q4, q5⟩ | ⟨q2, -⟩
    · subst q3
      obtain ⟨K', L', r1, r2, r3, r4⟩ := ih (X + 1) i2 (jm_uA K1 139 Q') L1 (.long (lZ (zG A τ c m set X))) .null x9 (by omega) (by omega)
        (FrM_t hFr ⟨fun a h1 h2 h3 => by rw [jm_uA_ne _ _ h3, b1 a h1], fun j h1 h2 => by rw [jm_uA_ne _ _ (by decide), b2 j h2]⟩)
        (Mine_fr hmi (by rw [jm_uA_ne _ _ (by decide), b2 35 (by decide)]) (by rw [jm_uA_ne _ _ (by decide), b1 138 (by decide)]))
        (fun j hj => by rw [iA_eq]; exact q4 j hj)
        (by rw [b3 141 (by decide), lA_ne _ _ (by decide)]; exact hAD)
        (fun j hj => by
          rw [b3 140 (by decide), lA_eq]
          intro s hs
          rw [← q5 j hj]
          exact g1 j (by omega) s hs)
        (by unfold FitS; rw [jm_uA_ne _ _ (by decide)]; exact b4) rfl
      refine ⟨K', L', r1, r2, r3, ?_⟩
      have h0 : jE n rX10_findFit 54 [.ref 111, v1, v2, v3, v4, .int (nI c), .int (nI i), v7, .null, v9] [] K L = jE n rX10_findFit 63 [.ref 111, v1, v2, v3, v4, .int (nI c), .int (nI i), .int (nI i), .null, v9] [] K L := by
        simp only [eX10_findFit_54, eX10_findFit_59, pi, if_false]
      rw [h0, g2]
      simp only [eX10_findFit_82]
      rw [g3, b5]
      have h1 : jE n rX10_findFit 222 [.ref 111, v1, v2, v3, v4, .int (nI c), .int (nI i), .long (lZ (zG A τ c m set X)), .null, x9] [] K1 L1 = jE n rX10_findFit 54 [.ref 111, v1, v2, v3, v4, .int (nI c), .int (nI i2), .long (lZ (zG A τ c m set X)), .null, x9] [] (jm_uA K1 139 Q') L1 := by
        simp only [eX10_findFit_222, q1, jB_s]
      rw [h1]
      exact r4
    · omega
theorem m_findFit (n : Nat) (J A : jm_I) (L : jm_L) (hA : Inv A) (hM : Mod J A) {t c m : Nat} {τ : Nat → Nat} (set : Int64) (hm : m < 4) (hT : Trm J t c τ) : ∃ (K : jm_I) (L' : jm_L) (mi : Nat → Nat), FrM K J ∧ Mine K A m set mi ∧ K 111 36 = nI (nrv c (afit (zG A τ c m set) c) c) ∧ L' 111 37 = lZ (zG A τ c m set (afit (zG A τ c m set) c)) ∧ jE n rX10_findFit 0 [.ref 111, .int (nI t), .int (nI m), .long set, .null, .null, .null, .null, .null, .null] [] J L = some (none, jS n K L') := by
  obtain ⟨J1, mi, a1, a2, a3, a4⟩ := m_findMine n J A L hA hM hm set
  have hM1 : Mod J1 A := Mod_fr hA hM (FrM_S a1)
  have e135 : J1 135 = J 135 := a1.m1 135 (by decide) (by decide) (by decide)
  have e134 : J1 134 = J 134 := a1.m1 134 (by decide) (by decide) (by decide)
  have hT1 : Trm J1 t c τ := ⟨hT.t9, hT.c3, by rw [e135]; exact hT.k135, fun q hq => by rw [e134]; exact hT.k134 q hq⟩
  obtain ⟨r, ad, b1, b2, b3⟩ := m_findAdds n J1 A L hA hM1 set hm hT1 a3
  have hc := hT.c3
  have ht9 := hT.t9
  obtain ⟨p1, p2⟩ := p7 hc
  -- the counter is cleared
  have z : ∀ (d i : Nat) (Q : Nat → Int32) (W : jm_L), i + d = c → (∀ j, j < i → Q j = nI 0) → ∃ Q' : Nat → Int32, (∀ j, j < c → Q' j = nI 0) ∧ jE n rX10_findFit 33 [.ref 111, .int (nI t), .int (nI m), .long set, .null, .int (nI c), .int (nI 0), .int (nI i), .null, .null] [] (jm_uA J1 139 Q) W = jE n rX10_findFit 54 [.ref 111, .int (nI t), .int (nI m), .long set, .null, .int (nI c), .int (nI 0), .int (nI c), .null, .null] [] (jm_uA J1 139 Q') W := by
    intro d
    induction d with
    | zero =>
      intro i Q W hi hQ
      have : i = c := by omega
      subst this
      have cc : nI i ≤ nI i := Int32.le_refl _
      refine ⟨Q, hQ, ?_⟩
      simp only [eX10_findFit_33, cc, if_true]
    | succ d ih =>
      intro i Q W hi hQ
      have cc : ¬ nI c ≤ nI i := nI_ge (by omega) (by omega)
      have hi8 : i < 8 := by omega
      obtain ⟨Q', r1, r2⟩ := ih (i + 1) (upd Q i (nI 0)) W (by omega) (fun j hj => by
        rw [upd_ap]
        by_cases e : j = i
        · rw [if_pos e]
        · rw [if_neg e]; exact hQ j (by omega))
      refine ⟨Q', r1, ?_⟩
      have hd0 : jE n rX10_findFit 33 [.ref 111, .int (nI t), .int (nI m), .long set, .null, .int (nI c), .int (nI 0), .int (nI i), .null, .null] [] (jm_uA J1 139 Q) W = jE n rX10_findFit 40 [.ref 111, .int (nI t), .int (nI m), .long set, .null, .int (nI c), .int (nI 0), .int (nI i), .null, .null] [] (jm_uA J1 139 Q) W := by
        simp only [eX10_findFit_33, cc, if_false]
      rw [hd0]
      simp only [eX10_findFit_40, jLI_t, jLW_t, jLL_t, jLZ_t, jLA_t, hi8, iA_u, nI_add]
      exact r2
  obtain ⟨Q', z1, z2⟩ := z c 0 (J1 139) (jm_uL (jm_uA (jm_uA L 140 r) 141 ad) 111 37 (lZ (-1))) (Nat.zero_add _) (fun j hj => absurd hj (by omega))
  rw [iA_0] at z2
  have W141 : jm_uL (jm_uA (jm_uA L 140 r) 141 ad) 111 37 (lZ (-1)) 141 = ad := by rw [uL_0, lA_ne _ _ (by decide), lA_eq]
  have W140 : jm_uL (jm_uA (jm_uA L 140 r) 141 ad) 111 37 (lZ (-1)) 140 = r := by rw [uL_0, lA_ne _ _ (by decide), lA_ne _ _ (by decide), lA_eq]
  have W37 : jm_uL (jm_uA (jm_uA L 140 r) 141 ad) 111 37 (lZ (-1)) 111 37 = lZ (-1) := by rw [uL_0, lA_eq, updL_ap, if_pos rfl]
  have z0 : ∀ k j : Nat, 0 / 7 ^ k = 0 := fun k _ => Nat.zero_div _
  obtain ⟨K, L', c1, c2, c3, c4⟩ := m_fmain n J1 A hA (τ := τ) set hc hm (.int (nI t)) (.int (nI m)) (.long set) .null (7 ^ c - 1) 0 0 (jm_uA J1 139 Q') (jm_uL (jm_uA (jm_uA L 140 r) 141 ad) 111 37 (lZ (-1))) (.int (nI c)) .null .null (by omega) (Nat.zero_le _)
    ⟨fun a h1 h2 h3 => jm_uA_ne _ _ h3, fun j h1 h2 => by rw [jm_uA_ne _ _ (by decide)]⟩
    (Mine_fr a3 (by rw [jm_uA_ne _ _ (by decide)]) (by rw [jm_uA_ne _ _ (by decide)]))
    (fun j hj => by
      rw [iA_eq, z1 j hj]
      unfold dg
      rw [Nat.zero_div])
    (by rw [W141]; exact b2)
    (fun j hj => by
      have : j = 0 := by omega
      subst this
      rw [W140]
      intro s hs
      rw [Nat.mul_zero, Nat.zero_add, Nat.zero_div]
      exact b1 s hs)
    (Or.inl ⟨rfl, W37⟩) rfl
  refine ⟨K, L', mi, FrM_t a1 c1, c2, ?_, ?_, ?_⟩
  · rcases c3 with ⟨h, -⟩ | ⟨b, hb, -, h36⟩
    · omega
    · have : afit (zG A τ c m set) c = b := by have := (afit_e (zG A τ c m set) hc).1; rw [hb] at this; exact (Option.some.inj this).symm
      rw [this]; exact h36
  · rcases c3 with ⟨h, -⟩ | ⟨b, hb, h37, -⟩
    · omega
    · have : afit (zG A τ c m set) c = b := by have := (afit_e (zG A τ c m set) hc).1; rw [hb] at this; exact (Option.some.inj this).symm
      rw [this]; exact h37
  · have m1 : (-1 : Int64) = lZ (-1) := by decide
    have e0 : jE n rX10_findFit 0 [.ref 111, .int (nI t), .int (nI m), .long set, .null, .null, .null, .null, .null, .null] [] J L = jE n rX10_findFit 33 [.ref 111, .int (nI t), .int (nI m), .long set, .null, .int (nI c), .int (nI 0), .int (nI 0), .null, .null] [] J1 (jm_uL (jm_uA (jm_uA L 140 r) 141 ad) 111 37 (lZ (-1))) := by
      simp only [eX10_findFit_0, a4, jB_v, b3, jLI_t, jLW_t, jLL_t, jLZ_t, jLA_t, ht9, hT1.k135, m1]
    rw [e0, z2]
    exact c4
theorem m_score (n : Nat) (J A : jm_I) (L : jm_L) (hA : Inv A) (hM : Mod J A) {t c m : Nat} {τ : Nat → Nat} (set : Int64) (hm : m < 4) (hT : Trm J t c τ) : ∃ (K : jm_I) (L' : jm_L) (mi : Nat → Nat), FrM K J ∧ Mine K A m set mi ∧ K 111 36 = nI (nrv c (afit (zG A τ c m set) c) c) ∧ L' 111 37 = lZ (zG A τ c m set (afit (zG A τ c m set) c)) ∧ jE n rX10_score 0 [.ref 111, .int (nI t), .int (nI m), .long set, .null] [] J L = some (some (.long (lZ (zG A τ c m set (afit (zG A τ c m set) c) + zpr A c))), jS n K L') := by
  obtain ⟨K, L', mi, a1, a2, a3, a4, a5⟩ := m_findFit n J A L hA hM set hm hT
  refine ⟨K, L', mi, a1, a2, a3, a4, ?_⟩
  have hM1 : Mod K A := Mod_fr hA hM (FrM_S a1)
  have f3 : K 118 3 = A 11 3 := hM1.1 118 3 (by decide)
  have ht9 := hT.t9
  have k135 : K 135 t = nI c := by rw [a1.m1 135 (by decide) (by decide) (by decide)]; exact hT.k135
  have ec : (nI c).toInt64 = lZ (c : Int) := by rw [nI_l (by have := hT.c3; omega)]; rfl
  simp only [eX10_score_0, a5, jB_v, a4, jLI_t, jLW_t, jLL_t, jLZ_t, jLA_t, show (3 : Nat) < 5 from by decide, f3, ht9, k135, ec, toL, lZ_mul, lZ_add, zpr]
