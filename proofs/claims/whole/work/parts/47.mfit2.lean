def grw (R ad : Nat → Int64) (i d s : Nat) : Nat → Int64 := fun x => if 40 * (i + 1) ≤ x ∧ x < 40 * (i + 1) + s then R (x - 40) - ad (280 * i + 40 * d + (x - 40 * (i + 1))) else R x
theorem grw_0 (R ad : Nat → Int64) (i d : Nat) : grw R ad i d 0 = R := by
  funext x
  unfold grw
  rw [if_neg (by omega)]
theorem grw_s (R ad : Nat → Int64) (i d s : Nat) : vp_updL (grw R ad i d s) (40 * (i + 1) + s) (R (40 * i + s) - ad (280 * i + 40 * d + s)) = grw R ad i d (s + 1) := by
  funext x
  rw [updL_ap]
  unfold grw
  by_cases h : x = 40 * (i + 1) + s
  · subst h
    rw [if_pos rfl, if_pos (by omega), show 40 * (i + 1) + s - 40 = 40 * i + s by omega, show 40 * (i + 1) + s - 40 * (i + 1) = s by omega]
  · rw [if_neg h]
    by_cases h1 : 40 * (i + 1) ≤ x ∧ x < 40 * (i + 1) + s
    · rw [if_pos h1, if_pos (by omega)]
    · rw [if_neg h1, if_neg (by omega)]
theorem m_goesOn (n : Nat) (J : jm_I) (L : jm_L) (R : Nat → Int64) {i d M : Nat} (hi : i < 3) (hd : d < 7) (hM : M ≤ 40) (h35 : J 111 35 = nI M) (h139 : J 139 i = nI d) : jE n rX10_goesOn 0 [.ref 111, .int (nI i), .null] [] J (jm_uA L 140 R) = some (none, jS n J (jm_uA L 140 (grw R (L 141) i d M))) := by
  have hi8 : i < 8 := by omega
  have key : ∀ (e s : Nat), s + e = M → jE n rX10_goesOn 2 [.ref 111, .int (nI i), .int (nI s)] [] J (jm_uA L 140 (grw R (L 141) i d s)) = some (none, jS n J (jm_uA L 140 (grw R (L 141) i d M))) := by
    intro e
    induction e with
    | zero =>
      intro s hs
      have : s = M := by omega
      subst this
      have cc : nI s ≤ nI s := Int32.le_refl _
      simp only [eX10_goesOn_2, eX10_goesOn_63, h35, cc, if_true]
    | succ e ih =>
      intro s hs
      have cc : ¬ nI M ≤ nI s := nI_ge (by omega) (by omega)
      have hd0 : ∀ W, jE n rX10_goesOn 2 [.ref 111, .int (nI i), .int (nI s)] [] J W = jE n rX10_goesOn 10 [.ref 111, .int (nI i), .int (nI s)] [] J W := by
        intro W
        simp only [eX10_goesOn_2, h35, cc, if_false]
      rw [hd0]
      have x1 : 40 * i + s < 360 := by omega
      have x2 : 280 * i + 40 * d + s < 2240 := by omega
      have x3 : 40 * (i + 1) + s < 360 := by omega
      have q1 : grw R (L 141) i d s (40 * i + s) = R (40 * i + s) := by unfold grw; rw [if_neg (by omega)]
      have q2 : jm_uA L 140 (grw R (L 141) i d s) 141 = L 141 := lA_ne _ _ (by decide)
      have ih2 := ih (s + 1) (by omega)
      rw [← grw_s] at ih2
      simp only [eX10_goesOn_10, nI_add, pk_mul, jLI_t, jLW_t, jLL_t, jLZ_t, jLA_t, x1, x2, x3, hi8, h139, lA_eq, q1, q2, uL_A]
      exact ih2
  have k0 := key M 0 (Nat.zero_add _)
  rw [grw_0] at k0
  simp only [eX10_goesOn_0]
  exact k0
/-! the counter -/
theorem m_counts (n : Nat) (J : jm_I) (L : jm_L) {c X : Nat} (hc : c ≤ 3) (hX : X < 7 ^ c) (hQ : ∀ j, j < c → J 139 j = nI (dg c X j)) : ∃ (fr : Int32) (Q' : Nat → Int32), jE n rX10_counts 0 [.ref 111, .int (nI c), .null] [] J L = some (some (.int fr), jS n (jm_uA J 139 Q') L) ∧ ((X + 1 < 7 ^ c ∧ ∃ i, i < c ∧ fr = nI i ∧ (∀ j, j < c → Q' j = nI (dg c (X + 1) j)) ∧ ∀ j, j ≤ i → X / 7 ^ (c - j) = (X + 1) / 7 ^ (c - j)) ∨ (X + 1 = 7 ^ c ∧ fr = -1)) := by
  have m1 : (-1 : Int32) < 0 := by decide
  have ne6 : ∀ k, k < 7 → ¬ k = 6 → ¬ nI k = nI 6 := fun k hk h q => h ((nI_inj (by omega) (by decide)).mp q)
  rcases (show c = 0 ∨ c = 1 ∨ c = 2 ∨ c = 3 by omega) with rfl | rfl | rfl | rfl
  · refine ⟨-1, J 139, ?_, Or.inr ⟨by simp at hX ⊢; omega, rfl⟩⟩
    rw [iA_0]
    simp (decide := true) [eX10_counts_0, eX10_counts_4, eX10_counts_8, eX10_counts_19, eX10_counts_32, eX10_counts_36, eX10_counts_46]
  · have d0 : dg 1 X 0 = X := by unfold dg; simp at hX ⊢; omega
    have h0 := hQ 0 (by decide)
    rw [d0] at h0
    have hX7 : X < 7 := by simpa using hX
    have e10 : nI 1 - nI 1 = nI 0 := by decide
    have p0 : ¬ nI 0 < 0 := by decide
    by_cases h6 : X = 6
    · subst h6
      refine ⟨-1, upd (J 139) 0 (nI 0), ?_, Or.inr ⟨rfl, rfl⟩⟩
      have st : jm_u J 139 0 (nI 0) = jm_uA J 139 (upd (J 139) 0 (nI 0)) := by rw [← iA_u, iA_0]
      have e2 : nI 0 + -1 = -1 := by decide
      simp only [eX10_counts_0, eX10_counts_4, eX10_counts_8, eX10_counts_19, eX10_counts_32, eX10_counts_36, eX10_counts_46, e10, p0, if_false, jLI_t, jLW_t, jLL_t, jLZ_t, jLA_t, show (0 : Nat) < 8 from by decide, h0, not_true, st, e2, m1, if_true]
    · refine ⟨nI 0, upd (J 139) 0 (nI (X + 1)), ?_, Or.inl ⟨by simp; omega, 0, by decide, rfl, fun j hj => ?_, fun j hj => ?_⟩⟩
      · have st : ∀ x, jm_u J 139 0 x = jm_uA J 139 (upd (J 139) 0 x) := fun x => by rw [← iA_u, iA_0]
        simp only [eX10_counts_0, eX10_counts_4, eX10_counts_8, eX10_counts_19, eX10_counts_32, eX10_counts_36, eX10_counts_46, e10, p0, if_false, jLI_t, jLW_t, jLL_t, jLZ_t, jLA_t, show (0 : Nat) < 8 from by decide, h0, ne6 X hX7 h6, not_false_eq_true, if_true, nI_add, st]
      · have : j = 0 := by omega
        subst this
        rw [upd_ap, if_pos rfl]
        congr 1
        unfold dg
        simp
        omega
      · have : j = 0 := by omega
        subst this
        simp
        omega
  · have d0 : dg 2 X 0 = X / 7 := by unfold dg; simp at hX ⊢; omega
    have d1 : dg 2 X 1 = X % 7 := by unfold dg; simp
    have h0 := hQ 0 (by decide)
    have h1 := hQ 1 (by decide)
    rw [d0] at h0
    rw [d1] at h1
    have hX7 : X < 49 := by simpa using hX
    have e10 : nI 2 - nI 1 = nI 1 := by decide
    have p0 : ¬ nI 0 < 0 := by decide
    have p1 : ¬ nI 1 < 0 := by decide
    have e1 : nI 1 + -1 = nI 0 := by decide
    have e2 : nI 0 + -1 = -1 := by decide
    by_cases h6 : X % 7 = 6
    · rw [h6] at h1
      have st : ∀ x, jm_u J 139 1 x = jm_uA J 139 (upd (J 139) 1 x) := fun x => by rw [← iA_u, iA_0]
      have st2 : ∀ f k x, jm_u (jm_uA J 139 f) 139 k x = jm_uA J 139 (upd f k x) := fun f k x => iA_u J 139 f k x
      have r0 : jm_uA J 139 (upd (J 139) 1 (nI 0)) 139 0 = nI (X / 7) := by rw [iA_eq, upd_ap, if_neg (by decide)]; exact h0
      by_cases h5 : X / 7 = 6
      · rw [h5] at r0
        refine ⟨-1, upd (upd (J 139) 1 (nI 0)) 0 (nI 0), ?_, Or.inr ⟨by simp; omega, rfl⟩⟩
        simp only [eX10_counts_0, eX10_counts_4, eX10_counts_8, eX10_counts_19, eX10_counts_32, eX10_counts_36, eX10_counts_46, e10, p0, p1, if_false, jLI_t, jLW_t, jLL_t, jLZ_t, jLA_t, show (0 : Nat) < 8 from by decide, show (1 : Nat) < 8 from by decide, h1, not_true, st, e1, r0, st2, e2, m1, if_true]
      · refine ⟨nI 0, upd (upd (J 139) 1 (nI 0)) 0 (nI (X / 7 + 1)), ?_, Or.inl ⟨by simp; omega, 0, by decide, rfl, fun j hj => ?_, fun j hj => ?_⟩⟩
        · simp only [eX10_counts_0, eX10_counts_4, eX10_counts_8, eX10_counts_19, eX10_counts_32, eX10_counts_36, eX10_counts_46, e10, p0, p1, if_false, jLI_t, jLW_t, jLL_t, jLZ_t, jLA_t, show (0 : Nat) < 8 from by decide, show (1 : Nat) < 8 from by decide, h1, not_true, st, e1, r0, ne6 (X / 7) (by omega) h5, not_false_eq_true, if_true, nI_add, st2]
        · rcases (show j = 0 ∨ j = 1 by omega) with rfl | rfl
          · rw [upd_ap, if_pos rfl]
            congr 1
            unfold dg
            simp
            omega
          · rw [upd_ap, if_neg (by decide), upd_ap, if_pos rfl]
            congr 1
            unfold dg
            simp
            omega
        · have : j = 0 := by omega
          subst this
          simp
          omega
    · refine ⟨nI 1, upd (J 139) 1 (nI (X % 7 + 1)), ?_, Or.inl ⟨by simp; omega, 1, by decide, rfl, fun j hj => ?_, fun j hj => ?_⟩⟩
      · have st : ∀ x, jm_u J 139 1 x = jm_uA J 139 (upd (J 139) 1 x) := fun x => by rw [← iA_u, iA_0]
        simp only [eX10_counts_0, eX10_counts_4, eX10_counts_8, eX10_counts_19, eX10_counts_32, eX10_counts_36, eX10_counts_46, e10, p1, if_false, jLI_t, jLW_t, jLL_t, jLZ_t, jLA_t, show (1 : Nat) < 8 from by decide, h1, ne6 (X % 7) (by omega) h6, not_false_eq_true, if_true, nI_add, st]
      · rcases (show j = 0 ∨ j = 1 by omega) with rfl | rfl
        · rw [upd_ap, if_neg (by decide), h0]
          congr 1
          unfold dg
          simp
          omega
        · rw [upd_ap, if_pos rfl]
          congr 1
          unfold dg
          simp
          omega
      · rcases (show j = 0 ∨ j = 1 by omega) with rfl | rfl <;> simp <;> omega
  · have d0 : dg 3 X 0 = X / 49 := by unfold dg; simp at hX ⊢; omega
    have d1 : dg 3 X 1 = X / 7 % 7 := by unfold dg; simp
    have d2 : dg 3 X 2 = X % 7 := by unfold dg; simp
    have h0 := hQ 0 (by decide)
    have h1 := hQ 1 (by decide)
    have h2 := hQ 2 (by decide)
    rw [d0] at h0
    rw [d1] at h1
    rw [d2] at h2
    have hX7 : X < 343 := by simpa using hX
    have e10 : nI 3 - nI 1 = nI 2 := by decide
    have p0 : ¬ nI 0 < 0 := by decide
    have p1 : ¬ nI 1 < 0 := by decide
    have p2 : ¬ nI 2 < 0 := by decide
    have e0 : nI 2 + -1 = nI 1 := by decide
    have e1 : nI 1 + -1 = nI 0 := by decide
    have e2 : nI 0 + -1 = -1 := by decide
    have st : ∀ x, jm_u J 139 2 x = jm_uA J 139 (upd (J 139) 2 x) := fun x => by rw [← iA_u, iA_0]
    have st2 : ∀ f k x, jm_u (jm_uA J 139 f) 139 k x = jm_uA J 139 (upd f k x) := fun f k x => iA_u J 139 f k x
    have n0 : (0 : Nat) < 8 := by decide
    have n1 : (1 : Nat) < 8 := by decide
    have n2 : (2 : Nat) < 8 := by decide
    have r1 : jm_uA J 139 (upd (J 139) 2 (nI 0)) 139 1 = nI (X / 7 % 7) := by rw [iA_eq, upd_ap, if_neg (by decide)]; exact h1
    have r0 : jm_uA J 139 (upd (upd (J 139) 2 (nI 0)) 1 (nI 0)) 139 0 = nI (X / 49) := by rw [iA_eq, upd_ap, if_neg (by decide), upd_ap, if_neg (by decide)]; exact h0
    by_cases h6 : X % 7 = 6
    · rw [h6] at h2
      by_cases h5 : X / 7 % 7 = 6
      · rw [h5] at r1
        by_cases h4 : X / 49 = 6
        · rw [h4] at r0
          refine ⟨-1, upd (upd (upd (J 139) 2 (nI 0)) 1 (nI 0)) 0 (nI 0), ?_, Or.inr ⟨by simp; omega, rfl⟩⟩
          simp only [eX10_counts_0, eX10_counts_4, eX10_counts_8, eX10_counts_19, eX10_counts_32, eX10_counts_36, eX10_counts_46, e10, p0, p1, p2, if_false, jLI_t, jLW_t, jLL_t, jLZ_t, jLA_t, n0, n1, n2, h2, not_true, st, e0, e1, r1, r0, st2, e2, m1, if_true]
        · refine ⟨nI 0, upd (upd (upd (J 139) 2 (nI 0)) 1 (nI 0)) 0 (nI (X / 49 + 1)), ?_, Or.inl ⟨by simp; omega, 0, by decide, rfl, fun j hj => ?_, fun j hj => ?_⟩⟩
          · simp only [eX10_counts_0, eX10_counts_4, eX10_counts_8, eX10_counts_19, eX10_counts_32, eX10_counts_36, eX10_counts_46, e10, p0, p1, p2, if_false, jLI_t, jLW_t, jLL_t, jLZ_t, jLA_t, n0, n1, n2, h2, not_true, st, e0, e1, r1, r0, st2, ne6 (X / 49) (by omega) h4, not_false_eq_true, if_true, nI_add]
          · rcases (show j = 0 ∨ j = 1 ∨ j = 2 by omega) with rfl | rfl | rfl
            · rw [upd_ap, if_pos rfl]
              congr 1
              unfold dg
              simp
              omega
            · rw [upd_ap, if_neg (by decide), upd_ap, if_pos rfl]
              congr 1
              unfold dg
              simp
              omega
            · rw [upd_ap, if_neg (by decide), upd_ap, if_neg (by decide), upd_ap, if_pos rfl]
              congr 1
              unfold dg
              simp
              omega
          · have : j = 0 := by omega
            subst this
            simp
            omega
      · refine ⟨nI 1, upd (upd (J 139) 2 (nI 0)) 1 (nI (X / 7 % 7 + 1)), ?_, Or.inl ⟨by simp; omega, 1, by decide, rfl, fun j hj => ?_, fun j hj => ?_⟩⟩
        · simp only [eX10_counts_0, eX10_counts_4, eX10_counts_8, eX10_counts_19, eX10_counts_32, eX10_counts_36, eX10_counts_46, e10, p0, p1, p2, if_false, jLI_t, jLW_t, jLL_t, jLZ_t, jLA_t, n0, n1, n2, h2, not_true, st, e0, e1, r1, ne6 (X / 7 % 7) (by omega) h5, not_false_eq_true, if_true, nI_add, st2]
        · rcases (show j = 0 ∨ j = 1 ∨ j = 2 by omega) with rfl | rfl | rfl
          · rw [upd_ap, if_neg (by decide), upd_ap, if_neg (by decide), h0]
            congr 1
            unfold dg
            simp
            omega
          · rw [upd_ap, if_pos rfl]
            congr 1
            unfold dg
            simp
            omega
          · rw [upd_ap, if_neg (by decide), upd_ap, if_pos rfl]
            congr 1
            unfold dg
            simp
            omega
        · rcases (show j = 0 ∨ j = 1 by omega) with rfl | rfl <;> simp <;> omega
    · refine ⟨nI 2, upd (J 139) 2 (nI (X % 7 + 1)), ?_, Or.inl ⟨by simp; omega, 2, by decide, rfl, fun j hj => ?_, fun j hj => ?_⟩⟩
      · simp only [eX10_counts_0, eX10_counts_4, eX10_counts_8, eX10_counts_19, eX10_counts_32, eX10_counts_36, eX10_counts_46, e10, p2, if_false, jLI_t, jLW_t, jLL_t, jLZ_t, jLA_t, n2, h2, ne6 (X % 7) (by omega) h6, not_false_eq_true, if_true, nI_add, st]
      · rcases (show j = 0 ∨ j = 1 ∨ j = 2 by omega) with rfl | rfl | rfl
        · rw [upd_ap, if_neg (by decide), h0]
          congr 1
          unfold dg
          simp
          omega
        · rw [upd_ap, if_neg (by decide), h1]
          congr 1
          unfold dg
          simp
          omega
        · rw [upd_ap, if_pos rfl]
          congr 1
          unfold dg
          simp
          omega
      · rcases (show j = 0 ∨ j = 1 ∨ j = 2 by omega) with rfl | rfl | rfl <;> simp <;> omega
/-! sums over the sights found -/
def sM (g : Nat → Int) (mi : Nat → Nat) : Nat → Int
  | 0 => 0
  | i + 1 => sM g mi i + g (mi i)
theorem sM_zs {J A : jm_I} {m : Nat} {set : Int64} {mi : Nat → Nat} (h : Mine J A m set mi) (τ : Nat → Nat) (c x : Nat) : ∀ s, s ≤ zN A → sM (fun s => zab (zl A τ m s c x)) mi (mc A m set s) = zs A τ c m set x s := by
  intro s
  induction s with
  | zero => intro _; rfl
  | succ s ih =>
    intro hs
    have i1 := ih (by omega)
    by_cases q : zin A m set s
    · rw [mc_t q, zs_t q]
      show sM _ mi (mc A m set s) + zab (zl A τ m (mi (mc A m set s)) c x) = _
      rw [i1, h.at0 s (by omega) q]
    · rw [mc_f q, zs_f q]; exact i1
/-- a level of the rests -/
def Lv (R : Nat → Int64) (A : jm_I) (τ : Nat → Nat) (c m : Nat) (mi : Nat → Nat) (M X j : Nat) : Prop := ∀ s, s < M → R (40 * j + s) = lZ (zl A τ m (mi s) j (X / 7 ^ (c - j)))
theorem m_go (n : Nat) (J A : jm_I) (L : jm_L) {τ : Nat → Nat} {c m M X : Nat} {mi : Nat → Nat} (hc : c ≤ 3) (hM : M ≤ 40) (h35 : J 111 35 = nI M) (hQ : ∀ j, j < c → J 139 j = nI (dg c X j)) (hAD : ADp (L 141) A τ c m mi M M 0 0) (r : jm_Row) (pc1 pc2 : Nat) (lv1 lv2 : Nat → List Value) (hstep : ∀ (i : Nat) (W W' : jm_L), i < c → jE n rX10_goesOn 0 [.ref 111, .int (nI i), .null] [] J W = some (none, jS n J W') → jE n r pc1 (lv1 i) [] J W = jE n r pc1 (lv1 (i + 1)) [] J W') (hend : ∀ W, jE n r pc1 (lv1 c) [] J W = jE n r pc2 (lv2 c) [] J W) : ∀ (d i : Nat) (R : Nat → Int64), i + d = c → (∀ j, j ≤ i → Lv R A τ c m mi M X j) → ∃ R' : Nat → Int64, (∀ j, j ≤ c → Lv R' A τ c m mi M X j) ∧ jE n r pc1 (lv1 i) [] J (jm_uA L 140 R) = jE n r pc2 (lv2 c) [] J (jm_uA L 140 R') := by
  intro d
  induction d with
  | zero =>
    intro i R hi hR
    have : i = c := by omega
    subst this
    exact ⟨R, hR, hend _⟩
  | succ d ih =>
    intro i R hi hR
    have hic : i < c := by omega
    have hd7 : dg c X i < 7 := Nat.mod_lt _ (by decide)
    have hg := m_goesOn n J L R (show i < 3 by omega) hd7 hM h35 (hQ i hic)
    have hR2 : ∀ j, j ≤ i + 1 → Lv (grw R (L 141) i (dg c X i) M) A τ c m mi M X j := by
      intro j hj s hs
      unfold grw
      by_cases e : j = i + 1
      · subst e
        rw [if_pos (by omega), show 40 * (i + 1) + s - 40 = 40 * i + s by omega, show 40 * (i + 1) + s - 40 * (i + 1) = s by omega, hR i (Nat.le_refl _) s hs, hAD i (dg c X i) s hic hd7 hs (Or.inl hs), lZ_sub]
        show _ = lZ (zl A τ m (mi s) i (X / 7 ^ (c - (i + 1)) / 7) - zsh A (τ i) (X / 7 ^ (c - (i + 1)) % 7) m (ixc A 28 (mi s)))
        rw [Nat.div_div_eq_div_mul, ← Nat.pow_succ, show (c - (i + 1)).succ = c - i by omega]
        have : dg c X i = X / 7 ^ (c - (i + 1)) % 7 := by unfold dg; rw [show c - 1 - i = c - (i + 1) by omega]
        rw [this]
      · rw [if_neg (by omega)]
        exact hR j (by omega) s hs
    obtain ⟨R', r1, r2⟩ := ih (i + 1) _ (by omega) hR2
    exact ⟨R', r1, (hstep i _ _ hic hg).trans r2⟩
theorem m_fnum (n : Nat) (J : jm_I) (L : jm_L) {c X : Nat} (hc : c ≤ 3) (hQ : ∀ j, j < c → J 139 j = nI (dg c X j)) (v1 v2 v3 v4 v7 : Value) (w6 : Int32) : ∃ w9 : Value, jE n rX10_findFit 192 [.ref 111, v1, v2, v3, v4, .int (nI c), .int w6, v7, .null, .int (nI c - nI 1)] [] (jm_u J 111 36 (nI 0)) L = jE n rX10_findFit 222 [.ref 111, v1, v2, v3, v4, .int (nI c), .int w6, v7, .null, w9] [] (jm_u J 111 36 (nI (nrv c X c))) L := by
  have m1 : (-1 : Int32) < 0 := by decide
  have p0 : ¬ nI 0 < 0 := by decide
  have p1 : ¬ nI 1 < 0 := by decide
  have p2 : ¬ nI 2 < 0 := by decide
  have e0 : nI 2 + -1 = nI 1 := by decide
  have e1 : nI 1 + -1 = nI 0 := by decide
  have e2 : nI 0 + -1 = -1 := by decide
  have n0 : (0 : Nat) < 8 := by decide
  have n1 : (1 : Nat) < 8 := by decide
  have n2 : (2 : Nat) < 8 := by decide
  have q36 : ∀ x, jm_u J 111 36 x 111 36 = x := fun x => by rw [jm_u_eq, if_pos rfl]
  have q139 : ∀ x, jm_u J 111 36 x 139 = J 139 := fun x => by rw [jm_u_ne _ _ _ (by decide)]
  refine ⟨.int (-1), ?_⟩
  rcases (show c = 0 ∨ c = 1 ∨ c = 2 ∨ c = 3 by omega) with rfl | rfl | rfl | rfl
  · have e : nI 0 - nI 1 = -1 := by decide
    rw [e]
    simp only [eX10_findFit_192, m1, if_true, nrv]
  · have h0 := hQ 0 (by decide)
    have e : nI 1 - nI 1 = nI 0 := by decide
    have en : nrv 1 X 1 = 7 * 0 + dg 1 X 0 := by simp [nrv]
    rw [e, en]
    simp only [eX10_findFit_192, eX10_findFit_197, p0, if_false, q36, q139, jLI_t, jLW_t, jLL_t, jLZ_t, jLA_t, n0, h0, pk_mul, nI_add, jm_u_uu, e2, m1, if_true]
  · have h0 := hQ 0 (by decide)
    have h1 := hQ 1 (by decide)
    have e : nI 2 - nI 1 = nI 1 := by decide
    have en : nrv 2 X 2 = 7 * (7 * 0 + dg 2 X 1) + dg 2 X 0 := by simp [nrv]; omega
    rw [e, en]
    simp only [eX10_findFit_192, eX10_findFit_197, p0, p1, if_false, q36, q139, jLI_t, jLW_t, jLL_t, jLZ_t, jLA_t, n0, n1, h0, h1, pk_mul, nI_add, jm_u_uu, e1, e2, m1, if_true]
  · have h0 := hQ 0 (by decide)
    have h1 := hQ 1 (by decide)
    have h2 := hQ 2 (by decide)
    have e : nI 3 - nI 1 = nI 2 := by decide
    have en : nrv 3 X 3 = 7 * (7 * (7 * 0 + dg 3 X 2) + dg 3 X 1) + dg 3 X 0 := by simp [nrv]; omega
    rw [e, en]
    simp only [eX10_findFit_192, eX10_findFit_197, p0, p1, p2, if_false, q36, q139, jLI_t, jLW_t, jLL_t, jLZ_t, jLA_t, n0, n1, n2, h0, h1, h2, pk_mul, nI_add, jm_u_uu, e0, e1, e2, m1, if_true]
