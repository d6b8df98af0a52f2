/-! parts -/
theorem zsd_rg {A : jm_I} (h : Inv A) {t m k : Nat} (hm : m < 4) (hk : k < 1000) (ν : Nat) : ∀ i, (zsd A t m k ν i).natAbs ≤ 1001000000 + 360000 * i := by
  intro i
  induction i with
  | zero =>
    have := zg_rg h hm hk
    show (zg A m k).natAbs ≤ _
    omega
  | succ i ih =>
    have h2 := zsh_rg h (τ := tt A t i) (m := m) (k := k) (show ν / 7 ^ i % 7 < 7 by omega)
    show (zsd A t m k ν i + zsh A (tt A t i) (ν / 7 ^ i % 7) m k).natAbs ≤ _
    omega
theorem zsaid_rg {A : jm_I} (h : Inv A) {t m k : Nat} (ht : t < 8) (hm : m < 4) (hk : k < 1000) (ν : Nat) : (zsaid A t m k ν).natAbs ≤ 1003000000 := by
  have h1 := zsd_rg h (t := t) hm hk ν (tl A t)
  have h2 := (Inv_tl h ht).2
  unfold zsaid
  omega
/-- all sights' fit -/
def aν (A : jm_I) (t m : Nat) : Nat := fν A t m (zall (zN A))
theorem aν_rg {A : jm_I} (h : Inv A) {t : Nat} (ht : t < 8) (m : Nat) : aν A t m < 343 := fν_rg h ht m _
/-- how far apart two tables are -/
def zgp (A : jm_I) (t u m k : Nat) : Int := zab (zsaid A t m k (aν A t m) - zsaid A u m k (aν A u m))
theorem zgp_rg {A : jm_I} (h : Inv A) {t u m k : Nat} (ht : t < 8) (hu : u < 8) (hm : m < 4) (hk : k < 1000) : 0 ≤ zgp A t u m k ∧ zgp A t u m k ≤ 2006000000 := by
  have h1 := zsaid_rg h ht hm hk (aν A t m)
  have h2 := zsaid_rg h hu hm hk (aν A u m)
  unfold zgp zab
  omega
theorem m_findFits (n : Nat) (A : jm_I) (hA : Inv A) {m : Nat} (hm : m < 4) : ∀ (d u : Nat) (J : jm_I) (L : jm_L), u + d = zT A → Mod J A → (∀ t, t < u → J 142 t = nI (aν A t m)) → ∃ (K : jm_I) (L' : jm_L), FrS K J ∧ (∀ t, t < zT A → K 142 t = nI (aν A t m)) ∧ jE n rX10_findFits 2 [.ref 111, .int (nI m), .int (nI u)] [] J L = some (none, jS n K L') := by
  obtain ⟨eT, hT⟩ := Inv_T hA
  intro d
  induction d with
  | zero =>
    intro u J L hu hM hf
    have : u = zT A := by omega
    subst this
    have cc : nI (zT A) ≤ nI (zT A) := Int32.le_refl _
    refine ⟨J, L, FrS_0 J, hf, ?_⟩
    simp only [eX10_findFits_2, eX10_findFits_36, M29 hA hM, cc, if_true]
  | succ d ih =>
    intro u J L hu hM hf
    have huT : u < zT A := by omega
    have hu8 : u < 8 := by omega
    have cc : ¬ nI (zT A) ≤ nI u := nI_ge huT (by omega)
    have ma := m_allSights n J A L hA hM
    obtain ⟨K, L1, mi, b1, b2, b3, b4, b5⟩ := mF n J A L hA hM (zall (zN A)) huT hm
    have f1 : FrS (jm_u K 142 u (nI (aν A u m))) K := ⟨fun a ha => jm_u_ne _ _ _ (by omega), fun a _ _ _ _ _ p => jm_u_ne _ _ _ p, fun j _ _ => by rw [jm_u_ne _ _ _ (by decide)], fun j _ => by rw [jm_u_ne _ _ _ (by decide)], fun j _ => by rw [jm_u_ne _ _ _ (by decide)]⟩
    have f2 := FrS_t (FrM_S b1) f1
    obtain ⟨K', L', r1, r2, r3⟩ := ih (u + 1) (jm_u K 142 u (nI (aν A u m))) L1 (by omega) (Mod_fr hA hM f2) (fun t ht => by
      rw [jm_u_eq]
      by_cases e : t = u
      · rw [if_pos e, e]
      · rw [if_neg e, b1.m1 142 (by decide) (by decide) (by decide)]
        exact hf t (by omega))
    refine ⟨K', L', FrS_t f2 r1, r2, ?_⟩
    have hd0 : jE n rX10_findFits 2 [.ref 111, .int (nI m), .int (nI u)] [] J L = jE n rX10_findFits 10 [.ref 111, .int (nI m), .int (nI u)] [] J L := by
      simp only [eX10_findFits_2, M29 hA hM, cc, if_false]
    rw [hd0]
    have b3' : K 111 36 = nI (aν A u m) := b3
    simp only [eX10_findFits_10, ma, jB_s, jB_v, b5, b3', jLI_t, jLW_t, jLL_t, jLZ_t, jLA_t, hu8, nI_add]
    exact r3
theorem mFs (n : Nat) (J A : jm_I) (L : jm_L) (hA : Inv A) (hM : Mod J A) {m : Nat} (hm : m < 4) : ∃ (K : jm_I) (L' : jm_L), FrS K J ∧ (∀ t, t < zT A → K 142 t = nI (aν A t m)) ∧ jE n rX10_findFits 0 [.ref 111, .int (nI m), .null] [] J L = some (none, jS n K L') := by
  obtain ⟨K, L', r1, r2, r3⟩ := m_findFits n A hA hm (zT A) 0 J L (Nat.zero_add _) hM (fun t ht => absurd ht (by omega))
  refine ⟨K, L', r1, r2, ?_⟩
  simp only [eX10_findFits_0]
  exact r3
theorem m_apartAt (n : Nat) (K A : jm_I) (L : jm_L) (hA : Inv A) (hM : Mod K A) {t u m k : Nat} (ht : t < zT A) (hu : u < zT A) (hm : m < 4) (hk : k < 1000) (hf : ∀ t, t < zT A → K 142 t = nI (aν A t m)) : jE n rX10_apartAt 0 [.ref 111, .int (nI t), .int (nI u), .int (nI m), .int (nI k), .null, .null] [] K L = some (some (.long (lZ (zgp A t u m k))), jS n K L) := by
  have h8 := (Inv_T hA).2
  have ht8 : t < 8 := by omega
  have hu8 : u < 8 := by omega
  have r1 := aν_rg hA ht8 m
  have r2 := aν_rg hA hu8 m
  have m1 := m_saysOf n K A L hA hM ht hm hk (show aν A t m < 2147483648 by omega)
  have m2 := m_saysOf n K A L hA hM hu hm hk (show aν A u m < 2147483648 by omega)
  have h1 := zsaid_rg hA ht8 hm hk (aν A t m)
  have h2 := zsaid_rg hA hu8 hm hk (aν A u m)
  have hc : lN 0 ≤ lZ (zsaid A t m k (aν A t m) - zsaid A u m k (aν A u m)) ↔ 0 ≤ zsaid A t m k (aν A t m) - zsaid A u m k (aν A u m) := by
    rw [show lN 0 = lZ 0 from rfl]
    exact lZ_le ⟨by omega, by omega⟩ ⟨by omega, by omega⟩
  by_cases h0 : 0 ≤ zsaid A t m k (aν A t m) - zsaid A u m k (aν A u m)
  · have e : zgp A t u m k = zsaid A t m k (aν A t m) - zsaid A u m k (aν A u m) := by unfold zgp zab; omega
    rw [e]
    simp only [eX10_apartAt_0, eX10_apartAt_44, eX10_apartAt_46, jLI_t, jLW_t, jLL_t, jLZ_t, jLA_t, ht8, hu8, hf t ht, hf u hu, m1, m2, jB_s, lZ_sub, hc, h0, if_true]
  · have e : zgp A t u m k = -(zsaid A t m k (aν A t m) - zsaid A u m k (aν A u m)) := by unfold zgp zab; omega
    rw [e]
    simp only [eX10_apartAt_0, eX10_apartAt_38, eX10_apartAt_46, jLI_t, jLW_t, jLL_t, jLZ_t, jLA_t, ht8, hu8, hf t ht, hf u hu, m1, m2, jB_s, lZ_sub, hc, h0, if_false, lZ_neg]
/-- the first greatest -/
def fmx (g : Nat → Int) (a : Nat) : Nat → Nat
  | 0 => a
  | d + 1 => if g (fmx g a d) < g (a + d + 1) then a + d + 1 else fmx g a d
theorem fmx_r (g : Nat → Int) (a : Nat) : ∀ d, a ≤ fmx g a d ∧ fmx g a d ≤ a + d := by
  intro d
  induction d with
  | zero => exact ⟨Nat.le_refl _, Nat.le_refl _⟩
  | succ d ih => unfold fmx; split <;> omega
theorem c_further (n : Nat) (I A : jm_I) (L : jm_L) (hA : Inv A) (hE : E71 I A) {t u m a b : Nat} (ht : t < 8) (hu : u < 8) (hm : m < 4) (hb : b < 1000) (hab : a ≤ b) : jE n rX8_furthestApart 0 [.ref 10, .int (nI t), .int (nI (aν A t m)), .int (nI u), .int (nI (aν A u m)), .int (nI m), .int (nI a), .int (nI b), .null, .null, .null, .null, .null, .null] [] I L = some (some (.int (nI (fmx (zgp A t u m) a (b - a)))), jS n I L) := by
  have hI := E71_I hE hA
  have r1 := aν_rg hA ht m
  have r2 := aν_rg hA hu m
  have cg : ∀ k, k < 1000 → jE n rX8_said 0 [.ref 10, .int (nI t), .int (nI m), .int (nI k), .int (nI (aν A t m)), .null, .null, .null, .null, .null, .null, .null] [] I L = some (some (.long (lZ (zsaid A t m k (aν A t m)))), jS n I L) := fun k hk => by
    have := c_said n I L hI ht hm hk (show aν A t m < 2147483648 by omega)
    rw [E_zsaid hE] at this
    exact this
  have ch2 : ∀ k, k < 1000 → jE n rX8_said 0 [.ref 10, .int (nI u), .int (nI m), .int (nI k), .int (nI (aν A u m)), .null, .null, .null, .null, .null, .null, .null] [] I L = some (some (.long (lZ (zsaid A u m k (aν A u m)))), jS n I L) := fun k hk => by
    have := c_said n I L hI hu hm hk (show aν A u m < 2147483648 by omega)
    rw [E_zsaid hE] at this
    exact this
  have ea : ∀ k, k < 1000 → (if 0 < lZ (zsaid A t m k (aν A t m) - zsaid A u m k (aν A u m)) then lZ (zsaid A t m k (aν A t m) - zsaid A u m k (aν A u m)) else -lZ (zsaid A t m k (aν A t m) - zsaid A u m k (aν A u m))) = lZ (zgp A t u m k) := fun k hk => by
    have h1 := zsaid_rg hA ht hm hk (aν A t m)
    have h2 := zsaid_rg hA hu hm hk (aν A u m)
    exact labs (by omega)
  have hgb : ∀ k, k < 1000 → 0 ≤ zgp A t u m k ∧ zgp A t u m k ≤ 2006000000 := fun k hk => zgp_rg hA ht hu hm hk
  have key : ∀ (e d : Nat) (v12 v13 : Value), a + d + e = b → jE n rX8_furthestApart 13 [.ref 10, .int (nI t), .int (nI (aν A t m)), .int (nI u), .int (nI (aν A u m)), .int (nI m), .int (nI a), .int (nI b), .long (lZ (zgp A t u m (fmx (zgp A t u m) a d))), .null, .int (nI (fmx (zgp A t u m) a d)), .int (nI (a + d + 1)), v12, v13] [] I L = some (some (.int (nI (fmx (zgp A t u m) a (b - a)))), jS n I L) := by
    intro e
    induction e with
    | zero =>
      intro d v12 v13 hd
      have hdb : b - a = d := by omega
      have cc : nI b < nI (a + d + 1) := nI_lt (by omega) (by omega)
      rw [hdb]
      simp only [eX8_furthestApart_13, eX8_furthestApart_69, cc, if_true]
    | succ e ih =>
      intro d v12 v13 hd
      have hk : a + d + 1 < 1000 := by omega
      have cc : ¬ nI b < nI (a + d + 1) := fun w => by
        have := Int32.lt_iff_toInt_lt.mp w
        rw [nI_toInt (by omega), nI_toInt (by omega)] at this
        omega
      have hd0 : ∀ x y, jE n rX8_furthestApart 13 [.ref 10, .int (nI t), .int (nI (aν A t m)), .int (nI u), .int (nI (aν A u m)), .int (nI m), .int (nI a), .int (nI b), x, .null, y, .int (nI (a + d + 1)), v12, v13] [] I L = jE n rX8_furthestApart 20 [.ref 10, .int (nI t), .int (nI (aν A t m)), .int (nI u), .int (nI (aν A u m)), .int (nI m), .int (nI a), .int (nI b), x, .null, y, .int (nI (a + d + 1)), v12, v13] [] I L := by
        intro x y
        simp only [eX8_furthestApart_13, cc, if_false]
      rw [hd0]
      have hr := fmx_r (zgp A t u m) a d
      have b1 := hgb (a + d + 1) hk
      have b2 := hgb (fmx (zgp A t u m) a d) (by omega)
      have hc : lZ (zgp A t u m (a + d + 1)) ≤ lZ (zgp A t u m (fmx (zgp A t u m) a d)) ↔ zgp A t u m (a + d + 1) ≤ zgp A t u m (fmx (zgp A t u m) a d) := lZ_le ⟨by omega, by omega⟩ ⟨by omega, by omega⟩
      have ih2 := ih (d + 1)
      have ef : fmx (zgp A t u m) a (d + 1) = if zgp A t u m (fmx (zgp A t u m) a d) < zgp A t u m (a + d + 1) then a + d + 1 else fmx (zgp A t u m) a d := rfl
      rw [ef] at ih2
      by_cases hlt : zgp A t u m (fmx (zgp A t u m) a d) < zgp A t u m (a + d + 1)
      · rw [if_pos hlt] at ih2
        have hc2 : ¬ lZ (zgp A t u m (a + d + 1)) ≤ lZ (zgp A t u m (fmx (zgp A t u m) a d)) := fun w => by have := hc.mp w; omega
        simp only [eX8_furthestApart_20, eX8_furthestApart_55, eX8_furthestApart_63, cg _ hk, ch2 _ hk, jB_s, lZ_sub, ea _ hk, hc2, if_false, nI_add]
        exact ih2 _ _ (by omega)
      · rw [if_neg hlt] at ih2
        have hc2 : lZ (zgp A t u m (a + d + 1)) ≤ lZ (zgp A t u m (fmx (zgp A t u m) a d)) := hc.mpr (by omega)
        simp only [eX8_furthestApart_20, eX8_furthestApart_63, cg _ hk, ch2 _ hk, jB_s, lZ_sub, ea _ hk, hc2, if_true, nI_add]
        exact ih2 _ _ (by omega)
  have ha : a < 1000 := by omega
  have b1 := hgb a ha
  have cc : ¬ nI b < nI a := fun w => by
    have := Int32.lt_iff_toInt_lt.mp w
    rw [nI_toInt (by omega), nI_toInt (by omega)] at this
    omega
  have hc2 : ¬ lZ (zgp A t u m a) ≤ (-1 : Int64) := fun w => by
    rw [show (-1 : Int64) = lZ (-1) from by decide] at w
    have := (lZ_le (a := zgp A t u m a) (b := -1) ⟨by omega, by omega⟩ ⟨by omega, by omega⟩).mp w
    omega
  have k0 := key (b - a) 0
  have h0 : jE n rX8_furthestApart 0 [.ref 10, .int (nI t), .int (nI (aν A t m)), .int (nI u), .int (nI (aν A u m)), .int (nI m), .int (nI a), .int (nI b), .null, .null, .null, .null, .null, .null] [] I L = jE n rX8_furthestApart 20 [.ref 10, .int (nI t), .int (nI (aν A t m)), .int (nI u), .int (nI (aν A u m)), .int (nI m), .int (nI a), .int (nI b), .long (-1), .null, .int (nI a), .int (nI a), .null, .null] [] I L := by
    simp only [eX8_furthestApart_0, eX8_furthestApart_13, cc, if_false]
  rw [h0]
  simp only [eX8_furthestApart_20, eX8_furthestApart_55, eX8_furthestApart_63, cg _ ha, ch2 _ ha, jB_s, lZ_sub, ea _ ha, hc2, if_false, nI_add]
  exact k0 _ _ (by omega)
def pA (a b : Int32) : Int32 := if a < 0 ∨ b < 0 then -4 else 0
def pB (a b : Int32) : Int32 := if nI 999 < a ∨ nI 999 < b then -6 else 0
def pC (a b : Int32) : Int32 := if b < a then -3 else 0
theorem c_parts_a (n : Nat) (I : jm_I) (L : jm_L) (v0 v1 v2 v3 v7 v8 : Value) (a b x : Int32) : jE n rX9_parts 27 [v0, v1, v2, v3, .int a, .int b, .int x, v7, v8] [] I L = jE n rX9_parts 99 [v0, v1, v2, v3, .int a, .int b, .int (thn x (thn (pA a b) (thn (pB a b) (pC a b)))), v7, v8] [] I L := by
  have s1 : jE n rX9_parts 27 [v0, v1, v2, v3, .int a, .int b, .int x, v7, v8] [] I L = jE n rX9_parts 50 [v0, v1, v2, v3, .int a, .int b, .int (thn x (pA a b)), v7, v8] [] I L := by
    unfold pA
    by_cases h1 : a < 0
    · simp only [eX9_parts_0, eX9_parts_39, eX9_parts_45, h1, true_or, if_true, h_thn, jB_s]
    · by_cases h2 : b < 0
      · have h2' : ¬ 0 ≤ b := Int32.not_le.mpr h2
        simp only [eX9_parts_0, eX9_parts_34, eX9_parts_39, eX9_parts_45, h1, h2, h2', or_true, if_true, if_false, h_thn, jB_s]
      · have h2' : 0 ≤ b := Int32.not_lt.mp h2
        simp only [eX9_parts_0, eX9_parts_34, eX9_parts_44, eX9_parts_45, h1, h2, h2', or_self, if_true, if_false, h_thn, jB_s, n00]
  have s2 : ∀ x, jE n rX9_parts 50 [v0, v1, v2, v3, .int a, .int b, .int x, v7, v8] [] I L = jE n rX9_parts 79 [v0, v1, v2, v3, .int a, .int b, .int (thn x (pB a b)), v7, v8] [] I L := by
    intro x
    unfold pB
    by_cases h1 : nI 999 < a
    · simp only [eX9_parts_45, eX9_parts_68, eX9_parts_74, h1, true_or, if_true, h_thn, jB_s]
    · by_cases h2 : nI 999 < b
      · have h2' : ¬ b ≤ nI 999 := Int32.not_le.mpr h2
        simp only [eX9_parts_45, eX9_parts_60, eX9_parts_68, eX9_parts_74, h1, h2, h2', or_true, if_true, if_false, h_thn, jB_s]
      · have h2' : b ≤ nI 999 := Int32.not_lt.mp h2
        simp only [eX9_parts_45, eX9_parts_60, eX9_parts_73, eX9_parts_74, h1, h2, h2', or_self, if_true, if_false, h_thn, jB_s, n00]
  have s3 : ∀ x, jE n rX9_parts 79 [v0, v1, v2, v3, .int a, .int b, .int x, v7, v8] [] I L = jE n rX9_parts 99 [v0, v1, v2, v3, .int a, .int b, .int (thn x (pC a b)), v7, v8] [] I L := by
    intro x
    unfold pC
    by_cases h1 : b < a
    · have h2 : ¬ a ≤ b := Int32.not_le.mpr h1
      simp only [eX9_parts_74, eX9_parts_88, eX9_parts_94, h1, h2, if_true, if_false, h_thn, jB_s]
    · have h2 : a ≤ b := Int32.not_lt.mp h1
      simp only [eX9_parts_74, eX9_parts_93, eX9_parts_94, h1, h2, if_true, if_false, h_thn, jB_s, n00]
  rw [s1, s2, s3, thn_as, thn_as]
theorem m_parts_a (n : Nat) (I : jm_I) (L : jm_L) (v0 v1 v2 v3 v6 v7 v8 : Value) (a b : Int32) : jE n rX10_parts 30 [v0, v1, v2, v3, .int a, .int b, v6, v7, v8] [] I L = jE n rX10_parts 79 [v0, v1, v2, v3, .int a, .int b, v6, v7, v8] [.int (thn (pA a b) (thn (pB a b) (pC a b)))] I L := by
  have e4 : ¬ (-4 : Int32) = 0 := by decide
  have e6 : ¬ (-6 : Int32) = 0 := by decide
  by_cases hA : a < 0 ∨ b < 0
  · have : pA a b = -4 := by unfold pA; rw [if_pos hA]
    rw [this, thn_n e4]
    by_cases h1 : a < 0
    · simp only [eX10_parts_30, eX10_parts_40, h1, if_true]
    · have h2 : b < 0 := hA.resolve_left h1
      have h2' : ¬ 0 ≤ b := Int32.not_le.mpr h2
      simp only [eX10_parts_30, eX10_parts_35, eX10_parts_40, h1, h2', if_false]
  · have : pA a b = 0 := by unfold pA; rw [if_neg hA]
    rw [this, thn_0]
    have h1 : ¬ a < 0 := fun w => hA (Or.inl w)
    have h2 : 0 ≤ b := Int32.not_lt.mp (fun w => hA (Or.inr w))
    by_cases hB : nI 999 < a ∨ nI 999 < b
    · have : pB a b = -6 := by unfold pB; rw [if_pos hB]
      rw [this, thn_n e6]
      by_cases h3 : nI 999 < a
      · simp only [eX10_parts_30, eX10_parts_35, eX10_parts_45, eX10_parts_61, h1, h2, h3, if_true, if_false]
      · have h4 : ¬ b ≤ nI 999 := Int32.not_le.mpr (hB.resolve_left h3)
        simp only [eX10_parts_30, eX10_parts_35, eX10_parts_45, eX10_parts_53, eX10_parts_61, h1, h2, h3, h4, if_true, if_false]
    · have : pB a b = 0 := by unfold pB; rw [if_neg hB]
      rw [this, thn_0]
      have h3 : ¬ nI 999 < a := fun w => hB (Or.inl w)
      have h4 : b ≤ nI 999 := Int32.not_lt.mp (fun w => hB (Or.inr w))
      unfold pC
      by_cases hC : b < a
      · have h5 : ¬ a ≤ b := Int32.not_le.mpr hC
        simp only [eX10_parts_30, eX10_parts_35, eX10_parts_45, eX10_parts_53, eX10_parts_66, eX10_parts_73, h1, h2, h3, h4, h5, hC, if_true, if_false]
      · have h5 : a ≤ b := Int32.not_lt.mp hC
        simp only [eX10_parts_30, eX10_parts_35, eX10_parts_45, eX10_parts_53, eX10_parts_66, eX10_parts_78, h1, h2, h3, h4, h5, hC, if_true, if_false, n00]
theorem m_parts_l (n : Nat) (K A : jm_I) (L : jm_L) (hA : Inv A) (hM : Mod K A) {t u m a b : Nat} (ht : t < zT A) (hu : u < zT A) (hm : m < 4) (hb : b < 1000) (hab : a ≤ b) (hf : ∀ t, t < zT A → K 142 t = nI (aν A t m)) (v6 : Int32) : ∀ (e d : Nat), a + d + e = b → jE n rX10_parts 108 [.ref 111, .int (nI t), .int (nI u), .int (nI m), .int (nI a), .int (nI b), .int v6, .int (nI (fmx (zgp A t u m) a d)), .int (nI (a + d + 1))] [] K L = some (some (.int (nI (fmx (zgp A t u m) a (b - a)))), jS n K L) := by
  have h8 := (Inv_T hA).2
  intro e
  induction e with
  | zero =>
    intro d hd
    have hdb : b - a = d := by omega
    have cc : nI b < nI (a + d + 1) := nI_lt (by omega) (by omega)
    rw [hdb]
    simp only [eX10_parts_108, eX10_parts_152, cc, if_true]
  | succ e ih =>
    intro d hd
    have hk : a + d + 1 < 1000 := by omega
    have cc : ¬ nI b < nI (a + d + 1) := fun w => by
      have := Int32.lt_iff_toInt_lt.mp w
      rw [nI_toInt (by omega), nI_toInt (by omega)] at this
      omega
    have hd0 : ∀ y, jE n rX10_parts 108 [.ref 111, .int (nI t), .int (nI u), .int (nI m), .int (nI a), .int (nI b), .int v6, y, .int (nI (a + d + 1))] [] K L = jE n rX10_parts 115 [.ref 111, .int (nI t), .int (nI u), .int (nI m), .int (nI a), .int (nI b), .int v6, y, .int (nI (a + d + 1))] [] K L := by
      intro y
      simp only [eX10_parts_108, cc, if_false]
    rw [hd0]
    have hr := fmx_r (zgp A t u m) a d
    have hk2 : fmx (zgp A t u m) a d < 1000 := by omega
    have b1 := zgp_rg hA (show t < 8 by omega) (show u < 8 by omega) hm hk
    have b2 := zgp_rg hA (show t < 8 by omega) (show u < 8 by omega) hm hk2
    have m1 := m_apartAt n K A L hA hM ht hu hm hk hf
    have m2 := m_apartAt n K A L hA hM ht hu hm hk2 hf
    have hc : lZ (zgp A t u m (a + d + 1)) ≤ lZ (zgp A t u m (fmx (zgp A t u m) a d)) ↔ zgp A t u m (a + d + 1) ≤ zgp A t u m (fmx (zgp A t u m) a d) := lZ_le ⟨by omega, by omega⟩ ⟨by omega, by omega⟩
    have ih2 := ih (d + 1)
    have ef : fmx (zgp A t u m) a (d + 1) = if zgp A t u m (fmx (zgp A t u m) a d) < zgp A t u m (a + d + 1) then a + d + 1 else fmx (zgp A t u m) a d := rfl
    rw [ef] at ih2
    by_cases hlt : zgp A t u m (fmx (zgp A t u m) a d) < zgp A t u m (a + d + 1)
    · rw [if_pos hlt] at ih2
      have hc2 : ¬ lZ (zgp A t u m (a + d + 1)) ≤ lZ (zgp A t u m (fmx (zgp A t u m) a d)) := fun w => by have := hc.mp w; omega
      simp only [eX10_parts_115, eX10_parts_137, eX10_parts_144, m1, m2, jB_s, hc2, if_false, nI_add]
      exact ih2 (by omega)
    · rw [if_neg hlt] at ih2
      have hc2 : lZ (zgp A t u m (a + d + 1)) ≤ lZ (zgp A t u m (fmx (zgp A t u m) a d)) := hc.mpr (by omega)
      simp only [eX10_parts_115, eX10_parts_142, eX10_parts_144, m1, m2, jB_s, hc2, if_true, nI_add]
      exact ih2 (by omega)
theorem isZ_p (a b : Int32) : isZ (thn (pA a b) (thn (pB a b) (pC a b))) := isZ_thn (isZ_c isZ_4 isZ_0) (isZ_thn (isZ_c isZ_6 isZ_0) (isZ_c isZ_3 isZ_0))
theorem op_parts (n : Nat) (x y m a b : Int32) : Op n rX9_parts rX10_parts [.ref 9, .int x, .int y, .int m, .int a, .int b, .null, .null, .null] [.ref 111, .int x, .int y, .int m, .int a, .int b, .null, .null, .null] := by
  intro I L hI hM
  obtain ⟨eT, hT⟩ := Inv_T hI
  have e1 : ¬ (-1 : Int32) = 0 := by decide
  have c00 : jE n rX9_parts 0 [.ref 9, .int x, .int y, .int m, .int a, .int b, .null, .null, .null] [] I L = jE n rX9_parts 27 [.ref 9, .int x, .int y, .int m, .int a, .int b, .int (thn (inr x (nI (zT I))) (thn (inr y (nI (zT I))) (nmo I 13 m))), .null, .null] [] I L := by
    simp only [eX9_parts_0, h_noTable, h_noMoon, jB_s, h_thn, thn_as, eT]
  have c0 : jE n rX9_parts 0 [.ref 9, .int x, .int y, .int m, .int a, .int b, .null, .null, .null] [] I L = jE n rX9_parts 99 [.ref 9, .int x, .int y, .int m, .int a, .int b, .int (thn (inr x (nI (zT I))) (thn (inr y (nI (zT I))) (thn (nmo I 13 m) (thn (pA a b) (thn (pB a b) (pC a b)))))), .null, .null] [] I L := by
    rw [c00, c_parts_a, thn_as, thn_as]
  by_cases hx : 0 ≤ x ∧ x < nI (zT I)
  · by_cases hy : 0 ≤ y ∧ y < nI (zT I)
    · by_cases hm : mo I 13 m
      · rw [inr_t hx, inr_t hy, nmo_t hm, thn_0, thn_0, thn_0] at c0
        by_cases hz : thn (pA a b) (thn (pB a b) (pC a b)) = 0
        · have hz2 := hz
          rw [thn_eq0, thn_eq0] at hz2
          obtain ⟨z1, z2, z3⟩ := hz2
          have g1 : ¬ (a < 0 ∨ b < 0) := fun w => by unfold pA at z1; rw [if_pos w] at z1; exact absurd z1 (by decide)
          have g2 : ¬ (nI 999 < a ∨ nI 999 < b) := fun w => by unfold pB at z2; rw [if_pos w] at z2; exact absurd z2 (by decide)
          have g3 : ¬ b < a := fun w => by unfold pC at z3; rw [if_pos w] at z3; exact absurd z3 (by decide)
          have zr : ∀ q : Int32, ¬ q < 0 → ¬ nI 999 < q → rg q 0 999 := fun q p1 p2 => by
            rw [Int32.lt_iff_toInt_lt, show (0 : Int32).toInt = 0 from by decide] at p1
            rw [Int32.lt_iff_toInt_lt, show (nI 999).toInt = 999 from by decide] at p2
            exact ⟨by omega, by omega⟩
          obtain ⟨ka, ha, ea⟩ := rg_nI (k := 999) (by decide) (zr a (fun w => g1 (Or.inl w)) (fun w => g2 (Or.inl w)))
          obtain ⟨kb, hb, eb⟩ := rg_nI (k := 999) (by decide) (zr b (fun w => g1 (Or.inr w)) (fun w => g2 (Or.inr w)))
          obtain ⟨t, ht, et⟩ := ix (by omega) hx
          obtain ⟨u, hu, eu⟩ := ix (by omega) hy
          obtain ⟨k, hk, ek, -⟩ := mo_ix hm
          subst ea; subst eb; subst et; subst eu; subst ek
          have hab : ka ≤ kb := by
            rcases Nat.lt_or_ge kb ka with q | q
            · exact absurd (nI_lt q (by omega)) g3
            · exact q
          have ht8 : t < 8 := by omega
          have hu8 : u < 8 := by omega
          obtain ⟨I1, L1, a1, a2, a3, a4, a5, a6⟩ := cF n I I L hI (fun _ _ => rfl) (zall (zN I)) ht8 hk
          have hE1 := Fr_E a1 (fun _ _ => rfl)
          obtain ⟨I2, L2, b1, b2, b3, b4, b5, b6⟩ := cF n I1 I L1 hI hE1 (zall (zN I)) hu8 hk
          have a4' : jE n rX0_fitNumbers 0 [.ref (fB t), .null, .null, .null] [] I1 L1 = some (some (.int (nI (aν I t k))), jS n I1 L1) := a4
          have b4' : jE n rX0_fitNumbers 0 [.ref (fB u), .null, .null, .null] [] I2 L2 = some (some (.int (nI (aν I u k))), jS n I2 L2) := b4
          have s1 := c_allSights n I L hI
          have s2 := c_allSights n I1 L1 (E71_I hE1 hI)
          rw [E_zN hE1] at s2
          have fC := FrC_t (FrC_F ht8 a1) (FrC_F hu8 b1)
          have hM2 := FrC_M hM fC
          have cf := c_further n I2 I L2 hI (FrC_E fC) ht8 hu8 hk (show kb < 1000 by omega) hab
          obtain ⟨K, L3, d1, d2, d3⟩ := mFs n I2 I L2 hI hM2 hk
          have hMK := Mod_fr hI hM2 d1
          have ml := m_parts_l n K I L3 hI hMK ht hu hk (show kb < 1000 by omega) hab d2 0 (kb - ka) 0 (by omega)
          refine ⟨.int (nI (fmx (zgp I t u k) ka (kb - ka))), I2, L2, K, L3, ?_, ?_, Op_scr hI hM fC d1⟩
          · rw [c0, hz]
            simp [eX9_parts_94, eX9_parts_111, s1, s2, jB_s, a3, ht8, hu8, a4', b3, b4', cf]
          · have m0 : jE n rX10_parts 0 [.ref 111, .int (nI t), .int (nI u), .int (nI k), .int (nI ka), .int (nI kb), .null, .null, .null] [] I2 L2 = jE n rX10_parts 30 [.ref 111, .int (nI t), .int (nI u), .int (nI k), .int (nI ka), .int (nI kb), .null, .null, .null] [] I2 L2 := by
              simp [eX10_parts_0, eX10_parts_8, eX10_parts_16, m_isTable, M29 hI hM2, inb_t hx, inb_t hy, jB_s, n10, m_isMoon, bmo_t ((Mod_mo hM2 _).mpr hm)]
            rw [m0, m_parts_a, hz]
            have m1 : jE n rX10_parts 79 [.ref 111, .int (nI t), .int (nI u), .int (nI k), .int (nI ka), .int (nI kb), .null, .null, .null] [.int 0] I2 L2 = jE n rX10_parts 108 [.ref 111, .int (nI t), .int (nI u), .int (nI k), .int (nI ka), .int (nI kb), .int 0, .int (nI ka), .int (nI (ka + 1))] [] K L3 := by
              simp only [eX10_parts_79, eX10_parts_93, if_true, d3, jB_v, nI_add]
            rw [m1]
            exact ml
        · have hr := isR_of (isZ_p a b) hz
          refine Op_ref hI hM (.int (thn (pA a b) (thn (pB a b) (pC a b)))) (thn (pA a b) (thn (pB a b) (pC a b))) ?_ ?_
          · rw [c0]
            simp [eX9_parts_94, eX9_parts_104, hz, h_refuse n I L _ hr, jB_s]
          · have hJ := Mod_ref hM (thn (pA a b) (thn (pB a b) (pC a b)))
            have m0 : ∀ J : jm_I, Mod J I → jE n rX10_parts 0 [.ref 111, .int x, .int y, .int m, .int a, .int b, .null, .null, .null] [] J L = jE n rX10_parts 30 [.ref 111, .int x, .int y, .int m, .int a, .int b, .null, .null, .null] [] J L := by
              intro J hJ
              simp [eX10_parts_0, eX10_parts_8, eX10_parts_16, m_isTable, M29 hI hJ, inb_t hx, inb_t hy, jB_s, n10, m_isMoon, bmo_t ((Mod_mo hJ _).mpr hm)]
            rw [m0 _ hJ, m_parts_a]
            simp [eX10_parts_79, eX10_parts_86, hz, m_no n _ L _ hr, jB_s]
      · refine Op_ref hI hM (.int (-1)) (-1) ?_ ?_
        · rw [c0, inr_t hx, inr_t hy, nmo_f hm, thn_0, thn_0, thn_n e1]
          simp [eX9_parts_94, eX9_parts_104, h_refuse n I L (-1) (by simp [isR]), jB_s]
        · have hJ := Mod_ref hM (-1)
          simp [eX10_parts_0, eX10_parts_8, eX10_parts_16, eX10_parts_24, m_isTable, M29 hI hJ, inb_t hx, inb_t hy, jB_s, n10, n00t, m_isMoon, bmo_f (fun q => hm ((Mod_mo hJ _).mp q)), m_no n _ L (-1) (by simp [isR])]
    · refine Op_ref hI hM (.int (-1)) (-1) ?_ ?_
      · rw [c0, inr_t hx, inr_f hy, thn_0, thn_n e1]
        simp [eX9_parts_94, eX9_parts_104, h_refuse n I L (-1) (by simp [isR]), jB_s]
      · have hJ := Mod_ref hM (-1)
        simp [eX10_parts_0, eX10_parts_8, eX10_parts_24, m_isTable, M29 hI hJ, inb_t hx, inb_f hy, jB_s, n10, n00t, m_no n _ L (-1) (by simp [isR])]
  · refine Op_ref hI hM (.int (-1)) (-1) ?_ ?_
    · rw [c0, inr_f hx, thn_n e1]
      simp [eX9_parts_94, eX9_parts_104, h_refuse n I L (-1) (by simp [isR]), jB_s]
    · have hJ := Mod_ref hM (-1)
      simp [eX10_parts_0, eX10_parts_24, m_isTable, M29 hI hJ, inb_f hx, jB_s, n00t, m_no n _ L (-1) (by simp [isR])]
