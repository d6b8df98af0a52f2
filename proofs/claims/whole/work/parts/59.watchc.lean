/-! watch: the class -/
def fl2 (f0 : Nat → Int64) (b : Nat) (g : Nat → Int) (i : Nat) : Nat → Int64 := fun x => if b ≤ x ∧ x < b + i then lZ (g (x - b)) else f0 x
theorem fl2_0 (f0 : Nat → Int64) (b : Nat) (g : Nat → Int) : fl2 f0 b g 0 = f0 := by
  funext x
  unfold fl2
  rw [if_neg (by omega)]
theorem fl2_s (f0 : Nat → Int64) (b : Nat) (g : Nat → Int) (i : Nat) : vp_updL (fl2 f0 b g i) (b + i) (lZ (g i)) = fl2 f0 b g (i + 1) := by
  funext x
  rw [updL_ap]
  unfold fl2
  by_cases h : x = b + i
  · subst h
    rw [if_pos rfl, if_pos (by omega), show b + i - b = i by omega]
  · rw [if_neg h]
    by_cases h1 : b ≤ x ∧ x < b + i
    · rw [if_pos h1, if_pos (by omega)]
    · rw [if_neg h1, if_neg (by omega)]
theorem fl2_t (f0 : Nat → Int64) (b : Nat) (g : Nat → Int) {i j : Nat} (h : j < i) : fl2 f0 b g i (b + j) = lZ (g j) := by
  unfold fl2
  rw [if_pos (by omega), show b + j - b = j by omega]
theorem fl2_f (f0 : Nat → Int64) (b : Nat) (g : Nat → Int) {i x : Nat} (h : x < b ∨ b + i ≤ x) : fl2 f0 b g i x = f0 x := by
  unfold fl2
  rw [if_neg (by omega)]
theorem c_hear (n : Nat) (I A : jm_I) (L : jm_L) (hA : Inv A) (hE : E71 I A) {t m a N ν : Nat} (ht : t < 8) (hm : m < 4) (ha : a + N ≤ 1000) (hN : N ≤ 12) (hν : ν < 2147483648) : jE n rX7_hear 0 [.ref 107, .int (nI t), .int (nI m), .int (nI a), .int (nI N), .int (nI ν), .null] [] I L = some (none, jS n I (jm_uA L 108 (fl2 (L 108) (12 * t) (fun i => zsaid A t m (a + i) ν) N))) := by
  have hI := E71_I hE hA
  have key : ∀ (d i : Nat), i + d = N → jE n rX7_hear 3 [.ref 107, .int (nI t), .int (nI m), .int (nI a), .int (nI N), .int (nI ν), .int (nI i)] [] I (jm_uA L 108 (fl2 (L 108) (12 * t) (fun i => zsaid A t m (a + i) ν) i)) = some (none, jS n I (jm_uA L 108 (fl2 (L 108) (12 * t) (fun i => zsaid A t m (a + i) ν) N))) := by
    intro d
    induction d with
    | zero =>
      intro i hi
      have : i = N := by omega
      subst this
      have cc : nI i ≤ nI i := Int32.le_refl _
      simp only [eX7_hear_3, eX7_hear_43, cc, if_true]
    | succ d ih =>
      intro i hi
      have cc : ¬ nI N ≤ nI i := nI_ge (by omega) (by omega)
      have hd0 : ∀ M, jE n rX7_hear 3 [.ref 107, .int (nI t), .int (nI m), .int (nI a), .int (nI N), .int (nI ν), .int (nI i)] [] I M = jE n rX7_hear 10 [.ref 107, .int (nI t), .int (nI m), .int (nI a), .int (nI N), .int (nI ν), .int (nI i)] [] I M := by
        intro M
        simp only [eX7_hear_3, cc, if_false]
      rw [hd0]
      have hx : 12 * t + i < 96 := by omega
      have ex : t * 12 + i = 12 * t + i := by omega
      have cs := c_said n I (jm_uA L 108 (fl2 (L 108) (12 * t) (fun i => zsaid A t m (a + i) ν) i)) hI ht hm (show a + i < 1000 by omega) hν
      rw [E_zsaid hE] at cs
      have ih2 := ih (i + 1) (by omega)
      rw [← fl2_s] at ih2
      simp only [eX7_hear_10, pk_mul, nI_add, ex, cs, jB_s, jLI_t, jLW_t, jLL_t, jLZ_t, jLA_t, hx, uL_A]
      exact ih2
  have k0 := key N 0 (Nat.zero_add _)
  rw [fl2_0, lA_0] at k0
  simp only [eX7_hear_0]
  exact k0
/-- what is heard, and how far apart -/
def Hrd (H : Nat → Int64) (A : jm_I) (m a N T : Nat) : Prop := ∀ t i, t < T → i < N → H (12 * t + i) = lZ (zsaid A t m (a + i) (aν A t m))
def Gps (H : Nat → Int64) (A : jm_I) (m a N t u : Nat) : Prop := ∀ t' u' i, u' < t' → (t' < t ∨ (t' = t ∧ u' < u)) → i < N → H (12 * (pij t' + u') + i) = lZ (zgp A t' u' m (a + i))
theorem c_cmp_i (n : Nat) (I A : jm_I) (L : jm_L) (hA : Inv A) {t u m a N p : Nat} (ht : t < zT A) (hu : u < zT A) (hm : m < 4) (ha : a + N ≤ 1000) (hN : N ≤ 12) (hp : p < 28) (h4 : I 107 4 = nI p) (hH : Hrd (L 108) A m a N (zT A)) (f0 : Nat → Int64) : ∀ (d i : Nat), i + d = N → jE n rX7_compareTables 31 [.ref 107, .int (nI N), .int (nI t), .int (nI u), .int (nI i)] [] I (jm_uA L 109 (fl2 f0 (12 * p) (fun i => zgp A t u m (a + i)) i)) = jE n rX7_compareTables 86 [.ref 107, .int (nI N), .int (nI t), .int (nI u), .int (nI N)] [] I (jm_uA L 109 (fl2 f0 (12 * p) (fun i => zgp A t u m (a + i)) N)) := by
  have h8 := (Inv_T hA).2
  intro d
  induction d with
  | zero =>
    intro i hi
    have : i = N := by omega
    subst this
    have cc : nI i ≤ nI i := Int32.le_refl _
    simp only [eX7_compareTables_31, cc, if_true]
  | succ d ih =>
    intro i hi
    have hiN : i < N := by omega
    have cc : ¬ nI N ≤ nI i := nI_ge hiN (by omega)
    have hd0 : ∀ M, jE n rX7_compareTables 31 [.ref 107, .int (nI N), .int (nI t), .int (nI u), .int (nI i)] [] I M = jE n rX7_compareTables 37 [.ref 107, .int (nI N), .int (nI t), .int (nI u), .int (nI i)] [] I M := by
      intro M
      simp only [eX7_compareTables_31, cc, if_false]
    rw [hd0]
    have hx : 12 * p + i < 336 := by omega
    have ex : p * 12 + i = 12 * p + i := by omega
    have hy : 12 * t + i < 96 := by omega
    have ey : t * 12 + i = 12 * t + i := by omega
    have hz : 12 * u + i < 96 := by omega
    have ez : u * 12 + i = 12 * u + i := by omega
    have q1 : jm_uA L 109 (fl2 f0 (12 * p) (fun i => zgp A t u m (a + i)) i) 108 (12 * t + i) = lZ (zsaid A t m (a + i) (aν A t m)) := by rw [lA_ne _ _ (by decide)]; exact hH t i ht hiN
    have q2 : jm_uA L 109 (fl2 f0 (12 * p) (fun i => zgp A t u m (a + i)) i) 108 (12 * u + i) = lZ (zsaid A u m (a + i) (aν A u m)) := by rw [lA_ne _ _ (by decide)]; exact hH u i hu hiN
    have hk : a + i < 1000 := by omega
    have h1 := zsaid_rg hA (show t < 8 by omega) hm hk (aν A t m)
    have h2 := zsaid_rg hA (show u < 8 by omega) hm hk (aν A u m)
    have ea : (if 0 < lZ (zsaid A t m (a + i) (aν A t m) - zsaid A u m (a + i) (aν A u m)) then lZ (zsaid A t m (a + i) (aν A t m) - zsaid A u m (a + i) (aν A u m)) else -lZ (zsaid A t m (a + i) (aν A t m) - zsaid A u m (a + i) (aν A u m))) = lZ (zgp A t u m (a + i)) := labs (by omega)
    have ih2 := ih (i + 1) (by omega)
    rw [← fl2_s] at ih2
    simp only [eX7_compareTables_37, h4, pk_mul, nI_add, ex, ey, ez, jLI_t, jLW_t, jLL_t, jLZ_t, jLA_t, hx, hy, hz, q1, q2, lZ_sub, ea, uL_A]
    exact ih2
theorem jm_u_u (I : jm_I) (a k : Nat) (x y : Int32) : jm_u (jm_u I a k x) a k y = jm_u I a k y := by
  funext b j
  simp only [jm_u_ap, upd_ap]
  by_cases h : b = a
  · simp only [h, if_true, upd_ap]
    by_cases q : j = k <;> simp [q]
  · simp only [h, if_false]
theorem c_cmp_u (n : Nat) (I A : jm_I) (hA : Inv A) {t m a N : Nat} (ht : t < zT A) (hm : m < 4) (ha : a + N ≤ 1000) (hN : N ≤ 12) : ∀ (d u : Nat) (L : jm_L) (v4 : Value), u + d = t → Hrd (L 108) A m a N (zT A) → Gps (L 109) A m a N t u → ∃ (L' : jm_L) (w4 : Value), Hrd (L' 108) A m a N (zT A) ∧ Gps (L' 109) A m a N t t ∧ jE n rX7_compareTables 23 [.ref 107, .int (nI N), .int (nI t), .int (nI u), v4] [] (jm_u I 107 4 (nI (pij t + u))) L = jE n rX7_compareTables 102 [.ref 107, .int (nI N), .int (nI t), .int (nI t), w4] [] (jm_u I 107 4 (nI (pij t + t))) L' := by
  have h8 := (Inv_T hA).2
  intro d
  induction d with
  | zero =>
    intro u L v4 hu hH hG
    have : u = t := by omega
    subst this
    have cc : nI u ≤ nI u := Int32.le_refl _
    refine ⟨L, v4, hH, hG, ?_⟩
    simp only [eX7_compareTables_23, cc, if_true]
  | succ d ih =>
    intro u L v4 hu hH hG
    have hut : u < t := by omega
    have cc : ¬ nI t ≤ nI u := nI_ge hut (by omega)
    have hp : pij t + u < 28 := by
      have h1 := pij_lt hut (show t < 8 by omega)
      have h2 : pij 8 = 28 := rfl
      omega
    have hd0 : jE n rX7_compareTables 23 [.ref 107, .int (nI N), .int (nI t), .int (nI u), v4] [] (jm_u I 107 4 (nI (pij t + u))) L = jE n rX7_compareTables 31 [.ref 107, .int (nI N), .int (nI t), .int (nI u), .int (nI 0)] [] (jm_u I 107 4 (nI (pij t + u))) L := by
      simp only [eX7_compareTables_23, eX7_compareTables_28, cc, if_false]
    have h4 : jm_u I 107 4 (nI (pij t + u)) 107 4 = nI (pij t + u) := by rw [jm_u_eq, if_pos rfl]
    have ci := c_cmp_i n (jm_u I 107 4 (nI (pij t + u))) A L hA ht (show u < zT A by omega) hm ha hN hp h4 hH (L 109) N 0 (Nat.zero_add _)
    rw [fl2_0, lA_0] at ci
    have h1 : ∀ M, jE n rX7_compareTables 86 [.ref 107, .int (nI N), .int (nI t), .int (nI u), .int (nI N)] [] (jm_u I 107 4 (nI (pij t + u))) M = jE n rX7_compareTables 23 [.ref 107, .int (nI N), .int (nI t), .int (nI (u + 1)), .int (nI N)] [] (jm_u I 107 4 (nI (pij t + (u + 1)))) M := by
      intro M
      simp only [eX7_compareTables_86, h4, nI_add, jm_u_u]
      rfl
    obtain ⟨L', w4, r1, r2, r3⟩ := ih (u + 1) (jm_uA L 109 (fl2 (L 109) (12 * (pij t + u)) (fun i => zgp A t u m (a + i)) N)) (.int (nI N)) (by omega) (by rw [lA_ne _ _ (by decide)]; exact hH) (by
      rw [lA_eq]
      intro t' u' i hu' hq hi
      by_cases e : t' = t ∧ u' = u
      · obtain ⟨e1, e2⟩ := e
        subst e1; subst e2
        exact fl2_t _ _ _ hi
      · have hlt : pij t' + u' < pij t + u := by
          rcases hq with q | ⟨q1, q2⟩
          · have := pij_lt hu' q; omega
          · subst q1; omega
        rw [fl2_f _ _ _ (by omega)]
        exact hG t' u' i hu' (by omega) hi)
    refine ⟨L', w4, r1, r2, ?_⟩
    rw [hd0, ci, h1]
    exact r3
theorem c_cmp_t (n : Nat) (I A : jm_I) (hA : Inv A) (hE : E71 I A) {m a N : Nat} (hm : m < 4) (ha : a + N ≤ 1000) (hN : N ≤ 12) : ∀ (d t : Nat) (L : jm_L) (v3 v4 : Value), t + d = zT A → Hrd (L 108) A m a N (zT A) → Gps (L 109) A m a N t 0 → ∃ L' : jm_L, Gps (L' 109) A m a N (zT A) 0 ∧ jE n rX7_compareTables 7 [.ref 107, .int (nI N), .int (nI t), v3, v4] [] (jm_u I 107 4 (nI (pij t))) L = some (none, jS n (jm_u I 107 4 (nI (pij (zT A)))) L') := by
  obtain ⟨eT, h8⟩ := Inv_T hA
  have eI : ∀ x, jm_u I 107 4 x 35 2 = nI (zT A) := fun x => by rw [jm_u_ne _ _ _ (by decide), hE 35 (by decide)]; exact eT
  intro d
  induction d with
  | zero =>
    intro t L v3 v4 ht hH hG
    have : t = zT A := by omega
    subst this
    have cc : nI (zT A) ≤ nI (zT A) := Int32.le_refl _
    refine ⟨L, hG, ?_⟩
    simp only [eX7_compareTables_7, eX7_compareTables_108, eI, cc, if_true]
  | succ d ih =>
    intro t L v3 v4 ht hH hG
    have cc : ¬ nI (zT A) ≤ nI t := nI_ge (by omega) (by omega)
    have hd0 : jE n rX7_compareTables 7 [.ref 107, .int (nI N), .int (nI t), v3, v4] [] (jm_u I 107 4 (nI (pij t))) L = jE n rX7_compareTables 23 [.ref 107, .int (nI N), .int (nI t), .int (nI 0), v4] [] (jm_u I 107 4 (nI (pij t + 0))) L := by
      simp only [eX7_compareTables_7, eX7_compareTables_21, eI, cc, if_false, Nat.add_zero]
    obtain ⟨L1, w4, r1, r2, r3⟩ := c_cmp_u n I A hA (show t < zT A by omega) hm ha hN t 0 L v4 (Nat.zero_add _) hH hG
    have h1 : jE n rX7_compareTables 102 [.ref 107, .int (nI N), .int (nI t), .int (nI t), w4] [] (jm_u I 107 4 (nI (pij t + t))) L1 = jE n rX7_compareTables 7 [.ref 107, .int (nI N), .int (nI (t + 1)), .int (nI t), w4] [] (jm_u I 107 4 (nI (pij (t + 1)))) L1 := by
      simp only [eX7_compareTables_102, nI_add]
      rfl
    obtain ⟨L', q1, q2⟩ := ih (t + 1) L1 (.int (nI t)) w4 (by omega) r1 (fun t' u' i hu' hq hi => r2 t' u' i hu' (by omega) hi)
    refine ⟨L', q1, ?_⟩
    rw [hd0, r3, h1]
    exact q2
theorem c_compare (n : Nat) (I A : jm_I) (L : jm_L) (hA : Inv A) (hE : E71 I A) {m a N : Nat} (hm : m < 4) (ha : a + N ≤ 1000) (hN : N ≤ 12) (hH : Hrd (L 108) A m a N (zT A)) : ∃ L' : jm_L, Gps (L' 109) A m a N (zT A) 0 ∧ jE n rX7_compareTables 0 [.ref 107, .int (nI N), .null, .null, .null] [] I L = some (none, jS n (jm_u I 107 4 (nI (pij (zT A)))) L') := by
  obtain ⟨L', q1, q2⟩ := c_cmp_t n I A hA hE hm ha hN (zT A) 0 L .null .null (Nat.zero_add _) hH (fun t' u' i hu' hq hi => by omega)
  refine ⟨L', q1, ?_⟩
  simp only [eX7_compareTables_0]
  exact q2
theorem c_pick (n : Nat) (I : jm_I) (L : jm_L) {S N : Nat} (hN : N ≤ 12) : ∃ R : Nat → Int32, (∀ b, b < N → S.testBit b = true → cnt S b < 4 → R (cnt S b) = nI b) ∧ jE n rX7_pick 0 [.ref 107, .int (nI S), .int (nI N), .null, .null] [] I L = some (none, jS n (jm_uA I 110 R) L) := by
  have key : ∀ (d i : Nat) (R : Nat → Int32), i + d = N → cnt S i ≤ 4 → (∀ b, b < i → S.testBit b = true → R (cnt S b) = nI b) → ∃ R' : Nat → Int32, (∀ b, b < N → S.testBit b = true → cnt S b < 4 → R' (cnt S b) = nI b) ∧ jE n rX7_pick 5 [.ref 107, .int (nI S), .int (nI N), .int (nI (cnt S i)), .int (nI i)] [] (jm_uA I 110 R) L = some (none, jS n (jm_uA I 110 R') L) := by
    intro d
    induction d with
    | zero =>
      intro i R hi h4 hR
      have : i = N := by omega
      subst this
      have cc : nI i ≤ nI i := Int32.le_refl _
      refine ⟨R, fun b hb ht _ => hR b hb ht, ?_⟩
      simp only [eX7_pick_5, eX7_pick_43, cc, if_true]
    | succ d ih =>
      intro i R hi h4 hR
      have cc : ¬ nI N ≤ nI i := nI_ge (by omega) (by omega)
      have hd0 : jE n rX7_pick 5 [.ref 107, .int (nI S), .int (nI N), .int (nI (cnt S i)), .int (nI i)] [] (jm_uA I 110 R) L = jE n rX7_pick 11 [.ref 107, .int (nI S), .int (nI N), .int (nI (cnt S i)), .int (nI i)] [] (jm_uA I 110 R) L := by
        simp only [eX7_pick_5, cc, if_false]
      rw [hd0]
      by_cases h44 : cnt S i = 4
      · refine ⟨R, fun b hb ht hc => ?_, ?_⟩
        · refine hR b ?_ ht
          rcases Nat.lt_or_ge b i with q | q
          · exact q
          · have := cnt_mono S (b - i) i
            rw [show i + (b - i) = b by omega] at this
            omega
        · rw [h44]
          have c4 : nI 4 ≤ nI 4 := Int32.le_refl _
          simp only [eX7_pick_11, eX7_pick_43, c4, if_true]
      · have c4 : ¬ nI 4 ≤ nI (cnt S i) := nI_ge (by omega) (by decide)
        have hb := ib (S := S) (k := i) (by omega)
        have hk : cnt S i < 4 := by omega
        by_cases q : S.testBit i = true
        · rw [if_pos q] at hb
          obtain ⟨R', r1, r2⟩ := ih (i + 1) (upd R (cnt S i) (nI i)) (by omega) (by rw [cnt_t q]; omega) (fun b hb ht => by
            rw [upd_ap]
            by_cases e : b = i
            · subst e; rw [if_pos rfl]
            · have := cnt_lt ht (show b < i by omega)
              rw [if_neg (by omega)]
              exact hR b (by omega) ht)
          refine ⟨R', r1, ?_⟩
          rw [cnt_t q] at r2
          simp only [eX7_pick_11, eX7_pick_16, eX7_pick_26, eX7_pick_37, c4, if_false, hb, not_true_eq_false, jLI_t, jLW_t, jLL_t, jLZ_t, jLA_t, hk, iA_u, nI_add]
          exact r2
        · rw [if_neg q] at hb
          have n01 : ¬ nI 0 = nI 1 := by decide
          obtain ⟨R', r1, r2⟩ := ih (i + 1) R (by omega) (by rw [cnt_f q]; omega) (fun b hb ht => hR b (by
            by_cases e : b = i
            · subst e; exact absurd ht q
            · omega) ht)
          refine ⟨R', r1, ?_⟩
          rw [cnt_f q] at r2
          simp only [eX7_pick_11, eX7_pick_16, eX7_pick_37, c4, if_false, hb, n01, not_false_eq_true, if_true, nI_add]
          exact r2
  obtain ⟨R, r1, r2⟩ := key N 0 (I 110) (Nat.zero_add _) (Nat.zero_le _) (fun b hb => absurd hb (by omega))
  rw [iA_0] at r2
  refine ⟨R, r1, ?_⟩
  simp only [eX7_pick_0]
  exact r2
theorem emx {x y : Int} (hx : x.natAbs < 9000000000000000000) (hy : y.natAbs < 9000000000000000000) : (if lZ y < lZ x then lZ x else lZ y) = lZ (if x < y then y else x) := by
  have hc : lZ y < lZ x ↔ y < x := lZ_lt ⟨by omega, by omega⟩ ⟨by omega, by omega⟩
  by_cases h : y < x
  · rw [if_pos (hc.mpr h), if_neg (by omega)]
  · rw [if_neg (fun w => h (hc.mp w))]
    by_cases q : x < y
    · rw [if_pos q]
    · rw [if_neg q]; congr 1; omega
theorem c_gap_i (n : Nat) (I A : jm_I) (L : jm_L) (hA : Inv A) {t u m a N S nn : Nat} (ht : t < zT A) (hu : u < t) (hm : m < 4) (ha : a + N ≤ 1000) (hN : N ≤ 12) (hS : S < 2 ^ N) (hn : cnt S N = nn) (hn4 : nn ≤ 4) (hG : Gps (L 109) A m a N (zT A) 0) (hpk : ∀ b, b < N → S.testBit b = true → cnt S b < 4 → I 110 (cnt S b) = nI b) (v2 : Value) : ∀ (d i k : Nat), i + d = nn → cnt S k = i → k ≤ N → jE n rX7_gapsOfPicked 20 [.ref 107, .int (nI nn), v2, .null, .int (nI (pij t + u)), .long (lZ (wmx (fun k => zgp A t u m (a + k)) S k)), .null, .int (nI i)] [] I L = jE n rX7_gapsOfPicked 57 [.ref 107, .int (nI nn), v2, .null, .int (nI (pij t + u)), .long (lZ (wmx (fun k => zgp A t u m (a + k)) S 12)), .null, .int (nI nn)] [] I L := by
  have h8 := (Inv_T hA).2
  have hp : pij t + u < 28 := by
    have h1 := pij_lt hu (show t < 8 by omega)
    have h2 : pij 8 = 28 := rfl
    omega
  intro d
  induction d with
  | zero =>
    intro i k hi hk hkN
    have : i = nn := by omega
    subst this
    have e : wmx (fun k => zgp A t u m (a + k)) S 12 = wmx (fun k => zgp A t u m (a + k)) S k := by
      rw [wmx_hi hS hN]
      exact wmx_e (by omega)
    rw [e]
    have cc : nI i ≤ nI i := Int32.le_refl _
    simp only [eX7_gapsOfPicked_20, cc, if_true]
  | succ d ih =>
    intro i k hi hk hkN
    have hin : i < nn := by omega
    have hi4 : i < 4 := by omega
    have cc : ¬ nI nn ≤ nI i := nI_ge hin (by omega)
    obtain ⟨b, hb, htb, hcb⟩ := cnt_surj S N i (by omega)
    have hd0 : ∀ x, jE n rX7_gapsOfPicked 20 [.ref 107, .int (nI nn), v2, .null, .int (nI (pij t + u)), x, .null, .int (nI i)] [] I L = jE n rX7_gapsOfPicked 26 [.ref 107, .int (nI nn), v2, .null, .int (nI (pij t + u)), x, .null, .int (nI i)] [] I L := by
      intro x
      simp only [eX7_gapsOfPicked_20, cc, if_false]
    rw [hd0]
    have e110 : I 110 i = nI b := by rw [← hcb]; exact hpk b hb htb (by omega)
    have e109 := hG t u b hu (Or.inl ht) hb
    have hx : 12 * (pij t + u) + b < 336 := by omega
    have ex : (pij t + u) * 12 + b = 12 * (pij t + u) + b := by omega
    have ew : wmx (fun k => zgp A t u m (a + k)) S k = wmx (fun k => zgp A t u m (a + k)) S b := wmx_e (by omega)
    have hwb := wmx_rg (gN_rg hA (show t < 8 by omega) (show u < 8 by omega) hm ha) S b (by omega)
    have hgb := gN_rg hA (show t < 8 by omega) (show u < 8 by omega) hm ha b hb
    have em := emx (x := wmx (fun k => zgp A t u m (a + k)) S b) (y := zgp A t u m (a + b)) (by omega) (by omega)
    have ih2 := ih (i + 1) (b + 1) (by omega) (by rw [cnt_t htb]; omega) (by omega)
    rw [wmx_t htb] at ih2
    rw [ew]
    simp only [eX7_gapsOfPicked_26, pk_mul, jLI_t, jLW_t, jLL_t, jLZ_t, jLA_t, hi4, e110, nI_add, ex, hx, e109, em]
    exact ih2
theorem c_gap_u (n : Nat) (I A : jm_I) (L : jm_L) (hA : Inv A) {t m a N S nn : Nat} (ht : t < zT A) (hm : m < 4) (ha : a + N ≤ 1000) (hN : N ≤ 12) (hS : S < 2 ^ N) (hn : cnt S N = nn) (hn4 : nn ≤ 4) (h4 : I 107 4 = nI (pij (zT A))) (hG : Gps (L 109) A m a N (zT A) 0) (hpk : ∀ b, b < N → S.testBit b = true → cnt S b < 4 → I 110 (cnt S b) = nI b) : ∀ (d u : Nat) (v5 v6 v7 : Value), u + d = t → ∃ w5 w6 w7 : Value, jE n rX7_gapsOfPicked 5 [.ref 107, .int (nI nn), .long (lZ (wst A m a S t + wsu A m a S t u)), .null, .int (nI (pij t + u)), v5, v6, v7] [] I L = jE n rX7_gapsOfPicked 5 [.ref 107, .int (nI nn), .long (lZ (wst A m a S (t + 1))), .null, .int (nI (pij (t + 1))), w5, w6, w7] [] I L := by
  have h8 := (Inv_T hA).2
  have hb28 := pij_28 h8
  intro d
  induction d with
  | zero =>
    intro u v5 v6 v7 hu
    have : u = t := by omega
    subst this
    exact ⟨v5, v6, v7, rfl⟩
  | succ d ih =>
    intro u v5 v6 v7 hu
    have hut : u < t := by omega
    have hlt : pij t + u < pij (zT A) := pij_lt hut ht
    have cc : ¬ nI (pij (zT A)) ≤ nI (pij t + u) := nI_ge hlt (by omega)
    have ci := c_gap_i n I A L hA ht hut hm ha hN hS hn hn4 hG hpk (.long (lZ (wst A m a S t + wsu A m a S t u))) nn 0 0 (Nat.zero_add _) rfl (Nat.zero_le _)
    have hd0 : jE n rX7_gapsOfPicked 5 [.ref 107, .int (nI nn), .long (lZ (wst A m a S t + wsu A m a S t u)), .null, .int (nI (pij t + u)), v5, v6, v7] [] I L = jE n rX7_gapsOfPicked 20 [.ref 107, .int (nI nn), .long (lZ (wst A m a S t + wsu A m a S t u)), .null, .int (nI (pij t + u)), .long (lZ (wmx (fun k => zgp A t u m (a + k)) S 0)), .null, .int (nI 0)] [] I L := by
      simp only [eX7_gapsOfPicked_5, eX7_gapsOfPicked_14, h4, cc, if_false]
      rfl
    have h1 : jE n rX7_gapsOfPicked 57 [.ref 107, .int (nI nn), .long (lZ (wst A m a S t + wsu A m a S t u)), .null, .int (nI (pij t + u)), .long (lZ (wmx (fun k => zgp A t u m (a + k)) S 12)), .null, .int (nI nn)] [] I L = jE n rX7_gapsOfPicked 5 [.ref 107, .int (nI nn), .long (lZ (wst A m a S t + wsu A m a S t (u + 1))), .null, .int (nI (pij t + (u + 1))), .long (lZ (wmx (fun k => zgp A t u m (a + k)) S 12)), .null, .int (nI nn)] [] I L := by
      have e : wst A m a S t + wsu A m a S t (u + 1) = wst A m a S t + wsu A m a S t u + wmx (fun k => zgp A t u m (a + k)) S 12 := by
        show wst A m a S t + (wsu A m a S t u + wmx (fun k => zgp A t u m (a + k)) S 12) = _
        omega
      rw [e]
      simp only [eX7_gapsOfPicked_57, lZ_add, nI_add]
      rfl
    obtain ⟨w5, w6, w7, r⟩ := ih (u + 1) (.long (lZ (wmx (fun k => zgp A t u m (a + k)) S 12))) .null (.int (nI nn)) (by omega)
    exact ⟨w5, w6, w7, by rw [hd0, ci, h1]; exact r⟩
theorem c_gaps (n : Nat) (I A : jm_I) (L : jm_L) (hA : Inv A) {m a N S nn : Nat} (hm : m < 4) (ha : a + N ≤ 1000) (hN : N ≤ 12) (hS : S < 2 ^ N) (hn : cnt S N = nn) (hn4 : nn ≤ 4) (h4 : I 107 4 = nI (pij (zT A))) (hG : Gps (L 109) A m a N (zT A) 0) (hpk : ∀ b, b < N → S.testBit b = true → cnt S b < 4 → I 110 (cnt S b) = nI b) : jE n rX7_gapsOfPicked 0 [.ref 107, .int (nI nn), .null, .null, .null, .null, .null, .null] [] I L = some (some (.long (lZ (wv A m a S))), jS n I L) := by
  have h8 := (Inv_T hA).2
  have key : ∀ (d t : Nat) (v5 v6 v7 : Value), t + d = zT A → jE n rX7_gapsOfPicked 5 [.ref 107, .int (nI nn), .long (lZ (wst A m a S t)), .null, .int (nI (pij t)), v5, v6, v7] [] I L = some (some (.long (lZ (wv A m a S))), jS n I L) := by
    intro d
    induction d with
    | zero =>
      intro t v5 v6 v7 ht
      have : t = zT A := by omega
      subst this
      have cc : nI (pij (zT A)) ≤ nI (pij (zT A)) := Int32.le_refl _
      simp only [eX7_gapsOfPicked_5, eX7_gapsOfPicked_68, h4, cc, if_true]
      rfl
    | succ d ih =>
      intro t v5 v6 v7 ht
      obtain ⟨w5, w6, w7, r⟩ := c_gap_u n I A L hA (show t < zT A by omega) hm ha hN hS hn hn4 h4 hG hpk t 0 v5 v6 v7 (Nat.zero_add _)
      have e : wst A m a S t + wsu A m a S t 0 = wst A m a S t := Int.add_zero _
      rw [e, Nat.add_zero] at r
      rw [r]
      exact ih (t + 1) w5 w6 w7 (by omega)
  simp only [eX7_gapsOfPicked_0]
  exact key (zT A) 0 .null .null .null (Nat.zero_add _)
