/-! what came to a holder -/
def hasF (A : jm_I) (h : Nat) (d : Int32) : Nat → Int64
  | 0 => lN 0
  | s + 1 => if ¬ A 34 (4 * s + h) = -9 ∧ A 34 (4 * s + h) ≤ d then hasF A h d s ||| (lN 1 <<< ((nI s).toInt64 &&& 63)) else hasF A h d s
theorem c_came_loop (n : Nat) (I : jm_I) (L : jm_L) {h N : Nat} (d : Int32) (hh : h < 4) (hN : N ≤ 40) (e8 : I 26 8 = nI N) : ∀ (k i : Nat) (w : Value), i + k = N → jE n rX3_cameTo 5 [.ref 26, .int (nI h), .int d, .long (hasF I h d i), .null, .int (nI i), w] [] I L = some (some (.long (hasF I h d N)), jS n I L) := by
  intro k
  induction k with
  | zero =>
    intro i w hi
    have : i = N := by omega
    subst this
    have c : nI i ≤ nI i := Int32.le_refl _
    simp only [eX3_cameTo_5, eX3_cameTo_53, e8, c, if_true]
  | succ k ih =>
    intro i w hi
    have c : ¬ nI N ≤ nI i := nI_ge (by omega) (by omega)
    have hx : 4 * i + h < 160 := by omega
    have ex : i * 4 + h = 4 * i + h := by omega
    have ih2 := ih (i + 1)
    have hd0 : jE n rX3_cameTo 5 [.ref 26, .int (nI h), .int d, .long (hasF I h d i), .null, .int (nI i), w] [] I L = jE n rX3_cameTo 14 [.ref 26, .int (nI h), .int d, .long (hasF I h d i), .null, .int (nI i), w] [] I L := by
      simp only [eX3_cameTo_5, e8, c, if_false]
    rw [hd0]
    by_cases h1 : I 34 (4 * i + h) = -9
    · have e : hasF I h d (i + 1) = hasF I h d i := by simp [hasF, h1]
      rw [e] at ih2
      simp only [eX3_cameTo_14, eX3_cameTo_34, eX3_cameTo_40, eX3_cameTo_47, if_false, pk_mul, nI_add, jLI_t, jLW_t, jLL_t, jLZ_t, jLA_t, hx, ex, h1, if_true]
      exact ih2 _ (by omega)
    · by_cases h2 : I 34 (4 * i + h) ≤ d
      · have e : hasF I h d (i + 1) = hasF I h d i ||| (lN 1 <<< ((nI i).toInt64 &&& 63)) := by simp [hasF, h1, h2]
        rw [e] at ih2
        have h3 : ¬ d < I 34 (4 * i + h) := Int32.not_lt.mpr h2
        simp only [eX3_cameTo_14, eX3_cameTo_34, eX3_cameTo_40, eX3_cameTo_47, if_false, pk_mul, nI_add, jLI_t, jLW_t, jLL_t, jLZ_t, jLA_t, hx, ex, h1, h3]
        exact ih2 _ (by omega)
      · have e : hasF I h d (i + 1) = hasF I h d i := by simp [hasF, h1, h2]
        rw [e] at ih2
        have h3 : d < I 34 (4 * i + h) := Int32.not_le.mp h2
        simp only [eX3_cameTo_14, eX3_cameTo_34, eX3_cameTo_40, eX3_cameTo_47, if_false, pk_mul, nI_add, jLI_t, jLW_t, jLL_t, jLZ_t, jLA_t, hx, ex, h1, h3, if_true]
        exact ih2 _ (by omega)
theorem c_came (n : Nat) (I : jm_I) (L : jm_L) {h N : Nat} (d : Int32) (hh : h < 4) (hN : N ≤ 40) (e8 : I 26 8 = nI N) : jE n rX3_cameTo 0 [.ref 26, .int (nI h), .int d, .null, .null, .null, .null] [] I L = some (some (.long (hasF I h d N)), jS n I L) := by
  simp only [eX3_cameTo_0]
  exact c_came_loop n I L d hh hN e8 N 0 .null (by omega)
theorem i32b (x : Int32) : -2147483648 ≤ x.toInt ∧ x.toInt < 2147483648 := ⟨Int32.le_toInt x, Int32.toInt_lt x⟩
theorem lor0 (x : Int64) : x ||| lN 0 = x := Int64.or_zero
theorem m_has_cond {x d : Int32} (hx : x = -9 ∨ rg x 0 999) (hd : rg d 0 999) : (0 < dS x ∧ dS x ≤ d + nI 1) ↔ (¬ x = -9 ∧ x ≤ d) := by
  have ed : (d + nI 1).toInt = d.toInt + 1 := by
    rw [← iZ_toInt d, show nI 1 = iZ 1 from rfl, iZ_add, iZ_i (by have := hd.1; omega) (by have := hd.2; omega)]
    rw [iZ_i (i32b d).1 (i32b d).2]
  rcases hx with e | r
  · subst e
    have : dS (-9) = 0 := by simp [dS]
    rw [this]
    simp
  · have n9 : ¬ x = -9 := fun q => by rw [q] at r; exact absurd r.1 (by decide)
    have e : (dS x).toInt = x.toInt + 1 := by
      unfold dS
      rw [if_neg n9, ← iZ_toInt x, show (1 : Int32) = iZ 1 from rfl, iZ_add, iZ_i (by have := r.1; omega) (by have := r.2; omega)]
      rw [iZ_i (i32b x).1 (i32b x).2]
    rw [Int32.lt_iff_toInt_lt, Int32.le_iff_toInt_le, Int32.le_iff_toInt_le, ed, e]
    have := r.1
    simp only [n9, not_false_eq_true, true_and, show (0 : Int32).toInt = 0 from by decide]
    omega
theorem m_has_loop (n : Nat) (I A : jm_I) (L : jm_L) {h N : Nat} (d : Int32) (hh : h < 4) (hN : N ≤ 40) (hA : Inv A) (hM : Mod I A) (hz : N = zN A) (hd : rg d 0 999) (e20 : I 111 20 = nI N) : ∀ (k i : Nat), i + k = N → jE n rX10_hasOf 5 [.ref 111, .int (nI h), .int d, .long (hasF A h d i), .null, .int (nI i)] [] I L = some (some (.long (hasF A h d N)), jS n I L) := by
  intro k
  induction k with
  | zero =>
    intro i hi
    have : i = N := by omega
    subst this
    have c : nI i ≤ nI i := Int32.le_refl _
    simp only [eX10_hasOf_5, eX10_hasOf_64, e20, c, if_true]
  | succ k ih =>
    intro i hi
    have c : ¬ nI N ≤ nI i := nI_ge (by omega) (by omega)
    have hx : 40 * h + i < 160 := by omega
    have ew : I 143 (40 * h + i) = dS (A 34 (4 * i + h)) := Mod_s hM hh (by omega)
    have hc := m_has_cond (day_rg hA (j := 4 * i + h) (by omega)) hd
    have ih2 := ih (i + 1) (by omega)
    have hd0 : jE n rX10_hasOf 5 [.ref 111, .int (nI h), .int d, .long (hasF A h d i), .null, .int (nI i)] [] I L = jE n rX10_hasOf 14 [.ref 111, .int (nI h), .int d, .long (hasF A h d i), .null, .int (nI i)] [] I L := by
      simp only [eX10_hasOf_5, e20, c, if_false]
    rw [hd0]
    by_cases h1 : 0 < dS (A 34 (4 * i + h))
    · have h1' : ¬ dS (A 34 (4 * i + h)) ≤ 0 := Int32.not_le.mpr h1
      by_cases h2 : dS (A 34 (4 * i + h)) ≤ d + nI 1
      · have h3 : ¬ d + nI 1 < dS (A 34 (4 * i + h)) := Int32.not_lt.mpr h2
        have e : hasF A h d (i + 1) = hasF A h d i ||| (lN 1 <<< ((nI i).toInt64 &&& 63)) := by simp only [hasF]; rw [if_pos (hc.mp ⟨h1, h2⟩)]
        rw [e] at ih2
        simp only [eX10_hasOf_14, eX10_hasOf_30, eX10_hasOf_48, eX10_hasOf_55, eX10_hasOf_56, if_false, pk_mul, nI_add, jLI_t, jLW_t, jLL_t, jLZ_t, jLA_t, hx, ew, h1', h3]
        exact ih2
      · have h3 : d + nI 1 < dS (A 34 (4 * i + h)) := Int32.not_le.mp h2
        have e : hasF A h d (i + 1) = hasF A h d i := by simp only [hasF]; rw [if_neg (fun q => h2 (hc.mpr q).2)]
        rw [e] at ih2
        simp only [eX10_hasOf_14, eX10_hasOf_30, eX10_hasOf_48, eX10_hasOf_55, eX10_hasOf_56, if_false, pk_mul, nI_add, jLI_t, jLW_t, jLL_t, jLZ_t, jLA_t, hx, ew, h1', h3, if_true, lor0]
        exact ih2
    · have h1' : dS (A 34 (4 * i + h)) ≤ 0 := Int32.not_lt.mp h1
      have e : hasF A h d (i + 1) = hasF A h d i := by simp only [hasF]; rw [if_neg (fun q => h1 (hc.mpr q).1)]
      rw [e] at ih2
      simp only [eX10_hasOf_14, eX10_hasOf_30, eX10_hasOf_48, eX10_hasOf_55, eX10_hasOf_56, if_false, pk_mul, nI_add, jLI_t, jLW_t, jLL_t, jLZ_t, jLA_t, hx, ew, h1', if_true, lor0]
      exact ih2
theorem m_has (n : Nat) (I A : jm_I) (L : jm_L) {h : Nat} (d : Int32) (hh : h < 4) (hA : Inv A) (hM : Mod I A) (hd : rg d 0 999) : jE n rX10_hasOf 0 [.ref 111, .int (nI h), .int d, .null, .null, .null] [] I L = some (some (.long (hasF A h d (zN A))), jS n I L) := by
  obtain ⟨e8, hN⟩ := Inv_N hA
  have e20 : I 111 20 = nI (zN A) := by rw [← e8]; exact (hM.1 111 20).1 rfl
  simp only [eX10_hasOf_0]
  exact m_has_loop n I A L d hh hN hA hM rfl hd e20 (zN A) 0 (by omega)
theorem op_has (n : Nat) (h d : Int32) : Op n rX9_has rX10_has [.ref 9, .int h, .int d, .null] [.ref 111, .int h, .int d, .null] := by
  intro I L hI hM
  obtain ⟨e8, hN⟩ := Inv_N hI
  have e1 : ¬ (-1 : Int32) = 0 := by decide
  have c0 : jE n rX9_has 0 [.ref 9, .int h, .int d, .null] [] I L = jE n rX9_has 27 [.ref 9, .int h, .int d, .int (thn (inr h (nI 4)) (zout d (nI 0) (nI 999)))] [] I L := by
    by_cases hh : 0 ≤ h ∧ h < nI 4
    · simp [eX9_has_0, eX9_has_8, eX9_has_12, eX9_has_13, h_isWithin, hh, jB_s, n10, h_outside, h_thn, inr_t hh, n00]
    · simp [eX9_has_0, eX9_has_8, eX9_has_12, eX9_has_13, h_isWithin, hh, jB_s, h_outside, h_thn, inr_f hh, n00]
  by_cases hh : 0 ≤ h ∧ h < nI 4
  · by_cases hz : zout d (nI 0) (nI 999) = 0
    · obtain ⟨q, hq, eq⟩ := ix (by decide) hh
      subst eq
      have hd := rg_out (by decide) (by decide) hz
      refine ⟨.long (hasF I q d (zN I)), I, L, I, L, ?_, ?_, hI, hM⟩
      · rw [c0, inr_t hh, thn_0, hz]
        simp [eX9_has_13, eX9_has_39, eX9_has_51, c_came n I L d hq hN e8, jB_s]
      · simp [eX10_has_0, eX10_has_7, eX10_has_13, eX10_has_27, eX10_has_35, eX10_has_41, m_isHolder, inb_t hh, jB_s, n10, m_out, hz, m_has n I I L d hq hI hM hd]
    · have hr := isR_of (isZ_out d (nI 0) (nI 999)) hz
      refine Op_ref hI hM (.long (lr (zout d (nI 0) (nI 999)))) (zout d (nI 0) (nI 999)) ?_ ?_
      · rw [c0, inr_t hh, thn_0]
        simp [eX9_has_13, eX9_has_31, eX9_has_51, hz, h_refuseLong n I L _ hr, jB_s]
      · simp [eX10_has_0, eX10_has_7, eX10_has_13, eX10_has_27, eX10_has_35, eX10_has_41, m_isHolder, inb_t hh, jB_s, n10, m_out, hz, m_noLong n _ L _ hr]
  · refine Op_ref hI hM (.long (lr (-1))) (-1) ?_ ?_
    · rw [c0, inr_f hh, thn_n e1]
      simp [eX9_has_13, eX9_has_31, eX9_has_51, h_refuseLong n I L (-1) (Or.inl rfl), jB_s]
    · simp [eX10_has_0, eX10_has_7, eX10_has_13, eX10_has_27, eX10_has_35, eX10_has_41, m_isHolder, inb_f hh, jB_s, n00, m_noLong n _ L (-1) (Or.inl rfl)]
/-! takeBack -/
theorem c_sentOf (n : Nat) (I : jm_I) (L : jm_L) {s : Nat} (hs : s < 40) : ∃ c : Nat, c ≤ 4 ∧ (c = 0 ↔ ∀ q, q < 4 → I 34 (4 * s + q) = -9) ∧ jE n rX3_sentOf 0 [.ref 26, .int (nI s), .null, .null] [] I L = some (some (.int (nI c)), jS n I L) := by
  have e0 : s * 4 = 4 * s := by omega
  have x0 : 4 * s < 160 := by omega
  have x1 : 4 * s + 1 < 160 := by omega
  have x2 : 4 * s + 2 < 160 := by omega
  have x3 : 4 * s + 3 < 160 := by omega
  have all : (∀ q, q < 4 → I 34 (4 * s + q) = -9) ↔ (I 34 (4 * s) = -9 ∧ I 34 (4 * s + 1) = -9 ∧ I 34 (4 * s + 2) = -9 ∧ I 34 (4 * s + 3) = -9) := by
    constructor
    · intro h; exact ⟨h 0 (by decide), h 1 (by decide), h 2 (by decide), h 3 (by decide)⟩
    · rintro ⟨a, b, c, d⟩ q hq
      rcases (show q = 0 ∨ q = 1 ∨ q = 2 ∨ q = 3 by omega) with rfl | rfl | rfl | rfl <;> assumption
  rw [all]
  by_cases h0 : I 34 (4 * s) = -9 <;> by_cases h1 : I 34 (4 * s + 1) = -9 <;> by_cases h2 : I 34 (4 * s + 2) = -9 <;> by_cases h3 : I 34 (4 * s + 3) = -9
  all_goals
    refine ⟨(if I 34 (4 * s) = -9 then 0 else 1) + (if I 34 (4 * s + 1) = -9 then 0 else 1) + (if I 34 (4 * s + 2) = -9 then 0 else 1) + (if I 34 (4 * s + 3) = -9 then 0 else 1), ?_, ?_, ?_⟩
    · simp [h0, h1, h2, h3]
    · simp [h0, h1, h2, h3]
    · simp (decide := true) [eX3_sentOf_0, eX3_sentOf_4, eX3_sentOf_9, eX3_sentOf_25, eX3_sentOf_29, eX3_sentOf_30, eX3_sentOf_38, pk_mul, nI_add, e0, jLI_t, jLW_t, jLL_t, jLZ_t, jLA_t, x0, x1, x2, x3, h0, h1, h2, h3]
theorem m_isSent (n : Nat) (I A : jm_I) (L : jm_L) (hA : Inv A) (hM : Mod I A) {s : Nat} (hs : s < zN A) (hN : zN A ≤ 40) : ∃ b : Nat, (b = 0 ∨ b = 1) ∧ (b = 0 ↔ ∀ q, q < 4 → A 34 (4 * s + q) = -9) ∧ jE n rX10_isSent 0 [.ref 111, .int (nI s)] [] I L = some (some (.int (nI b)), jS n I L) := by
  have pos : ∀ q, q < 4 → (0 < dS (A 34 (4 * s + q)) ↔ ¬ A 34 (4 * s + q) = -9) := by
    intro q hq
    rcases day_rg hA (j := 4 * s + q) (by omega) with e | r
    · rw [e]; simp [dS]
    · have n9 : ¬ A 34 (4 * s + q) = -9 := fun qq => by rw [qq] at r; exact absurd r.1 (by decide)
      simp only [n9, not_false_eq_true, iff_true]
      unfold dS
      rw [if_neg n9, Int32.lt_iff_toInt_lt, ← iZ_toInt (A 34 (4 * s + q)), show (1 : Int32) = iZ 1 from rfl, iZ_add, iZ_i (by have := r.1; omega) (by have := r.2; omega), show (0 : Int32).toInt = 0 from by decide]
      have := r.1
      omega
  have w0 : I 143 s = dS (A 34 (4 * s + 0)) := by have := Mod_s hM (q := 0) (by decide) hs; simpa using this
  have w1 : I 143 (40 + s) = dS (A 34 (4 * s + 1)) := Mod_s hM (q := 1) (by decide) hs
  have w2 : I 143 (80 + s) = dS (A 34 (4 * s + 2)) := Mod_s hM (q := 2) (by decide) hs
  have w3 : I 143 (120 + s) = dS (A 34 (4 * s + 3)) := Mod_s hM (q := 3) (by decide) hs
  have x0 : s < 160 := by omega
  have x1 : 40 + s < 160 := by omega
  have x2 : 80 + s < 160 := by omega
  have x3 : 120 + s < 160 := by omega
  have p0 := pos 0 (by decide)
  have p1 := pos 1 (by decide)
  have p2 := pos 2 (by decide)
  have p3 := pos 3 (by decide)
  have all : (∀ q, q < 4 → A 34 (4 * s + q) = -9) ↔ (A 34 (4 * s + 0) = -9 ∧ A 34 (4 * s + 1) = -9 ∧ A 34 (4 * s + 2) = -9 ∧ A 34 (4 * s + 3) = -9) := by
    constructor
    · intro h; exact ⟨h 0 (by decide), h 1 (by decide), h 2 (by decide), h 3 (by decide)⟩
    · rintro ⟨a, b, c, d⟩ q hq
      rcases (show q = 0 ∨ q = 1 ∨ q = 2 ∨ q = 3 by omega) with rfl | rfl | rfl | rfl <;> assumption
  rw [all]
  by_cases h0 : A 34 (4 * s + 0) = -9
  · have c0 : ¬ 0 < dS (A 34 (4 * s + 0)) := fun q => (p0.mp q) h0
    by_cases h1 : A 34 (4 * s + 1) = -9
    · have c1 : ¬ 0 < dS (A 34 (4 * s + 1)) := fun q => (p1.mp q) h1
      by_cases h2 : A 34 (4 * s + 2) = -9
      · have c2 : ¬ 0 < dS (A 34 (4 * s + 2)) := fun q => (p2.mp q) h2
        by_cases h3 : A 34 (4 * s + 3) = -9
        · have c3 : dS (A 34 (4 * s + 3)) ≤ 0 := Int32.not_lt.mp (fun q => (p3.mp q) h3)
          refine ⟨0, Or.inl rfl, by simp only [h0, h1, h2, h3, and_self], ?_⟩
          simp only [eX10_isSent_0, eX10_isSent_9, eX10_isSent_21, eX10_isSent_33, eX10_isSent_45, eX10_isSent_49, eX10_isSent_50, nI_add, jLI_t, jLW_t, jLL_t, jLZ_t, jLA_t, x0, x1, x2, x3, w0, w1, w2, w3, c0, c1, c2, c3, if_true, if_false]
        · have c3 : ¬ dS (A 34 (4 * s + 3)) ≤ 0 := Int32.not_le.mpr (p3.mpr h3)
          refine ⟨1, Or.inr rfl, by simp only [h3, and_false, reduceCtorEq, Nat.succ_ne_self], ?_⟩
          simp only [eX10_isSent_0, eX10_isSent_9, eX10_isSent_21, eX10_isSent_33, eX10_isSent_45, eX10_isSent_49, eX10_isSent_50, nI_add, jLI_t, jLW_t, jLL_t, jLZ_t, jLA_t, x0, x1, x2, x3, w0, w1, w2, w3, c0, c1, c2, c3, if_false]
      · refine ⟨1, Or.inr rfl, by simp only [h2, false_and, and_false, Nat.succ_ne_self], ?_⟩
        simp only [eX10_isSent_0, eX10_isSent_9, eX10_isSent_21, eX10_isSent_33, eX10_isSent_45, eX10_isSent_49, eX10_isSent_50, nI_add, jLI_t, jLW_t, jLL_t, jLZ_t, jLA_t, x0, x1, x2, x3, w0, w1, w2, w3, c0, c1, p2.mpr h2, if_true, if_false]
    · refine ⟨1, Or.inr rfl, by simp only [h1, false_and, and_false, Nat.succ_ne_self], ?_⟩
      simp only [eX10_isSent_0, eX10_isSent_9, eX10_isSent_21, eX10_isSent_33, eX10_isSent_45, eX10_isSent_49, eX10_isSent_50, nI_add, jLI_t, jLW_t, jLL_t, jLZ_t, jLA_t, x0, x1, x2, x3, w0, w1, w2, w3, c0, p1.mpr h1, if_true, if_false]
  · refine ⟨1, Or.inr rfl, by simp only [h0, false_and, Nat.succ_ne_self], ?_⟩
    simp only [eX10_isSent_0, eX10_isSent_9, eX10_isSent_21, eX10_isSent_33, eX10_isSent_45, eX10_isSent_49, eX10_isSent_50, nI_add, jLI_t, jLW_t, jLL_t, jLZ_t, jLA_t, x0, w0, p0.mpr h0, if_true]
theorem op_takeBack (n : Nat) : Op n rX9_takeBack rX10_takeBack [.ref 9, .null] [.ref 111] := by
  intro I L hI hM
  obtain ⟨e8, hN⟩ := Inv_N hI
  have e20 : I 111 20 = nI (zN I) := by rw [← e8]; exact (hM.1 111 20).1 rfl
  have hem : (rf I (rz (-3))) 111 20 = nI (zN I) := by simp [rf_ap, e20]
  have hMr : Mod (rf I (rz (-3))) I := Mod_congr (I := I) (A := I) (fun a ha => by unfold rf; rw [jm_u_ne _ _ _ (by omega)]) (Cls_rf I) hM
  by_cases h0 : zN I = 0
  · rw [h0] at e8 hem
    have c1 : nI 0 - nI 1 < 0 := by decide
    refine Op_ref hI hM (.int (-3)) (-3) ?_ ?_
    · simp only [eX9_takeBack_0, eX9_takeBack_17, eX9_takeBack_31, eX9_takeBack_38, e8, c1, if_true, h_refuse n I L (-3) (by simp [isR]), jB_s]
    · simp only [eX10_takeBack_0, eX10_takeBack_7, eX10_takeBack_20, eX10_takeBack_27, hem, n00, if_true, m_no n _ L (-3) (by simp [isR]), jB_s]
  · obtain ⟨k, hk⟩ : ∃ k, zN I = k + 1 := ⟨zN I - 1, by omega⟩
    have c1 : nI (k + 1) - nI 1 = nI k := nI_pred k
    have c2 : ¬ nI k < 0 := nI_pos (by omega)
    have c3 : ¬ nI (k + 1) = 0 := nI_ne0 (by omega) (by omega)
    obtain ⟨c, hc4, hc0, hcs⟩ := c_sentOf n I L (s := k) (by omega)
    by_cases hall : ∀ q, q < 4 → I 34 (4 * k + q) = -9
    · have hc : c = 0 := hc0.mpr hall
      subst hc
      refine ⟨.int (nI k), jm_u I 26 8 (nI k), L, jm_u (jm_u I 26 8 (nI k)) 111 20 (nI k), L, ?_, ?_, ?_⟩
      · have c4 : nI 0 ≤ 0 := by decide
        simp only [eX9_takeBack_0, eX9_takeBack_17, eX9_takeBack_31, eX9_takeBack_38, e8, hk, c1, c2, if_false, hcs, jB_s, c4, if_true]
      · have hMc : Mod (jm_u I 26 8 (nI k)) I := Mod_congr (I := I) (A := I) (fun a ha => jm_u_ne _ _ _ (by omega)) (Cls_rf I) hM
        obtain ⟨b, hb, hb0, hbs⟩ := m_isSent n (jm_u I 26 8 (nI k)) I L hI hMc (s := k) (by omega) hN
        have : b = 0 := hb0.mpr hall
        subst this
        have e20' : (jm_u I 26 8 (nI k)) 111 20 = nI (k + 1) := by rw [jm_u_ne _ _ _ (by decide), e20, hk]
        simp [eX10_takeBack_0, eX10_takeBack_7, eX10_takeBack_20, eX10_takeBack_27, e20', c3, c1, hbs, jB_s, n00, jm_u_ap, upd_ap]
      · refine Op_fin (I := I) (J := jm_u I 26 8 (nI k)) (M := jm_u I 111 20 (nI k)) (Inv_u hI ?_) (Mod_size hM (by omega) (fun q s hq hs => Mod_s hM hq (by omega))) (cls_m (Cls_rf _) (by decide)) (meq_u (meq_c (fun _ _ => rfl) (by decide)))
        exact fun _ => nI_rg (k := 40) (by omega) (by decide)
    · have hc : ¬ c = 0 := fun q => hall (hc0.mp q)
      have c4 : ¬ nI c ≤ 0 := nI_nle (by omega) (by omega)
      refine Op_ref hI hM (.int (-3)) (-3) ?_ ?_
      · simp only [eX9_takeBack_0, eX9_takeBack_17, eX9_takeBack_31, eX9_takeBack_38, e8, hk, c1, c2, if_false, hcs, jB_s, c4, h_refuse n I L (-3) (by simp [isR])]
      · obtain ⟨b, hb, hb0, hbs⟩ := m_isSent n _ I L hI hMr (s := k) (by omega) hN
        have hb1 : b = 1 := hb.resolve_left (fun q => hall (hb0.mp q))
        subst hb1
        simp only [eX10_takeBack_0, eX10_takeBack_7, eX10_takeBack_20, eX10_takeBack_27, hem, hk, c3, if_false, c1, hbs, jB_s, n10, m_no n _ L (-3) (by simp [isR])]
