def rb2 : Option Nat → Int32
  | none => -9
  | some j => nI (rcod j)
def rl2 (f : Nat → Int) : Option Nat → Int64
  | none => lN 0
  | some j => lZ (f j)
def rI (A B C : Nat) : Nat := 49 * A + 7 * B + C
theorem rI_e {A B C : Nat} (hB : B < 7) (hC : C < 7) : ria (rI A B C) = A ∧ rib (rI A B C) = B ∧ ric (rI A B C) = C := by
  unfold ria rib ric rI
  omega
theorem nI9 {k : Nat} (h : k < 2147483648) : ¬ nI k = -9 := by
  intro q
  have := congrArg Int32.toInt q
  rw [nI_toInt h] at this
  have e : (-9 : Int32).toInt = -9 := by decide
  omega
theorem iZ_n1 (k : Nat) : iZ ((k : Int) - 3) + nI 1 = iZ (((k + 1 : Nat) : Int) - 3) := by
  rw [show nI 1 = iZ 1 from rfl, iZ_add]
  congr 1
  omega
theorem d4 {k : Nat} (hk : k < 7) : ¬ nI 4 ≤ iZ ((k : Int) - 3) := by
  rw [show nI 4 = iZ 4 from rfl, iZ_le ⟨by omega, by omega⟩ ⟨by omega, by omega⟩]
  omega
theorem d7 : nI 4 ≤ iZ (((7 : Nat) : Int) - 3) := by decide
theorem m_rh_step (n : Nat) (J : jm_I) (L : jm_L) {P Q R : Int} (hP : P.natAbs ≤ 1000000000000) (hQ : Q.natAbs ≤ 1000000000000) (hR : R.natAbs ≤ 1000000000000) (v0 v1 v2 v3 : Value) {A B C : Nat} (hA : A < 7) (hB : B < 7) (hC : C < 7) (v16 v17 v18 : Value) : ∃ w16 w17 w18 : Value, jE n rX10_rhythm 127 [v0, v1, v2, v3, .long (lZ P), .null, .long (lZ Q), .null, .long (lZ R), .null, .int (rb2 (amin (roff P Q R) rld (rI A B C))), .long (rl2 (roff P Q R) (amin (roff P Q R) rld (rI A B C))), .null, .int (iZ ((A : Int) - 3)), .int (iZ ((B : Int) - 3)), .int (iZ ((C : Int) - 3)), v16, v17, v18] [] J L = jE n rX10_rhythm 127 [v0, v1, v2, v3, .long (lZ P), .null, .long (lZ Q), .null, .long (lZ R), .null, .int (rb2 (amin (roff P Q R) rld (rI A B C + 1))), .long (rl2 (roff P Q R) (amin (roff P Q R) rld (rI A B C + 1))), .null, .int (iZ ((A : Int) - 3)), .int (iZ ((B : Int) - 3)), .int (iZ (((C + 1 : Nat) : Int) - 3)), w16, w17, w18] [] J L := by
  obtain ⟨r1, r2, r3⟩ := rI_e (A := A) hB hC
  have hi : rI A B C < 343 := by unfold rI; omega
  obtain ⟨a1, -, a3⟩ := dz hA
  obtain ⟨b1, -, b3⟩ := dz hB
  obtain ⟨c1, -, c3⟩ := dz hC
  have q0 : rld (rI A B C) ↔ 0 < (if iZ ((A : Int) - 3) = 0 then (if iZ ((B : Int) - 3) = 0 then iZ ((C : Int) - 3) else iZ ((B : Int) - 3)) else iZ ((A : Int) - 3)) := by
    unfold rld
    rw [r1, r2, r3]
    by_cases ha : A = 3
    · by_cases hb : B = 3
      · rw [if_pos ha, if_pos hb, if_pos (a1.mpr ha), if_pos (b1.mpr hb), c3]
      · rw [if_pos ha, if_neg hb, if_pos (a1.mpr ha), if_neg (fun q => hb (b1.mp q)), b3]
    · rw [if_neg ha, if_neg (fun q => ha (a1.mp q)), a3]
  have ev : ((A : Int) - 3) * P + ((B : Int) - 3) * Q + ((C : Int) - 3) * R = rV P Q R (rI A B C) := by unfold rV; rw [r1, r2, r3]
  have hv := rV_rg hP hQ hR hi
  have ec : nI 100 * (iZ ((A : Int) - 3) + nI 3) + nI 10 * (iZ ((B : Int) - 3) + nI 3) + iZ ((C : Int) - 3) + nI 3 = nI (rcod (rI A B C)) := by
    have := rc_e (rI A B C)
    rwa [r1, r2, r3] at this
  have hof : 0 ≤ roff P Q R (rI A B C) ∧ roff P Q R (rI A B C) ≤ 9000000000000 := by unfold roff; omega
  generalize rI A B C = i at *
  -- the head, to 155
  have e1 : ∀ w10 w11, jE n rX10_rhythm 127 [v0, v1, v2, v3, .long (lZ P), .null, .long (lZ Q), .null, .long (lZ R), .null, .int w10, .long w11, .null, .int (iZ ((A : Int) - 3)), .int (iZ ((B : Int) - 3)), .int (iZ ((C : Int) - 3)), v16, v17, v18] [] J L = jE n rX10_rhythm 155 [v0, v1, v2, v3, .long (lZ P), .null, .long (lZ Q), .null, .long (lZ R), .null, .int w10, .long w11, .null, .int (iZ ((A : Int) - 3)), .int (iZ ((B : Int) - 3)), .int (iZ ((C : Int) - 3)), v16, v17, v18] [.int (if iZ ((A : Int) - 3) = 0 then (if iZ ((B : Int) - 3) = 0 then iZ ((C : Int) - 3) else iZ ((B : Int) - 3)) else iZ ((A : Int) - 3))] J L := by
    intro w10 w11
    have d := d4 hC
    generalize iZ ((A : Int) - 3) = a at *
    generalize iZ ((B : Int) - 3) = b at *
    generalize iZ ((C : Int) - 3) = c at *
    by_cases ha : a = 0
    · by_cases hb : b = 0
      · simp only [eX10_rhythm_127, eX10_rhythm_133, eX10_rhythm_138, eX10_rhythm_143, eX10_rhythm_148, eX10_rhythm_153, d, ha, hb, if_true, if_false]
      · simp only [eX10_rhythm_127, eX10_rhythm_133, eX10_rhythm_138, eX10_rhythm_143, eX10_rhythm_148, eX10_rhythm_153, d, ha, hb, if_true, if_false]
    · simp only [eX10_rhythm_127, eX10_rhythm_133, eX10_rhythm_138, eX10_rhythm_143, eX10_rhythm_148, eX10_rhythm_153, d, ha, if_true, if_false]
  rw [e1]
  generalize (if iZ ((A : Int) - 3) = 0 then (if iZ ((B : Int) - 3) = 0 then iZ ((C : Int) - 3) else iZ ((B : Int) - 3)) else iZ ((A : Int) - 3)) = ld at *
  by_cases hl : rld i
  · have hl2 := q0.mp hl
    -- v
    have e2 : ∀ w10 w11, jE n rX10_rhythm 155 [v0, v1, v2, v3, .long (lZ P), .null, .long (lZ Q), .null, .long (lZ R), .null, .int w10, .long w11, .null, .int (iZ ((A : Int) - 3)), .int (iZ ((B : Int) - 3)), .int (iZ ((C : Int) - 3)), v16, v17, v18] [.int ld] J L = jE n rX10_rhythm 199 [v0, v1, v2, v3, .long (lZ P), .null, .long (lZ Q), .null, .long (lZ R), .null, .int w10, .long w11, .null, .int (iZ ((A : Int) - 3)), .int (iZ ((B : Int) - 3)), .int (iZ ((C : Int) - 3)), .int ld, .long (lZ (roff P Q R i)), .null] [] J L := by
      intro w10 w11
      have l0 : lN 0 = lZ 0 := rfl
      have cm : lZ 0 ≤ lZ (rV P Q R i) ↔ 0 ≤ rV P Q R i := lZ_le ⟨by omega, by omega⟩ ⟨by omega, by omega⟩
      by_cases h0 : 0 ≤ rV P Q R i
      · have h1 := cm.mpr h0
        have e : roff P Q R i = rV P Q R i := by unfold roff; omega
        simp only [eX10_rhythm_155, eX10_rhythm_165, eX10_rhythm_194, hl2, if_true, d3l hA, d3l hB, d3l hC, lZ_mul, lZ_add, ev, l0, h1, e]
      · have h1 : ¬ lZ 0 ≤ lZ (rV P Q R i) := fun q => h0 (cm.mp q)
        have e : -lZ (rV P Q R i) = lZ (roff P Q R i) := by rw [lZ_neg]; congr 1; unfold roff; omega
        simp only [eX10_rhythm_155, eX10_rhythm_165, eX10_rhythm_194, hl2, if_true, d3l hA, d3l hB, d3l hC, lZ_mul, lZ_add, ev, l0, h1, if_false, e]
    rw [e2]
    cases e : amin (roff P Q R) rld i with
    | none =>
      rw [amin_0 hl e]
      refine ⟨.int ld, .long (lZ (roff P Q R i)), .null, ?_⟩
      simp only [eX10_rhythm_199, eX10_rhythm_217, eX10_rhythm_243, rb2, if_true, ec, iZ_n1, rl2]
      | some j =>
      have hj := (amin_s e).1
      have hvj := rV_rg hP hQ hR (show j < 343 by omega)
      have hoj : 0 ≤ roff P Q R j ∧ roff P Q R j ≤ 9000000000000 := by unfold roff; omega
      have cm : lZ (roff P Q R i) < lZ (roff P Q R j) ↔ roff P Q R i < roff P Q R j := lZ_lt ⟨by omega, by omega⟩ ⟨by omega, by omega⟩
      have h9 : ¬ nI (rcod j) = -9 := nI9 (by obtain ⟨q1, q2, q3⟩ := ri7 (show j < 343 by omega); unfold rcod; omega)
      by_cases hlt : roff P Q R i < roff P Q R j
      · have hn := cm.mpr hlt
        rw [amin_l hl e hlt]
        refine ⟨.int ld, .long (lZ (roff P Q R i)), .null, ?_⟩
        simp only [eX10_rhythm_199, eX10_rhythm_206, eX10_rhythm_217, eX10_rhythm_243, rb2, h9, if_false, rl2, hn, if_true, ec, iZ_n1]
      · have hn : ¬ lZ (roff P Q R i) < lZ (roff P Q R j) := fun q => hlt (cm.mp q)
        rw [amin_g hl e hlt]
        refine ⟨.int ld, .long (lZ (roff P Q R i)), .null, ?_⟩
        simp only [eX10_rhythm_199, eX10_rhythm_206, eX10_rhythm_214, eX10_rhythm_243, rb2, h9, if_false, rl2, hn, iZ_n1]
  · have hl2 : ¬ 0 < ld := fun q => hl (q0.mpr q)
    rw [amin_n hl]
    refine ⟨.int ld, v17, v18, ?_⟩
    simp only [eX10_rhythm_155, eX10_rhythm_162, eX10_rhythm_243, hl2, if_false, iZ_n1]
theorem m_rh_c (n : Nat) (J : jm_I) (L : jm_L) {P Q R : Int} (hP : P.natAbs ≤ 1000000000000) (hQ : Q.natAbs ≤ 1000000000000) (hR : R.natAbs ≤ 1000000000000) (v0 v1 v2 v3 : Value) {A B : Nat} (hA : A < 7) (hB : B < 7) : ∀ (d C : Nat) (v16 v17 v18 : Value), C + d = 7 → ∃ w15 w16 w17 w18 : Value, jE n rX10_rhythm 127 [v0, v1, v2, v3, .long (lZ P), .null, .long (lZ Q), .null, .long (lZ R), .null, .int (rb2 (amin (roff P Q R) rld (rI A B C))), .long (rl2 (roff P Q R) (amin (roff P Q R) rld (rI A B C))), .null, .int (iZ ((A : Int) - 3)), .int (iZ ((B : Int) - 3)), .int (iZ ((C : Int) - 3)), v16, v17, v18] [] J L = jE n rX10_rhythm 117 [v0, v1, v2, v3, .long (lZ P), .null, .long (lZ Q), .null, .long (lZ R), .null, .int (rb2 (amin (roff P Q R) rld (rI A (B + 1) 0))), .long (rl2 (roff P Q R) (amin (roff P Q R) rld (rI A (B + 1) 0))), .null, .int (iZ ((A : Int) - 3)), .int (iZ (((B + 1 : Nat) : Int) - 3)), w15, w16, w17, w18] [] J L := by
  intro d
  induction d with
  | zero =>
    intro C v16 v17 v18 hC
    have : C = 7 := by omega
    subst this
    have e : rI A B 7 = rI A (B + 1) 0 := by unfold rI; omega
    rw [e]
    refine ⟨.int (iZ (((7 : Nat) : Int) - 3)), v16, v17, v18, ?_⟩
    simp only [eX10_rhythm_127, eX10_rhythm_249, d7, if_true, iZ_n1]
  | succ d ih =>
    intro C v16 v17 v18 hC
    obtain ⟨w16, w17, w18, h⟩ := m_rh_step n J L hP hQ hR v0 v1 v2 v3 hA hB (show C < 7 by omega) v16 v17 v18
    rw [h]
    exact ih (C + 1) w16 w17 w18 (by omega)
theorem m_rh_b (n : Nat) (J : jm_I) (L : jm_L) {P Q R : Int} (hP : P.natAbs ≤ 1000000000000) (hQ : Q.natAbs ≤ 1000000000000) (hR : R.natAbs ≤ 1000000000000) (v0 v1 v2 v3 : Value) {A : Nat} (hA : A < 7) : ∀ (d B : Nat) (v15 v16 v17 v18 : Value), B + d = 7 → ∃ w14 w15 w16 w17 w18 : Value, jE n rX10_rhythm 117 [v0, v1, v2, v3, .long (lZ P), .null, .long (lZ Q), .null, .long (lZ R), .null, .int (rb2 (amin (roff P Q R) rld (rI A B 0))), .long (rl2 (roff P Q R) (amin (roff P Q R) rld (rI A B 0))), .null, .int (iZ ((A : Int) - 3)), .int (iZ ((B : Int) - 3)), v15, v16, v17, v18] [] J L = jE n rX10_rhythm 107 [v0, v1, v2, v3, .long (lZ P), .null, .long (lZ Q), .null, .long (lZ R), .null, .int (rb2 (amin (roff P Q R) rld (rI (A + 1) 0 0))), .long (rl2 (roff P Q R) (amin (roff P Q R) rld (rI (A + 1) 0 0))), .null, .int (iZ (((A + 1 : Nat) : Int) - 3)), w14, w15, w16, w17, w18] [] J L := by
  intro d
  induction d with
  | zero =>
    intro B v15 v16 v17 v18 hB
    have : B = 7 := by omega
    subst this
    have e : rI A 7 0 = rI (A + 1) 0 0 := by unfold rI; omega
    rw [e]
    refine ⟨.int (iZ (((7 : Nat) : Int) - 3)), v15, v16, v17, v18, ?_⟩
    simp only [eX10_rhythm_117, eX10_rhythm_255, d7, if_true, iZ_n1]
  | succ d ih =>
    intro B v15 v16 v17 v18 hB
    have m3 : (-3 : Int32) = iZ (((0 : Nat) : Int) - 3) := by decide
    have e1 : ∀ w10 w11, jE n rX10_rhythm 117 [v0, v1, v2, v3, .long (lZ P), .null, .long (lZ Q), .null, .long (lZ R), .null, .int w10, .long w11, .null, .int (iZ ((A : Int) - 3)), .int (iZ ((B : Int) - 3)), v15, v16, v17, v18] [] J L = jE n rX10_rhythm 127 [v0, v1, v2, v3, .long (lZ P), .null, .long (lZ Q), .null, .long (lZ R), .null, .int w10, .long w11, .null, .int (iZ ((A : Int) - 3)), .int (iZ ((B : Int) - 3)), .int (iZ (((0 : Nat) : Int) - 3)), v16, v17, v18] [] J L := by
      intro w10 w11
      simp only [eX10_rhythm_117, eX10_rhythm_123, d4 (show B < 7 by omega), if_false, m3]
    rw [e1]
    obtain ⟨w15, w16, w17, w18, h⟩ := m_rh_c n J L hP hQ hR v0 v1 v2 v3 hA (show B < 7 by omega) 7 0 v16 v17 v18 rfl
    rw [h]
    exact ih (B + 1) w15 w16 w17 w18 (by omega)
theorem m_rh_a (n : Nat) (J : jm_I) (L : jm_L) {P Q R : Int} (hP : P.natAbs ≤ 1000000000000) (hQ : Q.natAbs ≤ 1000000000000) (hR : R.natAbs ≤ 1000000000000) (v0 v1 v2 v3 : Value) : ∀ (d A : Nat) (v14 v15 v16 v17 v18 : Value), A + d = 7 → jE n rX10_rhythm 107 [v0, v1, v2, v3, .long (lZ P), .null, .long (lZ Q), .null, .long (lZ R), .null, .int (rb2 (amin (roff P Q R) rld (rI A 0 0))), .long (rl2 (roff P Q R) (amin (roff P Q R) rld (rI A 0 0))), .null, .int (iZ ((A : Int) - 3)), v14, v15, v16, v17, v18] [] J L = some (some (.int (rb2 (amin (roff P Q R) rld 343))), jS n J L) := by
  intro d
  induction d with
  | zero =>
    intro A v14 v15 v16 v17 v18 hA
    have : A = 7 := by omega
    subst this
    have e : rI 7 0 0 = 343 := rfl
    rw [e]
    simp only [eX10_rhythm_107, eX10_rhythm_261, d7, if_true]
  | succ d ih =>
    intro A v14 v15 v16 v17 v18 hA
    have m3 : (-3 : Int32) = iZ (((0 : Nat) : Int) - 3) := by decide
    have e1 : ∀ w10 w11, jE n rX10_rhythm 107 [v0, v1, v2, v3, .long (lZ P), .null, .long (lZ Q), .null, .long (lZ R), .null, .int w10, .long w11, .null, .int (iZ ((A : Int) - 3)), v14, v15, v16, v17, v18] [] J L = jE n rX10_rhythm 117 [v0, v1, v2, v3, .long (lZ P), .null, .long (lZ Q), .null, .long (lZ R), .null, .int w10, .long w11, .null, .int (iZ ((A : Int) - 3)), .int (iZ (((0 : Nat) : Int) - 3)), v15, v16, v17, v18] [] J L := by
      intro w10 w11
      simp only [eX10_rhythm_107, eX10_rhythm_113, d4 (show A < 7 by omega), if_false, m3]
    rw [e1]
    obtain ⟨w14, w15, w16, w17, w18, h⟩ := m_rh_b n J L hP hQ hR v0 v1 v2 v3 (show A < 7 by omega) 7 0 v15 v16 v17 v18 rfl
    rw [h]
    exact ih (A + 1) w14 w15 w16 w17 w18 (by omega)
theorem per_m {A : jm_I} (h : Inv A) {x y : Nat} (hx : x < 4) (hy : y < 4) : ((A 15 x).toInt * (A 15 y).toInt).natAbs ≤ 1000000000000 := by
  have r1 : rg (A 15 x) 0 999999 := h 15 x (by decide) hx
  have r2 : rg (A 15 y) 0 999999 := h 15 y (by decide) hy
  have m := mulb (a := (A 15 x).toInt) (b := (A 15 y).toInt) (p := 1000000) (q := 1000000) (by have := r1.1; have := r1.2; omega) (by have := r2.1; have := r2.2; omega)
  omega
theorem op_rhythm (n : Nat) (x y z : Int32) : Op n rX9_rhythm rX10_rhythm [.ref 9, .int x, .int y, .int z, .null] [.ref 111, .int x, .int y, .int z, .null, .null, .null, .null, .null, .null, .null, .null, .null, .null, .null, .null, .null, .null, .null] := by
  intro I L hI hM
  have e1 : ¬ (-1 : Int32) = 0 := by decide
  have c0 : jE n rX9_rhythm 0 [.ref 9, .int x, .int y, .int z, .null] [] I L = jE n rX9_rhythm 54 [.ref 9, .int x, .int y, .int z, .int (thn (nmo I 13 x) (thn (nmo I 13 y) (thn (nmo I 13 z) (if x = y ∨ y = z ∨ x = z then -1 else 0))))] [] I L := by
    by_cases h1 : x = y
    · simp [eX9_rhythm_0, eX9_rhythm_44, eX9_rhythm_49, h_noMoon, jB_s, h_thn, h1, thn_as]
    · by_cases h2 : y = z
      · simp [eX9_rhythm_0, eX9_rhythm_34, eX9_rhythm_44, eX9_rhythm_49, h_noMoon, jB_s, h_thn, h1, h2, thn_as]
      · by_cases h3 : x = z
        · subst h3
          simp [eX9_rhythm_0, eX9_rhythm_34, eX9_rhythm_39, eX9_rhythm_44, eX9_rhythm_49, h_noMoon, jB_s, h_thn, h1, h2, thn_as]
        · simp [eX9_rhythm_0, eX9_rhythm_34, eX9_rhythm_39, eX9_rhythm_44, eX9_rhythm_48, eX9_rhythm_49, h_noMoon, jB_s, h_thn, h1, h2, h3, thn_as, n00]
  have ref : thn (nmo I 13 x) (thn (nmo I 13 y) (thn (nmo I 13 z) (if x = y ∨ y = z ∨ x = z then -1 else 0))) = -1 → (∀ J : jm_I, Mod J I → jE n rX10_rhythm 0 [.ref 111, .int x, .int y, .int z, .null, .null, .null, .null, .null, .null, .null, .null, .null, .null, .null, .null, .null, .null, .null] [] J L = jE n rX10_rhythm 39 [.ref 111, .int x, .int y, .int z, .null, .null, .null, .null, .null, .null, .null, .null, .null, .null, .null, .null, .null, .null, .null] [] J L) →
      ∃ (v : Value) (I1 : jm_I) (L1 : jm_L) (I2 : jm_I) (L2 : jm_L), jE n rX9_rhythm 0 [.ref 9, .int x, .int y, .int z, .null] [] I L = some (some v, jS n I1 L1) ∧ jE n rX10_rhythm 0 [.ref 111, .int x, .int y, .int z, .null, .null, .null, .null, .null, .null, .null, .null, .null, .null, .null, .null, .null, .null, .null] [] I1 L1 = some (some v, jS n I2 L2) ∧ Inv I2 ∧ Mod I2 I2 := by
    intro hw hmo
    refine Op_ref hI hM (.int (-1)) (-1) ?_ ?_
    · rw [c0, hw]
      simp [eX9_rhythm_49, eX9_rhythm_59, eX9_rhythm_81, h_refuse n I L (-1) (Or.inl rfl), jB_s]
    · rw [hmo _ (Mod_congr (I := I) (A := I) (fun a ha => by unfold rf; rw [jm_u_ne _ _ _ (by omega)]) (Cls_rf I) hM)]
      simp only [eX10_rhythm_39, m_no n _ L (-1) (Or.inl rfl), jB_s]
  by_cases hx : mo I 13 x
  · by_cases hy : mo I 13 y
    · by_cases hz : mo I 13 z
      · have rm : ∀ J : jm_I, Mod J I → mo J 119 x ∧ mo J 119 y ∧ mo J 119 z := fun J hJ => ⟨(Mod_mo hJ x).mpr hx, (Mod_mo hJ y).mpr hy, (Mod_mo hJ z).mpr hz⟩
        by_cases hd : x = y ∨ y = z ∨ x = z
        · refine ref ?_ (fun J hJ => ?_)
          · rw [nmo_t hx, nmo_t hy, nmo_t hz, thn_0, thn_0, thn_0, if_pos hd]
          · obtain ⟨g1, g2, g3⟩ := rm J hJ
            by_cases h1 : x = y
            · simp [eX10_rhythm_0, eX10_rhythm_8, eX10_rhythm_16, eX10_rhythm_24, m_isMoon, bmo_t g1, bmo_t g2, bmo_t g3, jB_s, n10, h1]
            · by_cases h2 : y = z
              · simp [eX10_rhythm_0, eX10_rhythm_8, eX10_rhythm_16, eX10_rhythm_24, eX10_rhythm_29, m_isMoon, bmo_t g1, bmo_t g2, bmo_t g3, jB_s, n10, h1, h2]
              · have h3 : x = z := (hd.resolve_left h1).resolve_left h2
                subst h3
                simp [eX10_rhythm_0, eX10_rhythm_8, eX10_rhythm_16, eX10_rhythm_24, eX10_rhythm_29, eX10_rhythm_34, m_isMoon, bmo_t g1, bmo_t g2, jB_s, n10, h1, h2]
        · obtain ⟨h1, h2, h3⟩ : ¬ x = y ∧ ¬ y = z ∧ ¬ x = z := ⟨fun q => hd (Or.inl q), fun q => hd (Or.inr (Or.inl q)), fun q => hd (Or.inr (Or.inr q))⟩
          obtain ⟨g1, g2, g3⟩ := rm I hM
          obtain ⟨a, ha, ea, -⟩ := mo_ix hx
          obtain ⟨b, hb, eb, -⟩ := mo_ix hy
          obtain ⟨c, hc, ec, -⟩ := mo_ix hz
          subst ea; subst eb; subst ec
          have p1 := per_m hI hb hc
          have p2 := per_m hI ha hc
          have p3 := per_m hI ha hb
          obtain ⟨j, hj⟩ := amin_some (f := roff ((I 15 b).toInt * (I 15 c).toInt) ((I 15 a).toInt * (I 15 c).toInt) ((I 15 a).toInt * (I 15 b).toInt)) (ok := rld) (i := 342) (by decide)
          have q1 := c_rh_loop n I L p1 p2 p3 (.ref 12) (.int (nI a)) (.int (nI b)) (.int (nI c)) 343 0 .null .null .null .null .null .null rfl
          have q2 := m_rh_a n I L p1 p2 p3 (.ref 111) (.int (nI a)) (.int (nI b)) (.int (nI c)) 7 0 .null .null .null .null .null rfl
          rw [hj] at q1 q2
          have f15 : ∀ j, j < 4 → I 114 j = I 15 j := fun j hj => hM.1 114 j hj
          have m3 : (-3 : Int32) = iZ (((0 : Nat) : Int) - 3) := by decide
          refine ⟨.int (nI (rcod j)), I, L, I, L, ?_, ?_, hI, hM⟩
          · rw [c0, nmo_t hx, nmo_t hy, nmo_t hz, thn_0, thn_0, thn_0, if_neg hd]
            have q3 : jE n rX2_rhythmOf 0 [.ref 12, .int (nI a), .int (nI b), .int (nI c), .null, .null, .null, .null, .null, .null, .null, .null, .null, .null, .null, .null, .null, .null, .null, .null] [] I L = some (some (.int (nI (rcod j))), jS n I L) := by
              simp only [eX2_rhythmOf_0, jLI_t, jLW_t, jLL_t, jLZ_t, jLA_t, ha, hb, hc, toL, lZ_mul]
              exact q1
            simp only [eX9_rhythm_49, eX9_rhythm_68, eX9_rhythm_81, if_true, q3, jB_s]
          · simp only [eX10_rhythm_0, eX10_rhythm_8, eX10_rhythm_16, eX10_rhythm_24, eX10_rhythm_29, eX10_rhythm_34, eX10_rhythm_45, m_isMoon, bmo_t g1, bmo_t g2, bmo_t g3, jB_s, n10, h1, h2, h3, if_false, not_false_eq_true, if_true, jLI_t, jLW_t, jLL_t, jLZ_t, jLA_t, ha, hb, hc, f15 a ha, f15 b hb, f15 c hc, toL, lZ_mul, m3]
            exact q2
      · refine ref ?_ (fun J hJ => ?_)
        · rw [nmo_t hx, nmo_t hy, nmo_f hz, thn_0, thn_0, thn_n e1]
        · simp [eX10_rhythm_0, eX10_rhythm_8, eX10_rhythm_16, m_isMoon, bmo_t ((Mod_mo hJ x).mpr hx), bmo_t ((Mod_mo hJ y).mpr hy), bmo_f (fun q => hz ((Mod_mo hJ z).mp q)), jB_s, n10, n00t]
    · refine ref ?_ (fun J hJ => ?_)
      · rw [nmo_t hx, nmo_f hy, thn_0, thn_n e1]
      · simp [eX10_rhythm_0, eX10_rhythm_8, m_isMoon, bmo_t ((Mod_mo hJ x).mpr hx), bmo_f (fun q => hy ((Mod_mo hJ y).mp q)), jB_s, n10, n00t]
  · refine ref ?_ (fun J hJ => ?_)
    · rw [nmo_f hx, thn_n e1]
    · simp [eX10_rhythm_0, m_isMoon, bmo_f (fun q => hx ((Mod_mo hJ x).mp q)), jB_s, n00t]
