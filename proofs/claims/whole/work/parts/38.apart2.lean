def aF : Option Int → Int32
  | none => nI 0
  | some _ => nI 1
def lF : Option Int → Int64
  | none => lN 0
  | some y => lZ y
def hF : Option Int → Int64
  | none => lN 0
  | some y => lZ (-y)
theorem omn_n (o : Option Int) (x : Int) : ¬ omn o x = none := by cases o <;> simp [omn]
theorem fI_n {p : Nat → Prop} {v v' : Nat → Int} {o o' : Option Int} (h : o = none ↔ o' = none) : ∀ r, fI p v o r = none ↔ fI p v' o' r = none := by
  intro r
  induction r with
  | zero => exact h
  | succ r ih =>
    by_cases q : p r
    · rw [fI_t q, fI_t q]
      exact ⟨fun w => absurd w (omn_n _ _), fun w => absurd w (omn_n _ _)⟩
    · rw [fI_f q, fI_f q]; exact ih
theorem fO_n {N : Nat} {p : Nat → Nat → Prop} {v v' : Nat → Nat → Int} : ∀ s, fO N p v s = none ↔ fO N p v' s = none := by
  intro s
  induction s with
  | zero => exact Iff.rfl
  | succ s ih => exact fI_n ih N
def nv (A : jm_I) (tw : Int32) (s r : Nat) : Int := -pv A tw s r
theorem nv_rg {A : jm_I} (h : Inv A) (tw : Int32) {s r : Nat} (hs : s < 40) (hr : r < 40) : (nv A tw s r).natAbs ≤ 5000000000 := by
  have := pv_rg h tw hs hr
  unfold nv
  omega
theorem oS_I' {A : jm_I} (h : Inv A) (tw a b : Int32) {s : Nat} (hs : s < 40) {o : Option Int} (ho : oS o) : ∀ r, r ≤ 40 → oS (fI (pr A tw a b s) (nv A tw s) o r) := by
  intro r
  induction r with
  | zero => exact fun _ => ho
  | succ r ih =>
    intro hr
    by_cases q : pr A tw a b s r
    · rw [fI_t q]; exact oS_n (ih (by omega)) (nv_rg h tw hs (by omega))
    · rw [fI_f q]; exact ih (by omega)
theorem oS_O' {A : jm_I} (h : Inv A) (tw a b : Int32) {N : Nat} (hN : N ≤ 40) : ∀ s, s ≤ 40 → oS (fO N (pr A tw a b) (nv A tw) s) := by
  intro s
  induction s with
  | zero => exact fun _ => trivial
  | succ s ih => exact fun hs => oS_I' h tw a b (by omega) (ih (by omega)) N hN
theorem m_ap_p (n : Nat) (J A : jm_I) (L : jm_L) (hA : Inv A) (hM : Mod J A) (tw a b : Int32) {s r : Nat} (hs : s < zN A) (hr : r < zN A) (v3 v5 v6 v7 v8 v9 v12 v13 v14 : Value) : ∃ w12 : Int32, jE n rX10_apart 112 [.ref 111, .int a, .int b, v3, .int tw, v5, v6, v7, v8, v9, .int (nI s), .int (nI r), v12, v13, v14] [] J L = @ite _ (pr A tw a b s r) (Classical.propDecidable _) (jE n rX10_apart 249 [.ref 111, .int a, .int b, v3, .int tw, v5, v6, v7, v8, v9, .int (nI s), .int (nI r), .int w12, v13, v14] [] J L) (jE n rX10_apart 335 [.ref 111, .int a, .int b, v3, .int tw, v5, v6, v7, v8, v9, .int (nI s), .int (nI r), .int w12, v13, v14] [] J L) := by
  obtain ⟨e8, hN⟩ := Inv_N hA
  have e20 : J 111 20 = nI (zN A) := by rw [← e8]; exact (hM.1 111 20).1 rfl
  have hs4 : s < 40 := by omega
  have hr4 : r < 40 := by omega
  have c : ¬ nI (zN A) ≤ nI r := nI_ge (by omega) (by omega)
  have f27 : ∀ j, j < 40 → J 125 j = A 27 j := fun j hj => hM.1 125 j hj
  have f28 : ∀ j, j < 40 → J 126 j = A 28 j := fun j hj => hM.1 126 j hj
  have f29 : ∀ j, j < 40 → J 127 j = A 29 j := fun j hj => hM.1 127 j hj
  have f30 : ∀ j, j < 40 → J 128 j = A 30 j := fun j hj => hM.1 128 j hj
  have f32 : ∀ j, j < 40 → J 130 j = A 32 j := fun j hj => hM.1 130 j hj
  have e1 : jE n rX10_apart 112 [.ref 111, .int a, .int b, v3, .int tw, v5, v6, v7, v8, v9, .int (nI s), .int (nI r), v12, v13, v14] [] J L = jE n rX10_apart 183 [.ref 111, .int a, .int b, v3, .int tw, v5, v6, v7, v8, v9, .int (nI s), .int (nI r), v12, v13, v14] [.int (if A (tq tw) s = a ∧ A (tq tw) r = b then nI 1 else nI 0)] J L := by
    by_cases e : tw = 0
    · have et : tq tw = 30 := by rw [tq, if_pos e]
      rw [et]
      by_cases h1 : A 30 s = a
      · by_cases h2 : A 30 r = b
        · simp only [eX10_apart_112, eX10_apart_121, eX10_apart_156, eX10_apart_167, eX10_apart_178, e20, c, e, if_true, jLI_t, jLW_t, jLL_t, jLZ_t, jLA_t, hs4, hr4, f30 s hs4, f30 r hr4, h1, h2, not_true, if_false, and_self]
        · simp only [eX10_apart_112, eX10_apart_121, eX10_apart_156, eX10_apart_167, eX10_apart_182, e20, c, e, if_true, jLI_t, jLW_t, jLL_t, jLZ_t, jLA_t, hs4, hr4, f30 s hs4, f30 r hr4, h1, h2, not_true, not_false_eq_true, if_false, and_false]
      · simp only [eX10_apart_112, eX10_apart_121, eX10_apart_156, eX10_apart_182, e20, c, e, if_true, jLI_t, jLW_t, jLL_t, jLZ_t, jLA_t, hs4, f30 s hs4, h1, not_false_eq_true, if_false, false_and]
    · have et : tq tw = 32 := by rw [tq, if_neg e]
      rw [et]
      by_cases h1 : A 32 s = a
      · by_cases h2 : A 32 r = b
        · simp only [eX10_apart_112, eX10_apart_121, eX10_apart_126, eX10_apart_137, eX10_apart_148, e20, c, e, if_true, jLI_t, jLW_t, jLL_t, jLZ_t, jLA_t, hs4, hr4, f32 s hs4, f32 r hr4, h1, h2, not_true, if_false, and_self]
        · simp only [eX10_apart_112, eX10_apart_121, eX10_apart_126, eX10_apart_137, eX10_apart_152, e20, c, e, if_true, jLI_t, jLW_t, jLL_t, jLZ_t, jLA_t, hs4, hr4, f32 s hs4, f32 r hr4, h1, h2, not_true, not_false_eq_true, if_false, and_false]
      · simp only [eX10_apart_112, eX10_apart_121, eX10_apart_126, eX10_apart_152, e20, c, e, if_true, jLI_t, jLW_t, jLL_t, jLZ_t, jLA_t, hs4, f32 s hs4, h1, not_false_eq_true, if_false, false_and]
  rw [e1]
  unfold pr
  by_cases h0 : A (tq tw) s = a ∧ A (tq tw) r = b
  · refine ⟨nI 1, ?_⟩
    by_cases h3 : A 29 s = nI 5
    · simp only [eX10_apart_183, eX10_apart_190, h0, h3, if_true, n10, if_false, jLI_t, jLW_t, jLL_t, jLZ_t, jLA_t, hs4, f29 s hs4, not_true, and_self, and_false, false_and]
    · by_cases h4 : A 29 r = nI 5
      · simp only [eX10_apart_183, eX10_apart_190, eX10_apart_201, h0, h3, h4, if_true, n10, if_false, jLI_t, jLW_t, jLL_t, jLZ_t, jLA_t, hs4, hr4, f29 s hs4, f29 r hr4, not_true, and_self, and_false]
      · by_cases h1 : A 27 s = A 27 r
        · by_cases h2 : A 28 s = A 28 r
          · simp only [eX10_apart_183, eX10_apart_190, eX10_apart_201, eX10_apart_212, eX10_apart_229, h0, h1, h2, h3, h4, if_true, n10, if_false, jLI_t, jLW_t, jLL_t, jLZ_t, jLA_t, hs4, hr4, f29 s hs4, f29 r hr4, f27 s hs4, f27 r hr4, f28 s hs4, f28 r hr4, not_true, not_false_eq_true, and_self]
          · simp only [eX10_apart_183, eX10_apart_190, eX10_apart_201, eX10_apart_212, eX10_apart_229, eX10_apart_246, h0, h1, h2, h3, h4, if_true, n10, if_false, jLI_t, jLW_t, jLL_t, jLZ_t, jLA_t, hs4, hr4, f29 s hs4, f29 r hr4, f27 s hs4, f27 r hr4, f28 s hs4, f28 r hr4, not_true, not_false_eq_true, and_self, false_and, and_false]
        · simp only [eX10_apart_183, eX10_apart_190, eX10_apart_201, eX10_apart_212, h0, h1, h3, h4, if_true, n10, if_false, jLI_t, jLW_t, jLL_t, jLZ_t, jLA_t, hs4, hr4, f29 s hs4, f29 r hr4, f27 s hs4, f27 r hr4, not_false_eq_true, and_self, false_and, and_false]
  · refine ⟨nI 0, ?_⟩
    simp only [eX10_apart_183, h0, if_false, n00t, if_true, false_and]
theorem m_ap_u (n : Nat) (J A : jm_I) (L : jm_L) (hA : Inv A) (hM : Mod J A) (tw : Int32) {s r : Nat} (hs : s < zN A) (hr : r < zN A) (v1 v2 v3 v13 v14 : Value) (w12 : Int32) {o o' : Option Int} (ho : oS o) (ho' : oS o') (hn : o = none ↔ o' = none) : jE n rX10_apart 249 [.ref 111, v1, v2, v3, .int tw, .int (aF o), .long (lF o), .null, .long (hF o'), .null, .int (nI s), .int (nI r), .int w12, v13, v14] [] J L = jE n rX10_apart 335 [.ref 111, v1, v2, v3, .int tw, .int (nI 1), .long (lF (omn o (pv A tw s r))), .null, .long (hF (omn o' (nv A tw s r))), .null, .int (nI s), .int (nI r), .int w12, .long (lZ (pv A tw s r)), .null] [] J L := by
  obtain ⟨e8, hN⟩ := Inv_N hA
  have hs4 : s < 40 := by omega
  have hr4 : r < 40 := by omega
  have hv := pv_rg hA tw hs4 hr4
  have e1 : ∀ w5 w6 w8, jE n rX10_apart 249 [.ref 111, v1, v2, v3, .int tw, .int w5, .long w6, .null, .long w8, .null, .int (nI s), .int (nI r), .int w12, v13, v14] [] J L = jE n rX10_apart 288 [.ref 111, v1, v2, v3, .int tw, .int w5, .long w6, .null, .long w8, .null, .int (nI s), .int (nI r), .int w12, .long (lZ (pv A tw s r)), .null] [] J L := by
    intro w5 w6 w8
    have ev : lZ (raw A tw s - raw A tw r) = lZ (pv A tw s r) := rfl
    have g1 := m_rightOf n J A L hA hM hs4
    have g2 := m_rightOf n J A L hA hM hr4
    by_cases e : tw = 0
    · have d1 : zrightb A s tw (nI 1) = raw A tw s := by rw [raw, if_pos e]
      have d2 : zrightb A r tw (nI 1) = raw A tw r := by rw [raw, if_pos e]
      have e' : ¬ ¬ tw = 0 := fun q => q e
      simp only [eX10_apart_249, eX10_apart_259, eX10_apart_264, eX10_apart_277, eX10_apart_282, e', if_false, g1, g2, jB_s, d1, d2, lZ_sub, ev]
    · have d1 : zrightb A s tw (nI 0) = raw A tw s := by rw [raw, if_neg e]
      have d2 : zrightb A r tw (nI 0) = raw A tw r := by rw [raw, if_neg e]
      simp only [eX10_apart_249, eX10_apart_263, eX10_apart_264, eX10_apart_281, eX10_apart_282, e, not_false_eq_true, if_true, g1, g2, jB_s, d1, d2, lZ_sub, ev]
  rw [e1]
  have nn := nv_rg hA tw hs4 hr4
  cases o with
  | none =>
    have : o' = none := hn.mp rfl
    subst this
    have e2 : hF (omn none (nv A tw s r)) = lZ (pv A tw s r) := by
      show lZ (-nv A tw s r) = _
      unfold nv
      rw [Int.neg_neg]
    rw [e2]
    simp only [eX10_apart_282, eX10_apart_301, eX10_apart_308, eX10_apart_323, eX10_apart_330, aF, n00t, if_true]
    rfl
  | some y =>
    cases o' with
    | none => exact absurd (hn.mpr rfl) (by simp)
    | some y' =>
      have hy : y.natAbs ≤ 5000000000 := ho
      have hy' : y'.natAbs ≤ 5000000000 := ho'
      have c1 : lZ y ≤ lZ (pv A tw s r) ↔ y ≤ pv A tw s r := lZ_le ⟨by omega, by omega⟩ ⟨by omega, by omega⟩
      have c2 : lZ (pv A tw s r) ≤ lZ (-y') ↔ pv A tw s r ≤ -y' := lZ_le ⟨by omega, by omega⟩ ⟨by omega, by omega⟩
      have f1 : ∀ w8, jE n rX10_apart 288 [.ref 111, v1, v2, v3, .int tw, .int (nI 1), .long (lZ y), .null, .long w8, .null, .int (nI s), .int (nI r), .int w12, .long (lZ (pv A tw s r)), .null] [] J L = jE n rX10_apart 310 [.ref 111, v1, v2, v3, .int tw, .int (nI 1), .long (lF (omn (some y) (pv A tw s r))), .null, .long w8, .null, .int (nI s), .int (nI r), .int w12, .long (lZ (pv A tw s r)), .null] [] J L := by
        intro w8
        by_cases q : y ≤ pv A tw s r
        · have e3 : lF (omn (some y) (pv A tw s r)) = lZ y := by
            show lZ (if pv A tw s r < y then pv A tw s r else y) = _
            rw [if_neg (by omega)]
          simp only [eX10_apart_282, eX10_apart_293, eX10_apart_306, eX10_apart_308, n10, if_false, c1, q, if_true, e3]
        · have e3 : lF (omn (some y) (pv A tw s r)) = lZ (pv A tw s r) := by
            show lZ (if pv A tw s r < y then pv A tw s r else y) = _
            rw [if_pos (by omega)]
          simp only [eX10_apart_282, eX10_apart_293, eX10_apart_301, eX10_apart_308, n10, if_false, c1, q, e3]
      have f2 : ∀ w6, jE n rX10_apart 310 [.ref 111, v1, v2, v3, .int tw, .int (nI 1), .long w6, .null, .long (lZ (-y')), .null, .int (nI s), .int (nI r), .int w12, .long (lZ (pv A tw s r)), .null] [] J L = jE n rX10_apart 335 [.ref 111, v1, v2, v3, .int tw, .int (nI 1), .long w6, .null, .long (hF (omn (some y') (nv A tw s r))), .null, .int (nI s), .int (nI r), .int w12, .long (lZ (pv A tw s r)), .null] [] J L := by
        intro w6
        by_cases q : pv A tw s r ≤ -y'
        · have e3 : hF (omn (some y') (nv A tw s r)) = lZ (-y') := by
            show lZ (-(if nv A tw s r < y' then nv A tw s r else y')) = _
            rw [if_neg (by unfold nv; omega)]
          simp only [eX10_apart_308, eX10_apart_315, eX10_apart_328, eX10_apart_330, n10, if_false, c2, q, if_true, e3]
        · have e3 : hF (omn (some y') (nv A tw s r)) = lZ (pv A tw s r) := by
            show lZ (-(if nv A tw s r < y' then nv A tw s r else y')) = _
            rw [if_pos (by unfold nv; omega)]
            unfold nv
            rw [Int.neg_neg]
          simp only [eX10_apart_308, eX10_apart_315, eX10_apart_323, eX10_apart_330, n10, if_false, c2, q, e3]
      exact (f1 _).trans (f2 _)
theorem aF_n (o : Option Int) (x : Int) : aF (omn o x) = nI 1 := by cases o <;> rfl
theorem m_ap_i (n : Nat) (J A : jm_I) (L : jm_L) (hA : Inv A) (hM : Mod J A) (tw a b : Int32) (v3 : Value) {s : Nat} (hs : s < zN A) {o o' : Option Int} (ho : oS o) (ho' : oS o') (hn : o = none ↔ o' = none) : ∀ (d r : Nat) (v12 v13 v14 : Value), r + d = zN A → ∃ w11 w12 w13 w14 : Value, jE n rX10_apart 112 [.ref 111, .int a, .int b, v3, .int tw, .int (aF (fI (pr A tw a b s) (pv A tw s) o r)), .long (lF (fI (pr A tw a b s) (pv A tw s) o r)), .null, .long (hF (fI (pr A tw a b s) (nv A tw s) o' r)), .null, .int (nI s), .int (nI r), v12, v13, v14] [] J L = jE n rX10_apart 100 [.ref 111, .int a, .int b, v3, .int tw, .int (aF (fI (pr A tw a b s) (pv A tw s) o (zN A))), .long (lF (fI (pr A tw a b s) (pv A tw s) o (zN A))), .null, .long (hF (fI (pr A tw a b s) (nv A tw s) o' (zN A))), .null, .int (nI (s + 1)), w11, w12, w13, w14] [] J L := by
  obtain ⟨e8, hN⟩ := Inv_N hA
  have e20 : J 111 20 = nI (zN A) := by rw [← e8]; exact (hM.1 111 20).1 rfl
  intro d
  induction d with
  | zero =>
    intro r v12 v13 v14 hr
    have : r = zN A := by omega
    subst this
    have c : nI (zN A) ≤ nI (zN A) := Int32.le_refl _
    refine ⟨.int (nI (zN A)), v12, v13, v14, ?_⟩
    simp only [eX10_apart_112, eX10_apart_341, e20, c, if_true, nI_add]
  | succ d ih =>
    intro r v12 v13 v14 hr
    obtain ⟨w12, h⟩ := m_ap_p n J A L hA hM tw a b hs (show r < zN A by omega) v3 (.int (aF (fI (pr A tw a b s) (pv A tw s) o r))) (.long (lF (fI (pr A tw a b s) (pv A tw s) o r))) .null (.long (hF (fI (pr A tw a b s) (nv A tw s) o' r))) .null v12 v13 v14
    rw [h]
    by_cases q : pr A tw a b s r
    · rw [if_pos q, m_ap_u n J A L hA hM tw hs (show r < zN A by omega) _ _ _ _ _ _ (oS_I hA tw a b (by omega) ho r (by omega)) (oS_I' hA tw a b (by omega) ho' r (by omega)) (fI_n hn r)]
      obtain ⟨x11, x12, x13, x14, h2⟩ := ih (r + 1) (.int w12) (.long (lZ (pv A tw s r))) .null (by omega)
      rw [fI_t q, fI_t q, aF_n] at h2
      refine ⟨x11, x12, x13, x14, ?_⟩
      simp only [eX10_apart_335, nI_add]
      exact h2
    · rw [if_neg q]
      obtain ⟨x11, x12, x13, x14, h2⟩ := ih (r + 1) (.int w12) v13 v14 (by omega)
      rw [fI_f q, fI_f q] at h2
      refine ⟨x11, x12, x13, x14, ?_⟩
      simp only [eX10_apart_335, nI_add]
      exact h2
theorem m_ap_o (n : Nat) (J A : jm_I) (L : jm_L) (hA : Inv A) (hM : Mod J A) (tw a b : Int32) (v3 : Value) : ∀ (d s : Nat) (v11 v12 v13 v14 : Value), s + d = zN A → ∃ w10 w11 w12 w13 w14 : Value, jE n rX10_apart 100 [.ref 111, .int a, .int b, v3, .int tw, .int (aF (fO (zN A) (pr A tw a b) (pv A tw) s)), .long (lF (fO (zN A) (pr A tw a b) (pv A tw) s)), .null, .long (hF (fO (zN A) (pr A tw a b) (nv A tw) s)), .null, .int (nI s), v11, v12, v13, v14] [] J L = jE n rX10_apart 347 [.ref 111, .int a, .int b, v3, .int tw, .int (aF (fO (zN A) (pr A tw a b) (pv A tw) (zN A))), .long (lF (fO (zN A) (pr A tw a b) (pv A tw) (zN A))), .null, .long (hF (fO (zN A) (pr A tw a b) (nv A tw) (zN A))), .null, w10, w11, w12, w13, w14] [] J L := by
  obtain ⟨e8, hN⟩ := Inv_N hA
  have e20 : J 111 20 = nI (zN A) := by rw [← e8]; exact (hM.1 111 20).1 rfl
  intro d
  induction d with
  | zero =>
    intro s v11 v12 v13 v14 hs
    have : s = zN A := by omega
    subst this
    have c : nI (zN A) ≤ nI (zN A) := Int32.le_refl _
    refine ⟨.int (nI (zN A)), v11, v12, v13, v14, ?_⟩
    simp only [eX10_apart_100, e20, c, if_true]
  | succ d ih =>
    intro s v11 v12 v13 v14 hs
    have c : ¬ nI (zN A) ≤ nI s := nI_ge (by omega) (by omega)
    have hd0 : ∀ w5 w6 w8, jE n rX10_apart 100 [.ref 111, .int a, .int b, v3, .int tw, .int w5, .long w6, .null, .long w8, .null, .int (nI s), v11, v12, v13, v14] [] J L = jE n rX10_apart 112 [.ref 111, .int a, .int b, v3, .int tw, .int w5, .long w6, .null, .long w8, .null, .int (nI s), .int (nI 0), v12, v13, v14] [] J L := by
      intro w5 w6 w8
      simp only [eX10_apart_100, eX10_apart_109, e20, c, if_false]
    rw [hd0]
    obtain ⟨w11, w12, w13, w14, h⟩ := m_ap_i n J A L hA hM tw a b v3 (show s < zN A by omega) (oS_O hA tw a b hN s (by omega)) (oS_O' hA tw a b hN s (by omega)) (fO_n s) (zN A) 0 v12 v13 v14 (Nat.zero_add _)
    obtain ⟨x10, x11, x12, x13, x14, h2⟩ := ih (s + 1) w11 w12 w13 w14 (by omega)
    exact ⟨x10, x11, x12, x13, x14, h.trans h2⟩
