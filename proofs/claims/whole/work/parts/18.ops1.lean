theorem jm_u_ap (I : jm_I) (a k : Nat) (x : Int32) (b : Nat) : jm_u I a k x b = if b = a then upd (I b) k x else I b := rfl
theorem upd_ap (f : Nat → Int32) (k : Nat) (x : Int32) (j : Nat) : upd f k x j = if j = k then x else f j := rfl
/-- a call on both sides -/
def Op (n : Nat) (rc rm : jm_Row) (ac am : List Value) : Prop := ∀ (I : jm_I) (L : jm_L), Inv I → Mod I I → ∃ (v : Value) (I1 : jm_I) (L1 : jm_L) (I2 : jm_I) (L2 : jm_L), jE n rc 0 ac [] I L = some (some v, jS n I1 L1) ∧ jE n rm 0 am [] I1 L1 = some (some v, jS n I2 L2) ∧ Inv I2 ∧ Mod I2 I2
theorem Op_ref {n : Nat} {rc rm : jm_Row} {ac am : List Value} {I : jm_I} {L : jm_L} (hI : Inv I) (hM : Mod I I) (v : Value) (w : Int32) (h1 : jE n rc 0 ac [] I L = some (some v, jS n (rf I (rz w)) L)) (h2 : jE n rm 0 am [] (rf I (rz w)) L = some (some v, jS n (rfm (rf I (rz w)) (rz w)) L)) :
    ∃ (v : Value) (I1 : jm_I) (L1 : jm_L) (I2 : jm_I) (L2 : jm_L), jE n rc 0 ac [] I L = some (some v, jS n I1 L1) ∧ jE n rm 0 am [] I1 L1 = some (some v, jS n I2 L2) ∧ Inv I2 ∧ Mod I2 I2 :=
  ⟨v, _, _, _, _, h1, h2, op_refuse hI hM w⟩
/-- behind stores in the class (J: what it holds then) and in the model -/
theorem Op_fin {I J M K : jm_I} (hJ : Inv J) (hM : Mod M J) (h1 : Cls K J) (h2 : ∀ a, 111 ≤ a → K a = M a) : Inv K ∧ Mod K K := ⟨Inv_congr h1 hJ, Mod_congr h2 h1 hM⟩
theorem rf_ap (I : jm_I) (c b : Nat) : rf I c b = if b = 70 then upd (I b) c (I 70 c + nI 1) else I b := rfl
theorem rfm_ap (I : jm_I) (c b : Nat) : rfm I c b = if b = 112 then upd (I b) (c + 1) (I 112 (c + 1) + nI 1) else I b := rfl
theorem Mod_put {I A : jm_I} (h : Mod I A) {k : Nat} (hk : k < 80) (x : Int32) : Mod (jm_u (jm_u I 132 k x) 111 22 (nI (k + 1))) (jm_u (jm_u A 69 k x) 9 5 (nI (k + 1))) := by
  have h2 := h.2.1
  refine Mod_x h (fun a ha => ?_) ?_ ?_ (fun a ha => ?_) ?_ (fun a j => ?_)
  · rw [jm_u_ne _ _ _ (by omega), jm_u_ne _ _ _ (by omega)]
  · simp [jm_u_ap, upd_ap]
  · simp [jm_u_ap, upd_ap]
  · rw [jm_u_ne _ _ _ (by omega), jm_u_ne _ _ _ (by omega)]
  · simp [jm_u_ap, upd_ap]
  · by_cases h111 : a = 111
    · subst h111
      have q := h2 111 j
      refine ⟨fun e => ?_, fun e => ?_, fun e => ?_⟩
      · subst e; simp [jm_u_ap, upd_ap]
      · subst e; simp [jm_u_ap, upd_ap]; exact q.2.1 rfl
      · subst e; simp [jm_u_ap, upd_ap]; exact q.2.2 rfl
    · by_cases h132 : a = 132
      · subst h132
        intro hj
        have q : I 132 j = A 69 j := h2 132 j hj
        simp [jm_u_ap, upd_ap, q]
      · have q := h2 a j
        rw [jm_u_ne _ _ _ h111, jm_u_ne _ _ _ h132]
        revert q
        generalize I a j = y
        unfold modX
        split <;> first | exact fun q => q | (exfalso; first | exact h111 rfl | exact h132 rfl)
theorem op_put (n : Nat) (x : Int32) : Op n rX9_put rX10_put [.ref 9, .int x] [.ref 111, .int x] := by
  intro I L hI hM
  obtain ⟨e, hk⟩ := Inv_R hI
  generalize zR I = k at e hk
  have em : I 111 22 = nI k := by rw [← e]; exact (hM.2.1 111 22).1 rfl
  by_cases h : k = 80
  · subst h
    have c1 : ¬ nI 80 < nI 80 := by decide
    refine Op_ref hI hM (.int (-6)) (-6) ?_ ?_
    · simp only [eX9_put_0, eX9_put_9, eX9_put_16, e, c1, if_false, h_refuse n I L (-6) (by simp [isR]), jB_s]
    · have em2 : rf I (rz (-6)) 111 22 = nI 80 := by simp [rf_ap, em]
      simp only [eX10_put_0, eX10_put_9, eX10_put_16, em2, not_true_eq_false, if_false, m_no n _ L (-6) (by simp [isR]), jB_s]
  · have hk80 : k < 80 := by omega
    have c1 : nI k < nI 80 := nI_lt hk80 (by decide)
    have c2 : ¬ nI k = nI 80 := fun q => h ((nI_inj (by omega) (by decide)).mp q)
    refine ⟨.int (nI (k + 1)), jm_u (jm_u I 69 k x) 9 5 (nI (k + 1)), L, jm_u (jm_u (jm_u (jm_u I 69 k x) 9 5 (nI (k + 1))) 132 k x) 111 22 (nI (k + 1)), L, ?_, ?_, ?_⟩
    · simp [eX9_put_0, eX9_put_9, eX9_put_16, e, c1, jLI_t, jLW_t, jLL_t, jLZ_t, jLA_t, hk80, jm_u_ap, upd_ap, nI_add]
    · simp [eX10_put_0, eX10_put_9, eX10_put_16, em, c2, jLI_t, jLW_t, jLL_t, jLZ_t, jLA_t, hk80, jm_u_ap, upd_ap, nI_add]
    · refine Op_fin (I := I) (J := jm_u (jm_u I 69 k x) 9 5 (nI (k + 1))) (M := jm_u (jm_u I 132 k x) 111 22 (nI (k + 1))) ?_ (Mod_put hM hk80 x) ?_ ?_
      · refine Inv_u (Inv_u hI ?_) ?_
        · simp [invP, invW]
        · refine ⟨fun q => absurd q (by decide), fun _ => nI_rg (k := 80) (by omega) (by decide)⟩
      · refine ⟨fun a ha => ?_, ?_⟩
        · rw [jm_u_ne _ _ _ (by omega), jm_u_ne _ _ _ (by omega)]
        · simp [jm_u_ap, upd_ap]
      · intro a ha
        funext j
        simp only [jm_u_ap, upd_ap]
        have h9 : ¬ a = 9 := by omega
        have h69 : ¬ a = 69 := by omega
        simp [h9, h69]
theorem meq_u {X Y : jm_I} {c k : Nat} {x : Int32} (h : ∀ a, 111 ≤ a → X a = Y a) : ∀ a, 111 ≤ a → jm_u X c k x a = jm_u Y c k x a := by
  intro a ha
  simp only [jm_u_ap, h a ha]
theorem meq_c {X Y : jm_I} {c k : Nat} {x : Int32} (h : ∀ a, 111 ≤ a → X a = Y a) (hc : c < 111) : ∀ a, 111 ≤ a → jm_u X c k x a = Y a := by
  intro a ha
  rw [jm_u_ne _ _ _ (by omega)]
  exact h a ha
theorem cls_m {X J : jm_I} {c k : Nat} {x : Int32} (h : Cls X J) (hc : 111 ≤ c) : Cls (jm_u X c k x) J :=
  ⟨fun a ha => by rw [jm_u_ne _ _ _ (by omega)]; exact h.1 a ha, by rw [jm_u_ne _ _ _ (by omega)]; exact h.2⟩
theorem st_at {I : jm_I} (h : Inv I) : (∀ a j, a < 8 → I a j = jI00 (fun _ => 0) a j) := fun a j ha => by
  have q := h a j (by omega)
  unfold invP at q
  rw [if_pos ha] at q
  exact q
theorem rg_out {x : Int32} {a b : Nat} (ha : a < 2147483648) (hb : b < 2147483648) (h : zout x (nI a) (nI b) = 0) : rg x (a : Int) (b : Int) := by
  unfold zout at h
  split at h
  · exact absurd h (by decide)
  · split at h
    · exact absurd h (by decide)
    · rename_i h1 h2
      rw [Int32.lt_iff_toInt_lt, nI_toInt ha] at h1
      rw [Int32.lt_iff_toInt_lt, nI_toInt hb] at h2
      exact ⟨by omega, by omega⟩
theorem rg_out2 {x lo : Int32} {a : Int} {b : Nat} (ha : lo.toInt = a) (hb : b < 2147483648) (h : zout x lo (nI b) = 0) : rg x a (b : Int) := by
  unfold zout at h
  split at h
  · exact absurd h (by decide)
  · split at h
    · exact absurd h (by decide)
    · rename_i h1 h2
      rw [Int32.lt_iff_toInt_lt, ha] at h1
      rw [Int32.lt_iff_toInt_lt, nI_toInt hb] at h2
      exact ⟨by omega, by omega⟩
theorem thn_eq0 {a b : Int32} : thn a b = 0 ↔ a = 0 ∧ b = 0 := by
  unfold thn
  split
  · rename_i h; simp [h]
  · rename_i h; simp [h]
/-! moon -/
def inm (m : Int32) : Int32 := if 0 ≤ m ∧ m < nI 4 then 0 else -1
def wMoon (m f p o l : Int32) : Int32 := thn (inm m) (thn (zout f (nI 0) (nI 999999)) (thn (zout p (nI 1000) (nI 999999)) (thn (zout o (nI 0) (nI 99)) (zout l (nI 0) (nI 9999)))))
theorem isZ_inm (m : Int32) : isZ (inm m) := isZ_c isZ_0 isZ_1
theorem isZ_wMoon (m f p o l : Int32) : isZ (wMoon m f p o l) := isZ_thn (isZ_inm m) (isZ_thn (isZ_out _ _ _) (isZ_thn (isZ_out _ _ _) (isZ_thn (isZ_out _ _ _) (isZ_out _ _ _))))
theorem c_moon_a (n : Nat) (I : jm_I) (L : jm_L) (m f p o l : Int32) : jE n rX9_moon 0 [.ref 9, .int m, .int f, .int p, .int o, .int l, .null] [] I L = if wMoon m f p o l = 0 then jE n rX9_moon 88 [.ref 9, .int m, .int f, .int p, .int o, .int l, .int (wMoon m f p o l)] [] I L else jB rX9_moon 87 [.ref 9, .int m, .int f, .int p, .int o, .int l, .int (wMoon m f p o l)] [] (jE n rX9_refuse 0 [.ref 9, .int (wMoon m f p o l), .null] [] I L) := by
  by_cases h : 0 ≤ m ∧ m < nI 4
  · simp only [eX9_moon_0, eX9_moon_8, eX9_moon_12, eX9_moon_13, eX9_moon_81, eX9_moon_108, eX9_moon_112, eX9_moon_113, h_isWithin, h, and_self, if_true, jB_s, n10, if_false, h_outside, h_thn, thn_as, wMoon, inm, n00]
  · simp only [eX9_moon_0, eX9_moon_8, eX9_moon_12, eX9_moon_13, eX9_moon_81, eX9_moon_108, eX9_moon_112, eX9_moon_113, h_isWithin, h, if_false, jB_s, n00, if_true, h_outside, h_thn, thn_as, wMoon, inm]
theorem c_tell (n : Nat) (I : jm_I) (L : jm_L) (k : Nat) (hk : k < 4) (f p o l : Int32) : jE n rX2_tell 0 [.ref 12, .int (nI k), .int f, .int p, .int o, .int l, .null] [] I L = some (some (.int (if I 13 k = 0 then nI 1 else nI 0)), jS n (jm_u (jm_u (jm_u (jm_u (jm_u I 13 k (nI 1)) 14 k f) 15 k p) 16 k o) 17 k l) L) := by
  by_cases h : I 13 k = 0
  · simp [eX2_tell_0, eX2_tell_9, eX2_tell_13, eX2_tell_14, jLI_t, jLW_t, jLL_t, jLZ_t, jLA_t, hk, h]
  · simp [eX2_tell_0, eX2_tell_9, eX2_tell_13, eX2_tell_14, jLI_t, jLW_t, jLL_t, jLZ_t, jLA_t, hk, h]
theorem m_moon_a (n : Nat) (I : jm_I) (L : jm_L) (m f p o l : Int32) : jE n rX10_moon 0 [.ref 111, .int m, .int f, .int p, .int o, .int l, .null, .null] [] I L = if wMoon m f p o l = 0 then jE n rX10_moon 93 [.ref 111, .int m, .int f, .int p, .int o, .int l, .int 0, .null] [] I L else if inm m = 0 then jB rX10_moon 92 [.ref 111, .int m, .int f, .int p, .int o, .int l, .int (wMoon m f p o l), .null] [] (jE n rX10_no 0 [.ref 111, .int (wMoon m f p o l)] [] I L) else jB rX10_moon 17 [.ref 111, .int m, .int f, .int p, .int o, .int l, .null, .null] [] (jE n rX10_no 0 [.ref 111, .int (wMoon m f p o l)] [] I L) := by
  have hm : (nI 0 ≤ m ∧ m ≤ nI 3) ↔ (0 ≤ m ∧ m < nI 4) := by
    rw [Int32.le_iff_toInt_le, Int32.le_iff_toInt_le, Int32.le_iff_toInt_le, Int32.lt_iff_toInt_lt]
    rw [show (nI 0).toInt = 0 from by decide, show (nI 3).toInt = 3 from by decide, show (nI 4).toInt = 4 from by decide, show (0 : Int32).toInt = 0 from by decide]
    omega
  by_cases h : 0 ≤ m ∧ m < nI 4
  · have hm2 : nI 0 ≤ m ∧ m ≤ nI 3 := hm.mpr h
    have e0 : inm m = 0 := by simp [inm, h]
    by_cases h1 : zout f (nI 0) (nI 999999) = 0
    · by_cases h2 : zout p (nI 1000) (nI 999999) = 0
      · by_cases h3 : zout o (nI 0) (nI 99) = 0
        · by_cases h4 : zout l (nI 0) (nI 9999) = 0 <;> simp [eX10_moon_0, eX10_moon_12, eX10_moon_18, eX10_moon_34, eX10_moon_47, eX10_moon_52, eX10_moon_64, eX10_moon_69, eX10_moon_81, eX10_moon_86, eX10_moon_102, eX10_moon_106, eX10_moon_107, m_isIn, hm2, jB_s, n10, m_out, h1, h2, h3, h4, wMoon, e0, thn_0]
        · simp [eX10_moon_0, eX10_moon_12, eX10_moon_18, eX10_moon_34, eX10_moon_47, eX10_moon_52, eX10_moon_64, eX10_moon_69, eX10_moon_81, eX10_moon_86, eX10_moon_102, eX10_moon_106, eX10_moon_107, m_isIn, hm2, jB_s, n10, m_out, h1, h2, h3, wMoon, e0, thn_0, thn_n]
      · simp [eX10_moon_0, eX10_moon_12, eX10_moon_18, eX10_moon_34, eX10_moon_47, eX10_moon_52, eX10_moon_64, eX10_moon_69, eX10_moon_81, eX10_moon_86, eX10_moon_102, eX10_moon_106, eX10_moon_107, m_isIn, hm2, jB_s, n10, m_out, h1, h2, wMoon, e0, thn_0, thn_n]
    · simp [eX10_moon_0, eX10_moon_12, eX10_moon_18, eX10_moon_34, eX10_moon_47, eX10_moon_52, eX10_moon_64, eX10_moon_69, eX10_moon_81, eX10_moon_86, eX10_moon_102, eX10_moon_106, eX10_moon_107, m_isIn, hm2, jB_s, n10, m_out, h1, wMoon, e0, thn_0, thn_n]
  · have hm2 : ¬ (nI 0 ≤ m ∧ m ≤ nI 3) := fun q => h (hm.mp q)
    have e0 : inm m = -1 := by simp [inm, h]
    have e1 : ¬ (-1 : Int32) = 0 := by decide
    have e2 : wMoon m f p o l = -1 := by unfold wMoon; rw [e0, thn_n e1]
    have hm3 : ¬ (0 ≤ m ∧ m ≤ nI 3) := hm2
    rw [e2, if_neg e1, e0, if_neg e1]
    simp [eX10_moon_0, eX10_moon_12, eX10_moon_18, eX10_moon_34, eX10_moon_47, eX10_moon_52, eX10_moon_64, eX10_moon_69, eX10_moon_81, eX10_moon_86, eX10_moon_102, eX10_moon_106, eX10_moon_107, m_isIn, hm3, jB_s, n00]
theorem op_moon (n : Nat) (m f p o l : Int32) : Op n rX9_moon rX10_moon [.ref 9, .int m, .int f, .int p, .int o, .int l, .null] [.ref 111, .int m, .int f, .int p, .int o, .int l, .null, .null] := by
  intro I L hI hM
  by_cases h0 : wMoon m f p o l = 0
  · have h := h0
    unfold wMoon at h
    rw [thn_eq0, thn_eq0, thn_eq0, thn_eq0] at h
    obtain ⟨g1, g2, g3, g4, g5⟩ := h
    have g1 : 0 ≤ m ∧ m < nI 4 := by
      unfold inm at g1
      split at g1
      · assumption
      · exact absurd g1 (by decide)
    obtain ⟨k, hk, e⟩ : ∃ k, k < 4 ∧ m = nI k := by
      rcases pk_ix m (n := 4) (by decide) with q | q | ⟨k, hk, e⟩
      · exact absurd g1.1 (Int32.not_le.mpr q)
      · exact absurd g1.2 (Int32.not_lt.mpr q)
      · exact ⟨k, hk, e⟩
    subst e
    have em : I 119 k = I 13 k := hM.1 119 k hk
    refine ⟨.int (if I 13 k = 0 then nI 1 else nI 0), jm_u (jm_u (jm_u (jm_u (jm_u I 13 k (nI 1)) 14 k f) 15 k p) 16 k o) 17 k l, L, jm_u (jm_u (jm_u (jm_u (jm_u (jm_u (jm_u (jm_u (jm_u (jm_u I 13 k (nI 1)) 14 k f) 15 k p) 16 k o) 17 k l) 119 k (nI 1)) 113 k f) 114 k p) 115 k o) 116 k l, L, ?_, ?_, ?_⟩
    · rw [c_moon_a, if_pos h0]
      by_cases h : I 13 k = 0
      · simp [eX9_moon_88, eX9_moon_108, eX9_moon_112, eX9_moon_113, c_tell n I L k hk, h, jB_s, n10]
      · simp [eX9_moon_88, eX9_moon_108, eX9_moon_112, eX9_moon_113, c_tell n I L k hk, h, jB_s, n00]
    · rw [m_moon_a, if_pos h0]
      by_cases h : I 13 k = 0
      · simp [eX10_moon_93, eX10_moon_102, eX10_moon_106, eX10_moon_107, jLI_t, jLW_t, jLL_t, jLZ_t, jLA_t, hk, jm_u_ap, em, h]
      · simp [eX10_moon_93, eX10_moon_102, eX10_moon_106, eX10_moon_107, jLI_t, jLW_t, jLL_t, jLZ_t, jLA_t, hk, jm_u_ap, em, h]
    · refine Op_fin (I := I) (J := jm_u (jm_u (jm_u (jm_u (jm_u I 13 k (nI 1)) 14 k f) 15 k p) 16 k o) 17 k l) (M := jm_u (jm_u (jm_u (jm_u (jm_u I 119 k (nI 1)) 113 k f) 114 k p) 115 k o) 116 k l) ?_ (Mod_116 (Mod_115 (Mod_114 (Mod_113 (Mod_119 hM k _) k _) k _) k _) k _) ?_ ?_
      · have r2 := rg_out (by decide) (by decide) g2
        have r3 := rg_out (by decide) (by decide) g3
        have r4 := rg_out (by decide) (by decide) g4
        have r5 := rg_out (by decide) (by decide) g5
        refine Inv_u (Inv_u (Inv_u (Inv_u (Inv_u hI ?_) ?_) ?_) ?_) ?_
        · exact fun _ => Or.inr rfl
        · exact fun _ => r2
        · exact fun _ => ⟨by have := r3.1; omega, r3.2⟩
        · exact fun _ => r4
        · exact fun _ => r5
      · repeat refine cls_m ?_ (by decide)
        exact Cls_rf _
      · repeat first | refine meq_u ?_ | refine meq_c ?_ (by decide)
        exact fun _ _ => rfl
  · have hr := isR_of (isZ_wMoon m f p o l) h0
    refine Op_ref hI hM (.int (wMoon m f p o l)) (wMoon m f p o l) ?_ ?_
    · rw [c_moon_a, if_neg h0, h_refuse n I L _ hr, jB_s]
      simp only [eX9_moon_81]
    · rw [m_moon_a, if_neg h0, m_no n _ L _ hr]
      split
      · rw [jB_s]; simp only [eX10_moon_86]
      · rw [jB_s]; simp only [eX10_moon_12]
