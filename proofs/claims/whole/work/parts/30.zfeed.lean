theorem nI_sb {a b : Nat} (h : b ≤ a) : nI a - nI b = nI (a - b) := by
  rw [nI_iZ, nI_iZ, iZ_sub, nI_iZ]
  congr 1
  omega
def gS (J : jm_I) (a : Nat) (K : Nat → Int32) (b f : Nat) (x : Int32) : jm_I := jm_u (jm_uA J a K) b f x
theorem gS_w (J : jm_I) {a b : Nat} (h : a ≠ b) (K : Nat → Int32) (f : Nat) (x : Int32) (k : Nat) (y : Int32) : jm_u (gS J a K b f x) a k y = gS J a (upd K k y) b f x := by
  funext c j
  simp only [gS, jm_u_ap, jm_uA_ap]
  by_cases h1 : c = a
  · subst h1; simp [h]
  · by_cases h2 : c = b
    · subst h2; simp [h1]
    · simp [h1, h2]
theorem gS_c (J : jm_I) (a b : Nat) (K : Nat → Int32) (f : Nat) (x y : Int32) : jm_u (gS J a K b f x) b f y = gS J a K b f y := by
  funext c j
  simp only [gS, jm_u_ap]
  by_cases h1 : c = b
  · subst h1; simp [upd_ap]
    by_cases h : j = f <;> simp [h, upd_ap]
  · simp [h1]
theorem gS_at (J : jm_I) {a b c : Nat} (K : Nat → Int32) (f : Nat) (x : Int32) (h1 : c ≠ a) (h2 : c ≠ b) : gS J a K b f x c = J c := by
  unfold gS
  rw [jm_u_ne _ _ _ h2, jm_uA_ne _ _ h1]
theorem gS_a (J : jm_I) {a b : Nat} (h : a ≠ b) (K : Nat → Int32) (f : Nat) (x : Int32) : gS J a K b f x a = K := by
  unfold gS
  rw [jm_u_ne _ _ _ h, jm_uA_ap, if_pos rfl]
theorem gS_f (J : jm_I) (a b : Nat) (K : Nat → Int32) (f : Nat) (x : Int32) : gS J a K b f x b f = x := by
  unfold gS
  rw [jm_u_eq, if_pos rfl]
theorem gS_b (J : jm_I) {a b : Nat} (h : b ≠ a) (K : Nat → Int32) {f j : Nat} (x : Int32) (hj : j ≠ f) : gS J a K b f x b j = J b j := by
  unfold gS
  rw [jm_u_eq, if_neg hj, jm_uA_ne _ _ h]
theorem gS_0 (J : jm_I) (a b f : Nat) {x : Int32} (h : J b f = x) : gS J a (J a) b f x = J := by
  funext c j
  simp only [gS, jm_u_ap, jm_uA_ap, upd_ap]
  by_cases h1 : c = a
  · subst h1; by_cases h2 : c = b
    · subst h2
      by_cases q : j = f
      · subst q; simp [h, upd_ap]
      · simp [q, upd_ap]
    · simp [h2]
  · by_cases h2 : c = b
    · subst h2
      by_cases q : j = f
      · subst q; simp [h1, h, upd_ap]
      · simp [h1, q, upd_ap]
    · simp [h1, h2]
def byt (x : Int64) (k : Nat) : Int32 := ((x >>> ((nI (8 * k)).toInt64 &&& 63)) &&& lN 255).toInt32
theorem c_feed_loop (n : Nat) (I : jm_I) (L : jm_L) (x : Int64) (X m : Nat) (w : Int32) (hX : X + m ≤ 20) (hm : m ≤ 8) : ∀ (d i : Nat), i + d = m → jE n rX9_feed 51 [.ref 9, .int (nI m), .long x, .null, .int w, .int (nI i)] [] (gS I 67 (psK (I 67) X (byt x) i) 66 1 (nI (X + i))) L = some (some (.int (nI (X + m))), jS n (gS I 67 (psK (I 67) X (byt x) m) 66 1 (nI (X + m))) L) := by
  intro d
  induction d with
  | zero =>
    intro i hi
    have : i = m := by omega
    subst this
    have c0 : nI i ≤ nI i := Int32.le_refl _
    simp only [eX9_feed_51, eX9_feed_82, c0, if_true, gS_f]
  | succ d ih =>
    intro i hi
    have c0 : ¬ nI m ≤ nI i := nI_ge (by omega) (by omega)
    have hd0 : ∀ J, jE n rX9_feed 51 [.ref 9, .int (nI m), .long x, .null, .int w, .int (nI i)] [] J L = jE n rX9_feed 57 [.ref 9, .int (nI m), .long x, .null, .int w, .int (nI i)] [] J L := by
      intro J
      simp only [eX9_feed_51, c0, if_false]
    rw [hd0]
    have hx : X + i < 20 := by omega
    have c1 : ¬ nI 20 ≤ nI (X + i) := nI_ge hx (by omega)
    have ih2 := ih (i + 1) (by omega)
    rw [← psK_s] at ih2
    have eb := byte_e x (k := 8 * i) (by omega)
    have ea : ∀ y, jE n rX5_add 0 [.ref 66, .int y] [] (gS I 67 (psK (I 67) X (byt x) i) 66 1 (nI (X + i))) L = some (none, jS n (gS I 67 (upd (psK (I 67) X (byt x) i) (X + i) y) 66 1 (nI (X + i + 1))) L) := by
      intro y
      simp only [eX5_add_0, eX5_add_9, eX5_add_29, gS_f, c1, if_false, jLI_t, jLW_t, jLL_t, jLZ_t, jLA_t, hx, gS_w I (show 67 ≠ 66 by decide), nI_add, gS_c]
    simp only [eX9_feed_57, pk_mul, eb, ea, jB_v, nI_add]
    exact ih2
theorem m_feed_loop (n : Nat) (I : jm_I) (L : jm_L) (x : Int64) (X m : Nat) (w : Int32) (hX : X + m ≤ 20) (hm : m ≤ 8) : ∀ (d i : Nat), i + d = m → jE n rX10_feed 46 [.ref 111, .int (nI m), .long x, .null, .int w, .int (nI i)] [] (gS I 133 (psK (I 133) X (byt x) i) 111 28 (nI (X + i))) L = some (some (.int (nI (X + m))), jS n (gS I 133 (psK (I 133) X (byt x) m) 111 28 (nI (X + m))) L) := by
  intro d
  induction d with
  | zero =>
    intro i hi
    have : i = m := by omega
    subst this
    have c0 : nI i ≤ nI i := Int32.le_refl _
    simp only [eX10_feed_46, eX10_feed_89, c0, if_true, gS_f]
  | succ d ih =>
    intro i hi
    have c0 : ¬ nI m ≤ nI i := nI_ge (by omega) (by omega)
    have hd0 : ∀ J, jE n rX10_feed 46 [.ref 111, .int (nI m), .long x, .null, .int w, .int (nI i)] [] J L = jE n rX10_feed 52 [.ref 111, .int (nI m), .long x, .null, .int w, .int (nI i)] [] J L := by
      intro J
      simp only [eX10_feed_46, c0, if_false]
    rw [hd0]
    have hx : X + i < 20 := by omega
    have ih2 := ih (i + 1) (by omega)
    rw [← psK_s] at ih2
    simp only [eX10_feed_52, pk_mul, gS_f, jLI_t, jLW_t, jLL_t, jLZ_t, jLA_t, hx, gS_w I (show 133 ≠ 111 by decide), nI_add, gS_c]
    exact ih2
theorem Mod_feed {I A : jm_I} (h : Mod I A) (K K' : Nat → Int32) (v : Int32) (hK : ∀ j, j < 20 → K' j = K j) : Mod (gS I 133 K' 111 28 v) (gS A 67 K 66 1 v) := by
  have h2 := h.2.1
  refine Mod_x h (fun a ha => ?_) ?_ ?_ (fun a ha => ?_) ?_ (fun a j => ?_)
  · exact gS_at _ _ _ _ (by omega) (by omega)
  · exact gS_b _ (by decide) _ _ (by decide)
  · exact gS_b _ (by decide) _ _ (by decide)
  · exact gS_at _ _ _ _ (by omega) (by omega)
  · rw [gS_at _ _ _ _ (by omega) (by omega)]
  · by_cases h111 : a = 111
    · subst h111
      have q := h2 111 j
      refine ⟨fun e => ?_, fun e => ?_, fun e => ?_⟩
      · subst e; rw [gS_b _ (by decide) _ _ (by decide), gS_at _ _ _ _ (by omega) (by omega)]; exact q.1 rfl
      · subst e; rw [gS_f, gS_f]
      · subst e; rw [gS_b _ (by decide) _ _ (by decide), gS_at _ _ _ _ (by omega) (by omega)]; exact q.2.2 rfl
    · by_cases h133 : a = 133
      · subst h133
        intro hj
        rw [gS_a _ (by decide), gS_a _ (by decide)]
        exact hK j hj
      · have q := h2 a j
        rw [gS_at _ _ _ _ h133 h111]
        revert q
        generalize I a j = y
        unfold modX
        rw [gS_at A (c := 69) _ _ _ (by decide) (by decide), gS_at A (c := 70) _ _ _ (by decide) (by decide)]
        split <;> first | exact fun q => q | (exfalso; first | exact h111 rfl | exact h133 rfl)
theorem op_feed (n : Nat) (m : Int32) (x : Int64) : Op n rX9_feed rX10_feed [.ref 9, .int m, .long x, .null, .null, .null] [.ref 111, .int m, .long x, .null, .null, .null] := by
  intro I L hI hM
  obtain ⟨eX, hX⟩ := Inv_X hI
  generalize zX I = X at eX hX
  have em : I 111 28 = nI X := by rw [← eX]; exact (hM.2.1 111 28).2.1 rfl
  have e6 : ¬ (-6 : Int32) = 0 := by decide
  by_cases hz : zout m (nI 1) (nI 8) = 0
  · have r := rg_out (by decide) (by decide) hz
    obtain ⟨k, hk, e⟩ := rg_nI (k := 8) (by decide) ⟨by have := r.1; omega, r.2⟩
    subst e
    have hk1 : 1 ≤ k := by
      have := r.1
      rw [nI_toInt (by omega)] at this
      omega
    have es : nI 20 - nI k = nI (20 - k) := nI_sb (by omega)
    by_cases hf : X + k ≤ 20
    · have c1 : nI X ≤ nI (20 - k) := nI_le (by omega) (by omega)
      have c2 : nI (X + k) ≤ nI 20 := nI_le (by omega) (by omega)
      have s1 := gS_0 I 67 66 1 eX
      have l1 := c_feed_loop n I L x X k 0 hf hk k 0 (Nat.zero_add k)
      rw [psK_0, Nat.add_zero, s1] at l1
      generalize hB : gS I 67 (psK (I 67) X (byt x) k) 66 1 (nI (X + k)) = B at l1
      have eB : B 111 28 = nI X := by rw [← hB, gS_at _ _ _ _ (by decide) (by decide), em]
      have s2 := gS_0 B 133 111 28 eB
      have l2 := m_feed_loop n B L x X k 0 hf hk k 0 (Nat.zero_add k)
      rw [psK_0, Nat.add_zero, s2] at l2
      refine ⟨.int (nI (X + k)), B, L, gS B 133 (psK (B 133) X (byt x) k) 111 28 (nI (X + k)), L, ?_, ?_, ?_⟩
      · simp [eX9_feed_0, eX9_feed_25, eX9_feed_30, eX9_feed_31, eX9_feed_48, h_outside, hz, jB_s, eX, es, c1, h_thn, thn_0, n00t]
        exact l1
      · simp [eX10_feed_0, eX10_feed_16, eX10_feed_27, eX10_feed_31, eX10_feed_43, m_out, hz, jB_s, eB, nI_add, c2, n00t]
        exact l2
      · have e133 : B 133 = I 133 := by rw [← hB, gS_at _ _ _ _ (by decide) (by decide)]
        refine Op_fin (I := I) (J := B) (M := gS I 133 (psK (I 133) X (byt x) k) 111 28 (nI (X + k))) ?_ ?_ ?_ ?_
        · rw [← hB]
          intro a j ha
          by_cases h67 : a = 67
          · subst h67; trivial
          · by_cases h66 : a = 66
            · subst h66
              intro e
              subst e
              rw [gS_f]
              exact nI_rg (k := 20) hf (by decide)
            · rw [gS_at _ _ _ _ h67 h66]
              exact hI a j ha
        · rw [← hB]
          refine Mod_feed hM _ _ _ (fun j hj => ?_)
          unfold psK
          have : I 133 j = I 67 j := hM.2.1 133 j hj
          rw [this]
        · refine ⟨fun a ha => gS_at _ _ _ _ (by omega) (by omega), ?_⟩
          rw [gS_at _ _ _ _ (by omega) (by omega)]
        · intro a ha
          rw [e133, ← hB]
          by_cases h1 : a = 133
          · subst h1; rw [gS_a _ (by decide), gS_a _ (by decide)]
          · by_cases h2 : a = 111
            · subst h2
              funext j
              by_cases hj : j = 28
              · subst hj; rw [gS_f, gS_f]
              · rw [gS_b _ (by decide) _ _ hj, gS_b _ (by decide) _ _ hj, gS_at _ _ _ _ (by decide) (by decide)]
            · rw [gS_at _ _ _ _ h1 h2, gS_at _ _ _ _ h1 h2, gS_at _ _ _ _ (by omega) (by omega)]
    · have c1 : ¬ nI X ≤ nI (20 - k) := fun q => by
        rw [Int32.le_iff_toInt_le, nI_toInt (by omega), nI_toInt (by omega)] at q
        omega
      have c2 : ¬ nI (X + k) ≤ nI 20 := fun q => by
        rw [Int32.le_iff_toInt_le, nI_toInt (by omega), nI_toInt (by omega)] at q
        omega
      refine Op_ref hI hM (.int (-6)) (-6) ?_ ?_
      · simp [eX9_feed_0, eX9_feed_25, eX9_feed_30, eX9_feed_31, eX9_feed_41, h_outside, hz, jB_s, eX, es, c1, h_thn, thn_0, h_refuse n I L (-6) (by simp [isR])]
      · have e2 : rf I (rz (-6)) 111 28 = nI X := by rw [rf_ap, if_neg (by decide), em]
        simp [eX10_feed_0, eX10_feed_16, eX10_feed_27, eX10_feed_31, eX10_feed_36, m_out, hz, jB_s, e2, nI_add, c2, m_no n _ L (-6) (by simp [isR])]
  · have hr := isR_of (isZ_out m (nI 1) (nI 8)) hz
    refine Op_ref hI hM (.int (zout m (nI 1) (nI 8))) (zout m (nI 1) (nI 8)) ?_ ?_
    · by_cases hc : I 66 1 ≤ nI 20 - m
      · simp [eX9_feed_0, eX9_feed_25, eX9_feed_30, eX9_feed_31, eX9_feed_41, h_outside, hc, jB_s, h_thn, thn_n hz, hz, h_refuse n I L _ hr]
      · simp [eX9_feed_0, eX9_feed_25, eX9_feed_30, eX9_feed_31, eX9_feed_41, h_outside, hc, jB_s, h_thn, thn_n hz, hz, h_refuse n I L _ hr]
    · simp [eX10_feed_0, eX10_feed_16, eX10_feed_27, eX10_feed_31, eX10_feed_36, m_out, hz, jB_s, m_no n _ L _ hr]
