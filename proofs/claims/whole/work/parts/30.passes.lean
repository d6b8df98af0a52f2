/-! the model's image -/
def stK (J : jm_I) (K : Nat → Int32) (c : Nat) : jm_I := jm_u (jm_uA J 144 K) 111 42 (nI c)
def psK (K : Nat → Int32) (c : Nat) (f : Nat → Int32) (m : Nat) : Nat → Int32 := fun j => if c ≤ j ∧ j < c + m then f (j - c) else K j
theorem stK_w (J : jm_I) (K : Nat → Int32) (c k : Nat) (x : Int32) : jm_u (stK J K c) 144 k x = stK J (upd K k x) c := by
  funext a j
  simp only [stK, jm_u_ap, jm_uA_ap, upd_ap]
  by_cases h : a = 144
  · subst h; simp
  · by_cases h1 : a = 111 <;> simp [h, h1]
theorem stK_c (J : jm_I) (K : Nat → Int32) (c d : Nat) : jm_u (stK J K c) 111 42 (nI d) = stK J K d := by
  funext a j
  simp only [stK, jm_u_ap, upd_ap]
  by_cases h1 : a = 111
  · subst h1; simp
    by_cases h : j = 42 <;> simp [h, upd_ap]
  · simp [h1]
theorem stK_at (J : jm_I) (K : Nat → Int32) (c : Nat) {a : Nat} (h1 : a ≠ 111) (h2 : a ≠ 144) : stK J K c a = J a := by
  unfold stK
  rw [jm_u_ne _ _ _ h1, jm_uA_ne _ _ h2]
theorem stK_111 (J : jm_I) (K : Nat → Int32) (c : Nat) {j : Nat} (h : j ≠ 42) : stK J K c 111 j = J 111 j := by
  unfold stK
  rw [jm_u_eq, if_neg h, jm_uA_ne _ _ (by decide)]
theorem stK_42 (J : jm_I) (K : Nat → Int32) (c : Nat) : stK J K c 111 42 = nI c := by
  unfold stK
  rw [jm_u_eq, if_pos rfl]
theorem stK_144 (J : jm_I) (K : Nat → Int32) (c : Nat) : stK J K c 144 = K := by
  unfold stK
  rw [jm_u_ne _ _ _ (by decide), jm_uA_ap, if_pos rfl]
theorem stK_s (J : jm_I) (K : Nat → Int32) (c : Nat) {a j : Nat} {x : Int32} (h : stK J K c a j = x) : jm_u (stK J K c) a j x = stK J K c := by
  funext b k
  rw [jm_u_ap]
  by_cases hb : b = a
  · rw [if_pos hb, upd_ap]
    by_cases hk : k = j
    · rw [if_pos hk, ← h, hb, hk]
    · rw [if_neg hk]
  · rw [if_neg hb]
theorem psK_0 (K : Nat → Int32) (c : Nat) (f : Nat → Int32) : psK K c f 0 = K := by
  funext j
  unfold psK
  rw [if_neg (by omega)]
theorem psK_s (K : Nat → Int32) (c : Nat) (f : Nat → Int32) (m : Nat) : upd (psK K c f m) (c + m) (f m) = psK K c f (m + 1) := by
  funext j
  rw [upd_ap]
  unfold psK
  by_cases h : j = c + m
  · subst h
    rw [if_pos rfl, if_pos (by omega)]
    congr 1
    omega
  · rw [if_neg h]
    by_cases h2 : c ≤ j ∧ j < c + m
    · rw [if_pos h2, if_pos (by omega)]
    · rw [if_neg h2, if_neg (by omega)]
theorem psK_in (K : Nat → Int32) (f : Nat → Int32) {c m j : Nat} (h : j < m) : psK K c f m (c + j) = f j := by
  unfold psK
  rw [if_pos (by omega)]
  congr 1
  omega
theorem psK_out (K : Nat → Int32) (f : Nat → Int32) {c m j : Nat} (h : j < c ∨ c + m ≤ j) : psK K c f m j = K j := by
  unfold psK
  rw [if_neg (by omega)]
theorem upd_ne (f : Nat → Int32) {k j : Nat} (x : Int32) (h : j ≠ k) : upd f k x j = f j := by rw [upd_ap, if_neg h]
theorem upd_eq (f : Nat → Int32) (k : Nat) (x : Int32) : upd f k x k = x := by rw [upd_ap, if_pos rfl]
theorem m_pk_loop (n : Nat) (J : jm_I) (L : jm_L) (K : Nat → Int32) (c a m : Nat) (h43 : J 111 43 = nI 1) (h1 : a ≠ 111) (h2 : a ≠ 144) (hA : jLA n a = m) (hI : jLI n a = m) (hm : 0 < m) (hc : c + m ≤ 1000) : ∀ (d i : Nat), i + d = m → jE n rX10_passes 2 [.ref 111, .ref a, .int (nI i)] [] (stK J (psK K c (J a) i) (c + i)) L = some (none, jS n (stK J (psK K c (J a) m) (c + m)) L) := by
  intro d
  induction d with
  | zero =>
    intro i hi
    have : i = m := by omega
    subst this
    have c0 : nI i ≤ nI i := Int32.le_refl _
    simp only [eX10_passes_2, eX10_passes_58, hA, hm, c0, if_true]
  | succ d ih =>
    intro i hi
    have c0 : ¬ nI m ≤ nI i := nI_ge (by omega) (by omega)
    have hd0 : jE n rX10_passes 2 [.ref 111, .ref a, .int (nI i)] [] (stK J (psK K c (J a) i) (c + i)) L = jE n rX10_passes 8 [.ref 111, .ref a, .int (nI i)] [] (stK J (psK K c (J a) i) (c + i)) L := by
      simp only [eX10_passes_2, hA, hm, c0, if_false]
    rw [hd0]
    have hi2 : i < m := by omega
    have hx : c + i < 1000 := by omega
    have ih2 := ih (i + 1) (by omega)
    rw [← psK_s] at ih2
    simp only [eX10_passes_8, eX10_passes_15, eX10_passes_42, stK_111 J _ _ (show 43 ≠ 42 by decide), h43, n10, if_false, stK_42, hI, hi2, stK_at J _ _ h1 h2, jLI_t, jLW_t, jLL_t, jLZ_t, jLA_t, hx, stK_w, nI_add, stK_c]
    exact ih2
theorem m_pk (n : Nat) (J : jm_I) (L : jm_L) (K : Nat → Int32) (c a : Nat) (h43 : J 111 43 = nI 1) (h1 : a ≠ 111) (h2 : a ≠ 144) (hA : jLA n a = jLI n a) (hm : 0 < jLI n a) (hc : c + jLI n a ≤ 1000) : jE n rX10_passes 0 [.ref 111, .ref a, .null] [] (stK J K c) L = some (none, jS n (stK J (psK K c (J a) (jLI n a)) (c + jLI n a)) L) := by
  simp only [eX10_passes_0]
  have := m_pk_loop n J L K c a (jLI n a) h43 h1 h2 hA rfl hm hc (jLI n a) 0 (Nat.zero_add _)
  rwa [psK_0, Nat.add_zero] at this
theorem m_pk1 (n : Nat) (J : jm_I) (L : jm_L) (K : Nat → Int32) (c : Nat) (v : Int32) (h43 : J 111 43 = nI 1) (hc : c < 1000) : jE n rX10_passOne 0 [.ref 111, .int v, .null] [] (stK J K c) L = some (some (.int v), jS n (stK J (upd K c v) (c + 1)) L) := by
  simp only [eX10_passOne_0, eX10_passOne_7, eX10_passOne_11, eX10_passOne_20, eX10_passOne_28, eX10_passOne_38, stK_111 J _ _ (show 43 ≠ 42 by decide), h43, n10, if_false, stK_42, jLI_t, jLW_t, jLL_t, jLZ_t, jLA_t, hc, stK_w, nI_add, stK_c]
theorem m_pk_t (n : Nat) (J : jm_I) (L : jm_L) (K : Nat → Int32) (m : Nat) (h43 : J 111 43 = nI 1) (hm : m < 4) (hb : J 119 m = 0 ∨ J 119 m = 1) : jE n rX10_passesAll 207 [.ref 111, .int (nI m)] [] (stK J K (586 + m)) L = jE n rX10_passesAll 207 [.ref 111, .int (nI (m + 1))] [] (stK J (upd K (586 + m) (J 119 m)) (586 + m + 1)) L := by
  have c0 : ¬ nI 4 ≤ nI m := nI_ge hm (by decide)
  have hx : 586 + m < 1000 := by omega
  have hd0 : jE n rX10_passesAll 207 [.ref 111, .int (nI m)] [] (stK J K (586 + m)) L = jE n rX10_passesAll 212 [.ref 111, .int (nI m)] [] (stK J K (586 + m)) L := by
    simp only [eX10_passesAll_207, c0, if_false]
  rw [hd0]
  have q : ∀ K c, stK J K c 119 = J 119 := fun K c => stK_at J K c (by decide) (by decide)
  rcases hb with e | e
  · have s := stK_s J (upd K (586 + m) (nI 0)) (586 + m + 1) (a := 119) (j := m) (x := nI 0) (by rw [q]; exact e)
    simp (decide := true) [eX10_passesAll_212, eX10_passesAll_227, eX10_passesAll_231, eX10_passesAll_232, eX10_passesAll_239, eX10_passesAll_243, eX10_passesAll_244, jLI_t, jLW_t, jLL_t, jLZ_t, jLA_t, hm, q, e, m_pk1 n J L _ _ _ h43 hx, jB_s, s, nI_add]
    simp only [n00]
  · have s := stK_s J (upd K (586 + m) (nI 1)) (586 + m + 1) (a := 119) (j := m) (x := nI 1) (by rw [q]; exact e)
    have n11 : (1 : Int32) = nI 1 := rfl
    simp (decide := true) [eX10_passesAll_212, eX10_passesAll_227, eX10_passesAll_231, eX10_passesAll_232, eX10_passesAll_239, eX10_passesAll_243, eX10_passesAll_244, jLI_t, jLW_t, jLL_t, jLZ_t, jLA_t, hm, q, e, m_pk1 n J L _ _ _ h43 hx, jB_s, s, nI_add]
    simp only [n11]
def kpA (J : jm_I) : Nat → Int32 := (psK (psK (psK (psK (psK (psK (psK (psK (psK (psK (psK (psK (psK (psK (psK (psK (psK (psK (psK (psK (psK (psK (J 144) 0 (J 113) 4) 4 (J 114) 4) 8 (J 115) 4) 12 (J 116) 4) 16 (J 117) 16) 32 (J 118) 5) 37 (J 121) 6) 43 (J 122) 4) 47 (J 123) 4) 51 (J 124) 4) 55 (J 125) 40) 95 (J 126) 40) 135 (J 127) 40) 175 (J 128) 40) 215 (J 129) 40) 255 (J 130) 40) 295 (J 131) 40) 335 (J 134) 72) 407 (J 135) 9) 416 (J 136) 4) 420 (J 137) 4) 424 (J 143) 160)
def kpB (J : jm_I) : Nat → Int32 := upd (upd (kpA J) 584 (J 111 20)) 585 (J 111 29)
def kpC (J : jm_I) : Nat → Int32 := upd (upd (upd (upd (kpB J) 586 (J 119 0)) 587 (J 119 1)) 588 (J 119 2)) 589 (J 119 3)
theorem st_kp (J : jm_I) (c : Int32) : jm_u J 111 42 (nI 0) = stK J (J 144) 0 := by
  funext a j
  simp only [stK, jm_u_ap, jm_uA_ap]
  by_cases h : a = 144
  · subst h; simp
  · by_cases h1 : a = 111
    · subst h1; simp
    · simp [h, h1]
theorem m_passesAll_k (n : Nat) (J : jm_I) (L : jm_L) (h43 : J 111 43 = nI 1) (hb : ∀ m, m < 4 → J 119 m = 0 ∨ J 119 m = 1) : jE n rX10_passesAll 0 [.ref 111, .null] [] J L = some (none, jS n (stK J (kpC J) 590) L) := by
  have e1 : jE n rX10_passesAll 0 [.ref 111, .null] [] J L = jE n rX10_passesAll 181 [.ref 111, .null] [] (stK J (kpA J) 584) L := by
    simp (decide := true) only [eX10_passesAll_0, st_kp J 0, m_pk n J L, h43, jLI_t, jLW_t, jLL_t, jLZ_t, jLA_t, jB_v, Nat.zero_add, Nat.reduceAdd, Nat.reduceLeDiff, kpA]
  have s1 := stK_s J (upd (kpA J) 584 (J 111 20)) 585 (a := 111) (j := 20) (x := J 111 20) (stK_111 J _ _ (by decide))
  have s2 := stK_s J (kpB J) 586 (a := 111) (j := 29) (x := J 111 29) (stK_111 J _ _ (by decide))
  have e2 : jE n rX10_passesAll 181 [.ref 111, .null] [] (stK J (kpA J) 584) L = jE n rX10_passesAll 207 [.ref 111, .int (nI 0)] [] (stK J (kpB J) 586) L := by
    have d1 := m_pk1 n J L (kpA J) 584 (J 111 20) h43 (by decide)
    have d2 := m_pk1 n J L (upd (kpA J) 584 (J 111 20)) 585 (J 111 29) h43 (by decide)
    simp only [eX10_passesAll_0, stK_111 J _ _ (show 20 ≠ 42 by decide), stK_111 J _ _ (show 29 ≠ 42 by decide), d1, d2, jB_s, s1]
    rw [show upd (upd (kpA J) 584 (J 111 20)) 585 (J 111 29) = kpB J from rfl, s2]
  rw [e1, e2]
  have t0 := m_pk_t n J L (kpB J) 0 h43 (by decide) (hb 0 (by decide))
  have t1 := m_pk_t n J L (upd (kpB J) 586 (J 119 0)) 1 h43 (by decide) (hb 1 (by decide))
  have t2 := m_pk_t n J L (upd (upd (kpB J) 586 (J 119 0)) 587 (J 119 1)) 2 h43 (by decide) (hb 2 (by decide))
  have t3 := m_pk_t n J L (upd (upd (upd (kpB J) 586 (J 119 0)) 587 (J 119 1)) 588 (J 119 2)) 3 h43 (by decide) (hb 3 (by decide))
  rw [t0, t1, t2, t3]
  have c4 : nI 4 ≤ nI 4 := Int32.le_refl _
  simp only [eX10_passesAll_207, eX10_passesAll_251, c4, if_true]
  rfl
def okM (a j : Nat) : Prop := match a with
  | 111 => j = 20 ∨ j = 29
  | 119 => j < 4
  | 113 => j < 4
  | 114 => j < 4
  | 115 => j < 4
  | 116 => j < 4
  | 117 => j < 16
  | 118 => j < 5
  | 121 => j < 6
  | 122 => j < 4
  | 123 => j < 4
  | 124 => j < 4
  | 125 => j < 40
  | 126 => j < 40
  | 127 => j < 40
  | 128 => j < 40
  | 129 => j < 40
  | 130 => j < 40
  | 131 => j < 40
  | 134 => j < 72
  | 135 => j < 9
  | 136 => j < 4
  | 137 => j < 4
  | 143 => j < 160
  | _ => False
theorem kp_113 (J : jm_I) {j : Nat} (h : j < 4) : kpC J (0 + j) = J 113 j := by
  unfold kpC kpB kpA
  rw [upd_ne _ _ (by omega), upd_ne _ _ (by omega), upd_ne _ _ (by omega), upd_ne _ _ (by omega), upd_ne _ _ (by omega), upd_ne _ _ (by omega)]
  rw [psK_out _ _ (by omega)]
  rw [psK_out _ _ (by omega)]
  rw [psK_out _ _ (by omega)]
  rw [psK_out _ _ (by omega)]
  rw [psK_out _ _ (by omega)]
  rw [psK_out _ _ (by omega)]
  rw [psK_out _ _ (by omega)]
  rw [psK_out _ _ (by omega)]
  rw [psK_out _ _ (by omega)]
  rw [psK_out _ _ (by omega)]
  rw [psK_out _ _ (by omega)]
  rw [psK_out _ _ (by omega)]
  rw [psK_out _ _ (by omega)]
  rw [psK_out _ _ (by omega)]
  rw [psK_out _ _ (by omega)]
  rw [psK_out _ _ (by omega)]
  rw [psK_out _ _ (by omega)]
  rw [psK_out _ _ (by omega)]
  rw [psK_out _ _ (by omega)]
  rw [psK_out _ _ (by omega)]
  rw [psK_out _ _ (by omega)]
  exact psK_in _ _ h
theorem kp_114 (J : jm_I) {j : Nat} (h : j < 4) : kpC J (4 + j) = J 114 j := by
  unfold kpC kpB kpA
  rw [upd_ne _ _ (by omega), upd_ne _ _ (by omega), upd_ne _ _ (by omega), upd_ne _ _ (by omega), upd_ne _ _ (by omega), upd_ne _ _ (by omega)]
  rw [psK_out _ _ (by omega)]
  rw [psK_out _ _ (by omega)]
  rw [psK_out _ _ (by omega)]
  rw [psK_out _ _ (by omega)]
  rw [psK_out _ _ (by omega)]
  rw [psK_out _ _ (by omega)]
  rw [psK_out _ _ (by omega)]
  rw [psK_out _ _ (by omega)]
  rw [psK_out _ _ (by omega)]
  rw [psK_out _ _ (by omega)]
  rw [psK_out _ _ (by omega)]
  rw [psK_out _ _ (by omega)]
  rw [psK_out _ _ (by omega)]
  rw [psK_out _ _ (by omega)]
  rw [psK_out _ _ (by omega)]
  rw [psK_out _ _ (by omega)]
  rw [psK_out _ _ (by omega)]
  rw [psK_out _ _ (by omega)]
  rw [psK_out _ _ (by omega)]
  rw [psK_out _ _ (by omega)]
  exact psK_in _ _ h
theorem kp_115 (J : jm_I) {j : Nat} (h : j < 4) : kpC J (8 + j) = J 115 j := by
  unfold kpC kpB kpA
  rw [upd_ne _ _ (by omega), upd_ne _ _ (by omega), upd_ne _ _ (by omega), upd_ne _ _ (by omega), upd_ne _ _ (by omega), upd_ne _ _ (by omega)]
  rw [psK_out _ _ (by omega)]
  rw [psK_out _ _ (by omega)]
  rw [psK_out _ _ (by omega)]
  rw [psK_out _ _ (by omega)]
  rw [psK_out _ _ (by omega)]
  rw [psK_out _ _ (by omega)]
  rw [psK_out _ _ (by omega)]
  rw [psK_out _ _ (by omega)]
  rw [psK_out _ _ (by omega)]
  rw [psK_out _ _ (by omega)]
  rw [psK_out _ _ (by omega)]
  rw [psK_out _ _ (by omega)]
  rw [psK_out _ _ (by omega)]
  rw [psK_out _ _ (by omega)]
  rw [psK_out _ _ (by omega)]
  rw [psK_out _ _ (by omega)]
  rw [psK_out _ _ (by omega)]
  rw [psK_out _ _ (by omega)]
  rw [psK_out _ _ (by omega)]
  exact psK_in _ _ h
theorem kp_116 (J : jm_I) {j : Nat} (h : j < 4) : kpC J (12 + j) = J 116 j := by
  unfold kpC kpB kpA
  rw [upd_ne _ _ (by omega), upd_ne _ _ (by omega), upd_ne _ _ (by omega), upd_ne _ _ (by omega), upd_ne _ _ (by omega), upd_ne _ _ (by omega)]
  rw [psK_out _ _ (by omega)]
  rw [psK_out _ _ (by omega)]
  rw [psK_out _ _ (by omega)]
  rw [psK_out _ _ (by omega)]
  rw [psK_out _ _ (by omega)]
  rw [psK_out _ _ (by omega)]
  rw [psK_out _ _ (by omega)]
  rw [psK_out _ _ (by omega)]
  rw [psK_out _ _ (by omega)]
  rw [psK_out _ _ (by omega)]
  rw [psK_out _ _ (by omega)]
  rw [psK_out _ _ (by omega)]
  rw [psK_out _ _ (by omega)]
  rw [psK_out _ _ (by omega)]
  rw [psK_out _ _ (by omega)]
  rw [psK_out _ _ (by omega)]
  rw [psK_out _ _ (by omega)]
  rw [psK_out _ _ (by omega)]
  exact psK_in _ _ h
theorem kp_117 (J : jm_I) {j : Nat} (h : j < 16) : kpC J (16 + j) = J 117 j := by
  unfold kpC kpB kpA
  rw [upd_ne _ _ (by omega), upd_ne _ _ (by omega), upd_ne _ _ (by omega), upd_ne _ _ (by omega), upd_ne _ _ (by omega), upd_ne _ _ (by omega)]
  rw [psK_out _ _ (by omega)]
  rw [psK_out _ _ (by omega)]
  rw [psK_out _ _ (by omega)]
  rw [psK_out _ _ (by omega)]
  rw [psK_out _ _ (by omega)]
  rw [psK_out _ _ (by omega)]
  rw [psK_out _ _ (by omega)]
  rw [psK_out _ _ (by omega)]
  rw [psK_out _ _ (by omega)]
  rw [psK_out _ _ (by omega)]
  rw [psK_out _ _ (by omega)]
  rw [psK_out _ _ (by omega)]
  rw [psK_out _ _ (by omega)]
  rw [psK_out _ _ (by omega)]
  rw [psK_out _ _ (by omega)]
  rw [psK_out _ _ (by omega)]
  rw [psK_out _ _ (by omega)]
  exact psK_in _ _ h
theorem kp_118 (J : jm_I) {j : Nat} (h : j < 5) : kpC J (32 + j) = J 118 j := by
  unfold kpC kpB kpA
  rw [upd_ne _ _ (by omega), upd_ne _ _ (by omega), upd_ne _ _ (by omega), upd_ne _ _ (by omega), upd_ne _ _ (by omega), upd_ne _ _ (by omega)]
  rw [psK_out _ _ (by omega)]
  rw [psK_out _ _ (by omega)]
  rw [psK_out _ _ (by omega)]
  rw [psK_out _ _ (by omega)]
  rw [psK_out _ _ (by omega)]
  rw [psK_out _ _ (by omega)]
  rw [psK_out _ _ (by omega)]
  rw [psK_out _ _ (by omega)]
  rw [psK_out _ _ (by omega)]
  rw [psK_out _ _ (by omega)]
  rw [psK_out _ _ (by omega)]
  rw [psK_out _ _ (by omega)]
  rw [psK_out _ _ (by omega)]
  rw [psK_out _ _ (by omega)]
  rw [psK_out _ _ (by omega)]
  rw [psK_out _ _ (by omega)]
  exact psK_in _ _ h
theorem kp_121 (J : jm_I) {j : Nat} (h : j < 6) : kpC J (37 + j) = J 121 j := by
  unfold kpC kpB kpA
  rw [upd_ne _ _ (by omega), upd_ne _ _ (by omega), upd_ne _ _ (by omega), upd_ne _ _ (by omega), upd_ne _ _ (by omega), upd_ne _ _ (by omega)]
  rw [psK_out _ _ (by omega)]
  rw [psK_out _ _ (by omega)]
  rw [psK_out _ _ (by omega)]
  rw [psK_out _ _ (by omega)]
  rw [psK_out _ _ (by omega)]
  rw [psK_out _ _ (by omega)]
  rw [psK_out _ _ (by omega)]
  rw [psK_out _ _ (by omega)]
  rw [psK_out _ _ (by omega)]
  rw [psK_out _ _ (by omega)]
  rw [psK_out _ _ (by omega)]
  rw [psK_out _ _ (by omega)]
  rw [psK_out _ _ (by omega)]
  rw [psK_out _ _ (by omega)]
  rw [psK_out _ _ (by omega)]
  exact psK_in _ _ h
theorem kp_122 (J : jm_I) {j : Nat} (h : j < 4) : kpC J (43 + j) = J 122 j := by
  unfold kpC kpB kpA
  rw [upd_ne _ _ (by omega), upd_ne _ _ (by omega), upd_ne _ _ (by omega), upd_ne _ _ (by omega), upd_ne _ _ (by omega), upd_ne _ _ (by omega)]
  rw [psK_out _ _ (by omega)]
  rw [psK_out _ _ (by omega)]
  rw [psK_out _ _ (by omega)]
  rw [psK_out _ _ (by omega)]
  rw [psK_out _ _ (by omega)]
  rw [psK_out _ _ (by omega)]
  rw [psK_out _ _ (by omega)]
  rw [psK_out _ _ (by omega)]
  rw [psK_out _ _ (by omega)]
  rw [psK_out _ _ (by omega)]
  rw [psK_out _ _ (by omega)]
  rw [psK_out _ _ (by omega)]
  rw [psK_out _ _ (by omega)]
  rw [psK_out _ _ (by omega)]
  exact psK_in _ _ h
theorem kp_123 (J : jm_I) {j : Nat} (h : j < 4) : kpC J (47 + j) = J 123 j := by
  unfold kpC kpB kpA
  rw [upd_ne _ _ (by omega), upd_ne _ _ (by omega), upd_ne _ _ (by omega), upd_ne _ _ (by omega), upd_ne _ _ (by omega), upd_ne _ _ (by omega)]
  rw [psK_out _ _ (by omega)]
  rw [psK_out _ _ (by omega)]
  rw [psK_out _ _ (by omega)]
  rw [psK_out _ _ (by omega)]
  rw [psK_out _ _ (by omega)]
  rw [psK_out _ _ (by omega)]
  rw [psK_out _ _ (by omega)]
  rw [psK_out _ _ (by omega)]
  rw [psK_out _ _ (by omega)]
  rw [psK_out _ _ (by omega)]
  rw [psK_out _ _ (by omega)]
  rw [psK_out _ _ (by omega)]
  rw [psK_out _ _ (by omega)]
  exact psK_in _ _ h
theorem kp_124 (J : jm_I) {j : Nat} (h : j < 4) : kpC J (51 + j) = J 124 j := by
  unfold kpC kpB kpA
  rw [upd_ne _ _ (by omega), upd_ne _ _ (by omega), upd_ne _ _ (by omega), upd_ne _ _ (by omega), upd_ne _ _ (by omega), upd_ne _ _ (by omega)]
  rw [psK_out _ _ (by omega)]
  rw [psK_out _ _ (by omega)]
  rw [psK_out _ _ (by omega)]
  rw [psK_out _ _ (by omega)]
  rw [psK_out _ _ (by omega)]
  rw [psK_out _ _ (by omega)]
  rw [psK_out _ _ (by omega)]
  rw [psK_out _ _ (by omega)]
  rw [psK_out _ _ (by omega)]
  rw [psK_out _ _ (by omega)]
  rw [psK_out _ _ (by omega)]
  rw [psK_out _ _ (by omega)]
  exact psK_in _ _ h
theorem kp_125 (J : jm_I) {j : Nat} (h : j < 40) : kpC J (55 + j) = J 125 j := by
  unfold kpC kpB kpA
  rw [upd_ne _ _ (by omega), upd_ne _ _ (by omega), upd_ne _ _ (by omega), upd_ne _ _ (by omega), upd_ne _ _ (by omega), upd_ne _ _ (by omega)]
  rw [psK_out _ _ (by omega)]
  rw [psK_out _ _ (by omega)]
  rw [psK_out _ _ (by omega)]
  rw [psK_out _ _ (by omega)]
  rw [psK_out _ _ (by omega)]
  rw [psK_out _ _ (by omega)]
  rw [psK_out _ _ (by omega)]
  rw [psK_out _ _ (by omega)]
  rw [psK_out _ _ (by omega)]
  rw [psK_out _ _ (by omega)]
  rw [psK_out _ _ (by omega)]
  exact psK_in _ _ h
theorem kp_126 (J : jm_I) {j : Nat} (h : j < 40) : kpC J (95 + j) = J 126 j := by
  unfold kpC kpB kpA
  rw [upd_ne _ _ (by omega), upd_ne _ _ (by omega), upd_ne _ _ (by omega), upd_ne _ _ (by omega), upd_ne _ _ (by omega), upd_ne _ _ (by omega)]
  rw [psK_out _ _ (by omega)]
  rw [psK_out _ _ (by omega)]
  rw [psK_out _ _ (by omega)]
  rw [psK_out _ _ (by omega)]
  rw [psK_out _ _ (by omega)]
  rw [psK_out _ _ (by omega)]
  rw [psK_out _ _ (by omega)]
  rw [psK_out _ _ (by omega)]
  rw [psK_out _ _ (by omega)]
  rw [psK_out _ _ (by omega)]
  exact psK_in _ _ h
theorem kp_127 (J : jm_I) {j : Nat} (h : j < 40) : kpC J (135 + j) = J 127 j := by
  unfold kpC kpB kpA
  rw [upd_ne _ _ (by omega), upd_ne _ _ (by omega), upd_ne _ _ (by omega), upd_ne _ _ (by omega), upd_ne _ _ (by omega), upd_ne _ _ (by omega)]
  rw [psK_out _ _ (by omega)]
  rw [psK_out _ _ (by omega)]
  rw [psK_out _ _ (by omega)]
  rw [psK_out _ _ (by omega)]
  rw [psK_out _ _ (by omega)]
  rw [psK_out _ _ (by omega)]
  rw [psK_out _ _ (by omega)]
  rw [psK_out _ _ (by omega)]
  rw [psK_out _ _ (by omega)]
  exact psK_in _ _ h
theorem kp_128 (J : jm_I) {j : Nat} (h : j < 40) : kpC J (175 + j) = J 128 j := by
  unfold kpC kpB kpA
  rw [upd_ne _ _ (by omega), upd_ne _ _ (by omega), upd_ne _ _ (by omega), upd_ne _ _ (by omega), upd_ne _ _ (by omega), upd_ne _ _ (by omega)]
  rw [psK_out _ _ (by omega)]
  rw [psK_out _ _ (by omega)]
  rw [psK_out _ _ (by omega)]
  rw [psK_out _ _ (by omega)]
  rw [psK_out _ _ (by omega)]
  rw [psK_out _ _ (by omega)]
  rw [psK_out _ _ (by omega)]
  rw [psK_out _ _ (by omega)]
  exact psK_in _ _ h
theorem kp_129 (J : jm_I) {j : Nat} (h : j < 40) : kpC J (215 + j) = J 129 j := by
  unfold kpC kpB kpA
  rw [upd_ne _ _ (by omega), upd_ne _ _ (by omega), upd_ne _ _ (by omega), upd_ne _ _ (by omega), upd_ne _ _ (by omega), upd_ne _ _ (by omega)]
  rw [psK_out _ _ (by omega)]
  rw [psK_out _ _ (by omega)]
  rw [psK_out _ _ (by omega)]
  rw [psK_out _ _ (by omega)]
  rw [psK_out _ _ (by omega)]
  rw [psK_out _ _ (by omega)]
  rw [psK_out _ _ (by omega)]
  exact psK_in _ _ h
theorem kp_130 (J : jm_I) {j : Nat} (h : j < 40) : kpC J (255 + j) = J 130 j := by
  unfold kpC kpB kpA
  rw [upd_ne _ _ (by omega), upd_ne _ _ (by omega), upd_ne _ _ (by omega), upd_ne _ _ (by omega), upd_ne _ _ (by omega), upd_ne _ _ (by omega)]
  rw [psK_out _ _ (by omega)]
  rw [psK_out _ _ (by omega)]
  rw [psK_out _ _ (by omega)]
  rw [psK_out _ _ (by omega)]
  rw [psK_out _ _ (by omega)]
  rw [psK_out _ _ (by omega)]
  exact psK_in _ _ h
theorem kp_131 (J : jm_I) {j : Nat} (h : j < 40) : kpC J (295 + j) = J 131 j := by
  unfold kpC kpB kpA
  rw [upd_ne _ _ (by omega), upd_ne _ _ (by omega), upd_ne _ _ (by omega), upd_ne _ _ (by omega), upd_ne _ _ (by omega), upd_ne _ _ (by omega)]
  rw [psK_out _ _ (by omega)]
  rw [psK_out _ _ (by omega)]
  rw [psK_out _ _ (by omega)]
  rw [psK_out _ _ (by omega)]
  rw [psK_out _ _ (by omega)]
  exact psK_in _ _ h
theorem kp_134 (J : jm_I) {j : Nat} (h : j < 72) : kpC J (335 + j) = J 134 j := by
  unfold kpC kpB kpA
  rw [upd_ne _ _ (by omega), upd_ne _ _ (by omega), upd_ne _ _ (by omega), upd_ne _ _ (by omega), upd_ne _ _ (by omega), upd_ne _ _ (by omega)]
  rw [psK_out _ _ (by omega)]
  rw [psK_out _ _ (by omega)]
  rw [psK_out _ _ (by omega)]
  rw [psK_out _ _ (by omega)]
  exact psK_in _ _ h
theorem kp_135 (J : jm_I) {j : Nat} (h : j < 9) : kpC J (407 + j) = J 135 j := by
  unfold kpC kpB kpA
  rw [upd_ne _ _ (by omega), upd_ne _ _ (by omega), upd_ne _ _ (by omega), upd_ne _ _ (by omega), upd_ne _ _ (by omega), upd_ne _ _ (by omega)]
  rw [psK_out _ _ (by omega)]
  rw [psK_out _ _ (by omega)]
  rw [psK_out _ _ (by omega)]
  exact psK_in _ _ h
theorem kp_136 (J : jm_I) {j : Nat} (h : j < 4) : kpC J (416 + j) = J 136 j := by
  unfold kpC kpB kpA
  rw [upd_ne _ _ (by omega), upd_ne _ _ (by omega), upd_ne _ _ (by omega), upd_ne _ _ (by omega), upd_ne _ _ (by omega), upd_ne _ _ (by omega)]
  rw [psK_out _ _ (by omega)]
  rw [psK_out _ _ (by omega)]
  exact psK_in _ _ h
theorem kp_137 (J : jm_I) {j : Nat} (h : j < 4) : kpC J (420 + j) = J 137 j := by
  unfold kpC kpB kpA
  rw [upd_ne _ _ (by omega), upd_ne _ _ (by omega), upd_ne _ _ (by omega), upd_ne _ _ (by omega), upd_ne _ _ (by omega), upd_ne _ _ (by omega)]
  rw [psK_out _ _ (by omega)]
  exact psK_in _ _ h
theorem kp_143 (J : jm_I) {j : Nat} (h : j < 160) : kpC J (424 + j) = J 143 j := by
  unfold kpC kpB kpA
  rw [upd_ne _ _ (by omega), upd_ne _ _ (by omega), upd_ne _ _ (by omega), upd_ne _ _ (by omega), upd_ne _ _ (by omega), upd_ne _ _ (by omega)]
  exact psK_in _ _ h
theorem kp_x (J : jm_I) : kpC J 584 = J 111 20 ∧ kpC J 585 = J 111 29 ∧ kpC J 586 = J 119 0 ∧ kpC J 587 = J 119 1 ∧ kpC J 588 = J 119 2 ∧ kpC J 589 = J 119 3 := by
  unfold kpC kpB
  generalize kpA J = K
  simp [upd_ap]
theorem kV_k (J : jm_I) {a j : Nat} (h : okM a j) : kV (stK J (kpC J) 590) a j = J a j := by
  unfold kV
  simp only [stK_144]
  obtain ⟨x1, x2, x3, x4, x5, x6⟩ := kp_x J
  unfold okM at h
  split at h
  · rcases h with rfl | rfl
    · simpa using x1
    · simpa using x2
  · rw [if_neg (by decide)]
    show kpC J (586 + j) = _
    rcases (show j = 0 ∨ j = 1 ∨ j = 2 ∨ j = 3 by omega) with rfl | rfl | rfl | rfl
    · exact x3
    · exact x4
    · exact x5
    · exact x6
  · rw [if_neg (by decide)]; exact kp_113 J h
  · rw [if_neg (by decide)]; exact kp_114 J h
  · rw [if_neg (by decide)]; exact kp_115 J h
  · rw [if_neg (by decide)]; exact kp_116 J h
  · rw [if_neg (by decide)]; exact kp_117 J h
  · rw [if_neg (by decide)]; exact kp_118 J h
  · rw [if_neg (by decide)]; exact kp_121 J h
  · rw [if_neg (by decide)]; exact kp_122 J h
  · rw [if_neg (by decide)]; exact kp_123 J h
  · rw [if_neg (by decide)]; exact kp_124 J h
  · rw [if_neg (by decide)]; exact kp_125 J h
  · rw [if_neg (by decide)]; exact kp_126 J h
  · rw [if_neg (by decide)]; exact kp_127 J h
  · rw [if_neg (by decide)]; exact kp_128 J h
  · rw [if_neg (by decide)]; exact kp_129 J h
  · rw [if_neg (by decide)]; exact kp_130 J h
  · rw [if_neg (by decide)]; exact kp_131 J h
  · rw [if_neg (by decide)]; exact kp_134 J h
  · rw [if_neg (by decide)]; exact kp_135 J h
  · rw [if_neg (by decide)]; exact kp_136 J h
  · rw [if_neg (by decide)]; exact kp_137 J h
  · rw [if_neg (by decide)]; exact kp_143 J h
  · exact h.elim
