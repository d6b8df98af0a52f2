theorem sw (w : Int32) : -100 + w = w - nI 100 := by
  rw [show (-100 : Int32) = iZ (-100) from by decide, nI_iZ, ← iZ_toInt w, iZ_add, iZ_sub]
  congr 1
  omega
/-! pull -/
theorem op_pull (n : Nat) (m b x : Int32) : Op n rX9_pull rX10_pull [.ref 9, .int m, .int b, .int x, .null, .null, .null] [.ref 111, .int m, .int b, .int x, .null, .null] := by
  intro I L hI hM
  have c0 : jE n rX9_pull 0 [.ref 9, .int m, .int b, .int x, .null, .null, .null] [] I L = jE n rX9_pull 47 [.ref 9, .int m, .int b, .int x, .int (thn (nmo I 13 m) (thn (nmo I 13 b) (thn (if m = b then -1 else 0) (zout x (-9) (nI 9))))), .null, .null] [] I L := by
    by_cases e : m = b
    · simp [eX9_pull_0, eX9_pull_22, eX9_pull_26, eX9_pull_27, h_noMoon, jB_s, h_thn, e, h_outside, thn_as]
    · simp [eX9_pull_0, eX9_pull_22, eX9_pull_26, eX9_pull_27, h_noMoon, jB_s, h_thn, e, h_outside, thn_as, n00]
  have e1 : ¬ (-1 : Int32) = 0 := by decide
  have ref : ∀ w : Int32, isR w → thn (nmo I 13 m) (thn (nmo I 13 b) (thn (if m = b then -1 else 0) (zout x (-9) (nI 9)))) = w → (∀ J : jm_I, Mod J I → jE n rX10_pull 0 [.ref 111, .int m, .int b, .int x, .null, .null] [] J L = jE n rX10_pull 36 [.ref 111, .int m, .int b, .int x, .null, .null] [.int w] J L) →
      ∃ (v : Value) (I1 : jm_I) (L1 : jm_L) (I2 : jm_I) (L2 : jm_L), jE n rX9_pull 0 [.ref 9, .int m, .int b, .int x, .null, .null, .null] [] I L = some (some v, jS n I1 L1) ∧ jE n rX10_pull 0 [.ref 111, .int m, .int b, .int x, .null, .null] [] I1 L1 = some (some v, jS n I2 L2) ∧ Inv I2 ∧ Mod I2 I2 := by
    intro w hr hw hmo
    have h0 : ¬ w = 0 := by rcases hr with rfl | rfl | rfl | rfl | rfl <;> decide
    refine Op_ref hI hM (.int (-100 + w)) w ?_ ?_
    · rw [c0, hw]
      simp [eX9_pull_27, eX9_pull_52, h0, h_refuse n I L w hr, jB_s]
    · rw [hmo _ (Mod_congr (I := I) (A := I) (fun a ha => by unfold rf; rw [jm_u_ne _ _ _ (by omega)]) (Cls_rf I) hM)]
      simp only [eX10_pull_36, eX10_pull_43, h0, if_false, m_no n _ L w hr, jB_s, sw]
  by_cases hm : mo I 13 m
  · by_cases hb : mo I 13 b
    · have rm : ∀ J : jm_I, Mod J I → mo J 119 m ∧ mo J 119 b := fun J hJ => ⟨(Mod_mo hJ m).mpr hm, (Mod_mo hJ b).mpr hb⟩
      by_cases e : m = b
      · refine ref (-1) (Or.inl rfl) ?_ (fun J hJ => ?_)
        · rw [nmo_t hm, nmo_t hb, thn_0, thn_0, if_pos e, thn_n e1]
        · simp [eX10_pull_0, eX10_pull_8, eX10_pull_16, eX10_pull_21, eX10_pull_25, eX10_pull_43, eX10_pull_53, m_isMoon, bmo_t (rm J hJ).1, bmo_t (rm J hJ).2, jB_s, n10, e]
      · by_cases hz : zout x (-9) (nI 9) = 0
        · obtain ⟨k, hk, ek, -⟩ := mo_ix hm
          obtain ⟨q, hq, eq, -⟩ := mo_ix hb
          subst ek; subst eq
          have hi : 4 * k + q < 16 := by omega
          have ei : k * 4 + q = 4 * k + q := by omega
          have em : I 117 (4 * k + q) = I 18 (4 * k + q) := hM.1 117 _ hi
          refine ⟨.int (I 18 (4 * k + q)), jm_u I 18 (4 * k + q) x, L, jm_u (jm_u I 18 (4 * k + q) x) 117 (4 * k + q) x, L, ?_, ?_, ?_⟩
          · rw [c0, nmo_t hm, nmo_t hb, thn_0, thn_0, if_neg e, thn_0, hz]
            simp [eX9_pull_27, eX9_pull_62, pk_mul, nI_add, ei, jLI_t, jLW_t, jLL_t, jLZ_t, jLA_t, hi]
          · have hJ : Mod (jm_u I 18 (4 * k + q) x) I := Mod_congr (I := I) (A := I) (fun a ha => jm_u_ne _ _ _ (by omega)) (Cls_rf I) hM
            simp [eX10_pull_0, eX10_pull_8, eX10_pull_16, eX10_pull_21, eX10_pull_25, eX10_pull_36, eX10_pull_43, eX10_pull_53, m_isMoon, bmo_t (rm _ hJ).1, bmo_t (rm _ hJ).2, jB_s, n10, e, m_out1 n _ L x (-9) (nI 9) (-9) (lN 9) (by decide) (by decide), hz, pk_mul, nI_add, jLI_t, jLW_t, jLL_t, jLZ_t, jLA_t, hi, jm_u_ap, em]
          · refine Op_fin (I := I) (J := jm_u I 18 (4 * k + q) x) (M := jm_u I 117 (4 * k + q) x) (Inv_u hI ?_) (Mod_117 hM _ x) (cls_m (Cls_rf _) (by decide)) (meq_u (meq_c (fun _ _ => rfl) (by decide)))
            have r := rg_out2 (a := -9) (by decide) (by decide) hz
            exact fun _ => r
        · refine ref (zout x (-9) (nI 9)) (isR_of (isZ_out _ _ _) hz) ?_ (fun J hJ => ?_)
          · rw [nmo_t hm, nmo_t hb, thn_0, thn_0, if_neg e, thn_0]
          · simp [eX10_pull_0, eX10_pull_8, eX10_pull_16, eX10_pull_21, eX10_pull_25, eX10_pull_43, eX10_pull_53, m_isMoon, bmo_t (rm J hJ).1, bmo_t (rm J hJ).2, jB_s, n10, e, m_out1 n J L x (-9) (nI 9) (-9) (lN 9) (by decide) (by decide)]
    · refine ref (-1) (Or.inl rfl) ?_ (fun J hJ => ?_)
      · rw [nmo_t hm, nmo_f hb, thn_0, thn_n e1]
      · simp [eX10_pull_0, eX10_pull_8, eX10_pull_16, eX10_pull_21, eX10_pull_25, eX10_pull_43, eX10_pull_53, m_isMoon, bmo_t ((Mod_mo hJ m).mpr hm), bmo_f (fun q => hb ((Mod_mo hJ b).mp q)), jB_s, n10, n00]
  · refine ref (-1) (Or.inl rfl) ?_ (fun J hJ => ?_)
    · rw [nmo_f hm, thn_n e1]
    · simp [eX10_pull_0, eX10_pull_8, eX10_pull_16, eX10_pull_21, eX10_pull_25, eX10_pull_43, eX10_pull_53, m_isMoon, bmo_f (fun q => hm ((Mod_mo hJ m).mp q)), jB_s, n00]
/-! the days -/
def dS (x : Int32) : Int32 := if x = -9 then 0 else x + 1
theorem Mod_sent {I A : jm_I} (h : Mod I A) (hN : zN A ≤ 40) {s q : Nat} (hs : s < 40) (hq : q < 4) (x : Int32) : Mod (jm_u I 143 (40 * q + s) (dS x)) (jm_u A 34 (4 * s + q) x) := by
  obtain ⟨h1, h2, h3⟩ := h
  refine ⟨fun a j => ?_, fun a j => ?_, fun hk a j => ?_⟩
  · by_cases ha : a = 143
    · subst ha
      intro p t hj hp ht
      have ht : t < zN A := ht
      have e : I 143 j = dS (A 34 (4 * t + p)) := h1 143 j p t hj hp ht
      rw [jm_u_eq, jm_u_eq]
      by_cases q1 : j = 40 * q + s
      · have q2 : 4 * t + p = 4 * s + q := by omega
        rw [if_pos q1, if_pos q2]
        rfl
      · by_cases q2 : 4 * t + p = 4 * s + q
        · exfalso; omega
        · rw [if_neg q1, if_neg q2, e]; rfl
    · rw [jm_u_ne I _ _ ha]
      have q := h1 a j
      revert q
      generalize I a j = y
      unfold modW zT zN
      split <;> first | exact fun q => q | (exfalso; exact ha rfl)
  · have e : modX A a j (jm_u I 143 (40 * q + s) (dS x) a j) := by
      by_cases ha : a = 143
      · subst ha; trivial
      · rw [jm_u_ne I _ _ ha]; exact h2 a j
    exact modX_congr (jm_u_ne A _ _ (by decide)) (by rw [jm_u_ne A _ _ (by decide)]) (jm_u_ne A _ _ (by decide)) (jm_u_ne A _ _ (by decide)) (jm_u_ne A _ _ (by decide)) a j _ e
  · have e : kV (jm_u I 143 (40 * q + s) (dS x)) a j = kV I a j := by unfold kV; rw [jm_u_ne I _ _ (by decide)]
    rw [e]
    refine modW_congr (A := fun a => A (a + 28)) (fun b c d => jm_u_ne A _ _ (by omega)) a j _ (h3 ?_ a j)
    rw [← hk, jm_u_ne A _ _ (by decide)]
theorem Mod_size {I A : jm_I} (h : Mod I A) {N : Nat} (hN : N ≤ 40) (hs : ∀ q s, q < 4 → s < N → I 143 (40 * q + s) = dS (A 34 (4 * s + q))) : Mod (jm_u I 111 20 (nI N)) (jm_u A 26 8 (nI N)) := by
  obtain ⟨h1, h2, h3⟩ := h
  have zNe : zN (jm_u A 26 8 (nI N)) = N := by
    unfold zN
    rw [jm_u_eq, if_pos rfl, zn (by omega)]
  have zTe : zT (jm_u A 26 8 (nI N)) = zT A := by unfold zT; rw [jm_u_ne A _ _ (by decide)]
  refine ⟨fun a j => ?_, fun a j => ?_, fun hk a j => ?_⟩
  · by_cases ha : a = 143
    · subst ha
      intro q s hj hq ht
      rw [zNe] at ht
      rw [jm_u_ne I _ _ (by decide), hj, hs q s hq ht, jm_u_ne A _ _ (by decide)]
      rfl
    · by_cases h11 : a = 111
      · subst h11
        have q := h1 111 j
        refine ⟨fun e => ?_, fun e => ?_⟩
        · subst e; rw [jm_u_eq, jm_u_eq, if_pos rfl, if_pos rfl]
        · subst e; rw [jm_u_eq, if_neg (by decide), jm_u_ne A _ _ (by decide)]; exact q.2 rfl
      · rw [jm_u_ne I _ _ h11]
        have q := h1 a j
        revert q
        generalize I a j = y
        unfold modW
        rw [zTe]
        split <;> first | exact fun q => q | (exfalso; first | exact ha rfl | exact h11 rfl)
  · have e : modX A a j (jm_u I 111 20 (nI N) a j) := by
      by_cases ha : a = 111
      · subst ha
        have q := h2 111 j
        refine ⟨fun e => ?_, fun e => ?_, fun e => ?_⟩
        · subst e; rw [jm_u_eq, if_neg (by decide)]; exact q.1 rfl
        · subst e; rw [jm_u_eq, if_neg (by decide)]; exact q.2.1 rfl
        · subst e; rw [jm_u_eq, if_neg (by decide)]; exact q.2.2 rfl
      · rw [jm_u_ne I _ _ ha]; exact h2 a j
    exact modX_congr (jm_u_ne A _ _ (by decide)) (by rw [jm_u_ne A _ _ (by decide)]) (jm_u_ne A _ _ (by decide)) (jm_u_ne A _ _ (by decide)) (jm_u_ne A _ _ (by decide)) a j _ e
  · have e : kV (jm_u I 111 20 (nI N)) a j = kV I a j := by unfold kV; rw [jm_u_ne I _ _ (by decide)]
    rw [e]
    refine modW_congr (A := fun a => A (a + 28)) (fun b c d => jm_u_ne A _ _ (by omega)) a j _ (h3 ?_ a j)
    rw [← hk, jm_u_ne A _ _ (by decide)]
theorem Mod_s {I A : jm_I} (h : Mod I A) {q s : Nat} (hq : q < 4) (hs : s < zN A) : I 143 (40 * q + s) = dS (A 34 (4 * s + q)) := h.1 143 _ q s rfl hq hs
theorem day_rg {A : jm_I} (h : Inv A) {j : Nat} (hj : j < 160) : A 34 j = -9 ∨ rg (A 34 j) 0 999 := h 34 j (by decide) hj
/-! send -/
theorem c_post (n : Nat) (I : jm_I) (L : jm_L) {s q : Nat} (hs : s < 40) (hq : q < 4) (x : Int32) : jE n rX3_post 0 [.ref 26, .int (nI s), .int (nI q), .int x, .null, .null] [] I L = some (some (.int (I 34 (s * 4 + q))), jS n (jm_u I 34 (s * 4 + q) x) L) := by
  have hi : s * 4 + q < 160 := by omega
  simp [eX3_post_0, pk_mul, nI_add, jLI_t, jLW_t, jLL_t, jLZ_t, jLA_t, hi]
theorem c_send_a (n : Nat) (I : jm_I) (L : jm_L) (s h d : Int32) : jE n rX9_send 0 [.ref 9, .int s, .int h, .int d, .null] [] I L = jE n rX9_send 42 [.ref 9, .int s, .int h, .int d, .int (thn (inr s (I 26 8)) (thn (inr h (nI 4)) (zout d (-1) (nI 999))))] [] I L := by
  by_cases hh : 0 ≤ h ∧ h < nI 4
  · simp [eX9_send_0, eX9_send_17, eX9_send_21, eX9_send_22, h_noSight, jB_s, h_isWithin, hh, n10, h_thn, h_outside, thn_as, inr_t hh, n00]
  · simp [eX9_send_0, eX9_send_17, eX9_send_21, eX9_send_22, h_noSight, jB_s, h_isWithin, hh, n00, h_thn, h_outside, thn_as, inr_f hh]
theorem op_send (n : Nat) (s h d : Int32) : Op n rX9_send rX10_send [.ref 9, .int s, .int h, .int d, .null] [.ref 111, .int s, .int h, .int d, .null, .null] := by
  intro I L hI hM
  obtain ⟨e8, hN⟩ := Inv_N hI
  have e20 : I 111 20 = nI (zN I) := by rw [← e8]; exact (hM.1 111 20).1 rfl
  have e1 : ¬ (-1 : Int32) = 0 := by decide
  by_cases hs : 0 ≤ s ∧ s < nI (zN I)
  · by_cases hh : 0 ≤ h ∧ h < nI 4
    · by_cases hz : zout d (-1) (nI 999) = 0
      · obtain ⟨k, hk, ek⟩ := ix (by omega) hs
        obtain ⟨q, hq, eq⟩ := ix (by decide) hh
        subst ek; subst eq
        have r := rg_out2 (a := -1) (by decide) (by decide) hz
        have hk40 : k < 40 := by omega
        have hi : 40 * q + k < 160 := by omega
        have ew : I 143 (40 * q + k) = dS (I 34 (4 * k + q)) := Mod_s hM hq hk
        have ek4 : k * 4 + q = 4 * k + q := by omega
        have hdr := day_rg hI (j := 4 * k + q) (by omega)
        refine ⟨.int (I 34 (4 * k + q)), jm_u I 34 (4 * k + q) (if d < 0 then -9 else d), L, jm_u (jm_u I 34 (4 * k + q) (if d < 0 then -9 else d)) 143 (40 * q + k) (dS (if d < 0 then -9 else d)), L, ?_, ?_, ?_⟩
        · rw [c_send_a, e8, inr_t hs, inr_t hh, thn_0, thn_0, hz]
          by_cases hd : d < 0
          · have hd2 : ¬ 0 ≤ d := Int32.not_le.mpr hd
            simp [eX9_send_22, eX9_send_56, eX9_send_69, eX9_send_74, eX9_send_75, eX9_send_78, hd, hd2, c_post n I L hk40 hq, jB_s, ek4]
          · have hd2 : 0 ≤ d := Int32.not_lt.mp hd
            simp [eX9_send_22, eX9_send_56, eX9_send_69, eX9_send_74, eX9_send_75, eX9_send_78, hd, hd2, c_post n I L hk40 hq, jB_s, ek4]
        · have edS : d + nI 1 = dS (if d < 0 then -9 else d) := by
            unfold dS
            by_cases hd : d < 0
            · have : d = -1 := by
                rw [Int32.lt_iff_toInt_lt] at hd
                have h1 := r.1
                have : d.toInt = -1 := by simp at hd; omega
                rw [← iZ_toInt d, this]; rfl
              subst this
              simp [hd]
              decide
            · rw [if_neg hd]
              have : ¬ d = -9 := fun q => by subst q; exact hd (by decide)
              rw [if_neg this]
              rfl
          have edr : ∀ (J : jm_I), (if ¬ dS (I 34 (4 * k + q)) = 0 then jE n rX10_send 83 [.ref 111, .int (nI k), .int (nI q), .int d, .int 0, .int (dS (I 34 (4 * k + q)))] [] J L else jE n rX10_send 78 [.ref 111, .int (nI k), .int (nI q), .int d, .int 0, .int (dS (I 34 (4 * k + q)))] [] J L) = some (some (.int (I 34 (4 * k + q))), jS n J L) := by
            intro J
            rcases hdr with e9 | rr
            · have e0 : dS (I 34 (4 * k + q)) = 0 := by simp [dS, e9]
              rw [if_neg (fun qq => qq e0)]
              simp only [eX10_send_78, eX10_send_87, e9]
            · have n9 : ¬ I 34 (4 * k + q) = -9 := fun qq => by rw [qq] at rr; exact absurd rr.1 (by decide)
              have n0 : ¬ dS (I 34 (4 * k + q)) = 0 := by
                unfold dS
                rw [if_neg n9]
                intro qq
                have h1 := congrArg Int32.toInt qq
                rw [← iZ_toInt (I 34 (4 * k + q)), show (1 : Int32) = iZ 1 from rfl, iZ_add, iZ_i (by have := rr.1; omega) (by have := rr.2; omega)] at h1
                have := rr.1
                simp at h1
                omega
              have eb : dS (I 34 (4 * k + q)) - nI 1 = I 34 (4 * k + q) := by
                unfold dS
                rw [if_neg n9, ← iZ_toInt (I 34 (4 * k + q)), show (1 : Int32) = iZ 1 from rfl, show nI 1 = iZ 1 from rfl, iZ_add, iZ_sub]
                congr 1
                omega
              simp [n0, eX10_send_83, eX10_send_87, eb]
          have hsm : (jm_u I 34 (4 * k + q) (if d < 0 then -9 else d)) 111 20 = nI (zN I) := by rw [jm_u_ne _ _ _ (by decide)]; exact e20
          simp only [eX10_send_0, eX10_send_8, eX10_send_21, m_isSight, hsm, inb_t hs, jB_s, n10, if_false, m_isHolder, inb_t hh, not_false_eq_true, if_true, m_out1 n _ L d (-1) (nI 999) (-1) (lN 999) (by decide) (by decide), hz]
          simp only [eX10_send_46, pk_mul, nI_add, jLI_t, jLW_t, jLL_t, jLZ_t, jLA_t, hi, jm_u_ne I _ _ (show 143 ≠ 34 by decide), ew, edS, edr]
        · refine Op_fin (I := I) (J := jm_u I 34 (4 * k + q) (if d < 0 then -9 else d)) (M := jm_u I 143 (40 * q + k) (dS (if d < 0 then -9 else d))) (Inv_u hI ?_) (Mod_sent hM hN hk40 hq _) (cls_m (Cls_rf _) (by decide)) (meq_u (meq_c (fun _ _ => rfl) (by decide)))
          intro _
          by_cases hd : d < 0
          · rw [if_pos hd]; exact Or.inl rfl
          · rw [if_neg hd]
            rw [Int32.lt_iff_toInt_lt] at hd
            exact Or.inr ⟨by simp at hd; omega, r.2⟩
      · have hr := isR_of (isZ_out d (-1) (nI 999)) hz
        refine Op_ref hI hM (.int (zout d (-1) (nI 999))) (zout d (-1) (nI 999)) ?_ ?_
        · rw [c_send_a, e8, inr_t hs, inr_t hh, thn_0, thn_0]
          simp [eX9_send_22, eX9_send_47, eX9_send_78, hz, h_refuse n I L _ hr, jB_s]
        · have hsm : (rf I (rz (zout d (-1) (nI 999)))) 111 20 = nI (zN I) := by simp [rf_ap, e20]
          simp only [eX10_send_0, eX10_send_8, eX10_send_21, eX10_send_39, m_isSight, hsm, inb_t hs, jB_s, n10, if_false, m_isHolder, inb_t hh, not_false_eq_true, if_true, m_out1 n _ L d (-1) (nI 999) (-1) (lN 999) (by decide) (by decide), hz, m_no n _ L _ hr]
    · refine Op_ref hI hM (.int (-1)) (-1) ?_ ?_
      · rw [c_send_a, e8, inr_t hs, inr_f hh, thn_0, thn_n e1]
        simp [eX9_send_22, eX9_send_47, eX9_send_78, h_refuse n I L (-1) (Or.inl rfl), jB_s]
      · have hsm : (rf I (rz (-1))) 111 20 = nI (zN I) := by simp [rf_ap, e20]
        simp only [eX10_send_0, eX10_send_8, eX10_send_15, m_isSight, hsm, inb_t hs, jB_s, n10, if_false, m_isHolder, inb_f hh, n00, not_true_eq_false, m_no n _ L (-1) (Or.inl rfl)]
  · refine Op_ref hI hM (.int (-1)) (-1) ?_ ?_
    · rw [c_send_a, e8, inr_f hs, thn_n e1]
      simp [eX9_send_22, eX9_send_47, eX9_send_78, h_refuse n I L (-1) (Or.inl rfl), jB_s]
    · have hsm : (rf I (rz (-1))) 111 20 = nI (zN I) := by simp [rf_ap, e20]
      simp only [eX10_send_0, eX10_send_15, m_isSight, hsm, inb_f hs, jB_s, n00, if_true, m_no n _ L (-1) (Or.inl rfl)]
