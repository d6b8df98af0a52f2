/-! a sight more -/
def addI (I : jm_I) (N : Nat) (m k kd ey cl tw sc : Int32) : jm_I := jm_u (jm_u (jm_u (jm_u (jm_u (jm_u (jm_u (jm_u (jm_u (jm_u (jm_u (jm_u I 27 N m) 28 N k) 29 N kd) 30 N ey) 31 N cl) 32 N tw) 33 N sc) 34 (4 * N) (-9)) 34 (4 * N + 1) (-9)) 34 (4 * N + 2) (-9)) 34 (4 * N + 3) (-9)) 26 8 (nI (N + 1))
def telI (I : jm_I) (N : Nat) (m k kd ey cl tw sc : Int32) : jm_I := jm_u (jm_u (jm_u (jm_u (jm_u (jm_u (jm_u (jm_u (jm_u (jm_u (jm_u (jm_u I 125 N m) 126 N k) 127 N kd) 128 N ey) 129 N cl) 130 N tw) 131 N sc) 143 N (nI 0)) 143 (40 + N) (nI 0)) 143 (80 + N) (nI 0)) 143 (120 + N) (nI 0)) 111 20 (nI (N + 1))
theorem c_add (n : Nat) (I : jm_I) (L : jm_L) {N : Nat} (hN : N < 40) (e8 : I 26 8 = nI N) (m k kd ey cl tw sc : Int32) : jE n rX3_add 0 [.ref 26, .int m, .int k, .int kd, .int ey, .int cl, .int tw, .int sc, .null] [] I L = some (none, jS n (addI I N m k kd ey cl tw sc) L) := by
  have c : nI N < nI 40 := nI_lt hN (by decide)
  have e0 : N * 4 = 4 * N := by omega
  have x0 : 4 * N < 160 := by omega
  have x1 : 4 * N + 1 < 160 := by omega
  have x2 : 4 * N + 2 < 160 := by omega
  have x3 : 4 * N + 3 < 160 := by omega
  simp (decide := true) [eX3_add_0, eX3_add_9, eX3_add_10, eX3_add_87, eX3_add_93, eX3_add_115, e8, c, hN, jLI_t, jLW_t, jLL_t, jLZ_t, jLA_t, jm_u_ap, pk_mul, nI_add, e0, x0, x1, x2, x3, addI]
theorem m_tells (n : Nat) (I : jm_I) (L : jm_L) {N : Nat} (hN : N < 40) (e20 : I 111 20 = nI N) (m k kd ey cl tw sc : Int32) : jE n rX10_tells 0 [.ref 111, .int m, .int k, .int kd, .int ey, .int cl, .int tw, .int sc, .null] [] I L = some (some (.int (nI N)), jS n (telI I N m k kd ey cl tw sc) L) := by
  have x0 : N < 160 := by omega
  have x1 : 40 + N < 160 := by omega
  have x2 : 80 + N < 160 := by omega
  have x3 : 120 + N < 160 := by omega
  have c1 : nI (N + 1) - nI 1 = nI N := nI_pred N
  simp (decide := true) [eX10_tells_0, eX10_tells_77, eX10_tells_83, eX10_tells_105, e20, hN, jLI_t, jLW_t, jLL_t, jLZ_t, jLA_t, jm_u_ap, upd_ap, pk_mul, nI_add, x0, x1, x2, x3, telI, c1]
theorem dS9 : dS (-9) = nI 0 := by simp [dS]; rfl
theorem Mod_add {I A : jm_I} (h : Mod I A) {N : Nat} (hN : N < 40) (hz : zN A = N) (m k kd ey cl tw sc : Int32) : Mod (telI I N m k kd ey cl tw sc) (addI A N m k kd ey cl tw sc) := by
  have h1 := Mod_131 (Mod_130 (Mod_129 (Mod_128 (Mod_127 (Mod_126 (Mod_125 h N m) N k) N kd) N ey) N cl) N tw) N sc
  have h2 := Mod_sent h1 (by simp only [zN, jm_u_ap]; simp; show zN A ≤ 40; omega) (s := N) (q := 0) hN (by decide) (-9)
  have h3 := Mod_sent h2 (by simp only [zN, jm_u_ap]; simp; show zN A ≤ 40; omega) (s := N) (q := 1) hN (by decide) (-9)
  have h4 := Mod_sent h3 (by simp only [zN, jm_u_ap]; simp; show zN A ≤ 40; omega) (s := N) (q := 2) hN (by decide) (-9)
  have h5 := Mod_sent h4 (by simp only [zN, jm_u_ap]; simp; show zN A ≤ 40; omega) (s := N) (q := 3) hN (by decide) (-9)
  simp only [dS9, Nat.mul_zero, Nat.zero_add, Nat.add_zero, Nat.mul_one, show 40 * 2 = 80 from rfl, show 40 * 3 = 120 from rfl] at h2 h3 h4 h5
  refine Mod_size h5 (by omega) (fun q s hq hs => ?_)
  have hzs : ∀ q s, q < 4 → s < N → I 143 (40 * q + s) = dS (A 34 (4 * s + q)) := fun q s hq hs => Mod_s h hq (by omega)
  simp only [jm_u_ap, upd_ap]
  by_cases hsN : s = N
  · subst hsN
    rcases (show q = 0 ∨ q = 1 ∨ q = 2 ∨ q = 3 by omega) with rfl | rfl | rfl | rfl <;> simp [upd_ap, dS9]
  · have hs2 : s < N := by omega
    have a0 : ¬ 40 * q + s = N := by omega
    have a1 : ¬ 40 * q + s = 40 + N := by omega
    have a2 : ¬ 40 * q + s = 80 + N := by omega
    have a3 : ¬ 40 * q + s = 120 + N := by omega
    have b0 : ¬ 4 * s + q = 4 * N := by omega
    have b1 : ¬ 4 * s + q = 4 * N + 1 := by omega
    have b2 : ¬ 4 * s + q = 4 * N + 2 := by omega
    have b3 : ¬ 4 * s + q = 4 * N + 3 := by omega
    simp [upd_ap, a0, a1, a2, a3, b0, b1, b2, b3, hzs q s hq hs2]
theorem Inv_add {A : jm_I} (h : Inv A) {N : Nat} (hN : N < 40) {m k kd ey cl tw sc : Int32} (h1 : rg m 0 3) (h2 : rg k 0 999) (h3 : rg kd 0 7) (h4 : rg ey 0 5) (h5 : rg cl 0 3) (h6 : rg tw 0 3) (h7 : rg sc 0 1999999999) : Inv (addI A N m k kd ey cl tw sc) := by
  refine Inv_u (Inv_u (Inv_u (Inv_u (Inv_u (Inv_u (Inv_u (Inv_u (Inv_u (Inv_u (Inv_u (Inv_u h ?_) ?_) ?_) ?_) ?_) ?_) ?_) ?_) ?_) ?_) ?_) ?_
  · exact fun _ => h1
  · exact fun _ => h2
  · exact fun _ => h3
  · exact fun _ => h4
  · exact fun _ => h5
  · exact fun _ => h6
  · exact fun _ => h7
  · exact fun _ => Or.inl rfl
  · exact fun _ => Or.inl rfl
  · exact fun _ => Or.inl rfl
  · exact fun _ => Or.inl rfl
  · exact fun _ => nI_rg (k := 40) (by omega) (by decide)
theorem add_cls (I : jm_I) (N : Nat) (m k kd ey cl tw sc m' k' kd' ey' cl' tw' sc' : Int32) : Cls (telI (addI I N m k kd ey cl tw sc) N m' k' kd' ey' cl' tw' sc') (addI I N m k kd ey cl tw sc) := by
  unfold telI
  repeat refine cls_m ?_ (by decide)
  exact Cls_rf _
theorem add_meq {X Y : jm_I} (h : ∀ a, 111 ≤ a → X a = Y a) (N : Nat) (m k kd ey cl tw sc m' k' kd' ey' cl' tw' sc' : Int32) : ∀ a, 111 ≤ a → telI (addI X N m k kd ey cl tw sc) N m' k' kd' ey' cl' tw' sc' a = telI Y N m' k' kd' ey' cl' tw' sc' a := by
  unfold telI addI
  repeat first | refine meq_u ?_ | refine meq_c ?_ (by decide)
  exact h
/-! sight -/
theorem nz10 : ¬ nI 10 = 0 := by decide
theorem nz100 : ¬ nI 100 = 0 := by decide
theorem nz1000 : ¬ nI 1000 = 0 := by decide
def tR (x : Int32) : Int32 := x - x / nI 10 * nI 10
def wS2 (t : Int32) : Int32 := if t < 0 ∨ nI 7 < t / nI 1000 then -2 else 0
def wS3 (t : Int32) : Int32 := if tR (t / nI 100) < nI 6 ∧ tR (t / nI 10) < nI 4 ∧ tR t < nI 4 then 0 else -1
def wS4 (k s : Int32) : Int32 := if k < 0 ∨ s < 0 then -4 else 0
def wS5 (k s : Int32) : Int32 := if nI 999 < k ∨ nI 1999999999 < s then -6 else 0
def wS6 (z : Int32) : Int32 := if z < nI 40 then 0 else -6
theorem c_sight_a (n : Nat) (I : jm_I) (L : jm_L) (m k t s : Int32) : jE n rX9_sight 0 [.ref 9, .int m, .int k, .int t, .int s, .null, .null, .null, .null, .null] [] I L = jE n rX9_sight 170 [.ref 9, .int m, .int k, .int t, .int s, .int (t / nI 1000), .int (tR (t / nI 100)), .int (tR (t / nI 10)), .int (tR t), .int (thn (nmo I 13 m) (thn (wS2 t) (thn (wS3 t) (thn (wS4 k s) (thn (wS5 k s) (wS6 (I 26 8)))))))] [] I L := by
  have a1 : jE n rX9_sight 0 [.ref 9, .int m, .int k, .int t, .int s, .null, .null, .null, .null, .null] [] I L = jE n rX9_sight 62 [.ref 9, .int m, .int k, .int t, .int s, .int (t / nI 1000), .int (tR (t / nI 100)), .int (tR (t / nI 10)), .int (tR t), .int (thn (nmo I 13 m) (wS2 t))] [] I L := by
    by_cases h1 : t < 0
    · simp [eX9_sight_0, eX9_sight_44, eX9_sight_51, eX9_sight_56, eX9_sight_57, nz10, nz100, nz1000, h_noMoon, jB_s, h1, h_thn, wS2, tR]
    · by_cases h2 : nI 7 < t / nI 1000
      · have h3 : ¬ t / nI 1000 ≤ nI 7 := Int32.not_le.mpr h2
        simp [eX9_sight_0, eX9_sight_44, eX9_sight_51, eX9_sight_56, eX9_sight_57, nz10, nz100, nz1000, h_noMoon, jB_s, h1, h2, h3, h_thn, wS2, tR]
      · have h3 : t / nI 1000 ≤ nI 7 := Int32.not_lt.mp h2
        simp [eX9_sight_0, eX9_sight_44, eX9_sight_51, eX9_sight_56, eX9_sight_57, nz10, nz100, nz1000, h_noMoon, jB_s, h1, h2, h3, h_thn, wS2, tR, n00]
  have a2 : ∀ (w v5 v6 v7 v8 : Int32), jE n rX9_sight 62 [.ref 9, .int m, .int k, .int t, .int s, .int v5, .int v6, .int v7, .int v8, .int w] [] I L = jE n rX9_sight 93 [.ref 9, .int m, .int k, .int t, .int s, .int v5, .int v6, .int v7, .int v8, .int (thn w (if v6 < nI 6 ∧ v7 < nI 4 ∧ v8 < nI 4 then 0 else -1))] [] I L := by
    intro w v5 v6 v7 v8
    by_cases h1 : v6 < nI 6
    · have h1' : ¬ nI 6 ≤ v6 := Int32.not_le.mpr h1
      by_cases h2 : v7 < nI 4
      · have h2' : ¬ nI 4 ≤ v7 := Int32.not_le.mpr h2
        by_cases h3 : v8 < nI 4
        · have h3' : ¬ nI 4 ≤ v8 := Int32.not_le.mpr h3
          simp [eX9_sight_57, eX9_sight_71, eX9_sight_77, eX9_sight_83, eX9_sight_87, eX9_sight_88, h1, h1', h2, h2', h3, h3', h_thn, jB_s, n00]
        · have h3' : nI 4 ≤ v8 := Int32.not_lt.mp h3
          simp [eX9_sight_57, eX9_sight_71, eX9_sight_77, eX9_sight_83, eX9_sight_87, eX9_sight_88, h1, h1', h2, h2', h3, h3', h_thn, jB_s]
      · have h2' : nI 4 ≤ v7 := Int32.not_lt.mp h2
        simp [eX9_sight_57, eX9_sight_71, eX9_sight_77, eX9_sight_83, eX9_sight_87, eX9_sight_88, h1, h1', h2, h2', h_thn, jB_s]
    · have h1' : nI 6 ≤ v6 := Int32.not_lt.mp h1
      simp [eX9_sight_57, eX9_sight_71, eX9_sight_77, eX9_sight_83, eX9_sight_87, eX9_sight_88, h1, h1', h_thn, jB_s]
  have a3 : ∀ (w v5 v6 v7 v8 : Int32), jE n rX9_sight 93 [.ref 9, .int m, .int k, .int t, .int s, .int v5, .int v6, .int v7, .int v8, .int w] [] I L = jE n rX9_sight 115 [.ref 9, .int m, .int k, .int t, .int s, .int v5, .int v6, .int v7, .int v8, .int (thn w (wS4 k s))] [] I L := by
    intro w v5 v6 v7 v8
    by_cases h1 : k < 0
    · simp [eX9_sight_88, eX9_sight_99, eX9_sight_104, eX9_sight_109, eX9_sight_110, h1, h_thn, jB_s, wS4]
    · by_cases h2 : s < 0
      · have h2' : ¬ 0 ≤ s := Int32.not_le.mpr h2
        simp [eX9_sight_88, eX9_sight_99, eX9_sight_104, eX9_sight_109, eX9_sight_110, h1, h2, h2', h_thn, jB_s, wS4]
      · have h2' : 0 ≤ s := Int32.not_lt.mp h2
        simp [eX9_sight_88, eX9_sight_99, eX9_sight_104, eX9_sight_109, eX9_sight_110, h1, h2, h2', h_thn, jB_s, wS4, n00]
  have a4 : ∀ (w v5 v6 v7 v8 : Int32), jE n rX9_sight 115 [.ref 9, .int m, .int k, .int t, .int s, .int v5, .int v6, .int v7, .int v8, .int w] [] I L = jE n rX9_sight 142 [.ref 9, .int m, .int k, .int t, .int s, .int v5, .int v6, .int v7, .int v8, .int (thn w (wS5 k s))] [] I L := by
    intro w v5 v6 v7 v8
    by_cases h1 : nI 999 < k
    · simp [eX9_sight_110, eX9_sight_124, eX9_sight_131, eX9_sight_136, eX9_sight_137, h1, h_thn, jB_s, wS5]
    · by_cases h2 : nI 1999999999 < s
      · have h2' : ¬ s ≤ nI 1999999999 := Int32.not_le.mpr h2
        simp [eX9_sight_110, eX9_sight_124, eX9_sight_131, eX9_sight_136, eX9_sight_137, h1, h2, h2', h_thn, jB_s, wS5]
      · have h2' : s ≤ nI 1999999999 := Int32.not_lt.mp h2
        simp [eX9_sight_110, eX9_sight_124, eX9_sight_131, eX9_sight_136, eX9_sight_137, h1, h2, h2', h_thn, jB_s, wS5, n00]
  have a5 : ∀ (w v5 v6 v7 v8 : Int32), jE n rX9_sight 142 [.ref 9, .int m, .int k, .int t, .int s, .int v5, .int v6, .int v7, .int v8, .int w] [] I L = jE n rX9_sight 170 [.ref 9, .int m, .int k, .int t, .int s, .int v5, .int v6, .int v7, .int v8, .int (thn w (wS6 (I 26 8)))] [] I L := by
    intro w v5 v6 v7 v8
    by_cases h1 : I 26 8 < nI 40
    · have h1' : ¬ nI 40 ≤ I 26 8 := Int32.not_le.mpr h1
      simp [eX9_sight_137, eX9_sight_159, eX9_sight_163, eX9_sight_165, h1, h1', h_thn, jB_s, wS6, n00]
    · have h1' : nI 40 ≤ I 26 8 := Int32.not_lt.mp h1
      simp [eX9_sight_137, eX9_sight_159, eX9_sight_163, eX9_sight_165, h1, h1', h_thn, jB_s, wS6]
  rw [a1, a2, a3, a4, a5]
  simp only [thn_as, wS3]

theorem lt_le_succ (x : Int32) {k : Nat} (hk : k + 1 < 2147483648) : nI k < x ↔ ¬ x < nI (k + 1) := by
  rw [Int32.lt_iff_toInt_lt, Int32.lt_iff_toInt_lt, nI_toInt hk, nI_toInt (show k < 2 ^ 31 by omega)]
  omega
theorem op_sight (n : Nat) (m k t s : Int32) : Op n rX9_sight rX10_sight [.ref 9, .int m, .int k, .int t, .int s, .null, .null, .null, .null, .null] [.ref 111, .int m, .int k, .int t, .int s, .null] := by
  intro I L hI hM
  obtain ⟨e8, hN⟩ := Inv_N hI
  have e20 : I 111 20 = nI (zN I) := by rw [← e8]; exact (hM.1 111 20).1 rfl
  have c0 := c_sight_a n I L m k t s
  have e1 : ¬ (-1 : Int32) = 0 := by decide
  have e2 : ¬ (-2 : Int32) = 0 := by decide
  have e4 : ¬ (-4 : Int32) = 0 := by decide
  have e6 : ¬ (-6 : Int32) = 0 := by decide
  have ref : ∀ w : Int32, isR w → thn (nmo I 13 m) (thn (wS2 t) (thn (wS3 t) (thn (wS4 k s) (thn (wS5 k s) (wS6 (I 26 8)))))) = w → (∀ J : jm_I, Mod J I → jE n rX10_sight 0 [.ref 111, .int m, .int k, .int t, .int s, .null] [] J L = some (some (.int w), jS n (rfm J (rz w)) L)) →
      ∃ (v : Value) (I1 : jm_I) (L1 : jm_L) (I2 : jm_I) (L2 : jm_L), jE n rX9_sight 0 [.ref 9, .int m, .int k, .int t, .int s, .null, .null, .null, .null, .null] [] I L = some (some v, jS n I1 L1) ∧ jE n rX10_sight 0 [.ref 111, .int m, .int k, .int t, .int s, .null] [] I1 L1 = some (some v, jS n I2 L2) ∧ Inv I2 ∧ Mod I2 I2 := by
    intro w hr hw hmo
    have h0 : ¬ w = 0 := by rcases hr with rfl | rfl | rfl | rfl | rfl <;> decide
    refine Op_ref hI hM (.int w) w ?_ ?_
    · rw [c0, hw]
      simp [eX9_sight_165, eX9_sight_175, h0, h_refuse n I L w hr, jB_s]
    · exact hmo _ (Mod_congr (I := I) (A := I) (fun a ha => by unfold rf; rw [jm_u_ne _ _ _ (by omega)]) (Cls_rf I) hM)
  have k5 := lt_le_succ (tR (t / nI 100)) (k := 5) (by decide)
  have k3 := lt_le_succ (tR (t / nI 10)) (k := 3) (by decide)
  have k3b := lt_le_succ (tR t) (k := 3) (by decide)
  by_cases hm : mo I 13 m
  · have rm : ∀ J : jm_I, Mod J I → bmo J 119 m = nI 1 := fun J hJ => bmo_t ((Mod_mo hJ m).mpr hm)
    have r20 : ∀ J : jm_I, Mod J I → J 111 20 = nI (zN I) := fun J hJ => by rw [← e8]; exact (hJ.1 111 20).1 rfl
    by_cases h2 : t < 0 ∨ nI 7 < t / nI 1000
    · refine ref (-2) (by simp [isR]) ?_ (fun J hJ => ?_)
      · rw [nmo_t hm, thn_0, wS2, if_pos h2, thn_n e2]
      · by_cases h2a : t < 0
        · simp [eX10_sight_0, eX10_sight_14, eX10_sight_18, eX10_sight_28, m_isMoon, rm J hJ, jB_s, n10, h2a, m_no n J L (-2) (by simp [isR])]
        · have h2b : ¬ t / nI 1000 ≤ nI 7 := Int32.not_le.mpr (h2.resolve_left h2a)
          simp [eX10_sight_0, eX10_sight_14, eX10_sight_18, eX10_sight_28, m_isMoon, rm J hJ, jB_s, n10, h2a, h2b, nz1000, m_no n J L (-2) (by simp [isR])]
    · have h2a : ¬ t < 0 := fun q => h2 (Or.inl q)
      have h2b : t / nI 1000 ≤ nI 7 := Int32.not_lt.mp (fun q => h2 (Or.inr q))
      have m1 : ∀ J : jm_I, Mod J I → jE n rX10_sight 0 [.ref 111, .int m, .int k, .int t, .int s, .null] [] J L = jE n rX10_sight 35 [.ref 111, .int m, .int k, .int t, .int s, .null] [] J L := fun J hJ => by
        simp [eX10_sight_0, eX10_sight_14, eX10_sight_18, m_isMoon, rm J hJ, jB_s, n10, h2a, h2b, nz1000]
      by_cases h3 : tR (t / nI 100) < nI 6 ∧ tR (t / nI 10) < nI 4 ∧ tR t < nI 4
      · have q5 : ¬ nI 5 < t / nI 100 - t / nI 100 / nI 10 * nI 10 := fun q => (k5.mp q) h3.1
        have q3 : ¬ nI 3 < t / nI 10 - t / nI 10 / nI 10 * nI 10 := fun q => (k3.mp q) h3.2.1
        have q3b : t - t / nI 10 * nI 10 ≤ nI 3 := Int32.not_lt.mp (fun q => (k3b.mp q) h3.2.2)
        have m2 : ∀ J : jm_I, Mod J I → jE n rX10_sight 0 [.ref 111, .int m, .int k, .int t, .int s, .null] [] J L = jE n rX10_sight 71 [.ref 111, .int m, .int k, .int t, .int s, .null] [] J L := fun J hJ => by
          rw [m1 J hJ]
          simp [eX10_sight_35, eX10_sight_46, eX10_sight_57, nz10, nz100, q5, q3, q3b]
        by_cases h4 : k < 0 ∨ s < 0
        · refine ref (-4) (by simp [isR]) ?_ (fun J hJ => ?_)
          · rw [nmo_t hm, thn_0, wS2, if_neg h2, thn_0, wS3, if_pos h3, thn_0, wS4, if_pos h4, thn_n e4]
          · rw [m2 J hJ]
            by_cases h4a : k < 0
            · simp [eX10_sight_71, eX10_sight_75, eX10_sight_80, eX10_sight_114, eX10_sight_121, eX10_sight_161, h4a, m_no n J L (-4) (by simp [isR]), jB_s]
            · have h4b : ¬ 0 ≤ s := Int32.not_le.mpr (h4.resolve_left h4a)
              simp [eX10_sight_71, eX10_sight_75, eX10_sight_80, eX10_sight_114, eX10_sight_121, eX10_sight_161, h4a, h4b, m_no n J L (-4) (by simp [isR]), jB_s]
        · have h4a : ¬ k < 0 := fun q => h4 (Or.inl q)
          have h4b : 0 ≤ s := Int32.not_lt.mp (fun q => h4 (Or.inr q))
          by_cases h5 : nI 999 < k ∨ nI 1999999999 < s
          · refine ref (-6) (by simp [isR]) ?_ (fun J hJ => ?_)
            · rw [nmo_t hm, thn_0, wS2, if_neg h2, thn_0, wS3, if_pos h3, thn_0, wS4, if_neg h4, thn_0, wS5, if_pos h5, thn_n e6]
            · rw [m2 J hJ]
              by_cases h5a : nI 999 < k
              · simp [eX10_sight_71, eX10_sight_75, eX10_sight_85, eX10_sight_92, eX10_sight_108, eX10_sight_114, eX10_sight_121, eX10_sight_161, h4a, h4b, h5a, m_no n J L (-6) (by simp [isR]), jB_s]
              · have h5b := h5.resolve_left h5a
                simp [eX10_sight_71, eX10_sight_75, eX10_sight_85, eX10_sight_92, eX10_sight_108, eX10_sight_114, eX10_sight_121, eX10_sight_161, h4a, h4b, h5a, h5b, m_no n J L (-6) (by simp [isR]), jB_s]
          · have h5a : ¬ nI 999 < k := fun q => h5 (Or.inl q)
            have h5b : ¬ nI 1999999999 < s := fun q => h5 (Or.inr q)
            by_cases h6 : zN I = 40
            · have c6 : ¬ nI 40 < nI 40 := by decide
              refine ref (-6) (by simp [isR]) ?_ (fun J hJ => ?_)
              · rw [nmo_t hm, thn_0, wS2, if_neg h2, thn_0, wS3, if_pos h3, thn_0, wS4, if_neg h4, thn_0, wS5, if_neg h5, thn_0, e8, h6, wS6, if_neg c6]
              · rw [m2 J hJ]
                simp [eX10_sight_71, eX10_sight_75, eX10_sight_85, eX10_sight_92, eX10_sight_99, eX10_sight_108, eX10_sight_114, eX10_sight_121, eX10_sight_161, h4a, h4b, h5a, h5b, r20 J hJ, h6, m_no n J L (-6) (by simp [isR]), jB_s]
            · have hN40 : zN I < 40 := by omega
              have c6 : nI (zN I) < nI 40 := nI_lt hN40 (by decide)
              have c6b : ¬ nI (zN I) = nI 40 := fun q => h6 ((nI_inj (by omega) (by decide)).mp q)
              obtain ⟨mk, hmk, em, -⟩ := mo_ix hm
              obtain ⟨j, hj, ej⟩ := nI_of h2a
              have hj31 : j < 2147483648 := hj
              have v1 : t / nI 1000 = nI (j / 1000) := by rw [ej]; exact pk_div hj (by decide) (by decide)
              have v2 : tR (t / nI 100) = nI (j / 100 % 10) := by rw [ej, pk_div hj (by decide) (by decide)]; exact pk_rem (by omega) (by decide) (by decide)
              have v3 : tR (t / nI 10) = nI (j / 10 % 10) := by rw [ej, pk_div hj (by decide) (by decide)]; exact pk_rem (by omega) (by decide) (by decide)
              have v4 : tR t = nI (j % 10) := by rw [ej]; exact pk_rem hj (by decide) (by decide)
              have r1 : j / 1000 ≤ 7 := by rw [v1] at h2b; exact (nI_leI (by omega) (by decide)).mp h2b
              have r2 : j / 100 % 10 < 6 := by have := h3.1; rw [v2] at this; exact (nI_ltI (by omega) (by decide)).mp this
              have r3 : j / 10 % 10 < 4 := by have := h3.2.1; rw [v3] at this; exact (nI_ltI (by omega) (by decide)).mp this
              have r4 : j % 10 < 4 := by have := h3.2.2; rw [v4] at this; exact (nI_ltI (by omega) (by decide)).mp this
              refine ⟨.int (nI (zN I)), addI I (zN I) m k (t / nI 1000) (tR (t / nI 100)) (tR (t / nI 10)) (tR t) s, L, telI (addI I (zN I) m k (t / nI 1000) (tR (t / nI 100)) (tR (t / nI 10)) (tR t) s) (zN I) m k (t / nI 1000) (tR (t / nI 100)) (tR (t / nI 10)) (tR t) s, L, ?_, ?_, ?_⟩
              · have hw : thn (nmo I 13 m) (thn (wS2 t) (thn (wS3 t) (thn (wS4 k s) (thn (wS5 k s) (wS6 (I 26 8)))))) = 0 := by
                  rw [nmo_t hm, thn_0, wS2, if_neg h2, thn_0, wS3, if_pos h3, thn_0, wS4, if_neg h4, thn_0, wS5, if_neg h5, thn_0, e8, wS6, if_pos c6]
                rw [c0, hw]
                have ea : addI I (zN I) m k (t / nI 1000) (tR (t / nI 100)) (tR (t / nI 10)) (tR t) s 26 8 = nI (zN I + 1) := by unfold addI; rw [jm_u_eq, if_pos rfl]
                have eb : nI (zN I + 1) - nI 1 = nI (zN I) := nI_pred _
                simp [eX9_sight_165, eX9_sight_182, c_add n I L hN40 e8, jB_v, ea, eb]
              · have hJ : Mod (addI I (zN I) m k (t / nI 1000) (tR (t / nI 100)) (tR (t / nI 10)) (tR t) s) I := Mod_congr (I := I) (A := I) (fun a ha => by unfold addI; repeat rw [jm_u_ne _ _ _ (by omega)]) (Cls_rf I) hM
                rw [m2 _ hJ]
                have h5c := r20 _ hJ
                have m3 := m_tells n (addI I (zN I) m k (t / nI 1000) (tR (t / nI 100)) (tR (t / nI 10)) (tR t) s) L hN40 h5c m k (t / nI 1000) (tR (t / nI 100)) (tR (t / nI 10)) (tR t) s
                unfold tR at m3 h5c ⊢
                simp [eX10_sight_71, eX10_sight_75, eX10_sight_85, eX10_sight_92, eX10_sight_99, eX10_sight_113, eX10_sight_114, eX10_sight_130, eX10_sight_161, h4a, h4b, h5a, h5b, h5c, c6b, n00, nz10, nz100, nz1000, m3, jB_s]
              · refine Op_fin (I := I) (J := addI I (zN I) m k (t / nI 1000) (tR (t / nI 100)) (tR (t / nI 10)) (tR t) s) (M := telI I (zN I) m k (t / nI 1000) (tR (t / nI 100)) (tR (t / nI 10)) (tR t) s) ?_ (Mod_add hM hN40 rfl _ _ _ _ _ _ _) (add_cls _ _ _ _ _ _ _ _ _ _ _ _ _ _ _ _) (add_meq (fun _ _ => rfl) _ _ _ _ _ _ _ _ _ _ _ _ _ _ _)
                have h5a' := h5a
                have h5b' := h5b
                have h4a' := h4a
                have h4b' := h4b
                rw [Int32.lt_iff_toInt_lt, show (nI 999).toInt = 999 from by decide] at h5a'
                rw [Int32.lt_iff_toInt_lt, show (nI 1999999999).toInt = 1999999999 from by decide] at h5b'
                rw [Int32.lt_iff_toInt_lt, show (0 : Int32).toInt = 0 from by decide] at h4a'
                rw [Int32.le_iff_toInt_le, show (0 : Int32).toInt = 0 from by decide] at h4b'
                refine Inv_add hI hN40 ?_ ⟨by omega, by omega⟩ ?_ ?_ ?_ ?_ ⟨by omega, by omega⟩
                · rw [em]; exact nI_rg (k := 3) (by omega) (by decide)
                · rw [v1]; exact nI_rg (k := 7) r1 (by decide)
                · rw [v2]; exact nI_rg (k := 5) (by omega) (by decide)
                · rw [v3]; exact nI_rg (k := 3) (by omega) (by decide)
                · rw [v4]; exact nI_rg (k := 3) (by omega) (by decide)
      · refine ref (-1) (Or.inl rfl) ?_ (fun J hJ => ?_)
        · rw [nmo_t hm, thn_0, wS2, if_neg h2, thn_0, wS3, if_neg h3, thn_n e1]
        · rw [m1 J hJ]
          by_cases h3a : tR (t / nI 100) < nI 6
          · have q5 : ¬ nI 5 < t / nI 100 - t / nI 100 / nI 10 * nI 10 := fun q => (k5.mp q) h3a
            by_cases h3b : tR (t / nI 10) < nI 4
            · have q3 : ¬ nI 3 < t / nI 10 - t / nI 10 / nI 10 * nI 10 := fun q => (k3.mp q) h3b
              have q3b : ¬ t - t / nI 10 * nI 10 ≤ nI 3 := Int32.not_le.mpr (k3b.mpr (fun q => h3 ⟨h3a, h3b, q⟩))
              simp [eX10_sight_35, eX10_sight_46, eX10_sight_57, eX10_sight_65, nz10, nz100, q5, q3, q3b, m_no n J L (-1) (Or.inl rfl), jB_s]
            · have q3 : nI 3 < t / nI 10 - t / nI 10 / nI 10 * nI 10 := k3.mpr h3b
              simp [eX10_sight_35, eX10_sight_46, eX10_sight_57, eX10_sight_65, nz10, nz100, q5, q3, m_no n J L (-1) (Or.inl rfl), jB_s]
          · have q5 : nI 5 < t / nI 100 - t / nI 100 / nI 10 * nI 10 := k5.mpr h3a
            simp [eX10_sight_35, eX10_sight_46, eX10_sight_57, eX10_sight_65, nz10, nz100, q5, m_no n J L (-1) (Or.inl rfl), jB_s]
  · refine ref (-1) (Or.inl rfl) ?_ (fun J hJ => ?_)
    · rw [nmo_f hm, thn_n e1]
    · simp [eX10_sight_0, eX10_sight_8, m_isMoon, bmo_f (fun q => hm ((Mod_mo hJ m).mp q)), jB_s, n00, m_no n J L (-1) (Or.inl rfl)]
