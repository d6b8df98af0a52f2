theorem mulb {a b : Int} {p q : Nat} (ha : a.natAbs ≤ p) (hb : b.natAbs ≤ q) : (a * b).natAbs ≤ p * q := by
  rw [Int.natAbs_mul]
  exact Nat.mul_le_mul ha hb
theorem tdiv_r {t y : Int} (hy : 0 < y) : (t - t.tdiv y * y).natAbs < y.natAbs ∧ (t.tdiv y).natAbs ≤ t.natAbs := by
  have key : ∀ u : Int, 0 ≤ u → 0 ≤ u - u.tdiv y * y ∧ u - u.tdiv y * y < y ∧ 0 ≤ u.tdiv y ∧ u.tdiv y ≤ u := by
    intro u hu
    rw [Int.tdiv_eq_ediv_of_nonneg hu]
    have h1 := Int.emod_nonneg u (show y ≠ 0 by omega)
    have h2 := Int.emod_lt_of_pos u hy
    have h3 : u % y = u - y * (u / y) := Int.emod_def u y
    have h4 := Int.ediv_nonneg hu (show 0 ≤ y by omega)
    have h5 : u / y ≤ u := Int.ediv_le_self y hu
    rw [Int.mul_comm y] at h3
    omega
  by_cases h : 0 ≤ t
  · obtain ⟨h1, h2, h3, h4⟩ := key t h
    omega
  · obtain ⟨h1, h2, h3, h4⟩ := key (-t) (by omega)
    rw [Int.neg_tdiv] at h1 h2 h3 h4
    rw [Int.neg_mul] at h1 h2
    omega
theorem tdiv_lt {r y : Int} {c : Nat} (hy : 0 < y) (hr : r.natAbs < c * y.natAbs) : (r.tdiv y).natAbs < c := by
  have key : ∀ u : Int, 0 ≤ u → u < c * y → 0 ≤ u.tdiv y ∧ u.tdiv y < c := by
    intro u hu h
    rw [Int.tdiv_eq_ediv_of_nonneg hu]
    exact ⟨Int.ediv_nonneg hu (by omega), Int.ediv_lt_of_lt_mul hy h⟩
  have ey : (y.natAbs : Int) = y := by omega
  have hr2 : (r.natAbs : Int) < c * y := by
    have : ((c * y.natAbs : Nat) : Int) = c * y := by rw [Int.natCast_mul, ey]
    omega
  by_cases h : 0 ≤ r
  · obtain ⟨h1, h2⟩ := key r h (by omega)
    omega
  · obtain ⟨h1, h2⟩ := key (-r) (by omega) (by omega)
    rw [Int.neg_tdiv] at h1 h2
    omega
/-- how far the world is off, at second t, in a year of y -/
def zfar (y t : Int) : Int := if 2000 - ((t - t.tdiv y * y) * 2000).tdiv y < ((t - t.tdiv y * y) * 2000).tdiv y then 2000 - ((t - t.tdiv y * y) * 2000).tdiv y else ((t - t.tdiv y * y) * 2000).tdiv y
theorem zfar_p {y t : Int} (hy : 0 < y) : (((t - t.tdiv y * y) * 2000).tdiv y).natAbs < 2000 := by
  refine tdiv_lt hy ?_
  have := (tdiv_r (t := t) hy).1
  rw [Int.natAbs_mul, show Int.natAbs 2000 = 2000 from rfl, Nat.mul_comm]
  exact (Nat.mul_lt_mul_left (by decide)).mpr this
theorem zfar_rg {y t : Int} (hy : 0 < y) : -2000 < zfar y t ∧ zfar y t ≤ 1000 := by
  have h := zfar_p (t := t) hy
  unfold zfar
  split <;> omega
theorem zfar_steps {y t : Int} (hy : 1000 ≤ y ∧ y ≤ 99999999) (ht : t.natAbs < 1000000000000) : lZ t / lZ y = lZ (t.tdiv y) ∧ lZ ((t - t.tdiv y * y) * 2000) / lZ y = lZ (((t - t.tdiv y * y) * 2000).tdiv y) := by
  have h1 := tdiv_r (t := t) (y := y) (by omega)
  refine ⟨lZ_div ⟨by omega, by omega⟩ ⟨by omega, by omega⟩, lZ_div ⟨by omega, by omega⟩ ⟨by omega, by omega⟩⟩
theorem lZ_ne0 {y : Int} (h : 0 < y) (h2 : y < 9223372036854775808) : ¬ lZ y = 0 := by
  rw [show (0 : Int64) = lZ 0 from rfl, lZ_eq ⟨by omega, by omega⟩ ⟨by omega, by omega⟩]
  omega
theorem yr {A : jm_I} (h : Inv A) : rg (A 11 1) 1000 99999999 := (h 11 1 (by decide)).2.1 rfl
def zY (A : jm_I) : Int := (A 11 1).toInt
theorem c_farOf (n : Nat) (I : jm_I) (L : jm_L) (hI : Inv I) {t : Int} (ht : t.natAbs < 1000000000000) : jE n rX8_farOf 0 [.ref 10, .long (lZ t), .null, .null, .null, .null] [] I L = some (some (.int (iZ (zfar (zY I) t))), jS n I L) := by
  have hy := yr hI
  have hs : I 0 1 = nI 1000 := (st_at hI 0 1 (by decide)).trans (by decide)
  have hm : ¬ I 11 1 < nI 1000 := by
    rw [Int32.lt_iff_toInt_lt, show (nI 1000).toInt = 1000 from by decide]
    have := hy.1
    omega
  have hn : ¬ lZ (zY I) = 0 := lZ_ne0 (by have := hy.1; unfold zY; omega) (by have := hy.2; unfold zY; omega)
  have el : (I 11 1).toInt64 = lZ (zY I) := toL _
  obtain ⟨s1, s2⟩ := zfar_steps (y := zY I) hy ht
  have hp := zfar_p (y := zY I) (t := t) (by have := hy.1; unfold zY; omega)
  have e2 : lN 2000 = lZ 2000 := rfl
  simp only [eX8_farOf_0, jLI_t, jLW_t, jLL_t, jLZ_t, jLA_t, show (1 : Nat) < 5 from by decide, hs, hm, if_false, el, hn, not_false_eq_true, s1, e2, lZ_mul, lZ_sub, s2]
  rw [show (if lZ (2000 - ((t - t.tdiv (zY I) * zY I) * 2000).tdiv (zY I)) < lZ (((t - t.tdiv (zY I) * zY I) * 2000).tdiv (zY I)) then lZ (2000 - ((t - t.tdiv (zY I) * zY I) * 2000).tdiv (zY I)) else lZ (((t - t.tdiv (zY I) * zY I) * 2000).tdiv (zY I))) = lZ (zfar (zY I) t) from ?_, lZ_i32]
  have hlt := lZ_lt (a := 2000 - ((t - t.tdiv (zY I) * zY I) * 2000).tdiv (zY I)) (b := ((t - t.tdiv (zY I) * zY I) * 2000).tdiv (zY I)) ⟨by omega, by omega⟩ ⟨by omega, by omega⟩
  unfold zfar
  by_cases h : 2000 - ((t - t.tdiv (zY I) * zY I) * 2000).tdiv (zY I) < ((t - t.tdiv (zY I) * zY I) * 2000).tdiv (zY I)
  · rw [if_pos h, if_pos (hlt.mpr h)]
  · rw [if_neg h, if_neg (fun q => h (hlt.mp q))]
theorem m_farOf (n : Nat) (J A : jm_I) (L : jm_L) (hA : Inv A) (hM : Mod J A) {t : Int} (ht : t.natAbs < 1000000000000) : jE n rX10_farOf 0 [.ref 111, .long (lZ t), .null, .null, .null] [] J L = some (some (.long (lZ (zfar (zY A) t))), jS n J L) := by
  have hy := yr hA
  have hn : ¬ lZ (zY A) = 0 := lZ_ne0 (by have := hy.1; unfold zY; omega) (by have := hy.2; unfold zY; omega)
  have e1 : J 118 1 = A 11 1 := hM.1 118 1 (by decide)
  have el : (A 11 1).toInt64 = lZ (zY A) := toL _
  obtain ⟨s1, s2⟩ := zfar_steps (y := zY A) hy ht
  have hp := zfar_p (y := zY A) (t := t) (by have := hy.1; unfold zY; omega)
  have e2 : lN 2000 = lZ 2000 := rfl
  simp only [eX10_farOf_0, eX10_farOf_32, eX10_farOf_36, eX10_farOf_41, jLI_t, jLW_t, jLL_t, jLZ_t, jLA_t, show (1 : Nat) < 5 from by decide, e1, el, hn, not_false_eq_true, s1, e2, lZ_mul, lZ_sub, s2, lZ_le ⟨show -9223372036854775808 ≤ 2000 - ((t - t.tdiv (zY A) * zY A) * 2000).tdiv (zY A) by omega, by omega⟩ ⟨show -9223372036854775808 ≤ ((t - t.tdiv (zY A) * zY A) * 2000).tdiv (zY A) by omega, by omega⟩]
  unfold zfar
  by_cases h : 2000 - ((t - t.tdiv (zY A) * zY A) * 2000).tdiv (zY A) ≤ ((t - t.tdiv (zY A) * zY A) * 2000).tdiv (zY A)
  · rw [if_pos h]
    by_cases h2 : 2000 - ((t - t.tdiv (zY A) * zY A) * 2000).tdiv (zY A) < ((t - t.tdiv (zY A) * zY A) * 2000).tdiv (zY A)
    · rw [if_pos h2]
    · rw [if_neg h2, show 2000 - ((t - t.tdiv (zY A) * zY A) * 2000).tdiv (zY A) = ((t - t.tdiv (zY A) * zY A) * 2000).tdiv (zY A) by omega]
  · rw [if_neg h, if_neg (by omega)]
theorem op_far (n : Nat) (t : Int32) : Op n rX9_far rX10_far [.ref 9, .int t, .null] [.ref 111, .int t, .null] := by
  intro I L hI hM
  by_cases hz : zout t (nI 0) (nI 1999999999) = 0
  · have r := rg_out (by decide) (by decide) hz
    have ht : t.toInt.natAbs < 1000000000000 := by have := r.1; have := r.2; omega
    have el : t.toInt64 = lZ t.toInt := toL _
    refine ⟨.int (iZ (zfar (zY I) t.toInt)), I, L, I, L, ?_, ?_, hI, hM⟩
    · simp [eX9_far_0, eX9_far_12, eX9_far_20, eX9_far_29, h_outside, hz, jB_s, el, c_farOf n I L hI ht]
    · simp [eX10_far_0, eX10_far_14, eX10_far_22, eX10_far_29, m_out, hz, jB_s]
      rw [el]
      simp [m_farOf n I I L hI hM ht, jB_s, eX10_far_0, eX10_far_14, eX10_far_22, eX10_far_29, lZ_i32]
  · have hr := isR_of (isZ_out t (nI 0) (nI 1999999999)) hz
    refine Op_ref hI hM (.int (zout t (nI 0) (nI 1999999999))) (zout t (nI 0) (nI 1999999999)) ?_ ?_
    · simp [eX9_far_0, eX9_far_12, eX9_far_20, eX9_far_29, h_outside, hz, jB_s, h_refuse n I L _ hr]
    · simp [eX10_far_0, eX10_far_14, eX10_far_22, eX10_far_29, m_out, hz, jB_s, m_no n _ L _ hr]
/-! the wave -/
def zw (k : Nat) : Int := (wvL (k % 8)).toInt
theorem wv8 {j : Nat} (hj : j < 8) : (wvL j).toInt.natAbs ≤ 4 := jF8 (P := fun j => (wvL j).toInt.natAbs ≤ 4) (by decide) (by decide) (by decide) (by decide) (by decide) (by decide) (by decide) (by decide) hj
theorem zw_rg (k : Nat) : (zw k).natAbs ≤ 4 := wv8 (Nat.mod_lt _ (by decide))
theorem st_2 {I : jm_I} (h : Inv I) {i : Nat} (hi : i < 8) : I 2 i = wvL i := by
  rw [st_at h 2 i (by decide)]
  exact jF8 (P := fun i => jI00 (fun _ => 0) 2 i = wvL i) (by decide) (by decide) (by decide) (by decide) (by decide) (by decide) (by decide) (by decide) hi
theorem wvi (k : Nat) : wvL (k % 8) = iZ (zw k) := (iZ_toInt _).symm
theorem c_wave (n : Nat) (I : jm_I) (L : jm_L) (hI : Inv I) {k : Nat} (hk : k < 2147483648) : jE n rX9_waveOf 0 [.int (nI k)] [] I L = some (some (.int (iZ (zw k))), jS n I L) := by
  have e : nI k &&& nI 7 = nI (k % 8) := pk_andN (show k < 2 ^ 32 by omega) 3 (by decide)
  have h8 : k % 8 < 8 := Nat.mod_lt _ (by decide)
  simp only [eX9_waveOf_0, e, jLI_t, jLW_t, jLL_t, jLZ_t, jLA_t, h8, st_2 hI h8, wvi]
theorem m_wave (n : Nat) (J A : jm_I) (L : jm_L) (hM : Mod J A) {k : Nat} (hk : k < 2147483648) : jE n rX10_waveOf 0 [.ref 111, .int (nI k)] [] J L = some (some (.int (iZ (zw k))), jS n J L) := by
  have e : nI k - nI k / nI 8 * nI 8 = nI (k % 8) := pk_rem hk (by decide) (by decide)
  have h8 : k % 8 < 8 := Nat.mod_lt _ (by decide)
  have e2 : J 120 (k % 8) = wvL (k % 8) := hM.2.1 120 _ h8
  have nz : ¬ nI 8 = 0 := by decide
  simp only [eX10_waveOf_0, nz, not_false_eq_true, e, jLI_t, jLW_t, jLL_t, jLZ_t, jLA_t, h8, e2, wvi]
/-! when a moon fades -/
def zP (A : jm_I) (m k j : Nat) : Int := if ¬ j = m ∧ ¬ A 13 j = 0 then (A 18 (4 * m + j)).toInt * zw (k * (j + 1)) else 0
def zF (A : jm_I) (m k : Nat) : Nat → Int
  | 0 => (A 14 m).toInt + k * (A 15 m).toInt + (A 16 m).toInt * zw k
  | j + 1 => zF A m k j + zP A m k j
theorem zF_0 (A : jm_I) (m k : Nat) : zF A m k 0 = (A 14 m).toInt + k * (A 15 m).toInt + (A 16 m).toInt * zw k := rfl
def zfade (A : jm_I) (m k : Nat) : Int := zF A m k 4
theorem iZ_m {a b : Int} {p q : Nat} (ha : a.natAbs ≤ p) (hb : b.natAbs ≤ q) (h : p * q < 2147483648) : (iZ a * iZ b).toInt64 = lZ (a * b) := by
  have := mulb ha hb
  rw [iZ_mul, iZ_l (by omega) (by omega)]
theorem i32 (x : Int32) : x = iZ x.toInt := (iZ_toInt x).symm
theorem zP_rg {A : jm_I} (h : Inv A) {m k j : Nat} (hm : m < 4) (hj : j < 4) : (zP A m k j).natAbs ≤ 36 := by
  unfold zP
  split
  · have r : rg (A 18 (4 * m + j)) (-9) 9 := h 18 _ (by decide) (by omega)
    exact mulb (p := 9) (q := 4) (by have := r.1; have := r.2; omega) (zw_rg _)
  · decide
theorem zF0_rg {A : jm_I} (h : Inv A) {m k : Nat} (hm : m < 4) (hk : k < 1000) : (zF A m k 0).natAbs ≤ 1000000000 + 1000000 + 396 := by
  have r1 : rg (A 14 m) 0 999999 := h 14 m (by decide) hm
  have r2 : rg (A 15 m) 0 999999 := h 15 m (by decide) hm
  have r3 : rg (A 16 m) 0 99 := h 16 m (by decide) hm
  have m1 := mulb (a := (k : Int)) (b := (A 15 m).toInt) (p := 999) (q := 999999) (by omega) (by have := r2.1; have := r2.2; omega)
  have m2 := mulb (a := (A 16 m).toInt) (b := zw k) (p := 99) (q := 4) (by have := r3.1; have := r3.2; omega) (zw_rg k)
  have := r1.1; have := r1.2
  show ((A 14 m).toInt + k * (A 15 m).toInt + (A 16 m).toInt * zw k).natAbs ≤ _
  omega
theorem zfade_rg {A : jm_I} (h : Inv A) {m k : Nat} (hm : m < 4) (hk : k < 1000) : (zfade A m k).natAbs < 2000000000 := by
  have h0 := zF0_rg h hm hk
  have p0 := zP_rg h (k := k) hm (j := 0) (by decide)
  have p1 := zP_rg h (k := k) hm (j := 1) (by decide)
  have p2 := zP_rg h (k := k) hm (j := 2) (by decide)
  have p3 := zP_rg h (k := k) hm (j := 3) (by decide)
  show (zF A m k 0 + zP A m k 0 + zP A m k 1 + zP A m k 2 + zP A m k 3).natAbs < _
  omega
theorem c_fade_loop (n : Nat) (I : jm_I) (L : jm_L) (hI : Inv I) {m k : Nat} (hm : m < 4) (hk : k < 1000) : ∀ (d j : Nat), j + d = 4 → jE n rX8_fadesAt 44 [.ref 10, .int (nI m), .int (nI k), .long (lZ (zF I m k j)), .null, .int (nI j)] [] I L = some (some (.long (lZ (zfade I m k))), jS n I L) := by
  intro d
  induction d with
  | zero =>
    intro j hj
    have : j = 4 := by omega
    subst this
    have c : nI 4 ≤ nI 4 := Int32.le_refl _
    simp only [eX8_fadesAt_44, eX8_fadesAt_103, c, if_true, zfade]
  | succ d ih =>
    intro j hj
    have hj4 : j < 4 := by omega
    have c : ¬ nI 4 ≤ nI j := nI_ge hj4 (by decide)
    have hd0 : jE n rX8_fadesAt 44 [.ref 10, .int (nI m), .int (nI k), .long (lZ (zF I m k j)), .null, .int (nI j)] [] I L = jE n rX8_fadesAt 50 [.ref 10, .int (nI m), .int (nI k), .long (lZ (zF I m k j)), .null, .int (nI j)] [] I L := by
      simp only [eX8_fadesAt_44, c, if_false]
    rw [hd0]
    have ih2 := ih (j + 1) (by omega)
    have ee : zF I m k (j + 1) = zF I m k j + zP I m k j := rfl
    rw [ee] at ih2
    by_cases e : j = m
    · have e0 : zP I m k j = 0 := by unfold zP; rw [if_neg (fun q => q.1 e)]
      rw [e0, Int.add_zero] at ih2
      subst e
      simp only [eX8_fadesAt_50, eX8_fadesAt_97, if_true, nI_add]
      exact ih2
    · have e2 : ¬ nI j = nI m := fun q => e ((nI_inj (by omega) (by omega)).mp q)
      by_cases h0 : I 13 j = 0
      · have e0 : zP I m k j = 0 := by unfold zP; rw [if_neg (fun q => q.2 h0)]
        rw [e0, Int.add_zero] at ih2
        simp only [eX8_fadesAt_50, eX8_fadesAt_56, eX8_fadesAt_97, e2, if_false, jLI_t, jLW_t, jLL_t, jLZ_t, jLA_t, hj4, h0, if_true, nI_add]
        exact ih2
      · have e0 : zP I m k j = (I 18 (4 * m + j)).toInt * zw (k * (j + 1)) := by unfold zP; rw [if_pos ⟨e, h0⟩]
        have r : rg (I 18 (4 * m + j)) (-9) 9 := hI 18 _ (by decide) (by omega)
        have hx : 4 * m + j < 16 := by omega
        have ex : m * 4 + j = 4 * m + j := by omega
        have hkj : k * (j + 1) < 2147483648 := by
          have : k * (j + 1) ≤ 1000 * 4 := Nat.mul_le_mul (by omega) (by omega)
          omega
        have em : (I 18 (4 * m + j) * iZ (zw (k * (j + 1)))).toInt64 = lZ ((I 18 (4 * m + j)).toInt * zw (k * (j + 1))) := by
          have := iZ_m (a := (I 18 (4 * m + j)).toInt) (b := zw (k * (j + 1))) (p := 9) (q := 4) (by have := r.1; have := r.2; omega) (zw_rg _) (by decide)
          rwa [iZ_toInt] at this
        rw [e0] at ih2
        simp only [eX8_fadesAt_50, eX8_fadesAt_56, eX8_fadesAt_69, eX8_fadesAt_97, e2, if_false, jLI_t, jLW_t, jLL_t, jLZ_t, jLA_t, hj4, h0, pk_mul, nI_add, ex, hx, c_wave n I L hI hkj, jB_s, em, lZ_add]
        exact ih2
theorem c_fades (n : Nat) (I : jm_I) (L : jm_L) (hI : Inv I) {m k : Nat} (hm : m < 4) (hk : k < 1000) : jE n rX8_fadesAt 0 [.ref 10, .int (nI m), .int (nI k), .null, .null, .null] [] I L = some (some (.long (lZ (zfade I m k))), jS n I L) := by
  have r3 : rg (I 16 m) 0 99 := hI 16 m (by decide) hm
  have em : (I 16 m * iZ (zw k)).toInt64 = lZ ((I 16 m).toInt * zw k) := by
    have := iZ_m (a := (I 16 m).toInt) (b := zw k) (p := 99) (q := 4) (by have := r3.1; have := r3.2; omega) (zw_rg _) (by decide)
    rwa [iZ_toInt] at this
  have ek : (nI k).toInt64 = lZ (k : Int) := by rw [nI_l (by omega)]; rfl
  simp only [eX8_fadesAt_0, jLI_t, jLW_t, jLL_t, jLZ_t, jLA_t, hm, c_wave n I L hI (show k < 2147483648 by omega), jB_s, em, ek, toL, lZ_mul, lZ_add]
  exact c_fade_loop n I L hI hm hk 4 0 rfl

/-- when its fading is seen -/
def zseen (A : jm_I) (m k : Nat) : Int := zfade A m k + ((A 11 0).toInt * zfar (zY A) (zfade A m k)).tdiv 1000
theorem lt0 {A : jm_I} (h : Inv A) : rg (A 11 0) 0 2000 := (h 11 0 (by decide)).1 rfl
theorem c_seen (n : Nat) (I : jm_I) (L : jm_L) (hI : Inv I) {m k : Nat} (hm : m < 4) (hk : k < 1000) : jE n rX8_seenAt 0 [.ref 10, .int (nI m), .int (nI k), .null, .null] [] I L = some (some (.long (lZ (zseen I m k))), jS n I L) := by
  have hf := zfade_rg hI hm hk
  have h0 := lt0 hI
  have hz := zfar_rg (y := zY I) (t := zfade I m k) (by have := (yr hI).1; unfold zY; omega)
  have hb := mulb (a := (I 11 0).toInt) (b := zfar (zY I) (zfade I m k)) (p := 2000) (q := 2000) (by have := h0.1; have := h0.2; omega) (by omega)
  have hd := tdiv_r (t := (I 11 0).toInt * zfar (zY I) (zfade I m k)) (y := 1000) (by decide)
  have e1 : (I 11 0 * iZ (zfar (zY I) (zfade I m k)) / nI 1000).toInt64 = lZ (((I 11 0).toInt * zfar (zY I) (zfade I m k)).tdiv 1000) := by
    rw [i32 (I 11 0), iZ_mul, show nI 1000 = iZ 1000 from rfl, iZ_toInt, iZ_div ⟨by omega, by omega⟩ ⟨by decide, by decide⟩, iZ_l (by omega) (by omega)]
  simp only [eX8_seenAt_0, c_fades n I L hI hm hk, jB_s, jLI_t, jLW_t, jLL_t, jLZ_t, jLA_t, show (0 : Nat) < 5 from by decide, c_farOf n I L hI (t := zfade I m k) (by omega), nz1000, not_false_eq_true, e1, lZ_add, zseen]
theorem m_fade_loop (n : Nat) (J A : jm_I) (L : jm_L) (hA : Inv A) (hM : Mod J A) {m k : Nat} (hm : m < 4) (hk : k < 1000) (s : Int32) : ∀ (d j : Nat), j + d = 4 → jE n rX10_fadingOf 37 [.ref 111, .int (nI m), .int (nI k), .int s, .long (lZ (zF A m k j)), .null, .int (nI j)] [] J L = jE n rX10_fadingOf 97 [.ref 111, .int (nI m), .int (nI k), .int s, .long (lZ (zfade A m k)), .null, .int (nI 4)] [] J L := by
  intro d
  induction d with
  | zero =>
    intro j hj
    have : j = 4 := by omega
    subst this
    have c : nI 4 ≤ nI 4 := Int32.le_refl _
    simp only [eX10_fadingOf_37, c, if_true, zfade]
  | succ d ih =>
    intro j hj
    have hj4 : j < 4 := by omega
    have c : ¬ nI 4 ≤ nI j := nI_ge hj4 (by decide)
    have hd0 : jE n rX10_fadingOf 37 [.ref 111, .int (nI m), .int (nI k), .int s, .long (lZ (zF A m k j)), .null, .int (nI j)] [] J L = jE n rX10_fadingOf 43 [.ref 111, .int (nI m), .int (nI k), .int s, .long (lZ (zF A m k j)), .null, .int (nI j)] [] J L := by
      simp only [eX10_fadingOf_37, c, if_false]
    rw [hd0]
    have ih2 := ih (j + 1) (by omega)
    have ee : zF A m k (j + 1) = zF A m k j + zP A m k j := rfl
    rw [ee] at ih2
    have l0 : lN 0 = lZ 0 := rfl
    by_cases e : j = m
    · have e0 : zP A m k j = 0 := by unfold zP; rw [if_neg (fun q => q.1 e)]
      rw [e0] at ih2
      subst e
      simp only [eX10_fadingOf_43, eX10_fadingOf_87, eX10_fadingOf_88, if_true, nI_add, l0, lZ_add]
      exact ih2
    · have e2 : ¬ nI j = nI m := fun q => e ((nI_inj (by omega) (by omega)).mp q)
      have et : J 119 j = A 13 j := hM.1 119 j hj4
      by_cases h0 : A 13 j = 0
      · have e0 : zP A m k j = 0 := by unfold zP; rw [if_neg (fun q => q.2 h0)]
        rw [e0] at ih2
        simp only [eX10_fadingOf_43, eX10_fadingOf_51, eX10_fadingOf_87, eX10_fadingOf_88, e2, if_false, jLI_t, jLW_t, jLL_t, jLZ_t, jLA_t, hj4, et, h0, if_true, nI_add, l0, lZ_add]
        exact ih2
      · have e0 : zP A m k j = (A 18 (4 * m + j)).toInt * zw (k * (j + 1)) := by unfold zP; rw [if_pos ⟨e, h0⟩]
        have r : rg (A 18 (4 * m + j)) (-9) 9 := hA 18 _ (by decide) (by omega)
        have hx : 4 * m + j < 16 := by omega
        have ep : J 117 (4 * m + j) = A 18 (4 * m + j) := hM.1 117 _ hx
        have hkj : k * (j + 1) < 2147483648 := by
          have : k * (j + 1) ≤ 1000 * 4 := Nat.mul_le_mul (by omega) (by omega)
          omega
        have em : (A 18 (4 * m + j) * iZ (zw (k * (j + 1)))).toInt64 = lZ ((A 18 (4 * m + j)).toInt * zw (k * (j + 1))) := by
          have := iZ_m (a := (A 18 (4 * m + j)).toInt) (b := zw (k * (j + 1))) (p := 9) (q := 4) (by have := r.1; have := r.2; omega) (zw_rg _) (by decide)
          rwa [iZ_toInt] at this
        rw [e0] at ih2
        simp only [eX10_fadingOf_43, eX10_fadingOf_51, eX10_fadingOf_61, eX10_fadingOf_88, e2, if_false, jLI_t, jLW_t, jLL_t, jLZ_t, jLA_t, hj4, et, h0, pk_mul, nI_add, hx, ep, m_wave n J A L hM hkj, jB_s, em, lZ_add]
        exact ih2
theorem m_fading (n : Nat) (J A : jm_I) (L : jm_L) (hA : Inv A) (hM : Mod J A) {m k : Nat} (hm : m < 4) (hk : k < 1000) (s : Int32) : jE n rX10_fadingOf 0 [.ref 111, .int (nI m), .int (nI k), .int s, .null, .null, .null] [] J L = some (some (.long (if s = 0 then lZ (zfade A m k) else lZ (zseen A m k))), jS n J L) := by
  have r3 : rg (A 16 m) 0 99 := hA 16 m (by decide) hm
  have em : (A 16 m * iZ (zw k)).toInt64 = lZ ((A 16 m).toInt * zw k) := by
    have := iZ_m (a := (A 16 m).toInt) (b := zw k) (p := 99) (q := 4) (by have := r3.1; have := r3.2; omega) (zw_rg _) (by decide)
    rwa [iZ_toInt] at this
  have ek : (nI k).toInt64 = lZ (k : Int) := by rw [nI_l (by omega)]; rfl
  have f1 : J 113 m = A 14 m := hM.1 113 m hm
  have f2 : J 114 m = A 15 m := hM.1 114 m hm
  have f3 : J 115 m = A 16 m := hM.1 115 m hm
  have f4 : J 118 0 = A 11 0 := hM.1 118 0 (by decide)
  have hf := zfade_rg hA hm hk
  have h0 := lt0 hA
  have hz := zfar_rg (y := zY A) (t := zfade A m k) (by have := (yr hA).1; unfold zY; omega)
  have hb := mulb (a := (A 11 0).toInt) (b := zfar (zY A) (zfade A m k)) (p := 2000) (q := 2000) (by have := h0.1; have := h0.2; omega) (by omega)
  have hl := m_fade_loop n J A L hA hM hm hk s 4 0 (Nat.zero_add 4)
  have e0 : jE n rX10_fadingOf 0 [.ref 111, .int (nI m), .int (nI k), .int s, .null, .null, .null] [] J L = jE n rX10_fadingOf 37 [.ref 111, .int (nI m), .int (nI k), .int s, .long (lZ (zF A m k 0)), .null, .int (nI 0)] [] J L := by
    rw [zF_0]
    simp only [eX10_fadingOf_0, jLI_t, jLW_t, jLL_t, jLZ_t, jLA_t, hm, f1, f2, f3, m_wave n J A L hM (show k < 2147483648 by omega), jB_s, em, ek, toL, lZ_mul, lZ_add]
  rw [e0, hl]
  have e1 : lZ ((A 11 0).toInt * zfar (zY A) (zfade A m k)) / lN 1000 = lZ (((A 11 0).toInt * zfar (zY A) (zfade A m k)).tdiv 1000) := by
    rw [show lN 1000 = lZ 1000 from rfl]
    exact lZ_div ⟨by omega, by omega⟩ ⟨by decide, by decide⟩
  have nl : ¬ lN 1000 = 0 := by decide
  by_cases hs : s = 0
  · simp only [eX10_fadingOf_97, eX10_fadingOf_101, eX10_fadingOf_125, eX10_fadingOf_127, hs, if_true]
  · simp only [eX10_fadingOf_97, eX10_fadingOf_101, eX10_fadingOf_125, eX10_fadingOf_127, hs, if_false, jLI_t, jLW_t, jLL_t, jLZ_t, jLA_t, show (0 : Nat) < 5 from by decide, f4, toL, m_farOf n J A L hA hM (t := zfade A m k) (by omega), jB_s, lZ_mul, nl, not_false_eq_true, e1, lZ_add, zseen]
theorem op_fading (n : Nat) (m k s : Int32) : Op n rX9_fading rX10_fading [.ref 9, .int m, .int k, .int s, .null] [.ref 111, .int m, .int k, .int s, .null] := by
  intro I L hI hM
  have e1 : ¬ (-1 : Int32) = 0 := by decide
  have c0 : jE n rX9_fading 0 [.ref 9, .int m, .int k, .int s, .null] [] I L = jE n rX9_fading 18 [.ref 9, .int m, .int k, .int s, .int (thn (nmo I 13 m) (zout k (nI 0) (nI 999)))] [] I L := by
    simp only [eX9_fading_0, h_noMoon, jB_s, h_outside, h_thn]
  by_cases hm : mo I 13 m
  · by_cases hz : zout k (nI 0) (nI 999) = 0
    · obtain ⟨a, ha, ea, -⟩ := mo_ix hm
      obtain ⟨b, hb, eb⟩ := rg_nI (k := 999) (by decide) (rg_out (by decide) (by decide) hz)
      subst ea; subst eb
      refine ⟨.long (if s = 0 then lZ (zfade I a b) else lZ (zseen I a b)), I, L, I, L, ?_, ?_, hI, hM⟩
      · rw [c0, nmo_t hm, thn_0, hz]
        by_cases hs : s = 0
        · simp only [eX9_fading_0, eX9_fading_23, eX9_fading_30, eX9_fading_34, eX9_fading_46, eX9_fading_55, hs, if_true, c_fades n I L hI ha (show b < 1000 by omega), jB_s]
        · simp only [eX9_fading_0, eX9_fading_23, eX9_fading_30, eX9_fading_34, eX9_fading_46, eX9_fading_55, hs, if_true, if_false, c_seen n I L hI ha (show b < 1000 by omega), jB_s]
      · simp [eX10_fading_0, eX10_fading_8, eX10_fading_14, eX10_fading_30, eX10_fading_39, eX10_fading_46, m_isMoon, bmo_t ((Mod_mo hM _).mpr hm), jB_s, n10, m_out, hz, m_fading n I I L hI hM ha (show b < 1000 by omega)]
    · have hr := isR_of (isZ_out k (nI 0) (nI 999)) hz
      refine Op_ref hI hM (.long (lr (zout k (nI 0) (nI 999)))) (zout k (nI 0) (nI 999)) ?_ ?_
      · rw [c0, nmo_t hm, thn_0]
        simp [eX9_fading_0, eX9_fading_23, hz, h_refuseLong n I L _ hr, jB_s]
      · have hJ : Mod (rf I (rz (zout k (nI 0) (nI 999)))) I := Mod_congr (I := I) (A := I) (fun a ha => by unfold rf; rw [jm_u_ne _ _ _ (by omega)]) (Cls_rf I) hM
        simp [eX10_fading_0, eX10_fading_8, eX10_fading_14, eX10_fading_30, eX10_fading_39, eX10_fading_46, m_isMoon, bmo_t ((Mod_mo hJ _).mpr hm), jB_s, n10, m_out, hz, m_noLong n _ L _ hr]
  · refine Op_ref hI hM (.long (lr (-1))) (-1) ?_ ?_
    · rw [c0, nmo_f hm, thn_n e1]
      simp [eX9_fading_0, eX9_fading_23, h_refuseLong n I L (-1) (Or.inl rfl), jB_s]
    · have hJ : Mod (rf I (rz (-1))) I := Mod_congr (I := I) (A := I) (fun a ha => by unfold rf; rw [jm_u_ne _ _ _ (by omega)]) (Cls_rf I) hM
      simp [eX10_fading_0, eX10_fading_8, eX10_fading_14, eX10_fading_30, eX10_fading_39, eX10_fading_46, m_isMoon, bmo_f (fun q => hm ((Mod_mo hJ _).mp q)), jB_s, n00, m_noLong n _ L (-1) (Or.inl rfl)]
