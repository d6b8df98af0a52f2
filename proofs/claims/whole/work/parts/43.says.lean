/-! what a table says -/
def zg (A : jm_I) (m k : Nat) : Int := (A 19 m).toInt + k * (A 20 m).toInt
theorem zg_rg {A : jm_I} (h : Inv A) {m k : Nat} (hm : m < 4) (hk : k < 1000) : 0 ≤ zg A m k ∧ zg A m k < 1001000000 := by
  have r1 : rg (A 19 m) 0 999999 := h 19 m (by decide) hm
  have r2 : rg (A 20 m) 1000 999999 := h 20 m (by decide) hm
  have m1 := mulb (a := (k : Int)) (b := (A 20 m).toInt) (p := 999) (q := 999999) (by omega) (by have := r2.1; have := r2.2; omega)
  have m2 : 0 ≤ (k : Int) * (A 20 m).toInt := Int.mul_nonneg (by omega) (by have := r2.1; omega)
  have := r1.1; have := r1.2
  unfold zg
  omega
def zfr (A : jm_I) (m k : Nat) : Int := zfar (zY A) (zg A m k)
theorem zfr_rg {A : jm_I} (h : Inv A) (m k : Nat) : (zfr A m k).natAbs ≤ 2000 := by
  have := zfar_rg (y := zY A) (t := zg A m k) (by have := (yr h).1; unfold zY; omega)
  unfold zfr
  omega
def zst (A : jm_I) (d : Nat) : Int := ((d : Int) - 3) * (A 11 2).toInt
theorem stp {A : jm_I} (h : Inv A) : rg (A 11 2) 1 60 := (h 11 2 (by decide)).2.2.1 rfl
theorem zst_rg {A : jm_I} (h : Inv A) {d : Nat} (hd : d < 7) : (zst A d).natAbs ≤ 180 := by
  have r := stp h
  exact mulb (p := 3) (q := 60) (by omega) (by have := r.1; have := r.2; omega)
def zsh (A : jm_I) (τ d m k : Nat) : Int := if τ = 0 then zst A d else if τ = 1 then zst A d * zw k else if τ = 2 then (zst A d * zfr A m k).tdiv 100 else if τ - 3 = m then 0 else zst A d * zw (k * (τ - 2))
theorem zsh_rg {A : jm_I} (h : Inv A) {τ d m k : Nat} (hd : d < 7) : (zsh A τ d m k).natAbs ≤ 360000 := by
  have s := zst_rg h hd
  have f := zfr_rg h m k
  have m1 := mulb s (zw_rg k)
  have m2 := mulb s (zw_rg (k * (τ - 2)))
  have m3 := mulb s f
  have m4 := (tdiv_r (t := zst A d * zfr A m k) (y := 100) (by decide)).2
  unfold zsh
  repeat' split
  all_goals omega
section H
variable (n : Nat) (I : jm_I) (L : jm_L)
theorem c_guessedAt {m k : Nat} (hm : m < 4) (hk : k < 1000) : jE n rX8_guessedAt 0 [.ref 10, .int (nI m), .int (nI k)] [] I L = some (some (.long (lZ (zg I m k))), jS n I L) := by
  have ek : (nI k).toInt64 = lZ (k : Int) := by rw [nI_l (by omega)]; rfl
  simp only [eX8_guessedAt_0, jLI_t, jLW_t, jLL_t, jLZ_t, jLA_t, hm, ek, toL, lZ_mul, lZ_add, zg]
theorem c_share (hI : Inv I) {τ d m k : Nat} (hτ : τ ≤ 6) (hd : d < 7) (hm : m < 4) (hk : k < 1000) : jE n rX8_share 0 [.ref 10, .int (nI τ), .int (iZ ((d : Int) - 3)), .int (nI m), .int (nI k), .int (iZ (zfr I m k)), .null, .null] [] I L = some (some (.int (iZ (zsh I τ d m k))), jS n I L) := by
  have s := zst_rg hI hd
  have f := zfr_rg hI m k
  have es : iZ ((d : Int) - 3) * I 11 2 = iZ (zst I d) := by rw [i32 (I 11 2), iZ_mul]; rfl
  have m3 := mulb s f
  have ed : iZ (zst I d * zfr I m k) / nI 100 = iZ ((zst I d * zfr I m k).tdiv 100) := by
    rw [show nI 100 = iZ 100 from rfl]
    exact iZ_div ⟨by omega, by omega⟩ ⟨by decide, by decide⟩
  have nz : ¬ nI 100 = 0 := by decide
  unfold zsh
  rcases (show τ = 0 ∨ τ = 1 ∨ τ = 2 ∨ 3 ≤ τ by omega) with rfl | rfl | rfl | h3
  · simp (decide := true) [eX8_share_0, eX8_share_36, eX8_share_39, eX8_share_48, eX8_share_57, eX8_share_68, eX8_share_72, eX8_share_85, jLI_t, jLW_t, jLL_t, jLZ_t, jLA_t, es]
  · simp (decide := true) [eX8_share_0, eX8_share_36, eX8_share_39, eX8_share_48, eX8_share_57, eX8_share_68, eX8_share_72, eX8_share_85, jLI_t, jLW_t, jLL_t, jLZ_t, jLA_t, es, c_wave n I L hI (show k < 2147483648 by omega), jB_s, iZ_mul]
  · simp (decide := true) [eX8_share_0, eX8_share_36, eX8_share_39, eX8_share_48, eX8_share_57, eX8_share_68, eX8_share_72, eX8_share_85, jLI_t, jLW_t, jLL_t, jLZ_t, jLA_t, es, iZ_mul, nz, ed]
  · have n0 : ¬ nI τ = nI 0 := fun q => by have := (nI_inj (by omega) (by decide)).mp q; omega
    have n1 : ¬ nI τ = nI 1 := fun q => by have := (nI_inj (by omega) (by decide)).mp q; omega
    have n2 : ¬ nI τ = nI 2 := fun q => by have := (nI_inj (by omega) (by decide)).mp q; omega
    have t0 : ¬ τ = 0 := by omega
    have t1 : ¬ τ = 1 := by omega
    have t2 : ¬ τ = 2 := by omega
    have e3 : nI τ - nI 3 = nI (τ - 3) := nI_sb h3
    have ej : τ - 3 + 1 = τ - 2 := by omega
    have hx : k * (τ - 2) < 2147483648 := by
      have : k * (τ - 2) ≤ 1000 * 4 := Nat.mul_le_mul (by omega) (by omega)
      omega
    by_cases hj : τ - 3 = m
    · simp only [eX8_share_0, eX8_share_36, eX8_share_39, eX8_share_48, eX8_share_57, eX8_share_68, eX8_share_72, eX8_share_85, jLI_t, jLW_t, jLL_t, jLZ_t, jLA_t, show (2 : Nat) < 5 from by decide, es, n0, n1, n2, if_false, e3, hj, not_true, t0, t1, t2, if_true]
      rfl
    · have hj2 : ¬ nI (τ - 3) = nI m := fun q => hj ((nI_inj (by omega) (by omega)).mp q)
      simp only [eX8_share_0, eX8_share_36, eX8_share_39, eX8_share_48, eX8_share_57, eX8_share_68, eX8_share_72, eX8_share_85, jLI_t, jLW_t, jLL_t, jLZ_t, jLA_t, show (2 : Nat) < 5 from by decide, es, n0, n1, n2, if_false, e3, hj, hj2, not_false_eq_true, if_true, t0, t1, t2, nI_add, ej, pk_mul, c_wave n I L hI hx, jB_s, iZ_mul]
end H
theorem m_guessed (n : Nat) (J A : jm_I) (L : jm_L) (hM : Mod J A) {m k : Nat} (hm : m < 4) (hk : k < 1000) : jE n rX10_guessed 0 [.ref 111, .int (nI m), .int (nI k)] [] J L = some (some (.long (lZ (zg A m k))), jS n J L) := by
  have ek : (nI k).toInt64 = lZ (k : Int) := by rw [nI_l (by omega)]; rfl
  have f1 : J 136 m = A 19 m := hM.1 136 m hm
  have f2 : J 137 m = A 20 m := hM.1 137 m hm
  simp only [eX10_guessed_0, jLI_t, jLW_t, jLL_t, jLZ_t, jLA_t, hm, f1, f2, ek, toL, lZ_mul, lZ_add, zg]
theorem m_adds (n : Nat) (J A : jm_I) (L : jm_L) (hA : Inv A) (hM : Mod J A) {τ d m k : Nat} (hτ : τ ≤ 6) (hd : d < 7) (hm : m < 4) (hk : k < 1000) : jE n rX10_adds 0 [.ref 111, .int (nI τ), .int (iZ ((d : Int) - 3)), .int (nI m), .int (nI k), .null, .null] [] J L = some (some (.long (lZ (zsh A τ d m k))), jS n J L) := by
  have s := zst_rg hA hd
  have f := zfr_rg hA m k
  have f2 : J 118 2 = A 11 2 := hM.1 118 2 (by decide)
  have es : (iZ ((d : Int) - 3) * A 11 2).toInt64 = lZ (zst A d) := by
    rw [i32 (A 11 2), iZ_mul]
    have : ((d : Int) - 3) * (A 11 2).toInt = zst A d := rfl
    rw [this, iZ_l (by omega) (by omega)]
  have m3 := mulb s f
  have ed : lZ (zst A d * zfr A m k) / lN 100 = lZ ((zst A d * zfr A m k).tdiv 100) := by
    rw [show lN 100 = lZ 100 from rfl]
    exact lZ_div ⟨by omega, by omega⟩ ⟨by decide, by decide⟩
  have nz : ¬ lN 100 = 0 := by decide
  have wl : ∀ k, (iZ (zw k)).toInt64 = lZ (zw k) := fun k => iZ_l (by have := zw_rg k; omega) (by have := zw_rg k; omega)
  have hg := zg_rg hA hm hk
  have hf : jE n rX10_farOf 0 [.ref 111, .long (lZ (zg A m k)), .null, .null, .null] [] J L = some (some (.long (lZ (zfr A m k))), jS n J L) := m_farOf n J A L hA hM (by omega)
  unfold zsh
  rcases (show τ = 0 ∨ τ = 1 ∨ τ = 2 ∨ 3 ≤ τ by omega) with rfl | rfl | rfl | h3
  · simp (decide := true) [eX10_adds_0, eX10_adds_40, eX10_adds_43, eX10_adds_54, eX10_adds_73, eX10_adds_80, eX10_adds_84, eX10_adds_98, jLI_t, jLW_t, jLL_t, jLZ_t, jLA_t, f2, es]
  · simp (decide := true) [eX10_adds_0, eX10_adds_40, eX10_adds_43, eX10_adds_54, eX10_adds_73, eX10_adds_80, eX10_adds_84, eX10_adds_98, jLI_t, jLW_t, jLL_t, jLZ_t, jLA_t, f2, es, m_wave n J A L hM (show k < 2147483648 by omega), jB_s, wl, lZ_mul]
  · simp (decide := true) [eX10_adds_0, eX10_adds_40, eX10_adds_43, eX10_adds_54, eX10_adds_73, eX10_adds_80, eX10_adds_84, eX10_adds_98, jLI_t, jLW_t, jLL_t, jLZ_t, jLA_t, f2, es, m_guessed n J A L hM hm hk, jB_s, hf, lZ_mul, nz, ed]
  · have n0 : ¬ nI τ = nI 0 := fun q => by have := (nI_inj (by omega) (by decide)).mp q; omega
    have n1 : ¬ nI τ = nI 1 := fun q => by have := (nI_inj (by omega) (by decide)).mp q; omega
    have n2 : ¬ nI τ = nI 2 := fun q => by have := (nI_inj (by omega) (by decide)).mp q; omega
    have t0 : ¬ τ = 0 := by omega
    have t1 : ¬ τ = 1 := by omega
    have t2 : ¬ τ = 2 := by omega
    have e3 : nI τ - nI 3 = nI (τ - 3) := nI_sb h3
    have e4 : nI τ - nI 2 = nI (τ - 2) := nI_sb (by omega)
    have hx : k * (τ - 2) < 2147483648 := by
      have : k * (τ - 2) ≤ 1000 * 4 := Nat.mul_le_mul (by omega) (by omega)
      omega
    by_cases hj : τ - 3 = m
    · simp only [eX10_adds_0, eX10_adds_40, eX10_adds_43, eX10_adds_54, eX10_adds_73, eX10_adds_80, eX10_adds_84, eX10_adds_98, jLI_t, jLW_t, jLL_t, jLZ_t, jLA_t, show (2 : Nat) < 5 from by decide, f2, es, n0, n1, n2, if_false, e3, hj, not_true, t0, t1, t2, if_true]
      rfl
    · have hj2 : ¬ nI (τ - 3) = nI m := fun q => hj ((nI_inj (by omega) (by omega)).mp q)
      simp only [eX10_adds_0, eX10_adds_40, eX10_adds_43, eX10_adds_54, eX10_adds_73, eX10_adds_80, eX10_adds_84, eX10_adds_98, jLI_t, jLW_t, jLL_t, jLZ_t, jLA_t, show (2 : Nat) < 5 from by decide, f2, es, n0, n1, n2, if_false, e3, e4, hj, hj2, not_false_eq_true, if_true, t0, t1, t2, pk_mul, m_wave n J A L hM hx, jB_s, wl, lZ_mul]
/-- the table's terms -/
def tl (A : jm_I) (t : Nat) : Nat := (A 37 t).toInt.toNat
def tt (A : jm_I) (t i : Nat) : Nat := (A 36 (3 * t + i)).toInt.toNat
theorem Inv_tl {A : jm_I} (h : Inv A) {t : Nat} (ht : t < 8) : A 37 t = nI (tl A t) ∧ tl A t ≤ 3 := by
  have r : rg (A 37 t) 0 3 := h 37 t (by decide) ht
  exact ⟨nI_of_rg r, by unfold tl; have := r.1; have := r.2; omega⟩
theorem Inv_tt {A : jm_I} (h : Inv A) {t i : Nat} (ht : t < 8) (hi : i < 3) : A 36 (3 * t + i) = nI (tt A t i) ∧ tt A t i ≤ 6 := by
  have r : rg (A 36 (3 * t + i)) 0 6 := h 36 (3 * t + i) (by decide) (show 3 * t + i < 24 by omega)
  exact ⟨nI_of_rg r, by unfold tt; have := r.1; have := r.2; omega⟩
theorem Mod_tl {J A : jm_I} (hA : Inv A) (hM : Mod J A) {t : Nat} (ht : t < zT A) : J 135 t = nI (tl A t) := by
  have h8 := (Inv_T hA).2
  rw [← (Inv_tl hA (show t < 8 by omega)).1]
  exact hM.1 135 t ht
theorem Mod_tt {J A : jm_I} (hA : Inv A) (hM : Mod J A) {t i : Nat} (ht : t < zT A) (hi : i < tl A t) : J 134 (8 * t + i) = nI (tt A t i) := by
  have h8 := (Inv_T hA).2
  have h3 := (Inv_tl hA (show t < 8 by omega)).2
  rw [← (Inv_tt hA (show t < 8 by omega) (show i < 3 by omega)).1]
  exact hM.1 134 (8 * t + i) t i rfl ht hi
theorem c_termOf (n : Nat) (I : jm_I) (L : jm_L) (hI : Inv I) {t i : Nat} (ht : t < 8) (hi : i < 3) : jE n rX4_termOf 0 [.ref 35, .int (nI t), .int (nI i)] [] I L = some (some (.int (nI (tt I t i))), jS n I L) := by
  have hx : 3 * t + i < 24 := by omega
  have ex : t * 3 + i = 3 * t + i := by omega
  simp only [eX4_termOf_0, pk_mul, nI_add, ex, jLI_t, jLW_t, jLL_t, jLZ_t, jLA_t, hx, (Inv_tt hI ht hi).1]
def zsd (A : jm_I) (t m k ν : Nat) : Nat → Int
  | 0 => zg A m k
  | i + 1 => zsd A t m k ν i + zsh A (tt A t i) (ν / 7 ^ i % 7) m k
def zsaid (A : jm_I) (t m k ν : Nat) : Int := zsd A t m k ν (tl A t)
theorem c_said_loop (n : Nat) (I : jm_I) (L : jm_L) (hI : Inv I) {t m k ν : Nat} (ht : t < 8) (hm : m < 4) (hk : k < 1000) (hν : ν < 2147483648) (x4 : Int32) (x5 : Int64) : ∀ (d i : Nat), i + d = tl I t → jE n rX8_said 27 [.ref 10, .int (nI t), .int (nI m), .int (nI k), .int x4, .long x5, .null, .int (iZ (zfr I m k)), .long (lZ (zsd I t m k ν i)), .null, .int (nI (ν / 7 ^ i)), .int (nI i)] [] I L = some (some (.long (lZ (zsaid I t m k ν))), jS n I L) := by
  obtain ⟨e37, h3⟩ := Inv_tl hI ht
  intro d
  induction d with
  | zero =>
    intro i hi
    have : i = tl I t := by omega
    subst this
    have c : nI (tl I t) ≤ nI (tl I t) := Int32.le_refl _
    simp only [eX8_said_27, eX8_said_85, jLI_t, jLW_t, jLL_t, jLZ_t, jLA_t, ht, e37, c, if_true, zsaid]
  | succ d ih =>
    intro i hi
    have c : ¬ nI (tl I t) ≤ nI i := nI_ge (by omega) (by omega)
    have hd0 : ∀ x8 x10, jE n rX8_said 27 [.ref 10, .int (nI t), .int (nI m), .int (nI k), .int x4, .long x5, .null, .int (iZ (zfr I m k)), .long x8, .null, .int x10, .int (nI i)] [] I L = jE n rX8_said 41 [.ref 10, .int (nI t), .int (nI m), .int (nI k), .int x4, .long x5, .null, .int (iZ (zfr I m k)), .long x8, .null, .int x10, .int (nI i)] [] I L := by
      intro x8 x10
      simp only [eX8_said_27, jLI_t, jLW_t, jLL_t, jLZ_t, jLA_t, ht, e37, c, if_false]
    rw [hd0]
    have hle : ν / 7 ^ i ≤ ν := Nat.div_le_self _ _
    have q7 : ν / 7 ^ i % 7 < 7 := Nat.mod_lt _ (by decide)
    have e1 : nI (ν / 7 ^ i) - nI (ν / 7 ^ i) / nI 7 * nI 7 = nI (ν / 7 ^ i % 7) := pk_rem (by omega) (by decide) (by decide)
    have e2 : nI (ν / 7 ^ i) / nI 7 = nI (ν / 7 ^ (i + 1)) := by
      rw [pk_div (by omega) (by decide) (by decide), Nat.div_div_eq_div_mul]
      rfl
    have e3 : nI (ν / 7 ^ i % 7) - nI 3 = iZ (((ν / 7 ^ i % 7 : Nat) : Int) - 3) := nI_3 _
    have hs := zsh_rg hI (τ := tt I t i) (m := m) (k := k) q7
    have el : (iZ (zsh I (tt I t i) (ν / 7 ^ i % 7) m k)).toInt64 = lZ (zsh I (tt I t i) (ν / 7 ^ i % 7) m k) := iZ_l (by omega) (by omega)
    have ih2 := ih (i + 1) (by omega)
    rw [show zsd I t m k ν (i + 1) = zsd I t m k ν i + zsh I (tt I t i) (ν / 7 ^ i % 7) m k from rfl] at ih2
    have e1' : nI (ν / 7 ^ i) - nI (ν / 7 ^ (i + 1)) * nI 7 = nI (ν / 7 ^ i % 7) := by rw [← e2]; exact e1
    simp only [eX8_said_41, c_termOf n I L hI ht (show i < 3 by omega), jB_s, nz7, not_false_eq_true, e2, e1', e3, c_share n I L hI (Inv_tt hI ht (show i < 3 by omega)).2 q7 hm hk, el, lZ_add, nI_add]
    exact ih2
theorem c_said (n : Nat) (I : jm_I) (L : jm_L) (hI : Inv I) {t m k ν : Nat} (ht : t < 8) (hm : m < 4) (hk : k < 1000) (hν : ν < 2147483648) : jE n rX8_said 0 [.ref 10, .int (nI t), .int (nI m), .int (nI k), .int (nI ν), .null, .null, .null, .null, .null, .null, .null] [] I L = some (some (.long (lZ (zsaid I t m k ν))), jS n I L) := by
  have hg := zg_rg hI hm hk
  have hf : jE n rX8_farOf 0 [.ref 10, .long (lZ (zg I m k)), .null, .null, .null, .null] [] I L = some (some (.int (iZ (zfr I m k))), jS n I L) := c_farOf n I L hI (by omega)
  simp only [eX8_said_0, c_guessedAt n I L hm hk, jB_s, hf]
  have := c_said_loop n I L hI ht hm hk hν (nI ν) (lZ (zg I m k)) (tl I t) 0 (Nat.zero_add _)
  rw [Nat.pow_zero, Nat.div_one] at this
  exact this
theorem m_digit (n : Nat) (J : jm_I) (L : jm_L) {ν i : Nat} (hν : ν < 2147483648) (hi : i < 1000) : jE n rX10_digit 0 [.int (nI ν), .int (nI i), .null, .null] [] J L = some (some (.int (iZ (((ν / 7 ^ i % 7 : Nat) : Int) - 3))), jS n J L) := by
  have key : ∀ (d j : Nat), j + d = i → jE n rX10_digit 4 [.int (nI ν), .int (nI i), .int (nI (ν / 7 ^ j)), .int (nI j)] [] J L = some (some (.int (iZ (((ν / 7 ^ i % 7 : Nat) : Int) - 3))), jS n J L) := by
    intro d
    induction d with
    | zero =>
      intro j hj
      have : j = i := by omega
      subst this
      have c : nI j ≤ nI j := Int32.le_refl _
      have hle : ν / 7 ^ j ≤ ν := Nat.div_le_self _ _
      have e1 : nI (ν / 7 ^ j) - nI (ν / 7 ^ j) / nI 7 * nI 7 = nI (ν / 7 ^ j % 7) := pk_rem (by omega) (by decide) (by decide)
      simp only [eX10_digit_4, eX10_digit_20, c, if_true, nz7, not_false_eq_true, e1, nI_3]
    | succ d ih =>
      intro j hj
      have c : ¬ nI i ≤ nI j := nI_ge (by omega) (by omega)
      have hle : ν / 7 ^ j ≤ ν := Nat.div_le_self _ _
      have e2 : nI (ν / 7 ^ j) / nI 7 = nI (ν / 7 ^ (j + 1)) := by
        rw [pk_div (by omega) (by decide) (by decide), Nat.div_div_eq_div_mul]
        rfl
      have hd0 : jE n rX10_digit 4 [.int (nI ν), .int (nI i), .int (nI (ν / 7 ^ j)), .int (nI j)] [] J L = jE n rX10_digit 9 [.int (nI ν), .int (nI i), .int (nI (ν / 7 ^ j)), .int (nI j)] [] J L := by
        simp only [eX10_digit_4, c, if_false]
      rw [hd0]
      simp only [eX10_digit_9, nz7, not_false_eq_true, e2, nI_add]
      exact ih (j + 1) (by omega)
  have := key i 0 (Nat.zero_add _)
  rw [Nat.pow_zero, Nat.div_one] at this
  simp only [eX10_digit_0]
  exact this
theorem m_power (n : Nat) (J : jm_I) (L : jm_L) {c : Nat} (hc : c ≤ 3) : jE n rX10_power 0 [.int (nI c), .null, .null] [] J L = some (some (.int (nI (7 ^ c))), jS n J L) := by
  rcases (show c = 0 ∨ c = 1 ∨ c = 2 ∨ c = 3 by omega) with rfl | rfl | rfl | rfl <;> simp (decide := true) [eX10_power_0, eX10_power_4, eX10_power_9, eX10_power_20, pk_mul, nI_add]
theorem m_says_loop (n : Nat) (J A : jm_I) (L : jm_L) (hA : Inv A) (hM : Mod J A) {t m k ν : Nat} (ht : t < zT A) (hm : m < 4) (hk : k < 1000) (hν : ν < 2147483648) : ∀ (d i : Nat), i + d = tl A t → jE n rX10_saysOf 11 [.ref 111, .int (nI t), .int (nI m), .int (nI k), .int (nI ν), .long (lZ (zsd A t m k ν i)), .null, .int (nI i)] [] J L = some (some (.long (lZ (zsaid A t m k ν))), jS n J L) := by
  have h8 := (Inv_T hA).2
  obtain ⟨e37, h3⟩ := Inv_tl hA (show t < 8 by omega)
  have e135 := Mod_tl hA hM ht
  have ht9 : t < 9 := by omega
  intro d
  induction d with
  | zero =>
    intro i hi
    have : i = tl A t := by omega
    subst this
    have c : nI (tl A t) ≤ nI (tl A t) := Int32.le_refl _
    simp only [eX10_saysOf_11, eX10_saysOf_58, jLI_t, jLW_t, jLL_t, jLZ_t, jLA_t, ht9, e135, c, if_true, zsaid]
  | succ d ih =>
    intro i hi
    have c : ¬ nI (tl A t) ≤ nI i := nI_ge (by omega) (by omega)
    have hd0 : ∀ x5, jE n rX10_saysOf 11 [.ref 111, .int (nI t), .int (nI m), .int (nI k), .int (nI ν), .long x5, .null, .int (nI i)] [] J L = jE n rX10_saysOf 22 [.ref 111, .int (nI t), .int (nI m), .int (nI k), .int (nI ν), .long x5, .null, .int (nI i)] [] J L := by
      intro x5
      simp only [eX10_saysOf_11, jLI_t, jLW_t, jLL_t, jLZ_t, jLA_t, ht9, e135, c, if_false]
    rw [hd0]
    have q7 : ν / 7 ^ i % 7 < 7 := Nat.mod_lt _ (by decide)
    have hx : 8 * t + i < 72 := by omega
    have et := Mod_tt hA hM ht (show i < tl A t by omega)
    have ih2 := ih (i + 1) (by omega)
    rw [show zsd A t m k ν (i + 1) = zsd A t m k ν i + zsh A (tt A t i) (ν / 7 ^ i % 7) m k from rfl] at ih2
    simp only [eX10_saysOf_22, pk_mul, nI_add, jLI_t, jLW_t, jLL_t, jLZ_t, jLA_t, hx, et, m_digit n J L hν (show i < 1000 by omega), jB_s, m_adds n J A L hA hM (Inv_tt hA (show t < 8 by omega) (show i < 3 by omega)).2 q7 hm hk, lZ_add]
    exact ih2
theorem m_saysOf (n : Nat) (J A : jm_I) (L : jm_L) (hA : Inv A) (hM : Mod J A) {t m k ν : Nat} (ht : t < zT A) (hm : m < 4) (hk : k < 1000) (hν : ν < 2147483648) : jE n rX10_saysOf 0 [.ref 111, .int (nI t), .int (nI m), .int (nI k), .int (nI ν), .null, .null, .null] [] J L = some (some (.long (lZ (zsaid A t m k ν))), jS n J L) := by
  simp only [eX10_saysOf_0, m_guessed n J A L hM hm hk, jB_s]
  exact m_says_loop n J A L hA hM ht hm hk hν (tl A t) 0 (Nat.zero_add _)
theorem st_7 {I : jm_I} (h : Inv I) {i : Nat} (hi : i ≤ 3) : I 7 i = nI (7 ^ i) := by
  rcases (show i = 0 ∨ i = 1 ∨ i = 2 ∨ i = 3 by omega) with rfl | rfl | rfl | rfl
  · exact (st_at h 7 0 (by decide)).trans (by decide)
  · exact (st_at h 7 1 (by decide)).trans (by decide)
  · exact (st_at h 7 2 (by decide)).trans (by decide)
  · exact (st_at h 7 3 (by decide)).trans (by decide)
theorem p7 {c : Nat} (h : c ≤ 3) : 1 ≤ 7 ^ c ∧ 7 ^ c ≤ 343 := by
  rcases (show c = 0 ∨ c = 1 ∨ c = 2 ∨ c = 3 by omega) with rfl | rfl | rfl | rfl <;> decide
theorem op_says (n : Nat) (tb1 m k w : Int32) : Op n rX9_says rX10_says [.ref 9, .int tb1, .int m, .int k, .int w, .null] [.ref 111, .int tb1, .int m, .int k, .int w, .null] := by
  intro I L hI hM
  obtain ⟨eT, hT⟩ := Inv_T hI
  have e1 : ¬ (-1 : Int32) = 0 := by decide
  have hJ : ∀ z : Int32, Mod (rf I (rz z)) I := fun z => Mod_congr (I := I) (A := I) (fun a ha => by unfold rf; rw [jm_u_ne _ _ _ (by omega)]) (Cls_rf I) hM
  have e29 : ∀ J, Mod J I → J 111 29 = nI (zT I) := fun J h => by rw [← eT]; exact (h.1 111 29).2 rfl
  have c0 : jE n rX9_says 0 [.ref 9, .int tb1, .int m, .int k, .int w, .null] [] I L = jE n rX9_says 30 [.ref 9, .int tb1, .int m, .int k, .int w, .int (thn (inr tb1 (nI (zT I))) (thn (nmo I 13 m) (zout k (nI 0) (nI 999))))] [] I L := by
    simp only [eX9_says_0, h_noTable, h_noMoon, jB_s, h_thn, h_outside, thn_as, eT]
  by_cases ht : 0 ≤ tb1 ∧ tb1 < nI (zT I)
  · by_cases hm : mo I 13 m
    · by_cases hz : zout k (nI 0) (nI 999) = 0
      · obtain ⟨t, ht2, et⟩ := ix (by omega) ht
        obtain ⟨a, ha, ea, -⟩ := mo_ix hm
        obtain ⟨b, hb, eb⟩ := rg_nI (k := 999) (by decide) (rg_out (by decide) (by decide) hz)
        subst et; subst ea; subst eb
        have ht8 : t < 8 := by omega
        have ht9 : t < 9 := by omega
        obtain ⟨e37, h3⟩ := Inv_tl hI ht8
        obtain ⟨p1, p2⟩ := p7 h3
        have hc : tl I t < 4 := by omega
        have es : nI (7 ^ tl I t) - nI 1 = nI (7 ^ tl I t - 1) := nI_sb p1
        have hsl : ∀ J, (J : jm_I) = J := fun _ => rfl
        have el : (nI (7 ^ tl I t - 1)).toInt64 = lN (7 ^ tl I t - 1) := nI_l (by omega)
        by_cases hw : zout w (nI 0) (nI (7 ^ tl I t - 1)) = 0
        · obtain ⟨ν, hν, eν⟩ := rg_nI (k := 7 ^ tl I t - 1) (by omega) (rg_out (by decide) (by omega) hw)
          subst eν
          refine ⟨.long (lZ (zsaid I t a b ν)), I, L, I, L, ?_, ?_, hI, hM⟩
          · rw [c0, inr_t ht, nmo_t hm, thn_0, thn_0, hz]
            simp [eX9_says_35, eX9_says_42, eX9_says_73, eX9_says_82, eX9_says_94, eX9_says_0, jLI_t, jLW_t, jLL_t, jLZ_t, jLA_t, ht8, hc, e37, st_7 hI h3, es, h_outside, hw, jB_s, c_said n I L hI ht8 ha (show b < 1000 by omega) (show ν < 2147483648 by omega)]
          · have e135 := Mod_tl hI hM (show t < zT I by omega)
            simp [eX10_says_0, eX10_says_8, eX10_says_16, eX10_says_22, eX10_says_38, eX10_says_59, eX10_says_64, eX10_says_73, eX10_says_82, m_isTable, e29 _ hM, inb_t ht, jB_s, n10, m_isMoon, bmo_t ((Mod_mo hM _).mpr hm), m_out, hz, jLI_t, jLW_t, jLL_t, jLZ_t, jLA_t, ht9, e135, m_power n I L h3, es, el, hw, m_saysOf n I I L hI hM ht2 ha (show b < 1000 by omega) (show ν < 2147483648 by omega), m_out n I L _ 0 (7 ^ tl I t - 1) (by decide) (by omega)]
        · have hr := isR_of (isZ_out w (nI 0) (nI (7 ^ tl I t - 1))) hw
          refine Op_ref hI hM (.long (lr (zout w (nI 0) (nI (7 ^ tl I t - 1))))) (zout w (nI 0) (nI (7 ^ tl I t - 1))) ?_ ?_
          · rw [c0, inr_t ht, nmo_t hm, thn_0, thn_0, hz]
            simp [eX9_says_35, eX9_says_42, eX9_says_73, eX9_says_82, eX9_says_94, eX9_says_0, jLI_t, jLW_t, jLL_t, jLZ_t, jLA_t, ht8, hc, e37, st_7 hI h3, es, h_outside, hw, jB_s, h_refuseLong n I L _ hr]
          · have hJ2 := hJ (zout w (nI 0) (nI (7 ^ tl I t - 1)))
            have e135 := Mod_tl hI hJ2 (show t < zT I by omega)
            generalize rf I (rz (zout w (nI 0) (nI (7 ^ tl I t - 1)))) = J at *
            simp [eX10_says_0, eX10_says_8, eX10_says_16, eX10_says_22, eX10_says_38, eX10_says_59, eX10_says_64, eX10_says_73, eX10_says_82, m_isTable, e29 _ hJ2, inb_t ht, jB_s, n10, m_isMoon, bmo_t ((Mod_mo hJ2 _).mpr hm), m_out, hz, jLI_t, jLW_t, jLL_t, jLZ_t, jLA_t, ht9, e135, m_power n J L h3, es, el, hw, m_out n J L _ 0 (7 ^ tl I t - 1) (by decide) (by omega), m_noLong n _ L _ hr]
      · have hr := isR_of (isZ_out k (nI 0) (nI 999)) hz
        refine Op_ref hI hM (.long (lr (zout k (nI 0) (nI 999)))) (zout k (nI 0) (nI 999)) ?_ ?_
        · rw [c0, inr_t ht, nmo_t hm, thn_0, thn_0]
          simp [eX9_says_0, eX9_says_35, hz, h_refuseLong n I L _ hr, jB_s]
        · simp [eX10_says_0, eX10_says_8, eX10_says_16, eX10_says_22, eX10_says_38, eX10_says_59, eX10_says_64, eX10_says_73, eX10_says_82, m_isTable, e29 _ (hJ _), inb_t ht, jB_s, n10, m_isMoon, bmo_t ((Mod_mo (hJ _) _).mpr hm), m_out, hz, m_noLong n _ L _ hr]
    · refine Op_ref hI hM (.long (lr (-1))) (-1) ?_ ?_
      · rw [c0, inr_t ht, nmo_f hm, thn_0, thn_n e1]
        simp [eX9_says_0, eX9_says_35, h_refuseLong n I L (-1) (by simp [isR]), jB_s]
      · simp [eX10_says_0, eX10_says_8, eX10_says_16, eX10_says_22, eX10_says_38, eX10_says_59, eX10_says_64, eX10_says_73, eX10_says_82, m_isTable, e29 _ (hJ _), inb_t ht, jB_s, n10, n00, m_isMoon, bmo_f (fun q => hm ((Mod_mo (hJ (-1)) _).mp q)), m_noLong n _ L (-1) (by simp [isR])]
  · refine Op_ref hI hM (.long (lr (-1))) (-1) ?_ ?_
    · rw [c0, inr_f ht, thn_n e1]
      simp [eX9_says_0, eX9_says_35, h_refuseLong n I L (-1) (by simp [isR]), jB_s]
    · simp [eX10_says_0, eX10_says_8, eX10_says_16, eX10_says_22, eX10_says_38, eX10_says_59, eX10_says_64, eX10_says_73, eX10_says_82, m_isTable, e29 _ (hJ _), inb_f ht, jB_s, n00, m_noLong n _ L (-1) (by simp [isR])]
