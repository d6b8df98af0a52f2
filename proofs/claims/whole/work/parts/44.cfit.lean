/-! the class's fitters -/
def E71 (I A : jm_I) : Prop := ∀ a, a < 71 → I a = A a
theorem E71_C {I A : jm_I} (h : E71 I A) : Cls I A := ⟨fun a ha => h a (by omega), by rw [h 66 (by decide)]⟩
theorem E71_I {I A : jm_I} (h : E71 I A) (hA : Inv A) : Inv I := Inv_congr (E71_C h) hA
theorem E_zg {I A : jm_I} (h : E71 I A) (m k : Nat) : zg I m k = zg A m k := by unfold zg; rw [h 19 (by decide), h 20 (by decide)]
theorem E_zY {I A : jm_I} (h : E71 I A) : zY I = zY A := by unfold zY; rw [h 11 (by decide)]
theorem E_zfr {I A : jm_I} (h : E71 I A) (m k : Nat) : zfr I m k = zfr A m k := by unfold zfr; rw [E_zg h, E_zY h]
theorem E_zsh {I A : jm_I} (h : E71 I A) (τ d m k : Nat) : zsh I τ d m k = zsh A τ d m k := by unfold zsh zst; rw [E_zfr h, h 11 (by decide)]
theorem E_ixc {I A : jm_I} (h : E71 I A) {a : Nat} (ha : a < 71) (s : Nat) : ixc I a s = ixc A a s := by unfold ixc; rw [h a ha]
theorem E_zright {I A : jm_I} (h : E71 I A) (s : Nat) : zright I s = zright A s := by
  unfold zright zlean zoff zkind
  rw [E_ixc h (by decide), E_ixc h (by decide), E_ixc h (by decide), E_ixc h (by decide), h 33 (by decide), h 22 (by decide), h 29 (by decide), h 25 (by decide), h 17 (by decide), h 23 (by decide), h 24 (by decide)]
theorem E_zN {I A : jm_I} (h : E71 I A) : zN I = zN A := by unfold zN; rw [h 26 (by decide)]
theorem E_zT {I A : jm_I} (h : E71 I A) : zT I = zT A := by unfold zT; rw [h 35 (by decide)]
theorem E_tl {I A : jm_I} (h : E71 I A) (t : Nat) : tl I t = tl A t := by unfold tl; rw [h 37 (by decide)]
theorem E_tt {I A : jm_I} (h : E71 I A) (t i : Nat) : tt I t i = tt A t i := by unfold tt; rw [h 36 (by decide)]
theorem E_zsd {I A : jm_I} (h : E71 I A) (t m k ν i : Nat) : zsd I t m k ν i = zsd A t m k ν i := by
  induction i with
  | zero => exact E_zg h m k
  | succ i ih => simp only [zsd, ih, E_tt h, E_zsh h]
theorem E_zsaid {I A : jm_I} (h : E71 I A) (t m k ν : Nat) : zsaid I t m k ν = zsaid A t m k ν := by unfold zsaid; rw [E_zsd h, E_tl h]
/-- what is left at a level -/
def zl (A : jm_I) (τ : Nat → Nat) (m s : Nat) : Nat → Nat → Int
  | 0, _ => zright A s - zg A m (ixc A 28 s)
  | i + 1, x => zl A τ m s i (x / 7) - zsh A (τ i) (x % 7) m (ixc A 28 s)
theorem zl_rg {A : jm_I} (h : Inv A) (τ : Nat → Nat) {m s : Nat} (hm : m < 4) (hs : s < 40) : ∀ i x, (zl A τ m s i x).natAbs ≤ 3100000000 + 360000 * i := by
  intro i
  induction i with
  | zero =>
    intro x
    have h1 := zright_rg h hs
    have h2 := zg_rg h hm (Inv_s h hs).2.1.2
    show (zright A s - zg A m (ixc A 28 s)).natAbs ≤ _
    omega
  | succ i ih =>
    intro x
    have h1 := ih (x / 7)
    have h2 := zsh_rg h (τ := τ i) (m := m) (k := ixc A 28 s) (show x % 7 < 7 by omega)
    show (zl A τ m s i (x / 7) - zsh A (τ i) (x % 7) m (ixc A 28 s)).natAbs ≤ _
    omega
def zin (A : jm_I) (m : Nat) (set : Int64) (s : Nat) : Prop := tb set s = true ∧ A 27 s = nI m ∧ ¬ A 29 s = nI 5
def zinD (A : jm_I) (m : Nat) (set : Int64) (s : Nat) : Decidable (zin A m set s) := by unfold zin; infer_instance
theorem E_zin {I A : jm_I} (h : E71 I A) (m : Nat) (set : Int64) (s : Nat) : zin I m set s ↔ zin A m set s := by unfold zin; rw [h 27 (by decide), h 29 (by decide)]
theorem l10 : ¬ lN 0 = lN 1 := by decide
theorem c_isIn (n : Nat) (I : jm_I) (L : jm_L) {s m : Nat} (set : Int64) (hs : s < 40) : jE n rX3_isIn 0 [.ref 26, .int (nI s), .int (nI m), .long set, .null] [] I L = some (some (.int (@ite _ (zin I m set s) (zinD I m set s) (nI 1) (nI 0))), jS n I L) := by
  have hb := bit_u set (show s < 64 by omega)
  unfold zin
  by_cases h1 : tb set s = true
  · rw [if_pos h1] at hb
    by_cases h2 : I 27 s = nI m
    · by_cases h3 : I 29 s = nI 5
      · simp only [eX3_isIn_0, eX3_isIn_10, eX3_isIn_20, eX3_isIn_30, eX3_isIn_34, eX3_isIn_35, hb, not_true, if_false, jLI_t, jLW_t, jLL_t, jLZ_t, jLA_t, hs, h1, h2, h3, if_true, and_false]
      · simp only [eX3_isIn_0, eX3_isIn_10, eX3_isIn_20, eX3_isIn_30, eX3_isIn_34, eX3_isIn_35, hb, not_true, if_false, jLI_t, jLW_t, jLL_t, jLZ_t, jLA_t, hs, h1, h2, h3, not_false_eq_true, and_self, if_true]
    · simp only [eX3_isIn_0, eX3_isIn_10, eX3_isIn_20, eX3_isIn_30, eX3_isIn_34, eX3_isIn_35, hb, not_true, if_false, jLI_t, jLW_t, jLL_t, jLZ_t, jLA_t, hs, h1, h2, not_false_eq_true, if_true, false_and, and_false]
  · rw [if_neg h1] at hb
    simp only [eX3_isIn_0, eX3_isIn_10, eX3_isIn_20, eX3_isIn_30, eX3_isIn_34, eX3_isIn_35, hb, l10, not_false_eq_true, if_true, h1, Bool.false_eq_true, false_and, if_false]
/-! rows of longs -/
theorem updL_ap (f : Nat → Int64) (k : Nat) (x : Int64) (j : Nat) : vp_updL f k x j = if j = k then x else f j := rfl
theorem uL_A (L : jm_L) (a : Nat) (f : Nat → Int64) (k : Nat) (x : Int64) : jm_uL (jm_uA L a f) a k x = jm_uA L a (vp_updL f k x) := by
  funext b j
  unfold jm_uL jm_uA
  by_cases h : b = a <;> simp [h]
theorem uL_0 (L : jm_L) (a k : Nat) (x : Int64) : jm_uL L a k x = jm_uA L a (vp_updL (L a) k x) := by
  funext b j
  unfold jm_uL jm_uA
  by_cases h : b = a
  · subst h; simp
  · simp [h]
theorem lA_eq (L : jm_L) (a : Nat) (f : Nat → Int64) : jm_uA L a f a = f := by unfold jm_uA; simp
theorem lA_ne (L : jm_L) {a b : Nat} (f : Nat → Int64) (h : b ≠ a) : jm_uA L a f b = L b := by unfold jm_uA; simp [h]
theorem lA_A (L : jm_L) (a : Nat) (f g : Nat → Int64) : jm_uA (jm_uA L a f) a g = jm_uA L a g := by
  funext b
  unfold jm_uA
  by_cases h : b = a <;> simp [h]
theorem lA_0 (L : jm_L) (a : Nat) : jm_uA L a (L a) = L := by
  funext b
  unfold jm_uA
  by_cases h : b = a
  · subst h; simp
  · simp [h]
theorem iA_eq (I : jm_I) (a : Nat) (f : Nat → Int32) : jm_uA I a f a = f := by unfold jm_uA; simp
theorem iA_A (I : jm_I) (a : Nat) (f g : Nat → Int32) : jm_uA (jm_uA I a f) a g = jm_uA I a g := by
  funext b
  unfold jm_uA
  by_cases h : b = a <;> simp [h]
theorem iA_0 (I : jm_I) (a : Nat) : jm_uA I a (I a) = I := by
  funext b
  unfold jm_uA
  by_cases h : b = a
  · subst h; simp
  · simp [h]
theorem iA_u (I : jm_I) (a : Nat) (f : Nat → Int32) (k : Nat) (x : Int32) : jm_u (jm_uA I a f) a k x = jm_uA I a (upd f k x) := by
  funext b j
  simp only [jm_u_ap, jm_uA_ap]
  by_cases h : b = a <;> simp [h]
theorem fBH {t : Nat} : fB t ≠ fH t := by unfold fB fH; omega
theorem fTH {t : Nat} : fT t ≠ fH t := by unfold fT fH; omega
theorem fBT {t : Nat} : fB t ≠ fT t := by unfold fB fT; omega
theorem fS74 {t : Nat} : fS t ≠ 74 := by unfold fS; omega
/-! widen -/
def wdn (f : Nat → Int64) (sh : Nat → Int) (F a : Nat) : Nat → Int64 := fun x => if 7 * a ≤ x ∧ x < 7 * F then f (x / 7) - lZ (sh (x % 7)) else f x
def iwd (f : Nat → Int64) (sh : Nat → Int) (F a d : Nat) : Nat → Int64 := fun x => if 7 * a ≤ x ∧ x < 7 * a + d then f a - lZ (sh (x - 7 * a)) else wdn f sh F (a + 1) x
theorem iwd_0 (f : Nat → Int64) (sh : Nat → Int) (F a : Nat) : iwd f sh F a 0 = wdn f sh F (a + 1) := by
  funext x
  unfold iwd
  rw [if_neg (by omega)]
theorem iwd_7 (f : Nat → Int64) (sh : Nat → Int) {F a : Nat} (h : a < F) : iwd f sh F a 7 = wdn f sh F a := by
  funext x
  unfold iwd wdn
  by_cases h1 : 7 * a ≤ x ∧ x < 7 * a + 7
  · rw [if_pos h1, if_pos (by omega), show x / 7 = a by omega, show x % 7 = x - 7 * a by omega]
  · rw [if_neg h1]
    by_cases h2 : 7 * (a + 1) ≤ x ∧ x < 7 * F
    · rw [if_pos h2, if_pos (by omega)]
    · rw [if_neg h2, if_neg (by omega)]
theorem iwd_s (f : Nat → Int64) (sh : Nat → Int) (F a d : Nat) : vp_updL (iwd f sh F a d) (7 * a + d) (f a - lZ (sh d)) = iwd f sh F a (d + 1) := by
  funext x
  rw [updL_ap]
  unfold iwd
  by_cases h : x = 7 * a + d
  · subst h
    rw [if_pos rfl, if_pos (by omega), show 7 * a + d - 7 * a = d by omega]
  · rw [if_neg h]
    by_cases h1 : 7 * a ≤ x ∧ x < 7 * a + d
    · rw [if_pos h1, if_pos (by omega)]
    · rw [if_neg h1, if_neg (by omega)]
theorem c_widen_i (n : Nat) (I : jm_I) (L : jm_L) {t : Nat} (ht : t < 8) (f : Nat → Int64) (sh : Nat → Int) {F a : Nat} (hF : F ≤ 49) (ha : a < F) (hsh : ∀ d, d < 7 → I (fH t) d = iZ (sh d)) (hs : ∀ d, d < 7 → (sh d).natAbs ≤ 360000) (v1 : Value) : ∀ (d j : Nat), j + d = 7 → jE n rX0_widen 18 [.ref (fB t), v1, .int (nI a), .long (f a), .null, .int (nI j)] [] I (jm_uA L 74 (iwd f sh F a j)) = jE n rX0_widen 53 [.ref (fB t), v1, .int (nI a), .long (f a), .null, .int (nI 7)] [] I (jm_uA L 74 (wdn f sh F a)) := by
  intro d
  induction d with
  | zero =>
    intro j hj
    have : j = 7 := by omega
    subst this
    have c : nI 7 ≤ nI 7 := Int32.le_refl _
    simp only [eX0_widen_18, c, if_true, iwd_7 f sh ha]
  | succ d ih =>
    intro j hj
    have c : ¬ nI 7 ≤ nI j := nI_ge (by omega) (by omega)
    have hd0 : ∀ M, jE n rX0_widen 18 [.ref (fB t), v1, .int (nI a), .long (f a), .null, .int (nI j)] [] I M = jE n rX0_widen 25 [.ref (fB t), v1, .int (nI a), .long (f a), .null, .int (nI j)] [] I M := by
      intro M
      simp only [eX0_widen_18, c, if_false]
    rw [hd0]
    have hx : 7 * a + j < 343 := by omega
    have ex : a * 7 + j = 7 * a + j := by omega
    have hj7 : j < 7 := by omega
    have hb := hs j hj7
    have el : (iZ (sh j)).toInt64 = lZ (sh j) := iZ_l (by omega) (by omega)
    have ih2 := ih (j + 1) (by omega)
    rw [← iwd_s] at ih2
    simp only [eX0_widen_25, ht, pk_mul, nI_add, ex, jLI_t, jLW_t, jLL_t, jLZ_t, jLA_t, hx, jLI_H ht, hj7, hsh j hj7, el, uL_A]
    exact ih2
theorem c_widen (n : Nat) (I : jm_I) (L : jm_L) {t : Nat} (ht : t < 8) (f : Nat → Int64) (sh : Nat → Int) {F : Nat} (hF : F ≤ 49) (hsh : ∀ d, d < 7 → I (fH t) d = iZ (sh d)) (hs : ∀ d, d < 7 → (sh d).natAbs ≤ 360000) : jE n rX0_widen 0 [.ref (fB t), .int (nI F), .null, .null, .null, .null] [] I (jm_uA L 74 f) = some (none, jS n I (jm_uA L 74 (wdn f sh F 0))) := by
  have key : ∀ (a : Nat) (v3 v4 v5 : Value), a ≤ F → jE n rX0_widen 4 [.ref (fB t), .int (nI F), .int (iZ ((a : Int) - 1)), v3, v4, v5] [] I (jm_uA L 74 (wdn f sh F a)) = some (none, jS n I (jm_uA L 74 (wdn f sh F 0))) := by
    intro a
    induction a with
    | zero =>
      intro v3 v4 v5 h
      have c : iZ (((0 : Nat) : Int) - 1) < 0 := by decide
      simp only [eX0_widen_4, eX0_widen_59, c, if_true]
    | succ a ih =>
      intro v3 v4 v5 h
      have e : iZ (((a + 1 : Nat) : Int) - 1) = nI a := by rw [nI_iZ]; congr 1; omega
      have c : ¬ nI a < 0 := nI_pos (by omega)
      have hx : a < 343 := by omega
      have er : wdn f sh F (a + 1) a = f a := by unfold wdn; rw [if_neg (by omega)]
      have e0 : jE n rX0_widen 4 [.ref (fB t), .int (nI F), .int (iZ (((a + 1 : Nat) : Int) - 1)), v3, v4, v5] [] I (jm_uA L 74 (wdn f sh F (a + 1))) = jE n rX0_widen 18 [.ref (fB t), .int (nI F), .int (nI a), .long (f a), .null, .int (nI 0)] [] I (jm_uA L 74 (wdn f sh F (a + 1))) := by
        rw [e]
        simp only [eX0_widen_4, eX0_widen_8, c, if_false, ht, jLI_t, jLW_t, jLL_t, jLZ_t, jLA_t, hx, lA_eq, er]
      rw [e0, ← iwd_0, c_widen_i n I L ht f sh hF (show a < F by omega) hsh hs _ 7 0 rfl]
      have e2 : nI a + -1 = iZ ((a : Int) - 1) := by
        rw [nI_iZ, show (-1 : Int32) = iZ (-1) from by decide, iZ_add]
        rfl
      simp only [eX0_widen_53, e2]
      exact ih _ _ _ (by omega)
  have e1 : nI F - nI 1 = iZ ((F : Int) - 1) := by rw [nI_iZ, show nI 1 = iZ 1 from rfl, iZ_sub]
  have e3 : wdn f sh F F = f := by
    funext x
    unfold wdn
    rw [if_neg (by omega)]
  have := key F .null .null .null (Nat.le_refl _)
  rw [e3] at this
  simp only [eX0_widen_0, e1]
  exact this
/-! a fitter's state -/
abbrev Fitt (I : jm_I) (L : jm_L) (t c : Nat) (τ : Nat → Nat) (m : Nat) (G : Nat → Int) : Prop := (I (fB t) 5 = nI c) ∧ (I (fB t) 6 = nI (7 ^ c)) ∧ (I (fB t) 7 = nI m) ∧ (∀ i, i < c → I (fT t) i = nI (τ i)) ∧ (∀ x, x < 7 ^ c → L (fS t) x = lZ (G x))
theorem Fitt.k5 {I : jm_I} {L : jm_L} {t c : Nat} {τ : Nat → Nat} {m : Nat} {G : Nat → Int} (h : Fitt I L t c τ m G) : I (fB t) 5 = nI c := h.1
theorem Fitt.k6 {I : jm_I} {L : jm_L} {t c : Nat} {τ : Nat → Nat} {m : Nat} {G : Nat → Int} (h : Fitt I L t c τ m G) : I (fB t) 6 = nI (7 ^ c) := h.2.1
theorem Fitt.k7 {I : jm_I} {L : jm_L} {t c : Nat} {τ : Nat → Nat} {m : Nat} {G : Nat → Int} (h : Fitt I L t c τ m G) : I (fB t) 7 = nI m := h.2.2.1
theorem Fitt.kT {I : jm_I} {L : jm_L} {t c : Nat} {τ : Nat → Nat} {m : Nat} {G : Nat → Int} (h : Fitt I L t c τ m G) : ∀ i, i < c → I (fT t) i = nI (τ i) := h.2.2.2.1
theorem Fitt.kS {I : jm_I} {L : jm_L} {t c : Nat} {τ : Nat → Nat} {m : Nat} {G : Nat → Int} (h : Fitt I L t c τ m G) : ∀ x, x < 7 ^ c → L (fS t) x = lZ (G x) := h.2.2.2.2
theorem c_shares (n : Nat) (I A : jm_I) (L : jm_L) (hA : Inv A) (hE : E71 I A) {t : Nat} (ht : t < 8) {τ m k i : Nat} (hτ : τ ≤ 6) (hm : m < 4) (hk : k < 1000) (hi : i < 3) (h7 : I (fB t) 7 = nI m) (hT : I (fT t) i = nI τ) (v1 v3 v4 : Value) : ∀ (d j : Nat) (H : Nat → Int32), j + d = 7 → (∀ e, e < j → H e = iZ (zsh A τ e m k)) → ∃ H' : Nat → Int32, (∀ e, e < 7 → H' e = iZ (zsh A τ e m k)) ∧ jE n rX0_spread 67 [.ref (fB t), v1, .int (nI k), v3, v4, .int (iZ (zfr A m k)), .int (nI i), .int (nI j)] [] (jm_uA I (fH t) H) L = jE n rX0_spread 112 [.ref (fB t), v1, .int (nI k), v3, v4, .int (iZ (zfr A m k)), .int (nI i), .int (nI 7)] [] (jm_uA I (fH t) H') L := by
  intro d
  induction d with
  | zero =>
    intro j H hj hH
    have : j = 7 := by omega
    subst this
    have c : nI 7 ≤ nI 7 := Int32.le_refl _
    refine ⟨H, hH, ?_⟩
    simp only [eX0_spread_67, c, if_true]
  | succ d ih =>
    intro j H hj hH
    have c : ¬ nI 7 ≤ nI j := nI_ge (by omega) (by omega)
    have hj7 : j < 7 := by omega
    have hE2 : E71 (jm_uA I (fH t) H) A := fun a ha => by rw [jm_uA_ne _ _ (by unfold fH; omega)]; exact hE a ha
    have q7 : jm_uA I (fH t) H (fB t) 7 = nI m := by rw [jm_uA_ne _ _ fBH]; exact h7
    have qT : jm_uA I (fH t) H (fT t) i = nI τ := by rw [jm_uA_ne _ _ fTH]; exact hT
    have cs := c_share n (jm_uA I (fH t) H) L (E71_I hE2 hA) hτ hj7 hm hk
    rw [E_zfr hE2, E_zsh hE2] at cs
    obtain ⟨H', h1, h2⟩ := ih (j + 1) (upd H j (iZ (zsh A τ j m k))) (by omega) (fun e he => by
      rw [upd_ap]
      split
      · rename_i q; rw [q]
      · exact hH e (by omega))
    refine ⟨H', h1, ?_⟩
    have hd0 : ∀ M, jE n rX0_spread 67 [.ref (fB t), v1, .int (nI k), v3, v4, .int (iZ (zfr A m k)), .int (nI i), .int (nI j)] [] M L = jE n rX0_spread 74 [.ref (fB t), v1, .int (nI k), v3, v4, .int (iZ (zfr A m k)), .int (nI i), .int (nI j)] [] M L := by
      intro M
      simp only [eX0_spread_67, c, if_false]
    rw [hd0]
    simp only [eX0_spread_74, ht, jLI_T ht, hi, qT, nI_3, q7, cs, jB_s, jLW_H ht, hj7, iA_u, nI_add]
    exact h2
theorem c_spread (n : Nat) (I A : jm_I) (L : jm_L) (hA : Inv A) (hE : E71 I A) {t c m s : Nat} {τ : Nat → Nat} {G : Nat → Int} (ht : t < 8) (hc : c ≤ 3) (hτ : ∀ i, i < c → τ i ≤ 6) (hm : m < 4) (hs : s < 40) (hF : Fitt I L t c τ m G) : ∃ (H : Nat → Int32) (f : Nat → Int64), (∀ x, x < 7 ^ c → f x = lZ (zl A τ m s c x)) ∧ jE n rX0_spread 0 [.ref (fB t), .int (nI s), .null, .null, .null, .null, .null, .null] [] I L = some (none, jS n (jm_uA I (fH t) H) (jm_uA L 74 f)) := by
  obtain ⟨e28, hk⟩ := (Inv_s hA hs).2.1
  have hI := E71_I hE hA
  have hg := zg_rg hA hm hk
  have hz : ∀ i x, (zl A τ m s i x).natAbs ≤ 3100000000 + 360000 * i := zl_rg hA τ hm hs
  generalize hkk : ixc A 28 s = k at *
  have e28I : I 28 s = nI k := by rw [hE 28 (by decide)]; exact e28
  have c1 := c_guessedAt n I L hm hk
  rw [E_zg hE] at c1
  have c2 : jE n rX8_farOf 0 [.ref 10, .long (lZ (zg A m k)), .null, .null, .null, .null] [] I L = some (some (.int (iZ (zfr A m k))), jS n I L) := by
    have := c_farOf n I L hI (t := zg A m k) (by omega)
    rw [E_zY hE] at this
    exact this
  have c3 := c_putRight n I L hI hs
  rw [E_zright hE] at c3
  -- the head
  have e0 : jE n rX0_spread 0 [.ref (fB t), .int (nI s), .null, .null, .null, .null, .null, .null] [] I L = jE n rX0_spread 55 [.ref (fB t), .int (nI s), .int (nI k), .long (lZ (zg A m k)), .null, .int (iZ (zfr A m k)), .int (nI 0), .null] [] I (jm_uA L 74 (vp_updL (L 74) 0 (lZ (zl A τ m s 0 0)))) := by
    have ez : zright A s - zg A m k = zl A τ m s 0 0 := by show _ = zright A s - zg A m (ixc A 28 s); rw [hkk]
    simp only [eX0_spread_0, ht, jLI_t, jLW_t, jLL_t, jLZ_t, jLA_t, hs, e28I, hF.k7, c1, jB_s, c2, c3, lZ_sub, show (0 : Nat) < 343 from by decide, uL_0, ez]
  rw [e0]
  -- the terms
  have key : ∀ (d i : Nat) (H : Nat → Int32) (f : Nat → Int64) (v7 : Value), i + d = c → (∀ x, x < 7 ^ i → f x = lZ (zl A τ m s i x)) → ∃ (H' : Nat → Int32) (f' : Nat → Int64), (∀ x, x < 7 ^ c → f' x = lZ (zl A τ m s c x)) ∧ jE n rX0_spread 55 [.ref (fB t), .int (nI s), .int (nI k), .long (lZ (zg A m k)), .null, .int (iZ (zfr A m k)), .int (nI i), v7] [] (jm_uA I (fH t) H) (jm_uA L 74 f) = some (none, jS n (jm_uA I (fH t) H') (jm_uA L 74 f')) := by
    intro d
    induction d with
    | zero =>
      intro i H f v7 hi hf
      have : i = c := by omega
      subst this
      have q5 : jm_uA I (fH t) H (fB t) 5 = nI i := by rw [jm_uA_ne _ _ fBH]; exact hF.k5
      have cc : nI i ≤ nI i := Int32.le_refl _
      refine ⟨H, f, hf, ?_⟩
      simp only [eX0_spread_55, eX0_spread_128, ht, q5, cc, if_true]
    | succ d ih =>
      intro i H f v7 hi hf
      have hic : i < c := by omega
      have q5 : jm_uA I (fH t) H (fB t) 5 = nI c := by rw [jm_uA_ne _ _ fBH]; exact hF.k5
      have cc : ¬ nI c ≤ nI i := nI_ge (by omega) (by omega)
      obtain ⟨H1, g1, g2⟩ := c_shares n I A (jm_uA L 74 f) hA hE ht (hτ i hic) hm hk (show i < 3 by omega) hF.k7 (hF.kT i hic) (.int (nI s)) (.long (lZ (zg A m k))) .null 7 0 H rfl (fun e he => absurd he (by omega))
      have hd0 : jE n rX0_spread 55 [.ref (fB t), .int (nI s), .int (nI k), .long (lZ (zg A m k)), .null, .int (iZ (zfr A m k)), .int (nI i), v7] [] (jm_uA I (fH t) H) (jm_uA L 74 f) = jE n rX0_spread 67 [.ref (fB t), .int (nI s), .int (nI k), .long (lZ (zg A m k)), .null, .int (iZ (zfr A m k)), .int (nI i), .int (nI 0)] [] (jm_uA I (fH t) H) (jm_uA L 74 f) := by
        simp only [eX0_spread_55, eX0_spread_64, ht, q5, cc, if_false]
      have hp49 : 7 ^ i ≤ 49 := by
        rcases (show i = 0 ∨ i = 1 ∨ i = 2 by omega) with rfl | rfl | rfl <;> decide
      have q7 : jm_uA I (fH t) H1 7 i = nI (7 ^ i) := by rw [jm_uA_ne _ _ (by unfold fH; omega)]; exact st_7 hI (by omega)
      have hi4 : i < 4 := by omega
      have cw := c_widen n (jm_uA I (fH t) H1) L ht f (fun d => zsh A (τ i) d m k) hp49 (fun d hd => by rw [iA_eq]; exact g1 d hd) (fun d hd => zsh_rg hA hd)
      have hf2 : ∀ x, x < 7 ^ (i + 1) → wdn f (fun d => zsh A (τ i) d m k) (7 ^ i) 0 x = lZ (zl A τ m s (i + 1) x) := by
        intro x hx
        have hx2 : x < 7 * 7 ^ i := by rw [Nat.pow_succ] at hx; omega
        unfold wdn
        rw [if_pos ⟨by omega, hx2⟩, hf (x / 7) (by omega), lZ_sub]
        show _ = lZ (zl A τ m s i (x / 7) - zsh A (τ i) (x % 7) m (ixc A 28 s))
        rw [hkk]
      obtain ⟨H', f', r1, r2⟩ := ih (i + 1) H1 _ (.int (nI 7)) (by omega) hf2
      refine ⟨H', f', r1, ?_⟩
      rw [hd0, g2]
      simp only [eX0_spread_112, ht, jLI_t, jLW_t, jLL_t, jLZ_t, jLA_t, hi4, q7, cw, jB_v, nI_add]
      exact r2
  have := key c 0 (I (fH t)) (vp_updL (L 74) 0 (lZ (zl A τ m s 0 0))) .null (Nat.zero_add _) (fun x hx => by
    have : x = 0 := by simpa using hx
    subst this
    rw [updL_ap, if_pos rfl])
  rw [iA_0] at this
  exact this
