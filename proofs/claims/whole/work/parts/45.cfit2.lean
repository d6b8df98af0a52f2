/-! a sight added or dropped -/
def zab (z : Int) : Int := (z.natAbs : Int)
def abr (g : Nat → Int64) (G : Nat → Int) (i : Nat) : Nat → Int64 := fun x => if x < i then lZ (G x) else g x
theorem abr_0 (g : Nat → Int64) (G : Nat → Int) : abr g G 0 = g := by
  funext x
  unfold abr
  rw [if_neg (by omega)]
theorem abr_s (g : Nat → Int64) (G : Nat → Int) (i : Nat) : vp_updL (abr g G i) i (lZ (G i)) = abr g G (i + 1) := by
  funext x
  rw [updL_ap]
  unfold abr
  by_cases h : x = i
  · subst h; rw [if_pos rfl, if_pos (by omega)]
  · rw [if_neg h]
    by_cases h2 : x < i
    · rw [if_pos h2, if_pos (by omega)]
    · rw [if_neg h2, if_neg (by omega)]
theorem c_addSight (n : Nat) (I A : jm_I) (L : jm_L) (hA : Inv A) (hE : E71 I A) {t c m s : Nat} {τ : Nat → Nat} {G : Nat → Int} (ht : t < 8) (hc : c ≤ 3) (hτ : ∀ i, i < c → τ i ≤ 6) (hm : m < 4) (hs : s < 40) (hF : Fitt I L t c τ m G) : ∃ (H : Nat → Int32) (f g : Nat → Int64), (∀ x, x < 7 ^ c → g x = lZ (G x + zab (zl A τ m s c x))) ∧ jE n rX0_addSight 0 [.ref (fB t), .int (nI s), .null] [] I L = some (none, jS n (jm_uA I (fH t) H) (jm_uA (jm_uA L 74 f) (fS t) g)) := by
  obtain ⟨H, f, hf, hsp⟩ := c_spread n I A L hA hE ht hc hτ hm hs hF
  obtain ⟨p1, p2⟩ := p7 hc
  have hz := zl_rg hA τ hm hs c
  have k6 : jm_uA I (fH t) H (fB t) 6 = nI (7 ^ c) := by rw [jm_uA_ne _ _ fBH]; exact hF.k6
  have key : ∀ (d i : Nat), i + d = 7 ^ c → jE n rX0_addSight 7 [.ref (fB t), .int (nI s), .int (nI i)] [] (jm_uA I (fH t) H) (jm_uA (jm_uA L 74 f) (fS t) (abr (L (fS t)) (fun x => G x + zab (zl A τ m s c x)) i)) = some (none, jS n (jm_uA I (fH t) H) (jm_uA (jm_uA L 74 f) (fS t) (abr (L (fS t)) (fun x => G x + zab (zl A τ m s c x)) (7 ^ c)))) := by
    intro d
    induction d with
    | zero =>
      intro i hi
      have : i = 7 ^ c := by omega
      subst this
      have cc : nI (7 ^ c) ≤ nI (7 ^ c) := Int32.le_refl _
      simp only [eX0_addSight_7, eX0_addSight_39, ht, k6, cc, if_true]
    | succ d ih =>
      intro i hi
      have hi2 : i < 7 ^ c := by omega
      have cc : ¬ nI (7 ^ c) ≤ nI i := nI_ge hi2 (by omega)
      have hi3 : i < 343 := by omega
      have hd0 : ∀ M, jE n rX0_addSight 7 [.ref (fB t), .int (nI s), .int (nI i)] [] (jm_uA I (fH t) H) M = jE n rX0_addSight 15 [.ref (fB t), .int (nI s), .int (nI i)] [] (jm_uA I (fH t) H) M := by
        intro M
        simp only [eX0_addSight_7, ht, k6, cc, if_false]
      rw [hd0]
      have q1 : jm_uA (jm_uA L 74 f) (fS t) (abr (L (fS t)) (fun x => G x + zab (zl A τ m s c x)) i) (fS t) i = lZ (G i) := by
        rw [lA_eq]
        unfold abr
        rw [if_neg (by omega)]
        exact hF.kS i hi2
      have q2 : jm_uA (jm_uA L 74 f) (fS t) (abr (L (fS t)) (fun x => G x + zab (zl A τ m s c x)) i) 74 i = lZ (zl A τ m s c i) := by
        rw [lA_ne _ _ (Ne.symm fS74), lA_eq]
        exact hf i hi2
      have ea : (if 0 < lZ (zl A τ m s c i) then lZ (zl A τ m s c i) else -lZ (zl A τ m s c i)) = lZ (zab (zl A τ m s c i)) := labs (by have := hz i; omega)
      have ih2 := ih (i + 1) (by omega)
      rw [← abr_s] at ih2
      simp only [eX0_addSight_15, ht, jLI_t, jLW_t, jLL_t, jLZ_t, jLA_t, hi3, jLL_S ht, q1, q2, ea, lZ_add, uL_A, nI_add]
      exact ih2
  refine ⟨H, f, abr (L (fS t)) (fun x => G x + zab (zl A τ m s c x)) (7 ^ c), fun x hx => ?_, ?_⟩
  · unfold abr
    rw [if_pos hx]
  · have k0 := key (7 ^ c) 0 (Nat.zero_add _)
    rw [abr_0] at k0
    have e0 : jm_uA (jm_uA L 74 f) (fS t) (L (fS t)) = jm_uA L 74 f := by
      have := lA_0 (jm_uA L 74 f) (fS t)
      rwa [lA_ne _ _ fS74] at this
    rw [e0] at k0
    simp only [eX0_addSight_0, ht, hsp, jB_v]
    exact k0
theorem c_dropSight (n : Nat) (I A : jm_I) (L : jm_L) (hA : Inv A) (hE : E71 I A) {t c m s : Nat} {τ : Nat → Nat} {G : Nat → Int} (ht : t < 8) (hc : c ≤ 3) (hτ : ∀ i, i < c → τ i ≤ 6) (hm : m < 4) (hs : s < 40) (hF : Fitt I L t c τ m G) : ∃ (H : Nat → Int32) (f g : Nat → Int64), (∀ x, x < 7 ^ c → g x = lZ (G x - zab (zl A τ m s c x))) ∧ jE n rX0_dropSight 0 [.ref (fB t), .int (nI s), .null] [] I L = some (none, jS n (jm_uA I (fH t) H) (jm_uA (jm_uA L 74 f) (fS t) g)) := by
  obtain ⟨H, f, hf, hsp⟩ := c_spread n I A L hA hE ht hc hτ hm hs hF
  obtain ⟨p1, p2⟩ := p7 hc
  have hz := zl_rg hA τ hm hs c
  have k6 : jm_uA I (fH t) H (fB t) 6 = nI (7 ^ c) := by rw [jm_uA_ne _ _ fBH]; exact hF.k6
  have key : ∀ (d i : Nat), i + d = 7 ^ c → jE n rX0_dropSight 7 [.ref (fB t), .int (nI s), .int (nI i)] [] (jm_uA I (fH t) H) (jm_uA (jm_uA L 74 f) (fS t) (abr (L (fS t)) (fun x => G x - zab (zl A τ m s c x)) i)) = some (none, jS n (jm_uA I (fH t) H) (jm_uA (jm_uA L 74 f) (fS t) (abr (L (fS t)) (fun x => G x - zab (zl A τ m s c x)) (7 ^ c)))) := by
    intro d
    induction d with
    | zero =>
      intro i hi
      have : i = 7 ^ c := by omega
      subst this
      have cc : nI (7 ^ c) ≤ nI (7 ^ c) := Int32.le_refl _
      simp only [eX0_dropSight_7, eX0_dropSight_39, ht, k6, cc, if_true]
    | succ d ih =>
      intro i hi
      have hi2 : i < 7 ^ c := by omega
      have cc : ¬ nI (7 ^ c) ≤ nI i := nI_ge hi2 (by omega)
      have hi3 : i < 343 := by omega
      have hd0 : ∀ M, jE n rX0_dropSight 7 [.ref (fB t), .int (nI s), .int (nI i)] [] (jm_uA I (fH t) H) M = jE n rX0_dropSight 15 [.ref (fB t), .int (nI s), .int (nI i)] [] (jm_uA I (fH t) H) M := by
        intro M
        simp only [eX0_dropSight_7, ht, k6, cc, if_false]
      rw [hd0]
      have q1 : jm_uA (jm_uA L 74 f) (fS t) (abr (L (fS t)) (fun x => G x - zab (zl A τ m s c x)) i) (fS t) i = lZ (G i) := by
        rw [lA_eq]
        unfold abr
        rw [if_neg (by omega)]
        exact hF.kS i hi2
      have q2 : jm_uA (jm_uA L 74 f) (fS t) (abr (L (fS t)) (fun x => G x - zab (zl A τ m s c x)) i) 74 i = lZ (zl A τ m s c i) := by
        rw [lA_ne _ _ (Ne.symm fS74), lA_eq]
        exact hf i hi2
      have ea : (if 0 < lZ (zl A τ m s c i) then lZ (zl A τ m s c i) else -lZ (zl A τ m s c i)) = lZ (zab (zl A τ m s c i)) := labs (by have := hz i; omega)
      have ih2 := ih (i + 1) (by omega)
      rw [← abr_s] at ih2
      simp only [eX0_dropSight_15, ht, jLI_t, jLW_t, jLL_t, jLZ_t, jLA_t, hi3, jLL_S ht, q1, q2, ea, lZ_sub, uL_A, nI_add]
      exact ih2
  refine ⟨H, f, abr (L (fS t)) (fun x => G x - zab (zl A τ m s c x)) (7 ^ c), fun x hx => ?_, ?_⟩
  · unfold abr
    rw [if_pos hx]
  · have k0 := key (7 ^ c) 0 (Nat.zero_add _)
    rw [abr_0] at k0
    have e0 : jm_uA (jm_uA L 74 f) (fS t) (L (fS t)) = jm_uA L 74 f := by
      have := lA_0 (jm_uA L 74 f) (fS t)
      rwa [lA_ne _ _ fS74] at this
    rw [e0] at k0
    simp only [eX0_dropSight_0, ht, hsp, jB_v]
    exact k0
/-! what a fitter's run leaves alone -/
abbrev Fr (t : Nat) (I' I : jm_I) (L' L : jm_L) : Prop := (∀ a, a ≠ fB t → a ≠ fH t → a ≠ fT t → I' a = I a) ∧ (∀ a, a ≠ 74 → a ≠ fS t → L' a = L a)
theorem Fr.fi {t : Nat} {I' I : jm_I} {L' L : jm_L} (h : Fr t I' I L' L) : ∀ a, a ≠ fB t → a ≠ fH t → a ≠ fT t → I' a = I a := h.1
theorem Fr.fl {t : Nat} {I' I : jm_I} {L' L : jm_L} (h : Fr t I' I L' L) : ∀ a, a ≠ 74 → a ≠ fS t → L' a = L a := h.2
theorem Fr_0 (t : Nat) (I : jm_I) (L : jm_L) : Fr t I I L L := ⟨fun _ _ _ _ => rfl, fun _ _ _ => rfl⟩
theorem Fr_t {t : Nat} {I I1 I2 : jm_I} {L L1 L2 : jm_L} (h : Fr t I1 I L1 L) (g : Fr t I2 I1 L2 L1) : Fr t I2 I L2 L := ⟨fun a p q r => (g.fi a p q r).trans (h.fi a p q r), fun a p q => (g.fl a p q).trans (h.fl a p q)⟩
theorem Fr_E {t : Nat} {I' I A : jm_I} {L' L : jm_L} (h : Fr t I' I L' L) (e : E71 I A) : E71 I' A := fun a ha => (h.fi a (by unfold fB; omega) (by unfold fH; omega) (by unfold fT; omega)).trans (e a ha)
theorem Fr_a (t : Nat) (I : jm_I) (L : jm_L) (H : Nat → Int32) (f g : Nat → Int64) : Fr t (jm_uA I (fH t) H) I (jm_uA (jm_uA L 74 f) (fS t) g) L := ⟨fun a _ p _ => jm_uA_ne _ _ p, fun a p q => by rw [lA_ne _ _ q, lA_ne _ _ p]⟩
theorem Fitt_a {I : jm_I} {L : jm_L} {t c m : Nat} {τ : Nat → Nat} {G G' : Nat → Int} (h : Fitt I L t c τ m G) (H : Nat → Int32) (f g : Nat → Int64) (hg : ∀ x, x < 7 ^ c → g x = lZ (G' x)) : Fitt (jm_uA I (fH t) H) (jm_uA (jm_uA L 74 f) (fS t) g) t c τ m G' := by
  refine ⟨?_, ?_, ?_, ?_, ?_⟩
  · rw [jm_uA_ne _ _ fBH]; exact h.k5
  · rw [jm_uA_ne _ _ fBH]; exact h.k6
  · rw [jm_uA_ne _ _ fBH]; exact h.k7
  · intro i hi; rw [jm_uA_ne _ _ fTH]; exact h.kT i hi
  · intro x hx; rw [lA_eq]; exact hg x hx
/-- the sums of a set's sights -/
def zs (A : jm_I) (τ : Nat → Nat) (c m : Nat) (set : Int64) (x : Nat) : Nat → Int
  | 0 => 0
  | s + 1 => @ite _ (zin A m set s) (zinD A m set s) (zs A τ c m set x s + zab (zl A τ m s c x)) (zs A τ c m set x s)
theorem zs_t {A : jm_I} {τ : Nat → Nat} {c m : Nat} {set : Int64} {x s : Nat} (h : zin A m set s) : zs A τ c m set x (s + 1) = zs A τ c m set x s + zab (zl A τ m s c x) := by simp only [zs, h, if_true]
theorem zs_f {A : jm_I} {τ : Nat → Nat} {c m : Nat} {set : Int64} {x s : Nat} (h : ¬ zin A m set s) : zs A τ c m set x (s + 1) = zs A τ c m set x s := by simp only [zs, h, if_false]
theorem zs_rg {A : jm_I} (h : Inv A) (τ : Nat → Nat) {c m : Nat} (hc : c ≤ 3) (hm : m < 4) (set : Int64) (x : Nat) : ∀ s, s ≤ 40 → 0 ≤ zs A τ c m set x s ∧ zs A τ c m set x s ≤ 3200000000 * s := by
  intro s
  induction s with
  | zero => intro _; simp [zs]
  | succ s ih =>
    intro hs
    have i1 := ih (by omega)
    by_cases q : zin A m set s
    · rw [zs_t q]
      have := zl_rg h τ hm (show s < 40 by omega) c x
      unfold zab
      omega
    · rw [zs_f q]
      omega
theorem c_addSet (n : Nat) (A : jm_I) (hA : Inv A) {t c m : Nat} {τ : Nat → Nat} (set : Int64) (ht : t < 8) (hc : c ≤ 3) (hτ : ∀ i, i < c → τ i ≤ 6) (hm : m < 4) : ∀ (d s : Nat) (I : jm_I) (L : jm_L), s + d = zN A → E71 I A → Fitt I L t c τ m (fun x => zs A τ c m set x s) → ∃ (I' : jm_I) (L' : jm_L), Fr t I' I L' L ∧ Fitt I' L' t c τ m (fun x => zs A τ c m set x (zN A)) ∧ jE n rX0_addSet 2 [.ref (fB t), .long set, .null, .int (nI s)] [] I L = some (none, jS n I' L') := by
  obtain ⟨e8, hN⟩ := Inv_N hA
  intro d
  induction d with
  | zero =>
    intro s I L hs hE hF
    have : s = zN A := by omega
    subst this
    have e8I : I 26 8 = nI (zN A) := by rw [hE 26 (by decide)]; exact e8
    have cc : nI (zN A) ≤ nI (zN A) := Int32.le_refl _
    refine ⟨I, L, Fr_0 t I L, hF, ?_⟩
    simp only [eX0_addSet_2, eX0_addSet_46, ht, e8I, cc, if_true]
  | succ d ih =>
    intro s I L hs hE hF
    have e8I : I 26 8 = nI (zN A) := by rw [hE 26 (by decide)]; exact e8
    have cc : ¬ nI (zN A) ≤ nI s := nI_ge (by omega) (by omega)
    have hs4 : s < 40 := by omega
    have ci := c_isIn n I L (m := m) set hs4
    have hd0 : jE n rX0_addSet 2 [.ref (fB t), .long set, .null, .int (nI s)] [] I L = jE n rX0_addSet 16 [.ref (fB t), .long set, .null, .int (nI s)] [] I L := by
      simp only [eX0_addSet_2, ht, e8I, cc, if_false]
    rw [hd0]
    by_cases q : zin A m set s
    · rw [if_pos ((E_zin hE m set s).mpr q)] at ci
      obtain ⟨H, f, g, hg, hadd⟩ := c_addSight n I A L hA hE ht hc hτ hm hs4 hF
      have hg2 : ∀ x, x < 7 ^ c → g x = lZ (zs A τ c m set x (s + 1)) := fun x hx => by rw [zs_t q]; exact hg x hx
      have F1 := Fr_a t I L H f g
      obtain ⟨I', L', r1, r2, r3⟩ := ih (s + 1) _ _ (by omega) (Fr_E F1 hE) (Fitt_a hF H f g hg2)
      refine ⟨I', L', Fr_t F1 r1, r2, ?_⟩
      simp only [eX0_addSet_16, eX0_addSet_35, eX0_addSet_40, ht, hF.k7, ci, jB_s, n10, if_false, hadd, jB_v, nI_add]
      exact r3
    · rw [if_neg (fun w => q ((E_zin hE m set s).mp w))] at ci
      have hF2 : Fitt I L t c τ m (fun x => zs A τ c m set x (s + 1)) := by
        have : (fun x => zs A τ c m set x (s + 1)) = (fun x => zs A τ c m set x s) := by funext x; exact zs_f q
        rw [this]; exact hF
      obtain ⟨I', L', r1, r2, r3⟩ := ih (s + 1) I L (by omega) hE hF2
      refine ⟨I', L', r1, r2, ?_⟩
      simp only [eX0_addSet_16, eX0_addSet_40, ht, hF.k7, ci, jB_s, n00t, if_true, nI_add]
      exact r3
/-! the start: w is the place that stays out, or 3 -/
def kc (w j : Nat) : Nat := if j ≤ w then j else j - 1
def τw (A : jm_I) (tab w i : Nat) : Nat := tt A tab (if i < w then i else i + 1)
theorem c_start (n : Nat) (I A : jm_I) (L : jm_L) (hA : Inv A) (hE : E71 I A) {t tab w m : Nat} (wv : Int32) (ht : t < 8) (htab : tab < 8) (hm : m < 4) (hw : w ≤ 3) (hwv : ∀ j, j < 3 → (nI j = wv ↔ j = w)) : ∃ (I' : jm_I) (L' : jm_L), Fr t I' I L' L ∧ Fitt I' L' t (kc w (tl A tab)) (τw A tab w) m (fun _ => 0) ∧ jE n rX0_start 0 [.ref (fB t), .int (nI tab), .int wv, .int (nI m), .null] [] I L = some (none, jS n I' L') := by
  obtain ⟨e37, h3⟩ := Inv_tl hA htab
  have key : ∀ (d j : Nat) (T : Nat → Int32), j + d = tl A tab → (∀ i, i < kc w j → T i = nI (τw A tab w i)) → ∃ T' : Nat → Int32, (∀ i, i < kc w (tl A tab) → T' i = nI (τw A tab w i)) ∧ jE n rX0_start 13 [.ref (fB t), .int (nI tab), .int wv, .int (nI m), .int (nI j)] [] (gS (jm_u I (fB t) 7 (nI m)) (fT t) T (fB t) 5 (nI (kc w j))) L = jE n rX0_start 74 [.ref (fB t), .int (nI tab), .int wv, .int (nI m), .int (nI (tl A tab))] [] (gS (jm_u I (fB t) 7 (nI m)) (fT t) T' (fB t) 5 (nI (kc w (tl A tab)))) L := by
    intro d
    induction d with
    | zero =>
      intro j T hj hT
      have : j = tl A tab := by omega
      subst this
      have cc : nI (tl A tab) ≤ nI (tl A tab) := Int32.le_refl _
      have q37 : gS (jm_u I (fB t) 7 (nI m)) (fT t) T (fB t) 5 (nI (kc w (tl A tab))) 37 tab = nI (tl A tab) := by
        rw [gS_at _ _ _ _ (by unfold fT; omega) (by unfold fB; omega), jm_u_ne _ _ _ (by unfold fB; omega), hE 37 (by decide)]
        exact e37
      refine ⟨T, hT, ?_⟩
      simp only [eX0_start_13, ht, jLI_t, jLW_t, jLL_t, jLZ_t, jLA_t, htab, q37, cc, if_true]
    | succ d ih =>
      intro j T hj hT
      have hj3 : j < 3 := by omega
      have cc : ¬ nI (tl A tab) ≤ nI j := nI_ge (by omega) (by omega)
      have q37 : gS (jm_u I (fB t) 7 (nI m)) (fT t) T (fB t) 5 (nI (kc w j)) 37 tab = nI (tl A tab) := by
        rw [gS_at _ _ _ _ (by unfold fT; omega) (by unfold fB; omega), jm_u_ne _ _ _ (by unfold fB; omega), hE 37 (by decide)]
        exact e37
      have hd0 : jE n rX0_start 13 [.ref (fB t), .int (nI tab), .int wv, .int (nI m), .int (nI j)] [] (gS (jm_u I (fB t) 7 (nI m)) (fT t) T (fB t) 5 (nI (kc w j))) L = jE n rX0_start 30 [.ref (fB t), .int (nI tab), .int wv, .int (nI m), .int (nI j)] [] (gS (jm_u I (fB t) 7 (nI m)) (fT t) T (fB t) 5 (nI (kc w j))) L := by
        simp only [eX0_start_13, ht, jLI_t, jLW_t, jLL_t, jLZ_t, jLA_t, htab, q37, cc, if_false]
      rw [hd0]
      by_cases hjw : j = w
      · have c2 := (hwv j hj3).mpr hjw
        have ek : kc w (j + 1) = kc w j := by unfold kc; rw [if_neg (by omega), if_pos (by omega)]; omega
        obtain ⟨T', r1, r2⟩ := ih (j + 1) T (by omega) (by rw [ek]; exact hT)
        rw [ek] at r2
        refine ⟨T', r1, ?_⟩
        simp only [eX0_start_30, eX0_start_68, c2, if_true]
        rw [← c2]
        simp only [eX0_start_68, nI_add]
        rw [← c2] at r2
        exact r2
      · have c2 : ¬ nI j = wv := fun q => hjw ((hwv j hj3).mp q)
        have ek : kc w (j + 1) = kc w j + 1 := by unfold kc; split <;> split <;> omega
        have hk3 : kc w j < 3 := by unfold kc; split <;> omega
        have q5 : gS (jm_u I (fB t) 7 (nI m)) (fT t) T (fB t) 5 (nI (kc w j)) (fB t) 5 = nI (kc w j) := gS_f _ _ _ _ _ _
        have hE2 : E71 (gS (jm_u I (fB t) 7 (nI m)) (fT t) T (fB t) 5 (nI (kc w j))) A := fun a ha => by
          rw [gS_at _ _ _ _ (by unfold fT; omega) (by unfold fB; omega), jm_u_ne _ _ _ (by unfold fB; omega)]
          exact hE a ha
        have ct := c_termOf n (gS (jm_u I (fB t) 7 (nI m)) (fT t) T (fB t) 5 (nI (kc w j))) L (E71_I hE2 hA) htab hj3
        rw [E_tt hE2] at ct
        have eτ : τw A tab w (kc w j) = tt A tab j := by
          unfold τw kc
          by_cases h1 : j ≤ w
          · rw [if_pos h1, if_pos (by omega)]
          · rw [if_neg h1, if_neg (by omega)]
            congr 1
            omega
        obtain ⟨T', r1, r2⟩ := ih (j + 1) (upd T (kc w j) (nI (tt A tab j))) (by omega) (fun i hi => by
          rw [upd_ap]
          by_cases e : i = kc w j
          · rw [if_pos e, e, eτ]
          · rw [if_neg e]; exact hT i (by omega))
        rw [ek] at r2
        refine ⟨T', r1, ?_⟩
        simp only [eX0_start_30, eX0_start_36, eX0_start_68, c2, if_false, ht, q5, ct, jB_s, jLW_T ht, hk3, gS_w _ (Ne.symm fBT), gS_f, nI_add, gS_c]
        exact r2
  have hk3 : kc w (tl A tab) ≤ 3 := by unfold kc; split <;> omega
  obtain ⟨p1, p2⟩ := p7 hk3
  obtain ⟨T', r1, r2⟩ := key (tl A tab) 0 (jm_u I (fB t) 7 (nI m) (fT t)) (Nat.zero_add _) (fun i hi => absurd hi (by unfold kc; split <;> omega))
  have k0 : kc w 0 = 0 := by unfold kc; rw [if_pos (by omega)]
  have e0 : jE n rX0_start 0 [.ref (fB t), .int (nI tab), .int wv, .int (nI m), .null] [] I L = jE n rX0_start 13 [.ref (fB t), .int (nI tab), .int wv, .int (nI m), .int (nI 0)] [] (gS (jm_u I (fB t) 7 (nI m)) (fT t) (jm_u I (fB t) 7 (nI m) (fT t)) (fB t) 5 (nI (kc w 0))) L := by
    have e1 : gS (jm_u I (fB t) 7 (nI m)) (fT t) (jm_u I (fB t) 7 (nI m) (fT t)) (fB t) 5 (nI (kc w 0)) = jm_u (jm_u I (fB t) 7 (nI m)) (fB t) 5 (nI 0) := by
      unfold gS
      rw [iA_0, k0]
    rw [e1]
    simp only [eX0_start_0, ht]
  generalize hI1 : gS (jm_u I (fB t) 7 (nI m)) (fT t) T' (fB t) 5 (nI (kc w (tl A tab))) = I1 at r2
  generalize hcc : kc w (tl A tab) = c at *
  have i5 : I1 (fB t) 5 = nI c := by rw [← hI1, gS_f]
  have i7 : I1 (fB t) 7 = nI m := by rw [← hI1, gS_b _ fBT _ _ (by decide), jm_u_eq, if_pos rfl]
  have iT : I1 (fT t) = T' := by rw [← hI1, gS_a _ (Ne.symm fBT)]
  have iX : ∀ a, a ≠ fB t → a ≠ fT t → I1 a = I a := fun a h1 h2 => by rw [← hI1, gS_at _ _ _ _ h2 h1, jm_u_ne _ _ _ h1]
  have i7c : I1 7 c = nI (7 ^ c) := by rw [iX 7 (by unfold fB; omega) (by unfold fT; omega)]; exact st_7 (E71_I hE hA) hk3
  have hc4 : c < 4 := by omega
  have sums : ∀ (d i : Nat), i + d = 7 ^ c → jE n rX0_start 89 [.ref (fB t), .int (nI tab), .int wv, .int (nI m), .int (nI i)] [] (jm_u I1 (fB t) 6 (nI (7 ^ c))) (jm_uA L (fS t) (abr (L (fS t)) (fun _ => 0) i)) = some (none, jS n (jm_u I1 (fB t) 6 (nI (7 ^ c))) (jm_uA L (fS t) (abr (L (fS t)) (fun _ => 0) (7 ^ c)))) := by
    have k6 : jm_u I1 (fB t) 6 (nI (7 ^ c)) (fB t) 6 = nI (7 ^ c) := by rw [jm_u_eq, if_pos rfl]
    intro d
    induction d with
    | zero =>
      intro i hi
      have : i = 7 ^ c := by omega
      subst this
      have cc : nI (7 ^ c) ≤ nI (7 ^ c) := Int32.le_refl _
      simp only [eX0_start_89, eX0_start_112, ht, k6, cc, if_true]
    | succ d ih =>
      intro i hi
      have hi2 : i < 7 ^ c := by omega
      have cc : ¬ nI (7 ^ c) ≤ nI i := nI_ge hi2 (by omega)
      have hi3 : i < 343 := by omega
      have hd0 : ∀ M, jE n rX0_start 89 [.ref (fB t), .int (nI tab), .int wv, .int (nI m), .int (nI i)] [] (jm_u I1 (fB t) 6 (nI (7 ^ c))) M = jE n rX0_start 98 [.ref (fB t), .int (nI tab), .int wv, .int (nI m), .int (nI i)] [] (jm_u I1 (fB t) 6 (nI (7 ^ c))) M := by
        intro M
        simp only [eX0_start_89, ht, k6, cc, if_false]
      rw [hd0]
      have ih2 := ih (i + 1) (by omega)
      rw [← abr_s] at ih2
      have l0 : lN 0 = lZ 0 := rfl
      simp only [eX0_start_98, ht, jLL_S ht, hi3, l0, uL_A, nI_add]
      exact ih2
  have s0 := sums (7 ^ c) 0 (Nat.zero_add _)
  rw [abr_0, lA_0] at s0
  refine ⟨jm_u I1 (fB t) 6 (nI (7 ^ c)), jm_uA L (fS t) (abr (L (fS t)) (fun _ => 0) (7 ^ c)), ?_, ?_, ?_⟩
  · refine ⟨fun a h1 h2 h3 => ?_, fun a h1 h2 => lA_ne _ _ h2⟩
    rw [jm_u_ne _ _ _ h1, iX a h1 h3]
  · refine ⟨?_, ?_, ?_, fun i hi => ?_, fun x hx => ?_⟩
    · rw [jm_u_eq, if_neg (by decide)]; exact i5
    · rw [jm_u_eq, if_pos rfl]
    · rw [jm_u_eq, if_neg (by decide)]; exact i7
    · rw [jm_u_ne _ _ _ (Ne.symm fBT), iT]; exact r1 i hi
    · rw [lA_eq]
      unfold abr
      rw [if_pos hx]
  · rw [e0, r2]
    simp only [eX0_start_74, ht, i5, jLI_t, jLW_t, jLL_t, jLZ_t, jLA_t, hc4, i7c]
    exact s0
theorem c_fitted (n : Nat) (I A : jm_I) (L : jm_L) (hA : Inv A) (hE : E71 I A) {tab w m : Nat} (wv : Int32) (set : Int64) (htab : tab < 8) (hm : m < 4) (hw : w ≤ 3) (hwv : ∀ j, j < 3 → (nI j = wv ↔ j = w)) : ∃ (I' : jm_I) (L' : jm_L), Fr tab I' I L' L ∧ Fitt I' L' tab (kc w (tl A tab)) (τw A tab w) m (fun x => zs A (τw A tab w) (kc w (tl A tab)) m set x (zN A)) ∧ jE n rX1_fitted 0 [.ref 71, .int (nI tab), .int wv, .int (nI m), .long set, .null, .null] [] I L = some (some (.ref (fB tab)), jS n I' L') := by
  obtain ⟨I1, L1, a1, a2, a3⟩ := c_start n I A L hA hE wv htab htab hm hw hwv
  have h3 := (Inv_tl hA htab).2
  have hk3 : kc w (tl A tab) ≤ 3 := by unfold kc; split <;> omega
  have hτ : ∀ i, i < kc w (tl A tab) → τw A tab w i ≤ 6 := by
    intro i hi
    unfold τw
    unfold kc at hi
    refine (Inv_tt hA htab ?_).2
    split at hi <;> split <;> omega
  obtain ⟨I2, L2, b1, b2, b3⟩ := c_addSet n A hA set htab hk3 hτ hm (zN A) 0 I1 L1 (Nat.zero_add _) (Fr_E a1 hE) a2
  refine ⟨I2, L2, Fr_t a1 b1, b2, ?_⟩
  have b4 : jE n rX0_addSet 0 [.ref (fB tab), .long set, .null, .null] [] I1 L1 = some (none, jS n I2 L2) := by
    simp only [eX0_addSet_0]
    exact b3
  simp only [eX1_fitted_0, htab, a3, jB_v, b4]
/-! the fit -/
abbrev tru : Nat → Prop := fun _ => True
def afit (G : Nat → Int) (c : Nat) : Nat := (amin G tru (7 ^ c)).getD 0
theorem afit_e (G : Nat → Int) {c : Nat} (hc : c ≤ 3) : amin G tru (7 ^ c) = some (afit G c) ∧ afit G c < 7 ^ c := by
  obtain ⟨p1, -⟩ := p7 hc
  obtain ⟨k, hk⟩ : ∃ k, 7 ^ c = k + 1 := ⟨7 ^ c - 1, by omega⟩
  obtain ⟨j, hj⟩ := amin_some (f := G) (ok := tru) (i := k) trivial
  have : afit G c = j := by unfold afit; rw [hk, hj]; rfl
  rw [this, hk, hj]
  exact ⟨rfl, (amin_s hj).1⟩
theorem c_fitTry (n : Nat) (I : jm_I) (L : jm_L) {t c m : Nat} {τ : Nat → Nat} {G : Nat → Int} (ht : t < 8) (hc : c ≤ 3) (hG : ∀ x, x < 7 ^ c → (G x).natAbs < 9000000000000000000) (hF : Fitt I L t c τ m G) : jE n rX0_fitTry 0 [.ref (fB t), .null, .null] [] I L = some (some (.int (nI (afit G c))), jS n I L) := by
  obtain ⟨p1, p2⟩ := p7 hc
  have key : ∀ (d i b : Nat), i + d = 7 ^ c → 1 ≤ i → amin G tru i = some b → jE n rX0_fitTry 4 [.ref (fB t), .int (nI b), .int (nI i)] [] I L = some (some (.int (nI (afit G c))), jS n I L) := by
    intro d
    induction d with
    | zero =>
      intro i b hi h1 hb
      have : i = 7 ^ c := by omega
      subst this
      have cc : nI (7 ^ c) ≤ nI (7 ^ c) := Int32.le_refl _
      have : afit G c = b := by have := (afit_e G hc).1; rw [hb] at this; exact (Option.some.inj this).symm
      rw [this]
      simp only [eX0_fitTry_4, eX0_fitTry_36, ht, hF.k6, cc, if_true]
    | succ d ih =>
      intro i b hi h1 hb
      have hi2 : i < 7 ^ c := by omega
      have cc : ¬ nI (7 ^ c) ≤ nI i := nI_ge hi2 (by omega)
      have hi3 : i < 343 := by omega
      have hbi := (amin_s hb).1
      have hb3 : b < 343 := by omega
      have hd0 : jE n rX0_fitTry 4 [.ref (fB t), .int (nI b), .int (nI i)] [] I L = jE n rX0_fitTry 12 [.ref (fB t), .int (nI b), .int (nI i)] [] I L := by
        simp only [eX0_fitTry_4, ht, hF.k6, cc, if_false]
      rw [hd0]
      have g1 := hG i hi2
      have g2 := hG b (by omega)
      have cm : lZ (G b) ≤ lZ (G i) ↔ G b ≤ G i := lZ_le ⟨by omega, by omega⟩ ⟨by omega, by omega⟩
      by_cases q : G i < G b
      · have c2 : ¬ lZ (G b) ≤ lZ (G i) := fun w => by have := cm.mp w; omega
        simp only [eX0_fitTry_12, eX0_fitTry_28, eX0_fitTry_30, ht, jLL_S ht, hi3, hb3, hF.kS i hi2, hF.kS b (by omega), c2, if_false, nI_add]
        exact ih (i + 1) i (by omega) (by omega) (amin_l trivial hb q)
      · have c2 : lZ (G b) ≤ lZ (G i) := cm.mpr (by omega)
        simp only [eX0_fitTry_12, eX0_fitTry_30, ht, jLL_S ht, hi3, hb3, hF.kS i hi2, hF.kS b (by omega), c2, if_true, nI_add]
        exact ih (i + 1) b (by omega) (by omega) (amin_g trivial hb q)
  simp only [eX0_fitTry_0]
  exact key (7 ^ c - 1) 1 0 (by omega) (Nat.le_refl _) (amin_0 trivial rfl)
def dg (c x i : Nat) : Nat := x / 7 ^ (c - 1 - i) % 7
def nrv (c x : Nat) : Nat → Nat
  | 0 => 0
  | i + 1 => nrv c x i + dg c x i * 7 ^ i
theorem nrv_rg (c x : Nat) : ∀ i, i ≤ 3 → nrv c x i < 343 := by
  intro i hi
  have h0 : dg c x 0 < 7 := Nat.mod_lt _ (by decide)
  have h1 : dg c x 1 < 7 := Nat.mod_lt _ (by decide)
  have h2 : dg c x 2 < 7 := Nat.mod_lt _ (by decide)
  rcases (show i = 0 ∨ i = 1 ∨ i = 2 ∨ i = 3 by omega) with rfl | rfl | rfl | rfl <;> simp only [nrv, Nat.pow_zero, Nat.reducePow] <;> omega
theorem c_digitOf (n : Nat) (I A : jm_I) (L : jm_L) (hA : Inv A) (hE : E71 I A) {t c x i : Nat} (ht : t < 8) (hc : c ≤ 3) (hi : i < c) (hx : x < 343) (k5 : I (fB t) 5 = nI c) : jE n rX0_digitOf 0 [.ref (fB t), .int (nI x), .int (nI i)] [] I L = some (some (.int (nI (dg c x i))), jS n I L) := by
  have e1 : nI c - nI 1 = nI (c - 1) := nI_sb (by omega)
  have e2 : nI (c - 1) - nI i = nI (c - 1 - i) := nI_sb (by omega)
  have hk : c - 1 - i < 4 := by omega
  have s7 := st_7 (E71_I hE hA) (show c - 1 - i ≤ 3 by omega)
  obtain ⟨p1, p2⟩ := p7 (show c - 1 - i ≤ 3 by omega)
  have nz : ¬ nI (7 ^ (c - 1 - i)) = 0 := fun q => by
    have := congrArg Int32.toInt q
    rw [nI_toInt (by omega), show (0 : Int32).toInt = 0 from by decide] at this
    omega
  have e3 : nI x / nI (7 ^ (c - 1 - i)) = nI (x / 7 ^ (c - 1 - i)) := pk_div (by omega) (by omega) (by omega)
  have hq : x / 7 ^ (c - 1 - i) ≤ x := Nat.div_le_self _ _
  have e4 : nI (x / 7 ^ (c - 1 - i)) - nI (x / 7 ^ (c - 1 - i)) / nI 7 * nI 7 = nI (dg c x i) := pk_rem (by omega) (by decide) (by decide)
  simp only [eX0_digitOf_0, ht, k5, e1, e2, jLI_t, jLW_t, jLL_t, jLZ_t, jLA_t, hk, s7, nz, not_false_eq_true, e3, nz7, e4]
theorem c_fitNumbers (n : Nat) (I A : jm_I) (L : jm_L) (hA : Inv A) (hE : E71 I A) {t c m : Nat} {τ : Nat → Nat} {G : Nat → Int} (ht : t < 8) (hc : c ≤ 3) (hG : ∀ x, x < 7 ^ c → (G x).natAbs < 9000000000000000000) (hF : Fitt I L t c τ m G) : jE n rX0_fitNumbers 0 [.ref (fB t), .null, .null, .null] [] I L = some (some (.int (nI (nrv c (afit G c) c))), jS n I L) := by
  have hb := (afit_e G hc).2
  obtain ⟨p1, p2⟩ := p7 hc
  have key : ∀ (d i : Nat), i + d = c → jE n rX0_fitNumbers 9 [.ref (fB t), .int (nI (afit G c)), .int (nI (nrv c (afit G c) i)), .int (nI i)] [] I L = some (some (.int (nI (nrv c (afit G c) c))), jS n I L) := by
    intro d
    induction d with
    | zero =>
      intro i hi
      have : i = c := by omega
      subst this
      have cc : nI i ≤ nI i := Int32.le_refl _
      simp only [eX0_fitNumbers_9, eX0_fitNumbers_38, ht, hF.k5, cc, if_true]
    | succ d ih =>
      intro i hi
      have hic : i < c := by omega
      have cc : ¬ nI c ≤ nI i := nI_ge hic (by omega)
      have hd0 : jE n rX0_fitNumbers 9 [.ref (fB t), .int (nI (afit G c)), .int (nI (nrv c (afit G c) i)), .int (nI i)] [] I L = jE n rX0_fitNumbers 17 [.ref (fB t), .int (nI (afit G c)), .int (nI (nrv c (afit G c) i)), .int (nI i)] [] I L := by
        simp only [eX0_fitNumbers_9, ht, hF.k5, cc, if_false]
      rw [hd0]
      have s7 := st_7 (E71_I hE hA) (show i ≤ 3 by omega)
      have hi4 : i < 4 := by omega
      simp only [eX0_fitNumbers_17, ht, c_digitOf n I A L hA hE ht hc hic (show afit G c < 343 by omega) hF.k5, jB_s, jLI_t, jLW_t, jLL_t, jLZ_t, jLA_t, hi4, s7, pk_mul, nI_add]
      exact ih (i + 1) (by omega)
  simp only [eX0_fitNumbers_0, ht, c_fitTry n I L ht hc hG hF, jB_s]
  exact key c 0 (Nat.zero_add _)
theorem c_leastSum (n : Nat) (I : jm_I) (L : jm_L) {t c m : Nat} {τ : Nat → Nat} {G : Nat → Int} (ht : t < 8) (hc : c ≤ 3) (hG : ∀ x, x < 7 ^ c → (G x).natAbs < 9000000000000000000) (hF : Fitt I L t c τ m G) : jE n rX0_leastSum 0 [.ref (fB t)] [] I L = some (some (.long (lZ (G (afit G c)))), jS n I L) := by
  have hb := (afit_e G hc).2
  obtain ⟨p1, p2⟩ := p7 hc
  have hx : afit G c < 343 := by omega
  simp only [eX0_leastSum_0, ht, c_fitTry n I L ht hc hG hF, jB_s, jLL_S ht, hx, hF.kS _ hb]
def zpr (A : jm_I) (c : Nat) : Int := (A 11 3).toInt * c
theorem zpr_rg {A : jm_I} (h : Inv A) {c : Nat} (hc : c ≤ 3) : 0 ≤ zpr A c ∧ zpr A c ≤ 29997 := by
  have r : rg (A 11 3) 0 9999 := (h 11 3 (by decide)).2.2.2.1 rfl
  have := r.1; have := r.2
  unfold zpr
  rcases (show c = 0 ∨ c = 1 ∨ c = 2 ∨ c = 3 by omega) with rfl | rfl | rfl | rfl <;> omega
theorem c_price (n : Nat) (I A : jm_I) (L : jm_L) (hE : E71 I A) {t c : Nat} (ht : t < 8) (hc : c ≤ 3) (k5 : I (fB t) 5 = nI c) : jE n rX0_price 0 [.ref (fB t)] [] I L = some (some (.long (lZ (zpr A c))), jS n I L) := by
  have ec : (nI c).toInt64 = lZ (c : Int) := by rw [nI_l (by omega)]; rfl
  simp only [eX0_price_0, ht, jLI_t, jLW_t, jLL_t, jLZ_t, jLA_t, show (3 : Nat) < 5 from by decide, hE 11 (by decide), k5, ec, toL, lZ_mul, zpr]
theorem c_score (n : Nat) (I A : jm_I) (L : jm_L) (hE : E71 I A) {t c m : Nat} {τ : Nat → Nat} {G : Nat → Int} (ht : t < 8) (hc : c ≤ 3) (hG : ∀ x, x < 7 ^ c → (G x).natAbs < 9000000000000000000) (hF : Fitt I L t c τ m G) : jE n rX0_score 0 [.ref (fB t)] [] I L = some (some (.long (lZ (G (afit G c) + zpr A c))), jS n I L) := by
  simp only [eX0_score_0, ht, c_leastSum n I L ht hc hG hF, jB_s, c_price n I A L hE ht hc hF.k5, lZ_add]
