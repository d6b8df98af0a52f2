/-! allMoons: the class -/
def zsl (A : jm_I) : Int := (A 11 4).toInt
theorem zsl_rg {A : jm_I} (h : Inv A) : 0 ≤ zsl A ∧ zsl A ≤ 999 := ((h 11 4 (by decide)).2.2.2.2 rfl : rg (A 11 4) 0 999)
theorem nI_and (a b : Nat) : nI a &&& nI b = nI (a &&& b) := by
  rw [← Int32.toBitVec_inj, Int32.toBitVec_and]
  show BitVec.ofNat 32 a &&& BitVec.ofNat 32 b = BitVec.ofNat 32 (a &&& b)
  apply BitVec.eq_of_getLsbD_eq
  intro i hi
  rw [BitVec.getLsbD_and, BitVec.getLsbD_ofNat, BitVec.getLsbD_ofNat, BitVec.getLsbD_ofNat, Nat.testBit_and]
  simp [hi]
theorem nI_or (a b : Nat) : nI a ||| nI b = nI (a ||| b) := by
  rw [← Int32.toBitVec_inj, Int32.toBitVec_or]
  show BitVec.ofNat 32 a ||| BitVec.ofNat 32 b = BitVec.ofNat 32 (a ||| b)
  apply BitVec.eq_of_getLsbD_eq
  intro i hi
  rw [BitVec.getLsbD_or, BitVec.getLsbD_ofNat, BitVec.getLsbD_ofNat, BitVec.getLsbD_ofNat, Nat.testBit_or]
  simp [hi]
def zmx (A : jm_I) (τ : Nat → Nat) (c m X : Nat) : Nat → Int
  | 0 => 0
  | s + 1 => @ite _ (zin A m (-1) s) (zinD A m (-1) s) (if zmx A τ c m X s < zab (zl A τ m s c X) then zab (zl A τ m s c X) else zmx A τ c m X s) (zmx A τ c m X s)
theorem zmx_t {A : jm_I} {τ : Nat → Nat} {c m X s : Nat} (h : zin A m (-1) s) : zmx A τ c m X (s + 1) = if zmx A τ c m X s < zab (zl A τ m s c X) then zab (zl A τ m s c X) else zmx A τ c m X s := by simp only [zmx, h, if_true]
theorem zmx_f {A : jm_I} {τ : Nat → Nat} {c m X s : Nat} (h : ¬ zin A m (-1) s) : zmx A τ c m X (s + 1) = zmx A τ c m X s := by simp only [zmx, h, if_false]
theorem zmx_rg {A : jm_I} (h : Inv A) (τ : Nat → Nat) {c m : Nat} (hc : c ≤ 3) (hm : m < 4) (X : Nat) : ∀ s, s ≤ 40 → 0 ≤ zmx A τ c m X s ∧ zmx A τ c m X s ≤ 3200000000 := by
  intro s
  induction s with
  | zero => intro _; exact ⟨Int.le_refl _, by show (0 : Int) ≤ _; omega⟩
  | succ s ih =>
    intro hs
    have h1 := ih (by omega)
    have h2 := zl_rg h τ hm (show s < 40 by omega) c X
    by_cases q : zin A m (-1) s
    · rw [zmx_t q]
      unfold zab
      split <;> omega
    · rw [zmx_f q]; exact h1
theorem zmx_le {A : jm_I} {τ : Nat → Nat} {c m X : Nat} {σ : Int} (hσ : 0 ≤ σ) : ∀ s, zmx A τ c m X s ≤ σ ↔ ∀ s', s' < s → zin A m (-1) s' → zab (zl A τ m s' c X) ≤ σ := by
  intro s
  induction s with
  | zero => exact ⟨fun _ s' h => absurd h (by omega), fun _ => hσ⟩
  | succ s ih =>
    by_cases q : zin A m (-1) s
    · rw [zmx_t q]
      constructor
      · intro h s' hs' hz
        have h1 : zmx A τ c m X s ≤ σ ∧ zab (zl A τ m s c X) ≤ σ := by
          split at h <;> exact ⟨by omega, by omega⟩
        by_cases e : s' = s
        · subst e; exact h1.2
        · exact ih.mp h1.1 s' (by omega) hz
      · intro h
        have h1 := ih.mpr (fun s' hs' hz => h s' (by omega) hz)
        have h2 := h s (by omega) q
        split <;> omega
    · rw [zmx_f q, ih]
      constructor
      · intro h s' hs' hz
        by_cases e : s' = s
        · subst e; exact absurd hz q
        · exact h s' (by omega) hz
      · intro h s' hs' hz; exact h s' (by omega) hz
theorem c_bw_max (n : Nat) (I A : jm_I) (L : jm_L) (hA : Inv A) (hE : E71 I A) {t c m s : Nat} {τ : Nat → Nat} {G : Nat → Int} (ht : t < 8) (hc : c ≤ 3) (hτ : ∀ i, i < c → τ i ≤ 6) (hm : m < 4) (hs : s < 40) (hG : ∀ x, (G x).natAbs ≤ 3200000000) (hF : Fitt I L t c τ m G) (v1 v2 : Value) : ∃ (H : Nat → Int32) (f g : Nat → Int64), (∀ x, x < 7 ^ c → g x = lZ (if G x < zab (zl A τ m s c x) then zab (zl A τ m s c x) else G x)) ∧ jE n rX0_bitsWithin 37 [.ref (fB t), v1, v2, .int (nI s), .null] [] I L = jE n rX0_bitsWithin 87 [.ref (fB t), v1, v2, .int (nI s), .int (nI (7 ^ c))] [] (jm_uA I (fH t) H) (jm_uA (jm_uA L 74 f) (fS t) g) ∧ ∀ v4 : Int32, jE n rX0_bitsWithin 37 [.ref (fB t), v1, v2, .int (nI s), .int v4] [] I L = jE n rX0_bitsWithin 87 [.ref (fB t), v1, v2, .int (nI s), .int (nI (7 ^ c))] [] (jm_uA I (fH t) H) (jm_uA (jm_uA L 74 f) (fS t) g) := by
  obtain ⟨H, f, hf, hsp⟩ := c_spread n I A L hA hE ht hc hτ hm hs hF
  obtain ⟨p1, p2⟩ := p7 hc
  have hz := zl_rg hA τ hm hs c
  have k6 : jm_uA I (fH t) H (fB t) 6 = nI (7 ^ c) := by rw [jm_uA_ne _ _ fBH]; exact hF.k6
  have key : ∀ (d i : Nat), i + d = 7 ^ c → jE n rX0_bitsWithin 45 [.ref (fB t), v1, v2, .int (nI s), .int (nI i)] [] (jm_uA I (fH t) H) (jm_uA (jm_uA L 74 f) (fS t) (abr (L (fS t)) (fun x => if G x < zab (zl A τ m s c x) then zab (zl A τ m s c x) else G x) i)) = jE n rX0_bitsWithin 87 [.ref (fB t), v1, v2, .int (nI s), .int (nI (7 ^ c))] [] (jm_uA I (fH t) H) (jm_uA (jm_uA L 74 f) (fS t) (abr (L (fS t)) (fun x => if G x < zab (zl A τ m s c x) then zab (zl A τ m s c x) else G x) (7 ^ c))) := by
    intro d
    induction d with
    | zero =>
      intro i hi
      have : i = 7 ^ c := by omega
      subst this
      have cc : nI (7 ^ c) ≤ nI (7 ^ c) := Int32.le_refl _
      simp only [eX0_bitsWithin_45, ht, k6, cc, if_true]
    | succ d ih =>
      intro i hi
      have hi2 : i < 7 ^ c := by omega
      have cc : ¬ nI (7 ^ c) ≤ nI i := nI_ge hi2 (by omega)
      have hi3 : i < 343 := by omega
      have hd0 : ∀ M, jE n rX0_bitsWithin 45 [.ref (fB t), v1, v2, .int (nI s), .int (nI i)] [] (jm_uA I (fH t) H) M = jE n rX0_bitsWithin 54 [.ref (fB t), v1, v2, .int (nI s), .int (nI i)] [] (jm_uA I (fH t) H) M := by
        intro M
        simp only [eX0_bitsWithin_45, ht, k6, cc, if_false]
      rw [hd0]
      have q1 : jm_uA (jm_uA L 74 f) (fS t) (abr (L (fS t)) (fun x => if G x < zab (zl A τ m s c x) then zab (zl A τ m s c x) else G x) i) (fS t) i = lZ (G i) := by
        rw [lA_eq]
        unfold abr
        rw [if_neg (by omega)]
        exact hF.kS i hi2
      have q2 : jm_uA (jm_uA L 74 f) (fS t) (abr (L (fS t)) (fun x => if G x < zab (zl A τ m s c x) then zab (zl A τ m s c x) else G x) i) 74 i = lZ (zl A τ m s c i) := by
        rw [lA_ne _ _ (Ne.symm fS74), lA_eq]
        exact hf i hi2
      have hzi := hz i
      have ea : (if 0 < lZ (zl A τ m s c i) then lZ (zl A τ m s c i) else -lZ (zl A τ m s c i)) = lZ (zab (zl A τ m s c i)) := labs (by omega)
      have em := emx (x := G i) (y := zab (zl A τ m s c i)) (by have := hG i; omega) (by unfold zab; omega)
      have ih2 := ih (i + 1) (by omega)
      rw [← abr_s] at ih2
      simp only [eX0_bitsWithin_54, ht, jLI_t, jLW_t, jLL_t, jLZ_t, jLA_t, hi3, jLL_S ht, q1, q2, ea, em, uL_A, nI_add]
      exact ih2
  have k0 := key (7 ^ c) 0 (Nat.zero_add _)
  rw [abr_0] at k0
  have e0 : jm_uA (jm_uA L 74 f) (fS t) (L (fS t)) = jm_uA L 74 f := by
    have := lA_0 (jm_uA L 74 f) (fS t)
    rwa [lA_ne _ _ fS74] at this
  rw [e0] at k0
  refine ⟨H, f, abr (L (fS t)) (fun x => if G x < zab (zl A τ m s c x) then zab (zl A τ m s c x) else G x) (7 ^ c), fun x hx => ?_, ?_, fun v4 => ?_⟩
  · unfold abr
    rw [if_pos hx]
  · simp only [eX0_bitsWithin_37, ht, hsp, jB_v]
    exact k0
  · simp only [eX0_bitsWithin_37, ht, hsp, jB_v]
    exact k0
theorem c_bw_s (n : Nat) (A : jm_I) (hA : Inv A) {t c m : Nat} {τ : Nat → Nat} (ht : t < 8) (hc : c ≤ 3) (hτ : ∀ i, i < c → τ i ≤ 6) (hm : m < 4) (v1 : Value) (w2 : Int32) : ∀ (d s : Nat) (I : jm_I) (L : jm_L) (v4 : Value), (v4 = .null ∨ ∃ w : Int32, v4 = .int w) → s + d = zN A → E71 I A → Fitt I L t c τ m (fun X => zmx A τ c m X s) → ∃ (I' : jm_I) (L' : jm_L) (w4 : Value), Fr t I' I L' L ∧ Fitt I' L' t c τ m (fun X => zmx A τ c m X (zN A)) ∧ jE n rX0_bitsWithin 2 [.ref (fB t), v1, .int w2, .int (nI s), v4] [] I L = jE n rX0_bitsWithin 93 [.ref (fB t), v1, .int w2, .int (nI (zN A)), w4] [] I' L' := by
  obtain ⟨e8, hN⟩ := Inv_N hA
  intro d
  induction d with
  | zero =>
    intro s I L v4 hv hs hE hF
    have : s = zN A := by omega
    subst this
    have eI : I 26 8 = nI (zN A) := by rw [hE 26 (by decide)]; exact e8
    have cc : nI (zN A) ≤ nI (zN A) := Int32.le_refl _
    refine ⟨I, L, v4, Fr_0 t I L, hF, ?_⟩
    simp only [eX0_bitsWithin_2, ht, eI, cc, if_true]
  | succ d ih =>
    intro s I L v4 hv hs hE hF
    have hs4 : s < 40 := by omega
    have eI : I 26 8 = nI (zN A) := by rw [hE 26 (by decide)]; exact e8
    have cc : ¬ nI (zN A) ≤ nI s := nI_ge (by omega) (by omega)
    have ci := c_isIn n I L (m := m) (-1) hs4
    have hd0 : jE n rX0_bitsWithin 2 [.ref (fB t), v1, .int w2, .int (nI s), v4] [] I L = jE n rX0_bitsWithin 16 [.ref (fB t), v1, .int w2, .int (nI s), v4] [] I L := by
      simp only [eX0_bitsWithin_2, ht, eI, cc, if_false]
    by_cases q : zin A m (-1) s
    · rw [if_pos ((E_zin hE m (-1) s).mpr q)] at ci
      have hb := zmx_rg hA τ hc hm
      obtain ⟨H, f, g, hg, r0, r1⟩ := c_bw_max n I A L hA hE ht hc hτ hm hs4 (fun x => by have := hb x s (by omega); omega) hF v1 (.int w2)
      have r2 : jE n rX0_bitsWithin 37 [.ref (fB t), v1, .int w2, .int (nI s), v4] [] I L = jE n rX0_bitsWithin 87 [.ref (fB t), v1, .int w2, .int (nI s), .int (nI (7 ^ c))] [] (jm_uA I (fH t) H) (jm_uA (jm_uA L 74 f) (fS t) g) := by
        rcases hv with e | ⟨w, e⟩
        · rw [e]; exact r0
        · rw [e]; exact r1 w
      have fr := Fr_a t I L H f g
      have hF2 : Fitt (jm_uA I (fH t) H) (jm_uA (jm_uA L 74 f) (fS t) g) t c τ m (fun X => zmx A τ c m X (s + 1)) := Fitt_a hF H f g (fun x hx => by rw [hg x hx, zmx_t q])
      obtain ⟨I', L', w4, q1, q2, q3⟩ := ih (s + 1) _ _ (.int (nI (7 ^ c))) (Or.inr ⟨_, rfl⟩) (by omega) (Fr_E fr hE) hF2
      refine ⟨I', L', w4, Fr_t fr q1, q2, ?_⟩
      rw [hd0]
      simp only [eX0_bitsWithin_16, ht, hF.k7, ci, jB_s, n10, if_false]
      rw [r2]
      simp only [eX0_bitsWithin_87, nI_add]
      exact q3
    · rw [if_neg (fun w => q ((E_zin hE m (-1) s).mp w))] at ci
      have hF2 : Fitt I L t c τ m (fun X => zmx A τ c m X (s + 1)) := by
        have : (fun X => zmx A τ c m X (s + 1)) = (fun X => zmx A τ c m X s) := by funext X; exact zmx_f q
        rw [this]; exact hF
      obtain ⟨I', L', w4, q1, q2, q3⟩ := ih (s + 1) I L v4 hv (by omega) hE hF2
      refine ⟨I', L', w4, q1, q2, ?_⟩
      rw [hd0]
      simp only [eX0_bitsWithin_16, eX0_bitsWithin_87, ht, hF.k7, ci, jB_s, n00t, if_true, nI_add]
      exact q3
theorem tor {b d q : Nat} : (b ||| 2 ^ d).testBit q = true ↔ b.testBit q = true ∨ q = d := by
  rw [Nat.testBit_or, Nat.testBit_two_pow]
  rw [Bool.or_eq_true, decide_eq_true_iff]
  constructor
  · rintro (h | h)
    · exact Or.inl h
    · exact Or.inr h.symm
  · rintro (h | h)
    · exact Or.inl h
    · exact Or.inr h.symm
theorem c_bw_b (n : Nat) (I A : jm_I) (L : jm_L) (hA : Inv A) (hE : E71 I A) {t c m p : Nat} {τ : Nat → Nat} {G : Nat → Int} (ht : t < 8) (hc : c ≤ 3) (hp : p < c) (hG : ∀ x, (G x).natAbs ≤ 3200000000) (hF : Fitt I L t c τ m G) : ∀ (d X b : Nat), X + d = 7 ^ c → b < 128 → (∀ q, q < 7 → (b.testBit q = true ↔ ∃ Y, Y < X ∧ dg c Y p = q ∧ G Y ≤ zsl A)) → ∃ b', b' < 128 ∧ (∀ q, q < 7 → (b'.testBit q = true ↔ ∃ Y, Y < 7 ^ c ∧ dg c Y p = q ∧ G Y ≤ zsl A)) ∧ jE n rX0_bitsWithin 98 [.ref (fB t), .int (iZ (zsl A)), .int (nI p), .int (nI b), .int (nI X)] [] I L = some (some (.int (nI b')), jS n I L) := by
  obtain ⟨p1, p2⟩ := p7 hc
  have hσ := zsl_rg hA
  have el : (iZ (zsl A)).toInt64 = lZ (zsl A) := iZ_l (by omega) (by omega)
  intro d
  induction d with
  | zero =>
    intro X b hX hb h
    have : X = 7 ^ c := by omega
    subst this
    have cc : nI (7 ^ c) ≤ nI (7 ^ c) := Int32.le_refl _
    refine ⟨b, hb, h, ?_⟩
    simp only [eX0_bitsWithin_98, eX0_bitsWithin_138, ht, hF.k6, cc, if_true]
  | succ d ih =>
    intro X b hX hb h
    have hX2 : X < 7 ^ c := by omega
    have hX3 : X < 343 := by omega
    have cc : ¬ nI (7 ^ c) ≤ nI X := nI_ge hX2 (by omega)
    have hd0 : jE n rX0_bitsWithin 98 [.ref (fB t), .int (iZ (zsl A)), .int (nI p), .int (nI b), .int (nI X)] [] I L = jE n rX0_bitsWithin 107 [.ref (fB t), .int (iZ (zsl A)), .int (nI p), .int (nI b), .int (nI X)] [] I L := by
      simp only [eX0_bitsWithin_98, ht, hF.k6, cc, if_false]
    have q1 := hF.kS X hX2
    have hGX := hG X
    have hcm : lZ (zsl A) < lZ (G X) ↔ zsl A < G X := lZ_lt ⟨by omega, by omega⟩ ⟨by omega, by omega⟩
    by_cases hg : zsl A < G X
    · obtain ⟨b', r1, r2, r3⟩ := ih (X + 1) b (by omega) hb (fun q hq => by
        rw [h q hq]
        constructor
        · rintro ⟨Y, y1, y2, y3⟩; exact ⟨Y, by omega, y2, y3⟩
        · rintro ⟨Y, y1, y2, y3⟩
          refine ⟨Y, ?_, y2, y3⟩
          by_cases e : Y = X
          · subst e; omega
          · omega)
      refine ⟨b', r1, r2, ?_⟩
      have hc2 := hcm.mpr hg
      rw [hd0]
      simp only [eX0_bitsWithin_107, eX0_bitsWithin_132, ht, jLI_t, jLW_t, jLL_t, jLZ_t, jLA_t, jLL_S ht, hX3, q1, el, hc2, if_true, nI_add]
      exact r3
    · have hc2 : ¬ lZ (zsl A) < lZ (G X) := fun w => hg (hcm.mp w)
      have hd7 : dg c X p < 7 := Nat.mod_lt _ (by decide)
      have cd := c_digitOf n I A L hA hE ht hc hp hX3 hF.k5
      have es := shl_N (show dg c X p ≤ 12 by omega)
      have hb2 : b ||| 2 ^ dg c X p < 128 := Nat.or_lt_two_pow (n := 7) hb (Nat.pow_lt_pow_right (by decide) hd7)
      obtain ⟨b', r1, r2, r3⟩ := ih (X + 1) (b ||| 2 ^ dg c X p) (by omega) hb2 (fun q hq => by
        rw [tor, h q hq]
        constructor
        · rintro (⟨Y, y1, y2, y3⟩ | e)
          · exact ⟨Y, by omega, y2, y3⟩
          · exact ⟨X, by omega, e.symm, by omega⟩
        · rintro ⟨Y, y1, y2, y3⟩
          by_cases e : Y = X
          · subst e; exact Or.inr y2.symm
          · exact Or.inl ⟨Y, by omega, y2, y3⟩)
      refine ⟨b', r1, r2, ?_⟩
      rw [hd0]
      simp only [eX0_bitsWithin_107, eX0_bitsWithin_120, eX0_bitsWithin_132, ht, jLI_t, jLW_t, jLL_t, jLZ_t, jLA_t, jLL_S ht, hX3, q1, el, hc2, if_false, cd, jB_s, es, nI_or, nI_add]
      exact r3
/-- a number of the term at a place that leaves no sight of a moon more than the slack -/
def aE (A : jm_I) (t m p q : Nat) : Prop := ∃ X, X < 7 ^ fc A t ∧ dg (fc A t) X p = q ∧ ∀ s, s < zN A → zin A m (-1) s → zab (zl A (fτ A t) m s (fc A t) X) ≤ zsl A
theorem c_bitsW (n : Nat) (I A : jm_I) (L : jm_L) (hA : Inv A) (hE : E71 I A) {t m p : Nat} (ht : t < 8) (hm : m < 4) (hp : p < fc A t) (hF : Fitt I L t (fc A t) (fτ A t) m (fun _ => 0)) : ∃ (I' : jm_I) (L' : jm_L) (b : Nat), Fr t I' I L' L ∧ b < 128 ∧ (∀ q, q < 7 → (b.testBit q = true ↔ aE A t m p q)) ∧ jE n rX0_bitsWithin 0 [.ref (fB t), .int (iZ (zsl A)), .int (nI p), .null, .null] [] I L = some (some (.int (nI b)), jS n I' L') := by
  have hc := (fc_e hA ht).2
  have hN := (Inv_N hA).2
  obtain ⟨I', L', w4, r1, r2, r3⟩ := c_bw_s n A hA (τ := fτ A t) ht hc (fτ_6 hA ht) hm (.int (iZ (zsl A))) (nI p) (zN A) 0 I L .null (Or.inl rfl) (Nat.zero_add _) hE hF
  obtain ⟨b, q1, q2, q3⟩ := c_bw_b n I' A L' hA (Fr_E r1 hE) ht hc hp (fun x => by have := zmx_rg hA (fτ A t) hc hm x (zN A) hN; omega) r2 (7 ^ fc A t) 0 0 (Nat.zero_add _) (by decide) (fun q _ => by
    constructor
    · intro h; rw [Nat.zero_testBit] at h; exact absurd h (by decide)
    · rintro ⟨Y, h, -⟩; omega)
  refine ⟨I', L', b, r1, q1, fun q hq => ?_, ?_⟩
  · rw [q2 q hq]
    unfold aE
    constructor
    · rintro ⟨Y, y1, y2, y3⟩; exact ⟨Y, y1, y2, (zmx_le (zsl_rg hA).1 (zN A)).mp y3⟩
    · rintro ⟨Y, y1, y2, y3⟩; exact ⟨Y, y1, y2, (zmx_le (zsl_rg hA).1 (zN A)).mpr y3⟩
  · simp only [eX0_bitsWithin_0]
    rw [r3]
    simp only [eX0_bitsWithin_93]
    exact q3
theorem c_light_l (n : Nat) (A : jm_I) (hA : Inv A) {t p : Nat} (ht : t < 8) (hp : p < fc A t) : ∀ (d m b : Nat) (I : jm_I) (L : jm_L), m + d = 4 → E71 I A → b < 128 → (∀ q, q < 7 → (b.testBit q = true ↔ ∀ m', m' < m → ¬ A 13 m' = 0 → aE A t m' p q)) → ∃ (I' : jm_I) (L' : jm_L) (b' : Nat), FrJ I' I ∧ b' < 128 ∧ (∀ q, q < 7 → (b'.testBit q = true ↔ ∀ m', m' < 4 → ¬ A 13 m' = 0 → aE A t m' p q)) ∧ jE n rX1_lightOfAll 19 [.ref 71, .int (nI t), .int (nI p), .int (nI b), .int (nI m)] [] I L = some (some (.int (nI b')), jS n I' L') := by
  have hc := (fc_e hA ht).2
  intro d
  induction d with
  | zero =>
    intro m b I L hm hE hb h
    have : m = 4 := by omega
    subst this
    have cc : nI 4 ≤ nI 4 := Int32.le_refl _
    refine ⟨I, L, b, FrJ_0 I, hb, h, ?_⟩
    simp only [eX1_lightOfAll_19, eX1_lightOfAll_82, cc, if_true]
  | succ d ih =>
    intro m b I L hm hE hb h
    have hm4 : m < 4 := by omega
    have cc : ¬ nI 4 ≤ nI m := nI_ge hm4 (by decide)
    have hd0 : jE n rX1_lightOfAll 19 [.ref 71, .int (nI t), .int (nI p), .int (nI b), .int (nI m)] [] I L = jE n rX1_lightOfAll 25 [.ref 71, .int (nI t), .int (nI p), .int (nI b), .int (nI m)] [] I L := by
      simp only [eX1_lightOfAll_19, cc, if_false]
    have e13 : I 13 m = A 13 m := by rw [hE 13 (by decide)]
    by_cases h0 : A 13 m = 0
    · obtain ⟨I', L', b', r1, r2, r3, r4⟩ := ih (m + 1) b I L (by omega) hE hb (fun q hq => by
        rw [h q hq]
        constructor
        · intro g m' hm' hne
          by_cases e : m' = m
          · subst e; exact absurd h0 hne
          · exact g m' (by omega) hne
        · intro g m' hm' hne; exact g m' (by omega) hne)
      refine ⟨I', L', b', r1, r2, r3, ?_⟩
      rw [hd0]
      simp only [eX1_lightOfAll_25, eX1_lightOfAll_76, jLI_t, jLW_t, jLL_t, jLZ_t, jLA_t, hm4, e13, h0, if_true, nI_add]
      exact r4
    · obtain ⟨I1, L1, a1, a2, a3⟩ := c_start n I A L hA hE (t := t) (tab := t) (w := 3) (-1) ht ht hm4 (Nat.le_refl _) w3
      have hE1 := Fr_E a1 hE
      obtain ⟨I2, L2, bb, c1, c2, c3, c4⟩ := c_bitsW n I1 A L1 hA hE1 ht hm4 hp a2
      have fr := Fr_t a1 c1
      have hb2 : b &&& bb < 128 := Nat.lt_of_le_of_lt Nat.and_le_left hb
      obtain ⟨I', L', b', r1, r2, r3, r4⟩ := ih (m + 1) (b &&& bb) I2 L2 (by omega) (Fr_E fr hE) hb2 (fun q hq => by
        rw [Nat.testBit_and, Bool.and_eq_true, h q hq, c3 q hq]
        constructor
        · rintro ⟨g1, g2⟩ m' hm' hne
          by_cases e : m' = m
          · subst e; exact g2
          · exact g1 m' (by omega) hne
        · intro g; exact ⟨fun m' hm' hne => g m' (by omega) hne, g m (by omega) h0⟩)
      refine ⟨I', L', b', FrJ_t (FrJ_F ht fr) r1, r2, r3, ?_⟩
      have e11 : I1 11 4 = iZ (zsl A) := by rw [hE1 11 (by decide)]; exact i32 _
      have n45 : (4 : Nat) < 5 := by decide
      rw [hd0]
      simp only [eX1_lightOfAll_25, eX1_lightOfAll_41, eX1_lightOfAll_76, jLI_t, jLW_t, jLL_t, jLZ_t, jLA_t, hm4, e13, h0, if_false, ht, a3, jB_v, n45, e11, c4, jB_s, nI_and, nI_add]
      exact r4
theorem c_place (n : Nat) (I A : jm_I) (L : jm_L) (hA : Inv A) (hE : E71 I A) {t : Nat} (ht : t < 8) : ∃ r : Int32, ((r = -1 ∧ ∀ i, i < tl A t → ¬ tt A t i = 2) ∨ ∃ p, p < tl A t ∧ r = nI p ∧ tt A t p = 2) ∧ jE n rX4_placeOf 0 [.ref 35, .int (nI t), .int (nI 2), .null] [] I L = some (some (.int r), jS n I L) := by
  have hI := E71_I hE hA
  obtain ⟨e37, h3⟩ := Inv_tl hA ht
  have f37 : I 37 t = nI (tl A t) := by rw [hE 37 (by decide)]; exact e37
  have key : ∀ (d i : Nat), i + d = tl A t → (∀ j, j < i → ¬ tt A t j = 2) → ∃ r : Int32, ((r = -1 ∧ ∀ i, i < tl A t → ¬ tt A t i = 2) ∨ ∃ p, p < tl A t ∧ r = nI p ∧ tt A t p = 2) ∧ jE n rX4_placeOf 2 [.ref 35, .int (nI t), .int (nI 2), .int (nI i)] [] I L = some (some (.int r), jS n I L) := by
    intro d
    induction d with
    | zero =>
      intro i hi h
      have : i = tl A t := by omega
      subst this
      have cc : nI (tl A t) ≤ nI (tl A t) := Int32.le_refl _
      refine ⟨-1, Or.inl ⟨rfl, h⟩, ?_⟩
      simp only [eX4_placeOf_2, eX4_placeOf_30, jLI_t, jLW_t, jLL_t, jLZ_t, jLA_t, ht, f37, cc, if_true]
    | succ d ih =>
      intro i hi h
      have cc : ¬ nI (tl A t) ≤ nI i := nI_ge (by omega) (by omega)
      have ct := c_termOf n I L hI ht (show i < 3 by omega)
      rw [E_tt hE] at ct
      have hd0 : jE n rX4_placeOf 2 [.ref 35, .int (nI t), .int (nI 2), .int (nI i)] [] I L = jE n rX4_placeOf 12 [.ref 35, .int (nI t), .int (nI 2), .int (nI i)] [] I L := by
        simp only [eX4_placeOf_2, jLI_t, jLW_t, jLL_t, jLZ_t, jLA_t, ht, f37, cc, if_false]
      have h6 := (Inv_tt hA ht (show i < 3 by omega)).2
      by_cases e : tt A t i = 2
      · refine ⟨nI i, Or.inr ⟨i, by omega, rfl, e⟩, ?_⟩
        rw [hd0]
        simp only [eX4_placeOf_12, eX4_placeOf_22, ct, jB_s, e, not_true_eq_false, if_false]
      · obtain ⟨r, r1, r2⟩ := ih (i + 1) (by omega) (fun j hj => by
          by_cases e2 : j = i
          · rw [e2]; exact e
          · exact h j (by omega))
        refine ⟨r, r1, ?_⟩
        have hn : ¬ nI (tt A t i) = nI 2 := fun w => e ((nI_inj (by omega) (by decide)).mp w)
        rw [hd0]
        simp only [eX4_placeOf_12, eX4_placeOf_24, ct, jB_s, hn, not_false_eq_true, if_true, nI_add]
        exact r2
  obtain ⟨r, r1, r2⟩ := key (tl A t) 0 (Nat.zero_add _) (fun j hj => absurd hj (by omega))
  refine ⟨r, r1, ?_⟩
  simp only [eX4_placeOf_0]
  exact r2
