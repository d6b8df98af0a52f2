/-! the model's fit -/
abbrev FrM (K J : jm_I) : Prop := (∀ a, a ≠ 111 → a ≠ 138 → a ≠ 139 → K a = J a) ∧ (∀ j, j ≠ 35 → j ≠ 36 → K 111 j = J 111 j)
theorem FrM.m1 {K J : jm_I} (h : FrM K J) : ∀ a, a ≠ 111 → a ≠ 138 → a ≠ 139 → K a = J a := h.1
theorem FrM.m2 {K J : jm_I} (h : FrM K J) : ∀ j, j ≠ 35 → j ≠ 36 → K 111 j = J 111 j := h.2
theorem FrM_0 (J : jm_I) : FrM J J := ⟨fun _ _ _ _ => rfl, fun _ _ _ => rfl⟩
theorem FrM_t {J K M : jm_I} (h : FrM K J) (g : FrM M K) : FrM M J := ⟨fun a p q r => (g.m1 a p q r).trans (h.m1 a p q r), fun j p q => (g.m2 j p q).trans (h.m2 j p q)⟩
/-- the model's cells that calls may use as they will -/
abbrev FrS (K J : jm_I) : Prop := (∀ a, a < 111 → K a = J a) ∧ (∀ a, 111 < a → a ≠ 134 → a ≠ 135 → a ≠ 138 → a ≠ 139 → a ≠ 142 → K a = J a) ∧ (∀ j, j ≠ 35 → j ≠ 36 → K 111 j = J 111 j) ∧ (∀ j, j < 64 → K 134 j = J 134 j) ∧ (∀ j, j < 8 → K 135 j = J 135 j)
theorem FrS.s0 {K J : jm_I} (h : FrS K J) : ∀ a, a < 111 → K a = J a := h.1
theorem FrS.s1 {K J : jm_I} (h : FrS K J) : ∀ a, 111 < a → a ≠ 134 → a ≠ 135 → a ≠ 138 → a ≠ 139 → a ≠ 142 → K a = J a := h.2.1
theorem FrS.s2 {K J : jm_I} (h : FrS K J) : ∀ j, j ≠ 35 → j ≠ 36 → K 111 j = J 111 j := h.2.2.1
theorem FrS.s3 {K J : jm_I} (h : FrS K J) : ∀ j, j < 64 → K 134 j = J 134 j := h.2.2.2.1
theorem FrS.s4 {K J : jm_I} (h : FrS K J) : ∀ j, j < 8 → K 135 j = J 135 j := h.2.2.2.2
theorem FrM_S {K J : jm_I} (h : FrM K J) : FrS K J := ⟨fun a ha => h.m1 a (by omega) (by omega) (by omega), fun a h1 _ _ h4 h5 _ => h.m1 a (by omega) h4 h5, h.m2, fun j _ => by rw [h.m1 134 (by decide) (by decide) (by decide)], fun j _ => by rw [h.m1 135 (by decide) (by decide) (by decide)]⟩
theorem FrS_0 (J : jm_I) : FrS J J := FrM_S (FrM_0 J)
theorem FrS_t {J K M : jm_I} (h : FrS K J) (g : FrS M K) : FrS M J := ⟨fun a p => (g.s0 a p).trans (h.s0 a p), fun a p q r s t u => (g.s1 a p q r s t u).trans (h.s1 a p q r s t u), fun j p q => (g.s2 j p q).trans (h.s2 j p q), fun j p => (g.s3 j p).trans (h.s3 j p), fun j p => (g.s4 j p).trans (h.s4 j p)⟩
theorem Mod_fr {J K A : jm_I} (hA : Inv A) (hM : Mod J A) (h : FrS K J) : Mod K A := by
  obtain ⟨h1, h2, h3⟩ := hM
  have hT := (Inv_T hA).2
  refine ⟨fun a j => ?_, fun a j => ?_, fun q a j => ?_⟩
  · by_cases e : a = 111
    · subst e
      refine ⟨fun e => ?_, fun e => ?_⟩
      · subst e; rw [h.s2 20 (by decide) (by decide)]; exact (h1 111 20).1 rfl
      · subst e; rw [h.s2 29 (by decide) (by decide)]; exact (h1 111 29).2 rfl
    · by_cases e4 : a = 134
      · subst e4
        intro t i e ht hi
        have := len3 hA (show t < 8 by omega)
        rw [h.s3 j (by omega)]
        exact h1 134 j t i e ht hi
      · by_cases e5 : a = 135
        · subst e5
          intro ht
          rw [h.s4 j (by omega)]
          exact h1 135 j ht
        · by_cases ha : 111 < a ∧ a ≠ 138 ∧ a ≠ 139 ∧ a ≠ 142
          · rw [h.s1 a ha.1 e4 e5 ha.2.1 ha.2.2.1 ha.2.2.2]
            exact h1 a j
          · unfold modW
            split <;> first | omega | trivial
  · by_cases e : a = 111
    · subst e
      have q := h2 111 j
      refine ⟨fun e => ?_, fun e => ?_, fun e => ?_⟩
      · subst e; rw [h.s2 22 (by decide) (by decide)]; exact q.1 rfl
      · subst e; rw [h.s2 28 (by decide) (by decide)]; exact q.2.1 rfl
      · subst e; rw [h.s2 41 (by decide) (by decide)]; exact q.2.2 rfl
    · by_cases ha : a = 112 ∨ a = 120 ∨ a = 132 ∨ a = 133
      · rw [h.s1 a (by omega) (by omega) (by omega) (by omega) (by omega) (by omega)]
        exact h2 a j
      · unfold modX
        split <;> first | omega | trivial
  · have e : kV K a j = kV J a j := by
      unfold kV
      rw [h.s1 144 (by decide) (by decide) (by decide) (by decide) (by decide) (by decide)]
    rw [e]
    exact h3 q a j
/-- how many of a set's sights are before one -/
def mc (A : jm_I) (m : Nat) (set : Int64) : Nat → Nat
  | 0 => 0
  | s + 1 => @ite _ (zin A m set s) (zinD A m set s) (mc A m set s + 1) (mc A m set s)
theorem mc_t {A : jm_I} {m : Nat} {set : Int64} {s : Nat} (h : zin A m set s) : mc A m set (s + 1) = mc A m set s + 1 := by simp only [mc, h, if_true]
theorem mc_f {A : jm_I} {m : Nat} {set : Int64} {s : Nat} (h : ¬ zin A m set s) : mc A m set (s + 1) = mc A m set s := by simp only [mc, h, if_false]
theorem mc_le (A : jm_I) (m : Nat) (set : Int64) (s : Nat) : mc A m set s ≤ s := by
  induction s with
  | zero => exact Nat.le_refl _
  | succ s ih =>
    by_cases q : zin A m set s
    · rw [mc_t q]; omega
    · rw [mc_f q]; omega
theorem mc_mono (A : jm_I) (m : Nat) (set : Int64) : ∀ d s, mc A m set s ≤ mc A m set (s + d) := by
  intro d
  induction d with
  | zero => intro s; exact Nat.le_refl _
  | succ d ih =>
    intro s
    have := ih s
    rw [show s + (d + 1) = s + d + 1 by omega]
    by_cases q : zin A m set (s + d)
    · rw [mc_t q]; omega
    · rw [mc_f q]; omega
theorem mc_lt {A : jm_I} {m : Nat} {set : Int64} {s s' : Nat} (h : zin A m set s) (hs : s < s') : mc A m set s < mc A m set s' := by
  have h1 := mc_t h
  have h2 := mc_mono A m set (s' - (s + 1)) (s + 1)
  rw [show s + 1 + (s' - (s + 1)) = s' by omega] at h2
  omega
theorem mc_inj {A : jm_I} {m : Nat} {set : Int64} {s s' : Nat} (h : zin A m set s) (h' : zin A m set s') (e : mc A m set s = mc A m set s') : s = s' := by
  rcases Nat.lt_trichotomy s s' with q | q | q
  · have := mc_lt h q; omega
  · exact q
  · have := mc_lt h' q; omega
/-- the sights found -/
abbrev Mine (J A : jm_I) (m : Nat) (set : Int64) (mi : Nat → Nat) : Prop := (J 111 35 = nI (mc A m set (zN A))) ∧ (∀ i, i < mc A m set (zN A) → J 138 i = nI (mi i) ∧ mi i < zN A ∧ zin A m set (mi i)) ∧ (∀ s, s < zN A → zin A m set s → mi (mc A m set s) = s)
theorem Mine.n35 {J A : jm_I} {m : Nat} {set : Int64} {mi : Nat → Nat} (h : Mine J A m set mi) : J 111 35 = nI (mc A m set (zN A)) := h.1
theorem Mine.row {J A : jm_I} {m : Nat} {set : Int64} {mi : Nat → Nat} (h : Mine J A m set mi) : ∀ i, i < mc A m set (zN A) → J 138 i = nI (mi i) ∧ mi i < zN A ∧ zin A m set (mi i) := h.2.1
theorem Mine.at0 {J A : jm_I} {m : Nat} {set : Int64} {mi : Nat → Nat} (h : Mine J A m set mi) : ∀ s, s < zN A → zin A m set s → mi (mc A m set s) = s := h.2.2
theorem lz1 : ¬ lN 1 = lN 0 := by decide
theorem m_findMine (n : Nat) (J A : jm_I) (L : jm_L) (hA : Inv A) (hM : Mod J A) {m : Nat} (hm : m < 4) (set : Int64) : ∃ (K : jm_I) (mi : Nat → Nat), FrM K J ∧ (∀ j, j ≠ 35 → K 111 j = J 111 j) ∧ Mine K A m set mi ∧ jE n rX10_findMine 0 [.ref 111, .int (nI m), .long set, .null, .null] [] J L = some (none, jS n K L) := by
  obtain ⟨e8, hN⟩ := Inv_N hA
  have e20 : J 111 20 = nI (zN A) := by rw [← e8]; exact (hM.1 111 20).1 rfl
  have key : ∀ (d s : Nat) (Q : Nat → Int32), s + d = zN A → (∀ i, i < mc A m set s → ∃ s', s' < s ∧ zin A m set s' ∧ mc A m set s' = i ∧ Q i = nI s') → ∃ Q' : Nat → Int32, (∀ i, i < mc A m set (zN A) → ∃ s', s' < zN A ∧ zin A m set s' ∧ mc A m set s' = i ∧ Q' i = nI s') ∧ jE n rX10_findMine 8 [.ref 111, .int (nI m), .long set, .null, .int (nI s)] [] (gS J 138 Q 111 35 (nI (mc A m set s))) L = some (none, jS n (gS J 138 Q' 111 35 (nI (mc A m set (zN A)))) L) := by
    intro d
    induction d with
    | zero =>
      intro s Q hs hQ
      have : s = zN A := by omega
      subst this
      have cc : nI (zN A) ≤ nI (zN A) := Int32.le_refl _
      have q20 : gS J 138 Q 111 35 (nI (mc A m set (zN A))) 111 20 = nI (zN A) := by rw [gS_b _ (by decide) _ _ (by decide)]; exact e20
      refine ⟨Q, hQ, ?_⟩
      simp only [eX10_findMine_8, eX10_findMine_80, q20, cc, if_true]
    | succ d ih =>
      intro s Q hs hQ
      have hs4 : s < 40 := by omega
      have cc : ¬ nI (zN A) ≤ nI s := nI_ge (by omega) (by omega)
      have q20 : gS J 138 Q 111 35 (nI (mc A m set s)) 111 20 = nI (zN A) := by rw [gS_b _ (by decide) _ _ (by decide)]; exact e20
      have q125 : gS J 138 Q 111 35 (nI (mc A m set s)) 125 s = A 27 s := by rw [gS_at _ _ _ _ (by decide) (by decide)]; exact hM.1 125 s hs4
      have q127 : gS J 138 Q 111 35 (nI (mc A m set s)) 127 s = A 29 s := by rw [gS_at _ _ _ _ (by decide) (by decide)]; exact hM.1 127 s hs4
      have hb := bit_s set (show s < 64 by omega)
      have hd0 : jE n rX10_findMine 8 [.ref 111, .int (nI m), .long set, .null, .int (nI s)] [] (gS J 138 Q 111 35 (nI (mc A m set s))) L = jE n rX10_findMine 17 [.ref 111, .int (nI m), .long set, .null, .int (nI s)] [] (gS J 138 Q 111 35 (nI (mc A m set s))) L := by
        simp only [eX10_findMine_8, q20, cc, if_false]
      by_cases q : zin A m set s
      · obtain ⟨z1, z2, z3⟩ := q
        have q : zin A m set s := ⟨z1, z2, z3⟩
        rw [if_pos z1] at hb
        have hle := mc_le A m set s
        have hx : mc A m set s < 40 := by omega
        obtain ⟨Q', r1, r2⟩ := ih (s + 1) (upd Q (mc A m set s) (nI s)) (by omega) (fun i hi => by
          rw [mc_t q] at hi
          by_cases e : i = mc A m set s
          · exact ⟨s, by omega, q, e.symm, by rw [upd_ap, if_pos e]⟩
          · obtain ⟨s', w1, w2, w3, w4⟩ := hQ i (by omega)
            exact ⟨s', by omega, w2, w3, by rw [upd_ap, if_neg e]; exact w4⟩)
        rw [mc_t q] at r2
        refine ⟨Q', r1, ?_⟩
        rw [hd0]
        simp only [eX10_findMine_17, eX10_findMine_28, eX10_findMine_39, eX10_findMine_53, eX10_findMine_74, jLI_t, jLW_t, jLL_t, jLZ_t, jLA_t, hs4, q125, q127, z2, z3, not_true, if_false, hb, lz1, not_false_eq_true, if_true, gS_f, hx, gS_w J (show 138 ≠ 111 by decide), nI_add, gS_c]
        exact r2
      · obtain ⟨Q', r1, r2⟩ := ih (s + 1) Q (by omega) (fun i hi => by
          rw [mc_f q] at hi
          obtain ⟨s', w1, w2, w3, w4⟩ := hQ i hi
          exact ⟨s', by omega, w2, w3, w4⟩)
        rw [mc_f q] at r2
        refine ⟨Q', r1, ?_⟩
        rw [hd0]
        have e0 : jE n rX10_findMine 17 [.ref 111, .int (nI m), .long set, .null, .int (nI s)] [] (gS J 138 Q 111 35 (nI (mc A m set s))) L = jE n rX10_findMine 74 [.ref 111, .int (nI m), .long set, .null, .int (nI s)] [] (gS J 138 Q 111 35 (nI (mc A m set s))) L := by
          by_cases z2 : A 27 s = nI m
          · by_cases z3 : A 29 s = nI 5
            · simp only [eX10_findMine_17, eX10_findMine_28, jLI_t, jLW_t, jLL_t, jLZ_t, jLA_t, hs4, q125, q127, z2, z3, not_true, if_false, if_true]
            · have z1 : ¬ tb set s = true := fun z1 => q ⟨z1, z2, z3⟩
              rw [if_neg z1] at hb
              simp only [eX10_findMine_17, eX10_findMine_28, eX10_findMine_39, eX10_findMine_50, jLI_t, jLW_t, jLL_t, jLZ_t, jLA_t, hs4, q125, q127, z2, z3, not_true, if_false, hb]
          · simp only [eX10_findMine_17, jLI_t, jLW_t, jLL_t, jLZ_t, jLA_t, hs4, q125, z2, not_false_eq_true, if_true]
        rw [e0]
        simp only [eX10_findMine_74, nI_add]
        exact r2
  obtain ⟨Q', r1, r2⟩ := key (zN A) 0 (J 138) (Nat.zero_add _) (fun i hi => absurd hi (by simp [mc]))
  refine ⟨gS J 138 Q' 111 35 (nI (mc A m set (zN A))), fun i => (Q' i).toInt.toNat, ?_, ?_, ?_, ?_⟩
  · exact ⟨fun a p q _ => gS_at _ _ _ _ q p, fun j p _ => gS_b _ (by decide) _ _ p⟩
  · exact fun j p => gS_b _ (by decide) _ _ p
  · refine ⟨gS_f _ _ _ _ _ _, fun i hi => ?_, fun s hs hz => ?_⟩
    · obtain ⟨s', w1, w2, w3, w4⟩ := r1 i hi
      have e : (Q' i).toInt.toNat = s' := by rw [w4, zn (by omega)]
      rw [gS_a _ (by decide)]
      dsimp only; rw [e]
      exact ⟨w4, w1, w2⟩
    · obtain ⟨s', w1, w2, w3, w4⟩ := r1 (mc A m set s) (mc_lt hz hs)
      dsimp only; rw [w4, zn (by omega)]
      exact (mc_inj w2 hz w3)
  · have e0 : jm_u J 111 35 (nI 0) = gS J 138 (J 138) 111 35 (nI (mc A m set 0)) := by unfold gS; rw [iA_0]; rfl
    simp only [eX10_findMine_0]
    rw [e0]
    exact r2
/-! what every term adds -/
def ADp (ad : Nat → Int64) (A : jm_I) (τ : Nat → Nat) (c m : Nat) (mi : Nat → Nat) (M i q d : Nat) : Prop := ∀ q' d' i', q' < c → d' < 7 → i' < M → (i' < i ∨ (i' = i ∧ (q' < q ∨ (q' = q ∧ d' < d)))) → ad (280 * q' + 40 * d' + i') = lZ (zsh A (τ q') d' m (ixc A 28 (mi i')))
abbrev Trm (J : jm_I) (t c : Nat) (τ : Nat → Nat) : Prop := (t < 9) ∧ (c ≤ 3) ∧ (J 135 t = nI c) ∧ (∀ q, q < c → J 134 (8 * t + q) = nI (τ q) ∧ τ q ≤ 6)
theorem Trm.t9 {J : jm_I} {t c : Nat} {τ : Nat → Nat} (h : Trm J t c τ) : t < 9 := h.1
theorem Trm.c3 {J : jm_I} {t c : Nat} {τ : Nat → Nat} (h : Trm J t c τ) : c ≤ 3 := h.2.1
theorem Trm.k135 {J : jm_I} {t c : Nat} {τ : Nat → Nat} (h : Trm J t c τ) : J 135 t = nI c := h.2.2.1
theorem Trm.k134 {J : jm_I} {t c : Nat} {τ : Nat → Nat} (h : Trm J t c τ) : ∀ q, q < c → J 134 (8 * t + q) = nI (τ q) ∧ τ q ≤ 6 := h.2.2.2
theorem m_findAdds (n : Nat) (J A : jm_I) (L : jm_L) (hA : Inv A) (hM : Mod J A) {t c m : Nat} {τ : Nat → Nat} (set : Int64) (hm : m < 4) (hT : Trm J t c τ) {mi : Nat → Nat} (hmi : Mine J A m set mi) : ∃ (r ad : Nat → Int64), (∀ i, i < mc A m set (zN A) → r i = lZ (zl A τ m (mi i) 0 0)) ∧ ADp ad A τ c m mi (mc A m set (zN A)) (mc A m set (zN A)) 0 0 ∧ jE n rX10_findAdds 0 [.ref 111, .int (nI t), .int (nI m), .null, .null, .null, .null] [] J L = some (none, jS n J (jm_uA (jm_uA L 140 r) 141 ad)) := by
  obtain ⟨e8, hN⟩ := Inv_N hA
  have hMle := mc_le A m set (zN A)
  have h35 := hmi.n35
  have hrow := hmi.row
  have ht9 := hT.t9
  have hc3 := hT.c3
  generalize mc A m set (zN A) = M at *
  have n41 : (141 : Nat) ≠ 140 := by decide
  -- the innermost
  have inn : ∀ (i q : Nat), i < M → q < c → ∀ (d e : Nat) (r ad : Nat → Int64), e + d = 7 → ADp ad A τ c m mi M i q e → ∃ ad' : Nat → Int64, ADp ad' A τ c m mi M i (q + 1) 0 ∧ jE n rX10_findAdds 66 [.ref 111, .int (nI t), .int (nI m), .int (nI i), .int (nI (ixc A 28 (mi i))), .int (nI q), .int (nI e)] [] J (jm_uA (jm_uA L 140 r) 141 ad) = jE n rX10_findAdds 121 [.ref 111, .int (nI t), .int (nI m), .int (nI i), .int (nI (ixc A 28 (mi i))), .int (nI q), .int (nI 7)] [] J (jm_uA (jm_uA L 140 r) 141 ad') := by
    intro i q hi hq d
    induction d with
    | zero =>
      intro e r ad he hAD
      have : e = 7 := by omega
      subst this
      have cc : nI 7 ≤ nI 7 := Int32.le_refl _
      refine ⟨ad, fun q' d' i' g1 g2 g3 g4 => hAD q' d' i' g1 g2 g3 (by omega), ?_⟩
      simp only [eX10_findAdds_66, cc, if_true]
    | succ d ih =>
      intro e r ad he hAD
      have he7 : e < 7 := by omega
      have cc : ¬ nI 7 ≤ nI e := nI_ge he7 (by decide)
      obtain ⟨w1, w2, w3⟩ := hrow i hi
      obtain ⟨-, hk⟩ := (Inv_s hA (show mi i < 40 by omega)).2.1
      obtain ⟨t1, t2⟩ := hT.k134 q hq
      have hx : 280 * q + 40 * e + i < 2240 := by omega
      have hx2 : 8 * t + q < 72 := by omega
      obtain ⟨ad', r1, r2⟩ := ih (e + 1) r (vp_updL ad (280 * q + 40 * e + i) (lZ (zsh A (τ q) e m (ixc A 28 (mi i))))) (by omega) (fun q' d' i' g1 g2 g3 g4 => by
        rw [updL_ap]
        by_cases h : 280 * q' + 40 * d' + i' = 280 * q + 40 * e + i
        · have e1 : i' = i := by omega
          have e2 : q' = q := by omega
          have e3 : d' = e := by omega
          rw [if_pos h, e1, e2, e3]
        · rw [if_neg h]
          exact hAD q' d' i' g1 g2 g3 (by omega))
      refine ⟨ad', r1, ?_⟩
      have hd0 : ∀ W, jE n rX10_findAdds 66 [.ref 111, .int (nI t), .int (nI m), .int (nI i), .int (nI (ixc A 28 (mi i))), .int (nI q), .int (nI e)] [] J W = jE n rX10_findAdds 73 [.ref 111, .int (nI t), .int (nI m), .int (nI i), .int (nI (ixc A 28 (mi i))), .int (nI q), .int (nI e)] [] J W := by
        intro W
        simp only [eX10_findAdds_66, cc, if_false]
      rw [hd0]
      have ha := m_adds n J A (jm_uA (jm_uA L 140 r) 141 ad) hA hM t2 he7 hm hk
      simp only [eX10_findAdds_73, pk_mul, nI_add, jLI_t, jLW_t, jLL_t, jLZ_t, jLA_t, hx2, t1, nI_3, ha, jB_s, hx, uL_A]
      exact r2
  have mid : ∀ (i : Nat), i < M → ∀ (d q : Nat) (r ad : Nat → Int64) (v6 : Value), q + d = c → ADp ad A τ c m mi M i q 0 → ∃ (ad' : Nat → Int64) (w5 w6 : Value), ADp ad' A τ c m mi M (i + 1) 0 0 ∧ jE n rX10_findAdds 52 [.ref 111, .int (nI t), .int (nI m), .int (nI i), .int (nI (ixc A 28 (mi i))), .int (nI q), v6] [] J (jm_uA (jm_uA L 140 r) 141 ad) = jE n rX10_findAdds 2 [.ref 111, .int (nI t), .int (nI m), .int (nI (i + 1)), .int (nI (ixc A 28 (mi i))), w5, w6] [] J (jm_uA (jm_uA L 140 r) 141 ad') := by
    intro i hi d
    induction d with
    | zero =>
      intro q r ad v6 hq hAD
      have : q = c := by omega
      subst this
      have cc : nI q ≤ nI q := Int32.le_refl _
      refine ⟨ad, .int (nI q), v6, fun q' d' i' g1 g2 g3 g4 => hAD q' d' i' g1 g2 g3 (by omega), ?_⟩
      simp only [eX10_findAdds_52, eX10_findAdds_127, jLI_t, jLW_t, jLL_t, jLZ_t, jLA_t, ht9, hT.k135, cc, if_true, nI_add]
    | succ d ih =>
      intro q r ad v6 hq hAD
      have cc : ¬ nI c ≤ nI q := nI_ge (by omega) (by omega)
      obtain ⟨ad1, a1, a2⟩ := inn i q hi (by omega) 7 0 r ad rfl hAD
      obtain ⟨ad', w5, w6, r1, r2⟩ := ih (q + 1) r ad1 (.int (nI 7)) (by omega) a1
      refine ⟨ad', w5, w6, r1, ?_⟩
      have hd0 : ∀ W, jE n rX10_findAdds 52 [.ref 111, .int (nI t), .int (nI m), .int (nI i), .int (nI (ixc A 28 (mi i))), .int (nI q), v6] [] J W = jE n rX10_findAdds 66 [.ref 111, .int (nI t), .int (nI m), .int (nI i), .int (nI (ixc A 28 (mi i))), .int (nI q), .int (nI 0)] [] J W := by
        intro W
        simp only [eX10_findAdds_52, eX10_findAdds_63, jLI_t, jLW_t, jLL_t, jLZ_t, jLA_t, ht9, hT.k135, cc, if_false]
      rw [hd0, a2]
      simp only [eX10_findAdds_121, nI_add]
      exact r2
  have out : ∀ (d i : Nat) (r ad : Nat → Int64) (v4 v5 v6 : Value), i + d = M → (∀ i', i' < i → r i' = lZ (zl A τ m (mi i') 0 0)) → ADp ad A τ c m mi M i 0 0 → ∃ (r' ad' : Nat → Int64), (∀ i', i' < M → r' i' = lZ (zl A τ m (mi i') 0 0)) ∧ ADp ad' A τ c m mi M M 0 0 ∧ jE n rX10_findAdds 2 [.ref 111, .int (nI t), .int (nI m), .int (nI i), v4, v5, v6] [] J (jm_uA (jm_uA L 140 r) 141 ad) = some (none, jS n J (jm_uA (jm_uA L 140 r') 141 ad')) := by
    intro d
    induction d with
    | zero =>
      intro i r ad v4 v5 v6 hi hr hAD
      have : i = M := by omega
      subst this
      have cc : nI i ≤ nI i := Int32.le_refl _
      refine ⟨r, ad, hr, hAD, ?_⟩
      simp only [eX10_findAdds_2, eX10_findAdds_133, h35, cc, if_true]
    | succ d ih =>
      intro i r ad v4 v5 v6 hi hr hAD
      have hiM : i < M := by omega
      have cc : ¬ nI M ≤ nI i := nI_ge hiM (by omega)
      obtain ⟨w1, w2, w3⟩ := hrow i hiM
      have hs4 : mi i < 40 := by omega
      obtain ⟨e28, hk⟩ := (Inv_s hA hs4).2.1
      have f28 : J 126 (mi i) = nI (ixc A 28 (mi i)) := (hM.1 126 (mi i) hs4).trans e28
      have hi40 : i < 40 := by omega
      have hi360 : i < 360 := by omega
      have st : jm_uL (jm_uA (jm_uA L 140 r) 141 ad) 140 i (lZ (zl A τ m (mi i) 0 0)) = jm_uA (jm_uA L 140 (vp_updL r i (lZ (zl A τ m (mi i) 0 0)))) 141 ad := by
        funext b j
        unfold jm_uL jm_uA
        by_cases h : b = 141
        · subst h; simp
        · by_cases h2 : b = 140 <;> simp [h, h2]
      obtain ⟨ad1, w5, w6, b1, b2⟩ := mid i hiM c 0 (vp_updL r i (lZ (zl A τ m (mi i) 0 0))) ad v6 (Nat.zero_add _) hAD
      obtain ⟨r', ad', c1, c2, c3⟩ := ih (i + 1) (vp_updL r i (lZ (zl A τ m (mi i) 0 0))) ad1 (.int (nI (ixc A 28 (mi i)))) w5 w6 (by omega) (fun i' hi' => by
        rw [updL_ap]
        by_cases e : i' = i
        · rw [if_pos e, e]
        · rw [if_neg e]; exact hr i' (by omega)) b1
      refine ⟨r', ad', c1, c2, ?_⟩
      have ez : zright A (mi i) - zg A m (ixc A 28 (mi i)) = zl A τ m (mi i) 0 0 := rfl
      have hd0 : ∀ W, jE n rX10_findAdds 2 [.ref 111, .int (nI t), .int (nI m), .int (nI i), v4, v5, v6] [] J W = jE n rX10_findAdds 10 [.ref 111, .int (nI t), .int (nI m), .int (nI i), v4, v5, v6] [] J W := by
        intro W
        simp only [eX10_findAdds_2, h35, cc, if_false]
      have hr1 := m_rightOf n J A (jm_uA (jm_uA L 140 r) 141 ad) hA hM hs4 (nI 1) (nI 1)
      rw [zrightb_1] at hr1
      have hg1 := m_guessed n J A (jm_uA (jm_uA L 140 r) 141 ad) hM hm hk
      rw [hd0]
      simp only [eX10_findAdds_10, jLI_t, jLW_t, jLL_t, jLZ_t, jLA_t, hi40, w1, hs4, f28, hr1, jB_s, hg1, lZ_sub, ez, hi360, st]
      rw [b2]
      exact c3
  have l0 : L = jm_uA (jm_uA L 140 (L 140)) 141 (L 141) := by
    rw [lA_0, lA_0]
  obtain ⟨r', ad', r1, r2, r3⟩ := out M 0 (L 140) (L 141) .null .null .null (Nat.zero_add _) (fun i' h => absurd h (by omega)) (fun q' d' i' g1 g2 g3 g4 => absurd g4 (by omega))
  rw [← l0] at r3
  refine ⟨r', ad', r1, r2, ?_⟩
  simp only [eX10_findAdds_0]
  exact r3
