/-! turn: the model -/
theorem m_others (n : Nat) (J A : jm_I) (L : jm_L) (hA : Inv A) (hM : Mod J A) {m : Nat} (hm : m < 4) (had : Int64) : ∃ v : Int64, (∀ s, s < 40 → (tb v s = true ↔ ch A m had s)) ∧ jE n rX10_othersOf 0 [.ref 111, .int (nI m), .long had, .null, .null, .null, .null, .null] [] J L = some (some (.long v), jS n J L) := by
  obtain ⟨e8, hN⟩ := Inv_N hA
  have e20 := M20 hA hM
  have key : ∀ (d s : Nat) (v : Int64), s + d = zN A → mc A m (tD had) s ≤ 8 → (∀ k, k < 40 → (tb v k = true ↔ k < s ∧ zin A m (tD had) k ∧ mc A m (tD had) k < 8)) → ∃ v' : Int64, (∀ k, k < 40 → (tb v' k = true ↔ ch A m had k)) ∧ jE n rX10_othersOf 9 [.ref 111, .int (nI m), .long had, .null, .long v, .null, .int (nI (mc A m (tD had) s)), .int (nI s)] [] J L = some (some (.long v'), jS n J L) := by
    intro d
    induction d with
    | zero =>
      intro s v hs h8 hv
      have : s = zN A := by omega
      subst this
      have cc : nI (zN A) ≤ nI (zN A) := Int32.le_refl _
      refine ⟨v, hv, ?_⟩
      simp only [eX10_othersOf_9, eX10_othersOf_79, e20, cc, if_true]
    | succ d ih =>
      intro s v hs h8 hv
      have hs4 : s < 40 := by omega
      have cc : ¬ nI (zN A) ≤ nI s := nI_ge (by omega) (by omega)
      have hd0 : ∀ x y, jE n rX10_othersOf 9 [.ref 111, .int (nI m), .long had, .null, x, .null, y, .int (nI s)] [] J L = jE n rX10_othersOf 18 [.ref 111, .int (nI m), .long had, .null, x, .null, y, .int (nI s)] [] J L := by
        intro x y
        simp only [eX10_othersOf_9, e20, cc, if_false]
      rw [hd0]
      by_cases h88 : mc A m (tD had) s = 8
      · rw [h88]
        have c8 : nI 8 ≤ nI 8 := Int32.le_refl _
        refine ⟨v, fun k hk => ?_, ?_⟩
        · rw [hv k hk]
          constructor
          · rintro ⟨q1, q2, q3⟩; exact ⟨by omega, q2, q3⟩
          · rintro ⟨q1, q2, q3⟩
            refine ⟨?_, q2, q3⟩
            rcases Nat.lt_or_ge k s with q | q
            · exact q
            · have := mc_mono A m (tD had) (k - s) s
              rw [show s + (k - s) = k by omega] at this
              omega
        · simp only [eX10_othersOf_18, eX10_othersOf_79, c8, if_true]
      · have c8 : ¬ nI 8 ≤ nI (mc A m (tD had) s) := nI_ge (by omega) (by decide)
        have f27 : J 125 s = A 27 s := hM.1 125 s hs4
        have f29 : J 127 s = A 29 s := hM.1 127 s hs4
        have hb := bit_s had (show s < 64 by omega)
        have hx := tb_x had hs4
        have hno : ¬ zin A m (tD had) s → ∃ v' : Int64, (∀ k, k < 40 → (tb v' k = true ↔ ch A m had k)) ∧ jE n rX10_othersOf 73 [.ref 111, .int (nI m), .long had, .null, .long v, .null, .int (nI (mc A m (tD had) s)), .int (nI s)] [] J L = some (some (.long v'), jS n J L) := by
          intro q
          obtain ⟨v', r1, r2⟩ := ih (s + 1) v (by omega) (by rw [mc_f q]; omega) (fun k hk => by
            rw [hv k hk]
            constructor
            · rintro ⟨q1, q2, q3⟩; exact ⟨by omega, q2, q3⟩
            · rintro ⟨q1, q2, q3⟩
              refine ⟨?_, q2, q3⟩
              by_cases e : k = s
              · subst e; exact absurd q2 q
              · omega)
          refine ⟨v', r1, ?_⟩
          rw [mc_f q] at r2
          simp only [eX10_othersOf_73, nI_add]
          exact r2
        by_cases h1 : A 27 s = nI m
        · by_cases h2 : A 29 s = nI 5
          · obtain ⟨v', r1, r2⟩ := hno (fun q => q.2.2 h2)
            refine ⟨v', r1, ?_⟩
            simp only [eX10_othersOf_18, eX10_othersOf_25, eX10_othersOf_36, c8, if_false, jLI_t, jLW_t, jLL_t, jLZ_t, jLA_t, hs4, f27, f29, h1, h2, not_true_eq_false, if_true]
            exact r2
          · cases e : tb had s with
            | true =>
              rw [e, if_pos rfl] at hb
              obtain ⟨v', r1, r2⟩ := hno (fun q => by
                have := q.1
                unfold tD at this
                rw [hx, e] at this
                exact absurd this (by decide))
              refine ⟨v', r1, ?_⟩
              simp only [eX10_othersOf_18, eX10_othersOf_25, eX10_othersOf_36, eX10_othersOf_47, eX10_othersOf_58, c8, if_false, jLI_t, jLW_t, jLL_t, jLZ_t, jLA_t, hs4, f27, f29, h1, h2, hb, not_true_eq_false]
              exact r2
            | false =>
              rw [e, if_neg (by decide)] at hb
              have q : zin A m (tD had) s := ⟨by unfold tD; rw [hx, e]; rfl, h1, h2⟩
              obtain ⟨v', r1, r2⟩ := ih (s + 1) (v ||| bt s) (by omega) (by rw [mc_t q]; omega) (fun k hk => by
                rw [tb_or, tb_bt (show s < 64 by omega)]
                by_cases ek : k = s
                · subst ek
                  simp only [decide_true, Bool.or_true, true_iff]
                  exact ⟨by omega, q, by omega⟩
                · simp only [ek, decide_false, Bool.or_false]
                  rw [hv k hk]
                  constructor
                  · rintro ⟨q1, q2, q3⟩; exact ⟨by omega, q2, q3⟩
                  · rintro ⟨q1, q2, q3⟩; exact ⟨by omega, q2, q3⟩)
              refine ⟨v', r1, ?_⟩
              rw [mc_t q] at r2
              simp only [eX10_othersOf_18, eX10_othersOf_25, eX10_othersOf_36, eX10_othersOf_47, eX10_othersOf_61, eX10_othersOf_73, c8, if_false, jLI_t, jLW_t, jLL_t, jLZ_t, jLA_t, hs4, f27, f29, h1, h2, hb, l10, not_true_eq_false, not_false_eq_true, if_true, bt_e, nI_add]
              exact r2
        · obtain ⟨v', r1, r2⟩ := hno (fun q => h1 q.2.1)
          refine ⟨v', r1, ?_⟩
          simp only [eX10_othersOf_18, eX10_othersOf_25, c8, if_false, jLI_t, jLW_t, jLL_t, jLZ_t, jLA_t, hs4, f27, h1, not_false_eq_true, if_true]
          exact r2
  obtain ⟨v, r1, r2⟩ := key (zN A) 0 (lN 0) (Nat.zero_add _) (Nat.zero_le _) (fun k hk => by
    constructor
    · intro q
      exfalso
      have : tb (lN 0) k = false := by
        show (0#64).getLsbD k = false
        simp
      rw [this] at q
      exact absurd q (by decide)
    · rintro ⟨q, -⟩; omega)
  refine ⟨v, r1, ?_⟩
  simp only [eX10_othersOf_0]
  exact r2
theorem lor_c (x y : Int64) : x ||| y = y ||| x := by rw [← Int64.toBitVec_inj, Int64.toBitVec_or, Int64.toBitVec_or, BitVec.or_comm]
theorem m_turn1 (n : Nat) (A : jm_I) (hA : Inv A) {m : Nat} (hm : m < 4) (had v : Int64) (hT : 0 < zT A) (hv : ∀ s, s < 40 → (tb v s = true ↔ ch A m had s)) : ∀ (d s : Nat) (J : jm_I) (L : jm_L), s + d = zN A → Mod J A → (∀ s', ch A m had s' → s' < s → ¬ tP A m had s') → (∃ (s0 : Nat) (K : jm_I) (L' : jm_L), T1 A m had s0 ∧ FrM K J ∧ jE n rX10_turnOf 19 [.ref 111, .int (nI m), .long had, .null, .int (nI (bst A m had)), .long v, .null, .int (nI s), .null] [] J L = some (some (.long (bt s0)), jS n K L')) ∨ (T0 A m had ∧ ∃ (K : jm_I) (L' : jm_L), FrM K J ∧ jE n rX10_turnOf 19 [.ref 111, .int (nI m), .long had, .null, .int (nI (bst A m had)), .long v, .null, .int (nI s), .null] [] J L = jE n rX10_turnOf 67 [.ref 111, .int (nI m), .long had, .null, .int (nI (bst A m had)), .long v, .null, .int (nI (zN A)), .null] [] K L') := by
  obtain ⟨e8, hN⟩ := Inv_N hA
  intro d
  induction d with
  | zero =>
    intro s J L hs hM hn
    have : s = zN A := by omega
    subst this
    have cc : nI (zN A) ≤ nI (zN A) := Int32.le_refl _
    refine Or.inr ⟨fun s' hs' => hn s' hs' hs'.1, J, L, FrM_0 J, ?_⟩
    simp only [eX10_turnOf_19, M20 hA hM, cc, if_true]
  | succ d ih =>
    intro s J L hs hM hn
    have hs4 : s < 40 := by omega
    have cc : ¬ nI (zN A) ≤ nI s := nI_ge (by omega) (by omega)
    have hd0 : jE n rX10_turnOf 19 [.ref 111, .int (nI m), .long had, .null, .int (nI (bst A m had)), .long v, .null, .int (nI s), .null] [] J L = jE n rX10_turnOf 28 [.ref 111, .int (nI m), .long had, .null, .int (nI (bst A m had)), .long v, .null, .int (nI s), .null] [] J L := by
      simp only [eX10_turnOf_19, M20 hA hM, cc, if_false]
    have hb := bit_s v (show s < 64 by omega)
    have go : ∀ (K : jm_I) (L1 : jm_L), FrM K J → (ch A m had s → ¬ tP A m had s) → jE n rX10_turnOf 19 [.ref 111, .int (nI m), .long had, .null, .int (nI (bst A m had)), .long v, .null, .int (nI s), .null] [] J L = jE n rX10_turnOf 19 [.ref 111, .int (nI m), .long had, .null, .int (nI (bst A m had)), .long v, .null, .int (nI (s + 1)), .null] [] K L1 → (∃ (s0 : Nat) (K : jm_I) (L' : jm_L), T1 A m had s0 ∧ FrM K J ∧ jE n rX10_turnOf 19 [.ref 111, .int (nI m), .long had, .null, .int (nI (bst A m had)), .long v, .null, .int (nI s), .null] [] J L = some (some (.long (bt s0)), jS n K L')) ∨ (T0 A m had ∧ ∃ (K : jm_I) (L' : jm_L), FrM K J ∧ jE n rX10_turnOf 19 [.ref 111, .int (nI m), .long had, .null, .int (nI (bst A m had)), .long v, .null, .int (nI s), .null] [] J L = jE n rX10_turnOf 67 [.ref 111, .int (nI m), .long had, .null, .int (nI (bst A m had)), .long v, .null, .int (nI (zN A)), .null] [] K L') := by
      intro K L1 hK hp e
      rw [e]
      rcases ih (s + 1) K L1 (by omega) (Mod_fr hA hM (FrM_S hK)) (fun s' hs' hlt => by
        by_cases e : s' = s
        · subst e; exact hp hs'
        · exact hn s' hs' (by omega)) with ⟨s0, K', L', r1, r2, r3⟩ | ⟨r0, K', L', r1, r2⟩
      · exact Or.inl ⟨s0, K', L', r1, FrM_t hK r2, r3⟩
      · exact Or.inr ⟨r0, K', L', FrM_t hK r1, r2⟩
    by_cases hc : ch A m had s
    · rw [if_pos ((hv s hs4).mpr hc)] at hb
      obtain ⟨K, L1, b1, b2⟩ := mB n J A L hA hM (had ||| bt s) hm hT
      by_cases hp : tP A m had s
      · refine Or.inl ⟨s, K, L1, ⟨hc, hp, hn⟩, b1, ?_⟩
        have hnq : ¬ nI (bst A m (had ||| bt s)) = nI (bst A m had) := fun w => hp ((bq hA hT m _ _).mp w)
        rw [hd0]
        simp only [eX10_turnOf_28, eX10_turnOf_40, eX10_turnOf_56, hb, not_true_eq_false, if_false, bt_e, b2, jB_s, hnq]
      · have hq : nI (bst A m (had ||| bt s)) = nI (bst A m had) := (bq hA hT m _ _).mpr (Classical.not_not.mp hp)
        refine go K L1 b1 (fun _ => hp) ?_
        rw [hd0]
        simp only [eX10_turnOf_28, eX10_turnOf_40, eX10_turnOf_61, hb, not_true_eq_false, if_false, if_true, bt_e, b2, jB_s, hq, nI_add]
    · rw [if_neg (fun w => hc ((hv s hs4).mp w))] at hb
      refine go J L (FrM_0 J) (fun w => absurd w hc) ?_
      rw [hd0]
      simp only [eX10_turnOf_28, eX10_turnOf_61, hb, l10, not_false_eq_true, if_true, nI_add]
theorem m_turn2 (n : Nat) (A : jm_I) (hA : Inv A) {m : Nat} (hm : m < 4) (had v : Int64) (hT : 0 < zT A) (hv : ∀ s, s < 40 → (tb v s = true ↔ ch A m had s)) {s : Nat} (hs : s < zN A) : ∀ (d t : Nat) (J : jm_I) (L : jm_L), t + d = s → Mod J A → (∀ t', ch A m had s → ch A m had t' → t' < t → ¬ tQ A m had s t') → (∃ (t0 : Nat) (K : jm_I) (L' : jm_L), ch A m had s ∧ ch A m had t0 ∧ t0 < s ∧ tQ A m had s t0 ∧ (∀ t', ch A m had t' → t' < t0 → ¬ tQ A m had s t') ∧ FrM K J ∧ jE n rX10_turnOf 82 [.ref 111, .int (nI m), .long had, .null, .int (nI (bst A m had)), .long v, .null, .int (nI s), .int (nI t)] [] J L = some (some (.long (bt s ||| bt t0)), jS n K L')) ∨ ((∀ t', ch A m had s → ch A m had t' → t' < s → ¬ tQ A m had s t') ∧ ∃ (K : jm_I) (L' : jm_L), FrM K J ∧ jE n rX10_turnOf 82 [.ref 111, .int (nI m), .long had, .null, .int (nI (bst A m had)), .long v, .null, .int (nI s), .int (nI t)] [] J L = jE n rX10_turnOf 150 [.ref 111, .int (nI m), .long had, .null, .int (nI (bst A m had)), .long v, .null, .int (nI s), .int (nI s)] [] K L') := by
  obtain ⟨e8, hN⟩ := Inv_N hA
  have hs4 : s < 40 := by omega
  intro d
  induction d with
  | zero =>
    intro t J L ht hM hn
    have : t = s := by omega
    subst this
    have cc : nI t ≤ nI t := Int32.le_refl _
    refine Or.inr ⟨hn, J, L, FrM_0 J, ?_⟩
    simp only [eX10_turnOf_82, cc, if_true]
  | succ d ih =>
    intro t J L ht hM hn
    have ht4 : t < 40 := by omega
    have hts : t < s := by omega
    have cc : ¬ nI s ≤ nI t := nI_ge hts (by omega)
    have hd0 : jE n rX10_turnOf 82 [.ref 111, .int (nI m), .long had, .null, .int (nI (bst A m had)), .long v, .null, .int (nI s), .int (nI t)] [] J L = jE n rX10_turnOf 89 [.ref 111, .int (nI m), .long had, .null, .int (nI (bst A m had)), .long v, .null, .int (nI s), .int (nI t)] [] J L := by
      simp only [eX10_turnOf_82, cc, if_false]
    have hb := bit_s v (show s < 64 by omega)
    have hb2 := bit_s v (show t < 64 by omega)
    have go : ∀ (K : jm_I) (L1 : jm_L), FrM K J → (ch A m had s → ch A m had t → ¬ tQ A m had s t) → jE n rX10_turnOf 82 [.ref 111, .int (nI m), .long had, .null, .int (nI (bst A m had)), .long v, .null, .int (nI s), .int (nI t)] [] J L = jE n rX10_turnOf 82 [.ref 111, .int (nI m), .long had, .null, .int (nI (bst A m had)), .long v, .null, .int (nI s), .int (nI (t + 1))] [] K L1 → (∃ (t0 : Nat) (K : jm_I) (L' : jm_L), ch A m had s ∧ ch A m had t0 ∧ t0 < s ∧ tQ A m had s t0 ∧ (∀ t', ch A m had t' → t' < t0 → ¬ tQ A m had s t') ∧ FrM K J ∧ jE n rX10_turnOf 82 [.ref 111, .int (nI m), .long had, .null, .int (nI (bst A m had)), .long v, .null, .int (nI s), .int (nI t)] [] J L = some (some (.long (bt s ||| bt t0)), jS n K L')) ∨ ((∀ t', ch A m had s → ch A m had t' → t' < s → ¬ tQ A m had s t') ∧ ∃ (K : jm_I) (L' : jm_L), FrM K J ∧ jE n rX10_turnOf 82 [.ref 111, .int (nI m), .long had, .null, .int (nI (bst A m had)), .long v, .null, .int (nI s), .int (nI t)] [] J L = jE n rX10_turnOf 150 [.ref 111, .int (nI m), .long had, .null, .int (nI (bst A m had)), .long v, .null, .int (nI s), .int (nI s)] [] K L') := by
      intro K L1 hK hp e
      rw [e]
      rcases ih (t + 1) K L1 (by omega) (Mod_fr hA hM (FrM_S hK)) (fun t' hs' ht' hlt => by
        by_cases e : t' = t
        · subst e; exact hp hs' ht'
        · exact hn t' hs' ht' (by omega)) with ⟨t0, K', L', r1, r2, r3, r4, r5, r6, r7⟩ | ⟨r0, K', L', r1, r2⟩
      · exact Or.inl ⟨t0, K', L', r1, r2, r3, r4, r5, FrM_t hK r6, r7⟩
      · exact Or.inr ⟨r0, K', L', FrM_t hK r1, r2⟩
    by_cases hc : ch A m had s
    · rw [if_pos ((hv s hs4).mpr hc)] at hb
      by_cases hc2 : ch A m had t
      · rw [if_pos ((hv t ht4).mpr hc2)] at hb2
        obtain ⟨K, L1, b1, b2⟩ := mB n J A L hA hM ((had ||| bt s) ||| bt t) hm hT
        by_cases hp : tQ A m had s t
        · refine Or.inl ⟨t, K, L1, hc, hc2, hts, hp, fun t' ht' hlt => hn t' hc ht' hlt, b1, ?_⟩
          have hnq : ¬ nI (bst A m ((had ||| bt s) ||| bt t)) = nI (bst A m had) := fun w => hp ((bq hA hT m _ _).mp w)
          rw [hd0]
          simp only [eX10_turnOf_89, eX10_turnOf_101, eX10_turnOf_113, eX10_turnOf_134, hb, hb2, not_true_eq_false, if_false, bt_e, b2, jB_s, hnq]
        · have hq : nI (bst A m ((had ||| bt s) ||| bt t)) = nI (bst A m had) := (bq hA hT m _ _).mpr (Classical.not_not.mp hp)
          refine go K L1 b1 (fun _ _ => hp) ?_
          rw [hd0]
          simp only [eX10_turnOf_89, eX10_turnOf_101, eX10_turnOf_113, eX10_turnOf_144, hb, hb2, not_true_eq_false, if_false, if_true, bt_e, b2, jB_s, hq, nI_add]
      · rw [if_neg (fun w => hc2 ((hv t ht4).mp w))] at hb2
        refine go J L (FrM_0 J) (fun _ w => absurd w hc2) ?_
        rw [hd0]
        simp only [eX10_turnOf_89, eX10_turnOf_101, eX10_turnOf_144, hb, hb2, l10, not_true_eq_false, not_false_eq_true, if_false, if_true, nI_add]
    · rw [if_neg (fun w => hc ((hv s hs4).mp w))] at hb
      refine go J L (FrM_0 J) (fun w _ => absurd w hc) ?_
      rw [hd0]
      simp only [eX10_turnOf_89, eX10_turnOf_144, hb, l10, not_false_eq_true, if_true, nI_add]
theorem m_turn3 (n : Nat) (A : jm_I) (hA : Inv A) {m : Nat} (hm : m < 4) (had v : Int64) (hT : 0 < zT A) (hv : ∀ s, s < 40 → (tb v s = true ↔ ch A m had s)) : ∀ (d s : Nat) (J : jm_I) (L : jm_L) (v8 : Value), s + d = zN A → Mod J A → (∀ s' t', ch A m had s' → ch A m had t' → t' < s' → s' < s → ¬ tQ A m had s' t') → (∃ (s0 t0 : Nat) (K : jm_I) (L' : jm_L), T2 A m had s0 t0 ∧ FrM K J ∧ jE n rX10_turnOf 70 [.ref 111, .int (nI m), .long had, .null, .int (nI (bst A m had)), .long v, .null, .int (nI s), v8] [] J L = some (some (.long (bt s0 ||| bt t0)), jS n K L')) ∨ (T3 A m had ∧ ∃ (K : jm_I) (L' : jm_L), FrM K J ∧ jE n rX10_turnOf 70 [.ref 111, .int (nI m), .long had, .null, .int (nI (bst A m had)), .long v, .null, .int (nI s), v8] [] J L = some (some (.long (-9)), jS n K L')) := by
  obtain ⟨e8, hN⟩ := Inv_N hA
  intro d
  induction d with
  | zero =>
    intro s J L v8 hs hM hn
    have : s = zN A := by omega
    subst this
    have cc : nI (zN A) ≤ nI (zN A) := Int32.le_refl _
    refine Or.inr ⟨fun s' t' hs' ht' hlt => hn s' t' hs' ht' hlt hs'.1, J, L, FrM_0 J, ?_⟩
    simp only [eX10_turnOf_70, eX10_turnOf_156, M20 hA hM, cc, if_true]
  | succ d ih =>
    intro s J L v8 hs hM hn
    have cc : ¬ nI (zN A) ≤ nI s := nI_ge (by omega) (by omega)
    have hd0 : jE n rX10_turnOf 70 [.ref 111, .int (nI m), .long had, .null, .int (nI (bst A m had)), .long v, .null, .int (nI s), v8] [] J L = jE n rX10_turnOf 82 [.ref 111, .int (nI m), .long had, .null, .int (nI (bst A m had)), .long v, .null, .int (nI s), .int (nI 0)] [] J L := by
      simp only [eX10_turnOf_70, eX10_turnOf_79, M20 hA hM, cc, if_false]
    rw [hd0]
    rcases m_turn2 n A hA hm had v hT hv (show s < zN A by omega) s 0 J L (Nat.zero_add _) hM (fun t' _ _ hlt => absurd hlt (by omega)) with ⟨t0, K, L', r1, r2, r3, r4, r5, r6, r7⟩ | ⟨r0, K, L', r1, r2⟩
    · refine Or.inl ⟨s, t0, K, L', ⟨r1, r2, r3, r4, fun s' t' hs' ht' hlt hq => ?_⟩, r6, r7⟩
      rcases hq with q | ⟨q1, q2⟩
      · exact hn s' t' hs' ht' hlt q
      · subst q1; exact r5 t' ht' q2
    · have h1 : jE n rX10_turnOf 150 [.ref 111, .int (nI m), .long had, .null, .int (nI (bst A m had)), .long v, .null, .int (nI s), .int (nI s)] [] K L' = jE n rX10_turnOf 70 [.ref 111, .int (nI m), .long had, .null, .int (nI (bst A m had)), .long v, .null, .int (nI (s + 1)), .int (nI s)] [] K L' := by
        simp only [eX10_turnOf_150, nI_add]
      rw [r2, h1]
      rcases ih (s + 1) K L' (.int (nI s)) (by omega) (Mod_fr hA hM (FrM_S r1)) (fun s' t' hs' ht' hlt hq => by
        by_cases e : s' = s
        · subst e; exact r0 t' hs' ht' hlt
        · exact hn s' t' hs' ht' hlt (by omega)) with ⟨s0, t0, K', L'', q1, q2, q3⟩ | ⟨q0, K', L'', q1, q2⟩
      · exact Or.inl ⟨s0, t0, K', L'', q1, FrM_t r1 q2, q3⟩
      · exact Or.inr ⟨q0, K', L'', FrM_t r1 q1, q2⟩
theorem m_turnOf (n : Nat) (J A : jm_I) (L : jm_L) (hA : Inv A) (hM : Mod J A) {m : Nat} (hm : m < 4) (had : Int64) (hT : 0 < zT A) : ∃ (v : Int64) (K : jm_I) (L' : jm_L), tR1 A m had v ∧ FrM K J ∧ jE n rX10_turnOf 0 [.ref 111, .int (nI m), .long had, .null, .null, .null, .null, .null, .null] [] J L = some (some (.long v), jS n K L') := by
  obtain ⟨K, L1, b1, b2⟩ := mB n J A L hA hM had hm hT
  have hMK := Mod_fr hA hM (FrM_S b1)
  obtain ⟨v, hv, mo1⟩ := m_others n K A L1 hA hMK hm had
  have h0 : jE n rX10_turnOf 0 [.ref 111, .int (nI m), .long had, .null, .null, .null, .null, .null, .null] [] J L = jE n rX10_turnOf 19 [.ref 111, .int (nI m), .long had, .null, .int (nI (bst A m had)), .long v, .null, .int (nI 0), .null] [] K L1 := by
    simp only [eX10_turnOf_0, b2, mo1, jB_s]
  rw [h0]
  rcases m_turn1 n A hA hm had v hT hv (zN A) 0 K L1 (Nat.zero_add _) hMK (fun s' _ hlt => absurd hlt (by omega)) with ⟨s0, K', L', r1, r2, r3⟩ | ⟨r0, K', L', r1, r2⟩
  · exact ⟨bt s0, K', L', Or.inl ⟨s0, r1, rfl⟩, FrM_t b1 r2, r3⟩
  · have h1 : jE n rX10_turnOf 67 [.ref 111, .int (nI m), .long had, .null, .int (nI (bst A m had)), .long v, .null, .int (nI (zN A)), .null] [] K' L' = jE n rX10_turnOf 70 [.ref 111, .int (nI m), .long had, .null, .int (nI (bst A m had)), .long v, .null, .int (nI 0), .null] [] K' L' := by
      simp only [eX10_turnOf_67]
    rw [r2, h1]
    rcases m_turn3 n A hA hm had v hT hv (zN A) 0 K' L' .null (Nat.zero_add _) (Mod_fr hA hMK (FrM_S r1)) (fun s' t' _ _ _ hlt => absurd hlt (by omega)) with ⟨s0, t0, K2, L2, q1, q2, q3⟩ | ⟨q0, K2, L2, q1, q2⟩
    · exact ⟨bt s0 ||| bt t0, K2, L2, Or.inr (Or.inl ⟨r0, s0, t0, q1, lor_c _ _⟩), FrM_t b1 (FrM_t r1 q2), q3⟩
    · exact ⟨-9, K2, L2, Or.inr (Or.inr ⟨r0, q0, rfl⟩), FrM_t b1 (FrM_t r1 q1), q2⟩
theorem op_turn (n : Nat) (h d m : Int32) : Op n rX9_turn rX10_turn [.ref 9, .int h, .int d, .int m, .null, .null, .null] [.ref 111, .int h, .int d, .int m, .null] := by
  intro I L hI hM
  obtain ⟨eT, hT⟩ := Inv_T hI
  obtain ⟨e8, hN⟩ := Inv_N hI
  rcases wH_c I h d m with ⟨w0, hh, hm, h0, hz⟩ | ⟨w0, hq⟩ | ⟨w0, hh, hm, h0⟩ | ⟨w0, hh, hm, h0, hz⟩
  · obtain ⟨a, ha, ea, -⟩ := mo_ix hm
    obtain ⟨k, hk, ek⟩ := ix (by decide) hh
    subst ea; subst ek
    have hd : rg d 0 999 := rg_out (a := 0) (b := 999) (by decide) (by decide) hz
    have cc := c_came n I L (N := zN I) d hk hN e8
    obtain ⟨I1, L1, a1, a2, a3⟩ := cG n I I L hI (fun _ _ => rfl) (hasF I k d (zN I)) ha
    obtain ⟨v, I2, L2, c1, c2, c3⟩ := c_turning n I1 I L1 hI (FrJ_E a1 (fun _ _ => rfl)) ha (hasF I k d (zN I)) (by omega) a2
    have fC := FrC_t (FrJ_C a1) c2
    have hM1 := FrC_M hM fC
    have hne : ¬ nI (zT I) = 0 := fun q => h0 ((nT0 hT).mp q)
    obtain ⟨v', K, L3, b0, b1, b2⟩ := m_turnOf n I2 I L2 hI hM1 ha (hasF I k d (zN I)) (by omega)
    have ev := tR1_u b0 c1
    subst ev
    refine ⟨.long v', I2, L2, K, L3, ?_, ?_, Op_scr hI hM fC (FrM_S b1)⟩
    · simp [eX9_turn_0, eX9_turn_21, h_hold n I L hI, w0, jB_s, cc, a3, jB_v, c3]
    · simp [eX10_turn_0, eX10_turn_7, eX10_turn_21, eX10_turn_33, eX10_turn_42, eX10_turn_58, eX10_turn_69, m_isHolder, inb_t hh, jB_s, n10, m_isMoon, bmo_t ((Mod_mo hM1 _).mpr hm), M29 hI hM1, hne, m_out, hz, m_has n I2 I L2 d hk hI hM1 hd, b2]
  · refine Op_ref hI hM (.long (lr (-1))) (-1) ?_ ?_
    · simp [eX9_turn_0, eX9_turn_14, h_hold n I L hI, w0, jB_s, h_refuseLong n I L (-1) (by simp [isR])]
    · have hJ := Mod_ref hM (-1)
      rcases hq with hh | ⟨hh, hm⟩
      · simp [eX10_turn_0, eX10_turn_15, m_isHolder, inb_f hh, jB_s, n00t, m_noLong n _ L (-1) (by simp [isR])]
      · simp [eX10_turn_0, eX10_turn_7, eX10_turn_15, m_isHolder, inb_t hh, jB_s, n10, n00t, m_isMoon, bmo_f (fun q => hm ((Mod_mo hJ _).mp q)), m_noLong n _ L (-1) (by simp [isR])]
  · refine Op_ref hI hM (.long (lr (-3))) (-3) ?_ ?_
    · simp [eX9_turn_0, eX9_turn_14, h_hold n I L hI, w0, jB_s, h_refuseLong n I L (-3) (by simp [isR])]
    · have hJ := Mod_ref hM (-3)
      have z0 : nI (zT I) = 0 := by rw [h0]; rfl
      simp [eX10_turn_0, eX10_turn_7, eX10_turn_21, eX10_turn_28, eX10_turn_42, eX10_turn_49, eX10_turn_69, m_isHolder, inb_t hh, jB_s, n10, m_isMoon, bmo_t ((Mod_mo hJ _).mpr hm), M29 hI hJ, z0, m_noLong n _ L (-3) (by simp [isR])]
  · have hr := isR_of (isZ_out d (nI 0) (nI 999)) hz
    have hne : ¬ nI (zT I) = 0 := fun q => h0 ((nT0 hT).mp q)
    refine Op_ref hI hM (.long (lr (zout d (nI 0) (nI 999)))) (zout d (nI 0) (nI 999)) ?_ ?_
    · simp [eX9_turn_0, eX9_turn_14, h_hold n I L hI, w0, hz, jB_s, h_refuseLong n I L _ hr]
    · have hJ := Mod_ref hM (zout d (nI 0) (nI 999))
      simp [eX10_turn_0, eX10_turn_7, eX10_turn_21, eX10_turn_33, eX10_turn_42, eX10_turn_49, eX10_turn_69, m_isHolder, inb_t hh, jB_s, n10, m_isMoon, bmo_t ((Mod_mo hJ _).mpr hm), M29 hI hJ, hne, m_out, hz, m_noLong n _ L _ hr]
