theorem c_turn2 (n : Nat) (A : jm_I) (hA : Inv A) {m : Nat} (hm : m < 4) (had : Int64) (hT : 0 < zT A) {mi : Nat → Nat} (hmi : ∀ s, zin A m (tD had) s → mi (mc A m (tD had) s) = s) {F : Nat} (hF0 : F = min (mc A m (tD had) (zN A)) 8) {R : Nat → Int32} (hR : ∀ i, i < F → R i = nI (mi i)) {j : Nat} (hj : j < F) : ∀ (d i : Nat) (I : jm_I) (L : jm_L), i + d = j → E71 I A → I 73 = R → AF I L A m (fun t => fG A t m (had ||| bt (mi j))) → (∀ t, ch A m had t → mc A m (tD had) t < i → ¬ tQ A m had (mi j) t) → (∃ (t : Nat) (I' : jm_I) (L' : jm_L), ch A m had t ∧ t < mi j ∧ tQ A m had (mi j) t ∧ (∀ t', ch A m had t' → t' < t → ¬ tQ A m had (mi j) t') ∧ FrC I' I ∧ jE n rX1_turningSights 80 [.ref 71, .int (nI m), .long had, .null, .int (nI (bst A m had)), .int (nI F), .int (nI j), .int (nI i)] [] I L = some (some (.long (bt t ||| bt (mi j))), jS n I' L')) ∨ ((∀ t, ch A m had t → t < mi j → ¬ tQ A m had (mi j) t) ∧ ∃ (I' : jm_I) (L' : jm_L), FrJ I' I ∧ AF I' L' A m (fun t => fG A t m (had ||| bt (mi j))) ∧ jE n rX1_turningSights 80 [.ref 71, .int (nI m), .long had, .null, .int (nI (bst A m had)), .int (nI F), .int (nI j), .int (nI i)] [] I L = jE n rX1_turningSights 129 [.ref 71, .int (nI m), .long had, .null, .int (nI (bst A m had)), .int (nI F), .int (nI j), .int (nI j)] [] I' L') := by
  have hF8 : F ≤ 8 := by omega
  have hj8 : j < 8 := by omega
  obtain ⟨hcj, hmj⟩ := mi_ch hmi (i := j) (by omega)
  intro d
  induction d with
  | zero =>
    intro i I L hi hE h73 hF hn
    have : i = j := by omega
    subst this
    refine Or.inr ⟨fun t ht hlt => hn t ht (by have := (ch_lt hcj ht).mp hlt; omega), I, L, FrJ_0 I, hF, ?_⟩
    have cc : nI i ≤ nI i := Int32.le_refl _
    simp only [eX1_turningSights_80, cc, if_true]
  | succ d ih =>
    intro i I L hi hE h73 hF hn
    have hij : i < j := by omega
    have hi8 : i < 8 := by omega
    obtain ⟨hc, hmc⟩ := mi_ch hmi (i := i) (by omega)
    have hlt : mi i < mi j := (ch_lt hcj hc).mpr (by omega)
    have cc : ¬ nI j ≤ nI i := nI_ge hij (by omega)
    have e73 : I 73 i = nI (mi i) := by rw [h73]; exact hR i (by omega)
    obtain ⟨I1, L1, b1, b2, b3⟩ := c_bestWith n A hA hm (had ||| bt (mi j)) hc.1 (ch_fre2 hA hcj hc (by omega)) hT I L hE hF
    have e73' : I1 73 i = nI (mi i) := by rw [b1 73 (by omega)]; exact e73
    have e73j : I1 73 j = nI (mi j) := by rw [b1 73 (by omega), h73]; exact hR j hj
    have hd0 : jE n rX1_turningSights 80 [.ref 71, .int (nI m), .long had, .null, .int (nI (bst A m had)), .int (nI F), .int (nI j), .int (nI i)] [] I L = jE n rX1_turningSights 87 [.ref 71, .int (nI m), .long had, .null, .int (nI (bst A m had)), .int (nI F), .int (nI j), .int (nI i)] [] I L := by
      simp only [eX1_turningSights_80, cc, if_false]
    by_cases hp : tQ A m had (mi j) (mi i)
    · refine Or.inl ⟨mi i, I1, L1, hc, hlt, hp, fun t' ht' hlt' => hn t' ht' (by have := (ch_lt hc ht').mp hlt'; omega), FrJ_C b1, ?_⟩
      have hnq : ¬ nI (bst A m ((had ||| bt (mi j)) ||| bt (mi i))) = nI (bst A m had) := fun w => hp ((bq hA hT m _ _).mp w)
      rw [hd0]
      simp only [eX1_turningSights_87, eX1_turningSights_103, jLI_t, jLW_t, jLL_t, jLZ_t, jLA_t, hi8, hj8, e73, b3, jB_s, hnq, if_false, e73', e73j, bt_e]
    · have hq : nI (bst A m ((had ||| bt (mi j)) ||| bt (mi i))) = nI (bst A m had) := (bq hA hT m _ _).mpr (Classical.not_not.mp hp)
      have hst : jE n rX1_turningSights 80 [.ref 71, .int (nI m), .long had, .null, .int (nI (bst A m had)), .int (nI F), .int (nI j), .int (nI i)] [] I L = jE n rX1_turningSights 80 [.ref 71, .int (nI m), .long had, .null, .int (nI (bst A m had)), .int (nI F), .int (nI j), .int (nI (i + 1))] [] I1 L1 := by
        rw [hd0]
        simp only [eX1_turningSights_87, eX1_turningSights_123, jLI_t, jLW_t, jLL_t, jLZ_t, jLA_t, hi8, e73, b3, jB_s, hq, if_true, nI_add]
      rw [hst]
      rcases ih (i + 1) I1 L1 (by omega) (FrJ_E b1 hE) (by rw [b1 73 (by omega)]; exact h73) b2 (fun t ht hlt2 => by
        by_cases e : mc A m (tD had) t = i
        · have : t = mi i := by rw [← e]; exact (hmi t ht.2.1).symm
          rw [this]; exact hp
        · exact hn t ht (by omega)) with ⟨t, I', L', r1, r2, r3, r4, r5, r6⟩ | ⟨r0, I', L', r1, r2, r3⟩
      · exact Or.inl ⟨t, I', L', r1, r2, r3, r4, FrC_t (FrJ_C b1) r5, r6⟩
      · exact Or.inr ⟨r0, I', L', FrJ_t b1 r1, r2, r3⟩
theorem c_turn3 (n : Nat) (A : jm_I) (hA : Inv A) {m : Nat} (hm : m < 4) (had : Int64) (hT : 0 < zT A) {mi : Nat → Nat} (hmi : ∀ s, zin A m (tD had) s → mi (mc A m (tD had) s) = s) {F : Nat} (hF0 : F = min (mc A m (tD had) (zN A)) 8) {R : Nat → Int32} (hR : ∀ i, i < F → R i = nI (mi i)) : ∀ (d j : Nat) (I : jm_I) (L : jm_L) (v7 : Value), F ≤ j + d → j ≤ 9 → E71 I A → I 73 = R → AF I L A m (fun t => fG A t m had) → (∀ s t, ch A m had s → ch A m had t → t < s → mc A m (tD had) s < j → ¬ tQ A m had s t) → (∃ (s t : Nat) (I' : jm_I) (L' : jm_L), T2 A m had s t ∧ FrC I' I ∧ jE n rX1_turningSights 59 [.ref 71, .int (nI m), .long had, .null, .int (nI (bst A m had)), .int (nI F), .int (nI j), v7] [] I L = some (some (.long (bt t ||| bt s)), jS n I' L')) ∨ (T3 A m had ∧ ∃ (I' : jm_I) (L' : jm_L), FrC I' I ∧ jE n rX1_turningSights 59 [.ref 71, .int (nI m), .long had, .null, .int (nI (bst A m had)), .int (nI F), .int (nI j), v7] [] I L = some (some (.long (-9)), jS n I' L')) := by
  have hF8 : F ≤ 8 := by omega
  have hend : ∀ (j : Nat) (I : jm_I) (L : jm_L) (v7 : Value), F ≤ j → j ≤ 9 → (∀ s t, ch A m had s → ch A m had t → t < s → mc A m (tD had) s < j → ¬ tQ A m had s t) → T3 A m had ∧ ∃ (I' : jm_I) (L' : jm_L), FrC I' I ∧ jE n rX1_turningSights 59 [.ref 71, .int (nI m), .long had, .null, .int (nI (bst A m had)), .int (nI F), .int (nI j), v7] [] I L = some (some (.long (-9)), jS n I' L') := by
    intro j I L v7 hj hj9 hn
    refine ⟨fun s t hs ht hlt => hn s t hs ht hlt (by have := ch_F hs; omega), I, L, FrC_0 I, ?_⟩
    have cc : nI F ≤ nI j := Int32.le_iff_toInt_le.mpr (by rw [nI_toInt (by omega), nI_toInt (by omega)]; omega)
    simp only [eX1_turningSights_59, eX1_turningSights_146, cc, if_true]
  intro d
  induction d with
  | zero =>
    intro j I L v7 hj hj9 hE h73 hF hn
    exact Or.inr (hend j I L v7 (by omega) hj9 hn)
  | succ d ih =>
    intro j I L v7 hj hj9 hE h73 hF hn
    by_cases hFj : F ≤ j
    · exact Or.inr (hend j I L v7 hFj hj9 hn)
    · have hjF : j < F := by omega
      have hj8 : j < 8 := by omega
      obtain ⟨hcj, hmj⟩ := mi_ch hmi (i := j) (by omega)
      have cc : ¬ nI F ≤ nI j := nI_ge hjF (by omega)
      have e73 : I 73 j = nI (mi j) := by rw [h73]; exact hR j hjF
      obtain ⟨I1, L1, b1, b2, b3⟩ := c_addToAll n A hA hm had hcj.1 (ch_fre hA hcj) (zT A) 0 I L (Nat.zero_add _) hE (fun t ht => absurd ht (by omega)) (fun t _ ht => hF t ht)
      have b4 : jE n rX1_addToAll 0 [.ref 71, .int (nI (mi j)), .null] [] I L = some (none, jS n I1 L1) := by
        simp only [eX1_addToAll_0]
        exact b3
      have h0 : jE n rX1_turningSights 59 [.ref 71, .int (nI m), .long had, .null, .int (nI (bst A m had)), .int (nI F), .int (nI j), v7] [] I L = jE n rX1_turningSights 80 [.ref 71, .int (nI m), .long had, .null, .int (nI (bst A m had)), .int (nI F), .int (nI j), .int (nI 0)] [] I1 L1 := by
        simp only [eX1_turningSights_59, eX1_turningSights_66, cc, if_false, jLI_t, jLW_t, jLL_t, jLZ_t, jLA_t, hj8, e73, b4, jB_v]
      have h73' : I1 73 = R := by rw [b1 73 (by omega)]; exact h73
      rw [h0]
      rcases c_turn2 n A hA hm had hT hmi hF0 hR hjF j 0 I1 L1 (Nat.zero_add _) (FrJ_E b1 hE) h73' b2 (fun t ht hlt => absurd hlt (by omega)) with ⟨t, I', L', r1, r2, r3, r4, r5, r6⟩ | ⟨r0, I2, L2, r1, r2, r3⟩
      · refine Or.inl ⟨mi j, t, I', L', ⟨hcj, r1, r2, r3, fun s' t' hs' ht' hlt hq => ?_⟩, FrC_t (FrJ_C b1) r5, r6⟩
        rcases hq with q | ⟨q1, q2⟩
        · exact hn s' t' hs' ht' hlt (by have := (ch_lt hcj hs').mp q; omega)
        · subst q1; exact r4 t' ht' q2
      · have hE2 := FrJ_E r1 (FrJ_E b1 hE)
        have h732 : I2 73 = R := by rw [r1 73 (by omega)]; exact h73'
        have e732 : I2 73 j = nI (mi j) := by rw [h732]; exact hR j hjF
        obtain ⟨I3, L3, g1, g2, g3⟩ := c_dropAll n A hA hm had hcj.1 (ch_fre hA hcj) (zT A) 0 I2 L2 (Nat.zero_add _) hE2 (fun t ht => absurd ht (by omega)) (fun t _ ht => r2 t ht)
        have g4 : jE n rX1_dropFromAll 0 [.ref 71, .int (nI (mi j)), .null] [] I2 L2 = some (none, jS n I3 L3) := by
          simp only [eX1_dropFromAll_0]
          exact g3
        have h1 : jE n rX1_turningSights 129 [.ref 71, .int (nI m), .long had, .null, .int (nI (bst A m had)), .int (nI F), .int (nI j), .int (nI j)] [] I2 L2 = jE n rX1_turningSights 59 [.ref 71, .int (nI m), .long had, .null, .int (nI (bst A m had)), .int (nI F), .int (nI (j + 1)), .int (nI j)] [] I3 L3 := by
          simp only [eX1_turningSights_129, jLI_t, jLW_t, jLL_t, jLZ_t, jLA_t, hj8, e732, g4, jB_v, nI_add]
        rw [r3, h1]
        have fr : FrJ I3 I := FrJ_t b1 (FrJ_t r1 g1)
        rcases ih (j + 1) I3 L3 (.int (nI j)) (by omega) (by omega) (FrJ_E fr hE) (by rw [fr 73 (by omega)]; exact h73) g2 (fun s t hs ht hlt hq => by
          by_cases e : mc A m (tD had) s = j
          · have : s = mi j := by rw [← e]; exact (hmi s hs.2.1).symm
            subst this
            exact r0 t ht hlt
          · exact hn s t hs ht hlt (by omega)) with ⟨s, t, I', L', q1, q2, q3⟩ | ⟨q0, I', L', q1, q2⟩
        · exact Or.inl ⟨s, t, I', L', q1, FrC_t (FrJ_C fr) q2, q3⟩
        · exact Or.inr ⟨q0, I', L', FrC_t (FrJ_C fr) q1, q2⟩
theorem c_turning (n : Nat) (I A : jm_I) (L : jm_L) (hA : Inv A) (hE : E71 I A) {m : Nat} (hm : m < 4) (had : Int64) (hT : 0 < zT A) (hF : AF I L A m (fun t => fG A t m had)) : ∃ (v : Int64) (I' : jm_I) (L' : jm_L), tR1 A m had v ∧ FrC I' I ∧ jE n rX1_turningSights 0 [.ref 71, .int (nI m), .long had, .null, .null, .null, .null, .null] [] I L = some (some (.long v), jS n I' L') := by
  obtain ⟨mi, hmi⟩ := mi_ex A m (tD had)
  have cb := cB n I A L hA hE had hm hT hF
  obtain ⟨R, hR, cf⟩ := c_findOthers n I A L hA hE (m := m) had hmi
  have hE2 : E71 (jm_uA I 73 R) A := fun a ha => by rw [jm_uA_ne _ _ (by omega)]; exact hE a ha
  have fc0 : FrC (jm_uA I 73 R) I := fun a ha => jm_uA_ne _ _ (by omega)
  have hF2 : AF (jm_uA I 73 R) L A m (fun t => fG A t m had) := fun t ht => by
    have h := hF t ht
    have eB : jm_uA I 73 R (fB t) = I (fB t) := jm_uA_ne _ _ (by unfold fB; omega)
    have eT : jm_uA I 73 R (fT t) = I (fT t) := jm_uA_ne _ _ (by unfold fT; omega)
    exact ⟨by rw [eB]; exact h.k5, by rw [eB]; exact h.k6, by rw [eB]; exact h.k7, fun i hi => by rw [eT]; exact h.kT i hi, h.kS⟩
  have h0 : jE n rX1_turningSights 0 [.ref 71, .int (nI m), .long had, .null, .null, .null, .null, .null] [] I L = jE n rX1_turningSights 17 [.ref 71, .int (nI m), .long had, .null, .int (nI (bst A m had)), .int (nI (min (mc A m (tD had) (zN A)) 8)), .int (nI 0), .null] [] (jm_uA I 73 R) L := by
    simp only [eX1_turningSights_0, cb, cf, jB_s]
  rw [h0]
  rcases c_turn1 n A hA hm had hT hmi rfl hR (min (mc A m (tD had) (zN A)) 8) 0 (jm_uA I 73 R) L (by omega) (Nat.zero_le _) hE2 (iA_eq _ _ _) hF2 (fun s _ hlt => absurd hlt (by omega)) with ⟨s, I', L', r1, r2, r3⟩ | ⟨r0, I2, L2, i', r1, r2, r3⟩
  · exact ⟨bt s, I', L', Or.inl ⟨s, r1, rfl⟩, FrC_t fc0 r2, r3⟩
  · have h1 : jE n rX1_turningSights 56 [.ref 71, .int (nI m), .long had, .null, .int (nI (bst A m had)), .int (nI (min (mc A m (tD had) (zN A)) 8)), .int (nI i'), .null] [] I2 L2 = jE n rX1_turningSights 59 [.ref 71, .int (nI m), .long had, .null, .int (nI (bst A m had)), .int (nI (min (mc A m (tD had) (zN A)) 8)), .int (nI 1), .null] [] I2 L2 := by
      simp only [eX1_turningSights_56]
    rw [r3, h1]
    rcases c_turn3 n A hA hm had hT hmi rfl hR 8 1 I2 L2 .null (by omega) (by omega) (FrJ_E r1 hE2) (by rw [r1 73 (by omega)]; exact iA_eq _ _ _) r2 (fun s t hs ht hlt h1 => by have := (ch_lt hs ht).mp hlt; omega) with ⟨s, t, I', L', q1, q2, q3⟩ | ⟨q0, I', L', q1, q2⟩
    · exact ⟨bt t ||| bt s, I', L', Or.inr (Or.inl ⟨r0, s, t, q1, rfl⟩), FrC_t fc0 (FrC_t (FrJ_C r1) q2), q3⟩
    · exact ⟨-9, I', L', Or.inr (Or.inr ⟨r0, q0, rfl⟩), FrC_t fc0 (FrC_t (FrJ_C r1) q1), q2⟩
