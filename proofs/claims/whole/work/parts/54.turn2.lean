/-! turn: which sights, and what is found -/
theorem mc_surj (A : jm_I) (m : Nat) (set : Int64) : ∀ k i, i < mc A m set k → ∃ s, s < k ∧ zin A m set s ∧ mc A m set s = i := by
  intro k
  induction k with
  | zero => intro i h; exact absurd h (by simp [mc])
  | succ k ih =>
    intro i h
    by_cases q : zin A m set k
    · rw [mc_t q] at h
      by_cases e : i = mc A m set k
      · exact ⟨k, by omega, q, e.symm⟩
      · obtain ⟨s, h1, h2, h3⟩ := ih i (by omega)
        exact ⟨s, by omega, h2, h3⟩
    · rw [mc_f q] at h
      obtain ⟨s, h1, h2, h3⟩ := ih i h
      exact ⟨s, by omega, h2, h3⟩
theorem mi_ex (A : jm_I) (m : Nat) (set : Int64) : ∃ mi : Nat → Nat, ∀ s, zin A m set s → mi (mc A m set s) = s := by
  refine ⟨fun i => @dite _ (∃ s, zin A m set s ∧ mc A m set s = i) (Classical.propDecidable _) (fun h => Classical.choose h) (fun _ => 0), fun s hs => ?_⟩
  have hx : ∃ s', zin A m set s' ∧ mc A m set s' = mc A m set s := ⟨s, hs, rfl⟩
  have hc := Classical.choose_spec hx
  dsimp only
  rw [dif_pos hx]
  exact mc_inj hc.1 hs hc.2
def tD (had : Int64) : Int64 := had ^^^ (-1)
def ch (A : jm_I) (m : Nat) (had : Int64) (s : Nat) : Prop := s < zN A ∧ zin A m (tD had) s ∧ mc A m (tD had) s < 8
def tP (A : jm_I) (m : Nat) (had : Int64) (s : Nat) : Prop := ¬ bst A m (had ||| bt s) = bst A m had
def tQ (A : jm_I) (m : Nat) (had : Int64) (s t : Nat) : Prop := ¬ bst A m ((had ||| bt s) ||| bt t) = bst A m had
theorem ch_fre {A : jm_I} (hA : Inv A) {m : Nat} {had : Int64} {s : Nat} (h : ch A m had s) : fre A m had s := by
  have hN := (Inv_N hA).2
  have hs := h.1
  obtain ⟨q1, q2, q3⟩ := h.2.1
  refine ⟨?_, q2, q3⟩
  unfold tD at q1
  rw [tb_x had (show s < 40 by omega)] at q1
  cases e : tb had s with
  | false => rfl
  | true => rw [e] at q1; exact absurd q1 (by decide)
theorem ch_fre2 {A : jm_I} (hA : Inv A) {m : Nat} {had : Int64} {s t : Nat} (hs : ch A m had s) (ht : ch A m had t) (hne : t ≠ s) : fre A m (had ||| bt s) t := by
  have hN := (Inv_N hA).2
  have hs1 := hs.1
  obtain ⟨q1, q2, q3⟩ := ch_fre hA ht
  refine ⟨?_, q2, q3⟩
  rw [tb_or, q1, tb_bt (show s < 64 by omega)]
  simp [hne]
theorem ch_lt {A : jm_I} {m : Nat} {had : Int64} {s t : Nat} (hs : ch A m had s) (ht : ch A m had t) : t < s ↔ mc A m (tD had) t < mc A m (tD had) s := by
  constructor
  · intro h; exact mc_lt ht.2.1 h
  · intro h
    rcases Nat.lt_or_ge t s with q | q
    · exact q
    · by_cases e : s = t
      · subst e; omega
      · have := mc_lt hs.2.1 (show s < t by omega); omega
def T1 (A : jm_I) (m : Nat) (had : Int64) (s : Nat) : Prop := ch A m had s ∧ tP A m had s ∧ ∀ s', ch A m had s' → s' < s → ¬ tP A m had s'
def T0 (A : jm_I) (m : Nat) (had : Int64) : Prop := ∀ s, ch A m had s → ¬ tP A m had s
def T2 (A : jm_I) (m : Nat) (had : Int64) (s t : Nat) : Prop := ch A m had s ∧ ch A m had t ∧ t < s ∧ tQ A m had s t ∧ ∀ s' t', ch A m had s' → ch A m had t' → t' < s' → (s' < s ∨ (s' = s ∧ t' < t)) → ¬ tQ A m had s' t'
def T3 (A : jm_I) (m : Nat) (had : Int64) : Prop := ∀ s t, ch A m had s → ch A m had t → t < s → ¬ tQ A m had s t
def tR1 (A : jm_I) (m : Nat) (had : Int64) (v : Int64) : Prop := (∃ s, T1 A m had s ∧ v = bt s) ∨ (T0 A m had ∧ ∃ s t, T2 A m had s t ∧ v = bt t ||| bt s) ∨ (T0 A m had ∧ T3 A m had ∧ v = -9)
theorem tR1_u {A : jm_I} {m : Nat} {had v w : Int64} (h : tR1 A m had v) (g : tR1 A m had w) : v = w := by
  rcases h with ⟨s, ⟨a1, a2, a3⟩, e⟩ | ⟨h0, s, t, ⟨a1, a2, a3, a4, a5⟩, e⟩ | ⟨h0, h3, e⟩
  · rcases g with ⟨s', ⟨b1, b2, b3⟩, e'⟩ | ⟨g0, -⟩ | ⟨g0, -⟩
    · have : s = s' := by
        rcases Nat.lt_trichotomy s s' with q | q | q
        · exact absurd a2 (b3 s a1 q)
        · exact q
        · exact absurd b2 (a3 s' b1 q)
      rw [e, e', this]
    · exact absurd a2 (g0 s a1)
    · exact absurd a2 (g0 s a1)
  · rcases g with ⟨s', ⟨b1, b2, b3⟩, e'⟩ | ⟨g0, s', t', ⟨b1, b2, b3, b4, b5⟩, e'⟩ | ⟨g0, g3, e'⟩
    · exact absurd b2 (h0 s' b1)
    · have : s = s' ∧ t = t' := by
        rcases Nat.lt_trichotomy s s' with q | q | q
        · exact absurd a4 (b5 s t a1 a2 a3 (Or.inl q))
        · subst q
          rcases Nat.lt_trichotomy t t' with q | q | q
          · exact absurd a4 (b5 s t a1 a2 a3 (Or.inr ⟨rfl, q⟩))
          · exact ⟨rfl, q⟩
          · exact absurd b4 (a5 s t' b1 b2 b3 (Or.inr ⟨rfl, q⟩))
        · exact absurd b4 (a5 s' t' b1 b2 b3 (Or.inl q))
      rw [e, e', this.1, this.2]
    · exact absurd a4 (g3 s t a1 a2 a3)
  · rcases g with ⟨s', ⟨b1, b2, b3⟩, e'⟩ | ⟨g0, s', t', ⟨b1, b2, b3, b4, b5⟩, e'⟩ | ⟨g0, g3, e'⟩
    · exact absurd b2 (h0 s' b1)
    · exact absurd b4 (h3 s' t' b1 b2 b3)
    · rw [e, e']
/-! the class -/
theorem c_findOthers (n : Nat) (I A : jm_I) (L : jm_L) (hA : Inv A) (hE : E71 I A) {m : Nat} (had : Int64) {mi : Nat → Nat} (hmi : ∀ s, zin A m (tD had) s → mi (mc A m (tD had) s) = s) : ∃ R : Nat → Int32, (∀ i, i < min (mc A m (tD had) (zN A)) 8 → R i = nI (mi i)) ∧ jE n rX1_findOthers 0 [.ref 71, .int (nI m), .long had, .null, .null, .null] [] I L = some (some (.int (nI (min (mc A m (tD had) (zN A)) 8))), jS n (jm_uA I 73 R) L) := by
  obtain ⟨e8, hN⟩ := Inv_N hA
  have key : ∀ (d s : Nat) (R : Nat → Int32), s + d = zN A → mc A m (tD had) s ≤ 8 → (∀ i, i < mc A m (tD had) s → R i = nI (mi i)) → ∃ R' : Nat → Int32, (∀ i, i < min (mc A m (tD had) (zN A)) 8 → R' i = nI (mi i)) ∧ jE n rX1_findOthers 6 [.ref 71, .int (nI m), .long had, .null, .int (nI (mc A m (tD had) s)), .int (nI s)] [] (jm_uA I 73 R) L = some (some (.int (nI (min (mc A m (tD had) (zN A)) 8))), jS n (jm_uA I 73 R') L) := by
    intro d
    induction d with
    | zero =>
      intro s R hs h8 hR
      have : s = zN A := by omega
      subst this
      have eI : jm_uA I 73 R 26 8 = nI (zN A) := by rw [jm_uA_ne _ _ (by decide), hE 26 (by decide)]; exact e8
      have cc : nI (zN A) ≤ nI (zN A) := Int32.le_refl _
      have em : min (mc A m (tD had) (zN A)) 8 = mc A m (tD had) (zN A) := by omega
      rw [em]
      refine ⟨R, hR, ?_⟩
      simp only [eX1_findOthers_6, eX1_findOthers_67, eI, cc, if_true]
    | succ d ih =>
      intro s R hs h8 hR
      have hs4 : s < 40 := by omega
      have hE2 : E71 (jm_uA I 73 R) A := fun a ha => by rw [jm_uA_ne _ _ (by omega)]; exact hE a ha
      have eI : jm_uA I 73 R 26 8 = nI (zN A) := by rw [hE2 26 (by decide)]; exact e8
      have cc : ¬ nI (zN A) ≤ nI s := nI_ge (by omega) (by omega)
      have hd0 : jE n rX1_findOthers 6 [.ref 71, .int (nI m), .long had, .null, .int (nI (mc A m (tD had) s)), .int (nI s)] [] (jm_uA I 73 R) L = jE n rX1_findOthers 21 [.ref 71, .int (nI m), .long had, .null, .int (nI (mc A m (tD had) s)), .int (nI s)] [] (jm_uA I 73 R) L := by
        simp only [eX1_findOthers_6, eI, cc, if_false]
      rw [hd0]
      by_cases h88 : mc A m (tD had) s = 8
      · have hmo : 8 ≤ mc A m (tD had) (zN A) := by
          have := mc_mono A m (tD had) (zN A - s) s
          rw [show s + (zN A - s) = zN A by omega] at this
          omega
        have em : min (mc A m (tD had) (zN A)) 8 = 8 := by omega
        rw [em, h88]
        have c8 : nI 8 ≤ nI 8 := Int32.le_refl _
        refine ⟨R, fun i hi => hR i (by omega), ?_⟩
        simp only [eX1_findOthers_21, eX1_findOthers_67, c8, if_true]
      · have c8 : ¬ nI 8 ≤ nI (mc A m (tD had) s) := nI_ge (by omega) (by decide)
        have ci := c_isIn n (jm_uA I 73 R) L (m := m) (tD had) hs4
        have ci' : jE n rX3_isIn 0 [.ref 26, .int (nI s), .int (nI m), .long (had ^^^ (-1)), .null] [] (jm_uA I 73 R) L = some (some (.int (@ite _ (zin (jm_uA I 73 R) m (tD had) s) (zinD (jm_uA I 73 R) m (tD had) s) (nI 1) (nI 0))), jS n (jm_uA I 73 R) L) := ci
        by_cases q : zin A m (tD had) s
        · rw [if_pos ((E_zin hE2 m (tD had) s).mpr q)] at ci'
          obtain ⟨R', r1, r2⟩ := ih (s + 1) (upd R (mc A m (tD had) s) (nI s)) (by omega) (by rw [mc_t q]; omega) (fun i hi => by
            rw [mc_t q] at hi
            rw [upd_ap]
            by_cases e : i = mc A m (tD had) s
            · rw [if_pos e, e, hmi s q]
            · rw [if_neg e]; exact hR i (by omega))
          refine ⟨R', r1, ?_⟩
          rw [mc_t q] at r2
          have hk : mc A m (tD had) s < 8 := by omega
          simp only [eX1_findOthers_21, eX1_findOthers_28, eX1_findOthers_49, eX1_findOthers_61, c8, if_false, ci', jB_s, n10, jLI_t, jLW_t, jLL_t, jLZ_t, jLA_t, hk, iA_u, nI_add]
          exact r2
        · rw [if_neg (fun w => q ((E_zin hE2 m (tD had) s).mp w))] at ci'
          obtain ⟨R', r1, r2⟩ := ih (s + 1) R (by omega) (by rw [mc_f q]; omega) (by rw [mc_f q]; exact hR)
          refine ⟨R', r1, ?_⟩
          rw [mc_f q] at r2
          simp only [eX1_findOthers_21, eX1_findOthers_28, eX1_findOthers_61, c8, if_false, ci', jB_s, n00t, if_true, nI_add]
          exact r2
  obtain ⟨R, r1, r2⟩ := key (zN A) 0 (I 73) (Nat.zero_add _) (Nat.zero_le _) (fun i hi => absurd hi (by simp [mc]))
  rw [iA_0] at r2
  refine ⟨R, r1, ?_⟩
  simp only [eX1_findOthers_0]
  exact r2
theorem mi_ch {A : jm_I} {m : Nat} {had : Int64} {mi : Nat → Nat} (hmi : ∀ s, zin A m (tD had) s → mi (mc A m (tD had) s) = s) {i : Nat} (hi : i < min (mc A m (tD had) (zN A)) 8) : ch A m had (mi i) ∧ mc A m (tD had) (mi i) = i := by
  obtain ⟨s, h1, h2, h3⟩ := mc_surj A m (tD had) (zN A) i (by omega)
  have e : mi i = s := by rw [← h3]; exact hmi s h2
  rw [e]
  exact ⟨⟨h1, h2, by omega⟩, h3⟩
theorem ch_F {A : jm_I} {m : Nat} {had : Int64} {s : Nat} (h : ch A m had s) : mc A m (tD had) s < min (mc A m (tD had) (zN A)) 8 := by
  have h1 := mc_lt h.2.1 h.1
  have h2 := h.2.2
  omega
theorem bq {A : jm_I} (hA : Inv A) (hT : 0 < zT A) (m : Nat) (x y : Int64) : nI (bst A m x) = nI (bst A m y) ↔ bst A m x = bst A m y := by
  have h8 := (Inv_T hA).2
  have h1 := (bst_e hT m x).2
  have h2 := (bst_e hT m y).2
  exact nI_inj (by omega) (by omega)
theorem c_turn1 (n : Nat) (A : jm_I) (hA : Inv A) {m : Nat} (hm : m < 4) (had : Int64) (hT : 0 < zT A) {mi : Nat → Nat} (hmi : ∀ s, zin A m (tD had) s → mi (mc A m (tD had) s) = s) {F : Nat} (hF0 : F = min (mc A m (tD had) (zN A)) 8) {R : Nat → Int32} (hR : ∀ i, i < F → R i = nI (mi i)) : ∀ (d i : Nat) (I : jm_I) (L : jm_L), F ≤ i + d → i ≤ F → E71 I A → I 73 = R → AF I L A m (fun t => fG A t m had) → (∀ s, ch A m had s → mc A m (tD had) s < i → ¬ tP A m had s) → (∃ (s : Nat) (I' : jm_I) (L' : jm_L), T1 A m had s ∧ FrC I' I ∧ jE n rX1_turningSights 17 [.ref 71, .int (nI m), .long had, .null, .int (nI (bst A m had)), .int (nI F), .int (nI i), .null] [] I L = some (some (.long (bt s)), jS n I' L')) ∨ (T0 A m had ∧ ∃ (I' : jm_I) (L' : jm_L) (i' : Nat), FrJ I' I ∧ AF I' L' A m (fun t => fG A t m had) ∧ jE n rX1_turningSights 17 [.ref 71, .int (nI m), .long had, .null, .int (nI (bst A m had)), .int (nI F), .int (nI i), .null] [] I L = jE n rX1_turningSights 56 [.ref 71, .int (nI m), .long had, .null, .int (nI (bst A m had)), .int (nI F), .int (nI i'), .null] [] I' L') := by
  have hF8 : F ≤ 8 := by omega
  have hend : ∀ (i : Nat) (I : jm_I) (L : jm_L), F ≤ i → i < 1000 → AF I L A m (fun t => fG A t m had) → (∀ s, ch A m had s → mc A m (tD had) s < i → ¬ tP A m had s) → T0 A m had ∧ ∃ (I' : jm_I) (L' : jm_L) (i' : Nat), FrJ I' I ∧ AF I' L' A m (fun t => fG A t m had) ∧ jE n rX1_turningSights 17 [.ref 71, .int (nI m), .long had, .null, .int (nI (bst A m had)), .int (nI F), .int (nI i), .null] [] I L = jE n rX1_turningSights 56 [.ref 71, .int (nI m), .long had, .null, .int (nI (bst A m had)), .int (nI F), .int (nI i'), .null] [] I' L' := by
    intro i I L hi hi2 hF hn
    refine ⟨fun s hs => hn s hs (by have := ch_F hs; omega), I, L, i, FrJ_0 I, hF, ?_⟩
    have cc : nI F ≤ nI i := Int32.le_iff_toInt_le.mpr (by rw [nI_toInt (by omega), nI_toInt (by omega)]; omega)
    simp only [eX1_turningSights_17, cc, if_true]
  have key : ∀ (d i : Nat) (I : jm_I) (L : jm_L), F ≤ i + d → i ≤ F → E71 I A → I 73 = R → AF I L A m (fun t => fG A t m had) → (∀ s, ch A m had s → mc A m (tD had) s < i → ¬ tP A m had s) → (∃ (s : Nat) (I' : jm_I) (L' : jm_L), T1 A m had s ∧ FrC I' I ∧ jE n rX1_turningSights 17 [.ref 71, .int (nI m), .long had, .null, .int (nI (bst A m had)), .int (nI F), .int (nI i), .null] [] I L = some (some (.long (bt s)), jS n I' L')) ∨ (T0 A m had ∧ ∃ (I' : jm_I) (L' : jm_L) (i' : Nat), FrJ I' I ∧ AF I' L' A m (fun t => fG A t m had) ∧ jE n rX1_turningSights 17 [.ref 71, .int (nI m), .long had, .null, .int (nI (bst A m had)), .int (nI F), .int (nI i), .null] [] I L = jE n rX1_turningSights 56 [.ref 71, .int (nI m), .long had, .null, .int (nI (bst A m had)), .int (nI F), .int (nI i'), .null] [] I' L') := by
    intro d
    induction d with
    | zero =>
      intro i I L hi hiF hE h73 hF hn
      exact Or.inr (hend i I L (by omega) (by omega) hF hn)
    | succ d ih =>
      intro i I L hi hiF hE h73 hF hn
      by_cases hFi : F ≤ i
      · exact Or.inr (hend i I L hFi (by omega) hF hn)
      · have hiF2 : i < F := by omega
        have hi8 : i < 8 := by omega
        obtain ⟨hc, hmc⟩ := mi_ch hmi (i := i) (by omega)
        have cc : ¬ nI F ≤ nI i := nI_ge hiF2 (by omega)
        have e73 : I 73 i = nI (mi i) := by rw [h73]; exact hR i hiF2
        obtain ⟨I1, L1, b1, b2, b3⟩ := c_bestWith n A hA hm had hc.1 (ch_fre hA hc) hT I L hE hF
        have e73' : I1 73 i = nI (mi i) := by rw [b1 73 (by omega)]; exact e73
        have hd0 : jE n rX1_turningSights 17 [.ref 71, .int (nI m), .long had, .null, .int (nI (bst A m had)), .int (nI F), .int (nI i), .null] [] I L = jE n rX1_turningSights 24 [.ref 71, .int (nI m), .long had, .null, .int (nI (bst A m had)), .int (nI F), .int (nI i), .null] [] I L := by
          simp only [eX1_turningSights_17, cc, if_false]
        by_cases hp : tP A m had (mi i)
        · refine Or.inl ⟨mi i, I1, L1, ⟨hc, hp, fun s' hs' hlt => hn s' hs' (by have := (ch_lt hc hs').mp hlt; omega)⟩, FrJ_C b1, ?_⟩
          have hnq : ¬ nI (bst A m (had ||| bt (mi i))) = nI (bst A m had) := fun w => hp ((bq hA hT m _ _).mp w)
          rw [hd0]
          simp only [eX1_turningSights_24, eX1_turningSights_40, jLI_t, jLW_t, jLL_t, jLZ_t, jLA_t, hi8, e73, b3, jB_s, hnq, if_false, e73', bt_e]
        · have hq : nI (bst A m (had ||| bt (mi i))) = nI (bst A m had) := (bq hA hT m _ _).mpr (Classical.not_not.mp hp)
          have hst : jE n rX1_turningSights 17 [.ref 71, .int (nI m), .long had, .null, .int (nI (bst A m had)), .int (nI F), .int (nI i), .null] [] I L = jE n rX1_turningSights 17 [.ref 71, .int (nI m), .long had, .null, .int (nI (bst A m had)), .int (nI F), .int (nI (i + 1)), .null] [] I1 L1 := by
            rw [hd0]
            simp only [eX1_turningSights_24, eX1_turningSights_50, jLI_t, jLW_t, jLL_t, jLZ_t, jLA_t, hi8, e73, b3, jB_s, hq, if_true, nI_add]
          rw [hst]
          rcases ih (i + 1) I1 L1 (by omega) (by omega) (FrJ_E b1 hE) (by rw [b1 73 (by omega)]; exact h73) b2 (fun s hs hlt => by
            by_cases e : mc A m (tD had) s = i
            · have : s = mi i := by rw [← e]; exact (hmi s hs.2.1).symm
              rw [this]; exact hp
            · exact hn s hs (by omega)) with ⟨s, I', L', r1, r2, r3⟩ | ⟨r0, I', L', i', r1, r2, r3⟩
          · exact Or.inl ⟨s, I', L', r1, FrC_t (FrJ_C b1) r2, r3⟩
          · exact Or.inr ⟨r0, I', L', i', FrJ_t b1 r1, r2, r3⟩
  exact key
