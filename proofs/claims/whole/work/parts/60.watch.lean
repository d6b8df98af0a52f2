/-! watch -/
abbrev wok (nn S : Nat) : Prop := cnt S 12 = nn
def wf (A : jm_I) (m a S : Nat) : Int := -wv A m a S
def wl1 (A : jm_I) (m a : Nat) : Option Nat → Int64
  | none => -1
  | some j => lZ (wv A m a j)
theorem wv_rg {A : jm_I} (h : Inv A) {m a N S : Nat} (hm : m < 4) (ha : a + N ≤ 1000) (hN : N ≤ 12) (hS : S < 2 ^ N) : 0 ≤ wv A m a S ∧ wv A m a S ≤ 160000000000 := by
  have h8 := (Inv_T h).2
  have := wst_rg h hm ha hN hS (zT A) h8
  unfold wv
  omega
theorem wl_n {x : Int} (h : 0 ≤ x ∧ x ≤ 160000000000) : ¬ lZ x ≤ (-1 : Int64) := fun w => by
  rw [show (-1 : Int64) = lZ (-1) from by decide] at w
  have := (lZ_le (a := x) (b := -1) ⟨by omega, by omega⟩ ⟨by omega, by omega⟩).mp w
  omega
theorem c_bestNights (n : Nat) (I A : jm_I) (L : jm_L) (hA : Inv A) {m a N nn : Nat} (hm : m < 4) (ha : a + N ≤ 1000) (hN : N ≤ 12) (hn4 : nn ≤ 4) (h4 : I 107 4 = nI (pij (zT A))) (hG : Gps (L 109) A m a N (zT A) 0) : ∃ R : Nat → Int32, jE n rX7_bestNights 0 [.ref 107, .int (nI N), .int (nI nn), .null, .null, .null, .null, .null, .null] [] I L = some (some (.int (rb1 (amin (wf A m a) (wok nn) (2 ^ N)))), jS n (jm_uA I 110 R) L) := by
  have hp := p12 hN
  have hsh := shl_N hN
  have key : ∀ (d S : Nat) (R : Nat → Int32) (v7 v8 : Value), S + d = 2 ^ N → ∃ R' : Nat → Int32, jE n rX7_bestNights 10 [.ref 107, .int (nI N), .int (nI nn), .long (wl1 A m a (amin (wf A m a) (wok nn) S)), .null, .int (rb1 (amin (wf A m a) (wok nn) S)), .int (nI S), v7, v8] [] (jm_uA I 110 R) L = some (some (.int (rb1 (amin (wf A m a) (wok nn) (2 ^ N)))), jS n (jm_uA I 110 R') L) := by
    intro d
    induction d with
    | zero =>
      intro S R v7 v8 hS
      have : S = 2 ^ N := by omega
      subst this
      have cc : nI (2 ^ N) ≤ nI (2 ^ N) := Int32.le_refl _
      refine ⟨R, ?_⟩
      simp only [eX7_bestNights_10, eX7_bestNights_61, hsh, cc, if_true]
    | succ d ih =>
      intro S R v7 v8 hS
      have hSN : S < 2 ^ N := by omega
      have hS4 : S < 4096 := by omega
      have cc : ¬ nI (2 ^ N) ≤ nI S := nI_ge hSN (by omega)
      have hd0 : ∀ x y, jE n rX7_bestNights 10 [.ref 107, .int (nI N), .int (nI nn), x, .null, y, .int (nI S), v7, v8] [] (jm_uA I 110 R) L = jE n rX7_bestNights 18 [.ref 107, .int (nI N), .int (nI nn), x, .null, y, .int (nI S), v7, v8] [] (jm_uA I 110 R) L := by
        intro x y
        simp only [eX7_bestNights_10, hsh, cc, if_false]
      rw [hd0]
      have cb := c_bitCount n (jm_uA I 110 R) L hS4
      have hc12 := cnt_le S 12
      by_cases hk : wok nn S
      · have ek : nI (cnt S 12) = nI nn := by rw [hk]
        have hcN : cnt S N = nn := by
          have := cnt_hi hSN (12 - N)
          rw [show N + (12 - N) = 12 by omega] at this
          rw [← this]; exact hk
        obtain ⟨R1, p1, p2⟩ := c_pick n (jm_uA I 110 R) L (S := S) hN
        rw [iA_A] at p2
        have g1 := c_gaps n (jm_uA I 110 R1) A L hA hm ha hN hSN hcN hn4 (by rw [jm_uA_ne _ _ (by decide)]; exact h4) hG (fun b hb ht hc => by rw [iA_eq]; exact p1 b hb ht hc)
        have hv := wv_rg hA hm ha hN hSN
        cases e : amin (wf A m a) (wok nn) S with
        | none =>
          obtain ⟨R', r⟩ := ih (S + 1) R1 (.long (lZ (wv A m a S))) .null (by omega)
          rw [amin_0 hk e] at r
          have hc : ¬ lZ (wv A m a S) ≤ wl1 A m a none := wl_n hv
          refine ⟨R', ?_⟩
          simp only [eX7_bestNights_18, eX7_bestNights_27, eX7_bestNights_48, eX7_bestNights_55, cb, jB_s, jB_v, ek, not_true_eq_false, if_false, p2, g1, hc, nI_add]
          exact r
        | some j =>
          have hj := (amin_s e).1
          have hvj := wv_rg hA hm ha hN (show j < 2 ^ N by omega)
          have hc : lZ (wv A m a S) ≤ wl1 A m a (some j) ↔ wv A m a S ≤ wv A m a j := lZ_le ⟨by omega, by omega⟩ ⟨by omega, by omega⟩
          obtain ⟨R', r⟩ := ih (S + 1) R1 (.long (lZ (wv A m a S))) .null (by omega)
          refine ⟨R', ?_⟩
          by_cases hlt : wf A m a S < wf A m a j
          · rw [amin_l hk e hlt] at r
            have hc2 : ¬ lZ (wv A m a S) ≤ wl1 A m a (some j) := fun w => by have := hc.mp w; unfold wf at hlt; omega
            simp only [eX7_bestNights_18, eX7_bestNights_27, eX7_bestNights_48, eX7_bestNights_55, cb, jB_s, jB_v, ek, not_true_eq_false, if_false, p2, g1, hc2, nI_add]
            exact r
          · rw [amin_g hk e hlt] at r
            have hc2 : lZ (wv A m a S) ≤ wl1 A m a (some j) := hc.mpr (by unfold wf at hlt; omega)
            simp only [eX7_bestNights_18, eX7_bestNights_27, eX7_bestNights_55, cb, jB_s, jB_v, ek, not_true_eq_false, if_false, p2, g1, hc2, if_true, nI_add]
            exact r
      · have ek : ¬ nI (cnt S 12) = nI nn := fun w => hk ((nI_inj (by omega) (by omega)).mp w)
        obtain ⟨R', r⟩ := ih (S + 1) R v7 v8 (by omega)
        rw [amin_n hk] at r
        refine ⟨R', ?_⟩
        simp only [eX7_bestNights_18, eX7_bestNights_55, cb, jB_s, ek, not_false_eq_true, if_true, nI_add]
        exact r
  obtain ⟨R, r⟩ := key (2 ^ N) 0 (I 110) .null .null (Nat.zero_add _)
  rw [iA_0] at r
  refine ⟨R, ?_⟩
  simp only [eX7_bestNights_0]
  exact r
/-! the model -/
theorem m_bits (n : Nat) (J : jm_I) (L : jm_L) {S : Nat} (hS : S < 4096) : jE n rX10_bits 0 [.int (nI S), .null, .null] [] J L = some (some (.int (nI (cnt S 12))), jS n J L) := by
  have e31 : cnt S 31 = cnt S 12 := cnt_hi (N := 12) hS 19
  have key : ∀ (d k : Nat), k + d = 31 → jE n rX10_bits 4 [.int (nI S), .int (nI (cnt S k)), .int (nI k)] [] J L = some (some (.int (nI (cnt S 12))), jS n J L) := by
    intro d
    induction d with
    | zero =>
      intro k hk
      have : k = 31 := by omega
      subst this
      have cc : nI 31 ≤ nI 31 := Int32.le_refl _
      simp only [eX10_bits_4, eX10_bits_24, cc, if_true, e31]
    | succ d ih =>
      intro k hk
      have cc : ¬ nI 31 ≤ nI k := nI_ge (by omega) (by decide)
      have hd0 : ∀ x, jE n rX10_bits 4 [.int (nI S), x, .int (nI k)] [] J L = jE n rX10_bits 10 [.int (nI S), x, .int (nI k)] [] J L := by
        intro x
        simp only [eX10_bits_4, cc, if_false]
      rw [hd0]
      have hb := ib (S := S) (k := k) (by omega)
      have ih2 := ih (k + 1) (by omega)
      by_cases q : S.testBit k = true
      · rw [if_pos q] at hb
        rw [cnt_t q] at ih2
        simp only [eX10_bits_10, hb, nI_add]
        exact ih2
      · rw [if_neg q] at hb
        rw [cnt_f q] at ih2
        simp only [eX10_bits_10, hb, nI_add, Nat.add_zero]
        exact ih2
  simp only [eX10_bits_0]
  exact key 31 0 rfl
theorem m_wat_k (n : Nat) (K A : jm_I) (L : jm_L) (hA : Inv A) (hM : Mod K A) {t u m a N S : Nat} (ht : t < zT A) (hu : u < zT A) (hm : m < 4) (ha : a + N ≤ 1000) (hN : N ≤ 12) (hS : S < 2 ^ N) (hf : ∀ t, t < zT A → K 142 t = nI (aν A t m)) (v4 : Value) : ∀ (d k : Nat) (v11 v12 : Value), k + d = 12 → ∃ w11 w12 : Value, jE n rX10_watched 31 [.ref 111, .int (nI m), .int (nI a), .int (nI S), v4, .null, .int (nI t), .int (nI u), .long (lZ (wmx (fun k => zgp A t u m (a + k)) S k)), .null, .int (nI k), v11, v12] [] K L = jE n rX10_watched 88 [.ref 111, .int (nI m), .int (nI a), .int (nI S), v4, .null, .int (nI t), .int (nI u), .long (lZ (wmx (fun k => zgp A t u m (a + k)) S 12)), .null, .int (nI 12), w11, w12] [] K L := by
  have h8 := (Inv_T hA).2
  intro d
  induction d with
  | zero =>
    intro k v11 v12 hk
    have : k = 12 := by omega
    subst this
    have cc : nI 12 ≤ nI 12 := Int32.le_refl _
    refine ⟨v11, v12, ?_⟩
    simp only [eX10_watched_31, cc, if_true]
  | succ d ih =>
    intro k v11 v12 hk
    have cc : ¬ nI 12 ≤ nI k := nI_ge (by omega) (by decide)
    have hd0 : ∀ x, jE n rX10_watched 31 [.ref 111, .int (nI m), .int (nI a), .int (nI S), v4, .null, .int (nI t), .int (nI u), x, .null, .int (nI k), v11, v12] [] K L = jE n rX10_watched 38 [.ref 111, .int (nI m), .int (nI a), .int (nI S), v4, .null, .int (nI t), .int (nI u), x, .null, .int (nI k), v11, v12] [] K L := by
      intro x
      simp only [eX10_watched_31, cc, if_false]
    rw [hd0]
    have hb := ib (S := S) (k := k) (by omega)
    by_cases q : S.testBit k = true
    · rw [if_pos q] at hb
      have hkN : k < N := by
        rcases Nat.lt_or_ge k N with w | w
        · exact w
        · exact absurd q (tB_hi hS w)
      have ma := m_apartAt n K A L hA hM ht hu hm (show a + k < 1000 by omega) hf
      have hw := wmx_rg (gN_rg hA (show t < 8 by omega) (show u < 8 by omega) hm ha) S k (by omega)
      have hg := gN_rg hA (show t < 8 by omega) (show u < 8 by omega) hm ha k hkN
      have hc : lZ (zgp A t u m (a + k)) ≤ lZ (wmx (fun k => zgp A t u m (a + k)) S k) ↔ zgp A t u m (a + k) ≤ wmx (fun k => zgp A t u m (a + k)) S k := lZ_le ⟨by omega, by omega⟩ ⟨by omega, by omega⟩
      obtain ⟨w11, w12, r⟩ := ih (k + 1) (.long (lZ (zgp A t u m (a + k)))) .null (by omega)
      rw [wmx_t q] at r
      refine ⟨w11, w12, ?_⟩
      by_cases hlt : wmx (fun k => zgp A t u m (a + k)) S k < zgp A t u m (a + k)
      · rw [if_pos hlt] at r
        have hc2 : ¬ lZ (zgp A t u m (a + k)) ≤ lZ (wmx (fun k => zgp A t u m (a + k)) S k) := fun w => by have := hc.mp w; omega
        simp only [eX10_watched_38, eX10_watched_50, eX10_watched_73, eX10_watched_80, eX10_watched_82, hb, n10, not_false_eq_true, if_true, nI_add, ma, jB_s, hc2, if_false]
        exact r
      · rw [if_neg hlt] at r
        have hc2 : lZ (zgp A t u m (a + k)) ≤ lZ (wmx (fun k => zgp A t u m (a + k)) S k) := hc.mpr (by omega)
        simp only [eX10_watched_38, eX10_watched_50, eX10_watched_78, eX10_watched_80, eX10_watched_82, hb, n10, not_false_eq_true, if_true, nI_add, ma, jB_s, hc2]
        exact r
    · rw [if_neg q] at hb
      obtain ⟨w11, w12, r⟩ := ih (k + 1) v11 v12 (by omega)
      rw [wmx_f q] at r
      refine ⟨w11, w12, ?_⟩
      simp only [eX10_watched_38, eX10_watched_47, eX10_watched_82, hb, n00t, not_true_eq_false, if_false, nI_add]
      exact r
theorem m_wat_u (n : Nat) (K A : jm_I) (L : jm_L) (hA : Inv A) (hM : Mod K A) {t m a N S : Nat} (ht : t < zT A) (hm : m < 4) (ha : a + N ≤ 1000) (hN : N ≤ 12) (hS : S < 2 ^ N) (hf : ∀ t, t < zT A → K 142 t = nI (aν A t m)) : ∀ (d u : Nat) (v8 v9 v10 v11 v12 : Value), u + d = t → ∃ w8 w9 w10 w11 w12 : Value, jE n rX10_watched 18 [.ref 111, .int (nI m), .int (nI a), .int (nI S), .long (lZ (wst A m a S t + wsu A m a S t u)), .null, .int (nI t), .int (nI u), v8, v9, v10, v11, v12] [] K L = jE n rX10_watched 101 [.ref 111, .int (nI m), .int (nI a), .int (nI S), .long (lZ (wst A m a S (t + 1))), .null, .int (nI t), .int (nI t), w8, w9, w10, w11, w12] [] K L := by
  have h8 := (Inv_T hA).2
  intro d
  induction d with
  | zero =>
    intro u v8 v9 v10 v11 v12 hu
    have : u = t := by omega
    subst this
    have cc : nI u ≤ nI u := Int32.le_refl _
    refine ⟨v8, v9, v10, v11, v12, ?_⟩
    simp only [eX10_watched_18, cc, if_true]
    rfl
  | succ d ih =>
    intro u v8 v9 v10 v11 v12 hu
    have hut : u < t := by omega
    have cc : ¬ nI t ≤ nI u := nI_ge hut (by omega)
    obtain ⟨w11, w12, ck⟩ := m_wat_k n K A L hA hM ht (show u < zT A by omega) hm ha hN hS hf (.long (lZ (wst A m a S t + wsu A m a S t u))) 12 0 v11 v12 rfl
    have hd0 : jE n rX10_watched 18 [.ref 111, .int (nI m), .int (nI a), .int (nI S), .long (lZ (wst A m a S t + wsu A m a S t u)), .null, .int (nI t), .int (nI u), v8, v9, v10, v11, v12] [] K L = jE n rX10_watched 31 [.ref 111, .int (nI m), .int (nI a), .int (nI S), .long (lZ (wst A m a S t + wsu A m a S t u)), .null, .int (nI t), .int (nI u), .long (lZ (wmx (fun k => zgp A t u m (a + k)) S 0)), .null, .int (nI 0), v11, v12] [] K L := by
      simp only [eX10_watched_18, eX10_watched_25, cc, if_false]
      rfl
    have e : wst A m a S t + wsu A m a S t (u + 1) = wst A m a S t + wsu A m a S t u + wmx (fun k => zgp A t u m (a + k)) S 12 := by
      show wst A m a S t + (wsu A m a S t u + wmx (fun k => zgp A t u m (a + k)) S 12) = _
      omega
    obtain ⟨x8, x9, x10, x11, x12, r⟩ := ih (u + 1) (.long (lZ (wmx (fun k => zgp A t u m (a + k)) S 12))) .null (.int (nI 12)) w11 w12 (by omega)
    rw [e] at r
    refine ⟨x8, x9, x10, x11, x12, ?_⟩
    rw [hd0, ck]
    simp only [eX10_watched_88, lZ_add, nI_add]
    exact r
theorem m_watched (n : Nat) (K A : jm_I) (L : jm_L) (hA : Inv A) (hM : Mod K A) {m a N S : Nat} (hm : m < 4) (ha : a + N ≤ 1000) (hN : N ≤ 12) (hS : S < 2 ^ N) (hf : ∀ t, t < zT A → K 142 t = nI (aν A t m)) : jE n rX10_watched 0 [.ref 111, .int (nI m), .int (nI a), .int (nI S), .null, .null, .null, .null, .null, .null, .null, .null, .null] [] K L = some (some (.long (lZ (wv A m a S))), jS n K L) := by
  have h8 := (Inv_T hA).2
  have key : ∀ (d t : Nat) (v7 v8 v9 v10 v11 v12 : Value), t + d = zT A → jE n rX10_watched 6 [.ref 111, .int (nI m), .int (nI a), .int (nI S), .long (lZ (wst A m a S t)), .null, .int (nI t), v7, v8, v9, v10, v11, v12] [] K L = some (some (.long (lZ (wv A m a S))), jS n K L) := by
    intro d
    induction d with
    | zero =>
      intro t v7 v8 v9 v10 v11 v12 ht
      have : t = zT A := by omega
      subst this
      have cc : nI (zT A) ≤ nI (zT A) := Int32.le_refl _
      simp only [eX10_watched_6, eX10_watched_107, M29 hA hM, cc, if_true]
      rfl
    | succ d ih =>
      intro t v7 v8 v9 v10 v11 v12 ht
      have cc : ¬ nI (zT A) ≤ nI t := nI_ge (by omega) (by omega)
      obtain ⟨w8, w9, w10, w11, w12, r⟩ := m_wat_u n K A L hA hM (show t < zT A by omega) hm ha hN hS hf t 0 v8 v9 v10 v11 v12 (Nat.zero_add _)
      have e : wst A m a S t + wsu A m a S t 0 = wst A m a S t := Int.add_zero _
      rw [e] at r
      have hd0 : jE n rX10_watched 6 [.ref 111, .int (nI m), .int (nI a), .int (nI S), .long (lZ (wst A m a S t)), .null, .int (nI t), v7, v8, v9, v10, v11, v12] [] K L = jE n rX10_watched 18 [.ref 111, .int (nI m), .int (nI a), .int (nI S), .long (lZ (wst A m a S t)), .null, .int (nI t), .int (nI 0), v8, v9, v10, v11, v12] [] K L := by
        simp only [eX10_watched_6, eX10_watched_15, M29 hA hM, cc, if_false]
      rw [hd0, r]
      simp only [eX10_watched_101, nI_add]
      exact ih (t + 1) _ _ _ _ _ _ (by omega)
  simp only [eX10_watched_0]
  exact key (zT A) 0 .null .null .null .null .null .null (Nat.zero_add _)
theorem m_watch_l (n : Nat) (K A : jm_I) (L : jm_L) (hA : Inv A) (hM : Mod K A) {m a b N nn : Nat} (hm : m < 4) (ha : a + N ≤ 1000) (hN : N ≤ 12) (hnn : nn ≤ 4) (hab : nI b - nI a + nI 1 = nI N) (hf : ∀ t, t < zT A → K 142 t = nI (aν A t m)) (v5 : Int32) : ∀ (d S : Nat) (v10 v11 : Value), S + d = 2 ^ N → jE n rX10_watch 119 [.ref 111, .int (nI m), .int (nI a), .int (nI b), .int (nI nn), .int v5, .int (rb1 (amin (wf A m a) (wok nn) S)), .long (wl1 A m a (amin (wf A m a) (wok nn) S)), .null, .int (nI S), v10, v11] [] K L = some (some (.int (rb1 (amin (wf A m a) (wok nn) (2 ^ N)))), jS n K L) := by
  have hp := p12 hN
  have hsh := shl_N hN
  intro d
  induction d with
  | zero =>
    intro S v10 v11 hS
    have : S = 2 ^ N := by omega
    subst this
    have cc : nI (2 ^ N) ≤ nI (2 ^ N) := Int32.le_refl _
    simp only [eX10_watch_119, eX10_watch_179, hab, hsh, cc, if_true]
  | succ d ih =>
    intro S v10 v11 hS
    have hSN : S < 2 ^ N := by omega
    have hS4 : S < 4096 := by omega
    have cc : ¬ nI (2 ^ N) ≤ nI S := nI_ge hSN (by omega)
    have hd0 : ∀ x y, jE n rX10_watch 119 [.ref 111, .int (nI m), .int (nI a), .int (nI b), .int (nI nn), .int v5, x, y, .null, .int (nI S), v10, v11] [] K L = jE n rX10_watch 131 [.ref 111, .int (nI m), .int (nI a), .int (nI b), .int (nI nn), .int v5, x, y, .null, .int (nI S), v10, v11] [] K L := by
      intro x y
      simp only [eX10_watch_119, hab, hsh, cc, if_false]
    rw [hd0]
    have cb := m_bits n K L hS4
    have hc12 := cnt_le S 12
    by_cases hk : wok nn S
    · have ek : nI (cnt S 12) = nI nn := by rw [hk]
      have g1 := m_watched n K A L hA hM hm ha hN hSN hf
      have hv := wv_rg hA hm ha hN hSN
      have ih2 := ih (S + 1) (.long (lZ (wv A m a S))) .null (by omega)
      cases e : amin (wf A m a) (wok nn) S with
      | none =>
        rw [amin_0 hk e] at ih2
        have hc : wl1 A m a none < lZ (wv A m a S) := Int64.not_le.mp (wl_n hv)
        simp only [eX10_watch_131, eX10_watch_144, eX10_watch_165, eX10_watch_173, cb, jB_s, ek, if_true, g1, hc, nI_add]
        exact ih2
      | some j =>
        have hj := (amin_s e).1
        have hvj := wv_rg hA hm ha hN (show j < 2 ^ N by omega)
        have hc : wl1 A m a (some j) < lZ (wv A m a S) ↔ wv A m a j < wv A m a S := lZ_lt ⟨by omega, by omega⟩ ⟨by omega, by omega⟩
        by_cases hlt : wf A m a S < wf A m a j
        · rw [amin_l hk e hlt] at ih2
          have hc2 : wl1 A m a (some j) < lZ (wv A m a S) := hc.mpr (by unfold wf at hlt; omega)
          simp only [eX10_watch_131, eX10_watch_144, eX10_watch_165, eX10_watch_173, cb, jB_s, ek, if_true, g1, hc2, nI_add]
          exact ih2
        · rw [amin_g hk e hlt] at ih2
          have hc2 : ¬ wl1 A m a (some j) < lZ (wv A m a S) := fun w => by have := hc.mp w; unfold wf at hlt; omega
          simp only [eX10_watch_131, eX10_watch_144, eX10_watch_162, eX10_watch_173, cb, jB_s, ek, if_true, g1, hc2, if_false, nI_add]
          exact ih2
    · have ek : ¬ nI (cnt S 12) = nI nn := fun w => hk ((nI_inj (by omega) (by omega)).mp w)
      have ih2 := ih (S + 1) v10 v11 (by omega)
      rw [amin_n hk] at ih2
      simp only [eX10_watch_131, eX10_watch_141, eX10_watch_173, cb, jB_s, ek, if_false, nI_add]
      exact ih2
def w1 (k a b : Int32) : Int32 := if k < nI 1 ∨ a < 0 ∨ b < 0 then -4 else 0
def w2 (k a b : Int32) : Int32 := if nI 4 < k ∨ nI 999 < a ∨ nI 999 < b then -6 else 0
def w3' (a b : Int32) : Int32 := if nI 12 ≤ b - a then -6 else 0
def w4' (k a b : Int32) : Int32 := if b - a + nI 1 < k then -3 else 0
theorem c_watch_a (n : Nat) (I : jm_I) (L : jm_L) (v0 v1 v6 v7 : Value) (a b k x : Int32) : jE n rX9_watch 7 [v0, v1, .int a, .int b, .int k, .int x, v6, v7] [] I L = jE n rX9_watch 121 [v0, v1, .int a, .int b, .int k, .int (thn x (thn (w1 k a b) (thn (w2 k a b) (thn (w3' a b) (w4' k a b))))), v6, v7] [] I L := by
  have s1 : jE n rX9_watch 7 [v0, v1, .int a, .int b, .int k, .int x, v6, v7] [] I L = jE n rX9_watch 34 [v0, v1, .int a, .int b, .int k, .int (thn x (w1 k a b)), v6, v7] [] I L := by
    unfold w1
    by_cases h0 : k < nI 1
    · simp only [eX9_watch_0, eX9_watch_23, eX9_watch_29, h0, true_or, if_true, h_thn, jB_s]
    · by_cases h1 : a < 0
      · simp only [eX9_watch_0, eX9_watch_15, eX9_watch_23, eX9_watch_29, h0, h1, true_or, or_true, if_true, if_false, h_thn, jB_s]
      · by_cases h2 : b < 0
        · have h2' : ¬ 0 ≤ b := Int32.not_le.mpr h2
          simp only [eX9_watch_0, eX9_watch_15, eX9_watch_19, eX9_watch_23, eX9_watch_29, h0, h1, h2, h2', or_true, if_true, if_false, h_thn, jB_s]
        · have h2' : 0 ≤ b := Int32.not_lt.mp h2
          simp only [eX9_watch_0, eX9_watch_15, eX9_watch_19, eX9_watch_28, eX9_watch_29, h0, h1, h2, h2', or_self, if_true, if_false, h_thn, jB_s, n00]
  have s2 : ∀ x, jE n rX9_watch 34 [v0, v1, .int a, .int b, .int k, .int x, v6, v7] [] I L = jE n rX9_watch 67 [v0, v1, .int a, .int b, .int k, .int (thn x (w2 k a b)), v6, v7] [] I L := by
    intro x
    unfold w2
    by_cases h0 : nI 4 < k
    · simp only [eX9_watch_29, eX9_watch_56, eX9_watch_62, h0, true_or, if_true, h_thn, jB_s]
    · by_cases h1 : nI 999 < a
      · simp only [eX9_watch_29, eX9_watch_42, eX9_watch_56, eX9_watch_62, h0, h1, true_or, or_true, if_true, if_false, h_thn, jB_s]
      · by_cases h2 : nI 999 < b
        · have h2' : ¬ b ≤ nI 999 := Int32.not_le.mpr h2
          simp only [eX9_watch_29, eX9_watch_42, eX9_watch_49, eX9_watch_56, eX9_watch_62, h0, h1, h2, h2', or_true, if_true, if_false, h_thn, jB_s]
        · have h2' : b ≤ nI 999 := Int32.not_lt.mp h2
          simp only [eX9_watch_29, eX9_watch_42, eX9_watch_49, eX9_watch_61, eX9_watch_62, h0, h1, h2, h2', or_self, if_true, if_false, h_thn, jB_s, n00]
  have s3 : ∀ x, jE n rX9_watch 67 [v0, v1, .int a, .int b, .int k, .int x, v6, v7] [] I L = jE n rX9_watch 93 [v0, v1, .int a, .int b, .int k, .int (thn x (w3' a b)), v6, v7] [] I L := by
    intro x
    unfold w3'
    by_cases hx : x = 0
    · by_cases h1 : nI 12 ≤ b - a
      · have h2 : ¬ b - a < nI 12 := Int32.not_lt.mpr h1
        simp only [eX9_watch_62, eX9_watch_74, eX9_watch_82, eX9_watch_88, hx, not_true_eq_false, h1, h2, if_true, if_false, h_thn, jB_s]
      · have h2 : b - a < nI 12 := Int32.not_le.mp h1
        simp only [eX9_watch_62, eX9_watch_74, eX9_watch_87, eX9_watch_88, hx, not_true_eq_false, h1, h2, if_true, if_false, h_thn, jB_s, n00]
    · rw [thn_n hx]
      simp only [eX9_watch_62, eX9_watch_87, eX9_watch_88, hx, not_false_eq_true, if_true, h_thn, jB_s, thn_n hx]
  have s4 : ∀ x, jE n rX9_watch 93 [v0, v1, .int a, .int b, .int k, .int x, v6, v7] [] I L = jE n rX9_watch 121 [v0, v1, .int a, .int b, .int k, .int (thn x (w4' k a b)), v6, v7] [] I L := by
    intro x
    unfold w4'
    by_cases hx : x = 0
    · by_cases h1 : b - a + nI 1 < k
      · have h2 : ¬ k ≤ b - a + nI 1 := Int32.not_le.mpr h1
        simp only [eX9_watch_88, eX9_watch_100, eX9_watch_110, eX9_watch_116, hx, not_true_eq_false, h1, h2, if_true, if_false, h_thn, jB_s]
      · have h2 : k ≤ b - a + nI 1 := Int32.not_lt.mp h1
        simp only [eX9_watch_88, eX9_watch_100, eX9_watch_115, eX9_watch_116, hx, not_true_eq_false, h1, h2, if_true, if_false, h_thn, jB_s, n00]
    · rw [thn_n hx]
      simp only [eX9_watch_88, eX9_watch_115, eX9_watch_116, hx, not_false_eq_true, if_true, h_thn, jB_s, thn_n hx]
  rw [s1, s2, s3, s4, thn_as, thn_as, thn_as]
/-- the refusals of watch, on both sides -/
def wW (k a b : Int32) : Int32 := thn (w1 k a b) (thn (w2 k a b) (thn (w3' a b) (w4' k a b)))
theorem isZ_wW (k a b : Int32) : isZ (wW k a b) := isZ_thn (isZ_c isZ_4 isZ_0) (isZ_thn (isZ_c isZ_6 isZ_0) (isZ_thn (isZ_c isZ_6 isZ_0) (isZ_c isZ_3 isZ_0)))
theorem m_watch_a (n : Nat) (I : jm_I) (L : jm_L) (v0 v1 v5 v6 v7 v8 v9 v10 v11 : Value) (a b k : Int32) : jE n rX10_watch 14 [v0, v1, .int a, .int b, .int k, v5, v6, v7, v8, v9, v10, v11] [] I L = jE n rX10_watch 89 [v0, v1, .int a, .int b, .int k, v5, v6, v7, v8, v9, v10, v11] [.int (wW k a b)] I L := by
  have e4 : ¬ (-4 : Int32) = 0 := by decide
  have e6 : ¬ (-6 : Int32) = 0 := by decide
  unfold wW
  by_cases hA : k < nI 1 ∨ a < 0 ∨ b < 0
  · have : w1 k a b = -4 := by unfold w1; rw [if_pos hA]
    rw [this, thn_n e4]
    by_cases h0 : k < nI 1
    · simp only [eX10_watch_14, eX10_watch_28, h0, if_true]
    · by_cases h1 : a < 0
      · simp only [eX10_watch_14, eX10_watch_20, eX10_watch_28, h0, h1, if_true, if_false]
      · have h2 : ¬ 0 ≤ b := Int32.not_le.mpr ((hA.resolve_left h0).resolve_left h1)
        simp only [eX10_watch_14, eX10_watch_20, eX10_watch_24, eX10_watch_28, h0, h1, h2, if_false]
  · have : w1 k a b = 0 := by unfold w1; rw [if_neg hA]
    rw [this, thn_0]
    have h0 : ¬ k < nI 1 := fun w => hA (Or.inl w)
    have h1 : ¬ a < 0 := fun w => hA (Or.inr (Or.inl w))
    have h2' : ¬ b < 0 := fun w => hA (Or.inr (Or.inr w))
    have h2 : 0 ≤ b := Int32.not_lt.mp h2'
    by_cases hB : nI 4 < k ∨ nI 999 < a ∨ nI 999 < b
    · have : w2 k a b = -6 := by unfold w2; rw [if_pos hB]
      rw [this, thn_n e6]
      by_cases g0 : nI 4 < k
      · simp only [eX10_watch_14, eX10_watch_20, eX10_watch_24, eX10_watch_33, eX10_watch_63, h0, h1, h2, g0, if_true, if_false]
      · by_cases g1 : nI 999 < a
        · simp only [eX10_watch_14, eX10_watch_20, eX10_watch_24, eX10_watch_33, eX10_watch_39, eX10_watch_63, h0, h1, h2, g0, g1, if_true, if_false]
        · have g2 : nI 999 < b := (hB.resolve_left g0).resolve_left g1
          simp only [eX10_watch_14, eX10_watch_20, eX10_watch_24, eX10_watch_33, eX10_watch_39, eX10_watch_46, eX10_watch_63, h0, h1, h2, g0, g1, g2, if_true, if_false]
    · have : w2 k a b = 0 := by unfold w2; rw [if_neg hB]
      rw [this, thn_0]
      have g0 : ¬ nI 4 < k := fun w => hB (Or.inl w)
      have g1 : ¬ nI 999 < a := fun w => hB (Or.inr (Or.inl w))
      have g2 : ¬ nI 999 < b := fun w => hB (Or.inr (Or.inr w))
      -- in numbers
      have z0 : (0 : Int32).toInt = 0 := by decide
      have za1 : 0 ≤ a.toInt := by rw [Int32.lt_iff_toInt_lt, z0] at h1; omega
      have zb1 : 0 ≤ b.toInt := by rw [Int32.lt_iff_toInt_lt, z0] at h2'; omega
      have za2 : a.toInt ≤ 999 := by rw [Int32.lt_iff_toInt_lt, show (nI 999).toInt = 999 from by decide] at g1; omega
      have zb2 : b.toInt ≤ 999 := by rw [Int32.lt_iff_toInt_lt, show (nI 999).toInt = 999 from by decide] at g2; omega
      have zk1 : 1 ≤ k.toInt := by rw [Int32.lt_iff_toInt_lt, show (nI 1).toInt = 1 from by decide] at h0; omega
      have zk2 : k.toInt ≤ 4 := by rw [Int32.lt_iff_toInt_lt, show (nI 4).toInt = 4 from by decide] at g0; omega
      have ed : b - a = iZ (b.toInt - a.toInt) := by rw [← iZ_sub, iZ_toInt, iZ_toInt]
      have ed1 : b - a + nI 1 = iZ (b.toInt - a.toInt + 1) := by rw [ed, show nI 1 = iZ 1 from rfl, iZ_add]
      have q12 : nI 12 ≤ b - a ↔ 12 ≤ b.toInt - a.toInt := by rw [ed, show nI 12 = iZ 12 from rfl]; exact iZ_le ⟨by omega, by omega⟩ ⟨by omega, by omega⟩
      have q12' : b - a + nI 1 ≤ nI 12 ↔ b.toInt - a.toInt + 1 ≤ 12 := by rw [ed1, show nI 12 = iZ 12 from rfl]; exact iZ_le ⟨by omega, by omega⟩ ⟨by omega, by omega⟩
      have qk : k ≤ b - a + nI 1 ↔ k.toInt ≤ b.toInt - a.toInt + 1 := by rw [Int32.le_iff_toInt_le, ed1, iZ_i (by omega) (by omega)]
      have qk' : b - a + nI 1 < k ↔ b.toInt - a.toInt + 1 < k.toInt := by rw [Int32.lt_iff_toInt_lt, ed1, iZ_i (by omega) (by omega)]
      have qba : b < a ↔ b.toInt < a.toInt := Int32.lt_iff_toInt_lt
      unfold w3' w4'
      by_cases hC : 12 ≤ b.toInt - a.toInt
      · rw [if_pos (q12.mpr hC), thn_n e6]
        have f1 : ¬ b - a + nI 1 ≤ nI 12 := fun w => by have := q12'.mp w; omega
        simp only [eX10_watch_14, eX10_watch_20, eX10_watch_24, eX10_watch_33, eX10_watch_39, eX10_watch_46, eX10_watch_53, eX10_watch_63, h0, h1, h2, g0, g1, g2, f1, if_true, if_false]
      · rw [if_neg (fun w => hC (q12.mp w)), thn_0]
        have f1 : b - a + nI 1 ≤ nI 12 := q12'.mpr (by omega)
        by_cases hD : b.toInt - a.toInt + 1 < k.toInt
        · rw [if_pos (qk'.mpr hD)]
          by_cases f2 : b < a
          · simp only [eX10_watch_14, eX10_watch_20, eX10_watch_24, eX10_watch_33, eX10_watch_39, eX10_watch_46, eX10_watch_53, eX10_watch_68, eX10_watch_83, h0, h1, h2, g0, g1, g2, f1, f2, if_true, if_false]
          · have f3 : ¬ k ≤ b - a + nI 1 := fun w => by have := qk.mp w; omega
            simp only [eX10_watch_14, eX10_watch_20, eX10_watch_24, eX10_watch_33, eX10_watch_39, eX10_watch_46, eX10_watch_53, eX10_watch_68, eX10_watch_73, eX10_watch_83, h0, h1, h2, g0, g1, g2, f1, f2, f3, if_true, if_false]
        · rw [if_neg (fun w => hD (qk'.mp w))]
          have f2 : ¬ b < a := fun w => by have := qba.mp w; omega
          have f3 : k ≤ b - a + nI 1 := qk.mpr (by omega)
          simp only [eX10_watch_14, eX10_watch_20, eX10_watch_24, eX10_watch_33, eX10_watch_39, eX10_watch_46, eX10_watch_53, eX10_watch_68, eX10_watch_73, eX10_watch_88, h0, h1, h2, g0, g1, g2, f1, f2, f3, if_true, if_false, n00]
