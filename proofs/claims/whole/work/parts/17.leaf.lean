theorem zn {k : Nat} (h : k < 2147483648) : (nI k).toInt.toNat = k := by rw [nI_toInt h]; omega
theorem toL_i (x : Int32) : x.toInt64.toInt = x.toInt := by
  rw [toL]
  have h1 := Int32.le_toInt x
  have h2 := Int32.toInt_lt x
  exact lZ_i (by omega) (by omega)
theorem n10 : ¬ nI 1 = 0 := by decide
theorem n00 : nI 0 = 0 := rfl
theorem nI_w {k m : Nat} (h : k < m) (hm : m < 2147483648) : 0 ≤ nI k ∧ nI k < nI m := ⟨nI_pos' (by omega), nI_lt h hm⟩
/-- the first refusal holds -/
def thn (a b : Int32) : Int32 := if a = 0 then b else a
theorem thn_0 (b : Int32) : thn 0 b = b := by simp [thn]
theorem thn_n {a : Int32} (h : ¬ a = 0) (b : Int32) : thn a b = a := by simp [thn, h]
theorem thn_as (a b c : Int32) : thn (thn a b) c = thn a (thn b c) := by unfold thn; repeat' split <;> simp_all
def isZ (w : Int32) : Prop := w = 0 ∨ isR w
theorem isZ_thn {a b : Int32} (h1 : isZ a) (h2 : isZ b) : isZ (thn a b) := by
  unfold thn
  split
  · exact h2
  · exact h1
theorem isZ_out (x lo hi : Int32) : isZ (zout x lo hi) := by
  unfold zout isZ isR
  repeat' split
  all_goals simp
theorem isZ_c {c : Prop} [Decidable c] {a b : Int32} (h1 : isZ a) (h2 : isZ b) : isZ (if c then a else b) := by
  split
  · exact h1
  · exact h2
theorem isZ_0 : isZ 0 := Or.inl rfl
theorem isZ_1 : isZ (-1) := Or.inr (Or.inl rfl)
theorem isZ_2 : isZ (-2) := Or.inr (Or.inr (Or.inl rfl))
theorem isZ_3 : isZ (-3) := Or.inr (Or.inr (Or.inr (Or.inl rfl)))
theorem isZ_4 : isZ (-4) := Or.inr (Or.inr (Or.inr (Or.inr (Or.inl rfl))))
theorem isZ_6 : isZ (-6) := Or.inr (Or.inr (Or.inr (Or.inr (Or.inr rfl))))
theorem isR_of {w : Int32} (h : isZ w) (h0 : ¬ w = 0) : isR w := h.resolve_left h0
/-- a moon that is there, by the row a -/
def mo (I : jm_I) (a : Nat) (m : Int32) : Prop := 0 ≤ m ∧ m < nI 4 ∧ ¬ I a m.toInt.toNat = 0
theorem mo_ix {I : jm_I} {a : Nat} {m : Int32} (h : mo I a m) : ∃ k, k < 4 ∧ m = nI k ∧ ¬ I a k = 0 := by
  rcases pk_ix m (n := 4) (by decide) with q | q | ⟨k, hk, e⟩
  · exact absurd h.1 (Int32.not_le.mpr q)
  · exact absurd h.2.1 (Int32.not_lt.mpr q)
  · subst e
    refine ⟨k, hk, rfl, ?_⟩
    have := h.2.2
    rwa [zn (by omega)] at this
theorem mo_nI {I : jm_I} {a k : Nat} (hk : k < 4) : mo I a (nI k) ↔ ¬ I a k = 0 := by
  unfold mo
  rw [zn (by omega)]
  exact ⟨fun h => h.2.2, fun h => ⟨(nI_w hk (by decide)).1, (nI_w hk (by decide)).2, h⟩⟩
section H
variable (n : Nat) (I : jm_I) (L : jm_L)
theorem h_thn (a b : Int32) : jE n rX9_then 0 [.int a, .int b] [] I L = some (some (.int (thn a b)), jS n I L) := h_then n I L a b
/-- is a moon: 0, else -1 -/
noncomputable def nmo (I : jm_I) (a : Nat) (m : Int32) : Int32 := @ite _ (mo I a m) (Classical.propDecidable _) 0 (-1)
theorem nmo_t {I : jm_I} {a : Nat} {m : Int32} (h : mo I a m) : nmo I a m = 0 := by unfold nmo; rw [if_pos h]
theorem nmo_f {I : jm_I} {a : Nat} {m : Int32} (h : ¬ mo I a m) : nmo I a m = -1 := by unfold nmo; rw [if_neg h]
theorem isZ_nmo (I : jm_I) (a : Nat) (m : Int32) : isZ (nmo I a m) := by
  by_cases h : mo I a m
  · rw [nmo_t h]; exact isZ_0
  · rw [nmo_f h]; exact isZ_1
theorem h_noMoon (m : Int32) : jE n rX9_noMoon 0 [.ref 9, .int m] [] I L = some (some (.int (nmo I 13 m)), jS n I L) := by
  rcases pk_ix m (n := 4) (by decide) with q | q | ⟨k, hk, e⟩
  · have h1 : ¬ (0 ≤ m ∧ m < nI 4) := fun h => absurd h.1 (Int32.not_le.mpr q)
    have h2 : ¬ mo I 13 m := fun h => h1 ⟨h.1, h.2.1⟩
    rw [nmo_f h2]
    simp only [eX9_noMoon_0, eX9_noMoon_8, eX9_noMoon_23, eX9_noMoon_27, eX9_noMoon_28, h_isWithin, h1, if_false, jB_s, n00, if_true]
  · have h1 : ¬ (0 ≤ m ∧ m < nI 4) := fun h => absurd h.2 (Int32.not_lt.mpr q)
    have h2 : ¬ mo I 13 m := fun h => h1 ⟨h.1, h.2.1⟩
    rw [nmo_f h2]
    simp only [eX9_noMoon_0, eX9_noMoon_8, eX9_noMoon_23, eX9_noMoon_27, eX9_noMoon_28, h_isWithin, h1, if_false, jB_s, n00, if_true]
  · subst e
    have h1 := nI_w hk (by decide)
    by_cases h : I 13 k = 0
    · rw [nmo_f (fun q => (mo_nI hk).mp q h)]
      simp only [eX9_noMoon_0, eX9_noMoon_8, eX9_noMoon_23, eX9_noMoon_27, eX9_noMoon_28, h_isWithin, h1, and_self, if_true, jB_s, n10, if_false, jLI_t, jLW_t, jLL_t, jLZ_t, jLA_t, hk, h]
    · rw [nmo_t ((mo_nI hk).mpr h)]
      simp only [eX9_noMoon_0, eX9_noMoon_8, eX9_noMoon_23, eX9_noMoon_27, eX9_noMoon_28, h_isWithin, h1, and_self, if_true, jB_s, n10, if_false, jLI_t, jLW_t, jLL_t, jLZ_t, jLA_t, hk, h, n00]
/-! the leaves of the model -/
theorem m_isIn0 (v lo hi : Int64) : jE n rX10_isIn 0 [.long v, .null, .long lo, .null, .long hi, .null] [] I L = some (some (.int (if lo ≤ v ∧ v ≤ hi then nI 1 else nI 0)), jS n I L) := by
  simp only [eX10_isIn_0, eX10_isIn_6, eX10_isIn_13, eX10_isIn_17, eX10_isIn_18]
  by_cases h1 : v < lo
  · have h2 : ¬ (lo ≤ v ∧ v ≤ hi) := fun q => absurd h1 (Int64.not_lt.mpr q.1)
    simp only [h1, h2, if_true, if_false]
  · by_cases h2 : hi < v
    · have h3 : ¬ (lo ≤ v ∧ v ≤ hi) := fun q => absurd h2 (Int64.not_lt.mpr q.2)
      simp only [h1, h2, h3, if_true, if_false]
    · have h3 : lo ≤ v ∧ v ≤ hi := ⟨Int64.not_lt.mp h1, Int64.not_lt.mp h2⟩
      simp only [h1, h2, h3, if_true, if_false, and_self]
theorem m_isIn1 (x lo' hi' : Int32) (lo hi : Int64) (h1 : lo.toInt = lo'.toInt) (h2 : hi.toInt = hi'.toInt) : jE n rX10_isIn 0 [.long x.toInt64, .null, .long lo, .null, .long hi, .null] [] I L = some (some (.int (if lo' ≤ x ∧ x ≤ hi' then nI 1 else nI 0)), jS n I L) := by
  rw [m_isIn0]
  have e : (lo ≤ x.toInt64 ∧ x.toInt64 ≤ hi) = (lo' ≤ x ∧ x ≤ hi') := by
    rw [Int64.le_iff_toInt_le, Int64.le_iff_toInt_le, Int32.le_iff_toInt_le, Int32.le_iff_toInt_le, toL_i, h1, h2]
  simp only [e]
theorem m_isIn (x : Int32) (a b : Nat) (ha : a < 2147483648) (hb : b < 2147483648) : jE n rX10_isIn 0 [.long x.toInt64, .null, .long (lN a), .null, .long (lN b), .null] [] I L = some (some (.int (if nI a ≤ x ∧ x ≤ nI b then nI 1 else nI 0)), jS n I L) :=
  m_isIn1 n I L x (nI a) (nI b) (lN a) (lN b) (by rw [lN_toInt ha, nI_toInt ha]) (by rw [lN_toInt hb, nI_toInt hb])
theorem m_out0 (v lo hi : Int64) : jE n rX10_out 0 [.long v, .null, .long lo, .null, .long hi, .null] [] I L = some (some (.int (if v < lo then -4 else if hi < v then -6 else 0)), jS n I L) := by
  simp only [eX10_out_0, eX10_out_6, eX10_out_11, eX10_out_18, eX10_out_23, eX10_out_24]
  by_cases h1 : v < lo
  · have h2 : ¬ lo ≤ v := Int64.not_le.mpr h1
    simp only [h1, h2, if_true, if_false]
  · have h2 : lo ≤ v := Int64.not_lt.mp h1
    by_cases h3 : hi < v
    · have h4 : ¬ v ≤ hi := Int64.not_le.mpr h3
      simp only [h1, h2, h3, h4, if_true, if_false]
    · have h4 : v ≤ hi := Int64.not_lt.mp h3
      simp only [h1, h2, h3, h4, if_true, if_false, n00]
theorem m_out1 (x lo' hi' : Int32) (lo hi : Int64) (h1 : lo.toInt = lo'.toInt) (h2 : hi.toInt = hi'.toInt) : jE n rX10_out 0 [.long x.toInt64, .null, .long lo, .null, .long hi, .null] [] I L = some (some (.int (zout x lo' hi')), jS n I L) := by
  rw [m_out0]
  have e1 : (x.toInt64 < lo) = (x < lo') := by rw [Int64.lt_iff_toInt_lt, Int32.lt_iff_toInt_lt, toL_i, h1]
  have e2 : (hi < x.toInt64) = (hi' < x) := by rw [Int64.lt_iff_toInt_lt, Int32.lt_iff_toInt_lt, toL_i, h2]
  simp only [e1, e2, zout]
theorem m_out (x : Int32) (a b : Nat) (ha : a < 2147483648) (hb : b < 2147483648) : jE n rX10_out 0 [.long x.toInt64, .null, .long (lN a), .null, .long (lN b), .null] [] I L = some (some (.int (zout x (nI a) (nI b))), jS n I L) :=
  m_out1 n I L x (nI a) (nI b) (lN a) (lN b) (by rw [lN_toInt ha, nI_toInt ha]) (by rw [lN_toInt hb, nI_toInt hb])
noncomputable def bmo (I : jm_I) (a : Nat) (m : Int32) : Int32 := @ite _ (mo I a m) (Classical.propDecidable _) (nI 1) (nI 0)
theorem bmo_t {I : jm_I} {a : Nat} {m : Int32} (h : mo I a m) : bmo I a m = nI 1 := by unfold bmo; rw [if_pos h]
theorem bmo_f {I : jm_I} {a : Nat} {m : Int32} (h : ¬ mo I a m) : bmo I a m = nI 0 := by unfold bmo; rw [if_neg h]
theorem m_isMoon (m : Int32) : jE n rX10_isMoon 0 [.ref 111, .int m] [] I L = some (some (.int (bmo I 119 m)), jS n I L) := by
  rcases pk_ix m (n := 4) (by decide) with q | q | ⟨k, hk, e⟩
  · have h2 : ¬ mo I 119 m := fun h => absurd h.1 (Int32.not_le.mpr q)
    rw [bmo_f h2]
    simp only [eX10_isMoon_0, eX10_isMoon_4, eX10_isMoon_9, eX10_isMoon_18, eX10_isMoon_22, eX10_isMoon_23, q, if_true]
  · have h2 : ¬ mo I 119 m := fun h => absurd h.2.1 (Int32.not_lt.mpr q)
    rw [bmo_f h2]
    by_cases q0 : m < 0
    · simp only [eX10_isMoon_0, eX10_isMoon_4, eX10_isMoon_9, eX10_isMoon_18, eX10_isMoon_22, eX10_isMoon_23, q0, if_true]
    · simp only [eX10_isMoon_0, eX10_isMoon_4, eX10_isMoon_9, eX10_isMoon_18, eX10_isMoon_22, eX10_isMoon_23, q0, q, if_true, if_false]
  · subst e
    have h1 : ¬ nI k < 0 := nI_pos (by omega)
    have h2 : ¬ nI 4 ≤ nI k := nI_ge hk (by decide)
    by_cases h : I 119 k = 0
    · rw [bmo_f (fun q => (mo_nI hk).mp q h)]
      simp only [eX10_isMoon_0, eX10_isMoon_4, eX10_isMoon_9, eX10_isMoon_18, eX10_isMoon_22, eX10_isMoon_23, h1, h2, if_true, if_false, jLI_t, jLW_t, jLL_t, jLZ_t, jLA_t, hk, h]
    · rw [bmo_t ((mo_nI hk).mpr h)]
      simp only [eX10_isMoon_0, eX10_isMoon_4, eX10_isMoon_9, eX10_isMoon_18, eX10_isMoon_22, eX10_isMoon_23, h1, h2, if_true, if_false, jLI_t, jLW_t, jLL_t, jLZ_t, jLA_t, hk, h]
theorem m_no (w : Int32) (h : isR w) : jE n rX10_no 0 [.ref 111, .int w] [] I L = some (some (.int w), jS n (rfm I (rz w)) L) := by
  have key : ∀ (w : Int32) (k : Nat), k < 6 → -w = nI (k + 1) → rz w = k → jE n rX10_no 0 [.ref 111, .int w] [] I L = some (some (.int w), jS n (rfm I (rz w)) L) := by
    intro w k hk e1 e3
    have hk7 : k + 1 < 7 := by omega
    simp only [eX10_no_0, e1, jLI_t, jLW_t, jLL_t, jLZ_t, jLA_t, hk7, e3, rfm]
  rcases h with rfl | rfl | rfl | rfl | rfl
  · exact key (-1) 0 (by decide) (by decide) (by decide)
  · exact key (-2) 1 (by decide) (by decide) (by decide)
  · exact key (-3) 2 (by decide) (by decide) (by decide)
  · exact key (-4) 3 (by decide) (by decide) (by decide)
  · exact key (-6) 5 (by decide) (by decide) (by decide)
/-- a refusal of a call that answers a long -/
def lr (w : Int32) : Int64 := w.toInt64 - lN 4000000000000000000
theorem m_noLong (w : Int32) (h : isR w) : jE n rX10_noLong 0 [.ref 111, .int w] [] I L = some (some (.long (lr w)), jS n (rfm I (rz w)) L) := by
  have key : ∀ (w : Int32) (k : Nat), k < 6 → -w = nI (k + 1) → rz w = k → jE n rX10_noLong 0 [.ref 111, .int w] [] I L = some (some (.long (lr w)), jS n (rfm I (rz w)) L) := by
    intro w k hk e1 e3
    have hk7 : k + 1 < 7 := by omega
    simp only [eX10_noLong_0, e1, jLI_t, jLW_t, jLL_t, jLZ_t, jLA_t, hk7, e3, rfm, lr]
  rcases h with rfl | rfl | rfl | rfl | rfl
  · exact key (-1) 0 (by decide) (by decide) (by decide)
  · exact key (-2) 1 (by decide) (by decide) (by decide)
  · exact key (-3) 2 (by decide) (by decide) (by decide)
  · exact key (-4) 3 (by decide) (by decide) (by decide)
  · exact key (-6) 5 (by decide) (by decide) (by decide)
theorem h_refuseLong (w : Int32) (h : isR w) : jE n rX9_refuseLong 0 [.ref 9, .int w] [] I L = some (some (.long (lr w)), jS n (rf I (rz w)) L) := by
  have e : -4000000000000000000 + w.toInt64 = lr w := by
    rw [lr, toL, lN_lZ, show (-4000000000000000000 : Int64) = lZ (-4000000000000000000) from by decide, lZ_add, lZ_sub]
    congr 1
    omega
  simp only [eX9_refuseLong_0, h_refuse n I L w h, jB_s, e]
end H
/-- the relation at single cells -/
theorem Mod_at {I A : jm_I} (h : Mod I A) : (∀ j, j < 4 → I 113 j = A 14 j) ∧ (∀ j, j < 4 → I 114 j = A 15 j) ∧ (∀ j, j < 4 → I 115 j = A 16 j) ∧ (∀ j, j < 4 → I 116 j = A 17 j) ∧ (∀ j, j < 16 → I 117 j = A 18 j) ∧ (∀ j, j < 5 → I 118 j = A 11 j) ∧ (∀ j, j < 4 → I 119 j = A 13 j) ∧ (∀ j, j < 6 → I 121 j = A 22 j) ∧ (∀ j, j < 4 → I 122 j = A 23 j) ∧ (∀ j, j < 4 → I 123 j = A 24 j) ∧ (∀ j, j < 4 → I 124 j = A 25 j) ∧ (∀ j, j < 40 → I 125 j = A 27 j) ∧ (∀ j, j < 40 → I 126 j = A 28 j) ∧ (∀ j, j < 40 → I 127 j = A 29 j) ∧ (∀ j, j < 40 → I 128 j = A 30 j) ∧ (∀ j, j < 40 → I 129 j = A 31 j) ∧ (∀ j, j < 40 → I 130 j = A 32 j) ∧ (∀ j, j < 40 → I 131 j = A 33 j) ∧ (∀ j, j < 4 → I 136 j = A 19 j) ∧ (∀ j, j < 4 → I 137 j = A 20 j) ∧ I 111 20 = A 26 8 ∧ I 111 29 = A 35 2 :=
  ⟨h.1 113, h.1 114, h.1 115, h.1 116, h.1 117, h.1 118, h.1 119, h.1 121, h.1 122, h.1 123, h.1 124, h.1 125, h.1 126, h.1 127, h.1 128, h.1 129, h.1 130, h.1 131, h.1 136, h.1 137, (h.1 111 20).1 rfl, (h.1 111 29).2 rfl⟩
theorem Mod_mo {I A : jm_I} (h : Mod I A) (m : Int32) : mo I 119 m ↔ mo A 13 m := by
  constructor
  · intro q
    obtain ⟨k, hk, e, q2⟩ := mo_ix q
    subst e
    have e2 : I 119 k = A 13 k := h.1 119 k hk
    rw [e2] at q2
    exact (mo_nI hk).mpr q2
  · intro q
    obtain ⟨k, hk, e, q2⟩ := mo_ix q
    subst e
    have e2 : I 119 k = A 13 k := h.1 119 k hk
    rw [← e2] at q2
    exact (mo_nI hk).mpr q2
