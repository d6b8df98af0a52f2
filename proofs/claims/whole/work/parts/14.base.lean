/-! numbers -/
def iZ (z : Int) : Int32 := Int32.ofInt z
def lZ (z : Int) : Int64 := Int64.ofInt z
theorem nI_iZ (n : Nat) : nI n = iZ (n : Int) := Int32.ofInt_eq_ofNat.symm
theorem lN_lZ (n : Nat) : lN n = lZ (n : Int) := Int64.ofInt_eq_ofNat.symm
theorem iZ_toInt (x : Int32) : iZ x.toInt = x := Int32.ofInt_toInt x
theorem lZ_toInt (x : Int64) : lZ x.toInt = x := Int64.ofInt_toInt x
theorem iZ_i {z : Int} (h1 : -2147483648 ≤ z) (h2 : z < 2147483648) : (iZ z).toInt = z := Int32.toInt_ofInt_of_le h1 h2
theorem lZ_i {z : Int} (h1 : -9223372036854775808 ≤ z) (h2 : z < 9223372036854775808) : (lZ z).toInt = z := Int64.toInt_ofInt_of_le h1 h2
theorem iZ_add (a b : Int) : iZ a + iZ b = iZ (a + b) := (Int32.ofInt_add a b).symm
theorem iZ_sub (a b : Int) : iZ a - iZ b = iZ (a - b) := (Int32.ofInt_sub a b).symm
theorem iZ_mul (a b : Int) : iZ a * iZ b = iZ (a * b) := (Int32.ofInt_mul a b).symm
theorem iZ_neg (a : Int) : -iZ a = iZ (-a) := (Int32.ofInt_neg a).symm
theorem lZ_add (a b : Int) : lZ a + lZ b = lZ (a + b) := (Int64.ofInt_add a b).symm
theorem lZ_sub (a b : Int) : lZ a - lZ b = lZ (a - b) := (Int64.ofInt_sub a b).symm
theorem lZ_mul (a b : Int) : lZ a * lZ b = lZ (a * b) := (Int64.ofInt_mul a b).symm
theorem lZ_neg (a : Int) : -lZ a = lZ (-a) := (Int64.ofInt_neg a).symm
theorem iZ_l {z : Int} (h1 : -2147483648 ≤ z) (h2 : z < 2147483648) : (iZ z).toInt64 = lZ z := by
  rw [← Int64.ofInt_int32ToInt, iZ_i h1 h2]; rfl
theorem toL (x : Int32) : x.toInt64 = lZ x.toInt := (Int64.ofInt_int32ToInt x).symm
theorem lZ_i32 (z : Int) : (lZ z).toInt32 = iZ z := Int64.toInt32_ofInt
theorem lZ_lt {a b : Int} (ha : -9223372036854775808 ≤ a ∧ a < 9223372036854775808) (hb : -9223372036854775808 ≤ b ∧ b < 9223372036854775808) : lZ a < lZ b ↔ a < b := by
  rw [Int64.lt_iff_toInt_lt, lZ_i ha.1 ha.2, lZ_i hb.1 hb.2]
theorem lZ_le {a b : Int} (ha : -9223372036854775808 ≤ a ∧ a < 9223372036854775808) (hb : -9223372036854775808 ≤ b ∧ b < 9223372036854775808) : lZ a ≤ lZ b ↔ a ≤ b := by
  rw [Int64.le_iff_toInt_le, lZ_i ha.1 ha.2, lZ_i hb.1 hb.2]
theorem iZ_lt {a b : Int} (ha : -2147483648 ≤ a ∧ a < 2147483648) (hb : -2147483648 ≤ b ∧ b < 2147483648) : iZ a < iZ b ↔ a < b := by
  rw [Int32.lt_iff_toInt_lt, iZ_i ha.1 ha.2, iZ_i hb.1 hb.2]
theorem iZ_le {a b : Int} (ha : -2147483648 ≤ a ∧ a < 2147483648) (hb : -2147483648 ≤ b ∧ b < 2147483648) : iZ a ≤ iZ b ↔ a ≤ b := by
  rw [Int32.le_iff_toInt_le, iZ_i ha.1 ha.2, iZ_i hb.1 hb.2]
theorem iZ_eq {a b : Int} (ha : -2147483648 ≤ a ∧ a < 2147483648) (hb : -2147483648 ≤ b ∧ b < 2147483648) : iZ a = iZ b ↔ a = b := by
  rw [← Int32.toInt_inj, iZ_i ha.1 ha.2, iZ_i hb.1 hb.2]
theorem lZ_eq {a b : Int} (ha : -9223372036854775808 ≤ a ∧ a < 9223372036854775808) (hb : -9223372036854775808 ≤ b ∧ b < 9223372036854775808) : lZ a = lZ b ↔ a = b := by
  rw [← Int64.toInt_inj, lZ_i ha.1 ha.2, lZ_i hb.1 hb.2]
theorem lZ_div {a b : Int} (ha : -9223372036854775808 < a ∧ a < 9223372036854775808) (hb : 0 < b ∧ b < 9223372036854775808) : lZ a / lZ b = lZ (a.tdiv b) := by
  have h := Int64.ofInt_tdiv (a := a) (b := b) (by show (-9223372036854775808 : Int) ≤ a; omega) (by show a ≤ (9223372036854775807 : Int); omega) (by show (-9223372036854775808 : Int) ≤ b; omega) (by show b ≤ (9223372036854775807 : Int); omega)
  exact h.symm
theorem iZ_div {a b : Int} (ha : -2147483648 < a ∧ a < 2147483648) (hb : 0 < b ∧ b < 2147483648) : iZ a / iZ b = iZ (a.tdiv b) := by
  have h := Int32.ofInt_tdiv (a := a) (b := b) (by show (-2147483648 : Int) ≤ a; omega) (by show a ≤ (2147483647 : Int); omega) (by show (-2147483648 : Int) ≤ b; omega) (by show b ≤ (2147483647 : Int); omega)
  exact h.symm
/-! the leaves of the class -/
section H
variable (n : Nat) (I : jm_I) (L : jm_L)
theorem h_isWithin (i s : Int32) : jE n rX9_isWithin 0 [.int i, .int s] [] I L = some (some (.int (if 0 ≤ i ∧ i < s then nI 1 else nI 0)), jS n I L) := by
  simp only [eX9_isWithin_0, eX9_isWithin_4, eX9_isWithin_9, eX9_isWithin_13, eX9_isWithin_14]
  by_cases h1 : i < 0
  · have h2 : ¬ (0 ≤ i ∧ i < s) := fun q => absurd h1 (Int32.not_lt.mpr q.1)
    simp only [h1, h2, if_true, if_false]
  · by_cases h2 : s ≤ i
    · have h3 : ¬ (0 ≤ i ∧ i < s) := fun q => absurd h2 (Int32.not_le.mpr q.2)
      simp only [h1, h2, h3, if_true, if_false]
    · have h3 : 0 ≤ i ∧ i < s := ⟨Int32.not_lt.mp h1, Int32.not_le.mp h2⟩
      simp only [h1, h2, h3, if_true, if_false, and_self]
theorem h_then (a b : Int32) : jE n rX9_then 0 [.int a, .int b] [] I L = some (some (.int (if a = 0 then b else a)), jS n I L) := by
  simp only [eX9_then_0, eX9_then_4, eX9_then_8, eX9_then_9]
  by_cases h : a = 0 <;> simp only [h, if_true, if_false]
def zout (x lo hi : Int32) : Int32 := if x < lo then -4 else if hi < x then -6 else 0
theorem h_outside (x lo hi : Int32) : jE n rX9_outside 0 [.int x, .int lo, .int hi] [] I L = some (some (.int (zout x lo hi)), jS n I L) := by
  simp only [eX9_outside_0, eX9_outside_5, eX9_outside_8, eX9_outside_13, eX9_outside_18, eX9_outside_19, zout]
  by_cases h1 : x < lo
  · have h2 : ¬ lo ≤ x := Int32.not_le.mpr h1
    simp only [h1, h2, if_true, if_false]
  · have h2 : lo ≤ x := Int32.not_lt.mp h1
    by_cases h3 : hi < x
    · have h4 : ¬ x ≤ hi := Int32.not_le.mpr h3
      simp only [h1, h2, h3, h4, if_true, if_false]
    · have h4 : x ≤ hi := Int32.not_lt.mp h3
      simp only [h1, h2, h3, h4, if_true, if_false, nI_0]
/-- a refusal is counted -/
def rf (I : jm_I) (c : Nat) : jm_I := jm_u I 70 c (I 70 c + nI 1)
def rz (w : Int32) : Nat := if w = -1 then 0 else if w = -2 then 1 else if w = -3 then 2 else if w = -4 then 3 else 5
def isR (w : Int32) : Prop := w = -1 ∨ w = -2 ∨ w = -3 ∨ w = -4 ∨ w = -6
theorem h_refuse (w : Int32) (h : isR w) : jE n rX9_refuse 0 [.ref 9, .int w, .null] [] I L = some (some (.int w), jS n (rf I (rz w)) L) := by
  have key : ∀ (w : Int32) (k : Nat), k < 6 → (-1 : Int32) - w = nI k → (0 ≤ nI k ∧ nI k < nI 6) → rz w = k → jE n rX9_refuse 0 [.ref 9, .int w, .null] [] I L = some (some (.int w), jS n (rf I (rz w)) L) := by
    intro w k hk e1 e2 e3
    have e4 : ¬ nI 1 = 0 := by decide
    simp only [eX9_refuse_0, eX9_refuse_13, eX9_refuse_23, e1, h_isWithin, e2, if_true, jB_s, and_self, e4, if_false, jLI_t, jLW_t, jLL_t, jLZ_t, jLA_t, hk, e3, rf]
  rcases h with rfl | rfl | rfl | rfl | rfl
  · exact key (-1) 0 (by decide) (by decide) (by decide) (by decide)
  · exact key (-2) 1 (by decide) (by decide) (by decide) (by decide)
  · exact key (-3) 2 (by decide) (by decide) (by decide) (by decide)
  · exact key (-4) 3 (by decide) (by decide) (by decide) (by decide)
  · exact key (-6) 5 (by decide) (by decide) (by decide) (by decide)
end H
