theorem modW_congr {A B : jm_I} (h : ∀ b, 11 ≤ b → b ≤ 37 → B b = A b) (a j : Nat) (x : Int32) (q : modW A a j x) : modW B a j x := by
  have e : modW B a j x = modW A a j x := by
    unfold modW zT zN
    rw [h 11 (by decide) (by decide), h 13 (by decide) (by decide), h 14 (by decide) (by decide), h 15 (by decide) (by decide), h 16 (by decide) (by decide), h 17 (by decide) (by decide), h 18 (by decide) (by decide), h 19 (by decide) (by decide), h 20 (by decide) (by decide), h 22 (by decide) (by decide), h 23 (by decide) (by decide), h 24 (by decide) (by decide), h 25 (by decide) (by decide), h 26 (by decide) (by decide), h 27 (by decide) (by decide), h 28 (by decide) (by decide), h 29 (by decide) (by decide), h 30 (by decide) (by decide), h 31 (by decide) (by decide), h 32 (by decide) (by decide), h 33 (by decide) (by decide), h 34 (by decide) (by decide), h 35 (by decide) (by decide), h 36 (by decide) (by decide), h 37 (by decide) (by decide)]
  rw [e]
  exact q
theorem modX_congr {A B : jm_I} (h9 : B 9 = A 9) (h66 : B 66 1 = A 66 1) (h67 : B 67 = A 67) (h69 : B 69 = A 69) (h70 : B 70 = A 70) (a j : Nat) (x : Int32) (q : modX A a j x) : modX B a j x := by
  have e : modX B a j x = modX A a j x := by
    unfold modX
    rw [h9, h66, h67, h69, h70]
  rw [e]
  exact q
/-- the class's lasting cells -/
def Cls (I A : jm_I) : Prop := (∀ a, (a < 8 ∨ a = 9 ∨ (11 ≤ a ∧ a ≤ 65) ∨ a = 67 ∨ a = 69 ∨ a = 70) → I a = A a) ∧ I 66 1 = A 66 1
theorem Cls_rf (I : jm_I) : Cls I I := ⟨fun _ _ => rfl, rfl⟩
theorem Mod_congr {I J A B : jm_I} (hI : ∀ a, 111 ≤ a → J a = I a) (hA : Cls B A) (h : Mod I A) : Mod J B := by
  obtain ⟨h1, h2, h3⟩ := h
  have c1 : ∀ b, 11 ≤ b → b ≤ 37 → B b = A b := fun b p q => hA.1 b (by omega)
  have c2 : ∀ b, 11 ≤ b → b ≤ 37 → B (b + 28) = A (b + 28) := fun b p q => hA.1 (b + 28) (by omega)
  have c9 : B 9 = A 9 := hA.1 9 (by omega)
  refine ⟨fun a j => ?_, fun a j => ?_, fun hk a j => ?_⟩
  · by_cases ha : 111 ≤ a
    · rw [hI a ha]; exact modW_congr c1 a j _ (h1 a j)
    · have : modW B a j (J a j) := by
        unfold modW
        split <;> first | trivial | (exfalso; exact ha (by decide))
      exact this
  · by_cases ha : 111 ≤ a
    · rw [hI a ha]; exact modX_congr c9 hA.2 (hA.1 67 (by omega)) (hA.1 69 (by omega)) (hA.1 70 (by omega)) a j _ (h2 a j)
    · have : modX B a j (J a j) := by
        unfold modX
        split <;> first | trivial | (exfalso; exact ha (by decide))
      exact this
  · have hk2 : A 9 2 = 1 := by rw [← c9]; exact hk
    have e : kV J a j = kV I a j := by unfold kV; rw [hI 144 (by decide)]
    rw [e]
    exact modW_congr (A := fun a => A (a + 28)) (B := fun a => B (a + 28)) (fun b p q => c2 b p q) a j _ (h3 hk2 a j)
theorem Inv_congr {A B : jm_I} (hA : Cls B A) (h : Inv A) : Inv B := by
  intro a j ha
  by_cases h1 : a < 8 ∨ a = 9 ∨ (11 ≤ a ∧ a ≤ 65) ∨ a = 67 ∨ a = 69 ∨ a = 70
  · rw [hA.1 a h1]; exact h a j ha
  · have q := h a j ha
    unfold invP at q ⊢
    rw [if_neg (by omega), if_neg (by omega)] at q ⊢
    by_cases h66 : a = 66
    · subst h66
      rw [if_pos rfl] at q ⊢
      intro hj
      subst hj
      rw [hA.2]
      exact q rfl
    · rw [if_neg h66] at q ⊢
      split
      · unfold invW
        split <;> first | trivial | (exfalso; omega)
      · unfold invW
        split <;> first | trivial | (exfalso; omega)
theorem jm_u_ne (I : jm_I) {a b : Nat} (k : Nat) (x : Int32) (h : b ≠ a) : jm_u I a k x b = I b := by simp [jm_u, h]
theorem jm_u_eq (I : jm_I) (a k : Nat) (x : Int32) (j : Nat) : jm_u I a k x a j = if j = k then x else I a j := by simp [jm_u, upd]
theorem Mod_113 {I A : jm_I} (h : Mod I A) (k : Nat) (x : Int32) : Mod (jm_u I 113 k x) (jm_u A 14 k x) := by
  obtain ⟨h1, h2, h3⟩ := h
  refine ⟨fun a j => ?_, fun a j => ?_, fun hk a j => ?_⟩
  · by_cases ha : a = 113
    · subst ha
      show j < 4 → jm_u I 113 k x 113 j = jm_u A 14 k x 14 j
      intro hj
      have e : I 113 j = A 14 j := h1 113 j hj
      rw [jm_u_eq, jm_u_eq, e]
    · rw [jm_u_ne I k x ha]
      have q := h1 a j
      revert q
      generalize I a j = y
      unfold modW zT zN
      split <;> first | exact fun q => q | (exfalso; exact ha rfl)
  · have e : modX A a j (jm_u I 113 k x a j) := by
      by_cases ha : a = 113
      · subst ha; trivial
      · rw [jm_u_ne I k x ha]; exact h2 a j
    exact modX_congr (jm_u_ne A k x (by decide)) (by rw [jm_u_ne A k x (by decide)]) (jm_u_ne A k x (by decide)) (jm_u_ne A k x (by decide)) (jm_u_ne A k x (by decide)) a j _ e
  · have e : kV (jm_u I 113 k x) a j = kV I a j := by unfold kV; rw [jm_u_ne I k x (by decide)]
    rw [e]
    refine modW_congr (A := fun a => A (a + 28)) (fun b c d => jm_u_ne A k x (by omega)) a j _ (h3 ?_ a j)
    rw [← hk, jm_u_ne A k x (by decide)]
theorem Mod_114 {I A : jm_I} (h : Mod I A) (k : Nat) (x : Int32) : Mod (jm_u I 114 k x) (jm_u A 15 k x) := by
  obtain ⟨h1, h2, h3⟩ := h
  refine ⟨fun a j => ?_, fun a j => ?_, fun hk a j => ?_⟩
  · by_cases ha : a = 114
    · subst ha
      show j < 4 → jm_u I 114 k x 114 j = jm_u A 15 k x 15 j
      intro hj
      have e : I 114 j = A 15 j := h1 114 j hj
      rw [jm_u_eq, jm_u_eq, e]
    · rw [jm_u_ne I k x ha]
      have q := h1 a j
      revert q
      generalize I a j = y
      unfold modW zT zN
      split <;> first | exact fun q => q | (exfalso; exact ha rfl)
  · have e : modX A a j (jm_u I 114 k x a j) := by
      by_cases ha : a = 114
      · subst ha; trivial
      · rw [jm_u_ne I k x ha]; exact h2 a j
    exact modX_congr (jm_u_ne A k x (by decide)) (by rw [jm_u_ne A k x (by decide)]) (jm_u_ne A k x (by decide)) (jm_u_ne A k x (by decide)) (jm_u_ne A k x (by decide)) a j _ e
  · have e : kV (jm_u I 114 k x) a j = kV I a j := by unfold kV; rw [jm_u_ne I k x (by decide)]
    rw [e]
    refine modW_congr (A := fun a => A (a + 28)) (fun b c d => jm_u_ne A k x (by omega)) a j _ (h3 ?_ a j)
    rw [← hk, jm_u_ne A k x (by decide)]
theorem Mod_115 {I A : jm_I} (h : Mod I A) (k : Nat) (x : Int32) : Mod (jm_u I 115 k x) (jm_u A 16 k x) := by
  obtain ⟨h1, h2, h3⟩ := h
  refine ⟨fun a j => ?_, fun a j => ?_, fun hk a j => ?_⟩
  · by_cases ha : a = 115
    · subst ha
      show j < 4 → jm_u I 115 k x 115 j = jm_u A 16 k x 16 j
      intro hj
      have e : I 115 j = A 16 j := h1 115 j hj
      rw [jm_u_eq, jm_u_eq, e]
    · rw [jm_u_ne I k x ha]
      have q := h1 a j
      revert q
      generalize I a j = y
      unfold modW zT zN
      split <;> first | exact fun q => q | (exfalso; exact ha rfl)
  · have e : modX A a j (jm_u I 115 k x a j) := by
      by_cases ha : a = 115
      · subst ha; trivial
      · rw [jm_u_ne I k x ha]; exact h2 a j
    exact modX_congr (jm_u_ne A k x (by decide)) (by rw [jm_u_ne A k x (by decide)]) (jm_u_ne A k x (by decide)) (jm_u_ne A k x (by decide)) (jm_u_ne A k x (by decide)) a j _ e
  · have e : kV (jm_u I 115 k x) a j = kV I a j := by unfold kV; rw [jm_u_ne I k x (by decide)]
    rw [e]
    refine modW_congr (A := fun a => A (a + 28)) (fun b c d => jm_u_ne A k x (by omega)) a j _ (h3 ?_ a j)
    rw [← hk, jm_u_ne A k x (by decide)]
theorem Mod_116 {I A : jm_I} (h : Mod I A) (k : Nat) (x : Int32) : Mod (jm_u I 116 k x) (jm_u A 17 k x) := by
  obtain ⟨h1, h2, h3⟩ := h
  refine ⟨fun a j => ?_, fun a j => ?_, fun hk a j => ?_⟩
  · by_cases ha : a = 116
    · subst ha
      show j < 4 → jm_u I 116 k x 116 j = jm_u A 17 k x 17 j
      intro hj
      have e : I 116 j = A 17 j := h1 116 j hj
      rw [jm_u_eq, jm_u_eq, e]
    · rw [jm_u_ne I k x ha]
      have q := h1 a j
      revert q
      generalize I a j = y
      unfold modW zT zN
      split <;> first | exact fun q => q | (exfalso; exact ha rfl)
  · have e : modX A a j (jm_u I 116 k x a j) := by
      by_cases ha : a = 116
      · subst ha; trivial
      · rw [jm_u_ne I k x ha]; exact h2 a j
    exact modX_congr (jm_u_ne A k x (by decide)) (by rw [jm_u_ne A k x (by decide)]) (jm_u_ne A k x (by decide)) (jm_u_ne A k x (by decide)) (jm_u_ne A k x (by decide)) a j _ e
  · have e : kV (jm_u I 116 k x) a j = kV I a j := by unfold kV; rw [jm_u_ne I k x (by decide)]
    rw [e]
    refine modW_congr (A := fun a => A (a + 28)) (fun b c d => jm_u_ne A k x (by omega)) a j _ (h3 ?_ a j)
    rw [← hk, jm_u_ne A k x (by decide)]
theorem Mod_117 {I A : jm_I} (h : Mod I A) (k : Nat) (x : Int32) : Mod (jm_u I 117 k x) (jm_u A 18 k x) := by
  obtain ⟨h1, h2, h3⟩ := h
  refine ⟨fun a j => ?_, fun a j => ?_, fun hk a j => ?_⟩
  · by_cases ha : a = 117
    · subst ha
      show j < 16 → jm_u I 117 k x 117 j = jm_u A 18 k x 18 j
      intro hj
      have e : I 117 j = A 18 j := h1 117 j hj
      rw [jm_u_eq, jm_u_eq, e]
    · rw [jm_u_ne I k x ha]
      have q := h1 a j
      revert q
      generalize I a j = y
      unfold modW zT zN
      split <;> first | exact fun q => q | (exfalso; exact ha rfl)
  · have e : modX A a j (jm_u I 117 k x a j) := by
      by_cases ha : a = 117
      · subst ha; trivial
      · rw [jm_u_ne I k x ha]; exact h2 a j
    exact modX_congr (jm_u_ne A k x (by decide)) (by rw [jm_u_ne A k x (by decide)]) (jm_u_ne A k x (by decide)) (jm_u_ne A k x (by decide)) (jm_u_ne A k x (by decide)) a j _ e
  · have e : kV (jm_u I 117 k x) a j = kV I a j := by unfold kV; rw [jm_u_ne I k x (by decide)]
    rw [e]
    refine modW_congr (A := fun a => A (a + 28)) (fun b c d => jm_u_ne A k x (by omega)) a j _ (h3 ?_ a j)
    rw [← hk, jm_u_ne A k x (by decide)]
theorem Mod_118 {I A : jm_I} (h : Mod I A) (k : Nat) (x : Int32) : Mod (jm_u I 118 k x) (jm_u A 11 k x) := by
  obtain ⟨h1, h2, h3⟩ := h
  refine ⟨fun a j => ?_, fun a j => ?_, fun hk a j => ?_⟩
  · by_cases ha : a = 118
    · subst ha
      show j < 5 → jm_u I 118 k x 118 j = jm_u A 11 k x 11 j
      intro hj
      have e : I 118 j = A 11 j := h1 118 j hj
      rw [jm_u_eq, jm_u_eq, e]
    · rw [jm_u_ne I k x ha]
      have q := h1 a j
      revert q
      generalize I a j = y
      unfold modW zT zN
      split <;> first | exact fun q => q | (exfalso; exact ha rfl)
  · have e : modX A a j (jm_u I 118 k x a j) := by
      by_cases ha : a = 118
      · subst ha; trivial
      · rw [jm_u_ne I k x ha]; exact h2 a j
    exact modX_congr (jm_u_ne A k x (by decide)) (by rw [jm_u_ne A k x (by decide)]) (jm_u_ne A k x (by decide)) (jm_u_ne A k x (by decide)) (jm_u_ne A k x (by decide)) a j _ e
  · have e : kV (jm_u I 118 k x) a j = kV I a j := by unfold kV; rw [jm_u_ne I k x (by decide)]
    rw [e]
    refine modW_congr (A := fun a => A (a + 28)) (fun b c d => jm_u_ne A k x (by omega)) a j _ (h3 ?_ a j)
    rw [← hk, jm_u_ne A k x (by decide)]
theorem Mod_119 {I A : jm_I} (h : Mod I A) (k : Nat) (x : Int32) : Mod (jm_u I 119 k x) (jm_u A 13 k x) := by
  obtain ⟨h1, h2, h3⟩ := h
  refine ⟨fun a j => ?_, fun a j => ?_, fun hk a j => ?_⟩
  · by_cases ha : a = 119
    · subst ha
      show j < 4 → jm_u I 119 k x 119 j = jm_u A 13 k x 13 j
      intro hj
      have e : I 119 j = A 13 j := h1 119 j hj
      rw [jm_u_eq, jm_u_eq, e]
    · rw [jm_u_ne I k x ha]
      have q := h1 a j
      revert q
      generalize I a j = y
      unfold modW zT zN
      split <;> first | exact fun q => q | (exfalso; exact ha rfl)
  · have e : modX A a j (jm_u I 119 k x a j) := by
      by_cases ha : a = 119
      · subst ha; trivial
      · rw [jm_u_ne I k x ha]; exact h2 a j
    exact modX_congr (jm_u_ne A k x (by decide)) (by rw [jm_u_ne A k x (by decide)]) (jm_u_ne A k x (by decide)) (jm_u_ne A k x (by decide)) (jm_u_ne A k x (by decide)) a j _ e
  · have e : kV (jm_u I 119 k x) a j = kV I a j := by unfold kV; rw [jm_u_ne I k x (by decide)]
    rw [e]
    refine modW_congr (A := fun a => A (a + 28)) (fun b c d => jm_u_ne A k x (by omega)) a j _ (h3 ?_ a j)
    rw [← hk, jm_u_ne A k x (by decide)]
theorem Mod_121 {I A : jm_I} (h : Mod I A) (k : Nat) (x : Int32) : Mod (jm_u I 121 k x) (jm_u A 22 k x) := by
  obtain ⟨h1, h2, h3⟩ := h
  refine ⟨fun a j => ?_, fun a j => ?_, fun hk a j => ?_⟩
  · by_cases ha : a = 121
    · subst ha
      show j < 6 → jm_u I 121 k x 121 j = jm_u A 22 k x 22 j
      intro hj
      have e : I 121 j = A 22 j := h1 121 j hj
      rw [jm_u_eq, jm_u_eq, e]
    · rw [jm_u_ne I k x ha]
      have q := h1 a j
      revert q
      generalize I a j = y
      unfold modW zT zN
      split <;> first | exact fun q => q | (exfalso; exact ha rfl)
  · have e : modX A a j (jm_u I 121 k x a j) := by
      by_cases ha : a = 121
      · subst ha; trivial
      · rw [jm_u_ne I k x ha]; exact h2 a j
    exact modX_congr (jm_u_ne A k x (by decide)) (by rw [jm_u_ne A k x (by decide)]) (jm_u_ne A k x (by decide)) (jm_u_ne A k x (by decide)) (jm_u_ne A k x (by decide)) a j _ e
  · have e : kV (jm_u I 121 k x) a j = kV I a j := by unfold kV; rw [jm_u_ne I k x (by decide)]
    rw [e]
    refine modW_congr (A := fun a => A (a + 28)) (fun b c d => jm_u_ne A k x (by omega)) a j _ (h3 ?_ a j)
    rw [← hk, jm_u_ne A k x (by decide)]
theorem Mod_122 {I A : jm_I} (h : Mod I A) (k : Nat) (x : Int32) : Mod (jm_u I 122 k x) (jm_u A 23 k x) := by
  obtain ⟨h1, h2, h3⟩ := h
  refine ⟨fun a j => ?_, fun a j => ?_, fun hk a j => ?_⟩
  · by_cases ha : a = 122
    · subst ha
      show j < 4 → jm_u I 122 k x 122 j = jm_u A 23 k x 23 j
      intro hj
      have e : I 122 j = A 23 j := h1 122 j hj
      rw [jm_u_eq, jm_u_eq, e]
    · rw [jm_u_ne I k x ha]
      have q := h1 a j
      revert q
      generalize I a j = y
      unfold modW zT zN
      split <;> first | exact fun q => q | (exfalso; exact ha rfl)
  · have e : modX A a j (jm_u I 122 k x a j) := by
      by_cases ha : a = 122
      · subst ha; trivial
      · rw [jm_u_ne I k x ha]; exact h2 a j
    exact modX_congr (jm_u_ne A k x (by decide)) (by rw [jm_u_ne A k x (by decide)]) (jm_u_ne A k x (by decide)) (jm_u_ne A k x (by decide)) (jm_u_ne A k x (by decide)) a j _ e
  · have e : kV (jm_u I 122 k x) a j = kV I a j := by unfold kV; rw [jm_u_ne I k x (by decide)]
    rw [e]
    refine modW_congr (A := fun a => A (a + 28)) (fun b c d => jm_u_ne A k x (by omega)) a j _ (h3 ?_ a j)
    rw [← hk, jm_u_ne A k x (by decide)]
theorem Mod_123 {I A : jm_I} (h : Mod I A) (k : Nat) (x : Int32) : Mod (jm_u I 123 k x) (jm_u A 24 k x) := by
  obtain ⟨h1, h2, h3⟩ := h
  refine ⟨fun a j => ?_, fun a j => ?_, fun hk a j => ?_⟩
  · by_cases ha : a = 123
    · subst ha
      show j < 4 → jm_u I 123 k x 123 j = jm_u A 24 k x 24 j
      intro hj
      have e : I 123 j = A 24 j := h1 123 j hj
      rw [jm_u_eq, jm_u_eq, e]
    · rw [jm_u_ne I k x ha]
      have q := h1 a j
      revert q
      generalize I a j = y
      unfold modW zT zN
      split <;> first | exact fun q => q | (exfalso; exact ha rfl)
  · have e : modX A a j (jm_u I 123 k x a j) := by
      by_cases ha : a = 123
      · subst ha; trivial
      · rw [jm_u_ne I k x ha]; exact h2 a j
    exact modX_congr (jm_u_ne A k x (by decide)) (by rw [jm_u_ne A k x (by decide)]) (jm_u_ne A k x (by decide)) (jm_u_ne A k x (by decide)) (jm_u_ne A k x (by decide)) a j _ e
  · have e : kV (jm_u I 123 k x) a j = kV I a j := by unfold kV; rw [jm_u_ne I k x (by decide)]
    rw [e]
    refine modW_congr (A := fun a => A (a + 28)) (fun b c d => jm_u_ne A k x (by omega)) a j _ (h3 ?_ a j)
    rw [← hk, jm_u_ne A k x (by decide)]
theorem Mod_124 {I A : jm_I} (h : Mod I A) (k : Nat) (x : Int32) : Mod (jm_u I 124 k x) (jm_u A 25 k x) := by
  obtain ⟨h1, h2, h3⟩ := h
  refine ⟨fun a j => ?_, fun a j => ?_, fun hk a j => ?_⟩
  · by_cases ha : a = 124
    · subst ha
      show j < 4 → jm_u I 124 k x 124 j = jm_u A 25 k x 25 j
      intro hj
      have e : I 124 j = A 25 j := h1 124 j hj
      rw [jm_u_eq, jm_u_eq, e]
    · rw [jm_u_ne I k x ha]
      have q := h1 a j
      revert q
      generalize I a j = y
      unfold modW zT zN
      split <;> first | exact fun q => q | (exfalso; exact ha rfl)
  · have e : modX A a j (jm_u I 124 k x a j) := by
      by_cases ha : a = 124
      · subst ha; trivial
      · rw [jm_u_ne I k x ha]; exact h2 a j
    exact modX_congr (jm_u_ne A k x (by decide)) (by rw [jm_u_ne A k x (by decide)]) (jm_u_ne A k x (by decide)) (jm_u_ne A k x (by decide)) (jm_u_ne A k x (by decide)) a j _ e
  · have e : kV (jm_u I 124 k x) a j = kV I a j := by unfold kV; rw [jm_u_ne I k x (by decide)]
    rw [e]
    refine modW_congr (A := fun a => A (a + 28)) (fun b c d => jm_u_ne A k x (by omega)) a j _ (h3 ?_ a j)
    rw [← hk, jm_u_ne A k x (by decide)]
theorem Mod_125 {I A : jm_I} (h : Mod I A) (k : Nat) (x : Int32) : Mod (jm_u I 125 k x) (jm_u A 27 k x) := by
  obtain ⟨h1, h2, h3⟩ := h
  refine ⟨fun a j => ?_, fun a j => ?_, fun hk a j => ?_⟩
  · by_cases ha : a = 125
    · subst ha
      show j < 40 → jm_u I 125 k x 125 j = jm_u A 27 k x 27 j
      intro hj
      have e : I 125 j = A 27 j := h1 125 j hj
      rw [jm_u_eq, jm_u_eq, e]
    · rw [jm_u_ne I k x ha]
      have q := h1 a j
      revert q
      generalize I a j = y
      unfold modW zT zN
      split <;> first | exact fun q => q | (exfalso; exact ha rfl)
  · have e : modX A a j (jm_u I 125 k x a j) := by
      by_cases ha : a = 125
      · subst ha; trivial
      · rw [jm_u_ne I k x ha]; exact h2 a j
    exact modX_congr (jm_u_ne A k x (by decide)) (by rw [jm_u_ne A k x (by decide)]) (jm_u_ne A k x (by decide)) (jm_u_ne A k x (by decide)) (jm_u_ne A k x (by decide)) a j _ e
  · have e : kV (jm_u I 125 k x) a j = kV I a j := by unfold kV; rw [jm_u_ne I k x (by decide)]
    rw [e]
    refine modW_congr (A := fun a => A (a + 28)) (fun b c d => jm_u_ne A k x (by omega)) a j _ (h3 ?_ a j)
    rw [← hk, jm_u_ne A k x (by decide)]
theorem Mod_126 {I A : jm_I} (h : Mod I A) (k : Nat) (x : Int32) : Mod (jm_u I 126 k x) (jm_u A 28 k x) := by
  obtain ⟨h1, h2, h3⟩ := h
  refine ⟨fun a j => ?_, fun a j => ?_, fun hk a j => ?_⟩
  · by_cases ha : a = 126
    · subst ha
      show j < 40 → jm_u I 126 k x 126 j = jm_u A 28 k x 28 j
      intro hj
      have e : I 126 j = A 28 j := h1 126 j hj
      rw [jm_u_eq, jm_u_eq, e]
    · rw [jm_u_ne I k x ha]
      have q := h1 a j
      revert q
      generalize I a j = y
      unfold modW zT zN
      split <;> first | exact fun q => q | (exfalso; exact ha rfl)
  · have e : modX A a j (jm_u I 126 k x a j) := by
      by_cases ha : a = 126
      · subst ha; trivial
      · rw [jm_u_ne I k x ha]; exact h2 a j
    exact modX_congr (jm_u_ne A k x (by decide)) (by rw [jm_u_ne A k x (by decide)]) (jm_u_ne A k x (by decide)) (jm_u_ne A k x (by decide)) (jm_u_ne A k x (by decide)) a j _ e
  · have e : kV (jm_u I 126 k x) a j = kV I a j := by unfold kV; rw [jm_u_ne I k x (by decide)]
    rw [e]
    refine modW_congr (A := fun a => A (a + 28)) (fun b c d => jm_u_ne A k x (by omega)) a j _ (h3 ?_ a j)
    rw [← hk, jm_u_ne A k x (by decide)]
theorem Mod_127 {I A : jm_I} (h : Mod I A) (k : Nat) (x : Int32) : Mod (jm_u I 127 k x) (jm_u A 29 k x) := by
  obtain ⟨h1, h2, h3⟩ := h
  refine ⟨fun a j => ?_, fun a j => ?_, fun hk a j => ?_⟩
  · by_cases ha : a = 127
    · subst ha
      show j < 40 → jm_u I 127 k x 127 j = jm_u A 29 k x 29 j
      intro hj
      have e : I 127 j = A 29 j := h1 127 j hj
      rw [jm_u_eq, jm_u_eq, e]
    · rw [jm_u_ne I k x ha]
      have q := h1 a j
      revert q
      generalize I a j = y
      unfold modW zT zN
      split <;> first | exact fun q => q | (exfalso; exact ha rfl)
  · have e : modX A a j (jm_u I 127 k x a j) := by
      by_cases ha : a = 127
      · subst ha; trivial
      · rw [jm_u_ne I k x ha]; exact h2 a j
    exact modX_congr (jm_u_ne A k x (by decide)) (by rw [jm_u_ne A k x (by decide)]) (jm_u_ne A k x (by decide)) (jm_u_ne A k x (by decide)) (jm_u_ne A k x (by decide)) a j _ e
  · have e : kV (jm_u I 127 k x) a j = kV I a j := by unfold kV; rw [jm_u_ne I k x (by decide)]
    rw [e]
    refine modW_congr (A := fun a => A (a + 28)) (fun b c d => jm_u_ne A k x (by omega)) a j _ (h3 ?_ a j)
    rw [← hk, jm_u_ne A k x (by decide)]
theorem Mod_128 {I A : jm_I} (h : Mod I A) (k : Nat) (x : Int32) : Mod (jm_u I 128 k x) (jm_u A 30 k x) := by
  obtain ⟨h1, h2, h3⟩ := h
  refine ⟨fun a j => ?_, fun a j => ?_, fun hk a j => ?_⟩
  · by_cases ha : a = 128
    · subst ha
      show j < 40 → jm_u I 128 k x 128 j = jm_u A 30 k x 30 j
      intro hj
      have e : I 128 j = A 30 j := h1 128 j hj
      rw [jm_u_eq, jm_u_eq, e]
    · rw [jm_u_ne I k x ha]
      have q := h1 a j
      revert q
      generalize I a j = y
      unfold modW zT zN
      split <;> first | exact fun q => q | (exfalso; exact ha rfl)
  · have e : modX A a j (jm_u I 128 k x a j) := by
      by_cases ha : a = 128
      · subst ha; trivial
      · rw [jm_u_ne I k x ha]; exact h2 a j
    exact modX_congr (jm_u_ne A k x (by decide)) (by rw [jm_u_ne A k x (by decide)]) (jm_u_ne A k x (by decide)) (jm_u_ne A k x (by decide)) (jm_u_ne A k x (by decide)) a j _ e
  · have e : kV (jm_u I 128 k x) a j = kV I a j := by unfold kV; rw [jm_u_ne I k x (by decide)]
    rw [e]
    refine modW_congr (A := fun a => A (a + 28)) (fun b c d => jm_u_ne A k x (by omega)) a j _ (h3 ?_ a j)
    rw [← hk, jm_u_ne A k x (by decide)]
theorem Mod_129 {I A : jm_I} (h : Mod I A) (k : Nat) (x : Int32) : Mod (jm_u I 129 k x) (jm_u A 31 k x) := by
  obtain ⟨h1, h2, h3⟩ := h
  refine ⟨fun a j => ?_, fun a j => ?_, fun hk a j => ?_⟩
  · by_cases ha : a = 129
    · subst ha
      show j < 40 → jm_u I 129 k x 129 j = jm_u A 31 k x 31 j
      intro hj
      have e : I 129 j = A 31 j := h1 129 j hj
      rw [jm_u_eq, jm_u_eq, e]
    · rw [jm_u_ne I k x ha]
      have q := h1 a j
      revert q
      generalize I a j = y
      unfold modW zT zN
      split <;> first | exact fun q => q | (exfalso; exact ha rfl)
  · have e : modX A a j (jm_u I 129 k x a j) := by
      by_cases ha : a = 129
      · subst ha; trivial
      · rw [jm_u_ne I k x ha]; exact h2 a j
    exact modX_congr (jm_u_ne A k x (by decide)) (by rw [jm_u_ne A k x (by decide)]) (jm_u_ne A k x (by decide)) (jm_u_ne A k x (by decide)) (jm_u_ne A k x (by decide)) a j _ e
  · have e : kV (jm_u I 129 k x) a j = kV I a j := by unfold kV; rw [jm_u_ne I k x (by decide)]
    rw [e]
    refine modW_congr (A := fun a => A (a + 28)) (fun b c d => jm_u_ne A k x (by omega)) a j _ (h3 ?_ a j)
    rw [← hk, jm_u_ne A k x (by decide)]
theorem Mod_130 {I A : jm_I} (h : Mod I A) (k : Nat) (x : Int32) : Mod (jm_u I 130 k x) (jm_u A 32 k x) := by
  obtain ⟨h1, h2, h3⟩ := h
  refine ⟨fun a j => ?_, fun a j => ?_, fun hk a j => ?_⟩
  · by_cases ha : a = 130
    · subst ha
      show j < 40 → jm_u I 130 k x 130 j = jm_u A 32 k x 32 j
      intro hj
      have e : I 130 j = A 32 j := h1 130 j hj
      rw [jm_u_eq, jm_u_eq, e]
    · rw [jm_u_ne I k x ha]
      have q := h1 a j
      revert q
      generalize I a j = y
      unfold modW zT zN
      split <;> first | exact fun q => q | (exfalso; exact ha rfl)
  · have e : modX A a j (jm_u I 130 k x a j) := by
      by_cases ha : a = 130
      · subst ha; trivial
      · rw [jm_u_ne I k x ha]; exact h2 a j
    exact modX_congr (jm_u_ne A k x (by decide)) (by rw [jm_u_ne A k x (by decide)]) (jm_u_ne A k x (by decide)) (jm_u_ne A k x (by decide)) (jm_u_ne A k x (by decide)) a j _ e
  · have e : kV (jm_u I 130 k x) a j = kV I a j := by unfold kV; rw [jm_u_ne I k x (by decide)]
    rw [e]
    refine modW_congr (A := fun a => A (a + 28)) (fun b c d => jm_u_ne A k x (by omega)) a j _ (h3 ?_ a j)
    rw [← hk, jm_u_ne A k x (by decide)]
theorem Mod_131 {I A : jm_I} (h : Mod I A) (k : Nat) (x : Int32) : Mod (jm_u I 131 k x) (jm_u A 33 k x) := by
  obtain ⟨h1, h2, h3⟩ := h
  refine ⟨fun a j => ?_, fun a j => ?_, fun hk a j => ?_⟩
  · by_cases ha : a = 131
    · subst ha
      show j < 40 → jm_u I 131 k x 131 j = jm_u A 33 k x 33 j
      intro hj
      have e : I 131 j = A 33 j := h1 131 j hj
      rw [jm_u_eq, jm_u_eq, e]
    · rw [jm_u_ne I k x ha]
      have q := h1 a j
      revert q
      generalize I a j = y
      unfold modW zT zN
      split <;> first | exact fun q => q | (exfalso; exact ha rfl)
  · have e : modX A a j (jm_u I 131 k x a j) := by
      by_cases ha : a = 131
      · subst ha; trivial
      · rw [jm_u_ne I k x ha]; exact h2 a j
    exact modX_congr (jm_u_ne A k x (by decide)) (by rw [jm_u_ne A k x (by decide)]) (jm_u_ne A k x (by decide)) (jm_u_ne A k x (by decide)) (jm_u_ne A k x (by decide)) a j _ e
  · have e : kV (jm_u I 131 k x) a j = kV I a j := by unfold kV; rw [jm_u_ne I k x (by decide)]
    rw [e]
    refine modW_congr (A := fun a => A (a + 28)) (fun b c d => jm_u_ne A k x (by omega)) a j _ (h3 ?_ a j)
    rw [← hk, jm_u_ne A k x (by decide)]
theorem Mod_136 {I A : jm_I} (h : Mod I A) (k : Nat) (x : Int32) : Mod (jm_u I 136 k x) (jm_u A 19 k x) := by
  obtain ⟨h1, h2, h3⟩ := h
  refine ⟨fun a j => ?_, fun a j => ?_, fun hk a j => ?_⟩
  · by_cases ha : a = 136
    · subst ha
      show j < 4 → jm_u I 136 k x 136 j = jm_u A 19 k x 19 j
      intro hj
      have e : I 136 j = A 19 j := h1 136 j hj
      rw [jm_u_eq, jm_u_eq, e]
    · rw [jm_u_ne I k x ha]
      have q := h1 a j
      revert q
      generalize I a j = y
      unfold modW zT zN
      split <;> first | exact fun q => q | (exfalso; exact ha rfl)
  · have e : modX A a j (jm_u I 136 k x a j) := by
      by_cases ha : a = 136
      · subst ha; trivial
      · rw [jm_u_ne I k x ha]; exact h2 a j
    exact modX_congr (jm_u_ne A k x (by decide)) (by rw [jm_u_ne A k x (by decide)]) (jm_u_ne A k x (by decide)) (jm_u_ne A k x (by decide)) (jm_u_ne A k x (by decide)) a j _ e
  · have e : kV (jm_u I 136 k x) a j = kV I a j := by unfold kV; rw [jm_u_ne I k x (by decide)]
    rw [e]
    refine modW_congr (A := fun a => A (a + 28)) (fun b c d => jm_u_ne A k x (by omega)) a j _ (h3 ?_ a j)
    rw [← hk, jm_u_ne A k x (by decide)]
theorem Mod_137 {I A : jm_I} (h : Mod I A) (k : Nat) (x : Int32) : Mod (jm_u I 137 k x) (jm_u A 20 k x) := by
  obtain ⟨h1, h2, h3⟩ := h
  refine ⟨fun a j => ?_, fun a j => ?_, fun hk a j => ?_⟩
  · by_cases ha : a = 137
    · subst ha
      show j < 4 → jm_u I 137 k x 137 j = jm_u A 20 k x 20 j
      intro hj
      have e : I 137 j = A 20 j := h1 137 j hj
      rw [jm_u_eq, jm_u_eq, e]
    · rw [jm_u_ne I k x ha]
      have q := h1 a j
      revert q
      generalize I a j = y
      unfold modW zT zN
      split <;> first | exact fun q => q | (exfalso; exact ha rfl)
  · have e : modX A a j (jm_u I 137 k x a j) := by
      by_cases ha : a = 137
      · subst ha; trivial
      · rw [jm_u_ne I k x ha]; exact h2 a j
    exact modX_congr (jm_u_ne A k x (by decide)) (by rw [jm_u_ne A k x (by decide)]) (jm_u_ne A k x (by decide)) (jm_u_ne A k x (by decide)) (jm_u_ne A k x (by decide)) a j _ e
  · have e : kV (jm_u I 137 k x) a j = kV I a j := by unfold kV; rw [jm_u_ne I k x (by decide)]
    rw [e]
    refine modW_congr (A := fun a => A (a + 28)) (fun b c d => jm_u_ne A k x (by omega)) a j _ (h3 ?_ a j)
    rw [← hk, jm_u_ne A k x (by decide)]
theorem Mod_x {I J A B : jm_I} (h : Mod I A) (hI : ∀ a, a = 144 ∨ (113 ≤ a ∧ a ≤ 131) ∨ (134 ≤ a ∧ a ≤ 143) → J a = I a) (h20 : J 111 20 = I 111 20) (h29 : J 111 29 = I 111 29) (hA : ∀ a, 11 ≤ a ∧ a ≤ 65 → B a = A a) (h9 : B 9 2 = A 9 2) (hx : ∀ a j, modX B a j (J a j)) : Mod J B := by
  obtain ⟨h1, h2, h3⟩ := h
  have c1 : ∀ b, 11 ≤ b → b ≤ 37 → B b = A b := fun b p q => hA b ⟨p, by omega⟩
  refine ⟨fun a j => modW_congr c1 a j _ ?_, hx, fun hk a j => ?_⟩
  · by_cases ha : (113 ≤ a ∧ a ≤ 131) ∨ (134 ≤ a ∧ a ≤ 143)
    · rw [hI a (by omega)]; exact h1 a j
    · by_cases h11 : a = 111
      · subst h11
        have q := h1 111 j
        refine ⟨fun e => ?_, fun e => ?_⟩
        · subst e; rw [h20]; exact q.1 rfl
        · subst e; rw [h29]; exact q.2 rfl
      · unfold modW
        split <;> first | trivial | (exfalso; omega)
  · have e : kV J a j = kV I a j := by unfold kV; rw [hI 144 (Or.inl rfl)]
    rw [e]
    exact modW_congr (A := fun a => A (a + 28)) (B := fun a => B (a + 28)) (fun b p q => hA _ ⟨by omega, by omega⟩) a j _ (h3 (by rw [← h9]; exact hk) a j)
/-- a refusal on both sides -/
def rfm (I : jm_I) (c : Nat) : jm_I := jm_u I 112 (c + 1) (I 112 (c + 1) + nI 1)
theorem Mod_rf {I A : jm_I} (h : Mod I A) {c : Nat} (hc : c < 6) : Mod (rfm I c) (rf A c) := by
  unfold rfm rf
  have h2 := h.2.1
  refine Mod_x h (fun a ha => jm_u_ne I _ _ (by omega)) (by rw [jm_u_ne I _ _ (by decide)]) (by rw [jm_u_ne I _ _ (by decide)]) (fun a ha => jm_u_ne A _ _ (by omega)) (by rw [jm_u_ne A _ _ (by decide)]) (fun a j => ?_)
  by_cases ha : a = 112
  · subst ha
    intro d hd hd6
    subst hd
    have e : I 112 (d + 1) = A 70 d := h2 112 (d + 1) d rfl hd6
    have e2 : I 112 (c + 1) = A 70 c := h2 112 (c + 1) c rfl hc
    rw [jm_u_eq, jm_u_eq, e, e2]
    by_cases q : d = c
    · subst q; simp
    · rw [if_neg (by omega), if_neg q]
  · rw [jm_u_ne I _ _ ha]
    have q := h2 a j
    revert q
    generalize I a j = y
    unfold modX
    split <;> first | exact fun q => q | (exfalso; exact ha rfl)
theorem Inv_rf {A : jm_I} (h : Inv A) (c : Nat) : Inv (rf A c) := by
  refine Inv_u h ?_
  unfold invP
  rw [if_neg (by decide), if_neg (by decide), if_neg (by decide), if_pos (by decide)]
  trivial
theorem rz_lt (w : Int32) : rz w < 6 := by
  unfold rz
  repeat' split
  all_goals decide
/-- both sides refuse alike -/
theorem op_refuse {I : jm_I} (hI : Inv I) (hM : Mod I I) (w : Int32) : Inv (rfm (rf I (rz w)) (rz w)) ∧ Mod (rfm (rf I (rz w)) (rz w)) (rfm (rf I (rz w)) (rz w)) := by
  have hc : Cls (rfm (rf I (rz w)) (rz w)) (rf I (rz w)) := ⟨fun a ha => jm_u_ne _ _ _ (by omega), by unfold rfm; rw [jm_u_ne _ _ _ (by decide)]⟩
  refine ⟨Inv_congr hc (Inv_rf hI _), Mod_congr (I := rfm I (rz w)) (fun a ha => ?_) hc (Mod_rf hM (rz_lt w))⟩
  unfold rfm rf
  by_cases h : a = 112
  · subst h
    funext j
    rw [jm_u_eq, jm_u_eq, jm_u_ne I _ _ (by decide)]
  · rw [jm_u_ne _ _ _ h, jm_u_ne _ _ _ (by omega), jm_u_ne _ _ _ h]
