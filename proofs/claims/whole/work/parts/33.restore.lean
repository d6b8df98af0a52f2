theorem rsC_at (J : jm_I) {a : Nat} (h : a < 111 ∨ a = 112 ∨ a = 120 ∨ a = 132 ∨ a = 133 ∨ a = 144) : stR (rsC J) 590 a = J a := by
  rw [stR_at _ _ (by omega)]
  unfold rsC rsB
  rw [jm_u_ne _ _ _ (by omega), jm_u_ne _ _ _ (by omega), jm_u_ne _ _ _ (by omega), jm_u_ne _ _ _ (by omega), jm_u_ne _ _ _ (by omega), jm_u_ne _ _ _ (by omega)]
  exact rsA_at J (by omega)
theorem rsC_111 (J : jm_I) {j : Nat} (h1 : j ≠ 20) (h2 : j ≠ 29) (h3 : j ≠ 42) : stR (rsC J) 590 111 j = J 111 j := by
  rw [stR_111 _ _ h3]
  unfold rsC rsB
  rw [jm_u_ne _ _ _ (by omega), jm_u_ne _ _ _ (by omega), jm_u_ne _ _ _ (by omega), jm_u_ne _ _ _ (by omega), jm_u_eq, if_neg h2, jm_u_eq, if_neg h1, rsA_at J (by omega)]
theorem op_restore (n : Nat) : Op n rX9_restore rX10_restore [.ref 9] [.ref 111] := by
  intro I L hI hM
  have e41 : I 111 41 = I 9 2 := (hM.2.1 111 41).2.2 rfl
  have h92 := (hI 9 2 (by decide)).1 rfl
  by_cases h0 : I 9 2 = 0
  · refine Op_ref hI hM (.int (-3)) (-3) ?_ ?_
    · simp [eX9_restore_0, eX9_restore_7, h0, h_refuse n I L (-3) (by simp [isR]), jB_s]
    · have r41 : rf I (rz (-3)) 111 41 = 0 := by rw [rf_ap, if_neg (by decide), e41, h0]
      simp [eX10_restore_0, eX10_restore_7, r41, m_no n _ L (-3) (by simp [isR]), jB_s]
  · have h1 : I 9 2 = 1 := h92.resolve_left h0
    have hk := hM.2.2 h1
    obtain ⟨J, hJ, j1, j2⟩ := c_cpW_w n I L (fun j hj => b01 (hI 41 j (by decide) hj))
    have S144 : jm_u J 111 43 (nI 0) 144 = I 144 := by rw [jm_u_ne _ _ _ (by decide), j1 144 (by decide)]
    have hp := m_passesAll_r n (jm_u J 111 43 (nI 0)) L (by simp [jm_u_ap, upd_ap]; rfl) (fun m hm => by
      rw [S144]
      have e : I 144 (586 + m) = I 41 m := hk 119 m hm
      rw [e]
      exact hI 41 m (by decide) hm)
    have kv : ∀ {a j : Nat}, okM a j → stR (rsC (jm_u J 111 43 (nI 0))) 590 a j = kV I a j := fun {a j} h => by
      rw [kV_r _ h]
      unfold kV
      rw [S144]
    have kat := @rsC_at (jm_u J 111 43 (nI 0))
    have k111 := @rsC_111 (jm_u J 111 43 (nI 0))
    generalize stR (rsC (jm_u J 111 43 (nI 0))) 590 = K at *
    have kI : ∀ a, (a < 11 ∨ (37 < a ∧ a < 111) ∨ a = 112 ∨ a = 120 ∨ a = 132 ∨ a = 133 ∨ a = 144) → K a = I a := fun a ha => by
      rw [kat (by omega), jm_u_ne _ _ _ (by omega), j1 a (by omega)]
    have kJ : ∀ a, a < 111 → K a = J a := fun a ha => by rw [kat (by omega), jm_u_ne _ _ _ (by omega)]
    have kx : ∀ j, j ≠ 20 → j ≠ 29 → j ≠ 42 → j ≠ 43 → K 111 j = I 111 j := fun j h1 h2 h3 h4 => by
      rw [k111 h1 h2 h3, jm_u_eq, if_neg h4, j1 111 (by decide)]
    have kw : ∀ c j, okW c j → K c j = I (c + 28) j := fun c j ok => by
      have hc : 11 ≤ c ∧ c ≤ 37 := by
        unfold okW at ok
        split at ok <;> first | exact ok.elim | omega
      rw [kJ c (by omega)]
      exact j2 c j ok
    have a1 : J 26 8 = I 54 8 := j2 26 8 rfl
    have a2 : K 111 20 = I 54 8 := by
      rw [kv (show okM 111 20 from Or.inl rfl)]
      exact (hk 111 20).1 rfl
    refine ⟨.int (I 54 8), J, L, K, L, ?_, ?_, ?_, ?_, ?_, ?_⟩
    · simp [eX9_restore_0, eX9_restore_14, h0, hJ, jB_v, a1]
    · have r41 : ¬ J 111 41 = 0 := by rw [j1 111 (by decide), e41]; exact h0
      simp only [eX10_restore_0, eX10_restore_14, r41, not_false_eq_true, if_true]
      rw [hp, jB_v]
      simp only [eX10_restore_14, a2]
    · intro a j ha
      by_cases hw : 11 ≤ a ∧ a ≤ 37
      · have e1 : invP a j (K a j) = invW a j (K a j) := by
          unfold invP
          rw [if_neg (by omega), if_neg (by omega), if_neg (by omega), if_neg (by omega)]
        rw [e1]
        refine invW_ok (fun ok => ?_)
        rw [kw a j ok]
        have q := hI (a + 28) j (by omega)
        unfold invP at q
        rw [if_neg (by omega), if_neg (by omega), if_neg (by omega), if_pos (by omega), show a + 28 - 28 = a by omega] at q
        exact q
      · rw [kI a (by omega)]
        exact hI a j ha
    · intro a j
      refine modW_ok (A := fun a => I (a + 28)) (TNk hI).1 (fun t ht => len3k hI ht) (TNk hI).2 kw ?_
      exact modW_x (TNk hI).1 (fun t ht => len3k hI ht) (TNk hI).2 (fun ok => kv ok) (hk a j)
    · intro a j
      have q := hM.2.1 a j
      by_cases h1 : a = 111
      · subst h1
        refine ⟨fun e => ?_, fun e => ?_, fun e => ?_⟩
        · subst e; rw [kx 22 (by decide) (by decide) (by decide) (by decide), kI 9 (by decide)]; exact q.1 rfl
        · subst e; rw [kx 28 (by decide) (by decide) (by decide) (by decide), kI 66 (by decide)]; exact q.2.1 rfl
        · subst e; rw [kx 41 (by decide) (by decide) (by decide) (by decide), kI 9 (by decide)]; exact q.2.2 rfl
      · have e69 : K 69 = I 69 := kI 69 (by decide)
        have e70 : K 70 = I 70 := kI 70 (by decide)
        have e67 : K 67 = I 67 := kI 67 (by decide)
        by_cases ha : a = 112 ∨ a = 120 ∨ a = 132 ∨ a = 133
        · rw [kI a (by omega)]
          revert q
          generalize I a j = x
          unfold modX
          rw [e69, e70, e67]
          split <;> intro q <;> first | exact absurd rfl h1 | exact q
        · unfold modX
          split <;> first | omega | trivial
    · intro h1 a j
      have e : kV K a j = kV I a j := by
        unfold kV
        rw [kI 144 (by decide)]
      rw [e]
      exact modW_congr (A := fun a => I (a + 28)) (B := fun a => K (a + 28)) (fun b h1 h2 => kI (b + 28) (by omega)) a j _ (hk a j)
