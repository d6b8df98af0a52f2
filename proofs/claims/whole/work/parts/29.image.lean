/-! the image: rows copied -/
theorem va_cpy_ap (f g : Nat → Int32) (m j : Nat) : va_cpy f g 0 0 m j = if j < m then f j else g j := by
  unfold va_cpy
  rw [Nat.zero_add, Nat.zero_add, Nat.sub_zero]
  by_cases h : j < m
  · rw [if_pos h, if_pos ⟨Nat.zero_le _, h⟩]
  · rw [if_neg h, if_neg (fun q => h q.2)]
theorem jm_uA_ap (I : jm_I) (a b : Nat) (f : Nat → Int32) : jm_uA I a f b = if b = a then f else I b := rfl
theorem jm_uA_ne (I : jm_I) {a b : Nat} (f : Nat → Int32) (h : b ≠ a) : jm_uA I a f b = I b := by rw [jm_uA_ap, if_neg h]
def cp (I : jm_I) (a b m : Nat) : jm_I := jm_uA I a (va_cpy (I b) (I a) 0 0 m)
theorem c_copy (n : Nat) (I : jm_I) (L : jm_L) (a b : Nat) (h1 : jLW n a = jLW n b) (h2 : jLA n a = jLW n b) (h3 : jLA n b = jLW n b) (h4 : 0 < jLW n b) (h5 : jLW n b < 2 ^ 31) : jE n rX9_copy 0 [.ref b, .ref a] [] I L = some (none, jS n (cp I a b (jLW n b)) L) := by
  have h6 : 0 < jLA n a := by omega
  have h7 : 0 < jLA n b := by omega
  have c : (if nI (jLA n a) < nI (jLA n b) then nI (jLA n a) else nI (jLA n b)) = nI (jLW n b) := by rw [h2, h3]; split <;> rfl
  have e := eX9_copy_0.2.2.2.2.2.2.2.2.2.1 n (.ref b) (.ref a) I L (jLW n b) a b h1 rfl h4 h5
  simp only [eX9_copy_0.1, eX9_copy_0.2.1, eX9_copy_0.2.2.1, eX9_copy_0.2.2.2.1, eX9_copy_0.2.2.2.2.1, eX9_copy_0.2.2.2.2.2.1, eX9_copy_0.2.2.2.2.2.2.1, eX9_copy_0.2.2.2.2.2.2.2.1, eX9_copy_0.2.2.2.2.2.2.2.2.1, h6, h7, c]
  rw [e, eX9_copy_0.2.2.2.2.2.2.2.2.2.2]
  rfl
def okW (c j : Nat) : Prop := match c with
  | 11 => j < 5
  | 13 => j < 4
  | 14 => j < 4
  | 15 => j < 4
  | 16 => j < 4
  | 17 => j < 4
  | 18 => j < 16
  | 19 => j < 4
  | 20 => j < 4
  | 22 => j < 6
  | 23 => j < 4
  | 24 => j < 4
  | 25 => j < 4
  | 26 => j = 8
  | 27 => j < 40
  | 28 => j < 40
  | 29 => j < 40
  | 30 => j < 40
  | 31 => j < 40
  | 32 => j < 40
  | 33 => j < 40
  | 34 => j < 160
  | 35 => j = 2
  | 36 => j < 24
  | 37 => j < 8
  | _ => False
/-- J is I with the World's cells S at d copied from those at s -/
def CP (d s : Nat) (I J : jm_I) (S : List Nat) : Prop := (∀ a, (a < 11 + d ∨ 37 + d < a) → J a = I a) ∧ (∀ c, c ∈ S → ∀ j, okW c j → J (c + d) j = I (c + s) j)
theorem CP_0 (d s : Nat) (I : jm_I) : CP d s I I [] := ⟨fun _ _ => rfl, fun c h => absurd h (by simp)⟩
theorem CP_c {d s : Nat} {I J : jm_I} {S : List Nat} (h : CP d s I J S) (hds : (d = 28 ∧ s = 0) ∨ (d = 0 ∧ s = 28)) (c m : Nat) (hc : 11 ≤ c ∧ c ≤ 37) (hm : ∀ j, okW c j → j < m) : CP d s I (cp J (c + d) (c + s) m) (c :: S) := by
  refine ⟨fun a ha => ?_, fun c' hc' j hj => ?_⟩
  · unfold cp
    rw [jm_uA_ne _ _ (by omega)]
    exact h.1 a ha
  · unfold cp
    rw [jm_uA_ap]
    by_cases e : c' = c
    · subst e
      rw [if_pos rfl, va_cpy_ap, if_pos (hm j hj), h.1 (c' + s) (by omega)]
    · rw [if_neg (by omega)]
      rcases List.mem_cons.mp hc' with q | q
      · exact absurd q e
      · exact h.2 c' q j hj
theorem CP_u {d s : Nat} {I J : jm_I} {S : List Nat} (h : CP d s I J S) (hds : (d = 28 ∧ s = 0) ∨ (d = 0 ∧ s = 28)) (c k : Nat) (hc : 11 ≤ c ∧ c ≤ 37) (hm : ∀ j, okW c j → j = k) : CP d s I (jm_u J (c + d) k (J (c + s) k)) (c :: S) := by
  refine ⟨fun a ha => ?_, fun c' hc' j hj => ?_⟩
  · rw [jm_u_ne _ _ _ (by omega)]
    exact h.1 a ha
  · by_cases e : c' = c
    · subst e
      rw [jm_u_ap, if_pos rfl, upd_ap, if_pos (hm j hj), h.1 (c' + s) (by omega), hm j hj]
    · rw [jm_u_ne _ _ _ (by omega)]
      rcases List.mem_cons.mp hc' with q | q
      · exact absurd q e
      · exact h.2 c' q j hj
theorem CP_t {d s : Nat} {I J : jm_I} {S : List Nat} (h : CP d s I J S) (hds : (d = 28 ∧ s = 0) ∨ (d = 0 ∧ s = 28)) : CP d s I (jm_u (jm_u (jm_u (jm_u J (13 + d) 0 (J (13 + s) 0)) (13 + d) 1 (J (13 + s) 1)) (13 + d) 2 (J (13 + s) 2)) (13 + d) 3 (J (13 + s) 3)) (13 :: S) := by
  refine ⟨fun a ha => ?_, fun c' hc' j hj => ?_⟩
  · rw [jm_u_ne _ _ _ (by omega), jm_u_ne _ _ _ (by omega), jm_u_ne _ _ _ (by omega), jm_u_ne _ _ _ (by omega)]
    exact h.1 a ha
  · by_cases e : c' = 13
    · subst e
      have hj4 : j < 4 := hj
      rw [h.1 (13 + s) (by omega)]
      rcases (show j = 0 ∨ j = 1 ∨ j = 2 ∨ j = 3 by omega) with rfl | rfl | rfl | rfl <;> simp [jm_u_ap, upd_ap]
    · rw [jm_u_ne _ _ _ (by omega), jm_u_ne _ _ _ (by omega), jm_u_ne _ _ _ (by omega), jm_u_ne _ _ _ (by omega)]
      rcases List.mem_cons.mp hc' with q | q
      · exact absurd q e
      · exact h.2 c' q j hj

theorem c_cpM_k (n : Nat) (J : jm_I) (L : jm_L) (h : ∀ j, j < 4 → J 13 j &&& 1 = J 13 j) : jE n rX2_copyFrom 0 [.ref 40, .ref 12, .null] [] J L = some (none, jS n (cp (cp (cp (cp (cp (cp (cp (jm_u (jm_u (jm_u (jm_u J 41 0 (J 13 0)) 41 1 (J 13 1)) 41 2 (J 13 2)) 41 3 (J 13 3)) 42 14 4) 43 15 4) 44 16 4) 45 17 4) 46 18 16) 47 19 4) 48 20 4) L) := by
  have h0 := h 0 (by decide)
  have h1 := h 1 (by decide)
  have h2 := h 2 (by decide)
  have h3 := h 3 (by decide)
  simp (decide := true) [eX2_copyFrom_0, eX2_copyFrom_2, eX2_copyFrom_7, eX2_copyFrom_25, jLI_t, jLW_t, jLL_t, jLZ_t, jLA_t, c_copy, jB_v, jm_u_ap, h0, h1, h2, h3, nI_add]
theorem c_rowOf_k (n : Nat) (J : jm_I) (L : jm_L) : jE n rX6_rowOf 0 [.ref 49, .int (nI 0)] [] J L = some (some (.ref 50), jS n J L) ∧ jE n rX6_rowOf 0 [.ref 49, .int (nI 1)] [] J L = some (some (.ref 51), jS n J L) ∧ jE n rX6_rowOf 0 [.ref 49, .int (nI 2)] [] J L = some (some (.ref 52), jS n J L) ∧ jE n rX6_rowOf 0 [.ref 49, .int (nI 3)] [] J L = some (some (.ref 53), jS n J L) := by
  refine ⟨?_, ?_, ?_, ?_⟩ <;> simp (decide := true) [eX6_rowOf_0, eX6_rowOf_28, eX6_rowOf_33, eX6_rowOf_38, eX6_rowOf_43]
theorem c_cpS_k (n : Nat) (J : jm_I) (L : jm_L) : jE n rX3_copyFrom 0 [.ref 54, .ref 26] [] J L = some (none, jS n (jm_u (cp (cp (cp (cp (cp (cp (cp (cp J 55 27 40) 56 28 40) 57 29 40) 58 30 40) 59 31 40) 60 32 40) 61 33 40) 62 34 160) 54 8 (J 26 8)) L) := by
  simp (decide := true) [eX3_copyFrom_0, jLI_t, jLW_t, jLL_t, jLZ_t, jLA_t, c_copy, jB_v, cp, jm_uA_ap]
theorem c_cpB_k (n : Nat) (J : jm_I) (L : jm_L) : jE n rX4_copyFrom 0 [.ref 63, .ref 35] [] J L = some (none, jS n (jm_u (cp (cp J 64 36 24) 65 37 8) 63 2 (J 35 2)) L) := by
  simp (decide := true) [eX4_copyFrom_0, jLI_t, jLW_t, jLL_t, jLZ_t, jLA_t, c_copy, jB_v, cp, jm_uA_ap]
theorem c_cpM_w (n : Nat) (J : jm_I) (L : jm_L) (h : ∀ j, j < 4 → J 41 j &&& 1 = J 41 j) : jE n rX2_copyFrom 0 [.ref 12, .ref 40, .null] [] J L = some (none, jS n (cp (cp (cp (cp (cp (cp (cp (jm_u (jm_u (jm_u (jm_u J 13 0 (J 41 0)) 13 1 (J 41 1)) 13 2 (J 41 2)) 13 3 (J 41 3)) 14 42 4) 15 43 4) 16 44 4) 17 45 4) 18 46 16) 19 47 4) 20 48 4) L) := by
  have h0 := h 0 (by decide)
  have h1 := h 1 (by decide)
  have h2 := h 2 (by decide)
  have h3 := h 3 (by decide)
  simp (decide := true) [eX2_copyFrom_0, eX2_copyFrom_2, eX2_copyFrom_7, eX2_copyFrom_25, jLI_t, jLW_t, jLL_t, jLZ_t, jLA_t, c_copy, jB_v, jm_u_ap, h0, h1, h2, h3, nI_add]
theorem c_rowOf_w (n : Nat) (J : jm_I) (L : jm_L) : jE n rX6_rowOf 0 [.ref 21, .int (nI 0)] [] J L = some (some (.ref 22), jS n J L) ∧ jE n rX6_rowOf 0 [.ref 21, .int (nI 1)] [] J L = some (some (.ref 23), jS n J L) ∧ jE n rX6_rowOf 0 [.ref 21, .int (nI 2)] [] J L = some (some (.ref 24), jS n J L) ∧ jE n rX6_rowOf 0 [.ref 21, .int (nI 3)] [] J L = some (some (.ref 25), jS n J L) := by
  refine ⟨?_, ?_, ?_, ?_⟩ <;> simp (decide := true) [eX6_rowOf_0, eX6_rowOf_28, eX6_rowOf_33, eX6_rowOf_38, eX6_rowOf_43]
theorem c_cpS_w (n : Nat) (J : jm_I) (L : jm_L) : jE n rX3_copyFrom 0 [.ref 26, .ref 54] [] J L = some (none, jS n (jm_u (cp (cp (cp (cp (cp (cp (cp (cp J 27 55 40) 28 56 40) 29 57 40) 30 58 40) 31 59 40) 32 60 40) 33 61 40) 34 62 160) 26 8 (J 54 8)) L) := by
  simp (decide := true) [eX3_copyFrom_0, jLI_t, jLW_t, jLL_t, jLZ_t, jLA_t, c_copy, jB_v, cp, jm_uA_ap]
theorem c_cpB_w (n : Nat) (J : jm_I) (L : jm_L) : jE n rX4_copyFrom 0 [.ref 35, .ref 63] [] J L = some (none, jS n (jm_u (cp (cp J 36 64 24) 37 65 8) 35 2 (J 63 2)) L) := by
  simp (decide := true) [eX4_copyFrom_0, jLI_t, jLW_t, jLL_t, jLZ_t, jLA_t, c_copy, jB_v, cp, jm_uA_ap]
theorem c_cpT_k (n : Nat) (J : jm_I) (L : jm_L) : jE n rX6_copyFrom 0 [.ref 49, .ref 21, .null] [] J L = some (none, jS n (cp (cp (cp (cp J 50 22 6) 51 23 4) 52 24 4) 53 25 4) L) := by
  simp (decide := true) [eX6_copyFrom_0, eX6_copyFrom_2, eX6_copyFrom_7, eX6_copyFrom_26, jLI_t, jLW_t, jLL_t, jLZ_t, jLA_t, c_copy, jB_v, jB_s, c_rowOf_k, c_rowOf_w, nI_add]
theorem c_cpT_w (n : Nat) (J : jm_I) (L : jm_L) : jE n rX6_copyFrom 0 [.ref 21, .ref 49, .null] [] J L = some (none, jS n (cp (cp (cp (cp J 22 50 6) 23 51 4) 24 52 4) 25 53 4) L) := by
  simp (decide := true) [eX6_copyFrom_0, eX6_copyFrom_2, eX6_copyFrom_7, eX6_copyFrom_26, jLI_t, jLW_t, jLL_t, jLZ_t, jLA_t, c_copy, jB_v, jB_s, c_rowOf_k, c_rowOf_w, nI_add]
theorem CP_M_k {I J : jm_I} {S : List Nat} (h : CP 28 0 I J S) : CP 28 0 I (cp (cp (cp (cp (cp (cp (cp (jm_u (jm_u (jm_u (jm_u J 41 0 (J 13 0)) 41 1 (J 13 1)) 41 2 (J 13 2)) 41 3 (J 13 3)) 42 14 4) 43 15 4) 44 16 4) 45 17 4) 46 18 16) 47 19 4) 48 20 4) (20 :: 19 :: 18 :: 17 :: 16 :: 15 :: 14 :: 13 :: S) := by
  exact (CP_c (CP_c (CP_c (CP_c (CP_c (CP_c (CP_c (CP_t h (by decide)) (by decide) 14 4 (by decide) (fun _ q => q)) (by decide) 15 4 (by decide) (fun _ q => q)) (by decide) 16 4 (by decide) (fun _ q => q)) (by decide) 17 4 (by decide) (fun _ q => q)) (by decide) 18 16 (by decide) (fun _ q => q)) (by decide) 19 4 (by decide) (fun _ q => q)) (by decide) 20 4 (by decide) (fun _ q => q))
theorem CP_T_k {I J : jm_I} {S : List Nat} (h : CP 28 0 I J S) : CP 28 0 I (cp (cp (cp (cp J 50 22 6) 51 23 4) 52 24 4) 53 25 4) (25 :: 24 :: 23 :: 22 :: S) := by
  exact (CP_c (CP_c (CP_c (CP_c h (by decide) 22 6 (by decide) (fun _ q => q)) (by decide) 23 4 (by decide) (fun _ q => q)) (by decide) 24 4 (by decide) (fun _ q => q)) (by decide) 25 4 (by decide) (fun _ q => q))
theorem CP_S_k {I J : jm_I} {S : List Nat} (h : CP 28 0 I J S) : CP 28 0 I (jm_u (cp (cp (cp (cp (cp (cp (cp (cp J 55 27 40) 56 28 40) 57 29 40) 58 30 40) 59 31 40) 60 32 40) 61 33 40) 62 34 160) 54 8 (J 26 8)) (26 :: 34 :: 33 :: 32 :: 31 :: 30 :: 29 :: 28 :: 27 :: S) := by
  have q := CP_u (CP_c (CP_c (CP_c (CP_c (CP_c (CP_c (CP_c (CP_c h (by decide) 27 40 (by decide) (fun _ q => q)) (by decide) 28 40 (by decide) (fun _ q => q)) (by decide) 29 40 (by decide) (fun _ q => q)) (by decide) 30 40 (by decide) (fun _ q => q)) (by decide) 31 40 (by decide) (fun _ q => q)) (by decide) 32 40 (by decide) (fun _ q => q)) (by decide) 33 40 (by decide) (fun _ q => q)) (by decide) 34 160 (by decide) (fun _ q => q)) (by decide) 26 8 (by decide) (fun _ q => q)
  have e : (cp (cp (cp (cp (cp (cp (cp (cp J 55 27 40) 56 28 40) 57 29 40) 58 30 40) 59 31 40) 60 32 40) 61 33 40) 62 34 160) 26 8 = J 26 8 := by simp [cp, jm_uA_ap]
  rw [← e]
  exact q
theorem CP_B_k {I J : jm_I} {S : List Nat} (h : CP 28 0 I J S) : CP 28 0 I (jm_u (cp (cp J 64 36 24) 65 37 8) 63 2 (J 35 2)) (35 :: 37 :: 36 :: S) := by
  have q := CP_u (CP_c (CP_c h (by decide) 36 24 (by decide) (fun _ q => q)) (by decide) 37 8 (by decide) (fun _ q => q)) (by decide) 35 2 (by decide) (fun _ q => q)
  have e : (cp (cp J 64 36 24) 65 37 8) 35 2 = J 35 2 := by simp [cp, jm_uA_ap]
  rw [← e]
  exact q
theorem c_cpW_k (n : Nat) (I : jm_I) (L : jm_L) (hb : ∀ j, j < 4 → I 13 j &&& 1 = I 13 j) : ∃ J : jm_I, jE n rX8_copyFrom 0 [.ref 38, .ref 10] [] I L = some (none, jS n J L) ∧ (∀ a, (a < 39 ∨ 65 < a) → J a = I a) ∧ (∀ c j, okW c j → J (c + 28) j = I (c + 0) j) := by
  have q0 := CP_c (CP_0 28 0 I) (by decide) 11 5 (by decide) (fun _ q => q)
  have hb2 : ∀ j, j < 4 → cp I (11 + 28) (11 + 0) 5 13 j &&& 1 = cp I (11 + 28) (11 + 0) 5 13 j := by
    intro j hj
    rw [show cp I (11 + 28) (11 + 0) 5 13 = I 13 from rfl]
    exact hb j hj
  have cc : jE n rX9_copy 0 [.ref 11, .ref 39] [] I L = some (none, jS n (cp I (11 + 28) (11 + 0) 5) L) := c_copy n I L 39 11 rfl rfl rfl (by rw [show jLW n 11 = 5 from rfl]; decide) (by rw [show jLW n 11 = 5 from rfl]; decide)
  have q1 := CP_B_k (CP_S_k (CP_T_k (CP_M_k q0)))
  refine ⟨_, ?_, q1.1, fun c j h => q1.2 c ?_ j h⟩
  · simp only [eX8_copyFrom_0, cc, c_cpM_k n _ L hb2, c_cpT_k, c_cpS_k, c_cpB_k, jB_v]
    try rfl
  · unfold okW at h
    split at h <;> first | exact h.elim | simp
theorem CP_M_w {I J : jm_I} {S : List Nat} (h : CP 0 28 I J S) : CP 0 28 I (cp (cp (cp (cp (cp (cp (cp (jm_u (jm_u (jm_u (jm_u J 13 0 (J 41 0)) 13 1 (J 41 1)) 13 2 (J 41 2)) 13 3 (J 41 3)) 14 42 4) 15 43 4) 16 44 4) 17 45 4) 18 46 16) 19 47 4) 20 48 4) (20 :: 19 :: 18 :: 17 :: 16 :: 15 :: 14 :: 13 :: S) := by
  exact (CP_c (CP_c (CP_c (CP_c (CP_c (CP_c (CP_c (CP_t h (by decide)) (by decide) 14 4 (by decide) (fun _ q => q)) (by decide) 15 4 (by decide) (fun _ q => q)) (by decide) 16 4 (by decide) (fun _ q => q)) (by decide) 17 4 (by decide) (fun _ q => q)) (by decide) 18 16 (by decide) (fun _ q => q)) (by decide) 19 4 (by decide) (fun _ q => q)) (by decide) 20 4 (by decide) (fun _ q => q))
theorem CP_T_w {I J : jm_I} {S : List Nat} (h : CP 0 28 I J S) : CP 0 28 I (cp (cp (cp (cp J 22 50 6) 23 51 4) 24 52 4) 25 53 4) (25 :: 24 :: 23 :: 22 :: S) := by
  exact (CP_c (CP_c (CP_c (CP_c h (by decide) 22 6 (by decide) (fun _ q => q)) (by decide) 23 4 (by decide) (fun _ q => q)) (by decide) 24 4 (by decide) (fun _ q => q)) (by decide) 25 4 (by decide) (fun _ q => q))
theorem CP_S_w {I J : jm_I} {S : List Nat} (h : CP 0 28 I J S) : CP 0 28 I (jm_u (cp (cp (cp (cp (cp (cp (cp (cp J 27 55 40) 28 56 40) 29 57 40) 30 58 40) 31 59 40) 32 60 40) 33 61 40) 34 62 160) 26 8 (J 54 8)) (26 :: 34 :: 33 :: 32 :: 31 :: 30 :: 29 :: 28 :: 27 :: S) := by
  have q := CP_u (CP_c (CP_c (CP_c (CP_c (CP_c (CP_c (CP_c (CP_c h (by decide) 27 40 (by decide) (fun _ q => q)) (by decide) 28 40 (by decide) (fun _ q => q)) (by decide) 29 40 (by decide) (fun _ q => q)) (by decide) 30 40 (by decide) (fun _ q => q)) (by decide) 31 40 (by decide) (fun _ q => q)) (by decide) 32 40 (by decide) (fun _ q => q)) (by decide) 33 40 (by decide) (fun _ q => q)) (by decide) 34 160 (by decide) (fun _ q => q)) (by decide) 26 8 (by decide) (fun _ q => q)
  have e : (cp (cp (cp (cp (cp (cp (cp (cp J 27 55 40) 28 56 40) 29 57 40) 30 58 40) 31 59 40) 32 60 40) 33 61 40) 34 62 160) 54 8 = J 54 8 := by simp [cp, jm_uA_ap]
  rw [← e]
  exact q
theorem CP_B_w {I J : jm_I} {S : List Nat} (h : CP 0 28 I J S) : CP 0 28 I (jm_u (cp (cp J 36 64 24) 37 65 8) 35 2 (J 63 2)) (35 :: 37 :: 36 :: S) := by
  have q := CP_u (CP_c (CP_c h (by decide) 36 24 (by decide) (fun _ q => q)) (by decide) 37 8 (by decide) (fun _ q => q)) (by decide) 35 2 (by decide) (fun _ q => q)
  have e : (cp (cp J 36 64 24) 37 65 8) 63 2 = J 63 2 := by simp [cp, jm_uA_ap]
  rw [← e]
  exact q
theorem c_cpW_w (n : Nat) (I : jm_I) (L : jm_L) (hb : ∀ j, j < 4 → I 41 j &&& 1 = I 41 j) : ∃ J : jm_I, jE n rX8_copyFrom 0 [.ref 10, .ref 38] [] I L = some (none, jS n J L) ∧ (∀ a, (a < 11 ∨ 37 < a) → J a = I a) ∧ (∀ c j, okW c j → J (c + 0) j = I (c + 28) j) := by
  have q0 := CP_c (CP_0 0 28 I) (by decide) 11 5 (by decide) (fun _ q => q)
  have hb2 : ∀ j, j < 4 → cp I (11 + 0) (11 + 28) 5 41 j &&& 1 = cp I (11 + 0) (11 + 28) 5 41 j := by
    intro j hj
    rw [show cp I (11 + 0) (11 + 28) 5 41 = I 41 from rfl]
    exact hb j hj
  have cc : jE n rX9_copy 0 [.ref 39, .ref 11] [] I L = some (none, jS n (cp I (11 + 0) (11 + 28) 5) L) := c_copy n I L 11 39 rfl rfl rfl (by rw [show jLW n 39 = 5 from rfl]; decide) (by rw [show jLW n 39 = 5 from rfl]; decide)
  have q1 := CP_B_w (CP_S_w (CP_T_w (CP_M_w q0)))
  refine ⟨_, ?_, q1.1, fun c j h => q1.2 c ?_ j h⟩
  · simp only [eX8_copyFrom_0, cc, c_cpM_w n _ L hb2, c_cpT_w, c_cpS_w, c_cpB_w, jB_v]
    try rfl
  · unfold okW at h
    split at h <;> first | exact h.elim | simp
