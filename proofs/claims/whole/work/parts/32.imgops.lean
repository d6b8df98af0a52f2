theorem invW_ok {c j : Nat} {x : Int32} (h : okW c j → invW c j x) : invW c j x := by
  unfold invW okW at *
  split
  all_goals first | exact fun q => h q q | trivial | skip
  · exact ⟨fun q => (h (show j < 5 by omega)).1 q, fun q => (h (show j < 5 by omega)).2.1 q, fun q => (h (show j < 5 by omega)).2.2.1 q, fun q => (h (show j < 5 by omega)).2.2.2.1 q, fun q => (h (show j < 5 by omega)).2.2.2.2 q⟩
theorem modW_x {A : jm_I} (hT : zT A ≤ 8) (hL : ∀ t, t < 8 → (A 37 t).toInt.toNat ≤ 3) (hN : zN A ≤ 40) {a j : Nat} {x y : Int32} (h : okM a j → x = y) (q : modW A a j y) : modW A a j x := by
  unfold modW okM at *
  split
  all_goals first | exact fun e => (h e).trans (q e) | trivial | skip
  · exact ⟨fun e => (h (Or.inl e)).trans (q.1 e), fun e => (h (Or.inr e)).trans (q.2 e)⟩
  · intro t i e ht hi
    have := hL t (by omega)
    exact (h (show j < 72 by omega)).trans (q t i e ht hi)
  · intro e
    exact (h (show j < 9 by omega)).trans (q e)
  · intro g s e hg hs
    exact (h (show j < 160 by omega)).trans (q g s e hg hs)
theorem modW_ok {A B : jm_I} (hT : zT A ≤ 8) (hL : ∀ t, t < 8 → (A 37 t).toInt.toNat ≤ 3) (hN : zN A ≤ 40) (hB : ∀ c j, okW c j → B c j = A c j) {a j : Nat} {x : Int32} (q : modW A a j x) : modW B a j x := by
  have eT : zT B = zT A := by unfold zT; rw [hB 35 2 rfl]
  have eN : zN B = zN A := by unfold zN; rw [hB 26 8 rfl]
  unfold modW at *
  split
  all_goals first | exact fun e => (q e).trans (hB 11 j e).symm | exact fun e => (q e).trans (hB 13 j e).symm | exact fun e => (q e).trans (hB 14 j e).symm | exact fun e => (q e).trans (hB 15 j e).symm | exact fun e => (q e).trans (hB 16 j e).symm | exact fun e => (q e).trans (hB 17 j e).symm | exact fun e => (q e).trans (hB 18 j e).symm | exact fun e => (q e).trans (hB 19 j e).symm | exact fun e => (q e).trans (hB 20 j e).symm | exact fun e => (q e).trans (hB 22 j e).symm | exact fun e => (q e).trans (hB 23 j e).symm | exact fun e => (q e).trans (hB 24 j e).symm | exact fun e => (q e).trans (hB 25 j e).symm | exact fun e => (q e).trans (hB 27 j e).symm | exact fun e => (q e).trans (hB 28 j e).symm | exact fun e => (q e).trans (hB 29 j e).symm | exact fun e => (q e).trans (hB 30 j e).symm | exact fun e => (q e).trans (hB 31 j e).symm | exact fun e => (q e).trans (hB 32 j e).symm | exact fun e => (q e).trans (hB 33 j e).symm | trivial | skip
  · exact ⟨fun e => (q.1 e).trans (hB 26 8 rfl).symm, fun e => (q.2 e).trans (hB 35 2 rfl).symm⟩
  · intro t i e ht hi
    rw [eT] at ht
    have e37 := hB 37 t (show t < 8 by omega)
    rw [e37] at hi
    have := hL t (by omega)
    exact (q t i e ht hi).trans (hB 36 (3 * t + i) (show 3 * t + i < 24 by omega)).symm
  · intro e
    rw [eT] at e
    exact (q e).trans (hB 37 _ (show _ < 8 by omega)).symm
  · intro g s e hg hs
    rw [eN] at hs
    have e34 := hB 34 (4 * s + g) (show 4 * s + g < 160 by omega)
    rw [e34]
    exact q g s e hg hs
theorem len3 {A : jm_I} (h : Inv A) {t : Nat} (ht : t < 8) : (A 37 t).toInt.toNat ≤ 3 := by
  have r : rg (A 37 t) 0 3 := h 37 t (by decide) ht
  have := r.1; have := r.2
  omega
theorem len3k {A : jm_I} (h : Inv A) {t : Nat} (ht : t < 8) : (A (37 + 28) t).toInt.toNat ≤ 3 := by
  have r : rg (A 65 t) 0 3 := h 65 t (by decide) ht
  have := r.1; have := r.2
  show (A 65 t).toInt.toNat ≤ 3
  omega
theorem TNk {A : jm_I} (h : Inv A) : zT (fun a => A (a + 28)) ≤ 8 ∧ zN (fun a => A (a + 28)) ≤ 40 := by
  have r : rg (A 63 2) 0 8 := h 63 2 (by decide) rfl
  have r2 : rg (A 54 8) 0 40 := h 54 8 (by decide) rfl
  have := r.1; have := r.2; have := r2.1; have := r2.2
  exact ⟨show (A 63 2).toInt.toNat ≤ 8 by omega, show (A 54 8).toInt.toNat ≤ 40 by omega⟩
theorem b01 {x : Int32} (h : x = 0 ∨ x = 1) : x &&& 1 = x := by rcases h with rfl | rfl <;> decide
/-! image -/
theorem op_image (n : Nat) : Op n rX9_image rX10_image [.ref 9] [.ref 111] := by
  intro I L hI hM
  obtain ⟨J, hJ, j1, j2⟩ := c_cpW_k n I L (fun j hj => b01 (hI 13 j (by decide) hj))
  have b119 : ∀ m, m < 4 → I 119 m = 0 ∨ I 119 m = 1 := fun m hm => by
    have e : I 119 m = I 13 m := hM.1 119 m hm
    rw [e]; exact hI 13 m (by decide) hm
  have p43 : jm_u (jm_u (jm_u J 9 2 (nI 1)) 111 43 (nI 1)) 111 41 (nI 1) 111 43 = nI 1 := by simp [jm_u_ap, upd_ap]
  have q119 : ∀ m, m < 4 → jm_u (jm_u (jm_u J 9 2 (nI 1)) 111 43 (nI 1)) 111 41 (nI 1) 119 m = 0 ∨ jm_u (jm_u (jm_u J 9 2 (nI 1)) 111 43 (nI 1)) 111 41 (nI 1) 119 m = 1 := fun m hm => by
    have e : jm_u (jm_u (jm_u J 9 2 (nI 1)) 111 43 (nI 1)) 111 41 (nI 1) 119 m = I 119 m := by
      rw [jm_u_ne _ _ _ (by decide), jm_u_ne _ _ _ (by decide), jm_u_ne _ _ _ (by decide), j1 119 (by decide)]
    rw [e]; exact b119 m hm
  have hp := m_passesAll_k n (jm_u (jm_u (jm_u J 9 2 (nI 1)) 111 43 (nI 1)) 111 41 (nI 1)) L p43 q119
  have kv := @kV_k (jm_u (jm_u (jm_u J 9 2 (nI 1)) 111 43 (nI 1)) 111 41 (nI 1))
  have e20 : I 111 20 = I 26 8 := (hM.1 111 20).1 rfl
  have hS : jm_u (jm_u (jm_u J 9 2 (nI 1)) 111 43 (nI 1)) 111 41 (nI 1) 111 20 = I 26 8 := by
    simp [jm_u_ap, upd_ap, j1 111 (by decide), e20]
  generalize hS0 : jm_u (jm_u (jm_u J 9 2 (nI 1)) 111 43 (nI 1)) 111 41 (nI 1) = S at *
  have sat : ∀ a, a ≠ 111 → a ≠ 9 → S a = J a := fun a h1 h2 => by rw [← hS0, jm_u_ne _ _ _ h1, jm_u_ne _ _ _ h1, jm_u_ne _ _ _ h2]
  have s9 : ∀ j, j ≠ 2 → S 9 j = I 9 j := fun j hj => by rw [← hS0]; simp [jm_u_ap, upd_ap, hj, j1 9 (by decide)]
  have s92 : S 9 2 = 1 := by rw [← hS0]; simp [jm_u_ap, upd_ap]; rfl
  have s111 : ∀ j, j ≠ 43 → j ≠ 41 → S 111 j = I 111 j := fun j h1 h2 => by rw [← hS0]; simp [jm_u_ap, upd_ap, h1, h2, j1 111 (by decide)]
  have s41 : S 111 41 = 1 := by rw [← hS0]; simp [jm_u_ap, upd_ap]; rfl
  generalize hK0 : stK S (kpC S) 590 = K at *
  have kat : ∀ a, a ≠ 111 → a ≠ 144 → K a = S a := fun a h1 h2 => by rw [← hK0]; exact stK_at _ _ _ h1 h2
  have k111 : ∀ j, j ≠ 42 → K 111 j = S 111 j := fun j h1 => by rw [← hK0]; exact stK_111 _ _ _ h1
  refine ⟨.int (I 26 8), jm_u J 9 2 (nI 1), L, K, L, ?_, ?_, ?_, ?_, ?_, ?_⟩
  · simp [eX9_image_0, hJ, jB_v, jm_u_ap, j1 26 (by decide)]
  · simp only [eX10_image_0]
    rw [hS0, hp, jB_v]
    simp only [eX10_image_0, k111 20 (by decide), hS]
  · intro a j ha
    by_cases h9 : a = 9
    · subst h9
      rw [kat 9 (by decide) (by decide)]
      have q := hI 9 j (by decide)
      refine ⟨fun e => ?_, fun e => ?_⟩
      · subst e; exact Or.inr s92
      · subst e; rw [s9 5 (by decide)]; exact q.2 rfl
    · rw [kat a (by omega) (by omega), sat a (by omega) h9]
      by_cases hk : 39 ≤ a ∧ a ≤ 65
      · have e1 : invP a j (J a j) = invW (a - 28) j (J a j) := by
          unfold invP
          rw [if_neg (by omega), if_neg (by omega), if_neg (by omega), if_pos (by omega)]
        rw [e1]
        refine invW_ok (fun ok => ?_)
        have := j2 (a - 28) j ok
        rw [show a - 28 + 28 = a by omega, Nat.add_zero] at this
        rw [this]
        have q := hI (a - 28) j (by omega)
        unfold invP at q
        rw [if_neg (by omega), if_neg (by omega), if_neg (by omega), if_neg (by omega)] at q
        exact q
      · rw [j1 a (by omega)]
        exact hI a j ha
  · intro a j
    have e : modW K a j (K a j) = modW I a j (K a j) := by
      apply propext
      have cc : ∀ b, 11 ≤ b → b ≤ 37 → K b = I b := fun b h1 h2 => by rw [kat b (by omega) (by omega), sat b (by omega) (by omega), j1 b (by omega)]
      exact ⟨modW_congr (fun b h1 h2 => (cc b h1 h2).symm) a j _, modW_congr cc a j _⟩
    rw [e]
    refine modW_x (Inv_T hI).2 (fun t ht => len3 hI ht) (Inv_N hI).2 (fun ok => ?_) (hM.1 a j)
    by_cases h1 : a = 111
    · subst h1
      have : j = 20 ∨ j = 29 := ok
      rw [k111 j (by omega), s111 j (by omega) (by omega)]
    · have h144 : a ≠ 144 := fun q => by subst q; exact ok.elim
      have h9 : a ≠ 9 := fun q => by subst q; exact ok.elim
      have hk : ¬ (39 ≤ a ∧ a ≤ 65) := fun q => by
        unfold okM at ok
        split at ok <;> omega
      rw [kat a h1 h144, sat a h1 h9, j1 a (by omega)]
  · intro a j
    have q := hM.2.1 a j
    by_cases h1 : a = 111
    · subst h1
      refine ⟨fun e => ?_, fun e => ?_, fun e => ?_⟩
      · subst e; rw [k111 22 (by decide), s111 22 (by decide) (by decide), kat 9 (by decide) (by decide), s9 5 (by decide)]; exact q.1 rfl
      · subst e; rw [k111 28 (by decide), s111 28 (by decide) (by decide), kat 66 (by decide) (by decide), sat 66 (by decide) (by decide), j1 66 (by decide)]; exact q.2.1 rfl
      · subst e; rw [k111 41 (by decide), s41, kat 9 (by decide) (by decide), s92]
    · by_cases h144 : a = 144
      · subst h144; trivial
      · have e66 : K 66 1 = I 66 1 := by rw [kat 66 (by decide) (by decide), sat 66 (by decide) (by decide), j1 66 (by decide)]
        have e67 : K 67 = I 67 := by rw [kat 67 (by decide) (by decide), sat 67 (by decide) (by decide), j1 67 (by decide)]
        have e69 : K 69 = I 69 := by rw [kat 69 (by decide) (by decide), sat 69 (by decide) (by decide), j1 69 (by decide)]
        have e70 : K 70 = I 70 := by rw [kat 70 (by decide) (by decide), sat 70 (by decide) (by decide), j1 70 (by decide)]
        by_cases ha : 111 ≤ a
        · rw [kat a h1 h144, sat a h1 (by omega), j1 a (by omega)]
          revert q
          generalize I a j = x
          unfold modX
          split <;> intro q <;> first | exact absurd rfl h1 | trivial | skip
          · rw [e70]; exact q
          · rw [e69]; exact q
          · rw [e67]; exact q
        · unfold modX
          split <;> first | omega | trivial
  · intro h1 a j
    have hb : ∀ c j, okW c j → (fun a => K (a + 28)) c j = I c j := fun c j ok => by
      show K (c + 28) j = I c j
      have hc : 11 ≤ c ∧ c ≤ 37 := by
        unfold okW at ok
        split at ok <;> first | exact ok.elim | omega
      rw [kat _ (by omega) (by omega), sat _ (by omega) (by omega)]
      exact j2 c j ok
    refine modW_ok (A := I) (Inv_T hI).2 (fun t ht => len3 hI ht) (Inv_N hI).2 hb ?_
    refine modW_x (Inv_T hI).2 (fun t ht => len3 hI ht) (Inv_N hI).2 (fun ok => ?_) (hM.1 a j)
    rw [kv ok]
    by_cases h1 : a = 111
    · subst h1
      have : j = 20 ∨ j = 29 := ok
      rw [s111 j (by omega) (by omega)]
    · have h9 : a ≠ 9 := fun q => by subst q; exact ok.elim
      have hk : ¬ (39 ≤ a ∧ a ≤ 65) := fun q => by
        unfold okM at ok
        split at ok <;> omega
      rw [sat a h1 h9, j1 a (by omega)]
