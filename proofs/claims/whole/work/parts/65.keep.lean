/-! what every run leaves: the static rows and the script; an answer's kind -/
def jm_K (σ τ : jm_S) : Prop := σ.1 ≤ τ.1 ∧ ∀ a, a < 9 → τ.2.2.2.1 a = σ.2.2.2.1 a
theorem jk_0 (σ : jm_S) : jm_K σ σ := ⟨Nat.le_refl _, fun _ _ => rfl⟩
theorem jk_t {σ τ υ : jm_S} (h : jm_K σ τ) (g : jm_K τ υ) : jm_K σ υ := ⟨Nat.le_trans h.1 g.1, fun a ha => (g.2 a ha).trans (h.2 a ha)⟩
theorem jk_rw {σ : jm_S} {a : Nat} (h : jm_rw σ a = true) : 9 ≤ a := (of_decide_eq_true h).1
theorem jk_u {σ : jm_S} {T : jm_T} {P : jm_P} {L : jm_L} {a k : Nat} {x : Int32} (h : jm_rw σ a = true) : jm_K σ (σ.1, T, P, jm_u σ.2.2.2.1 a k x, L) :=
  ⟨Nat.le_refl _, fun b hb => jm_u_ne _ _ _ (by have := jk_rw h; omega)⟩
theorem jk_a {σ : jm_S} {T : jm_T} {P : jm_P} {L : jm_L} {a : Nat} {f : Nat → Int32} (h : jm_rw σ a = true) : jm_K σ (σ.1, T, P, jm_uA σ.2.2.2.1 a f, L) :=
  ⟨Nat.le_refl _, fun b hb => jm_uA_ne _ _ (by have := jk_rw h; omega)⟩
theorem jk_p {σ : jm_S} {T : jm_T} {P : jm_P} {L : jm_L} : jm_K σ (σ.1, T, P, σ.2.2.2.1, L) := ⟨Nat.le_refl _, fun _ _ => rfl⟩
theorem jk_n {σ : jm_S} {t : Nat × Nat} (h9 : 9 ≤ σ.1) : jm_K σ (jm_nw σ t) := ⟨Nat.le_succ _, fun b hb => jm_uA_ne _ _ (by omega)⟩
theorem jk_pv {σ τ : jm_S} {a c k : Nat} {v : Value} (h : jm_rw σ a = true) (e : jm_pv σ a c k v = some τ) : jm_K σ τ := by
  unfold jm_pv at e
  split at e
  · cases e; exact jk_u h
  · split at e
    · cases e; exact jk_u h
    · cases e
  · cases e; exact jk_p
  · cases e; exact jk_p
  · cases e; exact jk_p
  · cases e
abbrev jm_rty (r : jm_Row) (v : Option Value) : Prop := (jr_rt r = some .int → ∃ w : Int32, v = some (.int w)) ∧ (jr_rt r = some .long → ∃ w : Int64, v = some (.long w))
def jm_kp (r : jm_Row) (σ : jm_S) : jm_X → Prop
  | .inl (.inl f) => jm_K σ f.2.2.2.2.2
  | .inl (.inr q) => jm_K σ q.2 ∧ jm_rty r q.1
  | .inr _ => True
set_option maxHeartbeats 4000000 in
set_option maxRecDepth 100000 in
theorem jm_nx_keep {r : jm_Row} {uc us pc : Nat} {lv st : List Value} {σ : jm_S} {X : jm_X} (h9 : 9 ≤ σ.1) (h : jm_nx r uc us pc lv st σ = some X) : jm_kp r σ X := by
  unfold jm_nx at h
  split at h
  · cases h
  · rename_i i len hd
    split at h
    · cases h
    · cases i
      case getfield k =>
        revert h; dsimp only; (repeat' split) <;> (intro h; cases h) <;> exact jk_0 σ
      case putfield k =>
        dsimp only at h
        split at h
        · split at h
          · rename_i hc
            split at h
            · rename_i e
              cases h
              exact jk_pv hc.1 e
            · cases h
          · cases h
        · cases h
      case iastore =>
        dsimp only at h
        split at h
        · split at h
          · rename_i hc
            cases h
            exact jk_u hc.1
          · cases h
        · cases h
      case bastore =>
        dsimp only at h
        split at h
        · split at h
          · rename_i hc
            cases h
            exact jk_u hc.1
          · cases h
        · cases h
      case lastore =>
        dsimp only at h
        split at h
        · split at h
          · cases h
            exact jk_p
          · cases h
        · cases h
      case aastore =>
        dsimp only at h
        split at h
        · split at h
          · cases h
            exact jk_p
          · cases h
        · cases h
      case new k =>
        revert h; dsimp only; (repeat' split) <;> (intro h; cases h) <;> exact jk_n h9
      case newarray t =>
        revert h; dsimp only; (repeat' split) <;> (intro h; cases h) <;> exact jk_n h9
      case anewarray k =>
        revert h; dsimp only; (repeat' split) <;> (intro h; cases h) <;> exact jk_n h9
      case invokestatic k =>
        dsimp only at h
        split at h
        · revert h; (repeat' split) <;> (intro h; cases h) <;> exact trivial
        · revert h; (repeat' split) <;> (intro h; cases h) <;> exact jk_0 σ
        · split at h
          · split at h
            · rename_i hc
              cases h
              exact jk_a hc.1
            · cases h
          · cases h
        · cases h
      case invokevirtual k =>
        revert h; dsimp only; (repeat' split) <;> (intro h; cases h) <;> exact trivial
      case invokespecial k =>
        revert h; dsimp only; (repeat' split) <;> (intro h; cases h) <;> first | exact trivial | exact jk_0 σ
      case ireturn =>
        revert h; dsimp only; (repeat' split) <;> (intro h; cases h) <;> (rename_i e _; exact ⟨jk_0 σ, fun _ => ⟨_, rfl⟩, fun q => (by rw [e] at q; cases q)⟩)
      case lreturn =>
        revert h; dsimp only; (repeat' split) <;> (intro h; cases h) <;> (rename_i e _; exact ⟨jk_0 σ, fun q => (by rw [e] at q; cases q), fun _ => ⟨_, rfl⟩⟩)
      case areturn =>
        revert h; dsimp only; (repeat' split) <;> (intro h; cases h) <;> (rename_i e _; exact ⟨jk_0 σ, fun q => (by rw [e] at q; cases q), fun q => (by rw [e] at q; cases q)⟩)
      case return_ =>
        revert h; dsimp only; (repeat' split) <;> (intro h; cases h) <;> (rename_i e _; exact ⟨jk_0 σ, fun q => (by rw [e] at q; cases q), fun q => (by rw [e] at q; cases q)⟩)
      all_goals (revert h; dsimp only; (repeat' split) <;> (intro h; cases h) <;> exact jk_0 σ)
theorem jm_go_keep : ∀ (n : Nat) (r : jm_Row) (uc us pc : Nat) (lv st : List Value) (σ : jm_S) (x : Option Value × jm_S), 9 ≤ σ.1 → jm_go n r uc us pc lv st σ = some x → jm_K σ x.2 ∧ jm_rty r x.1 := by
  intro n
  induction n with
  | zero => intro r uc us pc lv st σ x _ h; cases h
  | succ n ih =>
    intro r uc us pc lv st σ x h9 h
    rw [jm_go_succ] at h
    cases ho : jm_nx r uc us pc lv st σ with
    | none => rw [ho] at h; cases h
    | some o =>
      rw [ho] at h
      have hk := jm_nx_keep h9 ho
      match o, hk, h with
      | .inl (.inl f), hk, h =>
        have hk' : jm_K σ f.2.2.2.2.2 := hk
        have g := ih r _ _ _ _ _ _ x (Nat.le_trans h9 hk'.1) h
        exact ⟨jk_t hk' g.1, g.2⟩
      | .inl (.inr q), hk, h => cases h; exact hk
      | .inr c, hk, h =>
        dsimp only at h
        cases h1 : jm_go n c.1 0 0 0 (jm_ini c.2.1 (jr_ml c.1)) [] σ with
        | none => rw [h1] at h; cases h
        | some y =>
          rw [h1] at h
          have g1 := (ih c.1 _ _ _ _ _ _ y h9 h1).1
          have g2 := ih r _ _ _ _ _ _ x (Nat.le_trans h9 g1.1) h
          exact ⟨jk_t g1 g2.1, g2.2⟩
theorem jE_keep {n : Nat} {r : jm_Row} {pc : Nat} {lv st : List Value} {I I1 : jm_I} {L L1 : jm_L} {v : Option Value} (h : jE n r pc lv st I L = some (v, jS n I1 L1)) : (∀ a, a < 9 → I1 a = I a) ∧ jm_rty r v := by
  obtain ⟨k, hk⟩ := jm_D_go h
  have g := jm_go_keep k r _ _ _ _ _ _ _ (by show 9 ≤ 145; decide) hk
  exact ⟨g.1.2, g.2⟩
theorem Op_i {n : Nat} {rc rm : jm_Row} {ac am : List Value} (h : Op n rc rm ac am) (hr : jr_rt rc = some .int) {I : jm_I} {L : jm_L} (hI : Inv I) (hM : Mod I I) : ∃ (w : Int32) (I1 : jm_I) (L1 : jm_L) (I2 : jm_I) (L2 : jm_L), jE n rc 0 ac [] I L = some (some (.int w), jS n I1 L1) ∧ I1 8 = I 8 ∧ jE n rm 0 am [] I1 L1 = some (some (.int w), jS n I2 L2) ∧ Inv I2 ∧ Mod I2 I2 := by
  obtain ⟨v, I1, L1, I2, L2, h1, h2, h3, h4⟩ := h I L hI hM
  have k := jE_keep h1
  obtain ⟨w, hw⟩ := k.2.1 hr
  cases hw
  exact ⟨w, I1, L1, I2, L2, h1, k.1 8 (by decide), h2, h3, h4⟩
theorem Op_l {n : Nat} {rc rm : jm_Row} {ac am : List Value} (h : Op n rc rm ac am) (hr : jr_rt rc = some .long) {I : jm_I} {L : jm_L} (hI : Inv I) (hM : Mod I I) : ∃ (w : Int64) (I1 : jm_I) (L1 : jm_L) (I2 : jm_I) (L2 : jm_L), jE n rc 0 ac [] I L = some (some (.long w), jS n I1 L1) ∧ I1 8 = I 8 ∧ jE n rm 0 am [] I1 L1 = some (some (.long w), jS n I2 L2) ∧ Inv I2 ∧ Mod I2 I2 := by
  obtain ⟨v, I1, L1, I2, L2, h1, h2, h3, h4⟩ := h I L hI hM
  have k := jE_keep h1
  obtain ⟨w, hw⟩ := k.2.2 hr
  cases hw
  exact ⟨w, I1, L1, I2, L2, h1, k.1 8 (by decide), h2, h3, h4⟩
