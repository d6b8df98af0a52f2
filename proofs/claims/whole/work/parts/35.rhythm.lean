/-! the first least -/
def amin (f : Nat → Int) (ok : Nat → Prop) [DecidablePred ok] : Nat → Option Nat
  | 0 => none
  | i + 1 => if ok i then (match amin f ok i with
    | none => some i
    | some j => if f i < f j then some i else some j) else amin f ok i
theorem amin_n {f : Nat → Int} {ok : Nat → Prop} [DecidablePred ok] {i : Nat} (h : ¬ ok i) : amin f ok (i + 1) = amin f ok i := by
  simp only [amin, h, if_false]
theorem amin_0 {f : Nat → Int} {ok : Nat → Prop} [DecidablePred ok] {i : Nat} (h : ok i) (e : amin f ok i = none) : amin f ok (i + 1) = some i := by
  simp only [amin, h, if_true, e]
theorem amin_l {f : Nat → Int} {ok : Nat → Prop} [DecidablePred ok] {i j : Nat} (h : ok i) (e : amin f ok i = some j) (hl : f i < f j) : amin f ok (i + 1) = some i := by
  simp only [amin, h, if_true, e, hl]
theorem amin_g {f : Nat → Int} {ok : Nat → Prop} [DecidablePred ok] {i j : Nat} (h : ok i) (e : amin f ok i = some j) (hl : ¬ f i < f j) : amin f ok (i + 1) = some j := by
  simp only [amin, h, if_true, e, hl, if_false]
theorem amin_s {f : Nat → Int} {ok : Nat → Prop} [DecidablePred ok] : ∀ {i j : Nat}, amin f ok i = some j → j < i ∧ ok j := by
  intro i
  induction i with
  | zero => intro j h; simp [amin] at h
  | succ i ih =>
    intro j h
    by_cases hk : ok i
    · cases e : amin f ok i with
      | none =>
        rw [amin_0 hk e] at h
        cases h
        exact ⟨by omega, hk⟩
      | some q =>
        by_cases hl : f i < f q
        · rw [amin_l hk e hl] at h
          cases h
          exact ⟨by omega, hk⟩
        · rw [amin_g hk e hl] at h
          cases h
          have := ih e
          exact ⟨by omega, this.2⟩
    · rw [amin_n hk] at h
      have := ih h
      exact ⟨by omega, this.2⟩
theorem amin_some {f : Nat → Int} {ok : Nat → Prop} [DecidablePred ok] {i : Nat} (h : ok i) : ∃ j, amin f ok (i + 1) = some j := by
  cases e : amin f ok i with
  | none => exact ⟨i, amin_0 h e⟩
  | some q =>
    by_cases hl : f i < f q
    · exact ⟨i, amin_l h e hl⟩
    · exact ⟨q, amin_g h e hl⟩
theorem labs {x : Int} (h : x.natAbs < 9000000000000000000) : (if 0 < lZ x then lZ x else -lZ x) = lZ x.natAbs := by
  have e : (0 < lZ x) ↔ 0 < x := by
    rw [show (0 : Int64) = lZ 0 from rfl]
    exact lZ_lt ⟨by omega, by omega⟩ ⟨by omega, by omega⟩
  by_cases q : 0 < x
  · rw [if_pos (e.mpr q)]
    congr 1
    omega
  · rw [if_neg (fun w => q (e.mp w)), lZ_neg]
    congr 1
    omega
/-! rhythm -/
def ria (i : Nat) : Nat := i / 49
def rib (i : Nat) : Nat := i / 7 % 7
def ric (i : Nat) : Nat := i % 7
abbrev rld (i : Nat) : Prop := if ria i = 3 then (if rib i = 3 then 3 < ric i else 3 < rib i) else 3 < ria i
def rV (P Q R : Int) (i : Nat) : Int := ((ria i : Int) - 3) * P + ((rib i : Int) - 3) * Q + ((ric i : Int) - 3) * R
def roff (P Q R : Int) (i : Nat) : Int := ((rV P Q R i).natAbs : Int)
def rcod (i : Nat) : Nat := 100 * ria i + 10 * rib i + ric i
theorem ri7 {i : Nat} (h : i < 343) : ria i < 7 ∧ rib i < 7 ∧ ric i < 7 := by unfold ria rib ric; omega
theorem rV_rg {P Q R : Int} (hP : P.natAbs ≤ 1000000000000) (hQ : Q.natAbs ≤ 1000000000000) (hR : R.natAbs ≤ 1000000000000) {i : Nat} (h : i < 343) : (rV P Q R i).natAbs ≤ 9000000000000 := by
  obtain ⟨h1, h2, h3⟩ := ri7 h
  have m1 := mulb (a := (ria i : Int) - 3) (b := P) (p := 3) (by omega) hP
  have m2 := mulb (a := (rib i : Int) - 3) (b := Q) (p := 3) (by omega) hQ
  have m3 := mulb (a := (ric i : Int) - 3) (b := R) (p := 3) (by omega) hR
  unfold rV
  omega
theorem dz {k : Nat} (hk : k < 7) : (iZ ((k : Int) - 3) = 0 ↔ k = 3) ∧ (iZ ((k : Int) - 3) ≤ 0 ↔ k ≤ 3) ∧ (0 < iZ ((k : Int) - 3) ↔ 3 < k) := by
  rw [show (0 : Int32) = iZ 0 from rfl, iZ_eq ⟨by omega, by omega⟩ ⟨by omega, by omega⟩, iZ_le ⟨by omega, by omega⟩ ⟨by omega, by omega⟩, iZ_lt ⟨by omega, by omega⟩ ⟨by omega, by omega⟩]
  omega
theorem nI_3 (k : Nat) : nI k - nI 3 = iZ ((k : Int) - 3) := by rw [nI_iZ, nI_iZ, iZ_sub]; rfl
theorem iZ_3 (k : Nat) : iZ ((k : Int) - 3) + nI 3 = nI k := by
  rw [show nI 3 = iZ 3 from rfl, iZ_add, nI_iZ]
  congr 1
  omega
theorem d3l {k : Nat} (hk : k < 7) : (iZ ((k : Int) - 3)).toInt64 = lZ ((k : Int) - 3) := iZ_l (by omega) (by omega)
theorem rc_e (i : Nat) : nI 100 * (iZ ((ria i : Int) - 3) + nI 3) + nI 10 * (iZ ((rib i : Int) - 3) + nI 3) + iZ ((ric i : Int) - 3) + nI 3 = nI (rcod i) := by
  rw [iZ_3, iZ_3, Int32.add_assoc, iZ_3, pk_mul, pk_mul, nI_add, nI_add]
  rfl
def rl1 (f : Nat → Int) : Option Nat → Int64
  | none => lN 9223372036854775807
  | some j => lZ (f j)
def ra1 : Option Nat → Int32
  | none => nI 0
  | some j => nI (rcod j)
theorem nz49 : ¬ nI 49 = 0 := by decide
theorem nz7 : ¬ nI 7 = 0 := by decide
theorem c_rh_a (n : Nat) (I : jm_I) (L : jm_L) {i : Nat} (hi : i < 343) (v0 v1 v2 v3 v4 v5 v6 v7 v8 v9 v10 v11 v12 v14 v15 v16 v17 v18 v19 : Value) : jE n rX2_rhythmOf 70 [v0, v1, v2, v3, v4, v5, v6, v7, v8, v9, v10, v11, v12, .int (nI i), v14, v15, v16, v17, v18, v19] [] I L = jE n rX2_rhythmOf 146 [v0, v1, v2, v3, v4, v5, v6, v7, v8, v9, v10, v11, v12, .int (nI i), .int (iZ ((ria i : Int) - 3)), .int (iZ ((rib i : Int) - 3)), .int (iZ ((ric i : Int) - 3)), v17, v18, v19] [.int (if rld i then nI 1 else nI 0)] I L := by
  obtain ⟨h1, h2, h3⟩ := ri7 hi
  have e1 : nI i / nI 49 = nI (ria i) := pk_div (by omega) (by decide) (by decide)
  have e2 : nI i / nI 7 = nI (i / 7) := pk_div (by omega) (by decide) (by decide)
  have e3 : nI (i / 7) - nI (i / 7) / nI 7 * nI 7 = nI (rib i) := pk_rem (by omega) (by decide) (by decide)
  have e4 : nI i - nI (i / 7) * nI 7 = nI (ric i) := by rw [← e2]; exact pk_rem (by omega) (by decide) (by decide)
  obtain ⟨a1, a2, -⟩ := dz h1
  obtain ⟨b1, b2, -⟩ := dz h2
  obtain ⟨c1, c2, -⟩ := dz h3
  have q0 : rld i ↔ (if iZ ((ria i : Int) - 3) = 0 then (if iZ ((rib i : Int) - 3) = 0 then ¬ iZ ((ric i : Int) - 3) ≤ 0 else ¬ iZ ((rib i : Int) - 3) ≤ 0) else ¬ iZ ((ria i : Int) - 3) ≤ 0) := by
    unfold rld
    simp only [a1, b1, a2, b2, c2, Nat.not_le]
  simp only [eX2_rhythmOf_70, nz49, nz7, not_false_eq_true, e1, e2, e3, e4, nI_3]
  generalize iZ ((ria i : Int) - 3) = a at *
  generalize iZ ((rib i : Int) - 3) = b at *
  generalize iZ ((ric i : Int) - 3) = c at *
  by_cases ha : a = 0
  · by_cases hb : b = 0
    · by_cases hc : c ≤ 0
      · have : ¬ rld i := by rw [q0]; simp [ha, hb, hc]
        simp only [eX2_rhythmOf_105, eX2_rhythmOf_110, eX2_rhythmOf_114, eX2_rhythmOf_118, eX2_rhythmOf_123, eX2_rhythmOf_128, eX2_rhythmOf_132, eX2_rhythmOf_136, eX2_rhythmOf_141, eX2_rhythmOf_145, eX2_rhythmOf_178, eX2_rhythmOf_186, eX2_rhythmOf_212, eX2_rhythmOf_218, ha, hb, hc, this, if_true, if_false]
      · have : rld i := by rw [q0]; simp [ha, hb, hc]
        simp only [eX2_rhythmOf_105, eX2_rhythmOf_110, eX2_rhythmOf_114, eX2_rhythmOf_118, eX2_rhythmOf_123, eX2_rhythmOf_128, eX2_rhythmOf_132, eX2_rhythmOf_136, eX2_rhythmOf_141, eX2_rhythmOf_145, eX2_rhythmOf_178, eX2_rhythmOf_186, eX2_rhythmOf_212, eX2_rhythmOf_218, ha, hb, hc, this, if_true, if_false]
    · by_cases hc : b ≤ 0
      · have : ¬ rld i := by rw [q0]; simp [ha, hb, hc]
        simp only [eX2_rhythmOf_105, eX2_rhythmOf_110, eX2_rhythmOf_114, eX2_rhythmOf_118, eX2_rhythmOf_123, eX2_rhythmOf_128, eX2_rhythmOf_132, eX2_rhythmOf_136, eX2_rhythmOf_141, eX2_rhythmOf_145, eX2_rhythmOf_178, eX2_rhythmOf_186, eX2_rhythmOf_212, eX2_rhythmOf_218, ha, hb, hc, this, if_true, if_false]
      · have : rld i := by rw [q0]; simp [ha, hb, hc]
        simp only [eX2_rhythmOf_105, eX2_rhythmOf_110, eX2_rhythmOf_114, eX2_rhythmOf_118, eX2_rhythmOf_123, eX2_rhythmOf_128, eX2_rhythmOf_132, eX2_rhythmOf_136, eX2_rhythmOf_141, eX2_rhythmOf_145, eX2_rhythmOf_178, eX2_rhythmOf_186, eX2_rhythmOf_212, eX2_rhythmOf_218, ha, hb, hc, this, if_true, if_false]
  · by_cases hc : a ≤ 0
    · have : ¬ rld i := by rw [q0]; simp [ha, hc]
      simp only [eX2_rhythmOf_105, eX2_rhythmOf_110, eX2_rhythmOf_114, eX2_rhythmOf_118, eX2_rhythmOf_123, eX2_rhythmOf_128, eX2_rhythmOf_132, eX2_rhythmOf_136, eX2_rhythmOf_141, eX2_rhythmOf_145, eX2_rhythmOf_178, eX2_rhythmOf_186, eX2_rhythmOf_212, eX2_rhythmOf_218, ha, hc, this, if_true, if_false]
    · have : rld i := by rw [q0]; simp [ha, hc]
      simp only [eX2_rhythmOf_105, eX2_rhythmOf_110, eX2_rhythmOf_114, eX2_rhythmOf_118, eX2_rhythmOf_123, eX2_rhythmOf_128, eX2_rhythmOf_132, eX2_rhythmOf_136, eX2_rhythmOf_141, eX2_rhythmOf_145, eX2_rhythmOf_178, eX2_rhythmOf_186, eX2_rhythmOf_212, eX2_rhythmOf_218, ha, hc, this, if_true, if_false]
theorem c_rh_loop (n : Nat) (I : jm_I) (L : jm_L) {P Q R : Int} (hP : P.natAbs ≤ 1000000000000) (hQ : Q.natAbs ≤ 1000000000000) (hR : R.natAbs ≤ 1000000000000) (v0 v1 v2 v3 : Value) : ∀ (d i : Nat) (v14 v15 v16 v17 v18 v19 : Value), i + d = 343 → jE n rX2_rhythmOf 62 [v0, v1, v2, v3, .long (lZ P), .null, .long (lZ Q), .null, .long (lZ R), .null, .long (rl1 (roff P Q R) (amin (roff P Q R) rld i)), .null, .int (ra1 (amin (roff P Q R) rld i)), .int (nI i), v14, v15, v16, v17, v18, v19] [] I L = some (some (.int (ra1 (amin (roff P Q R) rld 343))), jS n I L) := by
  intro d
  induction d with
  | zero =>
    intro i v14 v15 v16 v17 v18 v19 hi
    have : i = 343 := by omega
    subst this
    have c : nI 343 ≤ nI 343 := Int32.le_refl _
    simp only [eX2_rhythmOf_62, eX2_rhythmOf_218, c, if_true]
  | succ d ih =>
    intro i v14 v15 v16 v17 v18 v19 hi
    have hi3 : i < 343 := by omega
    have c : ¬ nI 343 ≤ nI i := nI_ge hi3 (by decide)
    have hd0 : ∀ w10 w12, jE n rX2_rhythmOf 62 [v0, v1, v2, v3, .long (lZ P), .null, .long (lZ Q), .null, .long (lZ R), .null, .long w10, .null, .int w12, .int (nI i), v14, v15, v16, v17, v18, v19] [] I L = jE n rX2_rhythmOf 70 [v0, v1, v2, v3, .long (lZ P), .null, .long (lZ Q), .null, .long (lZ R), .null, .long w10, .null, .int w12, .int (nI i), v14, v15, v16, v17, v18, v19] [] I L := by
      intro w10 w12
      simp only [eX2_rhythmOf_62, c, if_false]
    rw [hd0, c_rh_a n I L hi3]
    obtain ⟨h1, h2, h3⟩ := ri7 hi3
    have hv := rV_rg hP hQ hR hi3
    have ev : lZ (((ria i : Int) - 3) * P + ((rib i : Int) - 3) * Q + ((ric i : Int) - 3) * R) = lZ (rV P Q R i) := rfl
    have el : (if 0 < lZ (rV P Q R i) then lZ (rV P Q R i) else -lZ (rV P Q R i)) = lZ (roff P Q R i) := labs (by omega)
    have hof : 0 ≤ roff P Q R i ∧ roff P Q R i ≤ 9000000000000 := by unfold roff; omega
    have ih2 := ih (i + 1)
    by_cases hl : rld i
    · cases e : amin (roff P Q R) rld i with
      | none =>
        have hn : ¬ lN 9223372036854775807 ≤ lZ (roff P Q R i) := by
          rw [lN_lZ, lZ_le ⟨by decide, by decide⟩ ⟨by omega, by omega⟩]
          omega
        rw [amin_0 hl e] at ih2
        simp only [eX2_rhythmOf_146, eX2_rhythmOf_178, eX2_rhythmOf_186, eX2_rhythmOf_212, d3l h1, d3l h2, d3l h3, lZ_mul, lZ_add, ev, el, hl, if_true, n10, if_false, rl1, hn, nI_add, rc_e]
        exact ih2 _ _ _ _ _ _ (by omega)
      | some j =>
        have hj := (amin_s e).1
        have hvj := rV_rg hP hQ hR (show j < 343 by omega)
        have hoj : 0 ≤ roff P Q R j ∧ roff P Q R j ≤ 9000000000000 := by unfold roff; omega
        have cm : lZ (roff P Q R j) ≤ lZ (roff P Q R i) ↔ roff P Q R j ≤ roff P Q R i := lZ_le ⟨by omega, by omega⟩ ⟨by omega, by omega⟩
        by_cases hlt : roff P Q R i < roff P Q R j
        · have hn : ¬ lZ (roff P Q R j) ≤ lZ (roff P Q R i) := fun q => by have := cm.mp q; omega
          rw [amin_l hl e hlt] at ih2
          simp only [eX2_rhythmOf_146, eX2_rhythmOf_178, eX2_rhythmOf_186, eX2_rhythmOf_212, d3l h1, d3l h2, d3l h3, lZ_mul, lZ_add, ev, el, hl, if_true, n10, if_false, rl1, hn, nI_add, rc_e]
          exact ih2 _ _ _ _ _ _ (by omega)
        · have hn : lZ (roff P Q R j) ≤ lZ (roff P Q R i) := cm.mpr (by omega)
          rw [amin_g hl e hlt] at ih2
          simp only [eX2_rhythmOf_146, eX2_rhythmOf_178, eX2_rhythmOf_186, eX2_rhythmOf_212, d3l h1, d3l h2, d3l h3, lZ_mul, lZ_add, ev, el, hl, if_true, n10, if_false, rl1, hn, nI_add]
          exact ih2 _ _ _ _ _ _ (by omega)
    · rw [amin_n hl] at ih2
      simp only [eX2_rhythmOf_146, eX2_rhythmOf_178, eX2_rhythmOf_186, eX2_rhythmOf_212, d3l h1, d3l h2, d3l h3, lZ_mul, lZ_add, ev, el, hl, if_true, n00t, if_false, nI_add]
      exact ih2 _ _ _ _ _ _ (by omega)
